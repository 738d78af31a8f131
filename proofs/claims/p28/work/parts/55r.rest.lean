/-! a section's rest changes; its states are cleared -/
section REST
variable {G : GT} {E B bx m s c : Nat} {ad : Nat → Nat} {S : ST} {A : AT} {C : CT} {T : MT} {v : Int64}
theorem uJ_k {k j x : Nat} {v : Int64} (h : x ≠ k) : (uJ S k j v).2.1 x = S.2.1 x := funext fun _ => up2_k _ _ _ _ h
theorem index_of {row a n e k : Nat} (hrow : C.1 row = 7) (hc : C.2.2.2.2.1 96 row 0 = some a) (he : C.2.2.1 97 row 0 = i32 e) (ha : C.1 a = 21) (hn : C.2.1 a = n) (hen : e = 0 ∨ e < n) (hk : k < n) (h64 : n ≤ 64) : c_Row_index row (i32 k) C = some (i32 ((e + k) % n)) := by
  have e1 : cgI C row 6 1 = some (i32 e) := (if_pos hrow).trans (congrArg some he)
  have e2 : cgA C row 6 0 = some (some a) := (if_pos hrow).trans (congrArg some hc)
  unfold c_Row_index
  rw [e1, obd_some, e2, obd_some, obd_some, cal_of (n := n) (by rw [ha]; decide) hn, obd_some, i32_add]
  by_cases h : e + k < n
  · rw [if_pos (by rw [i32_lt (by omega) (by omega)]; exact h), Nat.mod_eq_of_lt h]
  · rw [if_neg (by rw [i32_lt (by omega) (by omega)]; exact h), obd_some, obd_some, cal_of (n := n) (by rw [ha]; decide) hn, obd_some, i32_sub (by omega), Nat.mod_eq_sub_mod (by omega), Nat.mod_eq_of_lt (by omega)]
theorem put_of {row a n e k : Nat} (hrow : C.1 row = 7) (hc : C.2.2.2.2.1 96 row 0 = some a) (he : C.2.2.1 97 row 0 = i32 e) (ha : C.1 a = 21) (hn : C.2.1 a = n) (hen : e = 0 ∨ e < n) (hk : k < n) (h64 : n ≤ 64) : c_Row_put row (i32 k) v C = some (csJ C 900 a ((e + k) % n) v) := by
  have e2 : cgA C row 6 0 = some (some a) := (if_pos hrow).trans (congrArg some hc)
  have := Nat.mod_lt (e + k) (show 0 < n by omega)
  unfold c_Row_put
  rw [if_neg (i32_nonneg (by omega)), e2, obd_some, obd_some, cal_of (n := n) (by rw [ha]; decide) hn, obd_some, if_neg (by rw [i32_le (by omega) (by omega)]; omega), obd_some, cob_of (ci := 6) hrow, jgd_true, index_of hrow hc he ha hn hen hk h64, obd_some, obd_some, cqJ_of ha hn (by omega) (by omega), obd_some]
theorem rest_put (h : RCs S A C s) : c_Row_put (A 121 s) 0 v C = some (csJ C 900 (A 98 s) 0 v) := by
  obtain ⟨-, r2, r3, r4, r5, r6, -⟩ := h.2.1.2.2.1
  have e := put_of (v := v) (k := 0) r2 r3 (show C.2.2.1 97 (A 121 s) 0 = i32 0 from r4) r5 r6 (Or.inl rfl) (by decide) (by decide)
  exact e
theorem jj_rest (J : JJ G E B bx m ad S A C T) (hs : s < S.1 1 0) (v : Int64) (h2 : S.1 3 s < 2 → v = 0) : JJ G E B bx m ad (uJ S 15 s v) A (csJ C 900 (A 98 s) 0 v) (tsJ T 15 s v) := by
  have hd := ds_of (jj_s J hs)
  have hw := ws_of (jj_ws J hs)
  have e13 : (uJ S 15 s v).2.1 13 = S.2.1 13 := uJ_k (by decide)
  have e15 : (uJ S 15 s v).2.1 15 s = v := up2_same _ _ _ _
  have n96 : A 96 s ≠ A 98 s := ax_t J.2.1 (show VA S 98 s from hs) (show VA S 96 s from hs) (Or.inl (by decide))
  refine jj_sec J hs ⟨fun _ _ _ => rfl, fun k j h1 h2 => ?_, fun _ _ _ => rfl⟩ ⟨rfl, rfl, fun _ _ _ _ _ => rfl, fun k a j h1 h2 => ?_, rfl⟩ ⟨⟨hd.1.1, ?_⟩, hd.2.1, hd.2.2.1, hd.2.2.2.1, ?_⟩ ?_ (rt_uJ (jj_rt J) (by decide))
  · show up2 S.2.1 15 s v k j = _
    unfold up2
    rw [if_neg h1]
  · simp only [csJ, up3]
    rw [if_neg (fun q => h1 ⟨q.1, q.2.1⟩)]
  · rw [e15]; simp [csJ, up3]
  · rw [e13]
    exact ring_cong hd.2.2.2.2 rfl rfl (funext fun j => by simp [csJ, up3, n96]) (fun _ _ => rfl)
  · unfold Ws
    rw [e13, e15]
    exact ⟨h2, hw.2⟩
def clS (S : ST) (s : Nat) : ST := (fun k j => if k = 14 ∧ j = s then 0 else S.1 k j, fun k j => if k = 13 ∧ 64 * s ≤ j ∧ j < 64 * s + 64 then 0 else S.2.1 k j, S.2.2)
theorem clS_k {k : Nat} (h : k ≠ 14) : (clS S s).1 k = S.1 k := by
  funext j
  simp only [clS, h, false_and, if_false]
theorem clS_14s : (clS S s).1 14 s = 0 := by simp [clS]
theorem clS_J {k : Nat} (h : k ≠ 13) : (clS S s).2.1 k = S.2.1 k := by
  funext j
  simp only [clS, h, false_and, if_false]
theorem clS_13s {j : Nat} (h : j < 64) : (clS S s).2.1 13 (64 * s + j) = 0 := by
  have h1 : 64 * s ≤ 64 * s + j := by omega
  simp [clS, h, h1]
theorem clS_rln {x : Nat} : rln (clS S s) x = rln S x := by
  unfold rln
  rw [clS_k (k := 2) (by decide)]
  rfl
theorem clS_vso {x : Nat} : vso (clS S s) x = vso S x := by
  unfold vso
  rw [clS_k (k := 2) (by decide), clS_k (k := 3) (by decide)]
theorem cl_sl : clS (uJ S 15 s 0) s = slS S s := by
  refine Prod.ext rfl (Prod.ext (funext fun k => funext fun j => ?_) rfl)
  show (if k = 13 ∧ 64 * s ≤ j ∧ j < 64 * s + 64 then 0 else up2 S.2.1 15 s 0 k j) = (if k = 15 ∧ j = s then 0 else if k = 13 ∧ 64 * s ≤ j ∧ j < 64 * s + 64 then 0 else S.2.1 k j)
  unfold up2
  by_cases h : k = 15 ∧ j = s
  · rw [if_pos h, if_pos h]
    exact ite_self _
  · rw [if_neg h, if_neg h]
theorem jj_clear (J : JJ G E B bx m ad S A C T) (hs : s < S.1 1 0) : JJ G E B bx m ad (clS S s) A (fiC C (A 96 s) 0 (rln S s) 0) (tOf (clS S s)) := by
  have hd := ds_of (jj_s J hs)
  have hw := ws_of (jj_ws J hs)
  have hle := rln_le J hs
  have n98 : A 98 s ≠ A 96 s := ax_t J.2.1 (show VA S 96 s from hs) (show VA S 98 s from hs) (Or.inl (by decide))
  refine jj_sec J hs ⟨fun k j hq => ?_, fun k j h1 h2 => ?_, fun _ _ _ => rfl⟩ ⟨rfl, rfl, fun _ _ _ _ _ => rfl, fun k a j h1 h2 => ?_, rfl⟩ ⟨⟨hd.1.1, ?_⟩, hd.2.1, hd.2.2.1, ?_, ?_⟩ ?_ (rt_tOf _)
  · simp only [clS]
    rw [if_neg (fun z => hq ⟨Or.inl z.1, z.2⟩)]
  · simp only [clS]
    rw [if_neg h2]
  · simp only [fiC]
    rw [if_neg (fun z => h2 ⟨z.1, z.2.1⟩)]
  · rw [clS_J (by decide), ← hd.1.2]
    simp [fiC, n98]
  · rw [clS_k (by decide)]; exact hd.2.2.2.1
  · rw [clS_rln, clS_k (k := 70) (by decide), clS_14s]
    have r := ring_clear hd.2.2.2.2
    refine ⟨r.1, r.2.1, r.2.2.1, Or.inl rfl, fun y hy => (r.2.2.2.2 y hy).trans ?_⟩
    have := Nat.mod_lt (0 + y) (show 0 < rln S s by omega)
    rw [clS_13s (by omega)]
  · unfold Ws
    rw [clS_rln, clS_vso, clS_14s, clS_k (k := 2) (by decide), clS_k (k := 3) (by decide), clS_k (k := 70) (by decide), clS_J (k := 15) (by decide)]
    refine ⟨hw.1, Or.inl rfl, fun q => ⟨rfl, (hw.2.2.1 q).2⟩, fun y hy => by rw [clS_13s hy]; exact vb_zero _, fun y hy _ => clS_13s hy, fun q => ?_⟩
    rw [show 64 * s = 64 * s + 0 from rfl, clS_13s (by decide)]
    have := hw.2.2.2.2.2 q
    exact ⟨by decide, by
      have h1 := this.1
      have h2 := this.2
      rw [Int64.le_iff_toInt_le] at h1
      rw [Int64.lt_iff_toInt_lt] at h2 ⊢
      exact Int.lt_of_le_of_lt h1 h2⟩
/-! a chain's rows: two of each section, one of each loop -/
theorem i32_halves : ∀ n, n < 24 → i32 n >>> ((1 : Int32) &&& 31) = i32 (n / 2) ∧ i32 n &&& (1 : Int32) = i32 (n % 2) := by decide
theorem two_i32 (n : Nat) : (2 : Int32) * i32 n = i32 (2 * n) := by rw [show (2 : Int32) = i32 2 from rfl, i32_mul]
theorem rowCount_of (J : JJ G E B bx m ad S A C T) (hc : c < S.1 16 0) : c_Chain_rowCount (A 1 c) C = some (i32 (2 * S.1 17 c + S.1 20 c)) := by
  have hr := jj_c J hc
  unfold c_Chain_rowCount
  rw [rc_size hr, obd_some, rc_loopCount hr, obd_some, two_i32, i32_add]
theorem fiC_one {a : Nat} {v : Int64} : fiC C a 0 1 v = csJ C 900 a 0 v := by
  rw [← fiC_step (show 0 < 1 by decide), fiC_nil]
end REST
