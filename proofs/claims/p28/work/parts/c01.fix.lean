/-! FIXED: what a sum comes to, told out -/
/-- the coupling, with the class alone in view -/
abbrev JF (G : GT) (E B bx m : Nat) (ad : Nat → Nat) (S : ST) (A : AT) (C : CT) : Prop := JJ G E B bx m ad S A C (tOf S)
def asu (how : Nat) (rest x : Int64) : Int64 := if how = 2 then x + rest else x
def aq (how : Nat) (rest x : Int64) : Int64 := g_Shorts_rounded (asu how rest x) (i32 how)
def are (how : Nat) (rest x : Int64) : Int64 := if how = 2 then asu how rest x - aq how rest x * 16384 else rest
def aov (q : Int64) (ov : Int32) : Int32 := if g_Shorts_isShort q = true then ov else ov + 1
def ay (lim : Nat) (q : Int64) : Int64 := if g_Shorts_isShort q = true then q else g_Shorts_limited q (i32 lim)
/-- a section as an account has it: its cells, its place, its rest, its overs, its touches -/
abbrev AS : Type := (Nat → Int64) × Nat × Int64 × Int32 × Int32
def vS (S : ST) (s : Nat) : AS := (fun j => if j < 64 then S.2.1 13 (64 * s + j) else 0, S.1 14 s, S.2.1 15 s, S.2.2 11 s, S.2.2 12 s)
/-- a sum is cut -/
def acut (how lim : Nat) (σ : AS) (x : Int64) : Int64 × AS := (ay lim (aq how σ.2.2.1 x), σ.1, σ.2.1, are how σ.2.2.1 x, aov (aq how σ.2.2.1 x) σ.2.2.2.1, σ.2.2.2.2)
section FIX
variable {G : GT} {E B bx m s : Nat} {ad : Nat → Nat} {S S' : ST} {A : AT} {C C' : CT} {T : MT}
theorem jf_of (J : JJ G E B bx m ad S A C T) : JF G E B bx m ad S A C := jj_T J (rt_tOf S)
theorem settled32 (J : JJ G E B bx m ad S A C T) (hs : s < S.1 1 0) (z : Int64) : c_Section_settled_32 (A 7 s) z C = if S.1 5 s = 2 then c_Section_settled_67 (A 7 s) (g_Shorts_rounded z (i32 (S.1 5 s))) (csJ C 900 (A 98 s) 0 (z - g_Shorts_rounded z (i32 (S.1 5 s)) * 16384)) else c_Section_settled_67 (A 7 s) (g_Shorts_rounded z (i32 (S.1 5 s))) C := by
  have hr := jj_s J hs
  have h5 := (jj_ws J hs).2.1.1
  unfold c_Section_settled_32
  rw [rs_rounding hr, obd_some, obd_some]
  by_cases h : S.1 5 s = 2
  · rw [if_pos (by rw [h]; rfl), if_pos h, rs_rest hr, obd_some, obd_some, cob_of (ci := 6) hr.2.1.2.2.1.2.1, jgd_true, rest_put hr, obd_some]
  · rw [if_neg (show ¬ i32 (S.1 5 s) = 2 from i32_ne (b := 2) (by omega) (by decide) h), if_neg h]
theorem settled67 (J : JF G E B bx m ad S A C) (hs : s < S.1 1 0) (q : Int64) : ∃ S' C', c_Section_settled_67 (A 7 s) q C = some (ay (S.1 6 s) q, C') ∧ JF G E B bx m ad S' A C' ∧ S'.1 = S.1 ∧ S'.2.1 = S.2.1 ∧ (∀ k j, ¬ (k = 11 ∧ j = s) → S'.2.2 k j = S.2.2 k j) ∧ S'.2.2 11 s = aov q (S.2.2 11 s) := by
  have hr := jj_s J hs
  unfold c_Section_settled_67 ay aov
  by_cases hv : g_Shorts_isShort q = true
  · rw [if_pos hv, if_pos hv, if_pos hv]
    exact ⟨S, C, rfl, J, rfl, rfl, fun _ _ _ => rfl, rfl⟩
  · rw [if_neg hv, if_neg hv, if_neg hv]
    have J2 := jj_overs J hs (S.2.2 11 s + 1)
    have hr2 := jj_s J2 hs
    rw [rs_overs hr, obd_some, cpI_of (ci := 7) (rs_tag hr) (by decide) (by decide), obd_some]
    have el : cgI (csI C (16 * 7 + 10) (A 7 s) 0 (S.2.2 11 s + 1)) (A 7 s) 7 8 = some (i32 (S.1 6 s)) := (rs_limit hr2 : cgI (csI C 122 (A 7 s) 0 (S.2.2 11 s + 1)) (A 7 s) 7 8 = some (i32 ((uI S 11 s (S.2.2 11 s + 1)).1 6 s)))
    rw [el, obd_some]
    exact ⟨uI S 11 s (S.2.2 11 s + 1), _, rfl, jf_of J2, rfl, rfl, fun k j hk => (if_neg hk : up2 S.2.2 11 s (S.2.2 11 s + 1) k j = S.2.2 k j), up2_same _ _ _ _⟩
theorem ay_vb {l : Nat} (hl : l ≤ 1) (q : Int64) : vb 2 (ay l q) := by
  unfold ay
  by_cases hv : g_Shorts_isShort q = true
  · rw [if_pos hv]; exact (isShort_iff q).mp hv
  · rw [if_neg hv]; exact (limited_ref q hl).2
theorem settled_fix (J : JF G E B bx m ad S A C) (hs : s < S.1 1 0) (hso : S.1 3 s = 2) (x : Int64) : ∃ S' C', c_Section_settled (A 7 s) x C = some ((acut (S.1 5 s) (S.1 6 s) (vS S s) x).1, C') ∧ JF G E B bx m ad S' A C' ∧ vS S' s = (acut (S.1 5 s) (S.1 6 s) (vS S s) x).2 ∧ Sl s S S' ∧ vb 2 (acut (S.1 5 s) (S.1 6 s) (vS S s) x).1 := by
  have hr := jj_s J hs
  have h5 := (jj_ws J hs).2.1.1
  have h6 := (jj_ws J hs).2.1.2
  have hv := ay_vb h6 (aq (S.1 5 s) (S.2.1 15 s) x)
  by_cases h : S.1 5 s = 2
  · have J1 := jf_of (jj_rest J hs (asu (S.1 5 s) (S.2.1 15 s) x - aq (S.1 5 s) (S.2.1 15 s) x * 16384) (fun q => absurd q (by omega)))
    obtain ⟨S', C', u1, u2, u3, u4, u5, u6⟩ := settled67 J1 hs (aq (S.1 5 s) (S.2.1 15 s) x)
    have e15 : S'.2.1 15 s = are (S.1 5 s) (S.2.1 15 s) x := by
      rw [u4]
      show up2 S.2.1 15 s _ 15 s = _
      rw [up2_same]
      unfold are
      rw [if_pos h]
    refine ⟨S', C', ?_, u2, ?_, ⟨u3, fun k j q => by rw [u4]; exact (if_neg q : up2 S.2.1 15 s _ k j = S.2.1 k j), u5⟩, hv⟩
    · unfold c_Section_settled
      rw [rs_sort hr, obd_some, hso, if_pos (by rfl), rs_rounding hr, obd_some, if_pos (by rw [h]; rfl), rs_rest hr, obd_some, obd_some, cob_of (ci := 6) hr.2.1.2.2.1.2.1, jgd_true, rest_at hr, obd_some, settled32 J hs, if_pos h]
      have ea : asu (S.1 5 s) (S.2.1 15 s) x = x + S.2.1 15 s := if_pos h
      unfold aq at u1
      rw [ea] at u1
      show _ = some (ay (S.1 6 s) (aq (S.1 5 s) (S.2.1 15 s) x), C')
      unfold aq
      rw [ea]
      exact u1
    · unfold vS acut
      dsimp only
      refine Prod.ext (funext fun j => ?_) (Prod.ext (congrFun (congrFun u3 14) s) (Prod.ext ?_ (Prod.ext u6 ?_)))
      · have e13 : S'.2.1 13 (64 * s + j) = S.2.1 13 (64 * s + j) := by
          rw [u4]
          exact up2_k S.2.1 s (asu (S.1 5 s) (S.2.1 15 s) x - aq (S.1 5 s) (S.2.1 15 s) x * 16384) (64 * s + j) (show (13 : Nat) ≠ 15 by decide)
        show (if j < 64 then S'.2.1 13 (64 * s + j) else 0) = _
        rw [e13]
      · exact e15
      · exact u5 12 s (fun q => absurd q.1 (by decide))
  · obtain ⟨S', C', u1, u2, u3, u4, u5, u6⟩ := settled67 J hs (aq (S.1 5 s) (S.2.1 15 s) x)
    refine ⟨S', C', ?_, u2, ?_, ⟨u3, fun k j q => by rw [u4], u5⟩, hv⟩
    · unfold c_Section_settled
      rw [rs_sort hr, obd_some, hso, if_pos (by rfl), rs_rounding hr, obd_some, if_neg (show ¬ i32 (S.1 5 s) = 2 from i32_ne (b := 2) (by omega) (by decide) h), settled32 J hs, if_neg h]
      have ea : asu (S.1 5 s) (S.2.1 15 s) x = x := if_neg h
      unfold aq at u1
      rw [ea] at u1
      show _ = some (ay (S.1 6 s) (aq (S.1 5 s) (S.2.1 15 s) x), C')
      unfold aq
      rw [ea]
      exact u1
    · unfold vS acut are
      dsimp only
      rw [if_neg h, u3, u4]
      exact Prod.ext rfl (Prod.ext rfl (Prod.ext rfl (Prod.ext u6 (u5 12 s (fun q => absurd q.1 (by decide))))))
/-- a cell is put, a ring pushed on -/
def pu0 (σ : AS) (y : Int64) : AS := (fun j => if j = 0 then y else σ.1 j, σ.2)
def pur (σ : AS) (n : Nat) (y : Int64) : AS := (fun j => if j = σ.2.1 then y else σ.1 j, (σ.2.1 + 1) % n, σ.2.2)
def tou (σ : AS) : AS := (σ.1, σ.2.1, σ.2.2.1, σ.2.2.2.1, σ.2.2.2.2 + 1)
theorem put_fix (J : JF G E B bx m ad S A C) (hs : s < S.1 1 0) (hso : S.1 3 s = 2) (hr : ringy (S.1 2 s) = false) (h12 : S.1 2 s ≠ 12) (hk : 0 < rln S s) {v : Int64} (hv : vb 2 v) : ∃ S' C', c_Row_put (A 118 s) (0 : Int32) v C = some C' ∧ JF G E B bx m ad S' A C' ∧ vS S' s = pu0 (vS S s) v ∧ Dys S S' s := by
  have h14 := ((jj_ws J hs).2.2.2.2.2.2.2.1 hr).1
  have hvs : vso S s = 2 := by rw [vso_ne h12, hso]
  obtain ⟨u1, u2⟩ := jj_put J hs (k := 0) hk (v := v) (by rw [hvs]; exact hv) (fun q => absurd q h12)
  have e0 : (S.1 14 s + 0) % rln S s = 0 := by rw [h14]; exact Nat.mod_eq_of_lt hk
  rw [e0] at u2
  refine ⟨_, _, u1, jf_of u2, ?_, fun _ _ _ => rfl, fun k j h1 h2 => ?_, fun _ _ _ => rfl⟩
  · unfold vS pu0
    dsimp only
    refine Prod.ext (funext fun j => ?_) (Prod.ext rfl (Prod.ext ?_ rfl))
    · show (if j < 64 then up2 S.2.1 13 (64 * s + 0) v 13 (64 * s + j) else 0) = (if j = 0 then v else if j < 64 then S.2.1 13 (64 * s + j) else 0)
      by_cases h : j = 0
      · subst h; rw [if_pos (by decide), if_pos rfl, up2_same]
      · rw [if_neg h, up2_j _ _ _ (by omega)]
    · exact up2_k S.2.1 (64 * s + 0) v s (show (15 : Nat) ≠ 13 by decide)
  · show up2 S.2.1 13 (64 * s + 0) v k j = _
    unfold up2
    rw [if_neg (fun q => h2 ⟨q.1, by omega, by omega⟩)]
theorem push_fix (J : JF G E B bx m ad S A C) (hs : s < S.1 1 0) (hso : S.1 3 s = 2) (hr : ringy (S.1 2 s) = true) {v : Int64} (hv : vb 2 v) : ∃ S' C', c_Row_push (A 118 s) v C = some C' ∧ JF G E B bx m ad S' A C' ∧ vS S' s = pur (vS S s) (rln S s) v ∧ Dys S S' s := by
  obtain ⟨r1, r2, r3, r4, r5, r6⟩ := ring_r J hs hr
  obtain ⟨u1, u2⟩ := jj_push J hs hr (v := v) (by rw [hso]; exact hv)
  refine ⟨_, _, u1, jf_of u2, ?_, pu_dys' (by omega)⟩
  unfold vS pur
  dsimp only
  refine Prod.ext (funext fun j => ?_) (Prod.ext ?_ (Prod.ext ?_ rfl))
  · show (if j < 64 then up2 S.2.1 13 (64 * s + S.1 14 s) v 13 (64 * s + j) else 0) = (if j = S.1 14 s then v else if j < 64 then S.2.1 13 (64 * s + j) else 0)
    by_cases h : j = S.1 14 s
    · subst h; rw [if_pos (by omega), if_pos rfl, up2_same]
    · rw [if_neg h, up2_j _ _ _ (by omega)]
  · exact up2_same _ _ _ _
  · exact up2_k S.2.1 (64 * s + S.1 14 s) v s (show (15 : Nat) ≠ 13 by decide)
theorem touch_fix (J : JF G E B bx m ad S A C) (hs : s < S.1 1 0) : ∃ S' C', cpI C (A 7 s) 7 11 (S.2.2 12 s + 1) = some C' ∧ JF G E B bx m ad S' A C' ∧ vS S' s = tou (vS S s) ∧ Dys S S' s := by
  have hr := jj_s J hs
  refine ⟨_, _, cpI_of (ci := 7) (rs_tag hr) (by decide) (by decide), jf_of (jj_touch J hs (S.2.2 12 s + 1)), ?_, fun _ _ _ => rfl, fun _ _ _ _ => rfl, fun k j h => ?_⟩
  · unfold vS tou
    dsimp only
    refine Prod.ext rfl (Prod.ext rfl (Prod.ext rfl (Prod.ext ?_ ?_)))
    · exact up2_k S.2.2 s (S.2.2 12 s + 1) s (show (11 : Nat) ≠ 12 by decide)
    · exact up2_same _ _ _ _
  · show up2 S.2.2 12 s _ k j = _
    unfold up2
    rw [if_neg (fun q => h ⟨Or.inr q.1, q.2⟩)]
end FIX
