/-! THE LAW'S LOOP, over the class's heap and the reference's state (printed by wip/whole/law.py) -/
def ljoin (x y : Int32) : Int64 := ((Int32.toInt64 x) <<< (Int32.toInt64 (32 : Int32) &&& 63)) ||| ((Int32.toInt64 y) &&& (4294967295 : Int64))
def lsep (m : Nat) (ad : Nat → Nat) (C : CT) : Prop := C.1 m = 0 ∧ ∀ k ∈ marrs, C.1 (ad k) = 0
theorem ovC_ov {m : Nat} {ad : Nat → Nat} {C : CT} {T : MT} {hS : Nat → Option JCell} (h : lsep m ad C) : ovC C (ov m ad T hS) = ov m ad T (ovC C hS) := by
  funext a
  unfold ovC ov
  by_cases e : C.1 a = 0
  · simp [e]
  · have h1 : a ≠ m := fun q => e (by rw [q]; exact h.1)
    have h2 : marrs.find? (fun k => ad k == a) = none := by
      rw [List.find?_eq_none]
      intro k hk q
      have := h.2 k hk
      rw [beq_iff_eq.mp q] at this
      exact e this
    simp [e, h1, h2]
/-- the ground of the law's run: the script, the static rows, where the reference lies -/
def LG (B L scr m : Nat) (ad : Nat → Nat) (SA : Nat → Nat) (xs : Nat → Int32) (hS : Nat → Option JCell) : Prop :=
  L ≤ 3584 ∧ scr < B ∧ (∃ f, hS scr = some (.inr (.int, L, f)) ∧ ∀ j, j < L → f j = .int (xs j)) ∧ CS B SA hS ∧ MA B m ad
section LAW
variable {B L scr m : Nat} {ad : Nat → Nat} {SA : Nat → Nat} {xs : Nat → Int32} {hS : Nat → Option JCell}
theorem lg_low (G : LG B L scr m ad SA xs hS) (T : MT) {a : Nat} (ha : a < B) : ov m ad T hS a = hS a := by
  unfold ov
  rw [if_neg (by have := G.2.2.2.2.1; omega)]
  have h2 : marrs.find? (fun k => ad k == a) = none := by
    rw [List.find?_eq_none]
    intro k hk q
    have := (G.2.2.2.2.2.1 k hk).1
    rw [beq_iff_eq.mp q] at this
    omega
  rw [h2]
theorem lg_CS (G : LG B L scr m ad SA xs hS) (T : MT) : CS B SA (ov m ad T hS) := fun k hk => by
  obtain ⟨h1, n, f, h2, h3⟩ := G.2.2.2.1 k hk
  exact ⟨h1, n, f, (lg_low G T h1).trans h2, h3⟩
theorem lg_scr (G : LG B L scr m ad SA xs hS) (T : MT) {C : CT} (hw : CW B C) : ovC C (ov m ad T hS) scr = hS scr := by
  have h : C.1 scr = 0 := by
    by_cases e : C.1 scr = 0
    · exact e
    · exact absurd (hw.2.1 _ e).1 (by have := G.2.1; omega)
  unfold ovC
  rw [if_pos h]
  exact lg_low G T G.2.1
theorem lg_len (G : LG B L scr m ad SA xs hS) (T : MT) {C : CT} (hw : CW B C) : jal (ovC C (ov m ad T hS)) scr = some (Int32.ofNat L) := by
  obtain ⟨f, h1, h2⟩ := G.2.2.1
  unfold jal
  rw [lg_scr G T hw, h1]
theorem lg_rd (G : LG B L scr m ad SA xs hS) (T : MT) {C : CT} (hw : CW B C) {i j : Nat} (h : i + j < L) : jaI (ovC C (ov m ad T hS)) scr (Int32.ofNat i + Int32.ofNat j) = some (xs (i + j)) := by
  obtain ⟨f, h1, h2⟩ := G.2.2.1
  have h3 : (Int32.ofNat i + Int32.ofNat j) = Int32.ofNat (i + j) := (Int32.ofNat_add _ _).symm
  have hl := G.1
  have h4 : (Int32.ofNat (i + j)).toInt = ((i + j : Nat) : Int) := Int32.toInt_ofNat_small (by omega)
  have h5 : (Int32.ofNat (i + j)).toNatClampNeg = i + j := by
    show (Int32.ofNat (i + j)).toInt.toNat = _
    rw [h4]; rfl
  unfold jaI jaV
  rw [lg_scr G T hw, h1, h3]
  dsimp only
  rw [if_pos ⟨rfl, fun q => by
    rcases q with q | q
    · rw [Int32.lt_iff_toInt_lt, h4] at q
      have : (0 : Int32).toInt = 0 := rfl
      omega
    · rw [h5] at q; omega⟩, h5]
  show jvI (f (i + j)) = _
  rw [h2 _ h]
  rfl
theorem lg_obj {C : CT} {T : MT} (hs : lsep m ad C) : jobC 9 (ovC C (ov m ad T hS) m) = true := by
  rw [ovC_ov hs]; exact ov_job
def ls_0 (N M bx : Nat) (I I' : CT → MT → Prop) : Prop := ∀ (C : CT) (T : MT) (a1 : Int32) (a2 : Int32) (a3 : Int32), I C T → ∃ (r : Int32) (C1 : CT) (T1 : MT), c_B_section bx a1 a2 a3 C = some (r, C1) ∧ h_R_section N a1 a2 a3 T = some (r, T1) ∧ I' C1 T1
def ls_1 (N M bx : Nat) (I I' : CT → MT → Prop) : Prop := ∀ (C : CT) (T : MT) (a1 : Int32) (a2 : Int32) (a3 : Int64), I C T → ∃ (r : Bool) (C1 : CT) (T1 : MT), c_B_coefficient bx a1 a2 a3 C = some (r, C1) ∧ h_R_coefficient a1 a2 a3 T = some (r, T1) ∧ I' C1 T1
def ls_2 (N M bx : Nat) (I I' : CT → MT → Prop) : Prop := ∀ (C : CT) (T : MT) (a1 : Int32) (a2 : Int32) (a3 : Int32) (a4 : Int32), I C T → ∃ (r : Bool) (C1 : CT) (T1 : MT), c_B_ratio bx a1 a2 a3 a4 C = some (r, C1) ∧ h_R_ratio a1 a2 a3 a4 T = some (r, T1) ∧ I' C1 T1
def ls_3 (N M bx : Nat) (I I' : CT → MT → Prop) : Prop := ∀ (C : CT) (T : MT) (a1 : Int32) (a2 : Int32) (a3 : Int32), I C T → ∃ (r : Bool) (C1 : CT) (T1 : MT), c_B_rule bx a1 a2 a3 C = some (r, C1) ∧ h_R_rule a1 a2 a3 T = some (r, T1) ∧ I' C1 T1
def ls_4 (N M bx : Nat) (I I' : CT → MT → Prop) : Prop := ∀ (C : CT) (T : MT), I C T → ∃ (r : Int32) (C1 : CT) (T1 : MT), c_B_chain bx C = some (r, C1) ∧ h_R_chain T = some (r, T1) ∧ I' C1 T1
def ls_5 (N M bx : Nat) (I I' : CT → MT → Prop) : Prop := ∀ (C : CT) (T : MT) (a1 : Int32) (a2 : Int32), I C T → ∃ (r : Int32) (C1 : CT) (T1 : MT), c_B_add N bx a1 a2 C = some (r, C1) ∧ h_R_add N a1 a2 T = some (r, T1) ∧ I' C1 T1
def ls_6 (N M bx : Nat) (I I' : CT → MT → Prop) : Prop := ∀ (C : CT) (T : MT) (a1 : Int32) (a2 : Int32) (a3 : Int32) (a4 : Int32) (a5 : Int64), I C T → ∃ (r : Int32) (C1 : CT) (T1 : MT), c_B_loop N bx a1 a2 a3 a4 a5 C = some (r, C1) ∧ h_R_loop N a1 a2 a3 a4 a5 T = some (r, T1) ∧ I' C1 T1
def ls_7 (N M bx : Nat) (I I' : CT → MT → Prop) : Prop := ∀ (C : CT) (T : MT) (a1 : Int32) (a2 : Int32), I C T → ∃ (r : Bool) (C1 : CT) (T1 : MT), c_B_within N bx a1 a2 C = some (r, C1) ∧ h_R_within N a1 a2 T = some (r, T1) ∧ I' C1 T1
def ls_8 (N M bx : Nat) (I I' : CT → MT → Prop) : Prop := ∀ (C : CT) (T : MT) (a1 : Int32) (a2 : Int64), I C T → ∃ (r : Int32) (C1 : CT) (T1 : MT), c_B_feed N M bx a1 a2 C = some (r, C1) ∧ h_R_feed N a1 a2 T = some (r, T1) ∧ I' C1 T1
def ls_9 (N M bx : Nat) (I I' : CT → MT → Prop) : Prop := ∀ (C : CT) (T : MT) (a1 : Int32) (a2 : Int32) (a3 : Int32), I C T → ∃ (r : Int32) (C1 : CT) (T1 : MT), c_B_run N M bx a1 a2 a3 C = some (r, C1) ∧ h_R_run N a1 a2 a3 T = some (r, T1) ∧ I' C1 T1
def ls_10 (N M bx : Nat) (I I' : CT → MT → Prop) : Prop := ∀ (C : CT) (T : MT) (a1 : Int32) (a2 : Int32), I C T → ∃ (r : Int64) (C1 : CT) (T1 : MT), (c_B_output bx a1 a2 C = some r ∧ C = C1) ∧ (h_R_output a1 a2 T = some r ∧ T = T1) ∧ I' C1 T1
def ls_11 (N M bx : Nat) (I I' : CT → MT → Prop) : Prop := ∀ (C : CT) (T : MT) (a1 : Int32) (a2 : Int32), I C T → ∃ (r : Int64) (C1 : CT) (T1 : MT), (c_B_state bx a1 a2 C = some r ∧ C = C1) ∧ (h_R_state a1 a2 T = some r ∧ T = T1) ∧ I' C1 T1
def ls_12 (N M bx : Nat) (I I' : CT → MT → Prop) : Prop := ∀ (C : CT) (T : MT) (a1 : Int32) (a2 : Int32), I C T → ∃ (r : Int32) (C1 : CT) (T1 : MT), (c_B_about bx a1 a2 C = some r ∧ C = C1) ∧ (h_R_about a1 a2 T = some r ∧ T = T1) ∧ I' C1 T1
def ls_13 (N M bx : Nat) (I I' : CT → MT → Prop) : Prop := ∀ (C : CT) (T : MT) (a1 : Int32) (a2 : Int32), I C T → ∃ (r : Int64) (C1 : CT) (T1 : MT), (c_B_told bx a1 a2 C = some r ∧ C = C1) ∧ (h_R_told a1 a2 T = some r ∧ T = T1) ∧ I' C1 T1
def ls_14 (N M bx : Nat) (I I' : CT → MT → Prop) : Prop := ∀ (C : CT) (T : MT) (a1 : Int32), I C T → ∃ (r : Bool) (C1 : CT) (T1 : MT), c_B_reset N bx a1 C = some (r, C1) ∧ h_R_reset N a1 T = some (r, T1) ∧ I' C1 T1
def ls_15 (N M bx : Nat) (I I' : CT → MT → Prop) : Prop := ∀ (C : CT) (T : MT) (a1 : Int32), I C T → ∃ (r : Int32) (C1 : CT) (T1 : MT), c_B_keep N bx a1 C = some (r, C1) ∧ h_R_keep N a1 T = some (r, T1) ∧ I' C1 T1
def ls_16 (N M bx : Nat) (I I' : CT → MT → Prop) : Prop := ∀ (C : CT) (T : MT) (a1 : Int32), I C T → ∃ (r : Bool) (C1 : CT) (T1 : MT), c_B_back N bx a1 C = some (r, C1) ∧ h_R_back N a1 T = some (r, T1) ∧ I' C1 T1
def ls_17 (N M bx : Nat) (I I' : CT → MT → Prop) : Prop := ∀ (C : CT) (T : MT) (a1 : Int32), I C T → ∃ (r : Bool) (C1 : CT) (T1 : MT), c_B_same N bx a1 C = some (r, C1) ∧ h_R_same N a1 T = some (r, T1) ∧ I' C1 T1
def ls_18 (N M bx : Nat) (I I' : CT → MT → Prop) : Prop := ∀ (C : CT) (T : MT) (a1 : Int32), I C T → ∃ (r : Int32) (C1 : CT) (T1 : MT), (c_B_poles bx a1 C = some r ∧ C = C1) ∧ (h_R_poles a1 T = some r ∧ T = T1) ∧ I' C1 T1
def ls_19 (N M bx : Nat) (I I' : CT → MT → Prop) : Prop := ∀ (C : CT) (T : MT) (a1 : Int32), I C T → ∃ (r : Int32) (C1 : CT) (T1 : MT), c_B_cycles N bx a1 C = some (r, C1) ∧ h_R_cycles N a1 T = some (r, T1) ∧ I' C1 T1
def ls_20 (N M bx : Nat) (I I' : CT → MT → Prop) : Prop := ∀ (C : CT) (T : MT) (a1 : Int32) (a2 : Int32) (a3 : Int32), I C T → ∃ (r : Int32) (C1 : CT) (T1 : MT), c_B_cycle N bx a1 a2 a3 C = some (r, C1) ∧ h_R_cycle N a1 a2 a3 T = some (r, T1) ∧ I' C1 T1
def ls_21 (N M bx : Nat) (I I' : CT → MT → Prop) : Prop := ∀ (C : CT) (T : MT) (a1 : Int32) (a2 : Int32), I C T → ∃ (r : Int32) (C1 : CT) (T1 : MT), c_B_convert N M bx a1 a2 C = some (r, C1) ∧ h_R_convert N a1 a2 T = some (r, T1) ∧ I' C1 T1
def ls_22 (N M bx : Nat) (I I' : CT → MT → Prop) : Prop := ∀ (C : CT) (T : MT) (a1 : Int32) (a2 : Int32), I C T → ∃ (r : Int64) (C1 : CT) (T1 : MT), (c_B_measure N bx a1 a2 C = some r ∧ C = C1) ∧ (h_R_measure N a1 a2 T = some r ∧ T = T1) ∧ I' C1 T1
def ls_23 (N M bx : Nat) (I I' : CT → MT → Prop) : Prop := ∀ (C : CT) (T : MT) (a1 : Int32), I C T → ∃ (r : Int32) (C1 : CT) (T1 : MT), (c_B_count bx a1 C = some r ∧ C = C1) ∧ (h_R_count a1 T = some r ∧ T = T1) ∧ I' C1 T1
def ls_24 (N M bx : Nat) (I I' : CT → MT → Prop) : Prop := ∀ (C : CT) (T : MT) (a1 : Int32) (a2 : Int32), I C T → ∃ (r : Int32) (C1 : CT) (T1 : MT), (c_B_chain_2 bx a1 a2 C = some r ∧ C = C1) ∧ (h_R_chain_2 a1 a2 T = some r ∧ T = T1) ∧ I' C1 T1
/-- every call of the class and of the reference answers alike and keeps the coupling -/
def LSim (N M bx : Nat) (I I' : CT → MT → Prop) : Prop := ls_0 N M bx I I' ∧ ls_1 N M bx I I' ∧ ls_2 N M bx I I' ∧ ls_3 N M bx I I' ∧ ls_4 N M bx I I' ∧ ls_5 N M bx I I' ∧ ls_6 N M bx I I' ∧ ls_7 N M bx I I' ∧ ls_8 N M bx I I' ∧ ls_9 N M bx I I' ∧ ls_10 N M bx I I' ∧ ls_11 N M bx I I' ∧ ls_12 N M bx I I' ∧ ls_13 N M bx I I' ∧ ls_14 N M bx I I' ∧ ls_15 N M bx I I' ∧ ls_16 N M bx I I' ∧ ls_17 N M bx I I' ∧ ls_18 N M bx I I' ∧ ls_19 N M bx I I' ∧ ls_20 N M bx I I' ∧ ls_21 N M bx I I' ∧ ls_22 N M bx I I' ∧ ls_23 N M bx I I' ∧ ls_24 N M bx I I'
theorem law_lt {L i : Nat} (hL : L ≤ 3584) (hi : i ≤ 4000) (h : L < i + 7) : Int32.ofNat L - 7 < Int32.ofNat i := by
  have e1 : (Int32.ofNat L).toInt = (L : Int) := Int32.toInt_ofNat_small (by omega)
  have e2 : (Int32.ofNat i).toInt = (i : Int) := Int32.toInt_ofNat_small (by omega)
  have e3 : (Int32.ofNat L - 7).toInt = (L : Int) - 7 := by
    rw [Int32.toInt_sub, e1]
    show ((L : Int) - 7).bmod (2 ^ 32) = _
    exact Int.bmod_eq_of_le (by omega) (by omega)
  rw [Int32.lt_iff_toInt_lt, e2, e3]
  omega
theorem law_ge {L i : Nat} (hL : L ≤ 3584) (hi : i ≤ 4000) (h : i + 7 ≤ L) : ¬ (Int32.ofNat L - 7 < Int32.ofNat i) := by
  have e1 : (Int32.ofNat L).toInt = (L : Int) := Int32.toInt_ofNat_small (by omega)
  have e2 : (Int32.ofNat i).toInt = (i : Int) := Int32.toInt_ofNat_small (by omega)
  have e3 : (Int32.ofNat L - 7).toInt = (L : Int) - 7 := by
    rw [Int32.toInt_sub, e1]
    show ((L : Int) - 7).bmod (2 ^ 32) = _
    exact Int.bmod_eq_of_le (by omega) (by omega)
  rw [Int32.lt_iff_toInt_lt, e2, e3]
  omega
set_option maxHeartbeats 8000000 in
theorem law_loop {N M bx : Nat} {I : Nat → CT → MT → Prop} (G : LG B L scr m ad SA xs hS) (hmo : ∀ q C T, I (q + 1) C T → I q C T) (hI : ∀ q C T, I q C T → CW B C ∧ C.1 bx = 1 ∧ lsep m ad C) (S : ∀ q, LSim N M bx (I (q + 1)) (I q)) : ∀ (q i : Nat) (C : CT) (T : MT) (n : Nat), i ≤ 4000 → L ≤ i + 7 * q → q < n → I q C T →
    ∃ (C1 : CT) (T1 : MT), (∃ z, I z C1 T1) ∧ g_L_law_18 N M B SA n (some scr) bx m (Int32.ofNat i) (ovC C (ov m ad T hS), ck C) = some (true, (ovC C1 (ov m ad T1 hS), ck C1)) := by
  intro q
  induction q with
  | zero =>
    intro i C T n hi hq hn h0
    obtain ⟨n, rfl⟩ : ∃ z, n = z + 1 := ⟨n - 1, by omega⟩
    refine ⟨C, T, ⟨_, h0⟩, ?_⟩
    unfold g_L_law_18
    rw [obd_some, lg_len G T (hI _ C T h0).1, obd_some, if_pos]
    exact law_lt (by have := G.1; omega) hi (by omega)
  | succ q ih =>
    obtain ⟨S0, S1, S2, S3, S4, S5, S6, S7, S8, S9, S10, S11, S12, S13, S14, S15, S16, S17, S18, S19, S20, S21, S22, S23, S24⟩ := S q
    intro i C T n hi hq hn h0
    obtain ⟨n, rfl⟩ : ∃ z, n = z + 1 := ⟨n - 1, by omega⟩
    by_cases hc : L < i + 7
    · refine ⟨C, T, ⟨_, h0⟩, ?_⟩
      unfold g_L_law_18
      rw [obd_some, lg_len G T (hI _ C T h0).1, obd_some, if_pos]
      exact law_lt (by have := G.1; omega) hi (by omega)
    · obtain ⟨hw, hb, hp⟩ := hI _ C T h0
      have hL := G.1
      have nx : ∀ (C1 : CT) (T1 : MT), I q C1 T1 → ∃ (C2 : CT) (T2 : MT), (∃ z, I z C2 T2) ∧ g_L_law_1079 N M B SA (g_L_law_18 N M B SA n) scr bx m (Int32.ofNat i) (ovC C1 (ov m ad T1 hS), ck C1) = some (true, (ovC C2 (ov m ad T2 hS), ck C2)) := by
        intro C1 T1 h1
        obtain ⟨C2, T2, h2, h3⟩ := ih (i + 7) C1 T1 n (by omega) (by omega) (by omega) h1
        refine ⟨C2, T2, h2, ?_⟩
        unfold g_L_law_1079
        have e : Int32.ofNat i + 7 = Int32.ofNat (i + 7) := (Int32.ofNat_add _ _).symm
        rw [e]
        exact h3
      have z0 : jaI (ovC C (ov m ad T hS)) scr (Int32.ofNat i) = some (xs i) := by
        have := lg_rd G T hw (i := i) (j := 0) (by omega)
        simpa using this
      have zz : ∀ (C1 : CT) (T1 : MT), I q C1 T1 → ∀ j, j < 7 → jaI (ovC C1 (ov m ad T1 hS)) scr (Int32.ofNat i + Int32.ofNat j) = some (xs (i + j)) := fun C1 T1 h1 j hj => lg_rd G T1 (hI _ C1 T1 h1).1 (by omega)
      have zw : ∀ (C1 : CT) (T1 : MT), CW B C1 → ∀ j, j < 7 → jaI (ovC C1 (ov m ad T1 hS)) scr (Int32.ofNat i + Int32.ofNat j) = some (xs (i + j)) := fun C1 T1 h1 j hj => lg_rd G T1 h1 (by omega)
      have start : ∀ (C2 : CT) (T2 : MT) (X : Option (Bool × JMem)), X = some (true, (ovC C2 (ov m ad T2 hS), ck C2)) → (∃ z, I z C2 T2) → g_L_law_18 N M B SA (n + 1) (some scr) bx m (Int32.ofNat i) (ovC C (ov m ad T hS), ck C) = X → ∃ (C1 : CT) (T1 : MT), (∃ z, I z C1 T1) ∧ g_L_law_18 N M B SA (n + 1) (some scr) bx m (Int32.ofNat i) (ovC C (ov m ad T hS), ck C) = some (true, (ovC C1 (ov m ad T1 hS), ck C1)) := fun C2 T2 X h1 h2 h3 => ⟨C2, T2, h2, h3.trans h1⟩
      have hlen := lg_len G T hw
      have hjob : jobC 0 (ovC C (ov m ad T hS) bx) = true := c_job (by unfold cob; rw [hb]; rfl)
      have hcond : ¬ (Int32.ofNat L - 7 < Int32.ofNat i) := law_ge (by omega) hi (by omega)
      by_cases e0 : (xs i &&& 31) = 0
      · obtain ⟨r, C1, T1, hc1, hh1, hi1⟩ := S0 C T (xs (i + 1)) (xs (i + 2)) (xs (i + 3)) h0
        obtain ⟨C2, T2, h2, h3⟩ := nx _ _ hi1
        have tb := t_B_section (lg_CS G T) _ _ _ _ _ _ _ hw hc1
        have hw1 := tb.2
        have hp1 := (hI _ _ _ hi1).2.2
        have tr := e_R_section G.2.2.2.2 (h0 := ovC C1 hS) (c := ck C1) (N := N) (xs (i + 1)) (xs (i + 2)) (xs (i + 3)) T
        rw [← ovC_ov hp1, hh1] at tr
        replace tr := tr.trans (show Option.map (mF m ad (ovC C1 hS) (ck C1)) (some (r, T1)) = some (r, (ovC C1 (ov m ad T1 hS), ck C1)) from by rw [ovC_ov hp1]; rfl)
        have j9 : jobC 9 (ovC C1 (ov m ad T hS) m) = true := lg_obj hp1
        have y1 : jaI (ovC C (ov m ad T hS)) scr (Int32.ofNat i + 1) = some (xs (i + 1)) := zw C T hw 1 (by omega)
        have w1 : jaI (ovC C1 (ov m ad T hS)) scr (Int32.ofNat i + 1) = some (xs (i + 1)) := zw C1 T hw1 1 (by omega)
        have y2 : jaI (ovC C (ov m ad T hS)) scr (Int32.ofNat i + 2) = some (xs (i + 2)) := zw C T hw 2 (by omega)
        have w2 : jaI (ovC C1 (ov m ad T hS)) scr (Int32.ofNat i + 2) = some (xs (i + 2)) := zw C1 T hw1 2 (by omega)
        have y3 : jaI (ovC C (ov m ad T hS)) scr (Int32.ofNat i + 3) = some (xs (i + 3)) := zw C T hw 3 (by omega)
        have w3 : jaI (ovC C1 (ov m ad T hS)) scr (Int32.ofNat i + 3) = some (xs (i + 3)) := zw C1 T hw1 3 (by omega)
        refine start C2 T2 _ h3 h2 ?_
        unfold g_L_law_18
        rw [obd_some, hlen, obd_some, if_neg hcond, z0, obd_some, if_pos e0]
        (try simp only [ljoin] at tb tr)
        simp only [y1, y2, y3, w1, w2, w3, obd_some, hjob, jgd_true, tb.1, jbd2_some, j9, tr, if_true]
      by_cases e1 : (xs i &&& 31) = 1
      · obtain ⟨r, C1, T1, hc1, hh1, hi1⟩ := S1 C T (xs (i + 1)) (xs (i + 2)) (ljoin (xs (i + 3)) (xs (i + 4))) h0
        obtain ⟨C2, T2, h2, h3⟩ := nx _ _ hi1
        have tb := t_B_coefficient (lg_CS G T) _ _ _ _ _ _ _ hw hc1
        have hw1 := tb.2
        have hp1 := (hI _ _ _ hi1).2.2
        have tr := e_R_coefficient G.2.2.2.2 (h0 := ovC C1 hS) (c := ck C1) (xs (i + 1)) (xs (i + 2)) (ljoin (xs (i + 3)) (xs (i + 4))) T
        rw [← ovC_ov hp1, hh1] at tr
        replace tr := tr.trans (show Option.map (mF m ad (ovC C1 hS) (ck C1)) (some (r, T1)) = some (r, (ovC C1 (ov m ad T1 hS), ck C1)) from by rw [ovC_ov hp1]; rfl)
        have j9 : jobC 9 (ovC C1 (ov m ad T hS) m) = true := lg_obj hp1
        have y1 : jaI (ovC C (ov m ad T hS)) scr (Int32.ofNat i + 1) = some (xs (i + 1)) := zw C T hw 1 (by omega)
        have w1 : jaI (ovC C1 (ov m ad T hS)) scr (Int32.ofNat i + 1) = some (xs (i + 1)) := zw C1 T hw1 1 (by omega)
        have y2 : jaI (ovC C (ov m ad T hS)) scr (Int32.ofNat i + 2) = some (xs (i + 2)) := zw C T hw 2 (by omega)
        have w2 : jaI (ovC C1 (ov m ad T hS)) scr (Int32.ofNat i + 2) = some (xs (i + 2)) := zw C1 T hw1 2 (by omega)
        have y3 : jaI (ovC C (ov m ad T hS)) scr (Int32.ofNat i + 3) = some (xs (i + 3)) := zw C T hw 3 (by omega)
        have w3 : jaI (ovC C1 (ov m ad T hS)) scr (Int32.ofNat i + 3) = some (xs (i + 3)) := zw C1 T hw1 3 (by omega)
        have y4 : jaI (ovC C (ov m ad T hS)) scr (Int32.ofNat i + 4) = some (xs (i + 4)) := zw C T hw 4 (by omega)
        have w4 : jaI (ovC C1 (ov m ad T hS)) scr (Int32.ofNat i + 4) = some (xs (i + 4)) := zw C1 T hw1 4 (by omega)
        refine start C2 T2 _ h3 h2 ?_
        unfold g_L_law_18
        rw [obd_some, hlen, obd_some, if_neg hcond, z0, obd_some, if_neg e0, if_pos e1]
        (try simp only [ljoin] at tb tr)
        simp only [y1, y2, y3, y4, w1, w2, w3, w4, obd_some, hjob, jgd_true, tb.1, jbd2_some, j9, tr, if_true]
      by_cases e2 : (xs i &&& 31) = 2
      · obtain ⟨r, C1, T1, hc1, hh1, hi1⟩ := S2 C T (xs (i + 1)) (xs (i + 2)) (xs (i + 3)) (xs (i + 4)) h0
        obtain ⟨C2, T2, h2, h3⟩ := nx _ _ hi1
        have tb := t_B_ratio (lg_CS G T) _ _ _ _ _ _ _ _ hw hc1
        have hw1 := tb.2
        have hp1 := (hI _ _ _ hi1).2.2
        have tr := e_R_ratio G.2.2.2.2 (h0 := ovC C1 hS) (c := ck C1) (xs (i + 1)) (xs (i + 2)) (xs (i + 3)) (xs (i + 4)) T
        rw [← ovC_ov hp1, hh1] at tr
        replace tr := tr.trans (show Option.map (mF m ad (ovC C1 hS) (ck C1)) (some (r, T1)) = some (r, (ovC C1 (ov m ad T1 hS), ck C1)) from by rw [ovC_ov hp1]; rfl)
        have j9 : jobC 9 (ovC C1 (ov m ad T hS) m) = true := lg_obj hp1
        have y1 : jaI (ovC C (ov m ad T hS)) scr (Int32.ofNat i + 1) = some (xs (i + 1)) := zw C T hw 1 (by omega)
        have w1 : jaI (ovC C1 (ov m ad T hS)) scr (Int32.ofNat i + 1) = some (xs (i + 1)) := zw C1 T hw1 1 (by omega)
        have y2 : jaI (ovC C (ov m ad T hS)) scr (Int32.ofNat i + 2) = some (xs (i + 2)) := zw C T hw 2 (by omega)
        have w2 : jaI (ovC C1 (ov m ad T hS)) scr (Int32.ofNat i + 2) = some (xs (i + 2)) := zw C1 T hw1 2 (by omega)
        have y3 : jaI (ovC C (ov m ad T hS)) scr (Int32.ofNat i + 3) = some (xs (i + 3)) := zw C T hw 3 (by omega)
        have w3 : jaI (ovC C1 (ov m ad T hS)) scr (Int32.ofNat i + 3) = some (xs (i + 3)) := zw C1 T hw1 3 (by omega)
        have y4 : jaI (ovC C (ov m ad T hS)) scr (Int32.ofNat i + 4) = some (xs (i + 4)) := zw C T hw 4 (by omega)
        have w4 : jaI (ovC C1 (ov m ad T hS)) scr (Int32.ofNat i + 4) = some (xs (i + 4)) := zw C1 T hw1 4 (by omega)
        refine start C2 T2 _ h3 h2 ?_
        unfold g_L_law_18
        rw [obd_some, hlen, obd_some, if_neg hcond, z0, obd_some, if_neg e0, if_neg e1, if_pos e2]
        (try simp only [ljoin] at tb tr)
        simp only [y1, y2, y3, y4, w1, w2, w3, w4, obd_some, hjob, jgd_true, tb.1, jbd2_some, j9, tr, if_true]
      by_cases e3 : (xs i &&& 31) = 3
      · obtain ⟨r, C1, T1, hc1, hh1, hi1⟩ := S3 C T (xs (i + 1)) (xs (i + 2)) (xs (i + 3)) h0
        obtain ⟨C2, T2, h2, h3⟩ := nx _ _ hi1
        have tb := t_B_rule (lg_CS G T) _ _ _ _ _ _ _ hw hc1
        have hw1 := tb.2
        have hp1 := (hI _ _ _ hi1).2.2
        have tr := e_R_rule G.2.2.2.2 (h0 := ovC C1 hS) (c := ck C1) (xs (i + 1)) (xs (i + 2)) (xs (i + 3)) T
        rw [← ovC_ov hp1, hh1] at tr
        replace tr := tr.trans (show Option.map (mF m ad (ovC C1 hS) (ck C1)) (some (r, T1)) = some (r, (ovC C1 (ov m ad T1 hS), ck C1)) from by rw [ovC_ov hp1]; rfl)
        have j9 : jobC 9 (ovC C1 (ov m ad T hS) m) = true := lg_obj hp1
        have y1 : jaI (ovC C (ov m ad T hS)) scr (Int32.ofNat i + 1) = some (xs (i + 1)) := zw C T hw 1 (by omega)
        have w1 : jaI (ovC C1 (ov m ad T hS)) scr (Int32.ofNat i + 1) = some (xs (i + 1)) := zw C1 T hw1 1 (by omega)
        have y2 : jaI (ovC C (ov m ad T hS)) scr (Int32.ofNat i + 2) = some (xs (i + 2)) := zw C T hw 2 (by omega)
        have w2 : jaI (ovC C1 (ov m ad T hS)) scr (Int32.ofNat i + 2) = some (xs (i + 2)) := zw C1 T hw1 2 (by omega)
        have y3 : jaI (ovC C (ov m ad T hS)) scr (Int32.ofNat i + 3) = some (xs (i + 3)) := zw C T hw 3 (by omega)
        have w3 : jaI (ovC C1 (ov m ad T hS)) scr (Int32.ofNat i + 3) = some (xs (i + 3)) := zw C1 T hw1 3 (by omega)
        refine start C2 T2 _ h3 h2 ?_
        unfold g_L_law_18
        rw [obd_some, hlen, obd_some, if_neg hcond, z0, obd_some, if_neg e0, if_neg e1, if_neg e2, if_pos e3]
        (try simp only [ljoin] at tb tr)
        simp only [y1, y2, y3, w1, w2, w3, obd_some, hjob, jgd_true, tb.1, jbd2_some, j9, tr, if_true]
      by_cases e4 : (xs i &&& 31) = 4
      · obtain ⟨r, C1, T1, hc1, hh1, hi1⟩ := S4 C T h0
        obtain ⟨C2, T2, h2, h3⟩ := nx _ _ hi1
        have tb := t_B_chain (lg_CS G T) _ _ _ _ hw hc1
        have hw1 := tb.2
        have hp1 := (hI _ _ _ hi1).2.2
        have tr := e_R_chain G.2.2.2.2 (h0 := ovC C1 hS) (c := ck C1) T
        rw [← ovC_ov hp1, hh1] at tr
        replace tr := tr.trans (show Option.map (mF m ad (ovC C1 hS) (ck C1)) (some (r, T1)) = some (r, (ovC C1 (ov m ad T1 hS), ck C1)) from by rw [ovC_ov hp1]; rfl)
        have j9 : jobC 9 (ovC C1 (ov m ad T hS) m) = true := lg_obj hp1
        refine start C2 T2 _ h3 h2 ?_
        unfold g_L_law_18
        rw [obd_some, hlen, obd_some, if_neg hcond, z0, obd_some, if_neg e0, if_neg e1, if_neg e2, if_neg e3, if_pos e4]
        (try simp only [ljoin] at tb tr)
        simp only [obd_some, hjob, jgd_true, tb.1, jbd2_some, j9, tr, if_true]
      by_cases e5 : (xs i &&& 31) = 5
      · obtain ⟨r, C1, T1, hc1, hh1, hi1⟩ := S5 C T (xs (i + 1)) (xs (i + 2)) h0
        obtain ⟨C2, T2, h2, h3⟩ := nx _ _ hi1
        have tb := t_B_add (lg_CS G T) _ _ _ _ _ _ hw hc1
        have hw1 := tb.2
        have hp1 := (hI _ _ _ hi1).2.2
        have tr := e_R_add G.2.2.2.2 (h0 := ovC C1 hS) (c := ck C1) (N := N) (xs (i + 1)) (xs (i + 2)) T
        rw [← ovC_ov hp1, hh1] at tr
        replace tr := tr.trans (show Option.map (mF m ad (ovC C1 hS) (ck C1)) (some (r, T1)) = some (r, (ovC C1 (ov m ad T1 hS), ck C1)) from by rw [ovC_ov hp1]; rfl)
        have j9 : jobC 9 (ovC C1 (ov m ad T hS) m) = true := lg_obj hp1
        have y1 : jaI (ovC C (ov m ad T hS)) scr (Int32.ofNat i + 1) = some (xs (i + 1)) := zw C T hw 1 (by omega)
        have w1 : jaI (ovC C1 (ov m ad T hS)) scr (Int32.ofNat i + 1) = some (xs (i + 1)) := zw C1 T hw1 1 (by omega)
        have y2 : jaI (ovC C (ov m ad T hS)) scr (Int32.ofNat i + 2) = some (xs (i + 2)) := zw C T hw 2 (by omega)
        have w2 : jaI (ovC C1 (ov m ad T hS)) scr (Int32.ofNat i + 2) = some (xs (i + 2)) := zw C1 T hw1 2 (by omega)
        refine start C2 T2 _ h3 h2 ?_
        unfold g_L_law_18
        rw [obd_some, hlen, obd_some, if_neg hcond, z0, obd_some, if_neg e0, if_neg e1, if_neg e2, if_neg e3, if_neg e4, if_pos e5]
        (try simp only [ljoin] at tb tr)
        simp only [y1, y2, w1, w2, obd_some, hjob, jgd_true, tb.1, jbd2_some, j9, tr, if_true]
      by_cases e6 : (xs i &&& 31) = 6
      · obtain ⟨r, C1, T1, hc1, hh1, hi1⟩ := S6 C T (xs (i + 1)) (xs (i + 2)) (xs (i + 3)) (xs (i + 4)) (ljoin (xs (i + 5)) (xs (i + 6))) h0
        obtain ⟨C2, T2, h2, h3⟩ := nx _ _ hi1
        have tb := t_B_loop (lg_CS G T) _ _ _ _ _ _ _ _ _ hw hc1
        have hw1 := tb.2
        have hp1 := (hI _ _ _ hi1).2.2
        have tr := e_R_loop G.2.2.2.2 (h0 := ovC C1 hS) (c := ck C1) (N := N) (xs (i + 1)) (xs (i + 2)) (xs (i + 3)) (xs (i + 4)) (ljoin (xs (i + 5)) (xs (i + 6))) T
        rw [← ovC_ov hp1, hh1] at tr
        replace tr := tr.trans (show Option.map (mF m ad (ovC C1 hS) (ck C1)) (some (r, T1)) = some (r, (ovC C1 (ov m ad T1 hS), ck C1)) from by rw [ovC_ov hp1]; rfl)
        have j9 : jobC 9 (ovC C1 (ov m ad T hS) m) = true := lg_obj hp1
        have y1 : jaI (ovC C (ov m ad T hS)) scr (Int32.ofNat i + 1) = some (xs (i + 1)) := zw C T hw 1 (by omega)
        have w1 : jaI (ovC C1 (ov m ad T hS)) scr (Int32.ofNat i + 1) = some (xs (i + 1)) := zw C1 T hw1 1 (by omega)
        have y2 : jaI (ovC C (ov m ad T hS)) scr (Int32.ofNat i + 2) = some (xs (i + 2)) := zw C T hw 2 (by omega)
        have w2 : jaI (ovC C1 (ov m ad T hS)) scr (Int32.ofNat i + 2) = some (xs (i + 2)) := zw C1 T hw1 2 (by omega)
        have y3 : jaI (ovC C (ov m ad T hS)) scr (Int32.ofNat i + 3) = some (xs (i + 3)) := zw C T hw 3 (by omega)
        have w3 : jaI (ovC C1 (ov m ad T hS)) scr (Int32.ofNat i + 3) = some (xs (i + 3)) := zw C1 T hw1 3 (by omega)
        have y4 : jaI (ovC C (ov m ad T hS)) scr (Int32.ofNat i + 4) = some (xs (i + 4)) := zw C T hw 4 (by omega)
        have w4 : jaI (ovC C1 (ov m ad T hS)) scr (Int32.ofNat i + 4) = some (xs (i + 4)) := zw C1 T hw1 4 (by omega)
        have y5 : jaI (ovC C (ov m ad T hS)) scr (Int32.ofNat i + 5) = some (xs (i + 5)) := zw C T hw 5 (by omega)
        have w5 : jaI (ovC C1 (ov m ad T hS)) scr (Int32.ofNat i + 5) = some (xs (i + 5)) := zw C1 T hw1 5 (by omega)
        have y6 : jaI (ovC C (ov m ad T hS)) scr (Int32.ofNat i + 6) = some (xs (i + 6)) := zw C T hw 6 (by omega)
        have w6 : jaI (ovC C1 (ov m ad T hS)) scr (Int32.ofNat i + 6) = some (xs (i + 6)) := zw C1 T hw1 6 (by omega)
        refine start C2 T2 _ h3 h2 ?_
        unfold g_L_law_18
        rw [obd_some, hlen, obd_some, if_neg hcond, z0, obd_some, if_neg e0, if_neg e1, if_neg e2, if_neg e3, if_neg e4, if_neg e5, if_pos e6]
        (try simp only [ljoin] at tb tr)
        simp only [y1, y2, y3, y4, y5, y6, w1, w2, w3, w4, w5, w6, obd_some, hjob, jgd_true, tb.1, jbd2_some, j9, tr, if_true]
      by_cases e7 : (xs i &&& 31) = 7
      · obtain ⟨r, C1, T1, hc1, hh1, hi1⟩ := S7 C T (xs (i + 1)) (xs (i + 2)) h0
        obtain ⟨C2, T2, h2, h3⟩ := nx _ _ hi1
        have tb := t_B_within (lg_CS G T) _ _ _ _ _ _ hw hc1
        have hw1 := tb.2
        have hp1 := (hI _ _ _ hi1).2.2
        have tr := e_R_within G.2.2.2.2 (h0 := ovC C1 hS) (c := ck C1) (N := N) (xs (i + 1)) (xs (i + 2)) T
        rw [← ovC_ov hp1, hh1] at tr
        replace tr := tr.trans (show Option.map (mF m ad (ovC C1 hS) (ck C1)) (some (r, T1)) = some (r, (ovC C1 (ov m ad T1 hS), ck C1)) from by rw [ovC_ov hp1]; rfl)
        have j9 : jobC 9 (ovC C1 (ov m ad T hS) m) = true := lg_obj hp1
        have y1 : jaI (ovC C (ov m ad T hS)) scr (Int32.ofNat i + 1) = some (xs (i + 1)) := zw C T hw 1 (by omega)
        have w1 : jaI (ovC C1 (ov m ad T hS)) scr (Int32.ofNat i + 1) = some (xs (i + 1)) := zw C1 T hw1 1 (by omega)
        have y2 : jaI (ovC C (ov m ad T hS)) scr (Int32.ofNat i + 2) = some (xs (i + 2)) := zw C T hw 2 (by omega)
        have w2 : jaI (ovC C1 (ov m ad T hS)) scr (Int32.ofNat i + 2) = some (xs (i + 2)) := zw C1 T hw1 2 (by omega)
        refine start C2 T2 _ h3 h2 ?_
        unfold g_L_law_18
        rw [obd_some, hlen, obd_some, if_neg hcond, z0, obd_some, if_neg e0, if_neg e1, if_neg e2, if_neg e3, if_neg e4, if_neg e5, if_neg e6, if_pos e7]
        (try simp only [ljoin] at tb tr)
        simp only [y1, y2, w1, w2, obd_some, hjob, jgd_true, tb.1, jbd2_some, j9, tr, if_true]
      by_cases e8 : (xs i &&& 31) = 8
      · obtain ⟨r, C1, T1, hc1, hh1, hi1⟩ := S8 C T (xs (i + 1)) (ljoin (xs (i + 2)) (xs (i + 3))) h0
        obtain ⟨C2, T2, h2, h3⟩ := nx _ _ hi1
        have tb := t_B_feed (lg_CS G T) _ _ _ _ _ _ hw hc1
        have hw1 := tb.2
        have hp1 := (hI _ _ _ hi1).2.2
        have tr := e_R_feed G.2.2.2.2 (h0 := ovC C1 hS) (c := ck C1) (N := N) (xs (i + 1)) (ljoin (xs (i + 2)) (xs (i + 3))) T
        rw [← ovC_ov hp1, hh1] at tr
        replace tr := tr.trans (show Option.map (mF m ad (ovC C1 hS) (ck C1)) (some (r, T1)) = some (r, (ovC C1 (ov m ad T1 hS), ck C1)) from by rw [ovC_ov hp1]; rfl)
        have j9 : jobC 9 (ovC C1 (ov m ad T hS) m) = true := lg_obj hp1
        have y1 : jaI (ovC C (ov m ad T hS)) scr (Int32.ofNat i + 1) = some (xs (i + 1)) := zw C T hw 1 (by omega)
        have w1 : jaI (ovC C1 (ov m ad T hS)) scr (Int32.ofNat i + 1) = some (xs (i + 1)) := zw C1 T hw1 1 (by omega)
        have y2 : jaI (ovC C (ov m ad T hS)) scr (Int32.ofNat i + 2) = some (xs (i + 2)) := zw C T hw 2 (by omega)
        have w2 : jaI (ovC C1 (ov m ad T hS)) scr (Int32.ofNat i + 2) = some (xs (i + 2)) := zw C1 T hw1 2 (by omega)
        have y3 : jaI (ovC C (ov m ad T hS)) scr (Int32.ofNat i + 3) = some (xs (i + 3)) := zw C T hw 3 (by omega)
        have w3 : jaI (ovC C1 (ov m ad T hS)) scr (Int32.ofNat i + 3) = some (xs (i + 3)) := zw C1 T hw1 3 (by omega)
        refine start C2 T2 _ h3 h2 ?_
        unfold g_L_law_18
        rw [obd_some, hlen, obd_some, if_neg hcond, z0, obd_some, if_neg e0, if_neg e1, if_neg e2, if_neg e3, if_neg e4, if_neg e5, if_neg e6, if_neg e7, if_pos e8]
        (try simp only [ljoin] at tb tr)
        simp only [y1, y2, y3, w1, w2, w3, obd_some, hjob, jgd_true, tb.1, jbd2_some, j9, tr, if_true]
      by_cases e9 : (xs i &&& 31) = 9
      · obtain ⟨r, C1, T1, hc1, hh1, hi1⟩ := S9 C T (xs (i + 1)) (xs (i + 2)) (xs (i + 3)) h0
        obtain ⟨C2, T2, h2, h3⟩ := nx _ _ hi1
        have tb := t_B_run (lg_CS G T) _ _ _ _ _ _ _ hw hc1
        have hw1 := tb.2
        have hp1 := (hI _ _ _ hi1).2.2
        have tr := e_R_run G.2.2.2.2 (h0 := ovC C1 hS) (c := ck C1) (N := N) (xs (i + 1)) (xs (i + 2)) (xs (i + 3)) T
        rw [← ovC_ov hp1, hh1] at tr
        replace tr := tr.trans (show Option.map (mF m ad (ovC C1 hS) (ck C1)) (some (r, T1)) = some (r, (ovC C1 (ov m ad T1 hS), ck C1)) from by rw [ovC_ov hp1]; rfl)
        have j9 : jobC 9 (ovC C1 (ov m ad T hS) m) = true := lg_obj hp1
        have y1 : jaI (ovC C (ov m ad T hS)) scr (Int32.ofNat i + 1) = some (xs (i + 1)) := zw C T hw 1 (by omega)
        have w1 : jaI (ovC C1 (ov m ad T hS)) scr (Int32.ofNat i + 1) = some (xs (i + 1)) := zw C1 T hw1 1 (by omega)
        have y2 : jaI (ovC C (ov m ad T hS)) scr (Int32.ofNat i + 2) = some (xs (i + 2)) := zw C T hw 2 (by omega)
        have w2 : jaI (ovC C1 (ov m ad T hS)) scr (Int32.ofNat i + 2) = some (xs (i + 2)) := zw C1 T hw1 2 (by omega)
        have y3 : jaI (ovC C (ov m ad T hS)) scr (Int32.ofNat i + 3) = some (xs (i + 3)) := zw C T hw 3 (by omega)
        have w3 : jaI (ovC C1 (ov m ad T hS)) scr (Int32.ofNat i + 3) = some (xs (i + 3)) := zw C1 T hw1 3 (by omega)
        refine start C2 T2 _ h3 h2 ?_
        unfold g_L_law_18
        rw [obd_some, hlen, obd_some, if_neg hcond, z0, obd_some, if_neg e0, if_neg e1, if_neg e2, if_neg e3, if_neg e4, if_neg e5, if_neg e6, if_neg e7, if_neg e8, if_pos e9]
        (try simp only [ljoin] at tb tr)
        simp only [y1, y2, y3, w1, w2, w3, obd_some, hjob, jgd_true, tb.1, jbd2_some, j9, tr, if_true]
      by_cases e10 : (xs i &&& 31) = 10
      · obtain ⟨r, C1, T1, hc1, hh1, hi1⟩ := S10 C T (xs (i + 1)) (xs (i + 2)) h0
        obtain ⟨hc1, rfl⟩ := hc1
        obtain ⟨hh1, rfl⟩ := hh1
        obtain ⟨C2, T2, h2, h3⟩ := nx _ _ hi1
        have tb := t_B_output (lg_CS G T) _ _ _ _ _ hw hc1
        have hw1 := hw
        have hp1 := (hI _ _ _ hi1).2.2
        have tr := e_R_output G.2.2.2.2 (h0 := ovC C hS) (xs (i + 1)) (xs (i + 2)) T
        rw [← ovC_ov hp1, hh1] at tr
        have j9 : jobC 9 (ovC C (ov m ad T hS) m) = true := lg_obj hp1
        have y1 : jaI (ovC C (ov m ad T hS)) scr (Int32.ofNat i + 1) = some (xs (i + 1)) := zw C T hw 1 (by omega)
        have y2 : jaI (ovC C (ov m ad T hS)) scr (Int32.ofNat i + 2) = some (xs (i + 2)) := zw C T hw 2 (by omega)
        refine start C2 T2 _ h3 h2 ?_
        unfold g_L_law_18
        rw [obd_some, hlen, obd_some, if_neg hcond, z0, obd_some, if_neg e0, if_neg e1, if_neg e2, if_neg e3, if_neg e4, if_neg e5, if_neg e6, if_neg e7, if_neg e8, if_neg e9, if_pos e10]
        (try simp only [ljoin] at tb tr)
        simp only [y1, y2, obd_some, hjob, jgd_true, tb.1, jbd2_some, j9, tr, if_true]
      by_cases e11 : (xs i &&& 31) = 11
      · obtain ⟨r, C1, T1, hc1, hh1, hi1⟩ := S11 C T (xs (i + 1)) (xs (i + 2)) h0
        obtain ⟨hc1, rfl⟩ := hc1
        obtain ⟨hh1, rfl⟩ := hh1
        obtain ⟨C2, T2, h2, h3⟩ := nx _ _ hi1
        have tb := t_B_state (lg_CS G T) _ _ _ _ _ hw hc1
        have hw1 := hw
        have hp1 := (hI _ _ _ hi1).2.2
        have tr := e_R_state G.2.2.2.2 (h0 := ovC C hS) (xs (i + 1)) (xs (i + 2)) T
        rw [← ovC_ov hp1, hh1] at tr
        have j9 : jobC 9 (ovC C (ov m ad T hS) m) = true := lg_obj hp1
        have y1 : jaI (ovC C (ov m ad T hS)) scr (Int32.ofNat i + 1) = some (xs (i + 1)) := zw C T hw 1 (by omega)
        have y2 : jaI (ovC C (ov m ad T hS)) scr (Int32.ofNat i + 2) = some (xs (i + 2)) := zw C T hw 2 (by omega)
        refine start C2 T2 _ h3 h2 ?_
        unfold g_L_law_18
        rw [obd_some, hlen, obd_some, if_neg hcond, z0, obd_some, if_neg e0, if_neg e1, if_neg e2, if_neg e3, if_neg e4, if_neg e5, if_neg e6, if_neg e7, if_neg e8, if_neg e9, if_neg e10, if_pos e11]
        (try simp only [ljoin] at tb tr)
        simp only [y1, y2, obd_some, hjob, jgd_true, tb.1, jbd2_some, j9, tr, if_true]
      by_cases e12 : (xs i &&& 31) = 12
      · obtain ⟨r, C1, T1, hc1, hh1, hi1⟩ := S12 C T (xs (i + 1)) (xs (i + 2)) h0
        obtain ⟨hc1, rfl⟩ := hc1
        obtain ⟨hh1, rfl⟩ := hh1
        obtain ⟨C2, T2, h2, h3⟩ := nx _ _ hi1
        have tb := t_B_about (lg_CS G T) _ _ _ _ _ hw hc1
        have hw1 := hw
        have hp1 := (hI _ _ _ hi1).2.2
        have tr := e_R_about G.2.2.2.2 (h0 := ovC C hS) (xs (i + 1)) (xs (i + 2)) T
        rw [← ovC_ov hp1, hh1] at tr
        have j9 : jobC 9 (ovC C (ov m ad T hS) m) = true := lg_obj hp1
        have y1 : jaI (ovC C (ov m ad T hS)) scr (Int32.ofNat i + 1) = some (xs (i + 1)) := zw C T hw 1 (by omega)
        have y2 : jaI (ovC C (ov m ad T hS)) scr (Int32.ofNat i + 2) = some (xs (i + 2)) := zw C T hw 2 (by omega)
        refine start C2 T2 _ h3 h2 ?_
        unfold g_L_law_18
        rw [obd_some, hlen, obd_some, if_neg hcond, z0, obd_some, if_neg e0, if_neg e1, if_neg e2, if_neg e3, if_neg e4, if_neg e5, if_neg e6, if_neg e7, if_neg e8, if_neg e9, if_neg e10, if_neg e11, if_pos e12]
        (try simp only [ljoin] at tb tr)
        simp only [y1, y2, obd_some, hjob, jgd_true, tb.1, jbd2_some, j9, tr, if_true]
      by_cases e13 : (xs i &&& 31) = 13
      · obtain ⟨r, C1, T1, hc1, hh1, hi1⟩ := S13 C T (xs (i + 1)) (xs (i + 2)) h0
        obtain ⟨hc1, rfl⟩ := hc1
        obtain ⟨hh1, rfl⟩ := hh1
        obtain ⟨C2, T2, h2, h3⟩ := nx _ _ hi1
        have tb := t_B_told (lg_CS G T) _ _ _ _ _ hw hc1
        have hw1 := hw
        have hp1 := (hI _ _ _ hi1).2.2
        have tr := e_R_told G.2.2.2.2 (h0 := ovC C hS) (xs (i + 1)) (xs (i + 2)) T
        rw [← ovC_ov hp1, hh1] at tr
        have j9 : jobC 9 (ovC C (ov m ad T hS) m) = true := lg_obj hp1
        have y1 : jaI (ovC C (ov m ad T hS)) scr (Int32.ofNat i + 1) = some (xs (i + 1)) := zw C T hw 1 (by omega)
        have y2 : jaI (ovC C (ov m ad T hS)) scr (Int32.ofNat i + 2) = some (xs (i + 2)) := zw C T hw 2 (by omega)
        refine start C2 T2 _ h3 h2 ?_
        unfold g_L_law_18
        rw [obd_some, hlen, obd_some, if_neg hcond, z0, obd_some, if_neg e0, if_neg e1, if_neg e2, if_neg e3, if_neg e4, if_neg e5, if_neg e6, if_neg e7, if_neg e8, if_neg e9, if_neg e10, if_neg e11, if_neg e12, if_pos e13]
        (try simp only [ljoin] at tb tr)
        simp only [y1, y2, obd_some, hjob, jgd_true, tb.1, jbd2_some, j9, tr, if_true]
      by_cases e14 : (xs i &&& 31) = 14
      · obtain ⟨r, C1, T1, hc1, hh1, hi1⟩ := S14 C T (xs (i + 1)) h0
        obtain ⟨C2, T2, h2, h3⟩ := nx _ _ hi1
        have tb := t_B_reset (lg_CS G T) _ _ _ _ _ hw hc1
        have hw1 := tb.2
        have hp1 := (hI _ _ _ hi1).2.2
        have tr := e_R_reset G.2.2.2.2 (h0 := ovC C1 hS) (c := ck C1) (N := N) (xs (i + 1)) T
        rw [← ovC_ov hp1, hh1] at tr
        replace tr := tr.trans (show Option.map (mF m ad (ovC C1 hS) (ck C1)) (some (r, T1)) = some (r, (ovC C1 (ov m ad T1 hS), ck C1)) from by rw [ovC_ov hp1]; rfl)
        have j9 : jobC 9 (ovC C1 (ov m ad T hS) m) = true := lg_obj hp1
        have y1 : jaI (ovC C (ov m ad T hS)) scr (Int32.ofNat i + 1) = some (xs (i + 1)) := zw C T hw 1 (by omega)
        have w1 : jaI (ovC C1 (ov m ad T hS)) scr (Int32.ofNat i + 1) = some (xs (i + 1)) := zw C1 T hw1 1 (by omega)
        refine start C2 T2 _ h3 h2 ?_
        unfold g_L_law_18
        rw [obd_some, hlen, obd_some, if_neg hcond, z0, obd_some, if_neg e0, if_neg e1, if_neg e2, if_neg e3, if_neg e4, if_neg e5, if_neg e6, if_neg e7, if_neg e8, if_neg e9, if_neg e10, if_neg e11, if_neg e12, if_neg e13, if_pos e14]
        (try simp only [ljoin] at tb tr)
        simp only [y1, w1, obd_some, hjob, jgd_true, tb.1, jbd2_some, j9, tr, if_true]
      by_cases e15 : (xs i &&& 31) = 15
      · obtain ⟨r, C1, T1, hc1, hh1, hi1⟩ := S15 C T (xs (i + 1)) h0
        obtain ⟨C2, T2, h2, h3⟩ := nx _ _ hi1
        have tb := t_B_keep (lg_CS G T) _ _ _ _ _ hw hc1
        have hw1 := tb.2
        have hp1 := (hI _ _ _ hi1).2.2
        have tr := e_R_keep G.2.2.2.2 (h0 := ovC C1 hS) (c := ck C1) (N := N) (xs (i + 1)) T
        rw [← ovC_ov hp1, hh1] at tr
        replace tr := tr.trans (show Option.map (mF m ad (ovC C1 hS) (ck C1)) (some (r, T1)) = some (r, (ovC C1 (ov m ad T1 hS), ck C1)) from by rw [ovC_ov hp1]; rfl)
        have j9 : jobC 9 (ovC C1 (ov m ad T hS) m) = true := lg_obj hp1
        have y1 : jaI (ovC C (ov m ad T hS)) scr (Int32.ofNat i + 1) = some (xs (i + 1)) := zw C T hw 1 (by omega)
        have w1 : jaI (ovC C1 (ov m ad T hS)) scr (Int32.ofNat i + 1) = some (xs (i + 1)) := zw C1 T hw1 1 (by omega)
        refine start C2 T2 _ h3 h2 ?_
        unfold g_L_law_18
        rw [obd_some, hlen, obd_some, if_neg hcond, z0, obd_some, if_neg e0, if_neg e1, if_neg e2, if_neg e3, if_neg e4, if_neg e5, if_neg e6, if_neg e7, if_neg e8, if_neg e9, if_neg e10, if_neg e11, if_neg e12, if_neg e13, if_neg e14, if_pos e15]
        (try simp only [ljoin] at tb tr)
        simp only [y1, w1, obd_some, hjob, jgd_true, tb.1, jbd2_some, j9, tr, if_true]
      by_cases e16 : (xs i &&& 31) = 16
      · obtain ⟨r, C1, T1, hc1, hh1, hi1⟩ := S16 C T (xs (i + 1)) h0
        obtain ⟨C2, T2, h2, h3⟩ := nx _ _ hi1
        have tb := t_B_back (lg_CS G T) _ _ _ _ _ hw hc1
        have hw1 := tb.2
        have hp1 := (hI _ _ _ hi1).2.2
        have tr := e_R_back G.2.2.2.2 (h0 := ovC C1 hS) (c := ck C1) (N := N) (xs (i + 1)) T
        rw [← ovC_ov hp1, hh1] at tr
        replace tr := tr.trans (show Option.map (mF m ad (ovC C1 hS) (ck C1)) (some (r, T1)) = some (r, (ovC C1 (ov m ad T1 hS), ck C1)) from by rw [ovC_ov hp1]; rfl)
        have j9 : jobC 9 (ovC C1 (ov m ad T hS) m) = true := lg_obj hp1
        have y1 : jaI (ovC C (ov m ad T hS)) scr (Int32.ofNat i + 1) = some (xs (i + 1)) := zw C T hw 1 (by omega)
        have w1 : jaI (ovC C1 (ov m ad T hS)) scr (Int32.ofNat i + 1) = some (xs (i + 1)) := zw C1 T hw1 1 (by omega)
        refine start C2 T2 _ h3 h2 ?_
        unfold g_L_law_18
        rw [obd_some, hlen, obd_some, if_neg hcond, z0, obd_some, if_neg e0, if_neg e1, if_neg e2, if_neg e3, if_neg e4, if_neg e5, if_neg e6, if_neg e7, if_neg e8, if_neg e9, if_neg e10, if_neg e11, if_neg e12, if_neg e13, if_neg e14, if_neg e15, if_pos e16]
        (try simp only [ljoin] at tb tr)
        simp only [y1, w1, obd_some, hjob, jgd_true, tb.1, jbd2_some, j9, tr, if_true]
      by_cases e17 : (xs i &&& 31) = 17
      · obtain ⟨r, C1, T1, hc1, hh1, hi1⟩ := S17 C T (xs (i + 1)) h0
        obtain ⟨C2, T2, h2, h3⟩ := nx _ _ hi1
        have tb := t_B_same (lg_CS G T) _ _ _ _ _ hw hc1
        have hw1 := tb.2
        have hp1 := (hI _ _ _ hi1).2.2
        have tr := e_R_same G.2.2.2.2 (h0 := ovC C1 hS) (c := ck C1) (N := N) (xs (i + 1)) T
        rw [← ovC_ov hp1, hh1] at tr
        replace tr := tr.trans (show Option.map (mF m ad (ovC C1 hS) (ck C1)) (some (r, T1)) = some (r, (ovC C1 (ov m ad T1 hS), ck C1)) from by rw [ovC_ov hp1]; rfl)
        have j9 : jobC 9 (ovC C1 (ov m ad T hS) m) = true := lg_obj hp1
        have y1 : jaI (ovC C (ov m ad T hS)) scr (Int32.ofNat i + 1) = some (xs (i + 1)) := zw C T hw 1 (by omega)
        have w1 : jaI (ovC C1 (ov m ad T hS)) scr (Int32.ofNat i + 1) = some (xs (i + 1)) := zw C1 T hw1 1 (by omega)
        refine start C2 T2 _ h3 h2 ?_
        unfold g_L_law_18
        rw [obd_some, hlen, obd_some, if_neg hcond, z0, obd_some, if_neg e0, if_neg e1, if_neg e2, if_neg e3, if_neg e4, if_neg e5, if_neg e6, if_neg e7, if_neg e8, if_neg e9, if_neg e10, if_neg e11, if_neg e12, if_neg e13, if_neg e14, if_neg e15, if_neg e16, if_pos e17]
        (try simp only [ljoin] at tb tr)
        simp only [y1, w1, obd_some, hjob, jgd_true, tb.1, jbd2_some, j9, tr, if_true]
      by_cases e18 : (xs i &&& 31) = 18
      · obtain ⟨r, C1, T1, hc1, hh1, hi1⟩ := S18 C T (xs (i + 1)) h0
        obtain ⟨hc1, rfl⟩ := hc1
        obtain ⟨hh1, rfl⟩ := hh1
        obtain ⟨C2, T2, h2, h3⟩ := nx _ _ hi1
        have tb := t_B_poles (lg_CS G T) _ _ _ _ hw hc1
        have hw1 := hw
        have hp1 := (hI _ _ _ hi1).2.2
        have tr := e_R_poles G.2.2.2.2 (h0 := ovC C hS) (xs (i + 1)) T
        rw [← ovC_ov hp1, hh1] at tr
        have j9 : jobC 9 (ovC C (ov m ad T hS) m) = true := lg_obj hp1
        have y1 : jaI (ovC C (ov m ad T hS)) scr (Int32.ofNat i + 1) = some (xs (i + 1)) := zw C T hw 1 (by omega)
        refine start C2 T2 _ h3 h2 ?_
        unfold g_L_law_18
        rw [obd_some, hlen, obd_some, if_neg hcond, z0, obd_some, if_neg e0, if_neg e1, if_neg e2, if_neg e3, if_neg e4, if_neg e5, if_neg e6, if_neg e7, if_neg e8, if_neg e9, if_neg e10, if_neg e11, if_neg e12, if_neg e13, if_neg e14, if_neg e15, if_neg e16, if_neg e17, if_pos e18]
        (try simp only [ljoin] at tb tr)
        simp only [y1, obd_some, hjob, jgd_true, tb.1, jbd2_some, j9, tr, if_true]
      by_cases e19 : (xs i &&& 31) = 19
      · obtain ⟨r, C1, T1, hc1, hh1, hi1⟩ := S19 C T (xs (i + 1)) h0
        obtain ⟨C2, T2, h2, h3⟩ := nx _ _ hi1
        have tb := t_B_cycles (lg_CS G T) _ _ _ _ _ hw hc1
        have hw1 := tb.2
        have hp1 := (hI _ _ _ hi1).2.2
        have tr := e_R_cycles G.2.2.2.2 (h0 := ovC C1 hS) (c := ck C1) (N := N) (xs (i + 1)) T
        rw [← ovC_ov hp1, hh1] at tr
        replace tr := tr.trans (show Option.map (mF m ad (ovC C1 hS) (ck C1)) (some (r, T1)) = some (r, (ovC C1 (ov m ad T1 hS), ck C1)) from by rw [ovC_ov hp1]; rfl)
        have j9 : jobC 9 (ovC C1 (ov m ad T hS) m) = true := lg_obj hp1
        have y1 : jaI (ovC C (ov m ad T hS)) scr (Int32.ofNat i + 1) = some (xs (i + 1)) := zw C T hw 1 (by omega)
        have w1 : jaI (ovC C1 (ov m ad T hS)) scr (Int32.ofNat i + 1) = some (xs (i + 1)) := zw C1 T hw1 1 (by omega)
        refine start C2 T2 _ h3 h2 ?_
        unfold g_L_law_18
        rw [obd_some, hlen, obd_some, if_neg hcond, z0, obd_some, if_neg e0, if_neg e1, if_neg e2, if_neg e3, if_neg e4, if_neg e5, if_neg e6, if_neg e7, if_neg e8, if_neg e9, if_neg e10, if_neg e11, if_neg e12, if_neg e13, if_neg e14, if_neg e15, if_neg e16, if_neg e17, if_neg e18, if_pos e19]
        (try simp only [ljoin] at tb tr)
        simp only [y1, w1, obd_some, hjob, jgd_true, tb.1, jbd2_some, j9, tr, if_true]
      by_cases e20 : (xs i &&& 31) = 20
      · obtain ⟨r, C1, T1, hc1, hh1, hi1⟩ := S20 C T (xs (i + 1)) (xs (i + 2)) (xs (i + 3)) h0
        obtain ⟨C2, T2, h2, h3⟩ := nx _ _ hi1
        have tb := t_B_cycle (lg_CS G T) _ _ _ _ _ _ _ hw hc1
        have hw1 := tb.2
        have hp1 := (hI _ _ _ hi1).2.2
        have tr := e_R_cycle G.2.2.2.2 (h0 := ovC C1 hS) (c := ck C1) (N := N) (xs (i + 1)) (xs (i + 2)) (xs (i + 3)) T
        rw [← ovC_ov hp1, hh1] at tr
        replace tr := tr.trans (show Option.map (mF m ad (ovC C1 hS) (ck C1)) (some (r, T1)) = some (r, (ovC C1 (ov m ad T1 hS), ck C1)) from by rw [ovC_ov hp1]; rfl)
        have j9 : jobC 9 (ovC C1 (ov m ad T hS) m) = true := lg_obj hp1
        have y1 : jaI (ovC C (ov m ad T hS)) scr (Int32.ofNat i + 1) = some (xs (i + 1)) := zw C T hw 1 (by omega)
        have w1 : jaI (ovC C1 (ov m ad T hS)) scr (Int32.ofNat i + 1) = some (xs (i + 1)) := zw C1 T hw1 1 (by omega)
        have y2 : jaI (ovC C (ov m ad T hS)) scr (Int32.ofNat i + 2) = some (xs (i + 2)) := zw C T hw 2 (by omega)
        have w2 : jaI (ovC C1 (ov m ad T hS)) scr (Int32.ofNat i + 2) = some (xs (i + 2)) := zw C1 T hw1 2 (by omega)
        have y3 : jaI (ovC C (ov m ad T hS)) scr (Int32.ofNat i + 3) = some (xs (i + 3)) := zw C T hw 3 (by omega)
        have w3 : jaI (ovC C1 (ov m ad T hS)) scr (Int32.ofNat i + 3) = some (xs (i + 3)) := zw C1 T hw1 3 (by omega)
        refine start C2 T2 _ h3 h2 ?_
        unfold g_L_law_18
        rw [obd_some, hlen, obd_some, if_neg hcond, z0, obd_some, if_neg e0, if_neg e1, if_neg e2, if_neg e3, if_neg e4, if_neg e5, if_neg e6, if_neg e7, if_neg e8, if_neg e9, if_neg e10, if_neg e11, if_neg e12, if_neg e13, if_neg e14, if_neg e15, if_neg e16, if_neg e17, if_neg e18, if_neg e19, if_pos e20]
        (try simp only [ljoin] at tb tr)
        simp only [y1, y2, y3, w1, w2, w3, obd_some, hjob, jgd_true, tb.1, jbd2_some, j9, tr, if_true]
      by_cases e21 : (xs i &&& 31) = 21
      · obtain ⟨r, C1, T1, hc1, hh1, hi1⟩ := S21 C T (xs (i + 1)) (xs (i + 2)) h0
        obtain ⟨C2, T2, h2, h3⟩ := nx _ _ hi1
        have tb := t_B_convert (lg_CS G T) _ _ _ _ _ _ hw hc1
        have hw1 := tb.2
        have hp1 := (hI _ _ _ hi1).2.2
        have tr := e_R_convert G.2.2.2.2 (h0 := ovC C1 hS) (c := ck C1) (N := N) (xs (i + 1)) (xs (i + 2)) T
        rw [← ovC_ov hp1, hh1] at tr
        replace tr := tr.trans (show Option.map (mF m ad (ovC C1 hS) (ck C1)) (some (r, T1)) = some (r, (ovC C1 (ov m ad T1 hS), ck C1)) from by rw [ovC_ov hp1]; rfl)
        have j9 : jobC 9 (ovC C1 (ov m ad T hS) m) = true := lg_obj hp1
        have y1 : jaI (ovC C (ov m ad T hS)) scr (Int32.ofNat i + 1) = some (xs (i + 1)) := zw C T hw 1 (by omega)
        have w1 : jaI (ovC C1 (ov m ad T hS)) scr (Int32.ofNat i + 1) = some (xs (i + 1)) := zw C1 T hw1 1 (by omega)
        have y2 : jaI (ovC C (ov m ad T hS)) scr (Int32.ofNat i + 2) = some (xs (i + 2)) := zw C T hw 2 (by omega)
        have w2 : jaI (ovC C1 (ov m ad T hS)) scr (Int32.ofNat i + 2) = some (xs (i + 2)) := zw C1 T hw1 2 (by omega)
        refine start C2 T2 _ h3 h2 ?_
        unfold g_L_law_18
        rw [obd_some, hlen, obd_some, if_neg hcond, z0, obd_some, if_neg e0, if_neg e1, if_neg e2, if_neg e3, if_neg e4, if_neg e5, if_neg e6, if_neg e7, if_neg e8, if_neg e9, if_neg e10, if_neg e11, if_neg e12, if_neg e13, if_neg e14, if_neg e15, if_neg e16, if_neg e17, if_neg e18, if_neg e19, if_neg e20, if_pos e21]
        (try simp only [ljoin] at tb tr)
        simp only [y1, y2, w1, w2, obd_some, hjob, jgd_true, tb.1, jbd2_some, j9, tr, if_true]
      by_cases e22 : (xs i &&& 31) = 22
      · obtain ⟨r, C1, T1, hc1, hh1, hi1⟩ := S22 C T (xs (i + 1)) (xs (i + 2)) h0
        obtain ⟨hc1, rfl⟩ := hc1
        obtain ⟨hh1, rfl⟩ := hh1
        obtain ⟨C2, T2, h2, h3⟩ := nx _ _ hi1
        have tb := t_B_measure (lg_CS G T) _ _ _ _ _ hw hc1
        have hw1 := hw
        have hp1 := (hI _ _ _ hi1).2.2
        have tr := e_R_measure G.2.2.2.2 (h0 := ovC C hS) (N := N) (xs (i + 1)) (xs (i + 2)) T
        rw [← ovC_ov hp1, hh1] at tr
        have j9 : jobC 9 (ovC C (ov m ad T hS) m) = true := lg_obj hp1
        have y1 : jaI (ovC C (ov m ad T hS)) scr (Int32.ofNat i + 1) = some (xs (i + 1)) := zw C T hw 1 (by omega)
        have y2 : jaI (ovC C (ov m ad T hS)) scr (Int32.ofNat i + 2) = some (xs (i + 2)) := zw C T hw 2 (by omega)
        refine start C2 T2 _ h3 h2 ?_
        unfold g_L_law_18
        rw [obd_some, hlen, obd_some, if_neg hcond, z0, obd_some, if_neg e0, if_neg e1, if_neg e2, if_neg e3, if_neg e4, if_neg e5, if_neg e6, if_neg e7, if_neg e8, if_neg e9, if_neg e10, if_neg e11, if_neg e12, if_neg e13, if_neg e14, if_neg e15, if_neg e16, if_neg e17, if_neg e18, if_neg e19, if_neg e20, if_neg e21, if_pos e22]
        (try simp only [ljoin] at tb tr)
        simp only [y1, y2, obd_some, hjob, jgd_true, tb.1, jbd2_some, j9, tr, if_true]
      by_cases e23 : (xs i &&& 31) = 23
      · obtain ⟨r, C1, T1, hc1, hh1, hi1⟩ := S23 C T (xs (i + 1)) h0
        obtain ⟨hc1, rfl⟩ := hc1
        obtain ⟨hh1, rfl⟩ := hh1
        obtain ⟨C2, T2, h2, h3⟩ := nx _ _ hi1
        have tb := t_B_count (lg_CS G T) _ _ _ _ hw hc1
        have hw1 := hw
        have hp1 := (hI _ _ _ hi1).2.2
        have tr := e_R_count G.2.2.2.2 (h0 := ovC C hS) (xs (i + 1)) T
        rw [← ovC_ov hp1, hh1] at tr
        have j9 : jobC 9 (ovC C (ov m ad T hS) m) = true := lg_obj hp1
        have y1 : jaI (ovC C (ov m ad T hS)) scr (Int32.ofNat i + 1) = some (xs (i + 1)) := zw C T hw 1 (by omega)
        refine start C2 T2 _ h3 h2 ?_
        unfold g_L_law_18
        rw [obd_some, hlen, obd_some, if_neg hcond, z0, obd_some, if_neg e0, if_neg e1, if_neg e2, if_neg e3, if_neg e4, if_neg e5, if_neg e6, if_neg e7, if_neg e8, if_neg e9, if_neg e10, if_neg e11, if_neg e12, if_neg e13, if_neg e14, if_neg e15, if_neg e16, if_neg e17, if_neg e18, if_neg e19, if_neg e20, if_neg e21, if_neg e22, if_pos e23]
        (try simp only [ljoin] at tb tr)
        simp only [y1, obd_some, hjob, jgd_true, tb.1, jbd2_some, j9, tr, if_true]
      by_cases e24 : (xs i &&& 31) = 24
      · obtain ⟨r, C1, T1, hc1, hh1, hi1⟩ := S24 C T (xs (i + 1)) (xs (i + 2)) h0
        obtain ⟨hc1, rfl⟩ := hc1
        obtain ⟨hh1, rfl⟩ := hh1
        obtain ⟨C2, T2, h2, h3⟩ := nx _ _ hi1
        have tb := t_B_chain_2 (lg_CS G T) _ _ _ _ _ hw hc1
        have hw1 := hw
        have hp1 := (hI _ _ _ hi1).2.2
        have tr := e_R_chain_2 G.2.2.2.2 (h0 := ovC C hS) (xs (i + 1)) (xs (i + 2)) T
        rw [← ovC_ov hp1, hh1] at tr
        have j9 : jobC 9 (ovC C (ov m ad T hS) m) = true := lg_obj hp1
        have y1 : jaI (ovC C (ov m ad T hS)) scr (Int32.ofNat i + 1) = some (xs (i + 1)) := zw C T hw 1 (by omega)
        have y2 : jaI (ovC C (ov m ad T hS)) scr (Int32.ofNat i + 2) = some (xs (i + 2)) := zw C T hw 2 (by omega)
        refine start C2 T2 _ h3 h2 ?_
        unfold g_L_law_18
        rw [obd_some, hlen, obd_some, if_neg hcond, z0, obd_some, if_neg e0, if_neg e1, if_neg e2, if_neg e3, if_neg e4, if_neg e5, if_neg e6, if_neg e7, if_neg e8, if_neg e9, if_neg e10, if_neg e11, if_neg e12, if_neg e13, if_neg e14, if_neg e15, if_neg e16, if_neg e17, if_neg e18, if_neg e19, if_neg e20, if_neg e21, if_neg e22, if_neg e23, if_pos e24]
        (try simp only [ljoin] at tb tr)
        simp only [y1, y2, obd_some, hjob, jgd_true, tb.1, jbd2_some, j9, tr, if_true]
      obtain ⟨C2, T2, h2, h3⟩ := nx _ _ (hmo _ _ _ h0)
      refine start C2 T2 _ h3 h2 ?_
      unfold g_L_law_18
      rw [obd_some, hlen, obd_some, if_neg hcond, z0, obd_some, if_neg e0, if_neg e1, if_neg e2, if_neg e3, if_neg e4, if_neg e5, if_neg e6, if_neg e7, if_neg e8, if_neg e9, if_neg e10, if_neg e11, if_neg e12, if_neg e13, if_neg e14, if_neg e15, if_neg e16, if_neg e17, if_neg e18, if_neg e19, if_neg e20, if_neg e21, if_neg e22, if_neg e23, if_neg e24]
end LAW
section LSMONO
theorem ls_0_mono {N M bx : Nat} {I I' J J' : CT → MT → Prop} (h1 : ∀ C T, J C T → I C T) (h2 : ∀ C T, I' C T → J' C T) (h : ls_0 N M bx I I') : ls_0 N M bx J J' := fun C T a1 a2 a3 q => by
  obtain ⟨r, C1, T1, u, v, w⟩ := h C T a1 a2 a3 (h1 C T q)
  exact ⟨r, C1, T1, u, v, h2 _ _ w⟩
theorem ls_1_mono {N M bx : Nat} {I I' J J' : CT → MT → Prop} (h1 : ∀ C T, J C T → I C T) (h2 : ∀ C T, I' C T → J' C T) (h : ls_1 N M bx I I') : ls_1 N M bx J J' := fun C T a1 a2 a3 q => by
  obtain ⟨r, C1, T1, u, v, w⟩ := h C T a1 a2 a3 (h1 C T q)
  exact ⟨r, C1, T1, u, v, h2 _ _ w⟩
theorem ls_2_mono {N M bx : Nat} {I I' J J' : CT → MT → Prop} (h1 : ∀ C T, J C T → I C T) (h2 : ∀ C T, I' C T → J' C T) (h : ls_2 N M bx I I') : ls_2 N M bx J J' := fun C T a1 a2 a3 a4 q => by
  obtain ⟨r, C1, T1, u, v, w⟩ := h C T a1 a2 a3 a4 (h1 C T q)
  exact ⟨r, C1, T1, u, v, h2 _ _ w⟩
theorem ls_3_mono {N M bx : Nat} {I I' J J' : CT → MT → Prop} (h1 : ∀ C T, J C T → I C T) (h2 : ∀ C T, I' C T → J' C T) (h : ls_3 N M bx I I') : ls_3 N M bx J J' := fun C T a1 a2 a3 q => by
  obtain ⟨r, C1, T1, u, v, w⟩ := h C T a1 a2 a3 (h1 C T q)
  exact ⟨r, C1, T1, u, v, h2 _ _ w⟩
theorem ls_4_mono {N M bx : Nat} {I I' J J' : CT → MT → Prop} (h1 : ∀ C T, J C T → I C T) (h2 : ∀ C T, I' C T → J' C T) (h : ls_4 N M bx I I') : ls_4 N M bx J J' := fun C T  q => by
  obtain ⟨r, C1, T1, u, v, w⟩ := h C T  (h1 C T q)
  exact ⟨r, C1, T1, u, v, h2 _ _ w⟩
theorem ls_5_mono {N M bx : Nat} {I I' J J' : CT → MT → Prop} (h1 : ∀ C T, J C T → I C T) (h2 : ∀ C T, I' C T → J' C T) (h : ls_5 N M bx I I') : ls_5 N M bx J J' := fun C T a1 a2 q => by
  obtain ⟨r, C1, T1, u, v, w⟩ := h C T a1 a2 (h1 C T q)
  exact ⟨r, C1, T1, u, v, h2 _ _ w⟩
theorem ls_6_mono {N M bx : Nat} {I I' J J' : CT → MT → Prop} (h1 : ∀ C T, J C T → I C T) (h2 : ∀ C T, I' C T → J' C T) (h : ls_6 N M bx I I') : ls_6 N M bx J J' := fun C T a1 a2 a3 a4 a5 q => by
  obtain ⟨r, C1, T1, u, v, w⟩ := h C T a1 a2 a3 a4 a5 (h1 C T q)
  exact ⟨r, C1, T1, u, v, h2 _ _ w⟩
theorem ls_7_mono {N M bx : Nat} {I I' J J' : CT → MT → Prop} (h1 : ∀ C T, J C T → I C T) (h2 : ∀ C T, I' C T → J' C T) (h : ls_7 N M bx I I') : ls_7 N M bx J J' := fun C T a1 a2 q => by
  obtain ⟨r, C1, T1, u, v, w⟩ := h C T a1 a2 (h1 C T q)
  exact ⟨r, C1, T1, u, v, h2 _ _ w⟩
theorem ls_8_mono {N M bx : Nat} {I I' J J' : CT → MT → Prop} (h1 : ∀ C T, J C T → I C T) (h2 : ∀ C T, I' C T → J' C T) (h : ls_8 N M bx I I') : ls_8 N M bx J J' := fun C T a1 a2 q => by
  obtain ⟨r, C1, T1, u, v, w⟩ := h C T a1 a2 (h1 C T q)
  exact ⟨r, C1, T1, u, v, h2 _ _ w⟩
theorem ls_9_mono {N M bx : Nat} {I I' J J' : CT → MT → Prop} (h1 : ∀ C T, J C T → I C T) (h2 : ∀ C T, I' C T → J' C T) (h : ls_9 N M bx I I') : ls_9 N M bx J J' := fun C T a1 a2 a3 q => by
  obtain ⟨r, C1, T1, u, v, w⟩ := h C T a1 a2 a3 (h1 C T q)
  exact ⟨r, C1, T1, u, v, h2 _ _ w⟩
theorem ls_10_mono {N M bx : Nat} {I I' J J' : CT → MT → Prop} (h1 : ∀ C T, J C T → I C T) (h2 : ∀ C T, I' C T → J' C T) (h : ls_10 N M bx I I') : ls_10 N M bx J J' := fun C T a1 a2 q => by
  obtain ⟨r, C1, T1, u, v, w⟩ := h C T a1 a2 (h1 C T q)
  exact ⟨r, C1, T1, u, v, h2 _ _ w⟩
theorem ls_11_mono {N M bx : Nat} {I I' J J' : CT → MT → Prop} (h1 : ∀ C T, J C T → I C T) (h2 : ∀ C T, I' C T → J' C T) (h : ls_11 N M bx I I') : ls_11 N M bx J J' := fun C T a1 a2 q => by
  obtain ⟨r, C1, T1, u, v, w⟩ := h C T a1 a2 (h1 C T q)
  exact ⟨r, C1, T1, u, v, h2 _ _ w⟩
theorem ls_12_mono {N M bx : Nat} {I I' J J' : CT → MT → Prop} (h1 : ∀ C T, J C T → I C T) (h2 : ∀ C T, I' C T → J' C T) (h : ls_12 N M bx I I') : ls_12 N M bx J J' := fun C T a1 a2 q => by
  obtain ⟨r, C1, T1, u, v, w⟩ := h C T a1 a2 (h1 C T q)
  exact ⟨r, C1, T1, u, v, h2 _ _ w⟩
theorem ls_13_mono {N M bx : Nat} {I I' J J' : CT → MT → Prop} (h1 : ∀ C T, J C T → I C T) (h2 : ∀ C T, I' C T → J' C T) (h : ls_13 N M bx I I') : ls_13 N M bx J J' := fun C T a1 a2 q => by
  obtain ⟨r, C1, T1, u, v, w⟩ := h C T a1 a2 (h1 C T q)
  exact ⟨r, C1, T1, u, v, h2 _ _ w⟩
theorem ls_14_mono {N M bx : Nat} {I I' J J' : CT → MT → Prop} (h1 : ∀ C T, J C T → I C T) (h2 : ∀ C T, I' C T → J' C T) (h : ls_14 N M bx I I') : ls_14 N M bx J J' := fun C T a1 q => by
  obtain ⟨r, C1, T1, u, v, w⟩ := h C T a1 (h1 C T q)
  exact ⟨r, C1, T1, u, v, h2 _ _ w⟩
theorem ls_15_mono {N M bx : Nat} {I I' J J' : CT → MT → Prop} (h1 : ∀ C T, J C T → I C T) (h2 : ∀ C T, I' C T → J' C T) (h : ls_15 N M bx I I') : ls_15 N M bx J J' := fun C T a1 q => by
  obtain ⟨r, C1, T1, u, v, w⟩ := h C T a1 (h1 C T q)
  exact ⟨r, C1, T1, u, v, h2 _ _ w⟩
theorem ls_16_mono {N M bx : Nat} {I I' J J' : CT → MT → Prop} (h1 : ∀ C T, J C T → I C T) (h2 : ∀ C T, I' C T → J' C T) (h : ls_16 N M bx I I') : ls_16 N M bx J J' := fun C T a1 q => by
  obtain ⟨r, C1, T1, u, v, w⟩ := h C T a1 (h1 C T q)
  exact ⟨r, C1, T1, u, v, h2 _ _ w⟩
theorem ls_17_mono {N M bx : Nat} {I I' J J' : CT → MT → Prop} (h1 : ∀ C T, J C T → I C T) (h2 : ∀ C T, I' C T → J' C T) (h : ls_17 N M bx I I') : ls_17 N M bx J J' := fun C T a1 q => by
  obtain ⟨r, C1, T1, u, v, w⟩ := h C T a1 (h1 C T q)
  exact ⟨r, C1, T1, u, v, h2 _ _ w⟩
theorem ls_18_mono {N M bx : Nat} {I I' J J' : CT → MT → Prop} (h1 : ∀ C T, J C T → I C T) (h2 : ∀ C T, I' C T → J' C T) (h : ls_18 N M bx I I') : ls_18 N M bx J J' := fun C T a1 q => by
  obtain ⟨r, C1, T1, u, v, w⟩ := h C T a1 (h1 C T q)
  exact ⟨r, C1, T1, u, v, h2 _ _ w⟩
theorem ls_19_mono {N M bx : Nat} {I I' J J' : CT → MT → Prop} (h1 : ∀ C T, J C T → I C T) (h2 : ∀ C T, I' C T → J' C T) (h : ls_19 N M bx I I') : ls_19 N M bx J J' := fun C T a1 q => by
  obtain ⟨r, C1, T1, u, v, w⟩ := h C T a1 (h1 C T q)
  exact ⟨r, C1, T1, u, v, h2 _ _ w⟩
theorem ls_20_mono {N M bx : Nat} {I I' J J' : CT → MT → Prop} (h1 : ∀ C T, J C T → I C T) (h2 : ∀ C T, I' C T → J' C T) (h : ls_20 N M bx I I') : ls_20 N M bx J J' := fun C T a1 a2 a3 q => by
  obtain ⟨r, C1, T1, u, v, w⟩ := h C T a1 a2 a3 (h1 C T q)
  exact ⟨r, C1, T1, u, v, h2 _ _ w⟩
theorem ls_21_mono {N M bx : Nat} {I I' J J' : CT → MT → Prop} (h1 : ∀ C T, J C T → I C T) (h2 : ∀ C T, I' C T → J' C T) (h : ls_21 N M bx I I') : ls_21 N M bx J J' := fun C T a1 a2 q => by
  obtain ⟨r, C1, T1, u, v, w⟩ := h C T a1 a2 (h1 C T q)
  exact ⟨r, C1, T1, u, v, h2 _ _ w⟩
theorem ls_22_mono {N M bx : Nat} {I I' J J' : CT → MT → Prop} (h1 : ∀ C T, J C T → I C T) (h2 : ∀ C T, I' C T → J' C T) (h : ls_22 N M bx I I') : ls_22 N M bx J J' := fun C T a1 a2 q => by
  obtain ⟨r, C1, T1, u, v, w⟩ := h C T a1 a2 (h1 C T q)
  exact ⟨r, C1, T1, u, v, h2 _ _ w⟩
theorem ls_23_mono {N M bx : Nat} {I I' J J' : CT → MT → Prop} (h1 : ∀ C T, J C T → I C T) (h2 : ∀ C T, I' C T → J' C T) (h : ls_23 N M bx I I') : ls_23 N M bx J J' := fun C T a1 q => by
  obtain ⟨r, C1, T1, u, v, w⟩ := h C T a1 (h1 C T q)
  exact ⟨r, C1, T1, u, v, h2 _ _ w⟩
theorem ls_24_mono {N M bx : Nat} {I I' J J' : CT → MT → Prop} (h1 : ∀ C T, J C T → I C T) (h2 : ∀ C T, I' C T → J' C T) (h : ls_24 N M bx I I') : ls_24 N M bx J J' := fun C T a1 a2 q => by
  obtain ⟨r, C1, T1, u, v, w⟩ := h C T a1 a2 (h1 C T q)
  exact ⟨r, C1, T1, u, v, h2 _ _ w⟩
end LSMONO
