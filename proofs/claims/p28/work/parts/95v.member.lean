/-! a chain remade: one member more -/
section MEMBER
variable {G : GT} {E B bx m : Nat} {ad ad0 : Nat → Nat} {S S0 S2 : ST} {A A0 A2 : AT} {C C0 C2 V V2 : CT} {T0 : MT} {X Y : Nat → Prop} {s c n st q p b' : Nat} {α L : Nat → Nat}
theorem om_cong {α' L' : Nat → Nat} {nl : Nat} (h : OM C q n α nl L) (ha : ∀ r, r < n → α r = α' r) (hl : ∀ r, r < nl → L r = L' r) : OM C q n α' nl L' := by
  obtain ⟨h1, ⟨h2, h3, h4⟩, ⟨h5, h6, h7⟩, h8⟩ := h
  refine ⟨h1, ⟨h2, h3, fun p hp => ?_⟩, ⟨h5, h6, fun i hi => ?_⟩, h8⟩
  · rw [h4 p hp]
    by_cases g : p < n
    · rw [if_pos g, if_pos g, ha p g]
    · rw [if_neg g, if_neg g]
  · rw [h7 i hi]
    by_cases g : i < nl
    · rw [if_pos g, if_pos g, hl i g]
    · rw [if_neg g, if_neg g]
theorem mem_tail (J0 : JJ G E B bx m ad0 S0 A0 C0 T0) (s3 : st < 3) (hs : s < S0.1 1 0) (hok : allR (okf S0 st s) 0 (nfac (S0.1 2 s)) = true) (hx : Ex S0 S2) (J : JJ G E B bx m ad S2 A2 V2 (tOf S2)) (P : Pd X Y C2 V2) (hX : ∀ a, X a → ∃ s', S0.1 1 0 ≤ s' ∧ s' < S2.1 1 0 ∧ a = A2 7 s')
    (hO : OM C2 q p α 0 L) (hU : ∀ t i, VA S2 t i → t ≠ 0 → A2 t i < q ∨ q + 4 ≤ A2 t i) (hbq : bx < q) (hqc : q + 4 ≤ (ck C2).1) (h60 : S2.1 1 0 < 60) (hp : p < 10) (hb16 : b' ≤ S2.1 16 0) (hYn : b' ≠ 0 → ¬ Y (A2 1 (b' - 1))) {N : Nat} (hN : 100 ≤ N) {kS : Nat → Option Nat → Int32 → Option Nat → Int32 → CT → Option (Option Nat × CT)} {k21 : Nat → Option Nat → Int32 → Option Nat → Int32 → Nat → Int32 → CT → Option (Option Nat × CT)} {a1 : Nat} {v4 : Int32} :
    ∃ A3 V3 C3, c_B_remade_72 N kS k21 bx a1 (i32 st) (some (A2 5 st)) v4 q (i32 p) (A2 7 s) (oA A2 1 b') C2 = k21 bx (some a1) (i32 st) (some (A2 5 st)) v4 q (i32 (p + 1)) C3 ∧ JJ G E B bx m ad (cpS S0 st s S2) A3 V3 (tOf (cpS S0 st s S2)) ∧ Pd (fun a => X a ∨ a = A3 7 (S2.1 1 0)) (fun a => Y a ∨ (b' ≠ 0 ∧ a = A3 1 (b' - 1))) C3 V3 ∧
      OM C3 q (p + 1) (fun r => if r = p then A3 7 (S2.1 1 0) else α r) 0 L ∧ AE S2 A2 (cpS S0 st s S2) A3 (ck C2).1 ∧ ((ck C2).1 ≤ (ck C3).1 ∧ ∀ a, a < (ck C2).1 → a ≠ bx → a ≠ A2 3 0 → a ≠ A2 3 1 → a ≠ q → a ≠ q + 1 → (b' ≠ 0 → a ≠ A2 1 (b' - 1)) → Ag C2 C3 a) ∧ (∀ u w, RQ u w S2 A2 V2 → RQ u w (cpS S0 st s S2) A3 V3) ∧
      (C3.2.2.2.2.1 124 (A3 7 (S2.1 1 0)) 0 = some q ∧ C3.2.2.1 125 (A3 7 (S2.1 1 0)) 0 = i32 p ∧ C3.2.2.2.2.1 126 (A3 7 (S2.1 1 0)) 0 = oA A3 1 b' ∧ (b' ≠ 0 → C3.2.2.2.2.1 25 (A3 1 (b' - 1)) 0 = some (A3 7 (S2.1 1 0)))) := by
  have hXs : ¬ X (A2 7 s) := fun z => by
    obtain ⟨s', z1, z2, z3⟩ := hX _ z
    have := (J.2.1.2.2.2 7 s 7 s' (show s < S2.1 1 0 by have := hx.1.1; omega) z2 z3).2
    omega
  obtain ⟨A3, V3, C3, r1, J3, P3, ae, fm, rq, hge⟩ := remSec J0 s3 hs hok hx J P hXs h60 hN
  obtain ⟨-, -, k1, k16, k2, k3, k8, k10⟩ := cp_facts J0 hs s3 hok J.2.2.2.1 h60
  have hb2 := pd_RCb P (jj_b J)
  have hw3 := pd_CW P3 J3.1.1
  have u30 := hU 3 0 (show (0 : Nat) < 4 by decide) (by decide)
  have u31 := hU 3 1 (show (1 : Nat) < 4 by decide) (by decide)
  have gq : ∀ o, o < 4 → Ag C2 C3 (q + o) := fun o ho => fm.2 (q + o) (by omega) (by omega) (by omega) (by omega)
  have hO3 : OM C3 q p α 0 L := om_ag hO (gq 0 (by decide)) (gq 1 (by decide)) (gq 2 (by decide)) (gq 3 (by decide))
  have hnS : S2.1 1 0 < (cpS S0 st s S2).1 1 0 := by rw [k1]; omega
  have hXn : ¬ X (A3 7 (S2.1 1 0)) := fun z => by
    obtain ⟨s', z1, z2, z3⟩ := hX _ z
    rw [← ae.1 7 s' z2 (by decide)] at z3
    have := (J3.2.1.2.2.2 7 (S2.1 1 0) 7 s' hnS (show s' < (cpS S0 st s S2).1 1 0 by rw [k1]; omega) z3).2
    omega
  have hnr : RCs (cpS S0 st s S2) A3 C3 (S2.1 1 0) := pd_RCs P3 (jj_s J3 hnS) hXn
  have t7 : C3.1 (A3 7 (S2.1 1 0)) = 8 := rs_tag hnr
  have hne : A3 7 (S2.1 1 0) ≠ q := by omega
  have hjr := join_run hO3 t7 hp
  have vaS : ∀ t i, VA S2 t i → VA (cpS S0 st s S2) t i := fun t i h => by
    have k20 : (cpS S0 st s S2).1 20 = S2.1 20 := (cpS_k (by decide) (by decide)).trans (secS_k (by decide) (by decide))
    have k44 : (cpS S0 st s S2).1 44 = S2.1 44 := (cpS_k (by decide) (by decide)).trans (secS_k (by decide) (by decide))
    unfold VA at h ⊢
    rw [k1, k16, k20, k44]
    split at h <;> first | exact h | (show _ < _ + 1; omega)
  have hU3 : ∀ t i, VA (cpS S0 st s S2) t i → t ≠ 0 → A3 t i < q ∨ q + 4 ≤ A3 t i := fun t i h h0 => by
    rcases ae.2 t i h h0 with z | z
    · rw [ae.1 t i z h0]; exact hU t i z h0
    · omega
  have tqC : V3.1 q = 2 := by rw [← P3.1.1]; exact hO3.1.1
  have tqC1 : V3.1 (q + 1) = 37 := by rw [← P3.1.1]; exact hO3.2.1.1
  have hA5 : A3 5 st = A2 5 st := ae.1 5 st (show st < 3 from s3) (by decide)
  have hA20 : A3 2 0 = A2 2 0 := ae.1 2 0 rfl (by decide)
  have J4 : JJ G E B bx m ad (cpS S0 st s S2) A3 (csI (csA V3 900 (q + 1) p (some (A3 7 (S2.1 1 0)))) 18 q 0 (i32 p + 1)) (tOf (cpS S0 st s S2)) :=
    jj_un (q := q) (q1 := q + 1) J3 (fun a _ h1 h2 => ag_csI (ag_csA (Ag.refl _ _) h2) h1) (cw_csI (cw_csA J3.1.1 (by rw [tqC1]; decide)) (by show V3.1 q ≠ 0; rw [tqC]; decide)) (Nat.le_refl _) tqC (Or.inl tqC1) (fun t i h h0 => by have := hU3 t i h h0; omega) (ro_same (S := cpS S0 st s S2) (A := A3) (C := V3) J3.1.2.2 rfl rfl rfl (fun _ _ => rfl) rfl (by simp [csI, csA, up3]) rfl)
  have rq4 : ∀ u w, RQ u w S2 A2 V2 → RQ u w (cpS S0 st s S2) A3 (csI (csA V3 900 (q + 1) p (some (A3 7 (S2.1 1 0)))) 18 q 0 (i32 p + 1)) := fun u w h => ro_same (S := cpS S0 st s S2) (A := A3) (C := V3) (rq u w h) rfl rfl rfl (fun _ _ => rfl) rfl (by simp [csI, csA, up3]) rfl
  have lt7 : A3 7 (S2.1 1 0) < (ck V3).1 := (J3.1.1.2.1 _ (by rw [rs_tag (jj_s J3 hnS)]; decide)).2
  have P4 : Pd (fun a => X a ∨ a = A3 7 (S2.1 1 0)) (fun a => Y a ∨ (b' ≠ 0 ∧ a = A3 1 (b' - 1))) C3 V3 := by
    refine pd_more P3 (fun a z => Or.inl z) (fun a z => Or.inl z) (fun a z => ?_) (fun a z => ?_)
    · rcases z with z | rfl
      · exact P3.2.2.2.1 a z
      · exact ⟨rs_tag (jj_s J3 hnS), lt7⟩
    · rcases z with z | ⟨z1, rfl⟩
      · exact P3.2.2.2.2 a z
      · have t1 := rc_tag (jj_c J3 (c := b' - 1) (by rw [k16]; omega))
        exact ⟨t1, (J3.1.1.2.1 _ (by rw [t1]; decide)).2⟩
  have P5 := pd_join (q := q) (p := p) P4 (Or.inr rfl : (fun a => X a ∨ a = A3 7 (S2.1 1 0)) (A3 7 (S2.1 1 0)))
  have hO5 := om_join (p := p) hO3 hne
  have agj : ∀ a, a ≠ q → a ≠ q + 1 → a ≠ A3 7 (S2.1 1 0) → Ag C3 (jnC C3 (q + 1) q (A3 7 (S2.1 1 0)) p) a := fun a h1 h2 h3 => ag_csI (ag_csI (ag_csA (ag_csA (Ag.refl _ _) h2) h3) h3) h1
  have pre : c_B_remade_72 N kS k21 bx a1 (i32 st) (some (A2 5 st)) v4 q (i32 p) (A2 7 s) (oA A2 1 b') C2 = jon (oA A2 1 b') (k21 bx (some a1) (i32 st) (some (A2 5 st)) v4 q (i32 (p + 1)) (jnC C3 (q + 1) q (A3 7 (S2.1 1 0)) p)) (fun a5 => obd (cpA (jnC C3 (q + 1) q (A3 7 (S2.1 1 0)) p) (A3 7 (S2.1 1 0)) 7 14 (some a5)) fun C6 => obd (cpA C6 a5 1 9 (some (A3 7 (S2.1 1 0)))) fun C7 => k21 bx (some a1) (i32 st) (some (A2 5 st)) v4 q (i32 (p + 1)) C7) := by
    unfold c_B_remade_72 c_B_remade_117
    rw [cob_of (ci := 0) (rb_tag hb2), jgd_true, r1, cbd2_some, jon_some, cob_of (ci := 1) hO3.1.1, jgd_true, hjr, obd_some, show i32 p + 1 = i32 (p + 1) from i32_add p 1]
  have hag1 : ∀ a, a < (ck C2).1 → a ≠ bx → a ≠ A2 3 0 → a ≠ A2 3 1 → a ≠ q → a ≠ q + 1 → Ag C2 (jnC C3 (q + 1) q (A3 7 (S2.1 1 0)) p) a := fun a h1 h2 h3 h4 h5 h6 => ag_trans (fm.2 a h1 h2 h3 h4) (agj a h5 h6 (by omega))
  have f124 : (jnC C3 (q + 1) q (A3 7 (S2.1 1 0)) p).2.2.2.2.1 124 (A3 7 (S2.1 1 0)) 0 = some q := by simp [jnC, csI, csA, up3]
  have f125 : (jnC C3 (q + 1) q (A3 7 (S2.1 1 0)) p).2.2.1 125 (A3 7 (S2.1 1 0)) 0 = i32 p := by simp [jnC, csI, csA, up3]
  by_cases h0 : b' = 0
  · subst h0
    have f126 : (jnC C3 (q + 1) q (A3 7 (S2.1 1 0)) p).2.2.2.2.1 126 (A3 7 (S2.1 1 0)) 0 = none := by
      have e1 : (jnC C3 (q + 1) q (A3 7 (S2.1 1 0)) p).2.2.2.2.1 126 (A3 7 (S2.1 1 0)) 0 = C3.2.2.2.2.1 126 (A3 7 (S2.1 1 0)) 0 := by simp [jnC, csI, csA, up3]
      have e2 := hnr.2.1.2.2.2.2.2.2.2
      rw [k10] at e2
      rw [e1, e2]
      rfl
    refine ⟨A3, _, _, pre, J4, P5, hO5, ae, ⟨?_, fun a h1 h2 h3 h4 h5 h6 _ => hag1 a h1 h2 h3 h4 h5 h6⟩, rq4, f124, f125, f126, fun z => absurd rfl z⟩
    exact fm.1
  · obtain ⟨d', rfl⟩ : ∃ d', b' = d' + 1 := ⟨b' - 1, by omega⟩
    have hd16 : d' < S2.1 16 0 := by omega
    have eA1 : A3 1 d' = A2 1 d' := ae.1 1 d' hd16 (by decide)
    have t1 : V3.1 (A3 1 d') = 2 := rc_tag (jj_c J3 (by rw [k16]; exact hd16))
    have t1C : C3.1 (A3 1 d') = 2 := by rw [P3.1.1]; exact t1
    have hn1 : A3 1 d' ≠ A3 7 (S2.1 1 0) := fun z => by rw [z, t7] at t1C; exact absurd t1C (by decide)
    have u1 := hU3 1 d' (show d' < (cpS S0 st s S2).1 16 0 by rw [k16]; exact hd16) (by decide)
    have e14 : cpA (jnC C3 (q + 1) q (A3 7 (S2.1 1 0)) p) (A3 7 (S2.1 1 0)) 7 14 (some (A2 1 d')) = some (csA (jnC C3 (q + 1) q (A3 7 (S2.1 1 0)) p) 126 (A3 7 (S2.1 1 0)) 0 (some (A2 1 d'))) := cpA_of (ci := 7) (by exact t7) (by decide) (by decide)
    have e9 : cpA (csA (jnC C3 (q + 1) q (A3 7 (S2.1 1 0)) p) 126 (A3 7 (S2.1 1 0)) 0 (some (A2 1 d'))) (A2 1 d') 1 9 (some (A3 7 (S2.1 1 0))) = some (csA (csA (jnC C3 (q + 1) q (A3 7 (S2.1 1 0)) p) 126 (A3 7 (S2.1 1 0)) 0 (some (A2 1 d'))) 25 (A2 1 d') 0 (some (A3 7 (S2.1 1 0)))) := cpA_of (ci := 1) (by rw [← eA1]; exact t1C) (by decide) (by decide)
    have eo : oA A2 1 (d' + 1) = some (A2 1 d') := rfl
    rw [eo, jon_some, e14, obd_some, e9, obd_some] at pre
    have ed : d' + 1 - 1 = d' := by omega
    rw [ed] at P5 hYn
    refine ⟨A3, _, _, pre, J4, ?_, ?_, ae, ⟨?_, fun a h1 h2 h3 h4 h5 h6 h7 => ?_⟩, rq4, ?_, ?_, ?_, fun _ => ?_⟩
    · rw [ed]
      exact pd_l25 (pd_l124 P5 (Or.inr rfl : (fun a => X a ∨ a = A3 7 (S2.1 1 0)) (A3 7 (S2.1 1 0))) (Or.inr rfl)) (Or.inr ⟨by omega, eA1.symm⟩ : (fun a => Y a ∨ (d' + 1 ≠ 0 ∧ a = A3 1 d')) (A2 1 d'))
    · rw [eA1] at u1
      have g : ∀ o, o < 4 → Ag (jnC C3 (q + 1) q (A3 7 (S2.1 1 0)) p) (csA (csA (jnC C3 (q + 1) q (A3 7 (S2.1 1 0)) p) 126 (A3 7 (S2.1 1 0)) 0 (some (A2 1 d'))) 25 (A2 1 d') 0 (some (A3 7 (S2.1 1 0)))) (q + o) := fun o ho => ag_csA (ag_csA (Ag.refl _ _) (by omega)) (by omega)
      exact om_ag hO5 (g 0 (by decide)) (g 1 (by decide)) (g 2 (by decide)) (g 3 (by decide))
    · exact fm.1
    · rw [ed] at h7
      exact ag_csA (ag_csA (hag1 a h1 h2 h3 h4 h5 h6) (by omega)) (h7 (by omega))
    · have e1 : (csA (csA (jnC C3 (q + 1) q (A3 7 (S2.1 1 0)) p) 126 (A3 7 (S2.1 1 0)) 0 (some (A2 1 d'))) 25 (A2 1 d') 0 (some (A3 7 (S2.1 1 0)))).2.2.2.2.1 124 (A3 7 (S2.1 1 0)) 0 = (jnC C3 (q + 1) q (A3 7 (S2.1 1 0)) p).2.2.2.2.1 124 (A3 7 (S2.1 1 0)) 0 := by simp [csA, up3]
      rw [e1]; exact f124
    · exact f125
    · have hn1' : A3 7 (S2.1 1 0) ≠ A2 1 d' := by rw [← eA1]; exact Ne.symm hn1
      show _ = some (A3 1 d')
      rw [eA1]
      simp [csA, up3]
    · rw [ed, eA1]
      simp [csA, up3]
end MEMBER
