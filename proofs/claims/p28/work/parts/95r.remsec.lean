/-! a chain remade: one section -/
section REMSEC
variable {G : GT} {E B bx m : Nat} {ad : Nat → Nat} {S S0 Z : ST} {A A0 A' : AT} {C C0 C' V V' : CT} {T0 : MT} {X Y : Nat → Prop} {s c n st : Nat}
/-- what lay somewhere lies there still; what is new lies above -/
def AE (S : ST) (A : AT) (S' : ST) (A' : AT) (q : Nat) : Prop := (∀ t i, VA S t i → t ≠ 0 → A' t i = A t i) ∧ ∀ t i, VA S' t i → t ≠ 0 → VA S t i ∨ q ≤ A' t i
/-- what stays of a heap -/
def Fm (A : AT) (bx : Nat) (C C' : CT) : Prop := (ck C).1 ≤ (ck C').1 ∧ ∀ a, a < (ck C).1 → a ≠ bx → a ≠ A 3 0 → a ≠ A 3 1 → Ag C C' a
theorem Fm.trans {A' : AT} {C'' : CT} (h : Fm A bx C C') (h' : Fm A' bx C' C'') (e0 : A' 3 0 = A 3 0) (e1 : A' 3 1 = A 3 1) : Fm A bx C C'' := ⟨Nat.le_trans h.1 h'.1, fun a ha h1 h2 h3 => ag_trans (h.2 a ha h1 h2 h3) (h'.2 a (Nat.lt_of_lt_of_le ha h.1) h1 (by rw [e0]; exact h2) (by rw [e1]; exact h3))⟩
theorem AE.trans {S' S'' : ST} {A'' : AT} {q q' : Nat} (h : AE S A S' A' q) (h' : AE S' A' S'' A'' q') (hq : q ≤ q') (hv : ∀ t i, VA S t i → VA S' t i) : AE S A S'' A'' q := by
  refine ⟨fun t i ht h0 => (h'.1 t i (hv t i ht) h0).trans (h.1 t i ht h0), fun t i ht h0 => ?_⟩
  rcases h'.2 t i ht h0 with z | z
  · rcases h.2 t i z h0 with w | w
    · exact Or.inl w
    · exact Or.inr (by rw [h'.1 t i z h0]; exact w)
  · exact Or.inr (by omega)
theorem rem26_go (J0 : JJ G E B bx m ad S0 A0 C0 T0) {ad' : Nat → Nat} (s3 : st < 3) (hs : s < S0.1 1 0) (hok : allR (okf S0 st s) 0 (nfac (S0.1 2 s)) = true) (hx : Ex S0 Z) (hn : n < Z.1 1 0) (hsn : S0.1 1 0 ≤ n) (k2 : Z.1 2 n = S0.1 2 s) (k3 : Z.1 3 n = st) (hXs : ¬ X (A 7 s)) (hXn : ¬ X (A 7 n)) {N : Nat} : ∀ (q g k : Nat) (V C : CT), JJ G E B bx m ad' (cfS S0 st s n k Z) A V (tOf (cfS S0 st s n k Z)) → Pd X Y C V → k + q = nfac (S0.1 2 s) → q < g →
    ∃ V' C', c_B_remadeSection_26 N g bx (A 7 s) (i32 st) (some (A 5 st)) (A 7 n) (i32 k) C = some (some (A 7 n), C') ∧ JJ G E B bx m ad' (rlS S0 st s n (cfS S0 st s n (nfac (S0.1 2 s)) Z)) A V' (tOf (rlS S0 st s n (cfS S0 st s n (nfac (S0.1 2 s)) Z))) ∧ Pd X Y C' V' ∧ (∀ a, a ≠ A 7 n → a ≠ A 117 n → Ag C C' a) ∧ ck C' = ck C ∧ ck V' = ck V
  | 0, 0, _, _, _, _, _, _, h => absurd h (by omega)
  | 0, g + 1, k, V, C, J, P, hk, _ => by
    have ek : k = nfac (S0.1 2 s) := by omega
    subst ek
    have n5 := nfac_5 (S0.1 2 s)
    have e1 : (cfS S0 st s n (nfac (S0.1 2 s)) Z).1 = Z.1 := cfS_1
    have hsZ : s < Z.1 1 0 := by omega
    have xs := (hx.2.1 s hs).1
    have hsr : RCs (cfS S0 st s n (nfac (S0.1 2 s)) Z) A C s := pd_RCs P (jj_s J (by rw [e1]; exact hsZ)) hXs
    have hnr : RCs (cfS S0 st s n (nfac (S0.1 2 s)) Z) A C n := pd_RCs P (jj_s J (by rw [e1]; exact hn)) hXn
    have ws := jj_ws J0 hs
    have h3 := so_lt J0 hs
    have tn : C.1 (A 7 n) = 7 + 1 := rs_tag hnr
    have ts : C.1 (A 7 s) = 7 + 1 := rs_tag hsr
    have e2 : (cfS S0 st s n (nfac (S0.1 2 s)) Z).1 2 s = S0.1 2 s := by rw [e1]; exact xs 2 (by decide)
    have e3 : (cfS S0 st s n (nfac (S0.1 2 s)) Z).1 3 s = S0.1 3 s := by rw [e1]; exact xs 3 (by decide)
    have e5 : (cfS S0 st s n (nfac (S0.1 2 s)) Z).1 5 s = S0.1 5 s := by rw [e1]; exact xs 5 (by decide)
    have e6 : (cfS S0 st s n (nfac (S0.1 2 s)) Z).1 6 s = S0.1 6 s := by rw [e1]; exact xs 6 (by decide)
    have r5 := rs_rounding hsr
    have r6 := rs_limit hsr
    have r3 := rs_sort hsr
    have rc := factorCountR hsr
    rw [e2] at rc
    rw [e3] at r3
    rw [e5] at r5
    rw [e6] at r6
    have pre : c_B_remadeSection_26 N (g + 1) bx (A 7 s) (i32 st) (some (A 5 st)) (A 7 n) (i32 (nfac (S0.1 2 s))) C = if i32 (S0.1 3 s) = (2 : Int32) then (if i32 st = (2 : Int32) then some (some (A 7 n), csI (csI C 119 (A 7 n) 0 (i32 (S0.1 5 s))) 120 (A 7 n) 0 (i32 (S0.1 6 s))) else some (some (A 7 n), C)) else some (some (A 7 n), C) := by
      unfold c_B_remadeSection_26
      rw [cob_of ts, jgd_true, rc, obd_some, if_pos (Int32.le_refl _), r3, obd_some, r5, obd_some, cpI_of (ci := 7) tn (by decide) (by decide), obd_some]
      have q6 : cgI (csI C (16 * 7 + 7) (A 7 n) 0 (i32 (S0.1 5 s))) (A 7 s) 7 8 = some (i32 (S0.1 6 s)) := (cgI_csI_ne (by decide)).trans r6
      rw [q6, obd_some, cpI_of (ci := 7) (C := csI C (16 * 7 + 7) (A 7 n) 0 (i32 (S0.1 5 s))) tn (by decide) (by decide), obd_some]
    by_cases c3 : S0.1 3 s = 2
    · by_cases c4 : st = 2
      · have er : rlS S0 st s n (cfS S0 st s n (nfac (S0.1 2 s)) Z) = uN (uN (cfS S0 st s n (nfac (S0.1 2 s)) Z) 5 n (S0.1 5 s)) 6 n (S0.1 6 s) := if_pos ⟨c3, c4⟩
        have J' := jj_rule J (s := n) (r := S0.1 5 s) (l := S0.1 6 s) (by rw [e1]; exact hn) (by rw [e1, k3]; exact c4) ws.2.1.1 ws.2.1.2
        rw [pre, if_pos (by rw [c3]; rfl), if_pos (by rw [c4]; rfl), er]
        refine ⟨_, _, rfl, jj_T J' (rt_tOf _), pd_I (pd_I P), fun a h1 h2 => ag_csI (ag_csI (Ag.refl _ _) h1) h1, rfl, rfl⟩
      · have er : rlS S0 st s n (cfS S0 st s n (nfac (S0.1 2 s)) Z) = cfS S0 st s n (nfac (S0.1 2 s)) Z := if_neg (fun q => c4 q.2)
        rw [pre, if_pos (by rw [c3]; rfl), if_neg (show ¬ i32 st = (2 : Int32) from i32_ne (b := 2) (by omega) (by decide) c4), er]
        exact ⟨V, C, rfl, J, P, fun a _ _ => Ag.refl _ _, rfl, rfl⟩
    · have er : rlS S0 st s n (cfS S0 st s n (nfac (S0.1 2 s)) Z) = cfS S0 st s n (nfac (S0.1 2 s)) Z := if_neg (fun q => c3 q.1)
      rw [pre, if_neg (show ¬ i32 (S0.1 3 s) = (2 : Int32) from i32_ne (b := 2) (by omega) (by decide) c3), er]
      exact ⟨V, C, rfl, J, P, fun a _ _ => Ag.refl _ _, rfl, rfl⟩
  | q + 1, 0, _, _, _, _, _, _, h => absurd h (by omega)
  | q + 1, g + 1, k, V, C, J, P, hk, hg => by
    have n5 := nfac_5 (S0.1 2 s)
    have e1 : (cfS S0 st s n k Z).1 = Z.1 := cfS_1
    have hsZ : s < Z.1 1 0 := by omega
    have hxk : Ex S0 (cfS S0 st s n k Z) := by
      clear hk hg J P
      induction k with
      | zero => exact hx
      | succ k ih => exact ex_cf (ih (cfS_1)) hsn
    have xs := (hxk.2.1 s hs).1
    have hb : RCb (cfS S0 st s n k Z) A C bx := pd_RCb P (jj_b J)
    have hsr : RCs (cfS S0 st s n k Z) A C s := pd_RCs P (jj_s J (by rw [e1]; exact hsZ)) hXs
    have hnr : RCs (cfS S0 st s n k Z) A C n := pd_RCs P (jj_s J (by rw [e1]; exact hn)) hXn
    have h3 := so_lt J0 hs
    have hv := cf_vb J0 hs (k := k) (by omega)
    have e2 : (cfS S0 st s n k Z).1 2 s = S0.1 2 s := xs 2 (by decide)
    have e3 : (cfS S0 st s n k Z).1 3 s = S0.1 3 s := xs 3 (by decide)
    have e7 : (cfS S0 st s n k Z).2.1 7 (5 * s + k) = S0.2.1 7 (5 * s + k) := (hxk.2.1 s hs).2.2 k (by omega)
    have en2 : (cfS S0 st s n k Z).1 2 n = S0.1 2 s := by rw [e1]; exact k2
    have en3 : (cfS S0 st s n k Z).1 3 n = st := by rw [e1]; exact k3
    have rc := factorCountR hsr
    have rf := factorR hsr (k := k) (by rw [e2]; omega)
    have rn := rs_numbers hsr
    have rw' := wholeR hsr
    rw [e2] at rc rw'
    rw [e7] at rf
    rw [e3] at rn
    have hvb : vb st (trB (S0.1 3 s) st (g_R_isPlain (i32 (S0.1 2 s))) (S0.2.1 7 (5 * s + k))) := ok_vb s3 (allR_iff.mp hok k (Nat.zero_le _) (by omega))
    have J' := jj_coef J (s := n) (j := k) (v := trB (S0.1 3 s) st (g_R_isPlain (i32 (S0.1 2 s))) (S0.2.1 7 (5 * s + k))) (by rw [e1]; exact hn) (by rw [en2]; omega) (by rw [en3]; exact hvb)
    obtain ⟨V', C', u1, u2, u3, u4, u5, u6⟩ := rem26_go J0 s3 hs hok hx hn hsn k2 k3 hXs hXn (N := N) q g (k + 1) (csJ V 900 (A 117 n) k (trB (S0.1 3 s) st (g_R_isPlain (i32 (S0.1 2 s))) (S0.2.1 7 (5 * s + k)))) (csJ C 900 (A 117 n) k (trB (S0.1 3 s) st (g_R_isPlain (i32 (S0.1 2 s))) (S0.2.1 7 (5 * s + k)))) (jj_T J' (rt_tOf _)) (pd_J P) (by omega) (by omega)
    refine ⟨V', C', ?_, u2, u3, fun a h1 h2 => ag_trans (ag_csJ (Ag.refl C a) h2) (u4 a h1 h2), u5, u6⟩
    rw [← u1]
    show (jgd (cob C (A 7 s) 7) _) = _
    rw [cob_of (rs_tag hsr), jgd_true, rc, obd_some, if_neg (by rw [i32_le (by omega) (by omega)]; omega), rn, obd_some, jgd_true, rf, obd_some, jgd_true, rw', obd_some, cob_of (ci := 0) (rb_tag hb), jgd_true, translated_of hb h3 s3 hv, obd_some, cob_of (rs_tag hnr), jgd_true, setFactorR hnr (by rw [en2]; omega), obd_some, show i32 k + 1 = i32 (k + 1) from i32_add k 1]
theorem remSec (J0 : JJ G E B bx m ad S0 A0 C0 T0) {ad' : Nat → Nat} (s3 : st < 3) (hs : s < S0.1 1 0) (hok : allR (okf S0 st s) 0 (nfac (S0.1 2 s)) = true) (hx : Ex S0 S) (J : JJ G E B bx m ad' S A V (tOf S)) (P : Pd X Y C V) (hXs : ¬ X (A 7 s)) (h60 : S.1 1 0 < 60) {N : Nat} (hN : 100 ≤ N) :
    ∃ A' V' C', c_B_remadeSection N bx (some (A 7 s)) (i32 st) (some (A 5 st)) C = some (some (A' 7 (S.1 1 0)), C') ∧ JJ G E B bx m ad' (cpS S0 st s S) A' V' (tOf (cpS S0 st s S)) ∧ Pd X Y C' V' ∧ AE S A (cpS S0 st s S) A' (ck C).1 ∧ Fm A bx C C' ∧ (∀ u w, RQ u w S A V → RQ u w (cpS S0 st s S) A' V') ∧ (ck C).1 ≤ A' 7 (S.1 1 0) := by
  obtain ⟨A1, J1, e1, hl1, hd1⟩ := jj_norm J
  have ws := jj_ws J0 hs
  have xs := (hx.2.1 s hs)
  have n5 := nfac_5 (S0.1 2 s)
  obtain ⟨T1, r1, r2, J2⟩ := jj_newSection J1 hl1 hd1 h60 (kd := S0.1 2 s) (so := st) (ln := S0.2.2 4 s) ws.1.1 s3 ws.1.2.2 hN
  have J2 := jj_T J2 (rt_tOf _)
  have hb := pd_RCb P (jj_b J1)
  have hwV := J1.1.1
  have hw := pd_CW P hwV
  have eck := pd_ck P
  have hrun := newSection_run hb hw h60 (so := st) ws.1.1 ws.1.2.2
  have P2 : Pd X Y (nsC C bx (A1 3 0) (S.1 1 0) (S0.1 2 s) st (S0.2.2 4 s) (some (A1 5 st))) (nsC V bx (A1 3 0) (S.1 1 0) (S0.1 2 s) st (S0.2.2 4 s) (some (A1 5 st))) := pd_ns P
  have hsr : RCs S A C s := pd_RCs P (jj_s J (by have := hx.1.1; omega)) hXs
  have k2 : (secS S (S0.1 2 s) st (S0.2.2 4 s)).1 2 (S.1 1 0) = S0.1 2 s := by simp [secS]
  have k3 : (secS S (S0.1 2 s) st (S0.2.2 4 s)).1 3 (S.1 1 0) = st := by simp [secS]
  have a7s : secA A1 (ck V).1 (S.1 1 0) 7 s = A 7 s := (secA_i (by have := hx.1.1; omega)).trans (e1 7 s (by decide))
  have a7n : secA A1 (ck V).1 (S.1 1 0) 7 (S.1 1 0) = (ck V).1 := by simp [secA]
  have a117n : secA A1 (ck V).1 (S.1 1 0) 117 (S.1 1 0) = (ck V).1 + 3 := by simp [secA]
  have a5 : secA A1 (ck V).1 (S.1 1 0) 5 st = A 5 st := (secA_t (by decide)).trans (e1 5 st (by decide))
  obtain ⟨V', C', u1, u2, u3, u4, u5, u6⟩ := rem26_go J0 s3 hs hok (ex_sec hx) (by rw [secS_1]; omega) hx.1.1 k2 k3 (A := secA A1 (ck V).1 (S.1 1 0)) (by rw [a7s]; exact hXs) (by rw [a7n]; exact fun q => by have := (P.2.2.2.1 _ q).2; omega) (N := N) (nfac (S0.1 2 s)) N 0 _ _ J2 P2 (by omega) (by omega)
  rw [a7s, a7n, a5] at u1
  rw [a7n, a117n] at u4
  refine ⟨secA A1 (ck V).1 (S.1 1 0), V', C', ?_, u2, u3, ⟨fun t i h h0 => ?_, fun t i h h0 => ?_⟩, ⟨?_, fun a ha h1 h2 h3 => ?_⟩, fun u w hD => ?_, ?_⟩
  · have e30 := e1 3 0 (by decide)
    have e5 := e1 5 st (by decide)
    rw [e5] at hrun
    rw [a7n]
    unfold c_B_remadeSection
    rw [obd_some, rs_kind hsr, obd_some, xs.1 2 (by decide), rs_length hsr, obd_some, xs.2.1, cob_of (ci := 0) (rb_tag hb), jgd_true, hrun, cbd2_some, jon_some, eck]
    rw [e5] at u1
    exact u1
  · by_cases e : i = S.1 1 0
    · rw [← e1 t i h0]
      refine secA_t (fun q => ?_)
      subst e
      simp only [List.mem_cons, List.not_mem_nil, or_false] at q
      rcases q with rfl | rfl | rfl | rfl | rfl | rfl <;> exact absurd (show S.1 1 0 < S.1 1 0 from h) (Nat.lt_irrefl _)
    · rw [secA_i e, e1 t i h0]
  · have h' : VA (secS S (S0.1 2 s) st (S0.2.2 4 s)) t i := by
      unfold VA at h ⊢
      rw [cpS_k (by decide) (by decide), cpS_k (by decide) (by decide), cpS_k (by decide) (by decide), cpS_k (by decide) (by decide)] at h
      exact h
    rcases va_sec h' with z | ⟨z1, z2⟩
    · exact Or.inl z
    · refine Or.inr ?_
      subst z1
      simp only [List.mem_cons, List.not_mem_nil, or_false] at z2
      rw [eck]
      rcases z2 with rfl | rfl | rfl | rfl | rfl | rfl <;> simp [secA]
  · rw [u5]
    show (ck C).1 ≤ (ck C).1 + 6
    omega
  · refine ag_trans ?_ (u4 a (by rw [← eck]; omega) (by rw [← eck]; omega))
    have e30 := e1 3 0 (by decide)
    unfold nsC
    refine ag_csI (ag_csA (secC_agr.ag ha) (by rw [e30]; exact h2)) h1
  · have hd0 : A1 2 0 = A 2 0 := e1 2 0 (by decide)
    have hDt : V.1 (A 2 0) = 3 := (jj_b J).2.2.2.2.2.2.2
    have hDk : A 2 0 < (ck V).1 := (hwV.2.1 _ (by rw [hDt]; decide)).2
    have hDb : A 2 0 ≠ bx := fun q => by
      have := (jj_b J).1.1
      rw [← q, hDt] at this
      exact absurd this (by decide)
    have hD3 : A 2 0 ≠ A1 3 0 := fun q => by
      have := (jj_b J1).2.2.2.1.1
      rw [← q, hDt] at this
      exact absurd this (by decide)
    have hag : Ag V (nsC V bx (A1 3 0) (S.1 1 0) (S0.1 2 s) st (S0.2.2 4 s) (some (A1 5 st))) (A 2 0) := by
      unfold nsC
      exact ag_csI (ag_csA (secC_agr.ag hDk) hD3) hDb
    have ha2 : secA A1 (ck V).1 (S.1 1 0) 2 0 = A 2 0 := (secA_t (by decide)).trans hd0
    have R1 : RQ u w (secS S (S0.1 2 s) st (S0.2.2 4 s)) (secA A1 (ck V).1 (S.1 1 0)) (nsC V bx (A1 3 0) (S.1 1 0) (S0.1 2 s) st (S0.2.2 4 s) (some (A1 5 st))) := ro_sec hD h60 ws.1.2.2 ha2 (by rw [hag.2.2.2.2.1])
    refine ro_same R1 ?_ ?_ ?_ (fun c _ => ?_) rfl ?_ u6
    · exact congrFun (cpS_k (by decide) (by decide)) 0
    · exact congrFun (cpS_k (by decide) (by decide)) 0
    · exact congrFun (cpS_k (by decide) (by decide)) 0
    · exact congrFun (cpS_k (by decide) (by decide)) c
    · have hDX : ¬ X (A 2 0) := fun q => by have := (P.2.2.2.1 _ q).1; rw [hDt] at this; exact absurd this (by decide)
      have hDY : ¬ Y (A 2 0) := fun q => by have := (P.2.2.2.2 _ q).1; rw [hDt] at this; exact absurd this (by decide)
      rw [ha2]
      have g1 := (pd_ag u3 hDX hDY).2.2.2.2.1 37
      have g2 := (pd_ag P2 hDX hDY).2.2.2.2.1 37
      have g3 := (u4 (A 2 0) (by omega) (by omega)).2.2.2.2.1 37
      exact congrFun (g1.symm.trans (g3.trans g2)) 0
  · rw [a7n, eck]; exact Nat.le_refl _
end REMSEC
