/-! a chain remade: the class's whole way -/
section REMALL
variable {G : GT} {E B bx m : Nat} {ad ad0 : Nat → Nat} {S S0 : ST} {A A0 As : AT} {C C0 Cs V Vs : CT} {T0 : MT} {X Y : Nat → Prop} {s c n st q p f : Nat} {x : CM}
theorem fn_44 : (fnS S0 st c x).1 44 = x.1.1 44 := by
  funext j
  have h17 : (chS x.1).1 17 (x.1.1 16 0) = 0 := ch_17
  have h20' : (inL x.2.1 x.2.2 (S0.1 17 c) (jnL (x.1.1 16 0) x.2.1 (S0.1 17 c) (chS x.1))).1 20 (x.1.1 16 0) = 0 := by
    rw [inL_off (by omega) (by omega), jnL_off h17 (by omega) (by omega) (by omega)]; exact ch_20
  have e : (fnS S0 st c x).1 44 j = (inL x.2.1 x.2.2 (S0.1 17 c) (jnL (x.1.1 16 0) x.2.1 (S0.1 17 c) (chS x.1))).1 44 j := lpL_off h20' (by omega) (fun z => absurd z (by decide))
  rw [e, inL_off (by omega) (by omega), jnL_off h17 (by omega) (by omega) (by omega), ch_off (by decide)]
theorem cp_44 : (cpS S0 st s S).1 44 = S.1 44 := (cpS_k (by decide) (by decide)).trans (secS_k (by decide) (by decide))
theorem cm_44 {rec : Nat → ST → ST} (hr : ∀ d S, (rec d S).1 44 = S.1 44) : ∀ p, (cmS rec S0 st c p S).1.1 44 = S.1 44
  | 0 => rfl
  | p + 1 => by
    have ih := cm_44 hr p
    show (cpS S0 st (S0.1 18 (10 * c + p)) (if S0.1 10 (S0.1 18 (10 * c + p)) = 0 then _ else _)).1 44 = _
    rw [cp_44]
    split
    · exact ih
    · rw [hr]; exact ih
theorem cv_44 : ∀ f c S, (cvS S0 st f c S).1 44 = S.1 44
  | 0, _, _ => rfl
  | f + 1, c, S => (fn_44 (S0 := S0) (st := st) (c := c)).trans (cm_44 (cv_44 f) _)
theorem va_ex (h : Ex S x.1) (h44 : x.1.1 44 0 = S.1 44 0) {t i : Nat} (hv : VA S t i) : VA x.1 t i := by
  have a1 := h.1.1
  have a2 := h.1.2
  have kl : i / 3 < S.1 16 0 ∧ i % 3 < S.1 20 (i / 3) → i / 3 < x.1.1 16 0 ∧ i % 3 < x.1.1 20 (i / 3) := fun ⟨z1, z2⟩ => ⟨by omega, by rw [(h.2.2 _ z1).1 20 (by decide)]; exact z2⟩
  unfold VA at hv ⊢
  rw [h44]
  split at hv <;> first | exact hv | exact kl hv | exact Nat.lt_of_lt_of_le hv a1 | exact Nat.lt_of_lt_of_le hv a2
def XM (X : Nat → Prop) (A : AT) (x : CM) (p : Nat) : Nat → Prop := fun a => X a ∨ ∃ r, r < p ∧ a = A 7 (x.2.1 r)
def YM (Y : Nat → Prop) (A : AT) (x : CM) (p : Nat) : Nat → Prop := fun a => Y a ∨ ∃ r, r < p ∧ x.2.2 r ≠ 0 ∧ a = A 1 (x.2.2 r - 1)
/-- all that is known of it up to a member -/
def LI (G : GT) (E B bx m : Nat) (ad : Nat → Nat) (S : ST) (As : AT) (Cs Vs : CT) (X Y : Nat → Prop) (p : Nat) (x : CM) (A : AT) (V C : CT) : Prop :=
  JJ G E B bx m ad x.1 A V (tOf x.1) ∧ Pd (XM X A x p) (YM Y A x p) C V ∧ OM C (ck Cs).1 p (fun r => A 7 (x.2.1 r)) 0 (fun _ => 0) ∧
  (∀ r, r < p → C.2.2.2.2.1 124 (A 7 (x.2.1 r)) 0 = some (ck Cs).1 ∧ C.2.2.1 125 (A 7 (x.2.1 r)) 0 = i32 r ∧ C.2.2.2.2.1 126 (A 7 (x.2.1 r)) 0 = oA A 1 (x.2.2 r) ∧ (x.2.2 r ≠ 0 → C.2.2.2.2.1 25 (A 1 (x.2.2 r - 1)) 0 = some (A 7 (x.2.1 r)))) ∧
  AE S As x.1 A ((ck Cs).1 + 4) ∧ ((ck Cs).1 + 4 ≤ (ck C).1 ∧ ∀ a, a < (ck Cs).1 → a ≠ bx → a ≠ As 3 0 → a ≠ As 3 1 → Ag Cs C a) ∧ ∀ u w, RQ u w S As (chC Vs) → RQ u w x.1 A V
/-- what the class does with a chain and all within it -/
def CRm (G : GT) (E B bx m : Nat) (S0 : ST) (st N f : Nat) : Prop := ∀ (c g dep : Nat) (S : ST) (A : AT) (V C : CT) (X Y : Nat → Prop) (ad : Nat → Nat), c < f → c < S0.1 16 0 → S0.1 17 c ≠ 0 → wt (bad S0 st) S0 f c = 0 → Ex S0 S → JJ G E B bx m ad S A V (tOf S) → Pd X Y C V →
  (∀ a, X a → ∃ s, S0.1 1 0 ≤ s ∧ s < S.1 1 0 ∧ a = A 7 s) → (∀ a, Y a → ∃ d, S0.1 16 0 ≤ d ∧ d < S.1 16 0 ∧ a = A 1 d) → S.1 1 0 + wt (S0.1 17) S0 f c ≤ 60 → S.1 16 0 + wt oneF S0 f c ≤ 20 → dep + c ≤ 30 → f ≤ g →
  ∃ A' V' C', c_B_remade N g bx (some (A 1 c)) (i32 st) (some (A 5 st)) (i32 dep) C = some (some (A' 1 ((cvS S0 st f c S).1 16 0 - 1)), C') ∧ JJ G E B bx m ad (cvS S0 st f c S) A' V' (tOf (cvS S0 st f c S)) ∧ Pd X Y C' V' ∧ AE S A (cvS S0 st f c S) A' (ck C).1 ∧ Fm A bx C C' ∧ ∀ u w, RQ u w S A V → RQ u w (cvS S0 st f c S) A' V'
theorem up1_ne {g : Nat → Nat} {v r : Nat} (h : r ≠ p) : up1 g p v r = g r := if_neg h
theorem up1_eq {g : Nat → Nat} {v : Nat} : up1 g p v p = v := if_pos rfl
theorem mem_step (J0 : JJ G E B bx m ad0 S0 A0 C0 T0) (s3 : st < 3) {N : Nat} (hN : 100 ≤ N) (hI : CRm G E B bx m S0 st N f) (hcf : c < f + 1) (hc : c < S0.1 16 0) (hok : okc S0 st c = true) (hb : wti (wt (bad S0 st) S0 f) S0 c (S0.1 17 c) = 0) (hx : Ex S0 S) (hW : WF E S) (h60 : S.1 1 0 + S0.1 17 c + wti (wt (S0.1 17) S0 f) S0 c (S0.1 17 c) ≤ 60) (h20 : S.1 16 0 + wti (wt oneF S0 f) S0 c (S0.1 17 c) + 1 ≤ 20)
    (hXs : ∀ a, X a → ∃ s, S0.1 1 0 ≤ s ∧ s < S.1 1 0 ∧ a = As 7 s) (hYs : ∀ a, Y a → ∃ d, S0.1 16 0 ≤ d ∧ d < S.1 16 0 ∧ a = As 1 d) (hbq : bx < (ck Cs).1) (hAs : ∀ t i, VA S t i → t ≠ 0 → As t i < (ck Cs).1) {dep g : Nat} (hdep : dep + c ≤ 30) (hg : f ≤ g) {n : Nat} (hp : p < S0.1 17 c) (hL : LI G E B bx m ad S As Cs Vs X Y p (cmS (cvS S0 st f) S0 st c p S) A V C) :
    ∃ A' V' C', c_B_remade_21 N (c_B_remade N g) (n + 1) bx (some (As 1 c)) (i32 st) (some (As 5 st)) (i32 dep) (ck Cs).1 (i32 p) C = c_B_remade_21 N (c_B_remade N g) n bx (some (As 1 c)) (i32 st) (some (As 5 st)) (i32 dep) (ck Cs).1 (i32 (p + 1)) C' ∧ LI G E B bx m ad S As Cs Vs X Y (p + 1) (cmS (cvS S0 st f) S0 st c (p + 1) S) A' V' C' := by
  have w0 := jj_wc J0 hc
  have h10 := w0.1.1
  obtain ⟨k1, ⟨m1, m2, m3, m4, m5⟩, k3, k4⟩ := cm_facts J0 s3 (pu_all J0 s3 f) hcf hc hok hb hx hW h60 h20 p (by omega)
  have m44 := cm_44 (S0 := S0) (st := st) (c := c) (S := S) (cv_44 (S0 := S0) (st := st) f) p
  have e20 : wti (wt oneF S0 f) S0 c (p + 1) = wti (wt oneF S0 f) S0 c p + if S0.1 10 (S0.1 18 (10 * c + p)) = 0 then 0 else wt oneF S0 f (S0.1 10 (S0.1 18 (10 * c + p)) - 1) := rfl
  have e60 : wti (wt (S0.1 17) S0 f) S0 c (p + 1) = wti (wt (S0.1 17) S0 f) S0 c p + if S0.1 10 (S0.1 18 (10 * c + p)) = 0 then 0 else wt (S0.1 17) S0 f (S0.1 10 (S0.1 18 (10 * c + p)) - 1) := rfl
  have eb : wti (wt (bad S0 st) S0 f) S0 c (p + 1) = wti (wt (bad S0 st) S0 f) S0 c p + if S0.1 10 (S0.1 18 (10 * c + p)) = 0 then 0 else wt (bad S0 st) S0 f (S0.1 10 (S0.1 18 (10 * c + p)) - 1) := rfl
  have n60 := wti_mono (S0 := S0) (r := wt (S0.1 17) S0 f) (c := c) (show p + 1 ≤ S0.1 17 c by omega)
  have n20 := wti_mono (S0 := S0) (r := wt oneF S0 f) (c := c) (show p + 1 ≤ S0.1 17 c by omega)
  have nb := wti_mono (S0 := S0) (r := wt (bad S0 st) S0 f) (c := c) (show p + 1 ≤ S0.1 17 c by omega)
  have ecm : cmS (cvS S0 st f) S0 st c (p + 1) S = (cpS S0 st (S0.1 18 (10 * c + p)) (if S0.1 10 (S0.1 18 (10 * c + p)) = 0 then (cmS (cvS S0 st f) S0 st c p S).1 else cvS S0 st f (S0.1 10 (S0.1 18 (10 * c + p)) - 1) (cmS (cvS S0 st f) S0 st c p S).1),
      up1 (cmS (cvS S0 st f) S0 st c p S).2.1 p ((if S0.1 10 (S0.1 18 (10 * c + p)) = 0 then (cmS (cvS S0 st f) S0 st c p S).1 else cvS S0 st f (S0.1 10 (S0.1 18 (10 * c + p)) - 1) (cmS (cvS S0 st f) S0 st c p S).1).1 1 0),
      up1 (cmS (cvS S0 st f) S0 st c p S).2.2 p (if S0.1 10 (S0.1 18 (10 * c + p)) = 0 then 0 else (cvS S0 st f (S0.1 10 (S0.1 18 (10 * c + p)) - 1) (cmS (cvS S0 st f) S0 st c p S).1).1 16 0)) := rfl
  have hmem := (w0.2.1 p (by omega)).1
  have hokf : allR (okf S0 st (S0.1 18 (10 * c + p))) 0 (nfac (S0.1 2 (S0.1 18 (10 * c + p)))) = true := by
    unfold okc at hok
    rw [Bool.and_eq_true] at hok
    exact allR_iff.mp hok.1 p (Nat.zero_le _) (by omega)
  rw [ecm]
  generalize cmS (cvS S0 st f) S0 st c p S = x at *
  obtain ⟨J, P, hO, hpf, ae, ⟨hqc, hfm⟩, hrq⟩ := hL
  have hxx : Ex S0 x.1 := hx.trans m1
  have vaM : ∀ t i, VA S t i → VA x.1 t i := fun t i h => va_ex m1 (congrFun m44 0) h
  have hcS : c < S.1 16 0 := by have := hx.1.2; omega
  have hcx : c < x.1.1 16 0 := by have := m1.1.2; omega
  have eA1c : A 1 c = As 1 c := ae.1 1 c hcS (by decide)
  have eA5 : A 5 st = As 5 st := ae.1 5 st s3 (by decide)
  have eA30 : A 3 0 = As 3 0 := ae.1 3 0 (show (0 : Nat) < 4 by decide) (by decide)
  have eA31 : A 3 1 = As 3 1 := ae.1 3 1 (show (1 : Nat) < 4 by decide) (by decide)
  have hXX : ∀ a, XM X A x p a → ∃ s', S0.1 1 0 ≤ s' ∧ s' < x.1.1 1 0 ∧ a = A 7 s' := fun a z => by
    rcases z with z | ⟨r, hr, rfl⟩
    · obtain ⟨s', z1, z2, z3⟩ := hXs a z
      exact ⟨s', z1, by have := m1.1.1; omega, by rw [ae.1 7 s' z2 (by decide)]; exact z3⟩
    · have := (m2 r hr).1; have := hx.1.1
      exact ⟨x.2.1 r, by omega, by omega, rfl⟩
  have hYY : ∀ a, YM Y A x p a → ∃ d, S0.1 16 0 ≤ d ∧ d < x.1.1 16 0 ∧ a = A 1 d := fun a z => by
    rcases z with z | ⟨r, hr, hr0, rfl⟩
    · obtain ⟨d, z1, z2, z3⟩ := hYs a z
      exact ⟨d, z1, by have := m1.1.2; omega, by rw [ae.1 1 d z2 (by decide)]; exact z3⟩
    · rcases m4 r hr with z | ⟨d, d', i1, i2, i3, i4⟩
      · exact absurd z.2 hr0
      · have := i4.1.1; have := hx.1.2
        exact ⟨x.2.2 r - 1, by omega, by omega, rfl⟩
  have hU : ∀ t i, VA x.1 t i → t ≠ 0 → A t i < (ck Cs).1 ∨ (ck Cs).1 + 4 ≤ A t i := fun t i h h0 => by
    rcases ae.2 t i h h0 with z | z
    · exact Or.inl (by rw [ae.1 t i z h0]; exact hAs t i z h0)
    · exact Or.inr z
  have nYc : ¬ YM Y A x p (A 1 c) := fun z => by
    obtain ⟨d, z1, z2, z3⟩ := hYY _ z
    have := (J.2.1.2.2.2 1 c 1 d hcx z2 z3).2
    omega
  have nXs : ¬ XM X A x p (A 7 (S0.1 18 (10 * c + p))) := fun z => by
    obtain ⟨s', z1, z2, z3⟩ := hXX _ z
    have := (J.2.1.2.2.2 7 (S0.1 18 (10 * c + p)) 7 s' (show _ < x.1.1 1 0 by have := hxx.1.1; omega) z2 z3).2
    omega
  have hcr : RCc x.1 A C c := pd_RCc P (jj_c J hcx) nYc
  have hsr : RCs x.1 A C (S0.1 18 (10 * c + p)) := pd_RCs P (jj_s J (by have := hxx.1.1; omega)) nXs
  have e17 : x.1.1 17 c = S0.1 17 c := (hxx.2.2 c hc).1 17 (by decide)
  have e18 : x.1.1 18 (10 * c + p) = S0.1 18 (10 * c + p) := (hxx.2.2 c hc).2.1 p (by omega)
  have e10 : x.1.1 10 (S0.1 18 (10 * c + p)) = S0.1 10 (S0.1 18 (10 * c + p)) := (hxx.2.1 _ hmem).1 10 (by decide)
  have hbC := pd_RCb P (jj_b J)
  have tagC : ∀ t i, VA x.1 t i → t ≠ 0 → A t i < (ck C).1 ∧ A t i ≠ bx := fun t i h h0 => by
    rw [pd_ck P]
    exact ⟨(J.1.1.2.1 _ (va_tag J h h0)).2, fun z => va_bx J h h0 (by rw [z]; exact (jj_b J).1.1)⟩
  have pre : c_B_remade_21 N (c_B_remade N g) (n + 1) bx (some (As 1 c)) (i32 st) (some (As 5 st)) (i32 dep) (ck Cs).1 (i32 p) C = jon (oA A 1 (S0.1 10 (S0.1 18 (10 * c + p)))) (c_B_remade_72 N (c_B_remade N g) (c_B_remade_21 N (c_B_remade N g) n) bx (As 1 c) (i32 st) (some (As 5 st)) (i32 dep) (ck Cs).1 (i32 p) (A 7 (S0.1 18 (10 * c + p))) none C)
      (fun _ => cbd2 (c_B_remade N g bx (oA A 1 (S0.1 10 (S0.1 18 (10 * c + p)))) (i32 st) (some (As 5 st)) (i32 dep + (1 : Int32)) C) fun x11 C12 => c_B_remade_72 N (c_B_remade N g) (c_B_remade_21 N (c_B_remade N g) n) bx (As 1 c) (i32 st) (some (As 5 st)) (i32 dep) (ck Cs).1 (i32 p) (A 7 (S0.1 18 (10 * c + p))) x11 C12) := by
    rw [← eA1c]
    unfold c_B_remade_21
    rw [obd_some, rc_size hcr, obd_some, e17, if_neg (by rw [i32_le (by omega) (by omega)]; omega), cob_of (rc_tag hcr), jgd_true, memberR hcr (by rw [e17]; exact h10) (by omega), e17, if_pos hp, obd_some, jon_some, e18, rs_inner hsr, obd_some, e10]
    generalize oA A 1 (S0.1 10 (S0.1 18 (10 * c + p))) = o
    cases o with
    | none => rfl
    | some a => rw [jon_some, jon_some, obd_some, cob_of (ci := 0) (rb_tag hbC), jgd_true]
  -- what comes after the chain within
  have key : ∀ (S2 : ST) (A2 : AT) (V2 C2 : CT) (b' : Nat), WF E S2 → Ex x.1 S2 → S2.1 1 0 < 60 → JJ G E B bx m ad S2 A2 V2 (tOf S2) → Pd (XM X A x p) (YM Y A x p) C2 V2 → AE x.1 A S2 A2 (ck C).1 → (∀ t i, VA x.1 t i → VA S2 t i) → ((ck C).1 ≤ (ck C2).1 ∧ ∀ a, a < (ck C).1 → a ≠ bx → a ≠ A 3 0 → a ≠ A 3 1 → Ag C C2 a) → (∀ u w, RQ u w x.1 A V → RQ u w S2 A2 V2) → b' ≤ S2.1 16 0 → (b' ≠ 0 → x.1.1 16 0 ≤ b' - 1) →
      ∃ A' V' C', c_B_remade_72 N (c_B_remade N g) (c_B_remade_21 N (c_B_remade N g) n) bx (As 1 c) (i32 st) (some (As 5 st)) (i32 dep) (ck Cs).1 (i32 p) (A 7 (S0.1 18 (10 * c + p))) (oA A2 1 b') C2 = c_B_remade_21 N (c_B_remade N g) n bx (some (As 1 c)) (i32 st) (some (As 5 st)) (i32 dep) (ck Cs).1 (i32 (p + 1)) C' ∧
        LI G E B bx m ad S As Cs Vs X Y (p + 1) (cpS S0 st (S0.1 18 (10 * c + p)) S2, up1 x.2.1 p (S2.1 1 0), up1 x.2.2 p b') A' V' C' := fun S2 A2 V2 C2 b' h1 h2 h3 h4 h5 h6 hvm h7 h8 h9 hb' => by
    have e7 : A2 7 (S0.1 18 (10 * c + p)) = A 7 (S0.1 18 (10 * c + p)) := h6.1 7 _ (show _ < x.1.1 1 0 by have := hxx.1.1; omega) (by decide)
    have e5 : A2 5 st = As 5 st := (h6.1 5 st s3 (by decide)).trans eA5
    have e30 : A2 3 0 = A 3 0 := h6.1 3 0 (show (0 : Nat) < 4 by decide) (by decide)
    have e31 : A2 3 1 = A 3 1 := h6.1 3 1 (show (1 : Nat) < 4 by decide) (by decide)
    have u30 := hU 3 0 (show (0 : Nat) < 4 by decide) (by decide)
    have u31 := hU 3 1 (show (1 : Nat) < 4 by decide) (by decide)
    have gq : ∀ o, o < 4 → Ag C C2 ((ck Cs).1 + o) := fun o ho => h7.2 _ (by omega) (by omega) (by omega) (by omega)
    have hO2 := om_ag hO (gq 0 (by decide)) (gq 1 (by decide)) (gq 2 (by decide)) (gq 3 (by decide))
    have hX2 : ∀ a, XM X A x p a → ∃ s', S0.1 1 0 ≤ s' ∧ s' < S2.1 1 0 ∧ a = A2 7 s' := fun a z => by
      obtain ⟨s', z1, z2, z3⟩ := hXX a z
      exact ⟨s', z1, by have := h2.1.1; omega, by rw [h6.1 7 s' z2 (by decide)]; exact z3⟩
    have hU2 : ∀ t i, VA S2 t i → t ≠ 0 → A2 t i < (ck Cs).1 ∨ (ck Cs).1 + 4 ≤ A2 t i := fun t i h h0 => by
      rcases h6.2 t i h h0 with z | z
      · rw [h6.1 t i z h0]; exact hU t i z h0
      · exact Or.inr (by omega)
    have hY2 : b' ≠ 0 → ¬ YM Y A x p (A2 1 (b' - 1)) := fun h0 z => by
      obtain ⟨d, z1, z2, z3⟩ := hYY _ z
      rw [← h6.1 1 d z2 (by decide)] at z3
      have := (h4.2.1.2.2.2 1 (b' - 1) 1 d (show b' - 1 < S2.1 16 0 by omega) (hvm 1 d z2) z3).2
      have := hb' h0
      omega
    obtain ⟨A3, V3, C3, r1, r2, r3, r4, r5, ⟨r6, r7⟩, r8, r9, rA, rB, rC⟩ := mem_tail J0 s3 hmem hokf (hxx.trans h2) h4 h5 hX2 hO2 hU2 hbq (by omega) h3 (by omega) h9 hY2 hN (kS := c_B_remade N g) (k21 := c_B_remade_21 N (c_B_remade N g) n) (a1 := As 1 c) (v4 := i32 dep)
    rw [e7, e5] at r1
    have eAx : ∀ t i, VA x.1 t i → t ≠ 0 → A3 t i = A t i := fun t i h h0 => (r5.1 t i (hvm t i h) h0).trans (h6.1 t i h h0)
    have vs : ∀ r, r < p → VA x.1 7 (x.2.1 r) := fun r hr => (m2 r hr).1.2
    have vi : ∀ r, r < p → x.2.2 r ≠ 0 → VA x.1 1 (x.2.2 r - 1) := fun r hr h0 => by
      rcases m4 r hr with z | ⟨d, d', i1, i2, i3, i4⟩
      · exact absurd z.2 h0
      · show x.2.2 r - 1 < x.1.1 16 0
        have := i4.1.1; omega
    have nb2 : ∀ r, r < p → x.2.2 r ≠ 0 → b' ≠ 0 → A 1 (x.2.2 r - 1) ≠ A2 1 (b' - 1) := fun r hr h0 hb0 z => by
      rw [← h6.1 1 _ (vi r hr h0) (by decide)] at z
      have := (h4.2.1.2.2.2 1 _ 1 _ (hvm 1 _ (vi r hr h0)) (show b' - 1 < S2.1 16 0 by omega) z).2
      have := hb' hb0
      have := vi r hr h0
      have : x.2.2 r - 1 < x.1.1 16 0 := this
      omega
    have a23 : ∀ t i, VA x.1 t i → t ≠ 0 → t ≠ 3 → (t ≠ 1 ∨ b' = 0 ∨ A t i ≠ A2 1 (b' - 1)) → Ag C C3 (A t i) := fun t i h h0 h3' hn => by
      obtain ⟨l1, l2⟩ := tagC t i h h0
      have n30 : A t i ≠ A 3 0 := fun z => h3' (J.2.1.2.2.2 t i 3 0 h (show (0 : Nat) < 4 by decide) z).1
      have n31 : A t i ≠ A 3 1 := fun z => h3' (J.2.1.2.2.2 t i 3 1 h (show (1 : Nat) < 4 by decide) z).1
      have hu := hU t i h h0
      refine ag_trans (h7.2 _ l1 l2 n30 n31) (r7 _ (by omega) l2 (by rw [e30]; exact n30) (by rw [e31]; exact n31) (by omega) (by omega) (fun hb0 z => ?_))
      rcases hn with w | w | w
      · have := (h4.2.1.2.2.2 t i 1 (b' - 1) (hvm t i h) (show b' - 1 < S2.1 16 0 by omega) (by rw [h6.1 t i h h0]; exact z)).1
        exact w this
      · exact hb0 w
      · exact w z
    have eX : (fun a => XM X A x p a ∨ a = A3 7 (S2.1 1 0)) = XM X A3 (cpS S0 st (S0.1 18 (10 * c + p)) S2, up1 x.2.1 p (S2.1 1 0), up1 x.2.2 p b') (p + 1) := by
      funext a
      refine propext ⟨fun z => ?_, fun z => ?_⟩
      · rcases z with (z | ⟨r, hr, z⟩) | z
        · exact Or.inl z
        · refine Or.inr ⟨r, by omega, ?_⟩
          show a = A3 7 (up1 x.2.1 p (S2.1 1 0) r)
          rw [up1_ne (by omega), eAx 7 _ (vs r hr) (by decide)]; exact z
        · refine Or.inr ⟨p, by omega, ?_⟩
          show a = A3 7 (up1 x.2.1 p (S2.1 1 0) p)
          rw [up1_eq]; exact z
      · rcases z with z | ⟨r, hr, z⟩
        · exact Or.inl (Or.inl z)
        · have z : a = A3 7 (up1 x.2.1 p (S2.1 1 0) r) := z
          by_cases e : r = p
          · subst e
            rw [up1_eq] at z; exact Or.inr z
          · rw [up1_ne e, eAx 7 _ (vs r (by omega)) (by decide)] at z
            exact Or.inl (Or.inr ⟨r, by omega, z⟩)
    have eY : (fun a => YM Y A x p a ∨ (b' ≠ 0 ∧ a = A3 1 (b' - 1))) = YM Y A3 (cpS S0 st (S0.1 18 (10 * c + p)) S2, up1 x.2.1 p (S2.1 1 0), up1 x.2.2 p b') (p + 1) := by
      funext a
      refine propext ⟨fun z => ?_, fun z => ?_⟩
      · rcases z with (z | ⟨r, hr, hr0, z⟩) | ⟨z0, z⟩
        · exact Or.inl z
        · refine Or.inr ⟨r, by omega, ?_, ?_⟩
          · show up1 x.2.2 p b' r ≠ 0
            rw [up1_ne (by omega)]; exact hr0
          · show a = A3 1 (up1 x.2.2 p b' r - 1)
            rw [up1_ne (by omega), eAx 1 _ (vi r hr hr0) (by decide)]; exact z
        · refine Or.inr ⟨p, by omega, ?_, ?_⟩
          · show up1 x.2.2 p b' p ≠ 0
            rw [up1_eq]; exact z0
          · show a = A3 1 (up1 x.2.2 p b' p - 1)
            rw [up1_eq]; exact z
      · rcases z with z | ⟨r, hr, hr0, z⟩
        · exact Or.inl (Or.inl z)
        · have z : a = A3 1 (up1 x.2.2 p b' r - 1) := z
          have hr0 : up1 x.2.2 p b' r ≠ 0 := hr0
          by_cases e : r = p
          · subst e
            rw [up1_eq] at z hr0; exact Or.inr ⟨hr0, z⟩
          · rw [up1_ne e] at z hr0
            rw [eAx 1 _ (vi r (by omega) hr0) (by decide)] at z
            exact Or.inl (Or.inr ⟨r, by omega, hr0, z⟩)
    rw [eX, eY] at r3
    refine ⟨A3, V3, C3, r1, r2, r3, om_cong r4 (fun r hr => ?_) (fun r hr => absurd hr (Nat.not_lt_zero _)), fun r hr => ?_, ?_, ⟨by omega, fun a h1' h2' h3' h4' => ?_⟩, fun u w hh => r8 u w (h8 u w (hrq u w hh))⟩
    · show (if r = p then A3 7 (S2.1 1 0) else A 7 (x.2.1 r)) = A3 7 (up1 x.2.1 p (S2.1 1 0) r)
      by_cases e : r = p
      · subst e; rw [if_pos rfl, up1_eq]
      · rw [if_neg e, up1_ne e, eAx 7 _ (vs r (by omega)) (by decide)]
    · show C3.2.2.2.2.1 124 (A3 7 (up1 x.2.1 p (S2.1 1 0) r)) 0 = _ ∧ C3.2.2.1 125 (A3 7 (up1 x.2.1 p (S2.1 1 0) r)) 0 = _ ∧ C3.2.2.2.2.1 126 (A3 7 (up1 x.2.1 p (S2.1 1 0) r)) 0 = oA A3 1 (up1 x.2.2 p b' r) ∧ (up1 x.2.2 p b' r ≠ 0 → C3.2.2.2.2.1 25 (A3 1 (up1 x.2.2 p b' r - 1)) 0 = some (A3 7 (up1 x.2.1 p (S2.1 1 0) r)))
      by_cases e : r = p
      · subst e
        rw [up1_eq, up1_eq]
        exact ⟨r9, rA, rB, rC⟩
      · have hr' : r < p := by omega
        obtain ⟨g1, g2, g3, g4⟩ := hpf r hr'
        have agm := a23 7 (x.2.1 r) (vs r hr') (by decide) (by decide) (Or.inl (by decide))
        rw [up1_ne e, up1_ne e, eAx 7 _ (vs r hr') (by decide), agm.2.2.2.2.1, agm.2.2.1]
        refine ⟨g1, g2, ?_, fun h0 => ?_⟩
        · rw [agm.2.2.2.2.1, g3]
          cases hbr : x.2.2 r with
          | zero => rfl
          | succ d => exact congrArg some (eAx 1 d (by have := vi r hr' (by omega); rw [hbr] at this; exact this) (by decide)).symm
        · have agi := a23 1 _ (vi r hr' h0) (by decide) (by decide) (by
            by_cases hb0 : b' = 0
            · exact Or.inr (Or.inl hb0)
            · exact Or.inr (Or.inr (nb2 r hr' h0 hb0)))
          rw [eAx 1 _ (vi r hr' h0) (by decide), agi.2.2.2.2.1]
          exact g4 h0
    · have ae2 : AE S As S2 A2 ((ck Cs).1 + 4) := ae.trans h6 hqc vaM
      exact ae2.trans r5 (by omega) (fun t i h => hvm t i (vaM t i h))
    · refine ag_trans (hfm a h1' h2' h3' h4') (ag_trans (h7.2 a (by omega) h2' (by rw [eA30]; exact h3') (by rw [eA31]; exact h4')) (r7 a (by omega) h2' (by rw [e30, eA30]; exact h3') (by rw [e31, eA31]; exact h4') (by omega) (by omega) (fun hb0 z => ?_)))
      rcases h6.2 1 (b' - 1) (show b' - 1 < S2.1 16 0 by omega) (by decide) with w | w
      · have w : b' - 1 < x.1.1 16 0 := w
        have := hb' hb0
        omega
      · omega
  by_cases h0 : S0.1 10 (S0.1 18 (10 * c + p)) = 0
  · rw [if_pos h0] at e60 e20 eb
    rw [if_pos h0, if_pos h0, pre, h0]
    obtain ⟨A', V', C', z1, z2⟩ := key x.1 A V C 0 k1 (Ex.refl _) (by omega) J P ⟨fun _ _ _ _ => rfl, fun _ _ h _ => Or.inl h⟩ (fun _ _ h => h) ⟨Nat.le_refl _, fun _ _ _ _ _ => Ag.refl _ _⟩ (fun _ _ h => h) (Nat.zero_le _) (fun z => absurd rfl z)
    exact ⟨A', V', C', z1, z2⟩
  · rw [if_neg h0] at e60 e20 eb
    rw [if_neg h0, if_neg h0, pre]
    obtain ⟨d, hd⟩ : ∃ d, S0.1 10 (S0.1 18 (10 * c + p)) = d + 1 := ⟨S0.1 10 (S0.1 18 (10 * c + p)) - 1, by omega⟩
    have ed : S0.1 10 (S0.1 18 (10 * c + p)) - 1 = d := by omega
    rw [ed] at e60 e20 eb
    rw [ed, hd]
    obtain ⟨u1, u2, u3, u4, u5⟩ := inner_und J0 hc hp hd
    obtain ⟨q1, q2, q3, q4, q5⟩ := pu_all J0 s3 f d x.1 (by omega) (by omega) u3 (by omega) hxx k1 (by omega) (by omega)
    have o1 := wt_one (S0 := S0) (show d < f by omega)
    obtain ⟨A2, V2, C2, v1, v2, v3, v4, v5, v6⟩ := hI d g (dep + 1) x.1 A V C (XM X A x p) (YM Y A x p) ad (by omega) (by omega) u3 (by omega) hxx J P hXX hYY (by omega) (by omega) (by omega) hg
    have hvm : ∀ t i, VA x.1 t i → VA (cvS S0 st f d x.1) t i := fun t i h => va_ex (x := (cvS S0 st f d x.1, fun _ => 0, fun _ => 0)) q2 (congrFun (cv_44 f d x.1) 0) h
    obtain ⟨A', V', C', z1, z2⟩ := key (cvS S0 st f d x.1) A2 V2 C2 ((cvS S0 st f d x.1).1 16 0) q1 q2 (by omega) v2 v3 v4 hvm v5 v6 (Nat.le_refl _) (fun _ => by omega)
    refine ⟨A', V', C', ?_, z2⟩
    rw [eA5] at v1
    have eo : oA A 1 (d + 1) = some (A 1 d) := rfl
    have e2 : oA A2 1 ((cvS S0 st f d x.1).1 16 0) = some (A2 1 ((cvS S0 st f d x.1).1 16 0 - 1)) := by
      obtain ⟨w, hw⟩ : ∃ w, (cvS S0 st f d x.1).1 16 0 = w + 1 := ⟨(cvS S0 st f d x.1).1 16 0 - 1, by omega⟩
      rw [hw]
      rfl
    rw [eo, jon_some, show i32 dep + (1 : Int32) = i32 (dep + 1) from i32_add dep 1, v1, cbd2_some, ← e2]
    exact z1
end REMALL
