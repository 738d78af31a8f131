/-! a chain is silenced -/
section SILCHAIN
variable {G : GT} {E B bx m s l c : Nat} {ad : Nat → Nat} {S : ST} {A : AT} {C : CT} {T : MT} {f : Nat → Nat}
theorem loopAt_of (J : JJ G E B bx m ad S A C T) (hc : c < S.1 16 0) {i : Nat} (hi : i < 2 ^ 31) : c_Chain_loopAt (A 1 c) (i32 i) C = some (if i < S.1 20 c then some (A 4 (3 * c + i)) else none) := by
  have hr := jj_c J hc
  have h3 := (jj_wc J hc).1.2.1
  unfold c_Chain_loopAt
  rw [if_neg (i32_nonneg hi), rc_loopCount hr, obd_some]
  by_cases h : i < S.1 20 c
  · rw [if_neg (by rw [i32_le (by omega) hi]; omega), rc_loops hr, obd_some, obd_some, cal_of (n := 3) (by rw [hr.2.2.1.1]; decide) hr.2.2.1.2.1, obd_some, if_pos (by rw [i32_lt hi (by omega)]; omega), obd_some, obd_some,
      caA_of (ci := 4) (n := 3) hr.2.2.1.1 (by decide) hr.2.2.1.2.1 (by omega) (by decide), obd_some, hr.2.2.1.2.2 i (by omega)]
  · rw [if_pos (by rw [i32_le (by omega) hi]; omega), if_neg h]; rfl
theorem rowAt_rest (J : JJ G E B bx m ad S A C T) (hc : c < S.1 16 0) {p : Nat} (hp : p < S.1 17 c) : c_Chain_rowAt (A 1 c) (i32 (2 * p)) C = some (some (A 121 (S.1 18 (10 * c + p)))) := by
  have hr := jj_c J hc
  have h10 := (jj_wc J hc).1.1
  have hh := i32_halves (2 * p) (by omega)
  unfold c_Chain_rowAt
  rw [rc_size hr, obd_some, two_i32, if_neg (by rw [i32_le (by omega) (by omega)]; omega), cob_of (rc_tag hr), jgd_true, hh.1, show 2 * p / 2 = p by omega, member_of J hc (by omega), if_pos hp, obd_some, jon_some, hh.2, show 2 * p % 2 = 0 by omega, if_pos (by rfl), rs_rest (jj_s J (places_lt J hc hp)), obd_some]
theorem rowAt_states (J : JJ G E B bx m ad S A C T) (hc : c < S.1 16 0) {p : Nat} (hp : p < S.1 17 c) : c_Chain_rowAt (A 1 c) (i32 (2 * p + 1)) C = some (some (A 118 (S.1 18 (10 * c + p)))) := by
  have hr := jj_c J hc
  have h10 := (jj_wc J hc).1.1
  have hh := i32_halves (2 * p + 1) (by omega)
  unfold c_Chain_rowAt
  rw [rc_size hr, obd_some, two_i32, if_neg (by rw [i32_le (by omega) (by omega)]; omega), cob_of (rc_tag hr), jgd_true, hh.1, show (2 * p + 1) / 2 = p by omega, member_of J hc (by omega), if_pos hp, obd_some, jon_some, hh.2, show (2 * p + 1) % 2 = 1 by omega, if_neg (by decide), rs_states (jj_s J (places_lt J hc hp)), obd_some]
theorem rowAt_loop (J : JJ G E B bx m ad S A C T) (hc : c < S.1 16 0) {i : Nat} (hi : i < S.1 20 c) : c_Chain_rowAt (A 1 c) (i32 (2 * S.1 17 c + i)) C = some (some (A 67 (3 * c + i))) := by
  have hr := jj_c J hc
  have w := (jj_wc J hc).1
  unfold c_Chain_rowAt
  rw [rc_size hr, obd_some, two_i32, if_pos (by rw [i32_le (by omega) (by omega)]; omega), obd_some, two_i32, cob_of (rc_tag hr), jgd_true, i32_sub (by omega), show 2 * S.1 17 c + i - 2 * S.1 17 c = i by omega, loopAt_of J hc (by omega), if_pos hi, obd_some, jon_some, rl_past (hr.2.2.2.2 i hi), obd_some]
def Fi (L : List Nat) (T T' : MT) : Prop := (∀ k, k ∉ L → T'.1 k = T.1 k) ∧ T'.2.2.2 = T.2.2.2
theorem Fi.refl (L : List Nat) (T : MT) : Fi L T T := ⟨fun _ _ => rfl, rfl⟩
theorem Fi.trans {L : List Nat} {T T' T'' : MT} (h : Fi L T T') (h' : Fi L T' T'') : Fi L T T'' := ⟨fun k q => (h'.1 k q).trans (h.1 k q), h'.2.trans h.2⟩
theorem Fi.mono {L L' : List Nat} {T T' : MT} (h : Fi L T T') (hL : ∀ k, k ∈ L → k ∈ L') : Fi L' T T' := ⟨fun k q => h.1 k (fun z => q (hL k z)), h.2⟩
def slq (f : Nat → Nat) : Nat → Nat → ST → ST
  | 0, _, S => S
  | q + 1, p, S => slq f q (p + 1) (slS S (f p))
def elq (c : Nat) : Nat → Nat → ST → ST
  | 0, _, S => S
  | q + 1, i, S => elq c q (i + 1) (elS S (3 * c + i))
def ouS (S : ST) (c : Nat) : ST := uN S 28 c 0
theorem sl_el : slS (elS S l) s = elS (slS S s) l := by
  unfold slS elS
  refine Prod.ext (funext fun k => funext fun j => ?_) (Prod.ext (funext fun k => funext fun j => ?_) rfl)
  · by_cases h : k = 14
    · subst h; simp
    · simp [h]
  · by_cases h : k = 25
    · subst h; simp
    · simp [h]
theorem sl_ou : slS (ouS S c) s = ouS (slS S s) c := by
  unfold slS ouS uN up2
  refine Prod.ext (funext fun k => funext fun j => ?_) (Prod.ext (funext fun k => funext fun j => ?_) rfl)
  · by_cases h : k = 14
    · subst h; simp
    · simp [h]
  · rfl
theorem el_ou : elS (ouS S c) l = ouS (elS S l) c := by
  unfold elS ouS uN up2
  refine Prod.ext (funext fun k => funext fun j => ?_) (Prod.ext (funext fun k => funext fun j => ?_) rfl)
  · by_cases h : k = 26
    · subst h; simp
    · simp [h]
  · rfl
theorem slq_el : ∀ (q p : Nat) (S : ST), slq f q p (elS S l) = elS (slq f q p S) l
  | 0, _, _ => rfl
  | q + 1, p, S => by
    show slq f q (p + 1) (slS (elS S l) (f p)) = elS (slq f q (p + 1) (slS S (f p))) l
    rw [sl_el, slq_el q (p + 1)]
theorem slq_ou : ∀ (q p : Nat) (S : ST), slq f q p (ouS S c) = ouS (slq f q p S) c
  | 0, _, _ => rfl
  | q + 1, p, S => by
    show slq f q (p + 1) (slS (ouS S c) (f p)) = ouS (slq f q (p + 1) (slS S (f p))) c
    rw [sl_ou, slq_ou q (p + 1)]
theorem elq_ou {d : Nat} : ∀ (q p : Nat) (S : ST), elq d q p (ouS S c) = ouS (elq d q p S) c
  | 0, _, _ => rfl
  | q + 1, p, S => by
    show elq d q (p + 1) (elS (ouS S c) (3 * d + p)) = ouS (elq d q (p + 1) (elS S (3 * d + p))) c
    rw [el_ou, elq_ou q (p + 1)]
theorem slq_elq {d q p : Nat} : ∀ (q' p' : Nat) (S : ST), slq f q p (elq d q' p' S) = elq d q' p' (slq f q p S)
  | 0, _, _ => rfl
  | q' + 1, p', S => by
    show slq f q p (elq d q' (p' + 1) (elS S (3 * d + p'))) = elq d q' (p' + 1) (elS (slq f q p S) (3 * d + p'))
    rw [slq_elq q' (p' + 1), slq_el]
theorem slq_dy : ∀ (q p : Nat) (S : ST), (∀ k, k ≠ 14 → (slq f q p S).1 k = S.1 k) ∧ Dy S (slq f q p S)
  | 0, _, _ => ⟨fun _ _ => rfl, Dy.refl _⟩
  | q + 1, p, S => by
    have ih := slq_dy q (p + 1) (slS S (f p))
    refine ⟨fun k hk => (ih.1 k hk).trans (slS_k hk), Dy.trans ⟨fun k hk => slS_k (fun q => hk (by rw [q]; decide)), fun k hk => slS_J (fun q => hk (by rw [q]; decide)) (fun q => hk (by rw [q]; decide)), fun _ _ => rfl⟩ ih.2⟩
theorem elq_dy {d : Nat} : ∀ (q p : Nat) (S : ST), (∀ k, k ≠ 26 → (elq d q p S).1 k = S.1 k) ∧ Dy S (elq d q p S)
  | 0, _, _ => ⟨fun _ _ => rfl, Dy.refl _⟩
  | q + 1, p, S => by
    have ih := elq_dy (d := d) q (p + 1) (elS S (3 * d + p))
    refine ⟨fun k hk => (ih.1 k hk).trans (elS_k hk), Dy.trans ⟨fun k hk => elS_k (fun q => hk (by rw [q]; decide)), fun k hk => elS_J (fun q => hk (by rw [q]; decide)), fun _ _ => rfl⟩ ih.2⟩
theorem ou_dy : Dy S (ouS S c) := ⟨fun k hk => funext fun j => up2_k _ _ _ _ (fun q => hk (by rw [q]; decide)), fun _ _ => rfl, fun _ _ => rfl⟩
/-- what a chain is, silenced -/
def chz (S : ST) (c : Nat) : ST := slq (fun p => S.1 18 (10 * c + p)) (S.1 17 c) 0 (elq c (S.1 20 c) 0 (ouS S c))
theorem chz_dy : Dy S (chz S c) := (ou_dy.trans (elq_dy _ _ _).2).trans (slq_dy _ _ _).2
theorem chz_ou : chz S c = ouS (elq c (S.1 20 c) 0 (slq (fun p => S.1 18 (10 * c + p)) (S.1 17 c) 0 S)) c := by
  unfold chz
  rw [slq_elq, slq_ou, elq_ou]
/-- the class's loops -/
theorem jj_silLoop {i : Nat} (J : JJ G E B bx m ad S A C T) (hc : c < S.1 16 0) (hi : i < S.1 20 c) : JJ G E B bx m ad (elS S (3 * c + i)) A (fiC C (A 68 (3 * c + i)) 0 (S.1 23 (3 * c + i)) 0) (tOf (elS S (3 * c + i))) := by
  have hl := (jj_c J hc).2.2.2.2 i hi
  have hw := (jj_wc J hc).2.2.2.2.1 i hi
  refine jj_lop J hc hi rfl ⟨fun k j hq => ?_, fun k j hq => ?_, rfl⟩ ⟨rfl, rfl, fun _ _ _ _ => rfl, fun k a j hq => ?_, rfl⟩ ⟨?_, ?_⟩ ⟨?_, fun k hk => ?_⟩ (rt_tOf _)
  · simp only [elS]
    rw [if_neg (fun z => hq ⟨Or.inl z.1, z.2⟩)]
  · simp only [elS]
    rw [if_neg hq]
  · simp only [fiC]
    rw [if_neg (fun z => hq ⟨z.1, z.2.1⟩)]
  · rw [elS_k (by decide)]; exact hl.2.2.2.1
  · rw [elS_k (k := 23) (by decide), elS_k (k := 71) (by decide), elS_26l]
    have r := ring_clear hl.2.2.2.2
    refine ⟨r.1, r.2.1, r.2.2.1, Or.inl rfl, fun y hy => (r.2.2.2.2 y hy).trans ?_⟩
    have := hw.2.2.2.1
    have := Nat.mod_lt (0 + y) (show 0 < S.1 23 (3 * c + i) by omega)
    rw [elS_25s (by omega)]
  · rw [elS_26l, elS_k (by decide)]; have := hw.2.2.1; omega
  · rw [elS_25s hk]; exact vb_zero _
theorem jj_ou (J : JJ G E B bx m ad S A C T) (hc : c < S.1 16 0) : JJ G E B bx m ad (ouS S c) A (csI (csI (csI C 22 (A 1 c) 0 0) 23 (A 1 c) 0 0) 24 (A 1 c) 0 0) (tOf (ouS S c)) := by
  have hr := jj_c J hc
  have hw := jj_wc J hc
  have e28 : (ouS S c).1 28 c = 0 := up2_same _ _ _ _
  have ek : ∀ k, k ≠ 28 → (ouS S c).1 k = S.1 k := fun k h => funext fun j => up2_k _ _ _ _ h
  refine jj_out J hc ⟨fun k j hq => ?_, fun _ _ _ => rfl, rfl⟩ ⟨rfl, rfl, fun k a j hq => ?_, fun _ _ _ _ => rfl, rfl⟩ ⟨?_, ?_, ?_, fun j hj => hr.2.2.2.1.2.2 j hj⟩ ?_ (rt_tOf _)
  · show up2 S.1 28 c 0 k j = _
    unfold up2
    rw [if_neg hq]
  · have h1 : ¬ (k = 22 ∧ a = A 1 c ∧ j = 0) := fun z => hq ⟨Or.inl z.1, z.2.1⟩
    have h2 : ¬ (k = 23 ∧ a = A 1 c ∧ j = 0) := fun z => hq ⟨Or.inr (Or.inl z.1), z.2.1⟩
    have h3 : ¬ (k = 24 ∧ a = A 1 c ∧ j = 0) := fun z => hq ⟨Or.inr (Or.inr z.1), z.2.1⟩
    simp only [csI, up3]
    rw [if_neg h3, if_neg h2, if_neg h1]
  · rw [e28]; simp [csI, up3]; rfl
  · rw [e28]; simp [csI, up3]; rfl
  · rw [e28]; simp [csI, up3]; rfl
  · unfold Wc
    rw [e28, ek 17 (by decide)]
    have w := wc_of hw
    have ec : cso (ouS S c) c = cso S c := by unfold cso; rw [ek 18 (by decide), ek 3 (by decide)]
    rw [ec]
    exact ⟨fun q => ⟨rfl, (w.1 q).2⟩, w.2.1, Nat.zero_le _⟩
theorem sil_step {N n r row a len : Nat} (J : JJ G E B bx m ad S A C T) (hc : c < S.1 16 0) (hr : r < 2 * S.1 17 c + S.1 20 c) (hrow : c_Chain_rowAt (A 1 c) (i32 r) C = some (some row)) (h7 : C.1 row = 7) (h96 : C.2.2.2.2.1 96 row 0 = some a) (h21 : C.1 a = 21) (hl : C.2.1 a = len) (hN : len < N) (hlen : len < 2 ^ 31) :
    c_Chain_silence_2 N (n + 1) (A 1 c) (i32 r) C = c_Chain_silence_2 N n (A 1 c) (i32 (r + 1)) (fiC C a 0 len 0) := by
  have w := (jj_wc J hc).1
  show (jgd (cob C (A 1 c) 1) _) = _
  rw [cob_of (rc_tag (jj_c J hc)), jgd_true, rowCount_of J hc, obd_some, if_neg (by rw [i32_le (by omega) (by omega)]; omega), jgd_true, hrow, obd_some, jon_some, cob_of (ci := 6) h7, jgd_true, rowClear_of hN hlen h7 h96 h21 hl, obd_some]
  unfold c_Chain_silence_24
  rw [show i32 r + 1 = i32 (r + 1) from i32_add r 1]
theorem sil3_go {N : Nat} (hN : 100 ≤ N) : ∀ (q n i : Nat) (S : ST) (C : CT), JJ G E B bx m ad S A C (tOf S) → c < S.1 16 0 → S.1 20 c = i + q →
    ∃ C1, c_Chain_silence_2 N (n + 1 + q) (A 1 c) (i32 (2 * S.1 17 c + i)) C = some C1 ∧ JJ G E B bx m ad (ouS (elq c q i S) c) A C1 (tOf (ouS (elq c q i S) c)) ∧ C1.2.2.2.2 = C.2.2.2.2
  | 0, n, i, S, C, J, hc, hi => by
    have w := (jj_wc J hc).1
    have ht := rc_tag (jj_c J hc)
    refine ⟨_, ?_, jj_ou J hc, rfl⟩
    show (jgd (cob C (A 1 c) 1) _) = _
    rw [cob_of ht, jgd_true, rowCount_of J hc, obd_some, if_pos (by rw [i32_le (by omega) (by omega)]; omega), cpI_of (ci := 1) ht (by decide) (by decide), obd_some, cpI_of (ci := 1) (show (csI C (16 * 1 + 6) (A 1 c) 0 0).1 (A 1 c) = 2 from ht) (by decide) (by decide), obd_some, cpI_of (ci := 1) (show (csI (csI C (16 * 1 + 6) (A 1 c) 0 0) (16 * 1 + 7) (A 1 c) 0 0).1 (A 1 c) = 2 from ht) (by decide) (by decide), obd_some]
  | q + 1, n, i, S, C, J, hc, hi => by
    have hl := (jj_c J hc).2.2.2.2 i (by omega)
    have hw := (jj_wc J hc).2.2.2.2.1 i (by omega)
    have hle := hw.2.2.2.1
    have J1 := jj_silLoop J hc (i := i) (by omega)
    obtain ⟨C1, u1, u2, u3⟩ := sil3_go hN q n (i + 1) _ _ J1 (by rw [elS_k (by decide)]; exact hc) (by rw [elS_k (by decide)]; omega)
    rw [elS_k (k := 17) (by decide)] at u1
    refine ⟨C1, ?_, u2, u3⟩
    have e := sil_step (N := N) (n := n + 1 + q) J hc (show 2 * S.1 17 c + i < 2 * S.1 17 c + S.1 20 c by omega) (rowAt_loop J hc (by omega)) hl.2.1 hl.2.2.1 hl.2.2.2.2.1 hl.2.2.2.2.2.1 (by omega) (by omega)
    exact e.trans u1
theorem sil2_go {N : Nat} (hN : 100 ≤ N) : ∀ (q n p : Nat) (S : ST) (C : CT), JJ G E B bx m ad S A C (tOf S) → c < S.1 16 0 → S.1 17 c = p + q → (∀ x, S.1 18 (10 * c + x) = f x) →
    ∃ C1, c_Chain_silence_2 N (n + 2 * q) (A 1 c) (i32 (2 * p)) C = c_Chain_silence_2 N n (A 1 c) (i32 (2 * S.1 17 c)) C1 ∧ JJ G E B bx m ad (slq f q p S) A C1 (tOf (slq f q p S)) ∧ C1.2.2.2.2 = C.2.2.2.2
  | 0, n, p, S, C, J, hc, hp, _ => by
    refine ⟨C, ?_, J, rfl⟩
    rw [hp]
    rfl
  | q + 1, n, p, S, C, J, hc, hp, hf => by
    have h10 := (jj_wc J hc).1.1
    have hm := places_lt J hc (p := p) (by omega)
    have J1 := jj_rest J hm 0 (fun _ => rfl)
    have J2 := jj_clear J1 (s := S.1 18 (10 * c + p)) hm
    have hle := rln_le J1 (s := S.1 18 (10 * c + p)) hm
    rw [cl_sl] at J2
    obtain ⟨r1, r2, r3, r4, r5, r6, -⟩ := (jj_s J hm).2.1.2.2.1
    have e1 := sil_step (N := N) (n := n + 2 * q + 1) J hc (show 2 * p < 2 * S.1 17 c + S.1 20 c by omega) (rowAt_rest J hc (by omega)) r2 r3 r5 r6 (by omega) (by decide)
    rw [fiC_one] at e1
    have hs1 := (jj_s J1 (s := S.1 18 (10 * c + p)) hm).2.2.2
    have e2 := sil_step (N := N) (n := n + 2 * q) J1 hc (show 2 * p + 1 < 2 * S.1 17 c + S.1 20 c by omega) (rowAt_states J1 hc (p := p) (show p < S.1 17 c by omega)) hs1.1 hs1.2.1 hs1.2.2.2.1 hs1.2.2.2.2.1 (by omega) (by omega)
    obtain ⟨C1, u1, u2, u3⟩ := sil2_go hN q n (p + 1) _ _ J2 (by rw [slS_k (by decide)]; exact hc) (by rw [slS_k (by decide)]; omega) (fun x => by rw [slS_k (by decide)]; exact hf x)
    rw [slS_k (k := 17) (by decide)] at u1
    refine ⟨C1, ?_, ?_, u3⟩
    · exact (e1.trans e2).trans u1
    · show JJ G E B bx m ad (slq f q (p + 1) (slS S (f p))) A C1 (tOf (slq f q (p + 1) (slS S (f p))))
      rw [← hf p]
      exact u2
theorem chz_class {N : Nat} (hN : 100 ≤ N) (J : JJ G E B bx m ad S A C T) (hc : c < S.1 16 0) : ∃ C1, c_Chain_silence N (A 1 c) C = some C1 ∧ JJ G E B bx m ad (chz S c) A C1 (tOf (chz S c)) ∧ C1.2.2.2.2 = C.2.2.2.2 := by
  have w := (jj_wc J hc).1
  obtain ⟨n, hn⟩ : ∃ n, N = n + 1 + S.1 20 c + 2 * S.1 17 c := ⟨N - 1 - S.1 20 c - 2 * S.1 17 c, by omega⟩
  obtain ⟨C1, u1, u2, u3⟩ := sil2_go (f := fun p => S.1 18 (10 * c + p)) hN (S.1 17 c) (n + 1 + S.1 20 c) 0 S C (jj_T J (rt_tOf S)) hc (by omega) (fun _ => rfl)
  have hd := (slq_dy (f := fun p => S.1 18 (10 * c + p)) (S.1 17 c) 0 S).1
  obtain ⟨C2, v1, v2, v3⟩ := sil3_go (c := c) hN (S.1 20 c) n 0 _ C1 u2 (by rw [hd 16 (by decide)]; exact hc) (by rw [hd 20 (by decide)]; omega)
  rw [hd 17 (by decide)] at v1
  refine ⟨C2, ?_, ?_, v3.trans u3⟩
  · unfold c_Chain_silence
    have e : c_Chain_silence_2 N N = c_Chain_silence_2 N (n + 1 + S.1 20 c + 2 * S.1 17 c) := congrArg (c_Chain_silence_2 N) hn
    rw [e]
    exact u1.trans v1
  · rw [chz_ou]; exact v2
/-- the reference's loops -/
theorem emp66_go {N : Nat} (hN : 100 ≤ N) (hc : c < 20) : ∀ (q n p : Nat) (S : ST) (T : MT), RT S T → S.1 17 c = p + q → p + q ≤ 10 → (∀ x, S.1 18 (10 * c + x) = f x) → (∀ x, x < p + q → f x < 60) → q < n →
    ∃ T1, h_R_empties_66 N n (i32 c) (i32 p) T = some T1 ∧ RT (slq f q p S) T1 ∧ Fi [14] T T1
  | 0, 0, _, _, _, _, _, _, _, _, h => absurd h (by omega)
  | 0, n + 1, p, S, T, hR, hp, h10, _, _, _ => by
    refine ⟨T, ?_, hR, Fi.refl _ _⟩
    unfold h_R_empties_66
    rw [jrg_i32 hc (by decide), obd_some, hR.1 17 (by decide), if_pos (by rw [i32_le (by omega) (by omega)]; omega)]
  | q + 1, 0, _, _, _, _, _, _, _, _, h => absurd h (by omega)
  | q + 1, n + 1, p, S, T, hR, hp, h10, hf, hf6, hn => by
    have h6 := hf6 p (by omega)
    obtain ⟨T1, u1, u2, u3⟩ := emp66_go hN hc q n (p + 1) _ _ (rt_sl (s := f p) hR) (by rw [slS_k (by decide)]; omega) (by omega) (fun x => by rw [slS_k (by decide)]; exact hf x) (fun x hx => hf6 x (by omega)) (by omega)
    have f0 : Fi [14] T (tsJ (tsI (zD T 13 (64 * f p) (64 * f p + 64)) 14 (f p) 0) 15 (f p) 0) := ⟨fun k hk => funext fun j => by
      have : k ≠ 14 := fun z => hk (by rw [z]; decide)
      simp [tsJ, tsI, zD, up2, this], rfl⟩
    refine ⟨T1, ?_, u2, f0.trans u3⟩
    · unfold h_R_empties_66
      rw [jrg_i32 hc (by decide), obd_some, hR.1 17 (by decide), if_neg (by rw [i32_le (by omega) (by omega)]; omega), show (10 : Int32) * i32 c + i32 p = i32 (10 * c + p) from by rw [show (10 : Int32) = i32 10 from rfl, i32_mul, i32_add], jrg_i32 (by omega) (by decide), obd_some, hR.1 18 (by decide), hf p, clears_of hN h6, obd_some, show i32 p + 1 = i32 (p + 1) from i32_add p 1]
      exact u1
theorem emp27_go {N : Nat} {k11 : Int32 → Int32 → MT → Option MT} (hl : l < 60) : ∀ (q n j : Nat) (T : MT), j + q = 64 → q < n → h_R_empties_27 N k11 n (i32 c) (i32 l) (i32 j) T = k11 (i32 c) (i32 (l + 1)) (tsI (zD T 25 (64 * l + j) (64 * l + 64)) 26 l 0)
  | 0, 0, _, _, _, h => absurd h (by omega)
  | 0, n + 1, j, T, hj, _ => by
    have : j = 64 := by omega
    subst this
    unfold h_R_empties_27
    rw [if_pos (by decide), zD_nil, jrg_i32 hl (by decide), obd_some, show i32 l + 1 = i32 (l + 1) from i32_add l 1]
    rfl
  | q + 1, 0, _, _, _, h => absurd h (by omega)
  | q + 1, n + 1, j, T, hj, hn => by
    unfold h_R_empties_27
    rw [if_neg (by rw [show (64 : Int32) = i32 64 from rfl, i32_le (by omega) (by omega)]; omega), show (64 : Int32) * i32 l + i32 j = i32 (64 * l + j) from by rw [show (64 : Int32) = i32 64 from rfl, i32_mul, i32_add], jrg_i32 (by omega) (by decide), obd_some]
    show h_R_empties_27 N k11 n (i32 c) (i32 l) (i32 j + 1) (tsD T 25 (64 * l + j) 0) = _
    rw [show i32 j + 1 = i32 (j + 1) from i32_add j 1, emp27_go hl q n (j + 1) _ (by omega) (by omega), show 64 * l + (j + 1) = 64 * l + j + 1 from rfl, zD_step (by omega)]
theorem emp11_go {N : Nat} (hN : 100 ≤ N) (hc : c < 20) : ∀ (q n i : Nat) (S : ST) (T : MT), RT S T → S.1 20 c = i + q → i + q ≤ 3 → q < n →
    ∃ T1, h_R_empties_11 N n (i32 c) (i32 (3 * c + i)) T = h_R_empties_66 N N (i32 c) 0 T1 ∧ RT (elq c q i S) T1 ∧ Fi [26] T T1
  | 0, 0, _, _, _, _, _, _, h => absurd h (by omega)
  | 0, n + 1, i, S, T, hR, hp, h3, _ => by
    refine ⟨T, ?_, hR, Fi.refl _ _⟩
    unfold h_R_empties_11
    rw [jrg_i32 hc (by decide), obd_some, hR.1 20 (by decide), show (3 : Int32) * i32 c + i32 (S.1 20 c) = i32 (3 * c + S.1 20 c) from by rw [show (3 : Int32) = i32 3 from rfl, i32_mul, i32_add], if_pos (by rw [i32_le (by omega) (by omega)]; omega)]
  | q + 1, 0, _, _, _, _, _, _, h => absurd h (by omega)
  | q + 1, n + 1, i, S, T, hR, hp, h3, hn => by
    obtain ⟨T1, u1, u2, u3⟩ := emp11_go hN hc q n (i + 1) _ _ (rt_el (l := 3 * c + i) hR) (by rw [elS_k (by decide)]; omega) (by omega) (by omega)
    have f0 : Fi [26] T (tsI (zD T 25 (64 * (3 * c + i)) (64 * (3 * c + i) + 64)) 26 (3 * c + i) 0) := ⟨fun k hk => funext fun j => by
      have : k ≠ 26 := fun z => hk (by rw [z]; decide)
      simp [tsI, zD, up2, this], rfl⟩
    refine ⟨T1, ?_, u2, f0.trans u3⟩
    · unfold h_R_empties_11
      rw [jrg_i32 hc (by decide), obd_some, hR.1 20 (by decide), show (3 : Int32) * i32 c + i32 (S.1 20 c) = i32 (3 * c + S.1 20 c) from by rw [show (3 : Int32) = i32 3 from rfl, i32_mul, i32_add], if_neg (by rw [i32_le (by omega) (by omega)]; omega), show (0 : Int32) = i32 0 from rfl, emp27_go (by omega) 64 N 0 T rfl (by omega), show 3 * c + i + 1 = 3 * c + (i + 1) from rfl]
      exact u1
theorem chz_ref {N : Nat} (hN : 100 ≤ N) (hR : RT S T) (hc : c < 20) (h17 : S.1 17 c ≤ 10) (h20 : S.1 20 c ≤ 3) (hf : ∀ p, p < S.1 17 c → S.1 18 (10 * c + p) < 60) : ∃ T1, h_R_empties N (i32 c) T = some T1 ∧ RT (chz S c) T1 ∧ Fi [14, 26, 28] T T1 := by
  have R1 : RT (ouS S c) (tsI T 28 c 0) := rt_uN (v := 0) hR (by decide) (by decide) (by decide) (by decide)
  have ek : ∀ k, k ≠ 28 → (ouS S c).1 k = S.1 k := fun k h => funext fun j => up2_k _ _ _ _ h
  obtain ⟨T1, u1, u2, u3⟩ := emp11_go (N := N) hN hc (S.1 20 c) N 0 _ _ R1 (by rw [ek 20 (by decide)]; omega) (by omega) (by omega)
  have hd := (elq_dy (d := c) (S.1 20 c) 0 (ouS S c)).1
  obtain ⟨T2, v1, v2, v3⟩ := emp66_go (N := N) (f := fun p => S.1 18 (10 * c + p)) hN hc (S.1 17 c) N 0 _ _ u2 (by rw [hd 17 (by decide), ek 17 (by decide)]; omega) (by omega) (fun x => by rw [hd 18 (by decide), ek 18 (by decide)]) (fun x hx => hf x (by omega)) (by omega)
  have f0 : Fi [14, 26, 28] T (tsI T 28 c 0) := ⟨fun k hk => funext fun j => by
    have : k ≠ 28 := fun z => hk (by rw [z]; decide)
    simp [tsI, up2, this], rfl⟩
  have f1 : Fi [14, 26, 28] _ T1 := u3.mono (by decide)
  have f2 : Fi [14, 26, 28] T1 T2 := v3.mono (by decide)
  refine ⟨T2, ?_, v2, f0.trans (f1.trans f2)⟩
  · unfold h_R_empties
    rw [jrg_i32 hc (by decide), obd_some, show (3 : Int32) * i32 c = i32 (3 * c + 0) from by rw [show (3 : Int32) = i32 3 from rfl, i32_mul]; rfl]
    exact u1.trans v1
end SILCHAIN
