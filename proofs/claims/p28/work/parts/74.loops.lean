/-! loops at work; the frame of what goes -/
section LOOPS
variable {G : GT} {E B bx m s c l p : Nat} {ad : Nat → Nat} {S : ST} {A : AT} {C : CT} {T : MT} {x v : Int64}
theorem rt_71 (h : RT S T) {j w : Nat} : RT (uN S 71 j w) T := by
  obtain ⟨a1, a2, a3, a4, a5, a6, a7, a8, a9, b1, b2, b3⟩ := h
  have ek : ∀ x, x ≠ 71 → (uN S 71 j w).1 x = S.1 x := fun x h => funext fun _ => up2_k _ _ _ _ h
  have evs : vso (uN S 71 j w) = vso S := by
    funext x; unfold vso; rw [ek 2 (by decide), ek 3 (by decide)]
  have ecs : cso (uN S 71 j w) = cso S := by
    funext x; unfold cso; rw [ek 18 (by decide), ek 3 (by decide)]
  refine ⟨fun x hx j => by rw [ek x (fun q => by subst q; revert hx; decide)]; exact a1 x hx j, fun x hx => by rw [ek x (fun q => by subst q; revert hx; decide)]; exact a2 x hx, fun x hx j => by rw [ek x (fun q => by subst q; revert hx; decide)]; exact a3 x hx j, a4, a5, ?_, ?_, ?_, ?_, ?_, ?_, ?_⟩
  · rw [ek 3 (by decide)]; exact a6
  · rw [evs]; exact a7
  · rw [ecs]; exact a8
  · rw [ecs]; exact a9
  · rw [ecs]; exact b1
  · rw [evs]; exact b2
  · rw [ecs]; exact b3
/-- only what goes has changed -/
def Fg (T T' : MT) : Prop := (∀ k, k ∉ [34, 35, 36, 37, 39, 40] → T'.1 k = T.1 k) ∧ T'.2.1 = T.2.1 ∧ (∀ k, k ∉ [33, 38, 41] → T'.2.2.1 k = T.2.2.1 k) ∧ T'.2.2.2 = T.2.2.2
theorem Fg.refl (T : MT) : Fg T T := ⟨fun _ _ => rfl, rfl, fun _ _ => rfl, rfl⟩
theorem Fg.trans {T T' T'' : MT} (h : Fg T T') (h' : Fg T' T'') : Fg T T'' := ⟨fun k q => (h'.1 k q).trans (h.1 k q), h'.2.1.trans h.2.1, fun k q => (h'.2.2.1 k q).trans (h.2.2.1 k q), h'.2.2.2.trans h.2.2.2⟩
theorem fg_I {k j : Nat} {w : Int32} (h : k ∈ [34, 35, 36, 37, 39, 40]) : Fg T (tsI T k j w) := ⟨fun x hx => funext fun y => up2_k _ _ _ _ (fun q => hx (q ▸ h)), rfl, fun _ _ => rfl, rfl⟩
theorem fg_D {k j : Nat} {w : UInt64} (h : k ∈ [33, 38, 41]) : Fg T (tsD T k j w) := ⟨fun _ _ => rfl, rfl, fun x hx => funext fun y => up2_k _ _ _ _ (fun q => hx (q ▸ h)), rfl⟩
theorem rt_Fg {T' : MT} (hR : RT S T) (h : Fg T T') : RT S T' := by
  obtain ⟨a1, a2, a3, a4, a5, a6, a7, a8, a9, b1, b2, b3⟩ := hR
  obtain ⟨h1, h2, h3, -⟩ := h
  have m1 : ∀ k, k ∈ rtN → k ∉ [34, 35, 36, 37, 39, 40] := by decide
  have m2 : ∀ k, k ∈ rtC → k ∉ [34, 35, 36, 37, 39, 40] := by decide
  have m3 : ∀ k, k ∈ rtM → k ∉ [34, 35, 36, 37, 39, 40] := by decide
  have m4 : ∀ k, k ∈ rtI → k ∉ [34, 35, 36, 37, 39, 40] := by decide
  refine ⟨fun k hk j => by rw [h1 k (m1 k hk)]; exact a1 k hk j, fun k hk => by rw [h1 k (m2 k hk)]; exact a2 k hk, fun k hk j => by rw [h1 k (m3 k hk)]; exact a3 k hk j, fun k hk j => by rw [h1 k (m4 k hk)]; exact a4 k hk j, fun k hk j => by rw [h2]; exact a5 k hk j, fun j => ?_, fun j => ?_, fun j => ?_, fun j => ?_, fun j => ?_, fun j => ?_, fun j => ?_⟩
  · rw [h3 7 (by decide)]; exact a6 j
  · rw [h3 13 (by decide)]; exact a7 j
  · rw [h3 24 (by decide)]; exact a8 j
  · rw [h3 25 (by decide)]; exact a9 j
  · rw [h3 27 (by decide)]; exact b1 j
  · rw [h3 46 (by decide)]; exact b2 j
  · rw [h3 49 (by decide)]; exact b3 j
/-- all but the place and the value that go -/
def Fr (T T' : MT) : Prop := (∀ k, k ∈ [34, 35, 36, 37, 39] → T'.1 k = T.1 k) ∧ ∀ k, k ∈ [33, 38] → T'.2.2.1 k = T.2.2.1 k
theorem Fr.refl (T : MT) : Fr T T := ⟨fun _ _ => rfl, fun _ _ => rfl⟩
theorem Fr.trans {T T' T'' : MT} (h : Fr T T') (h' : Fr T' T'') : Fr T T'' := ⟨fun k q => (h'.1 k q).trans (h.1 k q), fun k q => (h'.2 k q).trans (h.2 k q)⟩
theorem Mf.fr {T T' : MT} (h : Mf T T') : Fr T T' := ⟨fun k hk => h.1 k ((by decide : ∀ k, k ∈ [34, 35, 36, 37, 39] → k ∈ [34, 35, 36, 37, 39, 40, 42, 43]) k hk), fun k hk => h.2 k ((by decide : ∀ k, k ∈ [33, 38] → k ∈ [33, 38, 41]) k hk)⟩
theorem fr_I {k j : Nat} {w : Int32} (h : k ∉ [34, 35, 36, 37, 39]) : Fr T (tsI T k j w) := ⟨fun x hx => funext fun y => up2_k _ _ _ _ (fun q => h (q ▸ hx)), fun _ _ => rfl⟩
theorem fr_D {k j : Nat} {w : UInt64} (h : k ∉ [33, 38]) : Fr T (tsD T k j w) := ⟨fun _ _ => rfl, fun x hx => funext fun y => up2_k _ _ _ _ (fun q => h (q ▸ hx))⟩
theorem lop_r {i : Nat} (J : JJ G E B bx m ad S A C T) (hc : c < S.1 16 0) (hi : i < S.1 20 c) : RCl S A C (3 * c + i) ∧ WFl S c (3 * c + i) ∧ S.1 26 (3 * c + i) < S.1 23 (3 * c + i) ∧ S.1 71 (3 * c + i) < S.1 23 (3 * c + i) ∧ S.1 23 (3 * c + i) ≤ 64 ∧ c < 20 ∧ i < 3 := by
  have h1 := (jj_c J hc).2.2.2.2 i hi
  have h2 := (jj_wc J hc).2.2.2.2.1 i hi
  have h3 := (jj_wc J hc).1.2.1
  have h4 := (jj_n J).2.1
  have h5 := h2.2.2.2.2.1
  exact ⟨h1, h2, h5, by rcases h1.2.2.2.2.2.2.1 with h | h <;> omega, h2.2.2.2.1, by omega, by omega⟩
theorem lop_at {i : Nat} (J : JJ G E B bx m ad S A C T) (hc : c < S.1 16 0) (hi : i < S.1 20 c) : c_Row_at (A 67 (3 * c + i)) (0 : Int32) C = some (S.2.1 25 (64 * (3 * c + i) + S.1 26 (3 * c + i))) := by
  obtain ⟨h1, h2, h3, h4, h5, -⟩ := lop_r J hc hi
  have h := ring_at (k := 0) h1.2.1 h1.2.2.1 h1.2.2.2.1 h1.2.2.2.2 (by omega) h5
  rw [Nat.add_zero, Nat.mod_eq_of_lt h3] at h
  exact h
def plS (S : ST) (l : Nat) (v : Int64) : ST := uN (uN (uJ S 25 (64 * l + S.1 26 l) v) 71 l ((S.1 71 l + 1) % S.1 23 l)) 26 l ((S.1 26 l + 1) % S.1 23 l)
theorem jj_lpush {i : Nat} (J : JJ G E B bx m ad S A C T) (hc : c < S.1 16 0) (hi : i < S.1 20 c) (hl : l = 3 * c + i) (hv : vb (cso S c) v) :
    c_Row_push (A 67 l) v C = some (csI (csJ C 900 (A 68 l) (S.1 71 l) v) 97 (A 67 l) 0 (i32 ((S.1 71 l + 1) % S.1 23 l))) ∧ Dyl S (plS S l v) l ∧
    JJ G E B bx m ad (plS S l v) A (csI (csJ C 900 (A 68 l) (S.1 71 l) v) 97 (A 67 l) 0 (i32 ((S.1 71 l + 1) % S.1 23 l))) (tsI (tsD T 25 (64 * l + S.1 26 l) (dv (cso S c) v)) 26 l (i32 ((S.1 26 l + 1) % S.1 23 l))) := by
  obtain ⟨hr, hw, h26, h71, h64, c20, i3⟩ := lop_r J hc hi
  rw [← hl] at hr hw h26 h71 h64
  have hm1 := Nat.mod_lt (S.1 71 l + 1) (show 0 < S.1 23 l by omega)
  have hm2 := Nat.mod_lt (S.1 26 l + 1) (show 0 < S.1 23 l by omega)
  have hd := dl_of hr
  have e25 : ∀ j, (plS S l v).2.1 25 j = if j = 64 * l + S.1 26 l then v else S.2.1 25 j := fun j => by
    show up2 S.2.1 25 _ v 25 j = _
    simp [up2]
  have e1 : ∀ x, x ≠ 71 → x ≠ 26 → (plS S l v).1 x = S.1 x := fun x h1 h2 => funext fun j => by
    show up2 (up2 S.1 71 l ((S.1 71 l + 1) % S.1 23 l)) 26 l ((S.1 26 l + 1) % S.1 23 l) x j = _
    rw [up2_k _ _ _ _ h2, up2_k _ _ _ _ h1]
  have e71 : (plS S l v).1 71 l = (S.1 71 l + 1) % S.1 23 l := by
    show up2 (up2 S.1 71 l ((S.1 71 l + 1) % S.1 23 l)) 26 l ((S.1 26 l + 1) % S.1 23 l) 71 l = _
    rw [up2_k _ _ _ _ (by decide), up2_same]
  have e26 : (plS S l v).1 26 l = (S.1 26 l + 1) % S.1 23 l := up2_same _ _ _ _
  have ecs : cso (plS S l v) c = cso S c := by
    unfold cso
    rw [e1 3 (by decide) (by decide), e1 18 (by decide) (by decide)]
  have dl : Dyl S (plS S l v) l := by
    refine ⟨fun k j h => ?_, fun k j h => ?_, rfl⟩
    · show up2 (up2 S.1 71 l _) 26 l _ k j = _
      unfold up2
      rw [if_neg (fun q => h ⟨Or.inl q.1, q.2⟩), if_neg (fun q => h ⟨Or.inr q.1, q.2⟩)]
    · show up2 S.2.1 25 _ v k j = _
      unfold up2
      rw [if_neg (fun q => h ⟨q.1, by omega, by omega⟩)]
  refine ⟨push_of hr.2.1 hr.2.2.1 hd.1 hd.2.1 hd.2.2.1 h71 h64, dl, ?_⟩
  refine jj_lop J hc hi hl dl ⟨rfl, rfl, fun k a j h => ?_, fun k a j h => ?_, rfl⟩ ⟨?_, ?_⟩ ?_ ?_
  · simp only [csI, csJ, up3]
    rw [if_neg (fun q => h ⟨q.1, q.2.1⟩)]
  · simp only [csI, csJ, up3]
    rw [if_neg (fun q => h ⟨q.1, q.2.1⟩)]
  · rw [e71]; simp [csI, up3]
  · rw [e71, e26, e1 23 (by decide) (by decide)]
    have := ring_push (v := v) hd.2 (by omega) h71 h26
    exact ⟨this.1, this.2.1, this.2.2.1, this.2.2.2.1, fun j hj => (this.2.2.2.2 j hj).trans (e25 _).symm⟩
  · unfold Wl
    rw [e26, ecs, e1 23 (by decide) (by decide)]
    refine ⟨hm2, fun j hj => ?_⟩
    rw [e25]
    split
    · exact hv
    · exact hw.2.2.2.2.2.2.1 j hj
  · have r1 := rt_uD (v := v) (jj_rt J) (k := 25) (j := 64 * l + S.1 26 l) (so := cso S c) (Or.inr (Or.inr (Or.inr (Or.inl ⟨rfl, by rw [show (64 * l + S.1 26 l) / 64 / 3 = c by omega]⟩))))
    exact rt_uN (rt_71 r1) (by decide) (by decide) (by decide) (by decide)
theorem mem_r (J : JJ G E B bx m ad S A C T) (hc : c < S.1 16 0) (hp : p < S.1 17 c) : S.1 18 (10 * c + p) < S.1 1 0 ∧ S.1 3 (S.1 18 (10 * c + p)) = cso S c ∧ S.1 17 c ≤ 10 ∧ c < 20 := by
  have h := (jj_wc J hc).2.1 p hp
  have h4 := (jj_n J).2.1
  exact ⟨h.1, h.2.2.2, (jj_wc J hc).1.1, by omega⟩
/-- the loops that a section's input takes up -/
theorem looped_ref {N : Nat} :
    ∀ (q n i : Nat) (S : ST) (C : CT) (T : MT) (x : Int64), JJ G E B bx m ad S A C T → c < S.1 16 0 → p < S.1 17 c → s = S.1 18 (10 * c + p) → S.1 20 c = i + q → q < n → T.1 39 0 = i32 c → T.1 40 0 = i32 p → T.2.2.1 41 0 = dv (S.1 3 s) x → vb (S.1 3 s) x →
    ∃ y S' C' T', c_Chain_looped_6 N n (A 1 c) (i32 p) (some (A 7 s)) x (i32 i) C = some (y, C') ∧ (∀ (n' : Nat) (k26 : Int32 → Int32 → Bool → MT → Option (Int32 × MT)) (root v4 : Int32), h_R_goes_149 N k26 (n' + q) root v4 true (i32 s) (i32 (3 * c + i)) T = h_R_goes_149 N k26 n' root v4 true (i32 s) (i32 (3 * c + (i + q))) T') ∧
      JJ G E B bx m ad S' A C' T' ∧ T'.1 40 0 = i32 p ∧ T'.2.2.1 41 0 = dv (S.1 3 s) y ∧ vb (S.1 3 s) y ∧ Sl s S S' ∧ Fr T T'
  | 0, n, i, S, C, T, x, J, hc, hp, hs, hq, hn, h39, h40, h41, hv => by
    obtain ⟨n, rfl⟩ : ∃ k, n = k + 1 := ⟨n - 1, by omega⟩
    refine ⟨x, S, C, T, ?_, fun _ _ _ _ => rfl, J, h40, h41, hv, Sl.refl s S, Fr.refl T⟩
    show obd (cgI C (A 1 c) 1 4) _ = _
    rw [rc_loopCount (jj_c J hc), obd_some, if_pos (by rw [i32_le (by have := (jj_wc J hc).1.2.1; omega) (by have := (jj_wc J hc).1.2.1; omega)]; omega)]
  | q + 1, n, i, S, C, T, x, J, hc, hp, hs, hq, hn, h39, h40, h41, hv => by
    obtain ⟨n, rfl⟩ : ∃ k, n = k + 1 := ⟨n - 1, by omega⟩
    have hi : i < S.1 20 c := by omega
    obtain ⟨hr, hw, h26, h71, h64, c20, i3⟩ := lop_r J hc hi
    obtain ⟨hs1, hso, h10, -⟩ := mem_r J hc hp
    rw [← hs] at hs1 hso
    have hb := jj_b J
    have hcr := jj_c J hc
    have hsr := jj_s J hs1
    have h3 := so_lt J hs1
    have hs60 : s < 60 := by have := (jj_n J).1; omega
    have h20 : S.1 20 c ≤ 3 := (jj_wc J hc).1.2.1
    have e22 : T.1 22 (3 * c + i) = i32 (S.1 22 (3 * c + i)) := jj_N J 22 (by decide) _
    have j60 : jrg 60 (i32 (3 * c + i)) = some (3 * c + i) := jrg_i32 (by omega) (by decide)
    have j20 : jrg 20 (i32 c) = some c := jrg_i32 c20 (by decide)
    have e20 : T.1 20 c = i32 (S.1 20 c) := jj_N J 20 (by decide) _
    have e3c : (3 : Int32) * i32 c + i32 (S.1 20 c) = i32 (3 * c + S.1 20 c) := by rw [show (3 : Int32) = i32 3 from rfl, i32_mul, i32_add]
    have m1 : ∀ (n' : Nat) (k26 : Int32 → Int32 → Bool → MT → Option (Int32 × MT)) (root v4 : Int32), h_R_goes_149 N k26 (n' + (q + 1)) root v4 true (i32 s) (i32 (3 * c + i)) T = if i32 (S.1 22 (3 * c + i)) = i32 p then (
        obd (h_R_begins (i32 s) T) fun (T19 : MT) =>
        obd (h_R_term_2 (T19.2.2.1 41 0) false T19) fun (T20 : MT) =>
        obd (jrg 3840 (((64 : Int32) * i32 (3 * c + i)) + (T20.1 26 (3 * c + i)))) fun n23 =>
        obd (h_R_term (T20.2.2.1 24 (3 * c + i)) (T20.2.2.1 25 n23) false T20) fun (T24 : MT) =>
        tbd2 (h_R_comes T24) fun x25 T26 =>
        h_R_goes_149 N k26 (n' + q) root v4 true (i32 s) (i32 (3 * c + (i + 1))) (tsD T26 41 0 x25))
      else h_R_goes_149 N k26 (n' + q) root v4 true (i32 s) (i32 (3 * c + (i + 1))) T := by
      intro n' k26 root v4
      show obd (jrg 20 (T.1 39 0)) _ = _
      rw [h39, j20, obd_some, e20, e3c, if_neg (by rw [i32_le (by omega) (by omega)]; omega), j60, obd_some, e22, h40]
      simp only [obd_some, h_R_goes_240, jlet, show i32 (3 * c + i) + 1 = i32 (3 * c + (i + 1)) from i32_add _ 1]
      rfl
    have c1 : c_Chain_looped_6 N (n + 1) (A 1 c) (i32 p) (some (A 7 s)) x (i32 i) C = if i32 (S.1 22 (3 * c + i)) = i32 p then (
        cbd2 (c_Section_settled (A 7 s) (plB (S.1 3 s) (tmB (S.1 3 s) x) (prB (S.1 3 s) (S.2.1 24 (3 * c + i)) (S.2.1 25 (64 * (3 * c + i) + S.1 26 (3 * c + i))))) C) fun x19 C20 =>
        c_Chain_looped_6 N n (A 1 c) (i32 p) (some (A 7 s)) x19 (i32 (i + 1)) C20)
      else c_Chain_looped_6 N n (A 1 c) (i32 p) (some (A 7 s)) x (i32 (i + 1)) C := by
      have vf : vb (S.1 3 s) (S.2.1 24 (3 * c + i)) := by rw [hso]; exact hw.2.2.2.2.2.1
      have vp : vb (S.1 3 s) (S.2.1 25 (64 * (3 * c + i) + S.1 26 (3 * c + i))) := by rw [hso]; exact hw.2.2.2.2.2.2.1 _ (by omega)
      have pr := nums_product (so := S.1 3 s) hb h3 (fun _ => vf) (fun _ => vp)
      have tt := nums_term (so := S.1 3 s) hb h3 x
      have pl := nums_plus (so := S.1 3 s) hb h3 (c := tmB (S.1 3 s) x) (v := prB (S.1 3 s) (S.2.1 24 (3 * c + i)) (S.2.1 25 (64 * (3 * c + i) + S.1 26 (3 * c + i)))) (fun h2 => by rw [show tmB (S.1 3 s) x = x from if_pos h2]; exact hv) (fun h2 => prB_vb h2 _ _)
      have lp := loopAt_of J hc (show i < 2 ^ 31 by omega)
      rw [if_pos hi] at lp
      show obd (cgI C (A 1 c) 1 4) _ = _
      rw [rc_loopCount hcr, obd_some, if_neg (by rw [i32_le (by omega) (by omega)]; omega)]
      simp only [cob_of (ci := 1) (rc_tag hcr), jgd_true, lp, obd_some, jon, rl_from hr, rs_numbers hsr, rl_factor hr, rl_past hr, cob_of (ci := 6) hr.2.1, lop_at J hc hi, pr, tt, pl, cob_of (ci := 7) (rs_tag hsr), c_Chain_looped_84, show i32 i + 1 = i32 (i + 1) from i32_add i 1]
    by_cases g : i32 (S.1 22 (3 * c + i)) = i32 p
    · rw [if_pos g] at c1
      obtain ⟨B0, ab, mb, fb⟩ := begins_ref (jj_rt J) hs60
      obtain ⟨U0, a0, m0, f0⟩ := term2_ref h3 mb (by decide) hv (fun _ _ => rfl)
      have m0 : MS U0 s (S.1 3 s) 1 (tmB (S.1 3 s) x) := m0
      have JU0 := jj_T J (rt_Sc (jj_rt J) (fb.trans f0))
      have e26 : U0.1 26 (3 * c + i) = i32 (S.1 26 (3 * c + i)) := jj_N JU0 26 (by decide) _
      have e24 : U0.2.2.1 24 (3 * c + i) = dv (S.1 3 s) (S.2.1 24 (3 * c + i)) := by
        have h := (jj_rt JU0).2.2.2.2.2.2.2.1 (3 * c + i)
        rw [show (3 * c + i) / 3 = c by omega, ← hso] at h
        exact h
      have e25 : U0.2.2.1 25 (64 * (3 * c + i) + S.1 26 (3 * c + i)) = dv (S.1 3 s) (S.2.1 25 (64 * (3 * c + i) + S.1 26 (3 * c + i))) := by
        have h := (jj_rt JU0).2.2.2.2.2.2.2.2.1 (64 * (3 * c + i) + S.1 26 (3 * c + i))
        rw [show (64 * (3 * c + i) + S.1 26 (3 * c + i)) / 64 / 3 = c by omega, ← hso] at h
        exact h
      have eb : B0.2.2.1 41 0 = dv (S.1 3 s) x := by rw [fb.2.2.1 41 (by decide)]; exact h41
      have vf : vb (S.1 3 s) (S.2.1 24 (3 * c + i)) := by rw [hso]; exact hw.2.2.2.2.2.1
      have vp : vb (S.1 3 s) (S.2.1 25 (64 * (3 * c + i) + S.1 26 (3 * c + i))) := by rw [hso]; exact hw.2.2.2.2.2.2.1 _ (by omega)
      obtain ⟨U1, a1, m2, f1⟩ := term_ref h3 m0 (by decide) vf vp (off := false) (fun q => absurd q (by decide))
      have m2 : MS U1 s (S.1 3 s) 2 (plB (S.1 3 s) (tmB (S.1 3 s) x) (prB (S.1 3 s) (S.2.1 24 (3 * c + i)) (S.2.1 25 (64 * (3 * c + i) + S.1 26 (3 * c + i))))) := m2
      obtain ⟨y, S1, C1, T1, uc, ur, J1, vy, sl, mf⟩ := settle (jj_T J (rt_Sc (jj_rt J) (fb.trans (f0.trans f1)))) hs1 rfl m2 (by decide)
      have mff := (Sc.mf (fb.trans (f0.trans f1))).trans mf
      have p1 : S1.1 = S.1 := sl.1
      obtain ⟨z, S2, C2, T2, w1, w2, w3, w4, w5, w6, w7, w8⟩ := looped_ref q n (i + 1) S1 C1 (tsD T1 41 0 (dv (S.1 3 s) y)) y (jj_T J1 (rt_Fg (jj_rt J1) (fg_D (by decide)))) (by rw [p1]; exact hc) (by rw [p1]; exact hp) (by rw [p1]; exact hs) (by rw [p1]; omega) (by omega)
        (by show T1.1 39 0 = _; rw [mff.1 39 (by decide)]; exact h39) (by show T1.1 40 0 = _; rw [mff.1 40 (by decide)]; exact h40) (by rw [p1]; simp [tsD, up2]) (by rw [p1]; exact vy)
      rw [p1] at w5 w6
      refine ⟨z, S2, C2, T2, ?_, fun n' k26 root v4 => ?_, w3, w4, w5, w6, sl.trans w7, mff.fr.trans ((fr_D (by decide)).trans w8)⟩
      · rw [c1, uc, cbd2_some, w1]
      · rw [m1, if_pos g, ab, obd_some, eb, a0, obd_some, e26, show (64 : Int32) * i32 (3 * c + i) + i32 (S.1 26 (3 * c + i)) = i32 (64 * (3 * c + i) + S.1 26 (3 * c + i)) from by rw [show (64 : Int32) = i32 64 from rfl, i32_mul, i32_add], jrg_i32 (by omega) (by decide), obd_some, e24, e25, a1, obd_some, ur, tbd2_some, w2, show i + 1 + q = i + (q + 1) by omega]
    · rw [if_neg g] at c1
      obtain ⟨z, S2, C2, T2, w1, w2, w3, w4, w5, w6, w7, w8⟩ := looped_ref q n (i + 1) S C T x J hc hp hs (by omega) (by omega) h39 h40 h41 hv
      refine ⟨z, S2, C2, T2, ?_, fun n' k26 root v4 => ?_, w3, w4, w5, w6, w7, w8⟩
      · rw [c1, w1]
      · rw [m1, if_neg g, w2, show i + 1 + q = i + (q + 1) by omega]
end LOOPS
