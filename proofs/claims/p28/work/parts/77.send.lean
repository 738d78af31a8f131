/-! what a value does that goes through a chain -/
section SEND
variable {G : GT} {E B bx m s c p : Nat} {ad : Nat → Nat} {S : ST} {A : AT} {C : CT} {T : MT} {x : Int64}
/-- a value stands at a place -/
def Here (w c p : Nat) (x : Int64) (S : ST) (T : MT) : Prop := T.1 39 0 = i32 c ∧ T.1 40 0 = i32 p ∧ T.2.2.1 41 0 = dv (cso S c) x ∧ vb (cso S c) x ∧ T.1 34 0 = i32 w
def Room (E q p c : Nat) (S : ST) : Prop := ∀ d, d < S.1 16 0 → Sub S c p d → S.1 28 d + wid S c q p ≤ min E 4000000
/-- a run of the class, and the reference's -/
def Sends (G : GT) (E B bx m : Nat) (ad : Nat → Nat) (A : AT) (N root e q p c w : Nat) (S : ST) (T : MT) (run : Option (Int32 × CT)) : Prop :=
  ∃ (out cost : Nat) (S' : ST) (C' : CT) (T' : MT), run = some (i32 out, C') ∧
    (∀ k v4, h_R_goes_26 N (k + cost) (i32 root) v4 true T = h_R_goes_113 N (h_R_goes_26 N k) (i32 root) (v4 + if c = root then i32 out else 0) T') ∧ cost ≤ 100 ^ e ∧ JJ G E B bx m ad S' A C' T' ∧ Dy S S' ∧
    (∀ d, d < S.1 16 0 → ¬ Sub S c p d → S'.1 28 d = S.1 28 d) ∧ (∀ d, d < S.1 16 0 → S'.1 28 d ≤ S.1 28 d + wid S c q p) ∧ T'.1 34 0 = i32 w ∧ Stk w T T' ∧
    ((∀ r, p ≤ r → r < S.1 17 c → rate (S.1 2 (S.1 18 (10 * c + r))) = false) → ∃ v, T'.2.2.1 33 0 = dv (cso S c) v ∧ vb (cso S c) v ∧ S'.1 28 c ≠ 0 ∧ S'.2.1 27 (400 * c + (S'.1 28 c - 1) % 400) = v)
def SendOk (G : GT) (E B bx m : Nat) (ad : Nat → Nat) (A : AT) (N root n : Nat) : Prop :=
  ∀ (q p c w dep : Nat) (S : ST) (C : CT) (T : MT) (x : Int64), JJ G E B bx m ad S A C T → c < S.1 16 0 → c ≤ root → S.1 17 c = p + q → S.1 17 c ≠ 0 → Here w c p x S T → w ≤ dep → c + spq S c q p < n → dep + (c + spq S c q p) ≤ 30 → Room E q p c S →
    Sends G E B bx m ad A N root (12 * n - 2) q p c w S T (c_B_send N n (some (A 1 c)) (i32 p) x (i32 dep) C)
theorem pow_up {a b : Nat} (h : a + 1 ≤ b) : 100 * 100 ^ a ≤ 100 ^ b := by
  have : 100 * 100 ^ a = 100 ^ (a + 1) := by rw [Nat.pow_succ, Nat.mul_comm]
  rw [this]
  exact Nat.pow_le_pow_right (by decide) h
theorem pow_one (a : Nat) : 1 ≤ 100 ^ a := Nat.pow_pos (by decide)
theorem here_149 {N k : Nat} {root v4 : Int32} (J : JJ G E B bx m ad S A C T) (hc : c < S.1 16 0) (hp : p < S.1 17 c) (h39 : T.1 39 0 = i32 c) (h40 : T.1 40 0 = i32 p) : h_R_goes_26 N (k + 1) root v4 true T = h_R_goes_149 N (h_R_goes_26 N k) N root v4 true (i32 (S.1 18 (10 * c + p))) (i32 (3 * c + 0)) T := by
  obtain ⟨-, -, h10, c20⟩ := mem_r J hc hp
  have e17 : T.1 17 c = i32 (S.1 17 c) := jj_N J 17 (by decide) _
  have e18 : T.1 18 (10 * c + p) = i32 (S.1 18 (10 * c + p)) := jj_N J 18 (by decide) _
  have ec : (10 : Int32) * i32 c + i32 p = i32 (10 * c + p) := by rw [show (10 : Int32) = i32 10 from rfl, i32_mul, i32_add]
  have e3 : (3 : Int32) * i32 c = i32 (3 * c + 0) := by rw [show (3 : Int32) = i32 3 from rfl, i32_mul, Nat.add_zero]
  show (if true = true then _ else _) = _
  rw [if_pos (show true = true from rfl), h39, jrg_i32 c20 (by decide), obd_some, e17, h40, if_neg (i32_ne (by omega) (by omega) (by omega)), ec, jrg_i32 (by omega) (by decide), obd_some, e18, e3]
theorem skip_149 {N : Nat} {k26 : Int32 → Int32 → Bool → MT → Option (Int32 × MT)} {root v4 : Int32} (J : JJ G E B bx m ad S A C T) (hc : c < S.1 16 0) (hp : p < S.1 17 c) (hr : rate (S.1 2 (S.1 18 (10 * c + p))) = true) (h39 : T.1 39 0 = i32 c) (h40 : T.1 40 0 = i32 p) :
    ∀ (q n' i : Nat), S.1 20 c = i + q → h_R_goes_149 N k26 (n' + q) root v4 true (i32 s) (i32 (3 * c + i)) T = h_R_goes_149 N k26 n' root v4 true (i32 s) (i32 (3 * c + (i + q))) T
  | 0, _, _, _ => rfl
  | q + 1, n', i, hq => by
    obtain ⟨hlr, hw, h26, h71, h64, c20, i3⟩ := lop_r J hc (show i < S.1 20 c by omega)
    have h20 : S.1 20 c ≤ 3 := (jj_wc J hc).1.2.1
    have h10 := (jj_wc J hc).1.1
    have e22 : T.1 22 (3 * c + i) = i32 (S.1 22 (3 * c + i)) := jj_N J 22 (by decide) _
    have e20 : T.1 20 c = i32 (S.1 20 c) := jj_N J 20 (by decide) _
    have e3c : (3 : Int32) * i32 c + i32 (S.1 20 c) = i32 (3 * c + S.1 20 c) := by rw [show (3 : Int32) = i32 3 from rfl, i32_mul, i32_add]
    have hne : S.1 22 (3 * c + i) ≠ p := fun z => by
      have := hw.2.2.2.2.2.2.2 p (by omega) (by rw [← z]; exact hw.1)
      rw [hr] at this; cases this
    have hlt : S.1 22 (3 * c + i) < S.1 17 c := Nat.lt_of_le_of_lt hw.1 hw.2.1
    have step : h_R_goes_149 N k26 (n' + (q + 1)) root v4 true (i32 s) (i32 (3 * c + i)) T = h_R_goes_149 N k26 (n' + q) root v4 true (i32 s) (i32 (3 * c + (i + 1))) T := by
      show obd (jrg 20 (T.1 39 0)) _ = _
      rw [h39, jrg_i32 c20 (by decide), obd_some, e20, e3c, if_neg (by rw [i32_le (by omega) (by omega)]; omega), jrg_i32 (show 3 * c + i < 60 by omega) (by decide), obd_some, e22, h40, if_neg (i32_ne (by omega) (by omega) hne)]
      unfold h_R_goes_240
      rw [show i32 (3 * c + i) + 1 = i32 (3 * c + (i + 1)) from i32_add _ 1]
      rfl
    rw [step, skip_149 J hc hp hr h39 h40 q n' (i + 1) (by omega), show i + 1 + q = i + (q + 1) by omega]
theorem disp_149 {N n' : Nat} {k26 : Int32 → Int32 → Bool → MT → Option (Int32 × MT)} {root v4 : Int32} (J : JJ G E B bx m ad S A C T) (hc : c < S.1 16 0) (hs : s < 60) (h39 : T.1 39 0 = i32 c) :
    h_R_goes_149 N k26 (n' + 1) root v4 true (i32 s) (i32 (3 * c + S.1 20 c)) T =
      if T.1 2 s = (12 : Int32) then (
        obd (h_R_st (i32 s) (0 : Int32) T) fun x3 =>
        obd (jremI ((FP.d2i x3) + (1 : Int32)) (T.1 4 s)) fun x5 =>
        obd (h_R_st_2 (i32 s) (0 : Int32) (FP.i2d x5) T) fun (T6 : MT) =>
        if (FP.d2i x3) ≤ 0 then k26 root v4 true (tsI T6 40 0 ((T6.1 40 0) + (1 : Int32)))
        else tbd2 (h_R_goesOn N T6) fun x8 T9 => k26 root v4 x8 T9)
      else if T.1 2 s = (13 : Int32) then h_R_goes_339 N k26 root v4 true (i32 s) T
      else if T.1 2 s = (14 : Int32) then h_R_goes_339 N k26 root v4 true (i32 s) T
      else if T.1 2 s = (15 : Int32) then (if T.1 10 s = (-1 : Int32) then h_R_goes_412 N k26 root v4 true (i32 s) T
              else obd (h_R_waits (-1 : Int32) T) fun (T14 : MT) => k26 root v4 true (tsI (tsI T14 39 0 (T14.1 10 s)) 40 0 (0 : Int32)))
      else h_R_goes_412 N k26 root v4 true (i32 s) T := by
  have c20 : c < 20 := by have := (jj_n J).2.1; omega
  have h20 : S.1 20 c ≤ 3 := (jj_wc J hc).1.2.1
  have e20 : T.1 20 c = i32 (S.1 20 c) := jj_N J 20 (by decide) _
  have e3c : (3 : Int32) * i32 c + i32 (S.1 20 c) = i32 (3 * c + S.1 20 c) := by rw [show (3 : Int32) = i32 3 from rfl, i32_mul, i32_add]
  have e60 : jrg 60 (i32 s) = some s := jrg_i32 hs (by decide)
  show obd (jrg 20 (T.1 39 0)) _ = _
  rw [h39, jrg_i32 c20 (by decide), obd_some, e20, e3c, if_pos (by rw [i32_le (by omega) (by omega)]; omega), e60]
  simp only [obd_some, h_R_goes_312, h_R_goes_430, jlet]
theorem cls_at {N nn : Nat} {kS : Option Nat → Int32 → Int64 → Int32 → CT → Option (Int32 × CT)} {dep : Int32} (J : JJ G E B bx m ad S A C T) (hc : c < S.1 16 0) (hp : p < S.1 17 c) (hs : s = S.1 18 (10 * c + p)) :
    c_B_send_15 N kS (nn + 1) (some (A 1 c)) dep x (i32 p) C =
      if i32 (S.1 2 s) = (12 : Int32) then (cbd2 (c_Section_letsThrough (A 7 s) C) fun x7 C8 => if x7 = true then c_B_send_15 N kS nn (some (A 1 c)) dep x (i32 (p + 1)) C8 else some ((0 : Int32), C8))
      else if spread (S.1 2 s) = true then c_B_send_73 N kS N (A 1 c) dep x (i32 p) (A 7 s) (0 : Int32) (0 : Int32) C
      else cbd2 (c_Chain_looped N (A 1 c) (i32 p) (some (A 7 s)) x C) fun x10 C11 =>
        obd (cgA C11 (A 7 s) 7 14) fun x12 => jon x12 (c_B_send_179 N kS (c_B_send_15 N kS nn) (A 1 c) dep x10 (i32 p) (A 7 s) (0 : Int64) C11) fun _ =>
        obd (cgA C11 (A 7 s) 7 14) fun x14 => cbd2 (kS x14 (0 : Int32) x10 (dep + (1 : Int32)) C11) fun _ C16 => obd (cgA C16 (A 7 s) 7 14) fun x17 => obd x17 fun a18 => jgd (cob C16 a18 1) <| obd (c_Chain_madeLast a18 C16) fun x19 =>
        c_B_send_179 N kS (c_B_send_15 N kS nn) (A 1 c) dep x10 (i32 p) (A 7 s) x19 C16 := by
  obtain ⟨m1, -, h10, -⟩ := mem_r J hc hp
  rw [← hs] at m1
  have hcr := jj_c J hc
  have hsr := jj_s J m1
  have hm := member_of J hc (show p < 2 ^ 31 by omega)
  rw [if_pos hp, ← hs] at hm
  show obd (some (A 1 c)) _ = _
  rw [obd_some, rc_size hcr, obd_some, if_neg (by rw [i32_le (by omega) (by omega)]; omega), cob_of (ci := 1) (rc_tag hcr), jgd_true, hm, obd_some]
  simp only [jon, rs_kind hsr, obd_some, cob_of (ci := 7) (rs_tag hsr), jgd_true, spreads_of J m1, c_B_send_198, show i32 p + 1 = i32 (p + 1) from i32_add p 1]
/-- what a section made goes into loops, and on -/
theorem note_use {N : Nat} (hN : 100 ≤ N) {y : Int64} (J : JJ G E B bx m ad S A C T) (hc : c < S.1 16 0) (hp : p < S.1 17 c) (h39 : T.1 39 0 = i32 c) (h40 : T.1 40 0 = i32 p) (hv : vb (cso S c) y) :
    ∃ S' C' T', c_Chain_note N (A 1 c) (i32 p) y C = some C' ∧ h_R_leaves N (tsD T 41 0 (dv (cso S c) y)) = some T' ∧ JJ G E B bx m ad S' A C' T' ∧ T'.1 40 0 = i32 (p + 1) ∧ T'.2.2.1 41 0 = dv (cso S c) y ∧ Dy S S' ∧ S'.1 28 = S.1 28 ∧ Fr T T' := by
  have h20 : S.1 20 c ≤ 3 := (jj_wc J hc).1.2.1
  have h10 := (jj_wc J hc).1.1
  obtain ⟨S', C', T', w1, w2, w3, w4, w5, w6, w7, w8⟩ := note_ref (N := N) (v := y) (c := c) (p := p) (S.1 20 c) N N 0 S C (tsD T 41 0 (dv (cso S c) y)) (jj_T J (rt_Fg (jj_rt J) (fg_D (by decide)))) hc (by omega) (by omega) (by omega) (by omega) h39 h40 tsD_eq hv
  refine ⟨S', C', T', w1, ?_, w3, w4, w5, w6, w7, (fr_D (by decide)).trans w8⟩
  unfold h_R_leaves
  rw [show (3 : Int32) * (tsD T 41 0 (dv (cso S c) y)).1 39 0 = i32 (3 * c + 0) from by rw [show (tsD T 41 0 (dv (cso S c) y)).1 39 0 = i32 c from h39, show (3 : Int32) = i32 3 from rfl, i32_mul, Nat.add_zero]]
  exact w2
/-- going on after one section -/
theorem goes_cont {N root e q w : Nat} {run : Option (Int32 × CT)} {S1 : ST} {T1 : MT} (hd : Dy S S1) (h28 : S1.1 28 = S.1 28) (hst : Stk w T T1) (hm : ∀ k v4, h_R_goes_26 N (k + 1) (i32 root) v4 true T = h_R_goes_26 N k (i32 root) v4 true T1)
    (hsp : ¬ spread (S.1 2 (S.1 18 (10 * c + p))) = true) (g : Sends G E B bx m ad A N root e q (p + 1) c w S1 T1 run) : Sends G E B bx m ad A N root (e + 1) (q + 1) p c w S T run := by
  obtain ⟨out, cost, S', C', T', g1, g2, g3, g4, g5, g6, g7, g8, g9, gA⟩ := g
  have ew : wid S c (q + 1) p = wid S1 c q (p + 1) := by
    rw [wid_dy hd]
    show (if _ then _ else _) * _ = _
    rw [if_neg hsp, Nat.one_mul]
  refine ⟨out, cost + 1, S', C', T', g1, fun k v4 => ?_, ?_, g4, hd.trans g5, fun d h1 h2 => ?_, fun d h1 => ?_, g8, hst.trans g9, fun hr => ?_⟩
  · rw [show k + (cost + 1) = (k + cost) + 1 by omega, hm, g2]
  · have := pow_up (Nat.le_refl (e + 1))
    have := pow_one e
    omega
  · rw [g6 d (by rw [hd.1 16 (by decide)]; exact h1) (fun q => h2 (sub_succ ((sub_dy hd _ _ _).mp q))), h28]
  · have := g7 d (by rw [hd.1 16 (by decide)]; exact h1)
    rw [h28] at this
    rw [ew]; exact this
  · have := gA (fun r h1 h2 => by
      rw [hd.1 17 (by decide)] at h2
      rw [hd.1 2 (by decide), hd.1 18 (by decide)]
      exact hr r (by omega) h2)
    rw [dy_cso hd] at this
    exact this
/-- a value that is not let through -/
theorem goes_drop {N root e q w : Nat} {S1 : ST} {C1 : CT} {T1 : MT} (J : JJ G E B bx m ad S1 A C1 T1) (hp : p < S.1 17 c) (hd : Dy S S1) (h28 : S1.1 28 = S.1 28) (h34 : T1.1 34 0 = i32 w) (hst : Stk w T T1) (hm : ∀ k v4, h_R_goes_26 N (k + 1) (i32 root) v4 true T = h_R_goes_113 N (h_R_goes_26 N k) (i32 root) v4 T1)
    (hr : rate (S.1 2 (S.1 18 (10 * c + p))) = true) : Sends G E B bx m ad A N root e q p c w S T (some ((0 : Int32), C1)) := by
  refine ⟨0, 1, S1, C1, T1, rfl, fun k v4 => ?_, pow_one e, J, hd, fun d _ _ => by rw [h28], fun d _ => by rw [h28]; omega, h34, hst, fun h => ?_⟩
  · rw [hm]
    have : (v4 + if c = root then i32 0 else 0) = v4 := by
      split
      · exact Int32.add_zero v4
      · exact Int32.add_zero v4
    rw [this]
  · rw [h p (Nat.le_refl p) hp] at hr; cases hr
/-- a value that comes out -/
theorem goes_end {N nn root e w : Nat} {kS : Option Nat → Int32 → Int64 → Int32 → CT → Option (Int32 × CT)} {dep : Int32} (J : JJ G E B bx m ad S A C T) (hc : c < S.1 16 0) (hroot : c ≤ root) (hr20 : root < 20) (hp : S.1 17 c = p) (h0 : S.1 17 c ≠ 0) (hh : Here w c p x S T) (hR : Room E 0 p c S) :
    Sends G E B bx m ad A N root e 0 p c w S T (c_B_send_15 N kS (nn + 1) (some (A 1 c)) dep x (i32 p) C) := by
  obtain ⟨h39, h40, h41, hv, h34⟩ := hh
  have hcr := jj_c J hc
  have h10 := (jj_wc J hc).1.1
  have c20 : c < 20 := by have := (jj_n J).2.1; omega
  have h28 : S.1 28 c ≤ 4000000 := by have := (jj_wc J hc).2.2.2.2.2.2; omega
  have hm := Nat.mod_lt (S.1 28 c) (show 0 < 400 by decide)
  have hr1 : S.1 28 c + 1 ≤ min E 4000000 := hR c hc (Or.inl rfl)
  obtain ⟨dc, J1⟩ := jj_emit J hc h0 hv hr1
  have e17 : T.1 17 c = i32 p := by rw [jj_N J 17 (by decide), hp]
  have e28 : T.1 28 c = i32 (S.1 28 c) := jj_N J 28 (by decide) _
  have e28' : ∀ y, (tsD T 27 (400 * c + S.1 28 c % 400) y).1 28 c = i32 (S.1 28 c) := fun _ => e28
  have eix : (400 : Int32) * i32 c + (i32 (S.1 28 c) - i32 (S.1 28 c) / 400 * 400) = i32 (400 * c + S.1 28 c % 400) := by
    rw [show (400 : Int32) = i32 400 from rfl, rem_i32 (by omega) (by decide), i32_mul, i32_add]
  generalize hT7 : tsI (tsD T 27 (400 * c + S.1 28 c % 400) (dv (cso S c) x)) 28 c (i32 (S.1 28 c + 1)) = T7 at J1
  have f7 : Fr T T7 := by rw [← hT7]; exact (fr_D (by decide)).trans (fr_I (by decide))
  refine ⟨1, 1, emS S c x, emC S A C c x, tsD T7 33 0 (dv (cso S c) x), ?_, fun k v4 => ?_, pow_one e, jj_T J1 (rt_Fg (jj_rt J1) (fg_D (by decide))), dc.dy, fun d h1 h2 => ?_, fun d h1 => ?_, ?_, ?_, fun _ => ⟨x, ?_, hv, ?_, ?_⟩⟩
  · show obd (some (A 1 c)) _ = _
    rw [obd_some, rc_size hcr, obd_some, if_pos (by rw [i32_le (by omega) (by omega)]; omega), cob_of (ci := 1) (rc_tag hcr), jgd_true, emit_cls J hc, obd_some]
    rfl
  · show (if true = true then _ else _) = _
    have j20 : jrg 20 (i32 c) = some c := jrg_i32 c20 (by decide)
    have j80 : jrg 8000 (i32 (400 * c + S.1 28 c % 400)) = some (400 * c + S.1 28 c % 400) := jrg_i32 (by omega) (by decide)
    have q39 : (tsD T 27 (400 * c + S.1 28 c % 400) (dv (cso S c) x)).1 39 0 = i32 c := h39
    have q41 : T7.2.2.1 41 0 = dv (cso S c) x := by
      rw [← hT7]
      show (tsD T 27 (400 * c + S.1 28 c % 400) (dv (cso S c) x)).2.2.1 41 0 = _
      rw [tsD_ne (by decide)]; exact h41
    have r39 : ∀ y, (tsD T7 33 0 y).1 39 0 = i32 c := fun y => (congrFun (f7.1 39 (by decide)) 0).trans h39
    rw [if_pos (show true = true from rfl), h39, j20, obd_some, e17, h40, if_pos (show i32 p = i32 p from rfl), obd_some, e28, i32_low (by omega), eix, j80, obd_some, h41]
    simp only [jlet, q39, j20, obd_some, e28', show i32 (S.1 28 c) + 1 = i32 (S.1 28 c + 1) from i32_add _ 1, hT7, q41, r39]
    by_cases g : c = root
    · rw [if_pos (by rw [g]), if_pos g]; rfl
    · rw [if_neg (i32_ne (by omega) (by omega) g), if_neg g, Int32.add_zero]
  · exact dc.1 28 d (fun q => h2 (Or.inl q.2))
  · show (emS S c x).1 28 d ≤ S.1 28 d + 1
    by_cases g : d = c
    · rw [g, emS_28]; exact Nat.le_refl _
    · rw [dc.1 28 d (fun q => g q.2)]; omega
  · show T7.1 34 0 = _
    rw [f7.1 34 (by decide)]; exact h34
  · exact (f7.stk w).trans (fun j _ => ⟨rfl, rfl, rfl, congrFun (tsD_ne (by decide)) j⟩)
  · exact tsD_eq
  · rw [emS_28]; omega
  · rw [emS_28, Nat.add_sub_cancel, emS_27, if_pos rfl]
end SEND
