/-! spreaders, MIXes; all that a value does -/
section SENDB
variable {G : GT} {E B bx m : Nat} {ad : Nat → Nat} {A : AT}
theorem dv_or {so kd : Nat} {x : Int64} : dv so (if kd = 14 then x else 0) = if kd = 14 then dv so x else 0 := by
  split
  · rfl
  · exact dv_zero _
theorem vb_or {so kd : Nat} {x : Int64} (h : vb so x) : vb so (if kd = 14 then x else 0) := by
  split
  · exact h
  · exact vb_zero _
theorem add_if {c root a b : Nat} {v4 : Int32} : (v4 + if c = root then i32 a else 0) + (if c = root then i32 b else 0) = v4 + if c = root then i32 (a + b) else 0 := by
  split
  · rw [Int32.add_assoc, i32_add]
  · rw [Int32.add_zero]
/-- the second of a spreader's values, and those behind it -/
theorem spr_go {N root n L kd c p q s w dep : Nat} {x : Int64} (P : SendOk G E B bx m ad A N root n) (hkd : kd = 13 ∨ kd = 14) (hroot : c ≤ root) (hwd : w ≤ dep) (hL : L ≤ 8) :
    ∀ (r nn j : Nat) (acc : Int32) (S : ST) (C : CT) (T : MT), JJ G E B bx m ad S A C T → c < S.1 16 0 → S.1 17 c = p + 1 + q → s = S.1 18 (10 * c + p) → S.1 2 s = kd → S.2.2 4 s = i32 L → j + r = L → 1 ≤ j → 1 ≤ r → r < nn →
      T.1 34 0 = i32 (w + 1) → T.1 35 w = i32 c → T.1 36 w = i32 p → T.1 37 w = i32 r → T.2.2.1 38 w = dv (cso S c) x → vb (cso S c) x → c + spq S c q (p + 1) < n → dep + 1 + (c + spq S c q (p + 1)) ≤ 30 →
      (∀ d, d < S.1 16 0 → Sub S c (p + 1) d → S.1 28 d + r * wid S c q (p + 1) ≤ min E 4000000) →
      ∃ (out cost : Nat) (S' : ST) (C' : CT) (T' : MT), c_B_send_73 N (c_B_send N n) nn (A 1 c) (i32 dep) x (i32 p) (A 7 s) acc (i32 j) C = some (acc + i32 out, C') ∧
        (∀ k v4, h_R_goes_113 N (h_R_goes_26 N (k + cost)) (i32 root) v4 T = h_R_goes_113 N (h_R_goes_26 N k) (i32 root) (v4 + if c = root then i32 out else 0) T') ∧ cost ≤ r * 100 ^ (12 * n - 2) ∧ JJ G E B bx m ad S' A C' T' ∧ Dy S S' ∧
        (∀ d, d < S.1 16 0 → ¬ Sub S c (p + 1) d → S'.1 28 d = S.1 28 d) ∧ (∀ d, d < S.1 16 0 → S'.1 28 d ≤ S.1 28 d + r * wid S c q (p + 1)) ∧ T'.1 34 0 = i32 w ∧ Stk w T T'
  | 0, _, _, _, _, _, _, _, _, _, _, _, _, _, _, h, _, _, _, _, _, _, _, _, _, _ => absurd h (by decide)
  | r + 1, nn, j, acc, S, C, T, J, hc, h17, hs, hk, hln, hj, hj1, hr1, hn, h34, h35, h36, h37, h38, hv, hsn, hdep, hR => by
    obtain ⟨nn, rfl⟩ : ∃ k, nn = k + 1 := ⟨nn - 1, by omega⟩
    have hp : p < S.1 17 c := by omega
    obtain ⟨m1, mso, h10, c20⟩ := mem_r J hc hp
    rw [← hs] at m1 mso
    have hs60 : s < 60 := by have := (jj_n J).1; omega
    have hsr := jj_s J m1
    have e18 : T.1 18 (10 * c + p) = i32 s := by rw [jj_N J 18 (by decide), hs]
    have e2 : T.1 2 s = i32 kd := by rw [jj_N J 2 (by decide), hk]
    obtain ⟨T1, o1, o2, o3, o4, o5, o6, o7, o8, o9, oA, oB⟩ := on_spread (N := N) h34 (by omega) h35 h36 h37 (by omega) (by omega) h38 c20 (by omega) e18 hs60 e2 hkd
    have W1 := (wid_le J hc q (p + 1) (by omega)).1
    have eW : (r + 1) * wid S c q (p + 1) = r * wid S c q (p + 1) + wid S c q (p + 1) := Nat.succ_mul _ _
    have g := P q (p + 1) c (if r + 1 = 1 then w else w + 1) (dep + 1) S C T1 (if kd = 14 then x else 0) (jj_T J (rt_Fg (jj_rt J) o2)) hc hroot (by omega) (by omega) ⟨o3, o4, by rw [o5, dv_or], vb_or hv, o6⟩ (by split <;> omega) hsn hdep (fun d h1 h2 => by
      have := hR d h1 h2
      rw [eW] at this
      omega)
    obtain ⟨out1, cost1, S1, C1, T2, g1, g2, g3, J1, g5, g6, g7, g8, g9, -⟩ := g
    have cls : c_B_send_73 N (c_B_send N n) (nn + 1) (A 1 c) (i32 dep) x (i32 p) (A 7 s) acc (i32 j) C = c_B_send_73 N (c_B_send N n) nn (A 1 c) (i32 dep) x (i32 p) (A 7 s) (acc + i32 out1) (i32 (j + 1)) C1 := by
      show obd (cgI C (A 7 s) 7 3) _ = _
      rw [rs_length hsr, obd_some, hln, if_neg (by rw [i32_le (by omega) (by omega)]; omega), if_neg (show ¬ i32 j = 0 from i32_ne (b := 0) (by omega) (by decide) (by omega)), rs_kind hsr, obd_some, hk]
      rcases hkd with rfl | rfl
      · rw [if_neg (by decide : ¬ 13 = 14)] at g1
        rw [if_neg (by decide : ¬ (i32 13 : Int32) = 14)]
        unfold c_B_send_111
        rw [show i32 p + 1 = i32 (p + 1) from i32_add p 1, show i32 dep + 1 = i32 (dep + 1) from i32_add dep 1, g1, cbd2_some, show i32 j + 1 = i32 (j + 1) from i32_add j 1]
      · rw [if_pos (by rfl : 14 = 14)] at g1
        rw [if_pos (by rfl : (i32 14 : Int32) = 14)]
        unfold c_B_send_105 c_B_send_111
        rw [show i32 p + 1 = i32 (p + 1) from i32_add p 1, show i32 dep + 1 = i32 (dep + 1) from i32_add dep 1, g1, cbd2_some, show i32 j + 1 = i32 (j + 1) from i32_add j 1]
    have on1 : ∀ k v4, h_R_goes_113 N (h_R_goes_26 N (k + cost1)) (i32 root) v4 T = h_R_goes_113 N (h_R_goes_26 N k) (i32 root) (v4 + if c = root then i32 out1 else 0) T2 := fun k v4 => by
      rw [← g2]
      unfold h_R_goes_113
      rw [o1, tbd2_some]
    have st1 : Stk w T T1 := fun i hi => ⟨congrFun o7 i, congrFun o8 i, oA i (by omega), congrFun oB i⟩
    have k5 := g5.1
    have ln1 : S1.2.2 4 s = i32 L := by rw [g5.2.2 4 (by decide)]; exact hln
    have m1' : s < S1.1 1 0 := by rw [k5 1 (by decide)]; exact m1
    by_cases hr0 : r = 0
    · subst hr0
      obtain ⟨nn, rfl⟩ : ∃ k, nn = k + 1 := ⟨nn - 1, by omega⟩
      refine ⟨out1, cost1, S1, C1, T2, ?_, on1, by rw [Nat.zero_add, Nat.one_mul]; exact g3, J1, g5, g6, fun d hd => by rw [Nat.zero_add, Nat.one_mul]; exact g7 d hd, by rw [if_pos (by rfl)] at g8; exact g8, st1.trans (g9.mono (by split <;> omega))⟩
      rw [cls]
      show obd (cgI C1 (A 7 s) 7 3) _ = _
      rw [rs_length (jj_s J1 m1'), obd_some, ln1, if_pos (by rw [i32_le (by omega) (by omega)]; omega)]
    · rw [if_neg (by omega : ¬ r + 1 = 1)] at g8 g9
      have gw := g9 w (by omega)
      obtain ⟨out2, cost2, S2, C2, T3, r1, r2, r3, J2, r5, r6, r7, r8, r9⟩ := spr_go P hkd hroot hwd hL r nn (j + 1) (acc + i32 out1) S1 C1 T2 J1 (by rw [k5 16 (by decide)]; exact hc) (by rw [k5 17 (by decide)]; exact h17) (by rw [k5 18 (by decide)]; exact hs) (by rw [k5 2 (by decide)]; exact hk) ln1 (by omega) (by omega) (by omega) (by omega) g8
        (by rw [gw.1, o7]; exact h35) (by rw [gw.2.1, o8]; exact h36) (by rw [gw.2.2.1, o9]; rfl) (by rw [gw.2.2.2, oB, dy_cso g5]; exact h38) (by rw [dy_cso g5]; exact hv) (by rw [spq_dy g5]; exact hsn) (by rw [spq_dy g5]; exact hdep) (fun d h1 h2 => by
          rw [wid_dy g5]
          rw [k5 16 (by decide)] at h1
          have a := hR d h1 ((sub_dy g5 _ _ _).mp h2)
          have b := g7 d h1
          rw [eW] at a
          omega)
      refine ⟨out1 + out2, cost1 + cost2, S2, C2, T3, ?_, fun k v4 => ?_, ?_, J2, g5.trans r5, fun d h1 h2 => ?_, fun d h1 => ?_, r8, st1.trans ((g9.mono (by omega)).trans r9)⟩
      · rw [cls, r1, Int32.add_assoc, i32_add]
      · rw [show k + (cost1 + cost2) = (k + cost2) + cost1 by omega, on1, r2, add_if]
      · rw [Nat.succ_mul]
        generalize 100 ^ (12 * n - 2) = X at *
        omega
      · rw [r6 d (by rw [k5 16 (by decide)]; exact h1) (fun z => h2 ((sub_dy g5 _ _ _).mp z)), g6 d h1 h2]
      · have a := r7 d (by rw [k5 16 (by decide)]; exact h1)
        have b := g7 d h1
        rw [wid_dy g5] at a
        rw [eW]
        omega
theorem room_cont {q p c : Nat} {S S1 : ST} (h : Room E (q + 1) p c S) (hd : Dy S S1) (h28 : S1.1 28 = S.1 28) (hsp : ¬ spread (S.1 2 (S.1 18 (10 * c + p))) = true) : Room E q (p + 1) c S1 := fun d h1 h2 => by
  rw [hd.1 16 (by decide)] at h1
  have a := h d h1 (sub_succ ((sub_dy hd _ _ _).mp h2))
  have e : wid S c (q + 1) p = wid S c q (p + 1) := by
    show (if _ then _ else _) * _ = _
    rw [if_neg hsp, Nat.one_mul]
  rw [h28, wid_dy hd, ← e]
  exact a
theorem spq_cont {q p c : Nat} {S S1 : ST} (hd : Dy S S1) (hsp : ¬ spread (S.1 2 (S.1 18 (10 * c + p))) = true) : spq S1 c q (p + 1) = spq S c (q + 1) p := by
  rw [spq_dy hd]
  show _ = (if _ then _ else _) + _
  rw [if_neg hsp, Nat.zero_add]
theorem disp_412 {N n' s c : Nat} {S : ST} {C : CT} {T : MT} {k26 : Int32 → Int32 → Bool → MT → Option (Int32 × MT)} {root v4 : Int32} (J : JJ G E B bx m ad S A C T) (hc : c < S.1 16 0) (hs : s < 60) (h39 : T.1 39 0 = i32 c) (hk : S.1 2 s < 12 ∨ S.1 2 s = 15) (h10 : S.1 10 s = 0) :
    h_R_goes_149 N k26 (n' + 1) root v4 true (i32 s) (i32 (3 * c + S.1 20 c)) T = h_R_goes_412 N k26 root v4 true (i32 s) T := by
  have e2 : T.1 2 s = i32 (S.1 2 s) := jj_N J 2 (by decide) _
  have e10 : T.1 10 s = -1 := by rw [jj_M J 10 (by decide), h10]; exact im_zero
  rw [disp_149 J hc hs h39, e2, if_neg (show ¬ i32 (S.1 2 s) = (12 : Int32) from i32_ne (b := 12) (by omega) (by decide) (by omega)), if_neg (show ¬ i32 (S.1 2 s) = (13 : Int32) from i32_ne (b := 13) (by omega) (by decide) (by omega)), if_neg (show ¬ i32 (S.1 2 s) = (14 : Int32) from i32_ne (b := 14) (by omega) (by decide) (by omega)), if_pos e10]
  split <;> rfl
theorem send_q {N root n : Nat} (hN : 100 ≤ N) (hr20 : root < 20) (P : SendOk G E B bx m ad A N root n) :
    ∀ (q p c w dep nn : Nat) (S : ST) (C : CT) (T : MT) (x : Int64), JJ G E B bx m ad S A C T → c < S.1 16 0 → c ≤ root → S.1 17 c = p + q → S.1 17 c ≠ 0 → Here w c p x S T → w ≤ dep → c + spq S c q p ≤ n → dep + (c + spq S c q p) ≤ 30 → Room E q p c S → q < nn →
      Sends G E B bx m ad A N root (12 * n + q) q p c w S T (c_B_send_15 N (c_B_send N n) nn (some (A 1 c)) (i32 dep) x (i32 p) C)
  | 0, p, c, w, dep, nn, S, C, T, x, J, hc, hroot, h17, h0, hh, hw, hsn, hdep, hR, hn => by
    obtain ⟨nn, rfl⟩ : ∃ k, nn = k + 1 := ⟨nn - 1, by omega⟩
    exact goes_end J hc hroot hr20 h17 h0 hh hR
  | q + 1, p, c, w, dep, nn, S, C, T, x, J, hc, hroot, h17, h0, hh, hw, hsn, hdep, hR, hn => by
    obtain ⟨nn, rfl⟩ : ∃ k, nn = k + 1 := ⟨nn - 1, by omega⟩
    have hp : p < S.1 17 c := by omega
    obtain ⟨h39, h40, h41, hv, h34⟩ := hh
    obtain ⟨m1, mso, h10, c20⟩ := mem_r J hc hp
    have h20 : S.1 20 c ≤ 3 := (jj_wc J hc).1.2.1
    have cls := cls_at (N := N) (nn := nn) (kS := c_B_send N n) (dep := i32 dep) (x := x) J hc hp rfl
    have hm0 := fun k v4 => here_149 (N := N) (k := k) (root := i32 root) (v4 := v4) J hc hp h39 h40
    have e18 : T.1 18 (10 * c + p) = i32 (S.1 18 (10 * c + p)) := jj_N J 18 (by decide) _
    have hws := jj_ws J m1
    have hnc := fun (S1 : ST) (h : Dy S S1) => spq_cont (q := q) h (p := p) (c := c)
    generalize hsd : S.1 18 (10 * c + p) = s at *
    have hs60 : s < 60 := by have := (jj_n J).1; omega
    obtain ⟨n', hn'⟩ : ∃ n', N = n' + 1 + S.1 20 c := ⟨N - 1 - S.1 20 c, by omega⟩
    have hfu : ∀ (k26 : Int32 → Int32 → Bool → MT → Option (Int32 × MT)) (v4 : Int32), h_R_goes_149 N k26 N (i32 root) v4 true (i32 s) (i32 (3 * c + 0)) T = h_R_goes_149 N k26 (n' + 1 + S.1 20 c) (i32 root) v4 true (i32 s) (i32 (3 * c + 0)) T := fun k26 v4 => by rw [← hn']
    have e2 : T.1 2 s = i32 (S.1 2 s) := jj_N J 2 (by decide) _
    by_cases k12 : S.1 2 s = 12
    · -- a DOWN
      have hrt : rate (S.1 2 s) = true := by rw [k12]; rfl
      have hnsp : ¬ spread (S.1 2 s) = true := by rw [k12]; decide
      obtain ⟨S1, C1, T1, b, x3, x5, d1, d2, d3, d4, d5, J1, dys, mf⟩ := down_ref J m1 k12
      have h28 : S1.1 28 = S.1 28 := funext fun j => dys.1 28 j (fun z => by rcases z.1 with z | z <;> cases z)
      have t40 : T1.1 40 0 = i32 p := (congrFun (mf.1 40 (by decide)) 0).trans h40
      have hmd : ∀ k v4, h_R_goes_26 N (k + 1) (i32 root) v4 true T = if b = true then h_R_goes_26 N k (i32 root) v4 true (tsI T1 40 0 (i32 (p + 1))) else h_R_goes_113 N (h_R_goes_26 N k) (i32 root) v4 T1 := fun k v4 => by
        rw [hm0, hfu, skip_149 J hc hp (by rw [hsd]; exact hrt) h39 h40 (S.1 20 c) (n' + 1) 0 (by omega), Nat.zero_add, disp_149 J hc hs60 h39, e2, k12, if_pos (show i32 12 = (12 : Int32) from rfl), d2, obd_some, d3, obd_some, d4, obd_some, t40, show i32 p + 1 = i32 (p + 1) from i32_add p 1]
        by_cases hb : b = true
        · rw [if_pos (d5.mpr hb), if_pos hb]
        · rw [if_neg (fun z => hb (d5.mp z)), if_neg hb]
          rfl
      rw [cls, k12, if_pos (show i32 12 = (12 : Int32) from rfl), d1, cbd2_some]
      by_cases hb : b = true
      · rw [if_pos hb]
        have J1' : JJ G E B bx m ad S1 A C1 (tsI T1 40 0 (i32 (p + 1))) := jj_T J1 (rt_Fg (jj_rt J1) (fg_I (by decide)))
        have hh1 : Here w c (p + 1) x S1 (tsI T1 40 0 (i32 (p + 1))) := by
          refine ⟨?_, tsI_eq, ?_, by rw [dy_cso dys.dy]; exact hv, ?_⟩
          · rw [tsI_ne (by decide), mf.1 39 (by decide)]; exact h39
          · show T1.2.2.1 41 0 = _
            rw [mf.2 41 (by decide), dy_cso dys.dy]; exact h41
          · rw [tsI_ne (by decide), mf.1 34 (by decide)]; exact h34
        have esq : spq S1 c q (p + 1) = spq S c (q + 1) p := spq_cont dys.dy (by rw [hsd]; exact hnsp)
        have g := send_q hN hr20 P q (p + 1) c w dep nn S1 C1 _ x J1' (by rw [dys.dy.1 16 (by decide)]; exact hc) hroot (by rw [dys.dy.1 17 (by decide)]; omega) (by rw [dys.dy.1 17 (by decide)]; exact h0) hh1 hw (by rw [esq]; exact hsn) (by rw [esq]; exact hdep) (room_cont hR dys.dy h28 (by rw [hsd]; exact hnsp)) (by omega)
        exact goes_cont dys.dy h28 ((mf.fr.stk w).trans ((fr_I (by decide) : Fr T1 (tsI T1 40 0 (i32 (p + 1)))).stk w)) (fun k v4 => by rw [hmd, if_pos hb]) (by rw [hsd]; exact hnsp) g
      · rw [if_neg hb]
        exact goes_drop J1 hp dys.dy h28 (by rw [mf.1 34 (by decide)]; exact h34) (mf.fr.stk w) (fun k v4 => by rw [hmd, if_neg hb]) (by rw [hsd]; exact hrt)
    · have k12i : ¬ i32 (S.1 2 s) = (12 : Int32) := i32_ne (b := 12) (by have := hws.1.1; omega) (by decide) k12
      by_cases ksp : spread (S.1 2 s) = true
      · -- a spreader
        have hkd : S.1 2 s = 13 ∨ S.1 2 s = 14 := by
          have := ksp
          unfold spread at this
          simp only [Bool.or_eq_true, beq_iff_eq] at this
          exact this
        have hrt : rate (S.1 2 s) = true := by rcases hkd with h | h <;> rw [h] <;> rfl
        obtain ⟨L, l1, l2, l3, hLe⟩ : ∃ L, S.2.2 4 s = i32 L ∧ 2 ≤ L ∧ L ≤ 8 ∧ L = (S.2.2 4 s).toNatClampNeg := by
          obtain ⟨a, b, d⟩ := spread_len J m1 ksp
          exact ⟨_, a, b, d, rfl⟩
        have e4 : T.1 4 s = i32 L := by rw [jj_I J 4 (by decide), l1]
        have esq : spq S c (q + 1) p = 1 + spq S c q (p + 1) := by
          show (if spread (S.1 2 (S.1 18 (10 * c + p))) = true then 1 else 0) + _ = _
          rw [hsd, if_pos ksp]
        have ewd : wid S c (q + 1) p = L * wid S c q (p + 1) := by
          show (if spread (S.1 2 (S.1 18 (10 * c + p))) = true then (S.2.2 4 (S.1 18 (10 * c + p))).toNatClampNeg else 1) * _ = _
          rw [hsd, if_pos ksp, ← hLe]
        have eLW : L * wid S c q (p + 1) = (L - 1) * wid S c q (p + 1) + wid S c q (p + 1) := by
          rw [← Nat.succ_mul]
          congr 1
          omega
        obtain ⟨U, u1, u2, u3, u4, u5, u6, u7, u8, u9, uA, uB⟩ := waits_ref (T := T) (v := i32 (L - 1)) h34 (show w < 40 by omega)
        have hsp1 : ∀ k v4, h_R_goes_26 N (k + 1) (i32 root) v4 true T = h_R_goes_26 N k (i32 root) v4 true (tsI U 40 0 (i32 (p + 1))) := fun k v4 => by
          have e339 : ∀ k26 : Int32 → Int32 → Bool → MT → Option (Int32 × MT), h_R_goes_339 N k26 (i32 root) v4 true (i32 s) T = k26 (i32 root) v4 true (tsI U 40 0 (i32 (p + 1))) := fun k26 => by
            unfold h_R_goes_339
            rw [jrg_i32 hs60 (by decide), obd_some, e4, show i32 L - (1 : Int32) = i32 (L - 1) from i32_sub (a := L) (b := 1) (by omega), u1, obd_some]
            simp only [jlet, h_R_goes_430]
            rw [uA, h40, show i32 p + 1 = i32 (p + 1) from i32_add p 1]
          rw [hm0, hfu, skip_149 J hc hp (by rw [hsd]; exact hrt) h39 h40 (S.1 20 c) (n' + 1) 0 (by omega), Nat.zero_add, disp_149 J hc hs60 h39, e2, if_neg k12i]
          rcases hkd with h | h
          · rw [h, if_pos (show i32 13 = (13 : Int32) from rfl), e339]
          · rw [h, if_neg (by decide : ¬ i32 14 = (13 : Int32)), if_pos (show i32 14 = (14 : Int32) from rfl), e339]
        have JU : JJ G E B bx m ad S A C (tsI U 40 0 (i32 (p + 1))) := jj_T J (rt_Fg (jj_rt J) (u2.trans (fg_I (by decide))))
        have hhU : Here (w + 1) c (p + 1) x S (tsI U 40 0 (i32 (p + 1))) := by
          refine ⟨?_, tsI_eq, ?_, hv, ?_⟩
          · rw [tsI_ne (by decide), u9]; exact h39
          · show U.2.2.1 41 0 = _
            rw [uB]; exact h41
          · rw [tsI_ne (by decide)]; exact u3
        have hR1 : ∀ d, d < S.1 16 0 → Sub S c (p + 1) d → S.1 28 d + L * wid S c q (p + 1) ≤ min E 4000000 := fun d h1 h2 => by
          have := hR d h1 (sub_succ h2)
          rw [ewd] at this
          exact this
        obtain ⟨out1, cost1, S1, C1, T2, g1, g2, g3, J1, g5, g6, g7, g8, g9, -⟩ := P q (p + 1) c (w + 1) (dep + 1) S C _ x JU hc hroot (by omega) h0 hhU (by omega) (by omega) (by omega) (fun d h1 h2 => by
          have := hR1 d h1 h2
          rw [eLW] at this
          omega)
        have k5 := g5.1
        have gw := g9 w (by omega)
        have v35 : T2.1 35 w = i32 c := by rw [gw.1, tsI_ne (by decide), u4]; exact h39
        have v36 : T2.1 36 w = i32 p := by rw [gw.2.1, tsI_ne (by decide), u5]; exact h40
        have v37 : T2.1 37 w = i32 (L - 1) := by rw [gw.2.2.1, tsI_ne (by decide), u6]
        have v38 : T2.2.2.1 38 w = dv (cso S1 c) x := by
          rw [gw.2.2.2]
          show U.2.2.1 38 w = _
          rw [u7, dy_cso g5]; exact h41
        obtain ⟨N1, hN1⟩ : ∃ N1, N = N1 + 1 := ⟨N - 1, by omega⟩
        obtain ⟨out2, cost2, S2, C2, T3, r1, r2, r3, J2, r5, r6, r7, r8, r9⟩ := spr_go (N := N) (q := q) (s := s) (p := p) (w := w) (dep := dep) (x := x) (kd := S.1 2 s) P hkd hroot hw l3 (L - 1) N1 1 (0 + i32 out1) S1 C1 T2 J1 (by rw [k5 16 (by decide)]; exact hc) (by rw [k5 17 (by decide)]; omega) (by rw [k5 18 (by decide)]; exact hsd.symm) (by rw [k5 2 (by decide)]) (by rw [g5.2.2 4 (by decide)]; exact l1) (by omega) (by decide) (by omega) (by omega) g8
          v35 v36 v37 v38 (by rw [dy_cso g5]; exact hv) (by rw [spq_dy g5]; omega) (by rw [spq_dy g5]; omega) (fun d h1 h2 => by
            rw [wid_dy g5]
            rw [k5 16 (by decide)] at h1
            have a := hR1 d h1 ((sub_dy g5 _ _ _).mp h2)
            have b := g7 d h1
            rw [eLW] at a
            omega)
        have st0 : Stk w T (tsI U 40 0 (i32 (p + 1))) := u8.trans ((fr_I (by decide) : Fr U (tsI U 40 0 (i32 (p + 1)))).stk w)
        refine ⟨out1 + out2, cost2 + cost1 + 1, S2, C2, T3, ?_, fun k v4 => ?_, ?_, J2, g5.trans r5, fun d h1 h2 => ?_, fun d h1 => ?_, r8, st0.trans ((g9.mono (by omega)).trans r9), fun h => ?_⟩
        · rw [cls, if_neg k12i, if_pos ksp]
          have e73 : c_B_send_73 N (c_B_send N n) N (A 1 c) (i32 dep) x (i32 p) (A 7 s) 0 0 C = c_B_send_73 N (c_B_send N n) (N1 + 1) (A 1 c) (i32 dep) x (i32 p) (A 7 s) 0 0 C := by rw [← hN1]
          rw [e73]
          show obd (cgI C (A 7 s) 7 3) _ = _
          rw [rs_length (jj_s J m1), obd_some, l1, if_neg (show ¬ i32 L ≤ (0 : Int32) from by rw [show (0 : Int32) = i32 0 from rfl, i32_le (by omega) (by decide)]; omega), if_pos (show (0 : Int32) = 0 from rfl)]
          unfold c_B_send_105 c_B_send_111
          rw [show i32 p + 1 = i32 (p + 1) from i32_add p 1, show i32 dep + 1 = i32 (dep + 1) from i32_add dep 1, g1, cbd2_some, show (0 : Int32) + 1 = i32 1 from rfl, r1, show (0 : Int32) + i32 out1 = i32 out1 from Int32.zero_add _, i32_add]
        · rw [show k + (cost2 + cost1 + 1) = (k + cost2 + cost1) + 1 by omega, hsp1, g2, r2, add_if]
        · have a := pow_up (a := 12 * n - 2) (b := 12 * n + (q + 1)) (by omega)
          have b := pow_one (12 * n - 2)
          have e : (L - 1) * 100 ^ (12 * n - 2) ≤ 7 * 100 ^ (12 * n - 2) := Nat.mul_le_mul_right _ (by omega)
          generalize 100 ^ (12 * n - 2) = X at *
          generalize 100 ^ (12 * n + (q + 1)) = Y at *
          omega
        · rw [r6 d (by rw [k5 16 (by decide)]; exact h1) (fun z => h2 (sub_succ ((sub_dy g5 _ _ _).mp z))), g6 d h1 (fun z => h2 (sub_succ z))]
        · have a := r7 d (by rw [k5 16 (by decide)]; exact h1)
          have b := g7 d h1
          rw [wid_dy g5] at a
          rw [ewd, eLW]
          omega
        · have := h p (Nat.le_refl p) hp
          rw [hsd, hrt] at this; cases this
      · -- a section that works
        have hk : S.1 2 s < 12 ∨ S.1 2 s = 15 := by
          have a := hws.1.1
          have : ¬ (S.1 2 s = 13 ∨ S.1 2 s = 14) := fun z => ksp (by rcases z with z | z <;> rw [z] <;> rfl)
          omega
        have h41' : T.2.2.1 41 0 = dv (S.1 3 s) x := by rw [mso]; exact h41
        have hv' : vb (S.1 3 s) x := by rw [mso]; exact hv
        obtain ⟨y1, S1, C1, T1, l1, l2, J1, t40, t41, v1, sl, fr⟩ := looped_ref (N := N) (S.1 20 c) N 0 S C T x J hc hp hsd.symm (by omega) (by omega) h39 h40 h41' hv'
        have p1 : S1.1 = S.1 := sl.1
        have t39 : T1.1 39 0 = i32 c := (congrFun (fr.1 39 (by decide)) 0).trans h39
        have t34 : T1.1 34 0 = i32 w := (congrFun (fr.1 34 (by decide)) 0).trans h34
        have hc1 : c < S1.1 16 0 := by rw [p1]; exact hc
        have hs1 : s < S1.1 1 0 := by rw [p1]; exact m1
        have l1' : c_Chain_looped N (A 1 c) (i32 p) (some (A 7 s)) x C = some (y1, C1) := l1
        have in1 := rs_inner (jj_s J1 hs1)
        rw [p1] at in1
        by_cases h10z : S.1 10 s = 0
        · obtain ⟨y2, S2, C2, T2, u1, u2, J2, v2, dys, mf⟩ := step_ref (N := N) (made := 0) hN J1 hs1 (by rw [p1]; exact hk) (fun _ => rfl) (by rw [p1]; exact v1)
          have e20 : S1.1 20 c = S.1 20 c := by rw [p1]
          have cs : cso S2 c = S.1 3 s := by rw [dy_cso dys.dy, dy_cso sl.dy, mso]
          have k16 : S2.1 16 = S.1 16 := (dys.dy.1 16 (by decide)).trans (by rw [p1])
          have k17 : S2.1 17 = S.1 17 := (dys.dy.1 17 (by decide)).trans (by rw [p1])
          have w39 : T2.1 39 0 = i32 c := (congrFun (mf.1 39 (by decide)) 0).trans t39
          have w40 : T2.1 40 0 = i32 p := (congrFun (mf.1 40 (by decide)) 0).trans t40
          obtain ⟨S3, C3, T3, n1, n2, J3, n4, n5, n6, n7, n8⟩ := note_use (N := N) (y := y2) hN J2 (by rw [k16]; exact hc) (by rw [k17]; exact hp) w39 w40 (by rw [cs]; rw [p1] at v2; exact v2)
          have hd : Dy S S3 := (sl.dy.trans dys.dy).trans n6
          have h28 : S3.1 28 = S.1 28 := n7.trans ((funext fun j => dys.1 28 j (fun z => by rcases z.1 with z | z <;> cases z)).trans (by rw [p1]))
          have hm : ∀ k v4, h_R_goes_26 N (k + 1) (i32 root) v4 true T = h_R_goes_26 N k (i32 root) v4 true T3 := fun k v4 => by
            rw [hm0, hfu, l2, Nat.zero_add, ← e20, disp_412 J1 hc1 hs60 t39 (by rw [p1]; exact hk) (by rw [p1]; exact h10z)]
            unfold h_R_goes_412
            rw [t41]
            rw [p1] at u2
            rw [u2, tbd2_some]
            rw [cs] at n2
            simp only [jlet, n2, obd_some, h_R_goes_430]
          have hcl : c_B_send_15 N (c_B_send N n) (nn + 1) (some (A 1 c)) (i32 dep) x (i32 p) C = c_B_send_15 N (c_B_send N n) nn (some (A 1 c)) (i32 dep) y2 (i32 (p + 1)) C3 := by
            rw [cls, if_neg k12i, if_neg ksp, l1', cbd2_some, in1, obd_some, h10z]
            show c_B_send_179 N (c_B_send N n) (c_B_send_15 N (c_B_send N n) nn) (A 1 c) (i32 dep) y1 (i32 p) (A 7 s) 0 C1 = _
            unfold c_B_send_179
            rw [cob_of (ci := 7) (rs_tag (jj_s J1 hs1)), jgd_true, u1, cbd2_some, cob_of (ci := 1) (rc_tag (jj_c J2 (by rw [k16]; exact hc))), jgd_true, n1, obd_some]
            unfold c_B_send_198
            rw [show i32 p + 1 = i32 (p + 1) from i32_add p 1]
          have hsp' : ¬ spread (S.1 2 (S.1 18 (10 * c + p))) = true := by rw [hsd]; exact ksp
          have esq : spq S3 c q (p + 1) = spq S c (q + 1) p := spq_cont hd hsp'
          have hh3 : Here w c (p + 1) y2 S3 T3 := by
            refine ⟨?_, n4, ?_, ?_, ?_⟩
            · rw [n8.1 39 (by decide)]; exact w39
            · rw [n5, dy_cso n6]
            · rw [dy_cso n6, cs]; rw [p1] at v2; exact v2
            · rw [n8.1 34 (by decide), mf.1 34 (by decide)]; exact t34
          rw [hcl]
          have g := send_q hN hr20 P q (p + 1) c w dep nn S3 C3 T3 y2 J3 (by rw [hd.1 16 (by decide)]; exact hc) hroot (by rw [hd.1 17 (by decide)]; omega) (by rw [hd.1 17 (by decide)]; exact h0) hh3 hw (by rw [esq]; exact hsn) (by rw [esq]; exact hdep) (room_cont hR hd h28 hsp') (by omega)
          exact goes_cont hd h28 (((fr.stk w).trans (mf.fr.stk w)).trans (n8.stk w)) hm hsp' g
        · -- a MIX with a chain within
          obtain ⟨d, hd10⟩ : ∃ d, S.1 10 s = d + 1 := ⟨S.1 10 s - 1, by omega⟩
          obtain ⟨hu, hdc, hd17, hdso, hdr⟩ := inner_und J hc hp (d := d) (by rw [hsd]; exact hd10)
          rw [hsd] at hdso
          have k15 : S.1 2 s = 15 := (hws.2.2.2.2.2.1 d hd10).1
          have hd16 : d < S.1 16 0 := by omega
          obtain ⟨U, u1, u2, u3, u4, u5, u6, u7, u8, u9, uA, uB⟩ := waits_ref (T := T1) (v := -1) t34 (show w < 40 by omega)
          have e1d : T1.1 10 s = i32 d := by rw [jj_M J1 10 (by decide), p1, hd10, im_succ]
          have eUd : U.1 10 s = i32 d := by rw [u2.1 10 (by decide)]; exact e1d
          generalize hU2 : tsI (tsI U 39 0 (i32 d)) 40 0 (0 : Int32) = U2
          have fU2 : Fg T1 U2 := by rw [← hU2]; exact u2.trans ((fg_I (by decide)).trans (fg_I (by decide)))
          have JU : JJ G E B bx m ad S1 A C1 U2 := jj_T J1 (rt_Fg (jj_rt J1) fU2)
          have flat := flat_wid hdr (S.1 17 d) 0 (by omega)
          have hw1 := (wid_le J hc (q + 1) p (by omega)).1
          have hhU : Here (w + 1) d 0 y1 S1 U2 := by
            rw [← hU2]
            refine ⟨?_, ?_, ?_, ?_, ?_⟩
            · rw [tsI_ne (by decide), tsI_eq]
            · exact tsI_eq
            · show U.2.2.1 41 0 = _
              rw [uB, t41, dy_cso sl.dy, hdso]
            · rw [dy_cso sl.dy, hdso]; exact v1
            · rw [tsI_ne (by decide), tsI_ne (by decide)]; exact u3
          obtain ⟨out1, cost1, S2, C2, T2, g1, g2, g3, J2, g5, g6, g7, g8, g9, gA⟩ := P (S.1 17 d) 0 d (w + 1) (dep + 1) S1 C1 U2 y1 JU (by rw [p1]; exact hd16) (by omega) (by rw [p1]; omega) (by rw [p1]; exact hd17) hhU (by omega) (by rw [spq_dy sl.dy, flat.2]; omega) (by rw [spq_dy sl.dy, flat.2]; omega) (fun e h1 h2 => by
            rw [p1] at h1
            have a := hR e h1 (sub_inner J hd16 h1 hu ((sub_dy sl.dy _ _ _).mp h2)).1
            rw [wid_dy sl.dy, flat.1, p1]
            omega)
          obtain ⟨v, a33, av, a28, a27⟩ := gA (fun r _ h2 => by
            rw [p1] at h2 ⊢
            exact hdr r h2)
          have hd2 : Dy S S2 := sl.dy.trans g5
          have k2 := hd2.1
          have hc2 : c < S2.1 16 0 := by rw [k2 16 (by decide)]; exact hc
          have hs2 : s < S2.1 1 0 := by rw [k2 1 (by decide)]; exact m1
          have hdd2 : d < S2.1 16 0 := by rw [k2 16 (by decide)]; exact hd16
          have so2 : S2.1 3 s = S.1 3 s := by rw [k2 3 (by decide)]
          have kd2 : S2.1 2 s = 15 := by rw [k2 2 (by decide)]; exact k15
          rw [dy_cso sl.dy, hdso] at a33 av
          have b0 := before_of J2 hdd2 (k := 0) (by decide)
          rw [if_pos (by omega)] at b0
          have ml : c_Chain_madeLast (A 1 d) C2 = some v := by
            unfold c_Chain_madeLast
            rw [cob_of (ci := 1) (rc_tag (jj_c J2 hdd2)), jgd_true, show (0 : Int32) = i32 0 from rfl, b0, obd_some, Nat.sub_zero, a27]
          generalize hTm : tsI (tsI (tsI T2 39 0 (i32 c)) 40 0 (i32 p)) 34 0 (i32 w) = Tm
          have fTm : Fg T2 Tm := by rw [← hTm]; exact ((fg_I (by decide)).trans (fg_I (by decide))).trans (fg_I (by decide))
          have Jm : JJ G E B bx m ad S2 A C2 Tm := jj_T J2 (rt_Fg (jj_rt J2) fTm)
          have gw := g9 w (by omega)
          have x35 : T2.1 35 w = i32 c := by rw [gw.1, ← hU2, tsI_ne (by decide), tsI_ne (by decide), u4]; exact t39
          have x36 : T2.1 36 w = i32 p := by rw [gw.2.1, ← hU2, tsI_ne (by decide), tsI_ne (by decide), u5]; exact t40
          have x37 : T2.1 37 w = -1 := by rw [gw.2.2.1, ← hU2, tsI_ne (by decide), tsI_ne (by decide), u6]
          have x38 : T2.2.2.1 38 w = dv (S.1 3 s) y1 := by
            rw [gw.2.2.2, ← hU2]
            show U.2.2.1 38 w = _
            rw [u7]; exact t41
          have x18 : T2.1 18 (10 * c + p) = i32 s := by rw [jj_N J2 18 (by decide), k2 18 (by decide), hsd]
          obtain ⟨V0, z1, f1, z2, V1, z3, f2, z4, V2, z5, f3, y2, S3, C3, T3, s1, s2, J3, v3, dys, mf⟩ := mix_sum (x := y1) (made := v) Jm hs2 kd2 (by rw [so2]; exact v1) (by rw [so2]; exact av)
          rw [so2] at z2 z3 z4 z5 s2 v3
          have w39 : T3.1 39 0 = i32 c := by rw [mf.1 39 (by decide), ← hTm, tsI_ne (by decide), tsI_ne (by decide), tsI_eq]
          have w40 : T3.1 40 0 = i32 p := by rw [mf.1 40 (by decide), ← hTm, tsI_ne (by decide), tsI_eq]
          have w34 : T3.1 34 0 = i32 w := by rw [mf.1 34 (by decide), ← hTm, tsI_eq]
          have hd3 : Dy S S3 := hd2.trans dys.dy
          have cs3 : cso S3 c = S.1 3 s := by rw [dy_cso hd3, mso]
          have hc3 : c < S3.1 16 0 := by rw [hd3.1 16 (by decide)]; exact hc
          obtain ⟨S4, C4, T4, n1, n2, J4, n4, n5, n6, n7, n8⟩ := note_use (N := N) (y := y2) hN J3 hc3 (by rw [hd3.1 17 (by decide)]; exact hp) w39 w40 (by rw [cs3]; exact v3)
          have hd4 : Dy S S4 := hd3.trans n6
          have h28 : S4.1 28 = S2.1 28 := n7.trans (funext fun j => dys.1 28 j (fun z => by rcases z.1 with z | z <;> cases z))
          have e20 : S1.1 20 c = S.1 20 c := by rw [p1]
          have e2' : T1.1 2 s = i32 15 := by rw [jj_N J1 2 (by decide), p1, k15]
          have nd : ¬ i32 d = (-1 : Int32) := fun z => by
            have a := congrArg Int32.toInt z
            rw [i32_toInt (by omega)] at a
            have b : (-1 : Int32).toInt = -1 := rfl
            omega
          have y38 : V0.2.2.1 38 w = dv (S.1 3 s) y1 := by
            rw [f1.2.2.1 38 (by decide), ← hTm]; exact x38
          have y33 : V1.2.2.1 33 0 = dv (S.1 3 s) v := by
            rw [f2.2.2.1 33 (by decide), f1.2.2.1 33 (by decide), ← hTm]; exact a33
          rw [cs3] at n2
          have hm : ∀ k v4, h_R_goes_26 N (k + cost1 + 1) (i32 root) v4 true T = h_R_goes_26 N k (i32 root) v4 true T4 := fun k v4 => by
            rw [hm0, hfu, l2, Nat.zero_add, ← e20, disp_149 J1 hc1 hs60 t39, e2', if_neg (by decide : ¬ i32 15 = (12 : Int32)), if_neg (by decide : ¬ i32 15 = (13 : Int32)), if_neg (by decide : ¬ i32 15 = (14 : Int32)), if_pos (show i32 15 = (15 : Int32) from rfl), e1d, if_neg nd, u1, obd_some, eUd, hU2, g2, if_neg (by omega : ¬ d = root), Int32.add_zero]
            unfold h_R_goes_113
            rw [on_mix g8 (by omega) x35 x36 x37 c20 (by omega) x18, hTm, z1, obd_some, z2, obd_some, y38, z3, obd_some, z4, obd_some, y33, z5, obd_some, s2, tbd2_some, n2, obd_some, tbd2_some]
          have in2 := rs_inner (jj_s J2 hs2)
          rw [k2 10 (by decide), hd10] at in2
          rw [hd10] at in1
          have g1' : c_B_send N n (some (A 1 d)) (0 : Int32) y1 (i32 (dep + 1)) C1 = some (i32 out1, C2) := g1
          have hcl : c_B_send_15 N (c_B_send N n) (nn + 1) (some (A 1 c)) (i32 dep) x (i32 p) C = c_B_send_15 N (c_B_send N n) nn (some (A 1 c)) (i32 dep) y2 (i32 (p + 1)) C4 := by
            rw [cls, if_neg k12i, if_neg ksp, l1', cbd2_some, in1, obd_some]
            rw [show oA A 1 (d + 1) = some (A 1 d) from rfl, jon_some, obd_some, show i32 dep + 1 = i32 (dep + 1) from i32_add dep 1, g1', cbd2_some, in2, obd_some]
            show jgd (cob C2 (A 1 d) 1) _ = _
            rw [cob_of (ci := 1) (rc_tag (jj_c J2 hdd2)), jgd_true, ml, obd_some]
            unfold c_B_send_179
            rw [cob_of (ci := 7) (rs_tag (jj_s J2 hs2)), jgd_true, s1 N, cbd2_some, cob_of (ci := 1) (rc_tag (jj_c J3 hc3)), jgd_true, n1, obd_some]
            unfold c_B_send_198
            rw [show i32 p + 1 = i32 (p + 1) from i32_add p 1]
          have hsp' : ¬ spread (S.1 2 (S.1 18 (10 * c + p))) = true := by rw [hsd]; exact ksp
          have esq : spq S4 c q (p + 1) = spq S c (q + 1) p := spq_cont hd4 hsp'
          have ewd : wid S c (q + 1) p = wid S c q (p + 1) := by
            show (if _ then _ else _) * _ = _
            rw [if_neg hsp', Nat.one_mul]
          have hh4 : Here w c (p + 1) y2 S4 T4 := by
            refine ⟨?_, n4, ?_, ?_, ?_⟩
            · rw [n8.1 39 (by decide)]; exact w39
            · rw [n5, dy_cso n6]
            · rw [dy_cso n6, cs3]; exact v3
            · rw [n8.1 34 (by decide)]; exact w34
          have out28 : ∀ e, e < S.1 16 0 → ¬ Sub S d 0 e → S4.1 28 e = S.1 28 e := fun e h1 h2 => by
            rw [h28, g6 e (by rw [p1]; exact h1) (fun z => h2 ((sub_dy sl.dy _ _ _).mp z)), p1]
          have in28 : ∀ e, e < S.1 16 0 → S4.1 28 e ≤ S.1 28 e + 1 := fun e h1 => by
            have a := g7 e (by rw [p1]; exact h1)
            rw [wid_dy sl.dy, flat.1, p1] at a
            rw [h28]; exact a
          obtain ⟨out2, cost2, S5, C5, T5, r1, r2, r3, J5, r5, r6, r7, r8, r9, rA⟩ := send_q hN hr20 P q (p + 1) c w dep nn S4 C4 T4 y2 J4 (by rw [hd4.1 16 (by decide)]; exact hc) hroot (by rw [hd4.1 17 (by decide)]; omega) (by rw [hd4.1 17 (by decide)]; exact h0) hh4 hw (by rw [esq]; exact hsn) (by rw [esq]; exact hdep) (fun e h1 h2 => by
            rw [hd4.1 16 (by decide)] at h1
            have h3 := (sub_dy hd4 _ _ _).mp h2
            have a := hR e h1 (sub_succ h3)
            rw [wid_dy hd4, out28 e h1 (fun z => (sub_inner J hd16 h1 hu z).2 h3), ← ewd]; exact a) (by omega)
          rw [hcl]
          refine ⟨out2, cost2 + cost1 + 1, S5, C5, T5, r1, fun k v4 => ?_, ?_, J5, hd4.trans r5, fun e h1 h2 => ?_, fun e h1 => ?_, r8, ?_, fun h => ?_⟩
          · rw [show k + (cost2 + cost1 + 1) = (k + cost2) + cost1 + 1 by omega, hm, r2]
          · have a := pow_up (a := 12 * n + q) (b := 12 * n + (q + 1)) (by omega)
            have b : 100 ^ (12 * n - 2) ≤ 100 ^ (12 * n + q) := Nat.pow_le_pow_right (by decide) (by omega)
            have b1 := pow_one (12 * n + q)
            generalize 100 ^ (12 * n - 2) = X at *
            generalize 100 ^ (12 * n + (q + 1)) = Y at *
            generalize 100 ^ (12 * n + q) = Z at *
            omega
          · rw [r6 e (by rw [hd4.1 16 (by decide)]; exact h1) (fun z => h2 (sub_succ ((sub_dy hd4 _ _ _).mp z))), out28 e h1 (fun z => h2 (sub_inner J hd16 h1 hu z).1)]
          · by_cases z : Sub S d 0 e
            · have a := r6 e (by rw [hd4.1 16 (by decide)]; exact h1) (fun y => (sub_inner J hd16 h1 hu z).2 ((sub_dy hd4 _ _ _).mp y))
              have b := in28 e h1
              rw [a]; omega
            · have a := r7 e (by rw [hd4.1 16 (by decide)]; exact h1)
              rw [wid_dy hd4, out28 e h1 z, ← ewd] at a
              exact a
          · have sU : Stk w U U2 := fun j _ => ⟨by rw [← hU2, tsI_ne (by decide), tsI_ne (by decide)], by rw [← hU2, tsI_ne (by decide), tsI_ne (by decide)], by rw [← hU2, tsI_ne (by decide), tsI_ne (by decide)], by rw [← hU2]; rfl⟩
            have sT : Stk w T2 Tm := fun j _ => ⟨by rw [← hTm, tsI_ne (by decide), tsI_ne (by decide), tsI_ne (by decide)], by rw [← hTm, tsI_ne (by decide), tsI_ne (by decide), tsI_ne (by decide)], by rw [← hTm, tsI_ne (by decide), tsI_ne (by decide), tsI_ne (by decide)], by rw [← hTm]; rfl⟩
            exact (((fr.stk w).trans (u8.trans (sU.trans (g9.mono (by omega))))).trans (sT.trans (mf.fr.stk w))).trans ((n8.stk w).trans r9)
          · have a := rA (fun r h1 h2 => by
              rw [hd4.1 17 (by decide)] at h2
              rw [hd4.1 2 (by decide), hd4.1 18 (by decide)]
              exact h r (by omega) h2)
            rw [dy_cso hd4] at a
            exact a
theorem sends_mono {N root e e' q p c w : Nat} {S : ST} {T : MT} {run : Option (Int32 × CT)} (h : Sends G E B bx m ad A N root e q p c w S T run) (he : e ≤ e') : Sends G E B bx m ad A N root e' q p c w S T run := by
  obtain ⟨out, cost, S', C', T', g1, g2, g3, g4⟩ := h
  exact ⟨out, cost, S', C', T', g1, g2, Nat.le_trans g3 (Nat.pow_le_pow_right (by decide) he), g4⟩
theorem send_ok {N root : Nat} (hN : 100 ≤ N) (hr20 : root < 20) : ∀ n, SendOk G E B bx m ad A N root n
  | 0 => fun _ _ _ _ _ _ _ _ _ _ _ _ _ _ _ _ h _ _ => absurd h (by omega)
  | n + 1 => fun q p c w dep S C T x J hc hroot h17 h0 hh hw hsn hdep hR => by
    have h10 := (jj_wc J hc).1.1
    have g := send_q hN hr20 (send_ok hN hr20 n) q p c w dep N S C T x J hc hroot h17 h0 hh hw (by omega) hdep hR (by omega)
    show Sends G E B bx m ad A N root _ q p c w S T (if i32 dep ≤ (30 : Int32) then _ else _)
    rw [if_pos (show i32 dep ≤ (30 : Int32) from by rw [show (30 : Int32) = i32 30 from rfl, i32_le (by omega) (by decide)]; omega)]
    exact sends_mono g (by omega)
end SENDB
