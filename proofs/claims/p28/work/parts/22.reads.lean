/-! what reads come to (printed by a program) -/
section READS
variable {S : ST} {A : AT} {C : CT} {bx s c l : Nat}
theorem rs_number (h : RCs S A C s) : cgI C (A 7 s) 7 0 = some (i32 s) := (if_pos h.1.1).trans (congrArg some h.1.2.1)
theorem rs_kind (h : RCs S A C s) : cgI C (A 7 s) 7 1 = some (i32 (S.1 2 s)) := (if_pos h.1.1).trans (congrArg some h.1.2.2.1)
theorem rs_sort (h : RCs S A C s) : cgI C (A 7 s) 7 2 = some (i32 (S.1 3 s)) := (if_pos h.1.1).trans (congrArg some h.1.2.2.2.1)
theorem rs_length (h : RCs S A C s) : cgI C (A 7 s) 7 3 = some (S.2.2 4 s) := (if_pos h.1.1).trans (congrArg some h.1.2.2.2.2.1)
theorem rs_numbers (h : RCs S A C s) : cgA C (A 7 s) 7 4 = some (some (A 5 (S.1 3 s))) := (if_pos h.1.1).trans (congrArg some h.1.2.2.2.2.2.1)
theorem rs_factors (h : RCs S A C s) : cgA C (A 7 s) 7 5 = some (some (A 117 s)) := (if_pos h.1.1).trans (congrArg some h.1.2.2.2.2.2.2.1)
theorem rs_states (h : RCs S A C s) : cgA C (A 7 s) 7 6 = some (some (A 118 s)) := (if_pos h.1.1).trans (congrArg some h.1.2.2.2.2.2.2.2)
theorem rs_rounding (h : RCs S A C s) : cgI C (A 7 s) 7 7 = some (i32 (S.1 5 s)) := (if_pos h.1.1).trans (congrArg some h.2.1.1)
theorem rs_limit (h : RCs S A C s) : cgI C (A 7 s) 7 8 = some (i32 (S.1 6 s)) := (if_pos h.1.1).trans (congrArg some h.2.1.2.1)
theorem rs_rest (h : RCs S A C s) : cgA C (A 7 s) 7 9 = some (some (A 121 s)) := (if_pos h.1.1).trans (congrArg some h.2.1.2.2.1.1)
theorem rs_overs (h : RCs S A C s) : cgI C (A 7 s) 7 10 = some (S.2.2 11 s) := (if_pos h.1.1).trans (congrArg some h.2.1.2.2.2.1)
theorem rs_touches (h : RCs S A C s) : cgI C (A 7 s) 7 11 = some (S.2.2 12 s) := (if_pos h.1.1).trans (congrArg some h.2.1.2.2.2.2.1)
theorem rs_home (h : RCs S A C s) : cgA C (A 7 s) 7 12 = some (oA A 1 (S.1 8 s)) := (if_pos h.1.1).trans (congrArg some h.2.1.2.2.2.2.2.1)
theorem rs_place (h : RCs S A C s) : cgI C (A 7 s) 7 13 = some (im (S.1 9 s)) := (if_pos h.1.1).trans (congrArg some h.2.1.2.2.2.2.2.2.1)
theorem rs_inner (h : RCs S A C s) : cgA C (A 7 s) 7 14 = some (oA A 1 (S.1 10 s)) := (if_pos h.1.1).trans (congrArg some h.2.1.2.2.2.2.2.2.2)
theorem rs_cells (h : RCs S A C s) : cgA C (A 118 s) 6 0 = some (some (A 96 s)) := (if_pos h.2.2.2.1).trans (congrArg some h.2.2.2.2.1)
theorem rs_eldest (h : RCs S A C s) : cgI C (A 118 s) 6 1 = some (i32 (S.1 70 s)) := (if_pos h.2.2.2.1).trans (congrArg some h.2.2.2.2.2.1)
theorem rc_number (h : RCc S A C c) : cgI C (A 1 c) 1 0 = some (i32 c) := (if_pos h.1.1).trans (congrArg some h.1.2.1)
theorem rc_members (h : RCc S A C c) : cgA C (A 1 c) 1 1 = some (some (A 17 c)) := (if_pos h.1.1).trans (congrArg some h.1.2.2.1)
theorem rc_size (h : RCc S A C c) : cgI C (A 1 c) 1 2 = some (i32 (S.1 17 c)) := (if_pos h.1.1).trans (congrArg some h.1.2.2.2.1)
theorem rc_loops (h : RCc S A C c) : cgA C (A 1 c) 1 3 = some (some (A 19 c)) := (if_pos h.1.1).trans (congrArg some h.1.2.2.2.2.1)
theorem rc_loopCount (h : RCc S A C c) : cgI C (A 1 c) 1 4 = some (i32 (S.1 20 c)) := (if_pos h.1.1).trans (congrArg some h.1.2.2.2.2.2.1)
theorem rc_made (h : RCc S A C c) : cgA C (A 1 c) 1 5 = some (some (A 21 c)) := (if_pos h.1.1).trans (congrArg some h.1.2.2.2.2.2.2.1)
theorem rc_next (h : RCc S A C c) : cgI C (A 1 c) 1 6 = some (i32 (S.1 28 c % 400)) := (if_pos h.1.1).trans (congrArg some h.1.2.2.2.2.2.2.2.1)
theorem rc_held (h : RCc S A C c) : cgI C (A 1 c) 1 7 = some (i32 (min (S.1 28 c) 400)) := (if_pos h.1.1).trans (congrArg some h.1.2.2.2.2.2.2.2.2.1)
theorem rc_total (h : RCc S A C c) : cgI C (A 1 c) 1 8 = some (i32 (S.1 28 c)) := (if_pos h.1.1).trans (congrArg some h.1.2.2.2.2.2.2.2.2.2.1)
theorem rc_holder (h : RCc S A C c) : cgA C (A 1 c) 1 9 = some (oA A 7 (S.1 19 c)) := (if_pos h.1.1).trans (congrArg some h.1.2.2.2.2.2.2.2.2.2.2)
theorem rl_from (h : RCl S A C l) : cgI C (A 4 l) 4 0 = some (i32 (S.1 22 l)) := (if_pos h.1.1).trans (congrArg some h.1.2.1)
theorem rl_to (h : RCl S A C l) : cgI C (A 4 l) 4 1 = some (i32 (S.1 21 l)) := (if_pos h.1.1).trans (congrArg some h.1.2.2.1)
theorem rl_factor (h : RCl S A C l) : cgJ C (A 4 l) 4 2 = some (S.2.1 24 l) := (if_pos h.1.1).trans (congrArg some h.1.2.2.2.1)
theorem rl_past (h : RCl S A C l) : cgA C (A 4 l) 4 3 = some (some (A 67 l)) := (if_pos h.1.1).trans (congrArg some h.1.2.2.2.2)
theorem rl_cells (h : RCl S A C l) : cgA C (A 67 l) 6 0 = some (some (A 68 l)) := (if_pos h.2.1).trans (congrArg some h.2.2.1)
theorem rl_eldest (h : RCl S A C l) : cgI C (A 67 l) 6 1 = some (i32 (S.1 71 l)) := (if_pos h.2.1).trans (congrArg some h.2.2.2.1)
theorem rb_doubles (h : RCb S A C bx) : cgA C bx 0 0 = some (some (A 5 0)) := (if_pos h.1.1).trans (congrArg some h.1.2.1)
theorem rb_floats (h : RCb S A C bx) : cgA C bx 0 1 = some (some (A 5 1)) := (if_pos h.1.1).trans (congrArg some h.1.2.2.1)
theorem rb_shorts (h : RCb S A C bx) : cgA C bx 0 2 = some (some (A 5 2)) := (if_pos h.1.1).trans (congrArg some h.1.2.2.2.1)
theorem rb_sections (h : RCb S A C bx) : cgA C bx 0 3 = some (some (A 3 0)) := (if_pos h.1.1).trans (congrArg some h.1.2.2.2.2.1)
theorem rb_chains (h : RCb S A C bx) : cgA C bx 0 5 = some (some (A 3 1)) := (if_pos h.1.1).trans (congrArg some h.1.2.2.2.2.2.1)
theorem rb_kepts (h : RCb S A C bx) : cgA C bx 0 7 = some (some (A 3 2)) := (if_pos h.1.1).trans (congrArg some h.1.2.2.2.2.2.2.1)
theorem rb_tree (h : RCb S A C bx) : cgA C bx 0 9 = some (some (A 3 3)) := (if_pos h.1.1).trans (congrArg some h.1.2.2.2.2.2.2.2.1)
theorem rb_dead (h : RCb S A C bx) : cgA C bx 0 10 = some (some (A 2 0)) := (if_pos h.1.1).trans (congrArg some h.1.2.2.2.2.2.2.2.2)
theorem rb_sectionCount (h : RCb S A C bx) : cgI C bx 0 4 = some (i32 (S.1 1 0)) := (if_pos h.1.1).trans (congrArg some h.2.1.1)
theorem rb_chainCount (h : RCb S A C bx) : cgI C bx 0 6 = some (i32 (S.1 16 0)) := (if_pos h.1.1).trans (congrArg some h.2.1.2.1)
theorem rb_keptCount (h : RCb S A C bx) : cgI C bx 0 8 = some (i32 (S.1 44 0)) := (if_pos h.1.1).trans (congrArg some h.2.1.2.2)
theorem rb_tag (h : RCb S A C bx) : C.1 bx = 1 := h.1.1
theorem rs_tag (h : RCs S A C s) : C.1 (A 7 s) = 8 := h.1.1
theorem rc_tag (h : RCc S A C c) : C.1 (A 1 c) = 2 := h.1.1
theorem cob_of {a ci : Nat} (h : C.1 a = ci + 1) : cob C a ci = true := by unfold cob; rw [h]; simp
theorem caA_of {a ci n j : Nat} (h : C.1 a = 30 + ci) (hc : ci < 10) (hl : C.2.1 a = n) (hj : j < n) (hn : n < 2 ^ 31) : caA C a ci (i32 j) = some (C.2.2.2.2.1 900 a j) := by unfold caA; rw [if_pos ⟨h, hc⟩, hl, jrg_i32 hj hn]; rfl
theorem caJ_of {a n j : Nat} (h : C.1 a = 21) (hl : C.2.1 a = n) (hj : j < n) (hn : n < 2 ^ 31) : caJ C a (i32 j) = some (C.2.2.2.1 900 a j) := by unfold caJ; rw [if_pos h, hl, jrg_i32 hj hn]; rfl
theorem caI_of {a n j : Nat} (h : C.1 a = 20) (hl : C.2.1 a = n) (hj : j < n) (hn : n < 2 ^ 31) : caI C a (i32 j) = some (C.2.2.1 900 a j) := by unfold caI; rw [if_pos h, hl, jrg_i32 hj hn]; rfl
theorem cal_of {a n : Nat} (h : 20 ≤ C.1 a) (hl : C.2.1 a = n) : cal C a = some (i32 n) := by unfold cal; rw [if_pos h, hl]; rfl
theorem cpI_of {a ci k : Nat} {v : Int32} (h : C.1 a = ci + 1) (hc : ci < 9) (hk : k < 16) : cpI C a ci k v = some (csI C (16 * ci + k) a 0 v) := if_pos ⟨h, hc, hk⟩
theorem cpJ_of {a ci k : Nat} {v : Int64} (h : C.1 a = ci + 1) (hc : ci < 9) (hk : k < 16) : cpJ C a ci k v = some (csJ C (16 * ci + k) a 0 v) := if_pos ⟨h, hc, hk⟩
theorem cpA_of {a ci k : Nat} {v : Option Nat} (h : C.1 a = ci + 1) (hc : ci < 9) (hk : k < 16) : cpA C a ci k v = some (csA C (16 * ci + k) a 0 v) := if_pos ⟨h, hc, hk⟩
theorem cqJ_of {a n j : Nat} {v : Int64} (h : C.1 a = 21) (hl : C.2.1 a = n) (hj : j < n) (hn : n < 2 ^ 31) : cqJ C a (i32 j) v = some (csJ C 900 a j v) := by unfold cqJ; rw [if_pos h, hl, jrg_i32 hj hn]; rfl
theorem cqI_of {a n j : Nat} {v : Int32} (h : C.1 a = 20) (hl : C.2.1 a = n) (hj : j < n) (hn : n < 2 ^ 31) : cqI C a (i32 j) v = some (csI C 900 a j v) := by unfold cqI; rw [if_pos h, hl, jrg_i32 hj hn]; rfl
theorem cqA_of {a ci n j b : Nat} (h : C.1 a = 30 + ci) (hc : ci < 9) (hb : C.1 b = ci + 1) (hl : C.2.1 a = n) (hj : j < n) (hn : n < 2 ^ 31) : cqA C a ci (i32 j) b = some (csA C 900 a j (some b)) := by unfold cqA; rw [if_pos ⟨h, hc, hb⟩, hl, jrg_i32 hj hn]; rfl
end READS
