section SIM1
variable {p : Program} {l : Launch} {e : Env} {R : Room} {s : State} {m : MethodId} {args : Array Value} {below : List Frame} {meth : Method} {c : Code} {H : Heap} {locs : List Loc} {cells slots : Nat} {Q : State → Prop}
variable {cc : ByteArray} {pc : Nat} {ls : Array Slot}
/-- what the tables say of a constant that an instruction loads -/
def jconOK (own : String) (i : Instr) (v : Value) (args : Array Value) (s : State) : Prop := match i with
  | .ldc x => ∀ z, v = .int z → (Jvm.Cond.constant own x z).before args s = true
  | .ldc_w x => ∀ z, v = .int z → (Jvm.Cond.constant own x z).before args s = true
  | .ldc2_w x => (∀ z, v = .long z → (Jvm.Cond.constantLong own x z).before args s = true) ∧ (∀ z, v = .double z → (Jvm.Cond.constantDouble own x z).before args s = true)
  | _ => True
set_option maxHeartbeats 4000000 in
theorem sim_pure (hx : p.tables.exec = Jvm.exec) (hb : c.code = cc) {own : String} (hown : s.vm.findClass own = some m.cls) {i : Instr} {v : Value} {st st' : List Value} (h : jPure i v st = some st') (hdg : decode cc pc = .ok (i, jlen i)) (hc : jconOK own i v args s)
    (k : W p l e R s m args below meth c H locs cells slots Q (F0 m (pc + jlen i) ls st')) : W p l e R s m args below meth c H locs cells slots Q (F0 m pc ls st) := by
  cases i with
  | iconst n => cases h; exact lv_iconst hx hb hdg rfl k
  | bipush n => cases h; exact lv_bipush hx hb hdg rfl k
  | sipush n => cases h; exact lv_sipush hx hb hdg rfl k
  | lconst n => cases h; exact lv_lconst hx hb hdg rfl k
  | dconst n =>
    cases h
    match n, hdg with
    | 0, hdg => exact lv_dconst0 hx hb hdg k
    | 1, hdg => exact lv_dconst1 hx hb hdg k
  | aconst_null => cases h; exact lv_null hx hb hdg k
  | ldc x =>
    simp only [jPure] at h
    split at h
    · cases h; exact lv_ldc hx hb hown (hc _ rfl) hdg k
    · cases h
  | ldc_w x =>
    simp only [jPure] at h
    split at h
    · cases h; exact lv_ldcw hx hb hown (hc _ rfl) hdg k
    · cases h
  | ldc2_w x =>
    simp only [jPure] at h
    split at h
    · cases h; exact lv_ldc2 hx hb hown (hc.1 _ rfl) hdg k
    · cases h; exact lv_ldc2d hx hb hown (hc.2 _ rfl) hdg k
    · cases h
  | iadd =>
    simp only [jPure, jI2] at h
    split at h
    · cases h; exact lv_iadd hx hb hdg k
    · cases h
  | isub =>
    simp only [jPure, jI2] at h
    split at h
    · cases h; exact lv_isub hx hb hdg k
    · cases h
  | imul =>
    simp only [jPure, jI2] at h
    split at h
    · cases h; exact lv_imul hx hb hdg k
    · cases h
  | iand =>
    simp only [jPure, jI2] at h
    split at h
    · cases h; exact lv_iand hx hb hdg k
    · cases h
  | ishl =>
    simp only [jPure, jI2] at h
    split at h
    · cases h; exact lv_ishl hx hb hdg k
    · cases h
  | ishr =>
    simp only [jPure, jI2] at h
    split at h
    · cases h; exact lv_ishr hx hb hdg k
    · cases h
  | ladd =>
    simp only [jPure, jL2] at h
    split at h
    · cases h; exact lv_ladd hx hb hdg k
    · cases h
  | lsub =>
    simp only [jPure, jL2] at h
    split at h
    · cases h; exact lv_lsub hx hb hdg k
    · cases h
  | lmul =>
    simp only [jPure, jL2] at h
    split at h
    · cases h; exact lv_lmul hx hb hdg k
    · cases h
  | land =>
    simp only [jPure, jL2] at h
    split at h
    · cases h; exact lv_land hx hb hdg k
    · cases h
  | lor =>
    simp only [jPure, jL2] at h
    split at h
    · cases h; exact lv_lor hx hb hdg k
    · cases h
  | lxor =>
    simp only [jPure, jL2] at h
    split at h
    · cases h; exact lv_lxor hx hb hdg k
    · cases h
  | lcmp =>
    simp only [jPure, jL2] at h
    split at h
    · cases h; exact W.lcmp hx hb hdg k
    · cases h
  | ineg =>
    simp only [jPure, jI1] at h
    split at h
    · cases h; exact lv_ineg hx hb hdg k
    · cases h
  | i2l =>
    simp only [jPure, jI1] at h
    split at h
    · cases h; exact lv_i2l hx hb hdg rfl k
    · cases h
  | i2s =>
    simp only [jPure, jI1] at h
    split at h
    · cases h; exact lv_i2s hx hb hdg rfl k
    · cases h
  | i2d =>
    simp only [jPure, jI1] at h
    split at h
    · cases h; exact lv_i2d hx hb hdg k
    · cases h
  | lneg =>
    simp only [jPure, jL1] at h
    split at h
    · cases h; exact lv_lneg hx hb hdg k
    · cases h
  | l2i =>
    simp only [jPure, jL1] at h
    split at h
    · cases h; exact lv_l2i hx hb hdg rfl k
    · cases h
  | l2d =>
    simp only [jPure, jL1] at h
    split at h
    · cases h; exact lv_l2d hx hb hdg k
    · cases h
  | d2i =>
    simp only [jPure, jD1] at h
    split at h
    · cases h; exact lv_d2i hx hb hdg k
    · cases h
  | d2l =>
    simp only [jPure, jD1] at h
    split at h
    · cases h; exact lv_d2l hx hb hdg k
    · cases h
  | dneg =>
    simp only [jPure, jD1] at h
    split at h
    · cases h; exact lv_dneg hx hb hdg k
    · cases h
  | lshl =>
    simp only [jPure, jLI] at h
    split at h
    · cases h; exact lv_lshl hx hb hdg rfl k
    · cases h
  | lshr =>
    simp only [jPure, jLI] at h
    split at h
    · cases h; exact lv_lshr hx hb hdg rfl k
    · cases h
  | lushr =>
    simp only [jPure, jLI] at h
    split at h
    · cases h; exact lv_lushr hx hb hdg rfl k
    · cases h
  | dcmp op =>
    simp only [jPure, jD2] at h
    split at h
    · cases h; exact lv_dcmp hx hb hdg k
    · cases h
  | fcmp op =>
    simp only [jPure] at h
    split at h
    · cases h; exact lv_fcmp hx hb hdg k
    · cases h
  | idiv =>
    simp only [jPure, jI2z] at h
    split at h
    · split at h
      · cases h
      · cases h; exact lv_idiv hx hb hdg (by assumption) k
    · cases h
  | irem =>
    simp only [jPure, jI2z] at h
    split at h
    · split at h
      · cases h
      · cases h; exact lv_irem hx hb hdg (by assumption) k
    · cases h
  | ldiv =>
    simp only [jPure, jL2z] at h
    split at h
    · split at h
      · cases h
      · cases h; exact lv_ldiv hx hb hdg (by assumption) k
    · cases h
  | lrem =>
    simp only [jPure, jL2z] at h
    split at h
    · split at h
      · cases h
      · cases h; exact lv_lrem hx hb hdg (by assumption) k
    · cases h
  | dadd =>
    simp only [jPure, jD2n, jnumD] at h
    split at h
    · split at h
      · cases h; exact lv_dadd hx hb hdg (by unfold vf_n64; assumption) k
      · cases h
    · cases h
  | dsub =>
    simp only [jPure, jD2n, jnumD] at h
    split at h
    · split at h
      · cases h; exact lv_dsub hx hb hdg (by unfold vf_n64; assumption) k
      · cases h
    · cases h
  | dmul =>
    simp only [jPure, jD2n, jnumD] at h
    split at h
    · split at h
      · cases h; exact lv_dmul hx hb hdg (by unfold vf_n64; assumption) k
      · cases h
    · cases h
  | ddiv =>
    simp only [jPure, jD2n, jnumD] at h
    split at h
    · split at h
      · cases h; exact lv_ddiv hx hb hdg (by unfold vf_n64; assumption) k
      · cases h
    · cases h
  | fadd =>
    simp only [jPure, jF2n, jnumF] at h
    split at h
    · split at h
      · cases h; exact lv_fadd hx hb hdg (by unfold vf_n32; assumption) k
      · cases h
    · cases h
  | fsub =>
    simp only [jPure, jF2n, jnumF] at h
    split at h
    · split at h
      · cases h; exact lv_fsub hx hb hdg (by unfold vf_n32; assumption) k
      · cases h
    · cases h
  | fmul =>
    simp only [jPure, jF2n, jnumF] at h
    split at h
    · split at h
      · cases h; exact lv_fmul hx hb hdg (by unfold vf_n32; assumption) k
      · cases h
    · cases h
  | f2d =>
    simp only [jPure, jnumD] at h
    split at h
    · split at h
      · cases h; exact lv_f2d hx hb hdg (by unfold vf_n64; assumption) k
      · cases h
    · cases h
  | d2f =>
    simp only [jPure, jnumF] at h
    split at h
    · split at h
      · cases h; exact lv_d2f hx hb hdg (by unfold vf_n32; assumption) k
      · cases h
    · cases h
  | dup =>
    simp only [jPure] at h
    split at h
    · split at h
      · cases h; exact lv_dup hx hb hdg (by assumption) k
      · cases h
    · cases h
  | pop =>
    simp only [jPure] at h
    split at h
    · split at h
      · cases h; exact lv_pop hx hb hdg (by assumption) k
      · cases h
    · cases h
  | pop2 =>
    simp only [jPure] at h
    split at h
    · split at h
      · cases h; exact lv_pop2_2 hx hb hdg (by assumption) k
      · cases h
    · cases h
  | dup2 =>
    simp only [jPure] at h
    split at h
    · rename_i a r
      split at h
      · cases h; exact lv_dup2_2 hx hb hdg (by assumption) k
      · split at h
        · split at h
          · cases h
            exact lv_dup2_11 hx hb hdg ((lv_cat a).resolve_right (by assumption)) (by assumption) k
          · cases h
        · cases h
    · cases h
  | _ => simp [jPure] at h
theorem jget_has {lsA : Array Slot} {N : Nat} {L : JLoc} (hl : lv_has lsA N L) {i : Nat} {v : Value} (h : jget L i = v) (hv : ∀ z, v ≠ .retAddr z) : lsA[i]? = some (.val v) := by
  obtain ⟨-, -, hl⟩ := hl
  induction L with
  | nil => exact absurd h.symm (hv 0)
  | cons q r ih =>
    obtain ⟨j, w⟩ := q
    simp only [jget] at h
    split at h
    · rename_i e
      subst e; subst h
      exact hl _ List.mem_cons_self
    · exact ih h (fun q hq => hl q (List.mem_cons_of_mem _ hq))
theorem jget_pos {L : JLoc} {i : Nat} {v : Value} (h : jget L i = v) (hv : ∀ z, v ≠ .retAddr z) : ∃ k : Nat, L[k]? = some (i, v) := by
  induction L with
  | nil => exact absurd h.symm (hv 0)
  | cons q r ih =>
    obtain ⟨j, w⟩ := q
    simp only [jget] at h
    split at h
    · rename_i e
      subst e; subst h
      exact ⟨0, rfl⟩
    · obtain ⟨k, hk⟩ := ih h
      exact ⟨k + 1, hk⟩
set_option maxHeartbeats 4000000 in
theorem sim_lcl (hx : p.tables.exec = Jvm.exec) (hb : c.code = cc) {i : Instr} {N : Nat} {L L' : JLoc} {st st' : List Value} (h : jLcl N i L st = some (L', st')) (hdg : decode cc pc = .ok (i, jlen i)) (hl : lv_has ls N L)
    (k : ∀ ls' : Array Slot, lv_has ls' N L' → W p l e R s m args below meth c H locs cells slots Q (F0 m (pc + jlen i) ls' st')) : W p l e R s m args below meth c H locs cells slots Q (F0 m pc ls st) := by
  cases i with
  | iload_n n =>
    simp only [jLcl, jldI] at h
    split at h
    · rename_i z e
      cases h
      exact lv_iload_n hx hb hdg rfl (jget_has hl e (fun _ q => by cases q)) (e ▸ k ls hl)
    · cases h
  | iload n =>
    simp only [jLcl, jldI] at h
    split at h
    · rename_i z e
      cases h
      exact lv_iload hx hb hdg (jget_has hl e (fun _ q => by cases q)) (e ▸ k ls hl)
    · cases h
  | lload_n n =>
    simp only [jLcl, jldL] at h
    split at h
    · rename_i z e
      cases h
      exact lv_lload_n hx hb hdg rfl (jget_has hl e (fun _ q => by cases q)) (e ▸ k ls hl)
    · cases h
  | lload n =>
    simp only [jLcl, jldL] at h
    split at h
    · rename_i z e
      cases h
      exact lv_lload hx hb hdg (jget_has hl e (fun _ q => by cases q)) (e ▸ k ls hl)
    · cases h
  | fload_n n =>
    simp only [jLcl, jldF] at h
    split at h
    · rename_i z e
      cases h
      exact lv_fload_n hx hb hdg rfl (jget_has hl e (fun _ q => by cases q)) (e ▸ k ls hl)
    · cases h
  | fload n =>
    simp only [jLcl, jldF] at h
    split at h
    · rename_i z e
      cases h
      exact lv_fload hx hb hdg (jget_has hl e (fun _ q => by cases q)) (e ▸ k ls hl)
    · cases h
  | dload_n n =>
    simp only [jLcl, jldD] at h
    split at h
    · rename_i z e
      cases h
      exact lv_dload_n hx hb hdg rfl (jget_has hl e (fun _ q => by cases q)) (e ▸ k ls hl)
    · cases h
  | dload n =>
    simp only [jLcl, jldD] at h
    split at h
    · rename_i z e
      cases h
      exact lv_dload hx hb hdg (jget_has hl e (fun _ q => by cases q)) (e ▸ k ls hl)
    · cases h
  | aload_n n =>
    simp only [jLcl, jldA] at h
    split at h
    · rename_i z e
      cases h
      exact lv_aload_n hx hb hdg rfl (jget_has hl e (fun _ q => by cases q)) (e ▸ k ls hl)
    · rename_i e
      cases h
      exact lv_aload_nN hx hb hdg rfl (jget_has hl e (fun _ q => by cases q)) (e ▸ k ls hl)
    · cases h
  | aload n =>
    simp only [jLcl, jldA] at h
    split at h
    · rename_i z e
      cases h
      exact lv_aload hx hb hdg (jget_has hl e (fun _ q => by cases q)) (e ▸ k ls hl)
    · rename_i e
      cases h
      exact lv_aloadN hx hb hdg (jget_has hl e (fun _ q => by cases q)) (e ▸ k ls hl)
    · cases h
  | istore_n n =>
    simp only [jLcl, jstI] at h
    split at h
    · split at h
      · cases h
        exact lv_istore_n hx hb hdg rfl hl (by assumption) rfl k
      · cases h
    · cases h
  | istore n =>
    simp only [jLcl, jstI] at h
    split at h
    · split at h
      · cases h
        exact lv_istore hx hb hdg hl (by assumption) rfl k
      · cases h
    · cases h
  | lstore_n n =>
    simp only [jLcl, jstL] at h
    split at h
    · split at h
      · cases h
        exact lv_lstore_n hx hb hdg rfl hl (by assumption) rfl k
      · cases h
    · cases h
  | lstore n =>
    simp only [jLcl, jstL] at h
    split at h
    · split at h
      · cases h
        exact lv_lstore hx hb hdg hl (by assumption) rfl k
      · cases h
    · cases h
  | dstore_n n =>
    simp only [jLcl, jstD] at h
    split at h
    · split at h
      · cases h
        exact lv_dstore_n hx hb hdg rfl hl (by assumption) rfl k
      · cases h
    · cases h
  | dstore n =>
    simp only [jLcl, jstD] at h
    split at h
    · split at h
      · cases h
        exact lv_dstore hx hb hdg hl (by assumption) rfl k
      · cases h
    · cases h
  | astore_n n =>
    simp only [jLcl, jstA] at h
    split at h
    · split at h
      · cases h
        exact lv_astore_n hx hb hdg rfl hl (by assumption) rfl k
      · cases h
    · split at h
      · cases h
        exact lv_astore_nN hx hb hdg rfl hl (by assumption) rfl k
      · cases h
    · cases h
  | astore n =>
    simp only [jLcl, jstA] at h
    split at h
    · split at h
      · cases h
        exact lv_astore hx hb hdg hl (by assumption) rfl k
      · cases h
    · split at h
      · cases h
        exact lv_astoreN hx hb hdg hl (by assumption) rfl k
      · cases h
    · cases h
  | iinc n z =>
    simp only [jLcl] at h
    split at h
    · rename_i x e
      split at h
      · cases h
        obtain ⟨q, hq⟩ := jget_pos e (fun _ q => by cases q)
        exact lv_iinc hx hb hdg hl hq rfl (by assumption) rfl k
      · cases h
    · cases h
  | _ => simp [jLcl] at h
/-- what the resolved target of a jump is -/
def jtgt (pc : Nat) (i : Instr) (r : List Nat) : Prop := match i with
  | .goto o => ∀ t, r = [t] → (pc : Int) + o = (t : Int)
  | .ifCond _ o => ∀ t, r = [t] → (pc : Int) + o = (t : Int)
  | .if_icmp _ o => ∀ t, r = [t] → (pc : Int) + o = (t : Int)
  | .ifnull o => ∀ t, r = [t] → (pc : Int) + o = (t : Int)
  | .ifnonnull o => ∀ t, r = [t] → (pc : Int) + o = (t : Int)
  | .tableswitch d lo hi os => ∃ dt ts, r = dt :: ts ∧ (pc : Int) + d = (dt : Int) ∧ lo + (ts.length : Int) = hi + 1 ∧ os.toList.map (fun o => (pc : Int) + o) = ts.map (fun (t : Nat) => (t : Int))
  | _ => True
theorem jswt_out {x : Int32} : ∀ (ts : List Nat) (lo : Int) (d : Nat), x.toInt < lo ∨ lo + ts.length ≤ x.toInt → jswt x lo ts d = d
  | [], _, _, _ => rfl
  | t :: ts, lo, d, h => by
    have h2 : ¬ x.toInt = lo := by simp only [List.length_cons] at h; omega
    simp only [jswt, if_neg h2]
    exact jswt_out ts (lo + 1) d (by simp only [List.length_cons] at h; omega)
theorem jswt_in {x : Int32} : ∀ (ts : List Nat) (lo : Int) (d t : Nat), lo ≤ x.toInt → ts[(x.toInt - lo).toNat]? = some t → jswt x lo ts d = t
  | [], _, _, _, _, h => by simp at h
  | t0 :: ts, lo, d, t, h0, h => by
    by_cases h2 : x.toInt = lo
    · simp only [jswt, if_pos h2]
      rw [h2] at h
      simpa using h
    · simp only [jswt, if_neg h2]
      refine jswt_in ts (lo + 1) d t (by omega) ?_
      have e : (x.toInt - lo).toNat = (x.toInt - (lo + 1)).toNat + 1 := by omega
      rw [e] at h
      simpa using h
set_option maxHeartbeats 4000000 in
theorem sim_jmp (hx : p.tables.exec = Jvm.exec) (hb : c.code = cc) {i : Instr} {r : List Nat} {st st' : List Value} {pc' n : Nat} (h : jJmp pc i r st = some (pc', st')) (hdg : decode cc pc = .ok (i, n)) (hn : n = jlen i ∨ ∃ a b c d, i = .tableswitch a b c d) (ht : jtgt pc i r)
    (k : W p l e R s m args below meth c H locs cells slots Q (F0 m pc' ls st')) : W p l e R s m args below meth c H locs cells slots Q (F0 m pc ls st) := by
  cases i with
  | goto o =>
    obtain rfl : n = 3 := by rcases hn with h | ⟨_, _, _, _, h⟩ <;> first | exact h | cases h
    simp only [jJmp] at h
    split at h
    · cases h; exact lv_goto hx hb hdg (ht _ rfl) k
    · cases h
  | ifCond c o =>
    obtain rfl : n = 3 := by rcases hn with h | ⟨_, _, _, _, h⟩ <;> first | exact h | cases h
    simp only [jJmp] at h
    split at h
    · split at h
      · cases h
        cases c <;> simp only [jifc] at k
        · exact lv_if_eq hx hb hdg (ht _ rfl) (fun q => by rw [if_pos q] at k; exact k) (fun q => by rw [if_neg q] at k; exact k)
        · exact lv_if_ne hx hb hdg (ht _ rfl) (fun q => by rw [if_neg q] at k; exact k) (fun q => by rw [if_pos q] at k; exact k)
        · exact lv_if_lt hx hb hdg (ht _ rfl) (fun q => by rw [if_pos q] at k; exact k) (fun q => by rw [if_neg q] at k; exact k)
        · exact lv_if_ge hx hb hdg (ht _ rfl) (fun q => by rw [if_pos q] at k; exact k) (fun q => by rw [if_neg q] at k; exact k)
        · exact lv_if_gt hx hb hdg (ht _ rfl) (fun q => by rw [if_pos q] at k; exact k) (fun q => by rw [if_neg q] at k; exact k)
        · exact lv_if_le hx hb hdg (ht _ rfl) (fun q => by rw [if_pos q] at k; exact k) (fun q => by rw [if_neg q] at k; exact k)
      · cases h
    · cases h
  | if_icmp c o =>
    obtain rfl : n = 3 := by rcases hn with h | ⟨_, _, _, _, h⟩ <;> first | exact h | cases h
    simp only [jJmp] at h
    split at h
    · split at h
      · cases h
        cases c <;> simp only [jifc] at k
        · exact lv_icmp_eq hx hb hdg (ht _ rfl) (fun q => by rw [if_pos q] at k; exact k) (fun q => by rw [if_neg q] at k; exact k)
        · exact lv_icmp_ne hx hb hdg (ht _ rfl) (fun q => by rw [if_neg q] at k; exact k) (fun q => by rw [if_pos q] at k; exact k)
        · exact lv_icmp_lt hx hb hdg (ht _ rfl) (fun q => by rw [if_pos q] at k; exact k) (fun q => by rw [if_neg q] at k; exact k)
        · exact lv_icmp_ge hx hb hdg (ht _ rfl) (fun q => by rw [if_pos q] at k; exact k) (fun q => by rw [if_neg q] at k; exact k)
        · exact lv_icmp_gt hx hb hdg (ht _ rfl) (fun q => by rw [if_pos q] at k; exact k) (fun q => by rw [if_neg q] at k; exact k)
        · exact lv_icmp_le hx hb hdg (ht _ rfl) (fun q => by rw [if_pos q] at k; exact k) (fun q => by rw [if_neg q] at k; exact k)
      · cases h
    · cases h
  | ifnull o =>
    obtain rfl : n = 3 := by rcases hn with h | ⟨_, _, _, _, h⟩ <;> first | exact h | cases h
    simp only [jJmp] at h
    split at h
    · split at h
      · cases h; exact lv_ifnullN hx hb hdg (ht _ rfl) k
      · cases h; exact lv_ifnull hx hb hdg k
      · cases h
    · cases h
  | ifnonnull o =>
    obtain rfl : n = 3 := by rcases hn with h | ⟨_, _, _, _, h⟩ <;> first | exact h | cases h
    simp only [jJmp] at h
    split at h
    · split at h
      · cases h; exact lv_ifnonnullN hx hb hdg k
      · cases h; exact lv_ifnonnull hx hb hdg (ht _ rfl) k
      · cases h
    · cases h
  | tableswitch d lo hi os =>
    obtain ⟨dt, ts, rfl, h1, h2, h3⟩ := ht
    simp only [jJmp] at h
    split at h
    · rename_i x s0
      cases h
      by_cases q : x.toInt < lo ∨ hi < x.toInt
      · rw [jswt_out ts lo dt (by omega)] at k
        exact lv_tableOut hx hb hdg q h1 k
      · have q1 : ¬ x.toInt < lo := fun z => q (Or.inl z)
        have q2 : ¬ hi < x.toInt := fun z => q (Or.inr z)
        have q3 : (x.toInt - lo).toNat < ts.length := by omega
        have q4 : ts[(x.toInt - lo).toNat]? = some ts[(x.toInt - lo).toNat] := List.getElem?_eq_getElem q3
        have q5 := congrArg (fun z : List Int => z[(x.toInt - lo).toNat]?) h3
        simp only [List.getElem?_map, q4, Option.map_some] at q5
        obtain ⟨off, q6, q7⟩ := Option.map_eq_some_iff.mp q5
        rw [jswt_in ts lo dt _ (by omega) q4] at k
        exact lv_tableIn hx hb hdg q1 q2 (off := off) (by rw [← q6, Array.getElem?_toList]) q7 k
    · cases h
  | _ => simp [jJmp] at h
end SIM1
