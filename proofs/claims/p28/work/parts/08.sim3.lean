/-! THE SMALL MACHINE IS THE MACHINE: what it comes to, the machine comes to -/
/-- words that the callee's own list can't carry: they go with what is known of the state -/
def jxw : Jvm.Cond → Bool
  | .fieldLinkNest .. => true
  | .methodLinkNest .. => true
  | .declares _ => true
  | .privateMethod _ => true
  | .arrayOver (.object _) => true
  | _ => false
def jlw : Jvm.Cond → Bool
  | .laysStatic .. => true
  | _ => false
theorem jx_all : ∀ w ∈ lw_tbl, (goodWord w || (jxw w || jlw w)) = true := by
  have h : lw_tbl.all (fun w => goodWord w || (jxw w || jlw w)) = true := by decide +kernel
  exact fun w hw => List.all_eq_true.mp h w hw
abbrev jatH (H0 : Heap) (U : State) : State := { U with heap := H0 }
theorem jl_use {w : Jvm.Cond} (hx : jlw w = true) {A : Array Value} {U : State} {H0 : Heap} (h : w.before #[] (jatH H0 U) = true) (hq : ∀ q : Nat, q < H0.size → U.heap[q]? = H0[q]?) : w.before A U = true := by
  cases w with
  | laysStatic o n d =>
    obtain ⟨c, k, i, f, a, cell, hc, hi, hst, ha, hcell, hs, hcls, hlt, hty⟩ := Cond.laysStatic_spec h
    have hlt0 : a < H0.size := (Array.getElem?_eq_some_iff.mp hcell).1
    exact Cond.laysStatic_of hc hi hst ha ((hq a hlt0).trans hcell) hs hcls hlt hty
  | _ => cases hx
theorem jl_warm {w : Jvm.Cond} (hx : jlw w = true) {s U : State} {H0 : Heap} (hW : s.vm.Alike U.vm) (h : w.before #[] (jatH H0 s) = true) : w.before #[] (jatH H0 U) = true := by
  cases w with
  | laysStatic o n d =>
    obtain ⟨c, k, i, f, a, cell, hc, hi, hst, ha, hcell, hs, hcls, hlt, hty⟩ := Cond.laysStatic_spec (Cond.laysStatic_setVm (s := jatH H0 s) hW h)
    exact Cond.laysStatic_of (s := jatH H0 U) hc hi hst ha hcell hs hcls hlt hty
  | _ => cases hx
theorem jx_args {w : Jvm.Cond} (hx : jxw w = true) {A A' : Array Value} {U : State} (h : w.before A U = true) : w.before A' U = true := by
  cases w with
  | fieldLinkNest => exact va_tabs rfl rfl h
  | methodLinkNest => exact va_tabs rfl rfl h
  | declares => exact va_tabs rfl rfl h
  | privateMethod => exact va_tabs rfl rfl h
  | arrayOver ty =>
    cases ty with
    | object C => exact h
    | _ => cases hx
  | _ => cases hx
theorem jx_warm {w : Jvm.Cond} (hx : jxw w = true) {s U : State} (hW : s.WarmedH U.vm) (h : w.before #[] s = true) : w.before #[] U = true := by
  cases w with
  | fieldLinkNest => exact va_Nw.warmF hW h
  | methodLinkNest => exact va_Nw.warmM hW h
  | declares => exact va_Nw.warmD hW h
  | privateMethod x => exact va_tabs rfl (rfl : (s.setVm U.vm).vm = U.vm) (by rw [Cond.privateMethod_setVm hW.alike]; exact h)
  | arrayOver ty =>
    cases ty with
    | object C => exact va_AO.moved hW.alike h
    | _ => cases hx
  | _ => cases hx
/-- what is known of a state, with the words that go beside the tables -/
def jKx (D : va_G) (E : FieldType → ClassId) (SA : Nat → Nat) (B : Nat) (H0 : Heap) (U : State) : Prop :=
  jKn D E SA B H0 U ∧ (∀ w ∈ lw_tbl, jxw w = true → w.before #[] U = true) ∧ (∀ w ∈ lw_tbl, jlw w = true → w.before #[] (jatH H0 U) = true)
theorem jKx.moved {D : va_G} {E : FieldType → ClassId} {SA : Nat → Nat} {B : Nat} {H0 : Heap} {u U : State} (hW : u.WarmedH U.vm) (h : jKx D E SA B H0 u) : jKx D E SA B H0 U :=
  ⟨h.1.moved hW.alike, fun w hw hx => jx_warm hx hW (h.2.1 w hw hx), fun w hw hx => jl_warm hx hW.alike (h.2.2 w hw hx)⟩
abbrev jgt : List Jvm.Cond := lw_tbl.filter goodWord
theorem lw_gin {ws : List Jvm.Cond} (h : ∀ w ∈ ws, w ∈ lw_tbl ∧ goodWord w = true) : GoodIn lw_tbl ws := fun w hw => ⟨(h w hw).1, good_of_word (h w hw).2⟩
theorem jF_ok {k pc : Nat} {i : Instr} {r : List Nat} {v : Value} (e : jF k pc = some (i, r, v)) : ∃ h, jokI (jmi k).1 (jmi k).2.1 pc i r v h = true := by
  have h := jok_all k
  unfold jF at e
  unfold jokM at h
  split at e
  · rename_i t q
    rw [q] at h
    dsimp only at h
    split at h
    · exact jall_get t _ h pc i r v e
    · cases h
  · cases e
theorem jokI_dec {y : MethodName} {bytes : ByteArray} {pc : Nat} {i : Instr} {r : List Nat} {v : Value} {hs : List Nat} (h : jokI y bytes pc i r v hs = true) : ∃ n, decode bytes pc = .ok (i, n) ∧ (n = jlen i ∨ ∃ a b c d, i = .tableswitch a b c d) := by
  simp only [jokI, Bool.and_eq_true] at h
  obtain ⟨h, -⟩ := h
  split at h
  · rename_i j n e
    simp only [Bool.and_eq_true, Bool.or_eq_true, decide_eq_true_eq] at h
    obtain ⟨rfl, h⟩ := h
    refine ⟨n, e, h.imp id (fun h => ?_)⟩
    split at h
    · exact ⟨_, _, _, _, rfl⟩
    · cases h
  · cases h
theorem jokI_con {y : MethodName} {bytes : ByteArray} {pc : Nat} {i : Instr} {r : List Nat} {v : Value} {hs : List Nat} (h : jokI y bytes pc i r v hs = true) {args : Array Value} {s : State} (hts : ∀ w ∈ lw_tbl, w.before args s = true) : jconOK y.cls i v args s := by
  simp only [jokI, Bool.and_eq_true] at h
  obtain ⟨-, h⟩ := h
  cases i with
  | ldc x =>
    intro z hz
    subst hz
    dsimp only at h
    split at h
    · exact hts _ (jw_mem h)
    · cases h
  | ldc_w x =>
    intro z hz
    subst hz
    dsimp only at h
    split at h
    · exact hts _ (jw_mem h)
    · cases h
  | ldc2_w x =>
    refine ⟨fun z hz => ?_, fun z hz => ?_⟩
    · subst hz
      dsimp only at h
      split at h
      · exact hts _ (jw_mem h)
      · cases h
    · subst hz
      dsimp only at h
      split at h
      · exact hts _ (jw_mem h)
      · cases h
  | _ => exact trivial
theorem jokI_tgt {y : MethodName} {bytes : ByteArray} {pc : Nat} {i : Instr} {r : List Nat} {v : Value} {hs : List Nat} (h : jokI y bytes pc i r v hs = true) : jtgt pc i r := by
  simp only [jokI, Bool.and_eq_true] at h
  obtain ⟨-, h⟩ := h
  cases i with
  | goto o => intro t ht; subst ht; exact of_decide_eq_true h
  | ifCond c o => intro t ht; subst ht; exact of_decide_eq_true h
  | if_icmp c o => intro t ht; subst ht; exact of_decide_eq_true h
  | ifnull o => intro t ht; subst ht; exact of_decide_eq_true h
  | ifnonnull o => intro t ht; subst ht; exact of_decide_eq_true h
  | tableswitch a b c d =>
    dsimp only at h
    split at h
    · exact ⟨_, _, rfl, of_decide_eq_true h⟩
    · cases h
  | _ => exact trivial
theorem jokF_ok {own : String} {x : Nat} {hs : List Nat} {ci k : Nat} (h : jokF own x [ci, k] hs = true) : ∃ q, jCs[ci]? = some q ∧ k < q.2.2 ∧ Jvm.Cond.fieldLink own x (q.2.1 k).1 (q.2.1 k).2.1 (q.2.1 k).2.2.1 ∈ lw_tbl := by
  simp only [jokF] at h
  split at h
  · split at h
    · rename_i q e
      simp only [Bool.and_eq_true, decide_eq_true_eq] at h
      exact ⟨q, e, h.1, jw_mem h.2⟩
    · cases h
  · cases h
theorem jokI_hep {y : MethodName} {bytes : ByteArray} {pc : Nat} {i : Instr} {r : List Nat} {v : Value} {hs : List Nat} (h : jokI y bytes pc i r v hs = true) {args : Array Value} {s : State} (hts : ∀ w ∈ lw_tbl, w.before args s = true) : jhepOK y.cls y.name i r args s := by
  simp only [jokI, Bool.and_eq_true] at h
  obtain ⟨-, h⟩ := h
  cases i with
  | getfield x =>
    intro ci k hr
    subst hr
    obtain ⟨q, h1, h2, h3⟩ := jokF_ok h
    exact ⟨q, h1, h2, hts _ h3⟩
  | putfield x =>
    intro ci k hr
    subst hr
    simp only [Bool.and_eq_true] at h
    obtain ⟨q, h1, h2, h3⟩ := jokF_ok h.1
    refine ⟨q, h1, h2, hts _ h3, ?_⟩
    have h4 := h.2
    simp only [jokW, h1, Bool.or_eq_true, Bool.not_eq_true', Bool.and_eq_true, decide_eq_true_eq] at h4
    rcases h4 with h4 | h4
    · exact Or.inl h4
    · by_cases hf : (q.2.1 k).2.2.2 = true
      · exact Or.inr ⟨hf, h4⟩
      · exact Or.inl (by simpa using hf)
  | getstatic x =>
    intro k hr
    subst hr
    dsimp only at h
    split at h
    · simp only [Bool.and_eq_true, Bool.or_eq_true, decide_eq_true_eq] at h
      exact ⟨h.1, h.2.imp (fun q => hts _ (jw_mem q)) (fun q => hts _ (jw_mem q))⟩
    · cases h
  | new x =>
    intro ci hr
    subst hr
    dsimp only at h
    split at h
    · split at h
      · rename_i q e
        simp only [Bool.and_eq_true] at h
        exact ⟨q, e, hts _ (jw_mem h.1.1), hts _ (jw_mem h.1.2), hts _ (jw_mem h.2)⟩
      · cases h
    · cases h
  | newarray t =>
    dsimp only at h
    split at h
    · simp only [Bool.and_eq_true, decide_eq_true_eq] at h
      exact ⟨hts _ (jw_mem h.1), h.2⟩
    · cases h
  | anewarray x =>
    intro ci hr
    subst hr
    dsimp only at h
    split at h
    · split at h
      · rename_i q e
        simp only [Bool.and_eq_true, decide_eq_true_eq] at h
        exact ⟨q, e, hts _ (jw_mem h.1.1), hts _ (jw_mem h.1.2), h.2⟩
      · cases h
    · cases h
  | _ => exact trivial
abbrev jws (k : Nat) : List Jvm.Cond := Jvm.Cond.code (jmi k).1 (jmi k).2.1 (jmi k).2.2.1 (jmi k).2.2.2.1 :: jgt
theorem jws_in {k : Nat} (h : jmOK k) : ∀ w ∈ jws k, w ∈ lw_tbl ∧ goodWord w = true := fun w hw => (List.mem_cons.mp hw).elim (fun e => by rw [e]; exact ⟨h.1, rfl⟩) (fun q => List.mem_filter.mp q)
abbrev jrm (d mc ms : Nat) : Room := { frames := d, cells := mc, slots := ms, locals := d * 64 }
section SIM3
variable {p : Program} {l : Launch} {e : Env} {R : Room} {s : State} {m : MethodId} {args : Array Value} {below : List Frame} {meth : Method} {c : Code} {H : Heap} {locs : List Loc} {cells slots : Nat} {Q : State → Prop}
variable {cc : ByteArray} {pc nL d mc ms : Nat} {ls : Array Slot}
theorem jtd {n : Nat} {st : List Value} (h : n ≤ st.length) : (st.take n).reverse.length = n := by rw [List.length_reverse, List.length_take]; omega
theorem jR64 {k : Nat} (hk : jmOK k) (h1 : d + 1 ≤ R.frames) (h2 : (d + 1) * 64 ≤ R.locals) : (jrm d mc ms).frames + 1 ≤ R.frames ∧ 8 + ((jmi k).2.2.1 + 11) + (jrm d mc ms).locals ≤ R.locals := by
  refine ⟨h1, ?_⟩
  have := hk.2.2.2.2.1
  show 8 + ((jmi k).2.2.1 + 11) + d * 64 ≤ R.locals
  omega
theorem jgV {k' : Nat} {w1 w2 w3 w4 : Jvm.Cond} (mk : jmOK k') (h1 : w1 ∈ lw_tbl) (h2 : w2 ∈ lw_tbl) (h3 : w3 ∈ lw_tbl) (h4 : w4 ∈ lw_tbl) (g1 : goodWord w1 = true) (g2 : goodWord w2 = true) (g3 : goodWord w3 = true) (g4 : goodWord w4 = true) : GoodIn lw_tbl (([w1, w2, w3, w4] : List Jvm.Cond) ++ jws k') := lw_gin (fun w hw => by
  rcases List.mem_append.mp hw with h | h
  · simp only [List.mem_cons, List.not_mem_nil, or_false] at h
    rcases h with h | h | h | h <;> (rw [h]; constructor <;> assumption)
  · exact jws_in mk w h)
theorem jgU {k' : Nat} {w1 w2 w3 w4 w5 : Jvm.Cond} (mk : jmOK k') (h1 : w1 ∈ lw_tbl) (h2 : w2 ∈ lw_tbl) (h3 : w3 ∈ lw_tbl) (h4 : w4 ∈ lw_tbl) (h5 : w5 ∈ lw_tbl) (g1 : goodWord w1 = true) (g2 : goodWord w2 = true) (g3 : goodWord w3 = true) (g4 : goodWord w4 = true) (g5 : goodWord w5 = true) : GoodIn lw_tbl (([w1, w2, w3, w4, w5] : List Jvm.Cond) ++ jws k') := lw_gin (fun w hw => by
  rcases List.mem_append.mp hw with h | h
  · simp only [List.mem_cons, List.not_mem_nil, or_false] at h
    rcases h with h | h | h | h | h <;> (rw [h]; constructor <;> assumption)
  · exact jws_in mk w h)
theorem jnw {w : Jvm.Cond} (ho : w.onTables = true) (hts : ∀ w ∈ lw_tbl, w.before args s = true) (h : w ∈ lw_tbl) : va_Nw w s := va_Nw.of ho (hts _ h)
theorem jNumMH : jNum ≠ "java/lang/invoke/MethodHandle" ∧ jNum ≠ "java/lang/invoke/VarHandle" := by decide +kernel
set_option maxHeartbeats 4000000 in
theorem jrun {y : MethodName} {bytes : ByteArray} {i : Instr} {r : List Nat} {v : Value} {hs : List Nat} {st as rest : List Value} {k' : Nat} {hp0 : Nat → Option JCell} {Pc : Array Value → State → Prop} {Qc : Array Value → State → Outcome → State → Prop} {free : Addr → Prop}
    (hcal : jCal i r st hp0 = some (k', as, rest)) (hok : jokI y bytes pc i r v hs = true) (hM : Met l (jmi k').1 (jws k') (jrm d mc ms) Pc Qc mc ms free)
    (S : CallFix p m c bytes nL s args lw_tbl y.cls) (hbl : FrameBlind Pc) (hpc : ∀ U : State, U.heap = H → s.WarmedH U.vm → Pc as.toArray U)
    (hrc : ∀ b ci, jobC ci (hp0 b) = true → ∃ cellB : Cell, H[b]? = some cellB ∧ cellB.vm.isStatics = false ∧ s.vm.findClass (jclsN ci) = some cellB.cls)
    (hsz : ls.size = nL) (hW : jCats rest ≤ 8) (hf : cells + mc ≤ R.cells ∧ slots + ms ≤ R.slots) (hR1 : d + 1 ≤ R.frames) (hR2 : (d + 1) * 64 ≤ R.locals) (hdg : decode bytes pc = .ok (i, 3)) :
    va_Run p l e R s m args below meth c H locs cells slots mc ms (F0 m pc ls st) rest (Qc as.toArray) free := by
  have hW' : 2 * (F0 m pc ls st).monitorRoom + (rest.map fun v => v.category).sum ≤ 8 := lv_room hW
  simp only [jokI, Bool.and_eq_true] at hok
  obtain ⟨-, hok⟩ := hok
  cases i with
  | invokestatic x =>
    dsimp only at hok
    simp only [jCal] at hcal
    split at hcal
    · rename_i k n
      split at hcal
      · rename_i hn
        cases hcal
        simp only [jokS] at hok
        split at hok
        · simp only [Bool.and_eq_true, decide_eq_true_eq] at hok
          obtain ⟨⟨⟨w1, w2⟩, w3⟩, hk, hn2⟩ := hok
          have mk := jmo_all _ hk
          have cw := va_cwS (R := R) (own := y.cls) (index := x) (mc := mc) (ms := ms) (rm := jrm d mc ms) n S.2.2.2.2 (Ts := lw_tbl) (ws := jws k') (lw_gin (fun w hw => by
            rcases List.mem_append.mp hw with h | h
            · rcases List.mem_cons.mp h with h | h
              · rw [h]; exact ⟨jw_mem w1, rfl⟩
              · rcases List.mem_cons.mp h with h | h
                · rw [h]; exact ⟨jw_mem w2, rfl⟩
                · rcases List.mem_cons.mp h with h | h
                  · rw [h]; exact ⟨jw_mem w3, rfl⟩
                  · cases h
            · exact jws_in mk w h)) rfl rfl rfl ⟨mk.2.1, mk.2.2.1, by rw [← hn2]; exact mk.2.2.2.1⟩ (jR64 mk hR1 hR2)
          exact va_runS (As := (st.take n).reverse) S hM cw ⟨hbl, hpc⟩ rfl (jtd hn) hsz (by simp) hW' hdg hf
        · cases hok
      · cases hcal
    · rename_i k n
      split at hcal
      · rename_i hn
        cases hcal
        simp only [jokS] at hok
        split at hok
        · simp only [Bool.and_eq_true, decide_eq_true_eq] at hok
          obtain ⟨⟨⟨⟨w1, w2⟩, w3⟩, w4⟩, hk, hn2, ho1, ho2⟩ := hok
          have mk := jmo_all _ hk
          have hts := S.2.2.2.2
          have hcode := hts _ mk.1
          have hini := hts _ (jw_mem w4)
          have hR := jR64 (mc := mc) (ms := ms) mk hR1 hR2
          have hK := back_of (l := l) (p := p) (e := e) (below := below) (s := s) (sargs := args) (len := 3) (W := 8) (bytes := (jmi k').2.1) (maxL := (jmi k').2.2.1) (ret := (jmi k').2.2.2.1) hM hbl rfl rfl hR.1 hR.2 (pay_in hts (lw_gin (jws_in mk))) List.mem_cons_self (fun a' U hW => word_at hW (Or.inl (by first | rfl | simp [Cond.onTables, Cond.keeps, Cond.steady])) hini)
          exact j_runSUp (As := (st.take n).reverse) (n := n) S hM (hts _ (jw_mem w1)) (hts _ (jw_mem w2)) ⟨ho1, ho2⟩ ⟨mk.2.1, mk.2.2.1⟩ (hts _ (jw_mem w3)) hini hcode hK ⟨hbl, hpc⟩ (fun sig h => by
            have h2 := mk.2.2.2.1
            rw [h] at h2
            rw [← hn2]
            exact (Option.some.inj h2).symm) rfl (jtd hn) hsz (by simp) hW' hdg hf
        · cases hok
      · cases hcal
    · cases hcal
  | invokespecial x =>
    dsimp only at hok
    simp only [jCal, jrecv] at hcal
    split at hcal
    · rename_i k n
      split at hcal
      · rename_i hj
        split at hj
        · rename_i b s0 e0
          split at hj
          · rename_i hn
            cases hj
            cases hcal
            simp only [jokP] at hok
            split at hok
            · simp only [Bool.and_eq_true, decide_eq_true_eq] at hok
              obtain ⟨⟨⟨w1, w2⟩, w3⟩, hk, hn2, hi, hret⟩ := hok
              have mk := jmo_all _ hk
              have hts := S.2.2.2.2
              have cw := cwI (R := R) (s := s) (args := args) (own := y.cls) (index := x) (mc := mc) (ms := ms) (rm := jrm d mc ms) (y := (jmi k').1) (bytes := (jmi k').2.1) (maxL := (jmi k').2.2.1) n hts (lw_gin (jws_in mk)) (by show Jvm.Cond.code _ _ _ (jmi k').2.2.2.1 :: jgt = _; rw [hret]) rfl rfl (hts _ (jw_mem w3)) (hts _ (jw_mem w1)) (hts _ (jw_mem w2)) hi ⟨mk.2.1, mk.2.2.1, by rw [← hn2]; exact mk.2.2.2.1⟩ (jR64 mk hR1 hR2)
              exact va_runI (As := (st.take n).reverse) (b := _) S hM cw ⟨hbl, hpc⟩ rfl (jtd hn) hsz (by rw [List.reverse_reverse, ← e0]; exact (List.take_append_drop n st).symm) hW' hdg hf
            · cases hok
          · cases hj
        · cases hj
      · cases hcal
    · rename_i k n
      split at hcal
      · rename_i hj
        split at hj
        · rename_i b s0 e0
          split at hj
          · rename_i hn
            cases hj
            cases hcal
            simp only [jokP] at hok
            split at hok
            · simp only [Bool.and_eq_true, decide_eq_true_eq] at hok
              obtain ⟨⟨⟨w1, w2⟩, w3⟩, hk, hn2, hi, hret⟩ := hok
              have mk := jmo_all _ hk
              have hts := S.2.2.2.2
              have cw := va_cnB (R := R) (s := s) (args := args) (own := y.cls) (host := "FilterBench") (index := x) (mc := mc) (ms := ms) (rm := jrm d mc ms) (y := (jmi k').1) (bytes := (jmi k').2.1) (maxL := (jmi k').2.2.1) (ret := none) n hts (lw_gin (jws_in mk)) (by show Jvm.Cond.code _ _ _ (jmi k').2.2.2.1 :: jgt = _; rw [hret]) rfl rfl (jnw rfl hts (jw_mem w1)) (hts _ (jw_mem w3)) ⟨mk.2.1, mk.2.2.1, by rw [← hn2]; exact mk.2.2.2.1⟩ (jR64 mk hR1 hR2)
              exact va_runIN (As := (st.take n).reverse) (b := _) S hM ⟨cw, hi, hts _ (jw_mem w2)⟩ ⟨hbl, hpc⟩ rfl (jtd hn) hsz (by rw [List.reverse_reverse, ← e0]; exact (List.take_append_drop n st).symm) hW' hdg hf
            · cases hok
          · cases hj
        · cases hj
      · cases hcal
    · cases hcal
  | invokevirtual x =>
    dsimp only at hok
    have hts := S.2.2.2.2
    simp only [jCal, jrecv] at hcal
    split at hcal
    · rename_i n ci k
      split at hcal
      · rename_i hj
        split at hcal
        · rename_i hcv
          cases hcal
          split at hj
          · rename_i b s0 e0
            split at hj
            · rename_i hn
              cases hj
              simp only [jokV] at hok
              split at hok
              · simp only [Bool.and_eq_true, decide_eq_true_eq] at hok
                obtain ⟨⟨⟨⟨w1, w2⟩, w3⟩, w4⟩, hk, hn2, hcn⟩ := hok
                have mk := jmo_all _ hk
                have cw := cwV (R := R) (s := s) (args := args) (own := y.cls) (C := (jmi k').1.cls) (index := x) (mc := mc) (ms := ms) (rm := jrm d mc ms) (y := (jmi k').1) (bytes := (jmi k').2.1) (maxL := (jmi k').2.2.1) (ret := (jmi k').2.2.2.1) (ws := jws k') n hts (jgV mk (jw_mem w1) (jw_mem w2) (jw_mem w3) (jw_mem w4) rfl rfl rfl rfl) rfl rfl rfl ⟨rfl, mk.2.1, mk.2.2.1, by rw [← hn2]; exact mk.2.2.2.1⟩ (jR64 mk hR1 hR2)
                exact va_runV (As := (st.take n).reverse) (b := _) S hM cw ⟨hbl, by rw [← hcn]; exact hrc _ _ hcv, hpc⟩ rfl (jtd hn) hsz (by rw [List.reverse_reverse, ← e0]; exact (List.take_append_drop n st).symm) hW' hdg hf
              · cases hok
            · cases hj
          · cases hj
        · cases hcal
      · cases hcal
    · rename_i n ci k
      split at hcal
      · rename_i hj
        split at hcal
        · rename_i hcv
          cases hcal
          split at hj
          · rename_i b s0 e0
            split at hj
            · rename_i hn
              cases hj
              simp only [jokV] at hok
              split at hok
              · simp only [Bool.and_eq_true, decide_eq_true_eq] at hok
                obtain ⟨⟨⟨⟨w1, w2⟩, w3⟩, w4⟩, hk, hn2, hcn⟩ := hok
                have mk := jmo_all _ hk
                have cw := va_cnB (R := R) (s := s) (args := args) (own := y.cls) (host := "FilterBench") (index := x) (mc := mc) (ms := ms) (rm := jrm d mc ms) (y := (jmi k').1) (bytes := (jmi k').2.1) (maxL := (jmi k').2.2.1) (ret := (jmi k').2.2.2.1) n hts (lw_gin (jws_in mk)) rfl rfl rfl (jnw rfl hts (jw_mem w1)) (hts _ (jw_mem w4)) ⟨mk.2.1, mk.2.2.1, by rw [← hn2]; exact mk.2.2.2.1⟩ (jR64 mk hR1 hR2)
                exact va_runVN (As := (st.take n).reverse) (b := _) (C := (jmi k').1.cls) S hM ⟨cw, hts _ (jw_mem w2), hts _ (jw_mem w3)⟩ ⟨hbl, by rw [← hcn]; exact hrc _ _ hcv, hpc⟩ rfl (jtd hn) hsz (by rw [List.reverse_reverse, ← e0]; exact (List.take_append_drop n st).symm) hW' hdg hf
              · cases hok
            · cases hj
          · cases hj
        · cases hcal
      · cases hcal
    · rename_i n c1 k1 c2 k2
      split at hcal
      · rename_i hj
        split at hj
        · rename_i b s0 e0
          split at hj
          · rename_i hn
            cases hj
            simp only [jokV] at hok
            split at hok
            · simp only [Bool.and_eq_true, decide_eq_true_eq] at hok
              obtain ⟨⟨⟨⟨⟨⟨⟨⟨⟨w1, w2⟩, w3⟩, w4⟩, w5⟩, w6⟩, w7⟩, w8⟩, w9⟩, hk1, hk2, hn1, hn2, hnm, hds⟩ := hok
              split at hcal
              · rename_i hcv
                cases hcal
                have mk := jmo_all _ hk1
                have cw := va_cwA (R := R) (s := s) (args := args) (own := y.cls) (C := jclsN c1) (owner := jNum) (index := x) (mc := mc) (ms := ms) (rm := jrm d mc ms) (x := ⟨jNum, (jmi k').1.name, (jmi k').1.desc⟩) (y := (jmi k').1) (bytes := (jmi k').2.1) (maxL := (jmi k').2.2.1) (ret := (jmi k').2.2.2.1) (ws := jws k') n hts (jgU mk (jw_mem w1) (jw_mem w2) (jw_mem w4) (jw_mem w5) (jw_mem w6) rfl rfl rfl rfl rfl) rfl rfl rfl (jnw rfl hts (jw_mem w3)) ⟨jNumMH.1, jNumMH.2, by rw [← hn1]; exact mk.2.2.2.1⟩ (jR64 mk hR1 hR2)
                exact va_runU (As := (st.take n).reverse) (b := _) S hM cw ⟨hbl, hrc _ _ hcv, hpc⟩ rfl (jtd hn) hsz (by rw [List.reverse_reverse, ← e0]; exact (List.take_append_drop n st).symm) hW' hdg hf
              · split at hcal
                · rename_i hcv
                  cases hcal
                  have mk := jmo_all _ hk2
                  rw [← hnm, ← hds] at w1 w2 w3 w7
                  have cw := va_cwA (R := R) (s := s) (args := args) (own := y.cls) (C := jclsN c2) (owner := jNum) (index := x) (mc := mc) (ms := ms) (rm := jrm d mc ms) (x := ⟨jNum, (jmi k').1.name, (jmi k').1.desc⟩) (y := (jmi k').1) (bytes := (jmi k').2.1) (maxL := (jmi k').2.2.1) (ret := (jmi k').2.2.2.1) (ws := jws k') n hts (jgU mk (jw_mem w1) (jw_mem w2) (jw_mem w7) (jw_mem w8) (jw_mem w9) rfl rfl rfl rfl rfl) rfl rfl rfl (jnw rfl hts (jw_mem w3)) ⟨jNumMH.1, jNumMH.2, by rw [← hn2]; exact mk.2.2.2.1⟩ (jR64 mk hR1 hR2)
                  exact va_runU (As := (st.take n).reverse) (b := _) S hM cw ⟨hbl, hrc _ _ hcv, hpc⟩ rfl (jtd hn) hsz (by rw [List.reverse_reverse, ← e0]; exact (List.take_append_drop n st).symm) hW' hdg hf
                · cases hcal
            · cases hok
          · cases hj
        · cases hj
      · cases hcal
    · rename_i n c1 k1 c2 k2
      split at hcal
      · rename_i hj
        split at hj
        · rename_i b s0 e0
          split at hj
          · rename_i hn
            cases hj
            simp only [jokV] at hok
            split at hok
            · simp only [Bool.and_eq_true, decide_eq_true_eq] at hok
              obtain ⟨⟨⟨⟨⟨⟨w1, w2⟩, w4⟩, w5⟩, w6⟩, w7⟩, hk1, hk2, hn1, hcl⟩ := hok
              subst hk2
              have mk := jmo_all _ hk1
              have go : ∀ (b : Nat) (s0 : List Value) (ci : Nat), List.drop n st = .ref b :: s0 → jobC ci (hp0 b) = true → Jvm.Cond.selects (jclsN ci) ⟨jNum, (jmi k2).1.name, (jmi k2).1.desc⟩ (jmi k2).1 ∈ lw_tbl → k2 = k' → Value.ref b :: (List.take n st).reverse = as → s0 = rest → va_Run p l e R s m args below meth c H locs cells slots mc ms (F0 m pc ls st) rest (Qc as.toArray) free := by
                intro b s0 ci e0 hcv wsel ek ea er
                subst ek; subst ea; subst er
                have cw := va_cwU (R := R) (s := s) (args := args) (own := y.cls) (C := jclsN ci) (owner := jNum) (index := x) (mc := mc) (ms := ms) (rm := jrm d mc ms) (x := ⟨jNum, (jmi k2).1.name, (jmi k2).1.desc⟩) (y := (jmi k2).1) (bytes := (jmi k2).2.1) (maxL := (jmi k2).2.2.1) (ret := (jmi k2).2.2.2.1) (ws := jws k2) n hts (jgU mk (jw_mem w1) (jw_mem w2) wsel (jw_mem w5) (jw_mem w6) rfl rfl rfl rfl rfl) rfl rfl rfl (by rw [← hcl]) ⟨jNumMH.1, jNumMH.2, by rw [← hn1]; exact mk.2.2.2.1⟩ (jR64 mk hR1 hR2)
                exact va_runU (As := (st.take n).reverse) (b := _) S hM cw ⟨hbl, hrc _ _ hcv, hpc⟩ rfl (jtd hn) hsz (by rw [List.reverse_reverse, ← e0]; exact (List.take_append_drop n st).symm) hW' hdg hf
              split at hcal
              · rename_i hcv
                simp only [Option.some.injEq, Prod.mk.injEq] at hcal
                exact go _ _ _ (by assumption) hcv (jw_mem w4) hcal.1 hcal.2.1 hcal.2.2
              · split at hcal
                · rename_i hcv
                  simp only [Option.some.injEq, Prod.mk.injEq] at hcal
                  exact go _ _ _ (by assumption) hcv (jw_mem w7) hcal.1 hcal.2.1 hcal.2.2
                · cases hcal
            · cases hok
          · cases hj
        · cases hj
      · cases hcal
    · cases hcal
  | _ => simp [jCal] at hcal
end SIM3
