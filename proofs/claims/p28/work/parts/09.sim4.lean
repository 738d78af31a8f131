/-! the small machine's runs are the machine's -/
def jPc (D : va_G) (E : FieldType → ClassId) (SA : Nat → Nat) (B : Nat) (H0 : Heap) (as : List Value) (μ : JMem) : Array Value → State → Prop := va_Pc as (fun U => jKx D E SA B H0 U ∧ jRel D E B H0 μ U U.heap)
def jQc (D : va_G) (E : FieldType → ClassId) (SA : Nat → Nat) (B : Nat) (H0 : Heap) (o : Option Value) (μ' : JMem) : Array Value → State → Outcome → State → Prop := fun _ _ oc t => oc = .returned o ∧ jKx D E SA B H0 t ∧ jRel D E B H0 μ' t t.heap
set_option maxHeartbeats 4000000 in
theorem jHep_mono {B : Nat} {SA : Nat → Nat} {i : Instr} {r : List Nat} {st st' : List Value} {μ μ' : JMem} (h : jHep B SA i r st μ = some (st', μ')) : μ.2.1 ≤ μ'.2.1 ∧ μ.2.2 ≤ μ'.2.2 := by
  simp only [jHep, jald, jarS] at h
  repeat' (split at h)
  all_goals first | (cases h; done) | (cases h; constructor <;> first | exact Nat.le_refl _ | exact Nat.le_succ _ | exact Nat.le_add_right _ _ | (dsimp only; omega))
theorem jStp_mono {B : Nat} {SA : Nat → Nat} {N pc pc' : Nat} {i : Instr} {r : List Nat} {v : Value} {L L' : JLoc} {st st' : List Value} {μ μ' : JMem} (h : jStp B SA N pc i r v L st μ = some (pc', L', st', μ')) : μ.2.1 ≤ μ'.2.1 ∧ μ.2.2 ≤ μ'.2.2 := by
  unfold jStp at h
  split at h
  · cases h; omega
  · split at h
    · cases h; omega
    · split at h
      · cases h; omega
      · split at h
        · rename_i hh
          cases h
          exact jHep_mono hh
        · cases h
theorem jex_mono {B : Nat} {SA : Nat → Nat} : ∀ (n d k pc : Nat) (L : JLoc) (st : List Value) (μ : JMem) (o : Option Value) (μ' : JMem), jex B SA n d k pc L st μ = some (o, μ') → μ.2.1 ≤ μ'.2.1 ∧ μ.2.2 ≤ μ'.2.2 := by
  intro n
  induction n with
  | zero => intro d k pc L st μ o μ' h; simp [jex] at h
  | succ n ih =>
    intro d k pc L st μ o μ' h
    simp only [jex] at h
    split at h
    · cases h
    · split at h
      · cases h; omega
      · split at h
        · split at h
          · cases h
          · split at h
            · cases h
            · rename_i h1
              have a := ih _ _ _ _ _ _ _ _ h1
              have b := ih _ _ _ _ _ _ _ _ h
              omega
        · split at h
          · split at h
            · cases h
            · exact ih _ _ _ _ _ _ _ _ h
          · split at h
            · rename_i h1
              have a := jStp_mono h1
              have b := ih _ _ _ _ _ _ _ _ h
              omega
            · cases h
theorem jRet_len {ty : Option FieldType} {i : Instr} {st : List Value} {o : Option Value} (h : jRet ty i st = some o) {n : Nat} (hn : n = jlen i ∨ ∃ a b c d, i = .tableswitch a b c d) : n = 1 := by
  cases i <;> first | (simp [jRet] at h; done) | (rcases hn with h | ⟨_, _, _, _, h⟩ <;> first | exact h | cases h)
theorem jlen_of {i : Instr} {n : Nat} (hn : n = jlen i ∨ ∃ a b c d, i = .tableswitch a b c d) (h : ∀ a b c d, i ≠ .tableswitch a b c d) : n = jlen i := by
  rcases hn with q | ⟨a, b, c, d, q⟩
  · exact q
  · exact absurd q (h a b c d)
theorem jCal_len {i : Instr} {r : List Nat} {st : List Value} {h0 : Nat → Option JCell} {x : Nat × List Value × List Value} (h : jCal i r st h0 = some x) {n : Nat} (hn : n = jlen i ∨ ∃ a b c d, i = .tableswitch a b c d) : n = 3 := by
  cases i <;> first | (simp [jCal] at h; done) | (rcases hn with h | ⟨_, _, _, _, h⟩ <;> first | exact h | cases h)
theorem jNat_len {i : Instr} {r : List Nat} {st st' : List Value} (h : jNat i r st = some st') {n : Nat} (hn : n = jlen i ∨ ∃ a b c d, i = .tableswitch a b c d) : n = 3 := by
  cases i <;> first | (simp [jNat] at h; done) | (rcases hn with h | ⟨_, _, _, _, h⟩ <;> first | exact h | cases h)
theorem jCal_lt {y : MethodName} {bytes : ByteArray} {pc : Nat} {i : Instr} {r : List Nat} {v : Value} {hs : List Nat} {st as rest : List Value} {k' : Nat} {h0 : Nat → Option JCell}
    (hcal : jCal i r st h0 = some (k', as, rest)) (hok : jokI y bytes pc i r v hs = true) : k' < 145 := by
  simp only [jokI, Bool.and_eq_true] at hok
  obtain ⟨-, hok⟩ := hok
  cases i with
  | invokestatic x =>
    simp only [jCal] at hcal
    split at hcal
    · split at hcal
      · cases hcal
        simp only [jokS] at hok
        split at hok
        · simp only [Bool.and_eq_true, decide_eq_true_eq] at hok
          exact hok.2.1
        · cases hok
      · cases hcal
    · split at hcal
      · cases hcal
        simp only [jokS] at hok
        split at hok
        · simp only [Bool.and_eq_true, decide_eq_true_eq] at hok
          exact hok.2.1
        · cases hok
      · cases hcal
    · cases hcal
  | invokespecial x =>
    simp only [jCal, jrecv] at hcal
    split at hcal
    · split at hcal
      · rename_i hj
        split at hj
        · split at hj
          · cases hj
            cases hcal
            simp only [jokP] at hok
            split at hok
            · simp only [Bool.and_eq_true, decide_eq_true_eq] at hok
              exact hok.2.1
            · cases hok
          · cases hj
        · cases hj
      · cases hcal
    · split at hcal
      · rename_i hj
        split at hj
        · split at hj
          · cases hj
            cases hcal
            simp only [jokP] at hok
            split at hok
            · simp only [Bool.and_eq_true, decide_eq_true_eq] at hok
              exact hok.2.1
            · cases hok
          · cases hj
        · cases hj
      · cases hcal
    · cases hcal
  | invokevirtual x =>
    simp only [jCal, jrecv] at hcal
    split at hcal
    · split at hcal
      · rename_i hj
        split at hcal
        · cases hcal
          split at hj
          · split at hj
            · cases hj
              simp only [jokV] at hok
              split at hok
              · simp only [Bool.and_eq_true, decide_eq_true_eq] at hok
                exact hok.2.1
              · cases hok
            · cases hj
          · cases hj
        · cases hcal
      · cases hcal
    · split at hcal
      · rename_i hj
        split at hcal
        · cases hcal
          split at hj
          · split at hj
            · cases hj
              simp only [jokV] at hok
              split at hok
              · simp only [Bool.and_eq_true, decide_eq_true_eq] at hok
                exact hok.2.1
              · cases hok
            · cases hj
          · cases hj
        · cases hcal
      · cases hcal
    · split at hcal
      · simp only [jokV] at hok
        split at hok
        · simp only [Bool.and_eq_true, decide_eq_true_eq] at hok
          split at hcal
          · cases hcal; exact hok.2.1
          · split at hcal
            · cases hcal; exact hok.2.2.1
            · cases hcal
        · cases hok
      · cases hcal
    · split at hcal
      · simp only [jokV] at hok
        split at hok
        · simp only [Bool.and_eq_true, decide_eq_true_eq] at hok
          split at hcal
          · cases hcal; exact hok.2.1
          · split at hcal
            · cases hcal; rw [hok.2.2.1]; exact hok.2.1
            · cases hcal
        · cases hok
      · cases hcal
    · cases hcal
  | _ => simp [jCal] at hcal
theorem jcats_sl (vs : List Value) : (lg_sl vs).length = jCats vs := by
  induction vs with
  | nil => rfl
  | cons v vs ih =>
    have e : lg_sl (v :: vs) = (if v.category = 2 then [Slot.val v, Slot.second] else [Slot.val v]) ++ lg_sl vs := by simp [lg_sl]
    rw [e, List.length_append, ih]
    simp only [jCats, List.map_cons, List.sum_cons]
    rcases lv_cat v with h | h <;> simp [h]
section SIM4
variable {p : Program} {l : Launch} {e : Env} {R : Room} {s : State} {m : MethodId} {args : Array Value} {below : List Frame} {meth : Method} {c : Code} {H : Heap} {locs : List Loc} {cells slots : Nat} {Q : State → Prop}
theorem jcall_go {pc mc ms B : Nat} {ls : Array Slot} {st rest : List Value} {Qa : State → Outcome → State → Prop} (hr : va_Run p l e R s m args below meth c H locs cells slots mc ms (F0 m pc ls st) rest Qa (fun q => B ≤ q)) (hL : ∀ q ∈ locs, B ≤ q.base)
    (kk : ∀ (v : Option Value) (t : State) (locs1 : List Loc), s.vm.Alike t.vm → (∃ st0, Qa st0 (.returned v) t) → (∀ q ∈ locs1, B ≤ q.base) → W p l e R s m args below meth c t.heap locs1 (cells + mc) (slots + ms) Q (F0 m (pc + 3) ls (v.toList ++ rest))) : W p l e R s m args below meth c H locs cells slots Q (F0 m pc ls st) := by
  intro T hT X
  obtain ⟨v, st₀, t, T', L, h0, X', hL1, e1, e2, hq, st⟩ := hr T hT X
  obtain ⟨t2, a1, b1⟩ := kk v t (locs ++ L) (by rw [← e2]; exact X'.warmed.alike) ⟨st₀, hq⟩ (fun q hq => by
      rcases List.mem_append.mp hq with h | h
      · exact hL q h
      · exact hL1 q h) T' e1 X'
  exact ⟨t2, st t2 a1, b1⟩
end SIM4
def jSim (D : va_G) (E : FieldType → ClassId) (SA : Nat → Nat) (B : Nat) (H0 : Heap) (n : Nat) : Prop :=
  ∀ (d k pc : Nat) (L : JLoc) (st : List Value) (μ : JMem) (o : Option Value) (μ' : JMem), jex B SA n d k pc L st μ = some (o, μ') →
  ∀ (p : Program) (l : Launch) (e : Env) (R : Room) (s : State) (m : MethodId) (args : Array Value) (below : List Frame) (meth : Method) (c : Code) (H : Heap) (locs : List Loc) (cells slots : Nat) (Q : State → Prop) (ls : Array Slot),
  CallFix p m c (jmi k).2.1 (jmi k).2.2.1 s args lw_tbl (jmi k).1.cls → meth.name = (jmi k).1.name → jKx D E SA B H0 s → jRel D E B H0 μ s H → H0.size = B → (∀ q ∈ locs, B ≤ q.base) → lv_has ls (jmi k).2.2.1 L → d ≤ R.frames → d * 64 ≤ R.locals →
  cells + (μ'.2.1 - μ.2.1) ≤ R.cells → slots + (μ'.2.2 - μ.2.2) ≤ R.slots →
  (∀ (pc' : Nat) (ls' : Array Slot) (i : Instr) (st' : List Value) (H' : Heap) (locs' : List Loc), decode (jmi k).2.1 pc' = .ok (i, 1) → jRet (jmi k).2.2.2.1 i st' = some o → jRel D E B H0 μ' s H' → (∀ q ∈ locs', B ≤ q.base) → W p l e R s m args below meth c H' locs' (cells + (μ'.2.1 - μ.2.1)) (slots + (μ'.2.2 - μ.2.2)) Q (F0 m pc' ls' st')) →
  W p l e R s m args below meth c H locs cells slots Q (F0 m pc ls st)
set_option maxHeartbeats 4000000 in
theorem jMet_of {D : va_G} {E : FieldType → ClassId} {SA : Nat → Nat} {B : Nat} {H0 : Heap} {n : Nat} (ih : jSim D E SA B H0 n) {d k : Nat} {as : List Value} {μ : JMem} {o : Option Value} {μ' : JMem} (h : jex B SA n d k 0 (lv_args 0 as) [] μ = some (o, μ')) (hk : k < 145) (hcat : jCats as ≤ (jmi k).2.2.1) (hB0 : H0.size = B) (l : Launch) :
    Met l (jmi k).1 (jws k) (jrm d (μ'.2.1 - μ.2.1) (μ'.2.2 - μ.2.2)) (jPc D E SA B H0 as μ) (jQc D E SA B H0 o μ') (μ'.2.1 - μ.2.1) (μ'.2.2 - μ.2.2) (fun q => B ≤ q) := by
  have mk := jmo_all k hk
  refine va_MetF (cc := (jmi k).2.1) (maxL := (jmi k).2.2.1) (ret := (jmi k).2.2.2.1) mk.2.2.2.2.2 rfl ?_
  intro p e s m args below meth c s₁ Bd hml hv
  obtain ⟨rfl, hK, hR⟩ := hv
  have hts0 := atoms_spec (ws := jws k) Bd.pre
  have hts : ∀ w ∈ lw_tbl, w.before as.toArray s = true := fun w hw => by
    rcases Bool.or_eq_true_iff.mp (jx_all w hw) with q | q
    · exact hts0 w (List.mem_cons_of_mem _ (List.mem_filter.mpr ⟨hw, q⟩))
    · rcases Bool.or_eq_true_iff.mp q with q | q
      · exact jx_args q (hK.2.1 w hw q)
      · exact jl_use q (hK.2.2 w hw q) (fun z hz => hR.2.2.1 z (by rw [← hB0]; exact hz))
  have hown : s.vm.findClass (jmi k).1.cls = some m.cls := findClass_of_methodNamed Bd.named
  have hnm : meth.name = (jmi k).1.name := (name_of_methodNamed Bd.named Bd.method).1
  have hlocks := Bd.notSynchronized
  have hr := Bd.returns
  have hx := Bd.exec
  have hb := Bd.bytes
  have hl := lv_entry as (n := (jmi k).2.2.1) (by rw [jcats_sl]; exact hcat)
  rw [lg_entry_eq]
  generalize (lg_sl as ++ List.replicate ((jmi k).2.2.1 - (lg_sl as).length) Slot.unset).toArray = ls at hl ⊢
  refine ih d k 0 _ [] μ o μ' h p l e _ s m _ below meth c s.heap [] 0 0 _ ls ⟨hx, hb, hml, hown, hts⟩ hnm hK hR hB0 (fun q hq => absurd hq List.not_mem_nil) hl (Nat.le_refl _) (Nat.le_refl _) (by rw [Nat.zero_add]; exact Nat.le_refl _) (by rw [Nat.zero_add]; exact Nat.le_refl _) ?_
  intro pc' ls' i st' H' locs' hd hret hR' hL'
  rw [Nat.zero_add, Nat.zero_add]
  have hq : ∀ t : State, t.heap = H' → s.WarmedH t.vm → jQc D E SA B H0 o μ' as.toArray s (.returned o) t := fun t ht hW => ⟨rfl, hK.moved hW, by rw [ht]; exact hR'.moved hW.alike⟩
  cases i with
  | return_ =>
    simp only [jRet] at hret
    split at hret
    · split at hret
      · rename_i hty
        cases hret
        exact W.vret hx hb (hr.trans hty) hq hL' hd
      · cases hret
    · cases hret
  | ireturn =>
    simp only [jRet] at hret
    split at hret
    · split at hret
      · rename_i hty
        split at hret
        · rename_i hn
          cases hret
          exact W.zret hx hb (hr.trans hty) hn hq hL' hd
        · cases hret
      · cases hret
    · cases hret
  | lreturn =>
    simp only [jRet] at hret
    split at hret
    · split at hret
      · rename_i hty
        cases hret
        exact W.lret hx hb (hr.trans hty) hq hL' hd
      · cases hret
    · cases hret
  | dreturn =>
    simp only [jRet] at hret
    split at hret
    · split at hret
      · rename_i hty
        cases hret
        exact W.dret hx hb (hr.trans hty) hq hL' hd
      · cases hret
    · cases hret
  | areturn =>
    simp only [jRet] at hret
    split at hret
    · rename_i hty
      split at hret
      · cases hret
        exact W.aret hx hb (hr.trans hty) (Or.inl ⟨_, rfl⟩) (Or.inr ⟨_, rfl⟩) hq hL' hd
      · cases hret
        exact W.aret hx hb (hr.trans hty) (Or.inl ⟨_, rfl⟩) (Or.inl rfl) hq hL' hd
      · cases hret
    · cases hret
  | _ => simp [jRet] at hret
set_option maxHeartbeats 8000000 in
theorem jsim_all {D : va_G} {E : FieldType → ClassId} {SA : Nat → Nat} {B : Nat} {H0 : Heap} : ∀ n, jSim D E SA B H0 n := by
  intro n
  induction n with
  | zero => intro d k pc L st μ o μ' h; simp [jex] at h
  | succ n ih =>
    intro d k pc L st μ o μ' h p l e R s m args below meth c H locs cells slots Q ls S hnm hK hR hB0 hL hl hd1 hd2 hc hs hret
    obtain ⟨hx, hb, hml, hown, hts⟩ := id S
    simp only [jex] at h
    split at h
    · cases h
    · rename_i i r v hF
      obtain ⟨hh, hok⟩ := jF_ok hF
      obtain ⟨n', hdec, hn'⟩ := jokI_dec hok
      split at h
      · rename_i o' hr'
        cases h
        obtain rfl := jRet_len hr' hn'
        simp only [Nat.sub_self, Nat.add_zero] at hret
        exact hret pc ls i st H locs hdec hr' hR hL
      · split at h
        · rename_i k' as rest hcal
          split at h
          · cases h
          · rename_i hcond
            split at h
            · cases h
            · rename_i o1 μ1 he
              obtain ⟨d', rfl⟩ : ∃ d', d = d' + 1 := ⟨d - 1, by omega⟩
              rw [Nat.add_sub_cancel] at he
              have hcats : jCats rest ≤ 8 := by omega
              have hcat : jCats as ≤ (jmi k').2.2.1 := by omega
              have m1 := jex_mono _ _ _ _ _ _ _ _ _ he
              have m2 := jex_mono _ _ _ _ _ _ _ _ _ h
              obtain rfl := jCal_len hcal hn'
              have hM := jMet_of ih he (jCal_lt hcal hok) hcat hB0 l
              have hrun := jrun (e := e) (R := R) (s := s) (args := args) (below := below) (meth := meth) (H := H) (locs := locs) (cells := cells) (slots := slots) (ls := ls) hcal hok hM S
                (fun a U g mk q => ⟨q.1, q.2.1.moved (State.WarmedH.refl U), q.2.2.moved (Vm.Alike.refl U.vm)⟩)
                (fun U hU hW => ⟨rfl, hK.moved hW, by rw [hU]; exact hR.moved hW.alike⟩)
                (fun b ci hcv => by
                  unfold jobC at hcv
                  split at hcv
                  · rename_i c0 f0 e0
                    have := beq_iff_eq.mp hcv
                    subst this
                    obtain ⟨q, h1, cell, h2, h3, h4, -⟩ := hR.2.2.2 b _ e0
                    refine ⟨cell, h2, by rw [h4]; rfl, ?_⟩
                    have hcl := (hK.1.1.1 _ _ h1).2.1
                    have hn2 : jclsN c0 = q.1 := by unfold jclsN; rw [h1]
                    rw [hn2, h3]
                    exact hcl
                  · cases hcv)
                hl.1 hcats ⟨by omega, by omega⟩ hd1 hd2 hdec
              refine jcall_go hrun hL (fun v1 t locs1 hal hQ hL1 => ?_)
              obtain ⟨st0, hv, hK1, hR1⟩ := hQ
              cases hv
              have e1 : cells + (μ1.2.1 - μ.2.1) + (μ'.2.1 - μ1.2.1) = cells + (μ'.2.1 - μ.2.1) := by omega
              have e2 : slots + (μ1.2.2 - μ.2.2) + (μ'.2.2 - μ1.2.2) = slots + (μ'.2.2 - μ.2.2) := by omega
              exact ih (d' + 1) k (pc + 3) L (o1.toList ++ rest) μ1 o μ' h p l e R s m args below meth c t.heap locs1 _ _ Q ls S hnm hK (hR1.moved hal.symm) hB0 hL1 hl hd1 hd2 (by rw [e1]; exact hc) (by rw [e2]; exact hs)
                (fun pc' ls' i' st' H' locs' a1 a2 a3 a4 => by rw [e1, e2]; exact hret pc' ls' i' st' H' locs' a1 a2 a3 a4)
        · split at h
          · rename_i st' hnat
            split at h
            · cases h
            · rename_i hcond
              obtain rfl := jNat_len hnat hn'
              have kk : W p l e R s m args below meth c H locs cells slots Q (F0 m (pc + 3) ls st') := ih d k (pc + 3) L st' μ o μ' h p l e R s m args below meth c H locs cells slots Q ls S hnm hK hR hB0 hL hl hd1 hd2 hc hs hret
              have hfr : 1 ≤ R.frames := by omega
              have hlo : 64 ≤ R.locals := by omega
              have hml2 : c.maxLocals = ls.size := hml.trans hl.1.symm
              simp only [jokI, Bool.and_eq_true] at hok
              obtain ⟨-, hok⟩ := hok
              cases i with
              | invokespecial x =>
                simp only [jNat] at hnat
                split at hnat
                · split at hnat
                  · rename_i s0
                    cases hnat
                    simp only [jokP] at hok
                    split at hok
                    · simp only [Bool.and_eq_true] at hok
                      have hs0 : (st'.map fun v => v.category).sum ≤ 10 := by
                        have : ¬ 10 < jCats st' := fun q => hcond (Or.inr q)
                        exact Nat.not_lt.mp this
                      refine W.objInit hx hb hown (hts _ (jw_mem hok.1.1)) (hts _ (jw_mem hok.1.2)) (hts _ (jw_mem hok.2)) rfl hml2.symm rfl hdec hfr ?_ kk
                      show 2 * 0 + _ + 12 ≤ R.locals
                      omega
                    · cases hok
                  · cases hnat
                · cases hnat
              | invokestatic x =>
                have hs0 : ¬ 10 < jCats st' := fun q => hcond (Or.inr q)
                simp only [jNat] at hnat
                split at hnat
                · split at hnat
                  · split at hnat
                    · rename_i b0 r0 hsn
                      cases hnat
                      simp only [jokS, jokN] at hok
                      split at hok
                      · simp only [Bool.and_eq_true] at hok
                        simp only [jCats, List.map_cons, List.sum_cons] at hs0
                        exact vn_l2d hx hb hml2 hown (hts _ (jw_mem hok.1.1.1)) (hts _ (jw_mem hok.1.1.2)) (hts _ (jw_mem hok.1.2)) (hts _ (jw_mem hok.2)) hsn hfr (by omega) hdec kk
                      · cases hok
                    · cases hnat
                  · cases hnat
                · split at hnat
                  · cases hnat
                    simp only [jokS, jokN] at hok
                    split at hok
                    · simp only [Bool.and_eq_true] at hok
                      simp only [jCats, List.map_cons, List.sum_cons] at hs0
                      exact vn_d2l hx hb hml2 hown (hts _ (jw_mem hok.1.1.1)) (hts _ (jw_mem hok.1.1.2)) (hts _ (jw_mem hok.1.2)) (hts _ (jw_mem hok.2)) hfr (by omega) hdec kk
                    · cases hok
                  · cases hnat
                · split at hnat
                  · split at hnat
                    · rename_i b0 r0 hsn
                      cases hnat
                      simp only [jokS, jokN] at hok
                      split at hok
                      · simp only [Bool.and_eq_true] at hok
                        simp only [jCats, List.map_cons, List.sum_cons] at hs0
                        exact vn_i2f hx hb hml2 hown (hts _ (jw_mem hok.1.1.1)) (hts _ (jw_mem hok.1.1.2)) (hts _ (jw_mem hok.1.2)) (hts _ (jw_mem hok.2)) hsn hfr (by omega) hdec kk
                      · cases hok
                    · cases hnat
                  · cases hnat
                · split at hnat
                  · cases hnat
                    simp only [jokS, jokN] at hok
                    split at hok
                    · simp only [Bool.and_eq_true] at hok
                      simp only [jCats, List.map_cons, List.sum_cons] at hs0
                      exact vn_f2i hx hb hml2 hown (hts _ (jw_mem hok.1.1.1)) (hts _ (jw_mem hok.1.1.2)) (hts _ (jw_mem hok.1.2)) (hts _ (jw_mem hok.2)) hfr (by omega) hdec kk
                    · cases hok
                  · cases hnat
                · cases hnat
              | _ => simp [jNat] at hnat
          · split at h
            · rename_i pc' L' st' μ1 hst
              have m1 := jStp_mono hst
              have m2 := jex_mono _ _ _ _ _ _ _ _ _ h
              have e1 : cells + (μ1.2.1 - μ.2.1) + (μ'.2.1 - μ1.2.1) = cells + (μ'.2.1 - μ.2.1) := by omega
              have e2 : slots + (μ1.2.2 - μ.2.2) + (μ'.2.2 - μ1.2.2) = slots + (μ'.2.2 - μ.2.2) := by omega
              have kk : ∀ (H' : Heap) (locs' : List Loc) (ls' : Array Slot), jRel D E B H0 μ1 s H' → (∀ q ∈ locs', B ≤ q.base) → lv_has ls' (jmi k).2.2.1 L' → W p l e R s m args below meth c H' locs' (cells + (μ1.2.1 - μ.2.1)) (slots + (μ1.2.2 - μ.2.2)) Q (F0 m pc' ls' st') := by
                intro H' locs' ls' hR1 hL1 hl1
                exact ih d k pc' L' st' μ1 o μ' h p l e R s m args below meth c H' locs' _ _ Q ls' S hnm hK hR1 hB0 hL1 hl1 hd1 hd2 (by rw [e1]; exact hc) (by rw [e2]; exact hs)
                  (fun pc' ls' i' st' H' locs' a1 a2 a3 a4 => by rw [e1, e2]; exact hret pc' ls' i' st' H' locs' a1 a2 a3 a4)
              unfold jStp at hst
              split at hst
              · rename_i st1 hp
                cases hst
                simp only [Nat.sub_self, Nat.add_zero] at kk
                obtain rfl := jlen_of hn' (by rintro a b c d rfl; simp [jPure] at hp)
                exact sim_pure hx hb hown hp hdec (jokI_con hok hts) (kk H locs ls hR hL hl)
              · split at hst
                · rename_i L1 st1 hp
                  cases hst
                  simp only [Nat.sub_self, Nat.add_zero] at kk
                  obtain rfl := jlen_of hn' (by rintro a b c d rfl; simp [jLcl] at hp)
                  exact sim_lcl hx hb hp hdec hl (fun ls' hl' => kk H locs ls' hR hL hl')
                · split at hst
                  · rename_i pc1 st1 hp
                    cases hst
                    simp only [Nat.sub_self, Nat.add_zero] at kk
                    exact sim_jmp hx hb hp hdec hn' (jokI_tgt hok) (kk H locs ls hR hL hl)
                  · split at hst
                    · rename_i st1 μ2 hp
                      cases hst
                      obtain rfl := jlen_of hn' (by rintro a b c d rfl; simp [jHep] at hp)
                      exact sim_hep hx hb hown hnm hts hp hdec (jokI_hep hok hts) hK.1 hR hB0 hL (by omega) (by omega) (fun H' locs' hR' hL' => kk H' locs' ls hR' hL' hl)
                    · cases hst
            · cases h
