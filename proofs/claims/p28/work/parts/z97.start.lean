/-! the claim's start as the small machine's: what is known of the state, the memory with the script and the static rows -/
theorem js_inst : ∀ (ci : Nat) (q : vw_C), jCs[ci]? = some q → Jvm.Cond.instantiable q.1 q.2.2 ∈ lw_tbl := by
  have h : jCs.all (fun q => decide (Jvm.Cond.instantiable q.1 q.2.2 ∈ lw_tbl)) = true := by decide +kernel
  exact fun ci q hq => of_decide_eq_true (List.all_eq_true.mp h q (List.mem_of_getElem? hq))
theorem js_K {args : Array Value} {s : State} (hts : ∀ w ∈ lw_tbl, w.before args s = true) : ∃ D : va_G, va_K D jCs [] s := by
  have h : ∀ k : Nat, ∃ d : ClassId × (Nat → Nat), ∀ q : vw_C, jCs[k]? = some q → u_Kn s q.1 q.2.1 q.2.2 d.1 d.2 := by
    intro k
    cases e : jCs[k]? with
    | none => exact ⟨(0, fun _ => 0), fun q hq => by cases hq⟩
    | some q =>
      obtain ⟨cC, iS, hk⟩ := u_known (n := q.2.2) hts (jC_in k q e) (hts _ (js_inst k q e))
      exact ⟨(cC, iS), fun q' hq => by cases hq; exact hk⟩
  obtain ⟨f, hf⟩ := Classical.axiomOfChoice h
  exact ⟨(fun k => (f k).1, fun k => (f k).2), fun k q hq => hf k q hq, fun k q hq => by simp at hq⟩
theorem js_arr {args : Array Value} {s : State} (hts : ∀ w ∈ lw_tbl, w.before args s = true) {ty : FieldType} (h : Jvm.Cond.arrayClass ty ∈ lw_tbl) (hr : ∀ cA, s.vm.findClass ("[" ++ ty.toString) = some cA → va_RA s cA ty) : ∃ cA : ClassId, s.vm.findClass ("[" ++ ty.toString) = some cA ∧ ArrOfT s cA ty ∧ va_RA s cA ty := by
  obtain ⟨c, k, comp, h1, h2, h3⟩ := Cond.arrayClass_spec (hts _ h)
  exact ⟨c, h1, fun n z => ⟨fun _ q => (by cases q), k, h2, comp, h3⟩, hr c h1⟩
theorem js_over {args : Array Value} {s : State} (hts : ∀ w ∈ lw_tbl, w.before args s = true) {C : String} (h : Jvm.Cond.arrayOver (.object C) ∈ lw_tbl) : ∃ cA : ClassId, s.vm.findClass ("[" ++ (FieldType.object C).toString) = some cA ∧ ArrOfT s cA (.object C) ∧ va_RA s cA (.object C) := by
  obtain ⟨comp, c, k, h1, h2, h3, h4, h5⟩ := Cond.arrayOver_spec (hts _ h)
  exact ⟨c, h5, fun n z => ⟨fun _ q => (by cases q), k, h3, comp, h4⟩, k, comp, h3, h4, h1, h5⟩
theorem js_E {args : Array Value} {s : State} (hts : ∀ w ∈ lw_tbl, w.before args s = true) : ∃ E : FieldType → ClassId, ∀ ty ∈ jAts, s.vm.findClass ("[" ++ ty.toString) = some (E ty) ∧ ArrOfT s (E ty) ty ∧ va_RA s (E ty) ty := by
  have h : ∀ ty : FieldType, ∃ c : ClassId, ty ∈ jAts → s.vm.findClass ("[" ++ ty.toString) = some c ∧ ArrOfT s c ty ∧ va_RA s c ty := by
    intro ty
    by_cases hty : ty ∈ jAts
    · suffices q : ∃ c : ClassId, s.vm.findClass ("[" ++ ty.toString) = some c ∧ ArrOfT s c ty ∧ va_RA s c ty from ⟨q.choose, fun _ => q.choose_spec⟩
      simp only [jAts, List.mem_cons, List.not_mem_nil, or_false] at hty
      rcases hty with rfl | rfl | rfl | rfl | rfl | rfl
      · exact js_arr hts (by decide +kernel) (fun _ q => q)
      · exact js_arr hts (by decide +kernel) (fun _ q => q)
      · exact js_over hts (by decide +kernel)
      · exact js_over hts (by decide +kernel)
      · exact js_over hts (by decide +kernel)
      · exact js_over hts (by decide +kernel)
    · exact ⟨0, fun q => absurd q hty⟩
  obtain ⟨E, hE⟩ := Classical.axiomOfChoice h
  exact ⟨E, hE⟩
/-- a static row: where it lies, and what stands in it -/
def jsRow (s : State) (k a : Nat) : Prop := ∃ cell : Cell, s.heap[a]? = some cell ∧ s.isArrayOf cell .int ∧ cell.vm ≠ .unknown ∧ cell.slots.size = 16 ∧ ∀ j, j < 16 → cell.slots[j]? = some (.int (sST k j))
theorem js_row {args : Array Value} {s : State} {t : Term} {k : Nat} (h1 : (Jvm.Cond.arrayOf t .int).before args s = true) (h2 : (Jvm.Cond.eq (.length t) (.int 16)).before args s = true) (h3 : ∀ j, j < 16 → (Jvm.Cond.eq (.elem t (.int (Int32.ofNat j))) (.int (sST k j))).before args s = true) : ∃ a, t.eval args s none [] s = some (.ref a) ∧ a < s.heap.size ∧ jsRow s k a := by
  obtain ⟨y, hy, hy2⟩ := Cond.eq_one h2
  obtain ⟨a, cell, e1, e2, e3⟩ := Term.length_spec hy
  obtain ⟨c1, c2, c3, -⟩ := State.arrayAt?_spec e2
  have hof := Cond.arrayOf_spec h1 e1 c1
  refine ⟨a, e1, (Array.getElem?_eq_some_iff.mp c1).1, cell, c1, hof.1, hof.2, ?_, fun j hj => ?_⟩
  · have hv : y = .int 16 := by simpa [Term.eval] using hy2.symm
    rw [hv] at e3
    have e4 : cell.slots.size.toInt32 = 16 := (Value.int.inj e3).symm
    have hlt : cell.slots.size < 2 ^ 31 := by
      simp only [Term.eval, e1, e2, Option.bind_eq_bind, Option.bind_some] at hy
      by_cases hl : cell.slots.size < 2147483648
      · exact hl
      · simp [hl] at hy
    have e5 : (Int32.ofNat cell.slots.size).toInt = 16 := by
      show (cell.slots.size.toInt32).toInt = 16
      rw [e4]; rfl
    rw [Int32.toInt_ofNat_small hlt] at e5
    omega
  · obtain ⟨v, hv, hv2⟩ := Cond.eq_one (h3 j hj)
    obtain ⟨a', j', cell', f1, f2, f3, f4, f5⟩ := Term.elem_spec hv
    cases e1.symm.trans f1
    cases e2.symm.trans f3
    have hj' : j' = Int32.ofNat j := by simpa [Term.eval] using f2.symm
    have hn : (Int32.ofNat j).toNatClampNeg = j := by
      show (Int32.ofNat j).toInt.toNat = j
      rw [Int32.toInt_ofNat_small (by omega)]; rfl
    subst hj'
    rw [hn] at f5
    rw [f5]
    have : v = .int (sST k j) := by simpa [Term.eval] using hv2.symm
    rw [this]
abbrev jsT (k : Nat) : Term := .static "FilterBench" (jsn k) "[I"
theorem js_rows {args : Array Value} {s : State} (hg : (Jvm.Cond.and given_1 narrow_1).before args s = true) : ∀ k, k < 4 → ∃ a, (jsT k).eval args s none [] s = some (.ref a) ∧ a < s.heap.size ∧ jsRow s k a := by
  have hs := flat_of_before _ hg
  have w1 : ∀ k, k < 4 → (Jvm.Cond.arrayOf (jsT k) .int) ∈ flatC (Jvm.Cond.and given_1 narrow_1) := by decide +kernel
  have w2 : ∀ k, k < 4 → (Jvm.Cond.eq (.length (jsT k)) (.int 16)) ∈ flatC (Jvm.Cond.and given_1 narrow_1) := by decide +kernel
  have w3 : ∀ k, k < 4 → ∀ j, j < 16 → (Jvm.Cond.eq (.elem (jsT k) (.int (Int32.ofNat j))) (.int (sST k j))) ∈ flatC (Jvm.Cond.and given_1 narrow_1) := by decide +kernel
  exact fun k hk => js_row (hs _ (w1 k hk)) (hs _ (w2 k hk)) (fun j hj => hs _ (w3 k hk j hj))
theorem js_SA {args : Array Value} {s : State} (hg : (Jvm.Cond.and given_1 narrow_1).before args s = true) : ∃ SA : Nat → Nat, ∀ k, k < 4 → (jsT k).eval args s none [] s = some (.ref (SA k)) ∧ SA k < s.heap.size ∧ jsRow s k (SA k) := by
  have h : ∀ k : Nat, ∃ a : Nat, k < 4 → (jsT k).eval args s none [] s = some (.ref a) ∧ a < s.heap.size ∧ jsRow s k a := by
    intro k
    by_cases hk : k < 4
    · obtain ⟨a, h⟩ := js_rows hg k hk
      exact ⟨a, fun _ => h⟩
    · exact ⟨0, fun q => absurd q hk⟩
  exact Classical.axiomOfChoice h
noncomputable def jsH (s : State) (P : Nat → Prop) : Nat → Option JCell := fun a => @ite _ (P a) (Classical.propDecidable _) ((s.heap[a]?).map (fun z => .inr (.int, z.slots.size, fun j => (z.slots[j]?).getD .null))) none
/-- what the law's run must be, for the claim -/
def jsLaw : Prop := ∀ (B L scr : Nat) (SA : Nat → Nat) (xs : Nat → Int32) (h0 : Nat → Option JCell), L ≤ 260 → scr < B → (∃ f, h0 scr = some (.inr (.int, L, f)) ∧ ∀ j, j < L → f j = .int (xs j)) → CS B SA h0 → (∀ a, h0 a ≠ none → a < B) →
  ∃ (N M : Nat) (μ9 : JMem), M ≤ 60 ∧ g_L_law N M B SA (some scr) (h0, (B, 0)) = some (true, μ9) ∧ μ9.2.1 ≤ B + 652458 ∧ μ9.2.2 ≤ 7144873
theorem js_lays : ∀ k, k < 4 → Jvm.Cond.laysStatic "FilterBench" (jsn k) "[I" ∈ lw_tbl := by decide +kernel
theorem js_ini : Jvm.Cond.initialized "FilterBench" ∈ lw_tbl := by decide +kernel
theorem js_argl {w : Jvm.Cond} (hx : jlw w = true) {A : Array Value} {U : State} (h : w.before A U = true) : w.before #[] (jatH U.heap U) = true := by
  cases w with
  | laysStatic => exact h
  | _ => cases hx
theorem jsH_of {s : State} {P : Nat → Prop} {a : Nat} {c : JCell} (h : jsH s P a = some c) : P a ∧ ∃ z, s.heap[a]? = some z ∧ c = .inr (.int, z.slots.size, fun j => (z.slots[j]?).getD .null) := by
  unfold jsH at h
  by_cases hp : P a
  · rw [if_pos hp] at h
    obtain ⟨z, hz, e⟩ := Option.map_eq_some_iff.mp h
    exact ⟨hp, z, hz, e.symm⟩
  · rw [if_neg hp] at h
    cases h
theorem jsH_at {s : State} {P : Nat → Prop} {a : Nat} (hp : P a) {z : Cell} (hz : s.heap[a]? = some z) : jsH s P a = some (.inr (.int, z.slots.size, fun j => (z.slots[j]?).getD .null)) := by
  unfold jsH
  rw [if_pos hp, hz]
  rfl
set_option maxHeartbeats 4000000 in
theorem whole_start_of (hLaw : jsLaw) {p : Program} {e : Env} {s : State} {m : MethodId} {below : List Frame} {meth : Method} {c : Code} (l : Launch) {b L : Nat} {xs : Nat → Int32} (hL : L ≤ 260) (C0 : lw_At p s m meth c b L xs) (hnm : meth.name = "law") : W p l e room_1 s m #[Value.ref b] below meth c s.heap [] 0 0 (lw_Z below #[Value.ref b] s) (entryFrame m ([Value.ref b] : List Value).toArray 46) := by
  obtain ⟨hx, hb, hr, hml, hown, hts, hX, hbl, hlocks, hgv⟩ := id C0
  obtain ⟨D, hD⟩ := js_K hts
  obtain ⟨E, hE⟩ := js_E hts
  obtain ⟨SA, hSA⟩ := js_SA hgv
  obtain ⟨scr, x1, x2, x3, x4, x5⟩ := hX
  generalize hP : (fun a : Nat => a = b ∨ ∃ k, k < 4 ∧ a = SA k) = P
  have hPa : ∀ a, P a → ∃ z : Cell, s.heap[a]? = some z ∧ s.isArrayOf z .int ∧ z.vm ≠ .unknown ∧ a < s.heap.size ∧ ∀ j, j < z.slots.size → ∃ v, z.slots[j]? = some v := by
    intro a ha
    subst hP
    rcases ha with rfl | ⟨k, hk, rfl⟩
    · exact ⟨scr, x1, x2, x3, hbl, fun j hj => ⟨_, Array.getElem?_eq_getElem hj⟩⟩
    · obtain ⟨z, h1, h2, h3, -⟩ := (hSA k hk).2.2
      exact ⟨z, h1, h2, h3, (hSA k hk).2.1, fun j hj => ⟨_, Array.getElem?_eq_getElem hj⟩⟩
  have hKn : jKn D E SA s.heap.size s.heap s := ⟨hD, hE, fun k hk => va_Zof (hts _ (js_lays k hk)) (hts _ js_ini) (hSA k hk).1 (fun a ha => Nat.not_le.mpr ha)⟩
  have hKx : jKx D E SA s.heap.size s.heap s := ⟨hKn, fun w hw hx => jx_args hx (hts w hw), fun w hw hx => js_argl hx (hts w hw)⟩
  have hRel : jRel D E s.heap.size s.heap (jsH s P, (s.heap.size, 0)) s s.heap := by
    refine ⟨rfl, Nat.le_refl _, fun _ _ => rfl, fun a cc hcc => ?_⟩
    obtain ⟨ha, z, hz, rfl⟩ := jsH_of hcc
    obtain ⟨z', h1, h2, h3, h4, h5⟩ := hPa a ha
    cases hz.symm.trans h1
    refine ⟨fun q => absurd h4 (Nat.not_lt.mpr q), z, hz, h2, h3, Nat.le_refl _, rfl, fun j hj => ?_⟩
    obtain ⟨v, hv⟩ := h5 j hj
    show z.slots[j]? = some ((z.slots[j]?).getD .null)
    rw [hv]; rfl
  have hPb : P b := by subst hP; exact Or.inl rfl
  have hPk : ∀ k, k < 4 → P (SA k) := by intro k hk; subst hP; exact Or.inr ⟨k, hk, rfl⟩
  obtain ⟨N, M, μ9, hM, hg, hc1, hc2⟩ := hLaw s.heap.size L b SA xs (jsH s P) hL hbl
    ⟨_, by rw [jsH_at hPb x1, x4], fun j hj => by rw [x5 j hj]; rfl⟩
    (fun k hk => by
      obtain ⟨z, h1, h2, h3, h4, h5⟩ := (hSA k hk).2.2
      exact ⟨(hSA k hk).2.1, z.slots.size, _, jsH_at (hPk k hk) h1, h4, fun j hj => by rw [h5 j hj]; rfl⟩)
    (fun a ha => by
      cases e : jsH s P a with
      | none => exact absurd e ha
      | some cc =>
        obtain ⟨hp, -⟩ := jsH_of e
        obtain ⟨-, -, -, -, h4, -⟩ := hPa a hp
        exact h4)
  obtain ⟨n, hn⟩ := r_L_law (d := M + 8) (Nat.le_refl _) (some b) _ _ _ hg
  have hl := lv_entry ([.ref b]) (n := 46) (Nat.le_of_ble_eq_true rfl)
  rw [lg_entry_eq]
  generalize (lg_sl ([.ref b]) ++ List.replicate (46 - (lg_sl ([.ref b])).length) Slot.unset).toArray = ls at hl ⊢
  refine jsim_all n (M + 8) m_L_law 0 (lv_args 0 [.ref b]) [] _ _ μ9 hn p l e room_1 s m #[.ref b] below meth c s.heap [] 0 0 _ ls ⟨hx, hb, hml, hown, hts⟩ hnm hKx hRel rfl (fun q hq => absurd hq List.not_mem_nil) hl (by show M + 8 ≤ 2048; omega) (by show (M + 8) * 64 ≤ 84000; omega) (by show 0 + (μ9.2.1 - s.heap.size) ≤ 652458; omega) (by show 0 + (μ9.2.2 - 0) ≤ 7144873; omega) ?_
  intro pc' ls' i st' H' locs' hdec hret hR' hL'
  have hti : i = .ireturn ∧ st' = [.int 1] := by
    have ht : (jmi m_L_law).2.2.2.1 = some .boolean := jmt_145
    rw [ht] at hret
    cases i with
    | ireturn =>
      simp only [jRet] at hret
      split at hret
      · split at hret
        · cases hret; exact ⟨rfl, rfl⟩
        · cases hret
      · cases hret
    | return_ =>
      simp only [jRet] at hret
      split at hret
      · split at hret <;> cases hret
      · cases hret
    | lreturn =>
      simp only [jRet] at hret
      split at hret
      · split at hret <;> cases hret
      · cases hret
    | dreturn =>
      simp only [jRet] at hret
      split at hret
      · split at hret <;> cases hret
      · cases hret
    | areturn => simp [jRet] at hret
    | _ => simp [jRet] at hret
  obtain ⟨rfl, rfl⟩ := hti
  refine va_forget hL' (W.widen (k := 652458) (n := 7144873) (by show 0 + (μ9.2.1 - s.heap.size) ≤ 652458; omega) (by show 0 + (μ9.2.2 - 0) ≤ 7144873; omega) ?_)
  exact lw_ret hx hb hr hlocks hdec
