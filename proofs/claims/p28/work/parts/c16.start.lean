/-! the law's beginning: the script copied, the class made, the first arrays -/
theorem and_mask (x : Int32) (b : Nat) (hb : b ≤ 8) : x &&& i32 (2 ^ b - 1) = i32 (x.toBitVec.toNat % 2 ^ b) := by
  have h2 : 2 ^ b ≤ 2 ^ 8 := Nat.pow_le_pow_right (by decide) hb
  have h3 := Nat.two_pow_pos b
  have hm := Nat.mod_lt x.toBitVec.toNat h3
  refine Int32.toBitVec_inj.mp (BitVec.eq_of_toNat_eq ?_)
  have e1 : (i32 (2 ^ b - 1)).toBitVec.toNat = 2 ^ b - 1 := by
    show (BitVec.ofNat 32 (2 ^ b - 1)).toNat = _
    rw [BitVec.toNat_ofNat]
    exact Nat.mod_eq_of_lt (by omega)
  have e2 : (i32 (x.toBitVec.toNat % 2 ^ b)).toBitVec.toNat = x.toBitVec.toNat % 2 ^ b := by
    show (BitVec.ofNat 32 (x.toBitVec.toNat % 2 ^ b)).toNat = _
    rw [BitVec.toNat_ofNat]
    exact Nat.mod_eq_of_lt (by omega)
  show (x.toBitVec &&& (i32 (2 ^ b - 1)).toBitVec).toNat = _
  rw [BitVec.toNat_and, e1, e2, Nat.and_two_pow_sub_one_eq_mod]
def bN (b : Nat) (x : Int32) : Nat := x.toBitVec.toNat % 2 ^ b
theorem bN_lt (b : Nat) (x : Int32) : bN b x < 2 ^ b := Nat.mod_lt _ (Nat.two_pow_pos b)
theorem and_7 (x : Int32) : x &&& (7 : Int32) = i32 (bN 3 x) := and_mask x 3 (by decide)
theorem and_3 (x : Int32) : x &&& (3 : Int32) = i32 (bN 2 x) := and_mask x 2 (by decide)
theorem and_1 (x : Int32) : x &&& (1 : Int32) = i32 (bN 1 x) := and_mask x 1 (by decide)
/-- what a cell tells of a section -/
def kdN (w : Int32) : Nat := if bN 3 w < 2 then bN 3 w else if bN 3 w = 2 then 5 else if bN 3 w = 3 then 6 else if bN 3 w = 4 then 8 else 4 + bN 3 w
def hwN (w : Int32) : Nat := bN 2 (w >>> ((3 : Int32) &&& 31)) % 3
def lmN (w : Int32) : Nat := bN 1 (w >>> ((5 : Int32) &&& 31))
def frN (w : Int32) : Nat := 1 + bN 2 (w >>> ((6 : Int32) &&& 31))
def caN (w : Int32) : Int64 := Int32.toInt64 (Int16.toInt32 (Int32.toInt16 (w >>> ((8 : Int32) &&& 31))))
def cbN (w : Int32) : Int64 := Int32.toInt64 (Int16.toInt32 (Int32.toInt16 (w >>> ((16 : Int32) &&& 31))))
theorem kdN_akd (w : Int32) : akd (kdN w) := by
  have := bN_lt 3 w
  unfold kdN akd
  generalize bN 3 w = d at *
  have hd : d < 8 := this
  clear this
  revert d
  decide
theorem hwN_le (w : Int32) : hwN w ≤ 2 := by
  have := Nat.mod_lt (bN 2 (w >>> ((3 : Int32) &&& 31))) (show 0 < 3 by decide)
  unfold hwN; omega
theorem lmN_le (w : Int32) : lmN w ≤ 1 := by
  have h : bN 1 (w >>> ((5 : Int32) &&& 31)) < 2 := bN_lt 1 _
  unfold lmN; omega
theorem frN_le (w : Int32) : 1 ≤ frN w ∧ frN w ≤ 4 := by
  have h : bN 2 (w >>> ((6 : Int32) &&& 31)) < 4 := bN_lt 2 _
  unfold frN; omega
theorem len_ok (w : Int32) : g_R_isLength (i32 (kdN w)) (i32 (frN w)) = true := by
  have h1 := kdN_akd w
  obtain ⟨h2, h3⟩ := frN_le w
  generalize kdN w = kd at *
  generalize frN w = f at *
  have hf : f = 1 ∨ f = 2 ∨ f = 3 ∨ f = 4 := by omega
  rcases h1 with e | e | e | e | e | e | e | e <;> subst e <;> rcases hf with e | e | e | e <;> subst e <;> decide
/-- the memory with the first n of the law's arrays -/
def mn (n : Nat) (C : CT) (la : Nat → Nat) (h0 : Nat → Option JCell) (V : LV) : JMem := (ovC C (lmem la V h0 n), ck C)
section START
variable {G : GT} {N M B bx k f j n L scr : Nat} {SA : Nat → Nat} {la : Nat → Nat} {S : ST} {C : CT} {V : LV} {h0 : Nat → Option JCell} {xs : Nat → Int32}
theorem alI (h : LX G B bx la n S C) (hn : n < 15) (hl : llg n = false) : ∃ la' V' C', jnA .int (i32 (lln n)) (mn n C la h0 V) = some (la' n, mn (n + 1) C' la' h0 V') ∧ LX G B bx la' (n + 1) S C' ∧ (∀ i, i < n → la' i = la i) ∧ (∀ q j, q < n → V'.1 q j = V.1 q j ∧ V'.2 q j = V.2 q j) ∧ ∀ j, V'.1 n j = 0 ∧ V'.2 n j = 0 := by
  refine ⟨up1 la n (ck C).1, vz V n, cAl C (lln n), ?_, lx_new h hn, fun i hi => if_neg (by omega), fun q j hq => ⟨if_neg (by omega), if_neg (by omega)⟩, fun j => ⟨if_pos rfl, if_pos rfl⟩⟩
  rw [show up1 la n (ck C).1 n = (ck C).1 from if_pos rfl]
  exact lx_newI h hn hl
theorem alJ (h : LX G B bx la n S C) (hn : n < 15) (hl : llg n = true) : ∃ la' V' C', jnA .long (i32 (lln n)) (mn n C la h0 V) = some (la' n, mn (n + 1) C' la' h0 V') ∧ LX G B bx la' (n + 1) S C' ∧ (∀ i, i < n → la' i = la i) ∧ (∀ q j, q < n → V'.1 q j = V.1 q j ∧ V'.2 q j = V.2 q j) ∧ ∀ j, V'.1 n j = 0 ∧ V'.2 n j = 0 := by
  refine ⟨up1 la n (ck C).1, vz V n, cAl C (lln n), ?_, lx_new h hn, fun i hi => if_neg (by omega), fun q j hq => ⟨if_neg (by omega), if_neg (by omega)⟩, fun j => ⟨if_pos rfl, if_pos rfl⟩⟩
  rw [show up1 la n (ck C).1 n = (ck C).1 from if_pos rfl]
  exact lx_newJ h hn hl
/-- the script copied -/
def ysN (L : Nat) (xs : Nat → Int32) : Nat → Int32 := fun j => if j < L ∧ j < 60 then xs j else 0
def m0 (B : Nat) (h0 : Nat → Option JCell) (V : LV) : JMem := (ovC (c00 (B + 1) 60) (lmem (fun _ => B) V h0 1), ck (c00 (B + 1) 60))
theorem m0_rd (hscr : scr < B) (hX : ∃ f, h0 scr = some (.inr (.int, L, f)) ∧ ∀ j, j < L → f j = .int (xs j)) : jal (m0 B h0 V).1 scr = some (i32 L) ∧ ∀ j, j < L → L < 2 ^ 31 → jaI (m0 B h0 V).1 scr (i32 j) = some (xs j) := by
  obtain ⟨f, h1, h2⟩ := hX
  have e : (m0 B h0 V).1 scr = some (.inr (.int, L, f)) := by
    show (if (0 : Nat) = 0 then (if scr = B then some (lcell V 0) else h0 scr) else some (ccell (c00 (B + 1) 60) scr)) = _
    rw [if_pos rfl, if_neg (by omega), h1]
  refine ⟨?_, fun j hj hL => ?_⟩
  · unfold jal; rw [e]; rfl
  · unfold jaI jaV
    rw [e]
    dsimp only
    rw [i32_nat (by omega), if_pos ⟨rfl, fun q => by
      rcases q with q | q
      · exact i32_nonneg (by omega) q
      · omega⟩]
    show jvI (f j) = _
    rw [h2 j hj]; rfl
theorem m0_pt {x : Int32} (hj : j < 60) : jpA B .int B (i32 j) (.int x) (m0 B h0 V) = some (m0 B h0 (vI V 0 j x)) :=
  l_ptI (la := fun _ => B) (n := 1) (q := 0) (C := c00 (B + 1) 60) rfl (Nat.le_refl B) (fun i j h1 h2 _ => by omega) (by decide) rfl (jrg_i32 (show j < 60 from hj) (by decide))
theorem copy_law (hscr : scr < B) (hX : ∃ f, h0 scr = some (.inr (.int, L, f)) ∧ ∀ j, j < L → f j = .int (xs j)) (hL : L < 2 ^ 31) : ∀ (q k f : Nat) (V : LV), k + q = min 60 L →
    ∃ V', g_L_law_7 N M B SA (f + 1 + q) (some scr) B (i32 k) (m0 B h0 V) = g_L_law_31 N M B SA B (m0 B h0 V') ∧ ∀ j, V'.1 0 j = if k ≤ j ∧ j < min 60 L then xs j else V.1 0 j
  | 0, k, f, V, hk => by
    refine ⟨V, ?_, fun j => (if_neg (by omega)).symm⟩
    rw [Nat.add_zero, g_L_law_7]
    by_cases e : 60 ≤ k
    · rw [if_pos (by rw [show (60 : Int32) = i32 60 from rfl, i32_le (by decide) (by omega)]; exact e)]
    · rw [if_neg (by rw [show (60 : Int32) = i32 60 from rfl, i32_le (by decide) (by omega)]; exact e), obd_some, (m0_rd hscr hX).1, obd_some, if_pos (by rw [i32_le hL (by omega)]; omega)]
  | q + 1, k, f, V, hk => by
    obtain ⟨V', u1, u2⟩ := copy_law hscr hX hL q (k + 1) f (vI V 0 k (xs k)) (by omega)
    refine ⟨V', ?_, fun j => ?_⟩
    · rw [show f + 1 + (q + 1) = (f + 1 + q) + 1 by omega, g_L_law_7, if_neg (by rw [show (60 : Int32) = i32 60 from rfl, i32_le (by decide) (by omega)]; omega), obd_some, (m0_rd hscr hX).1, obd_some, if_neg (by rw [i32_le hL (by omega)]; omega), (m0_rd hscr hX).2 k (by omega) hL, obd_some, m0_pt (by omega), obd_some, show i32 k + 1 = i32 (k + 1) from i32_add k 1]
      exact u1
    · rw [u2]
      by_cases e : j = k
      · subst e
        rw [if_neg (by omega), if_pos (by omega), vI_at]
      · by_cases e2 : k ≤ j ∧ j < min 60 L
        · rw [if_pos e2, if_pos (by omega)]
        · rw [if_neg e2, if_neg (by omega), vI_j e]
theorem lx_00 (hB : 0 < B) : LX G B (B + 1) (fun _ => B) 1 S00 (ix19 (B + 1) 60) :=
  ⟨⟨0, by decide, A00 (B + 1), jf_of (jj_00 (by decide) (fun k hk => by
    have : k ≠ 0 := fun z => by subst z; revert hk; decide
    unfold lad
    rw [if_neg this]))⟩, fun i j h1 h2 _ => by omega, fun _ _ => Nat.le_refl _, ⟨by decide, by decide⟩, fun _ _ => rfl⟩
end START
