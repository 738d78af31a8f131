/-! finite numbers, on both sides -/
section FINITE
variable {C : CT} {a : Nat} {f : FP.Core.Fmt}
def isFin : FP.Core.Datum → Bool
  | .fin _ _ _ => true
  | _ => false
theorem finite_of (hf : Fq f) (hp : RP f C a) {d : FP.Core.Datum} (hd : FP.Core.fits f d) : c_Real_isFinite a (ev f d) C = some (isFin d) := by
  obtain ⟨s, m, hm, he, hdec⟩ := sg_cases hf hd
  have hn := fq_n hf
  obtain ⟨k, k1, k2, k3, k4, k5, k6⟩ := fq_t hf
  have e4 : cgJ C a 5 4 = some (j64 (2 ^ 64 - es f)) := hp.2.2.2.2.2.1
  have e5 : cgJ C a 5 5 = some (j64 ((f.exps - 1) * f.tails)) := hp.2.2.2.2.2.2.1
  have hz := sg_size (s := s) hf hp hm
  unfold c_Real_sizeOf at hz
  rw [e4, obd_some] at hz
  have hz' := Option.some.inj hz
  have dg := dec_sg (s := s) hf hm
  rw [← hdec] at dg
  unfold c_Real_isFinite
  rw [he, e4, obd_some, e5, obd_some, hz', dg]
  by_cases h : (f.exps - 1) * f.tails ≤ m
  · rw [if_pos ((j64_le (by omega) (by omega)).mpr h)]
    by_cases h2 : m = (f.exps - 1) * f.tails
    · rw [if_pos h2]; rfl
    · rw [if_neg h2, if_pos (by omega)]; rfl
  · rw [if_neg (fun z => h ((j64_le (by omega) (by omega)).mp z)), if_neg (by omega), if_neg (by omega)]; rfl
theorem finite_ref {x : UInt64} : g_R_isFinite x = isFin (FP.Core.val64 x) := by
  have e1 : FP.Core.val64 0xfff0000000000000 = .inf true := by decide +kernel
  have e2 : FP.Core.val64 0x7ff0000000000000 = .inf false := by decide +kernel
  have c1 : FP.dcmp x 0xfff0000000000000 = FP.Core.order (FP.Core.val64 x) (.inf true) := by rw [← e1]; rfl
  have c2 : FP.dcmp x 0x7ff0000000000000 = FP.Core.order (FP.Core.val64 x) (.inf false) := by rw [← e2]; rfl
  unfold g_R_isFinite
  rw [c1, c2]
  cases FP.Core.val64 x with
  | nan => rfl
  | inf s => cases s <;> rfl
  | fin s c q => rfl
end FINITE
