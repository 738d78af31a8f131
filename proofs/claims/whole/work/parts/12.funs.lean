/-! the methods as typed functions (printed by wip/whole/dec.py) -/
/-! FilterBench$DeadCycles.<init>()V -/
set_option maxRecDepth 10000 in
def g_DeadCycles_init (v0 : Nat)  (μ : JMem) : Option JMem :=
  some μ
/-! FilterBench$Numbers.<init>()V -/
set_option maxRecDepth 10000 in
def g_Numbers_init (v0 : Nat)  (μ : JMem) : Option JMem :=
  some μ
/-! FilterBench$Real.<init>(II)V -/
set_option maxRecDepth 10000 in
def g_Real_init (B : Nat) (v0 : Nat) (v1 : Int32) (v2 : Int32)  (μ : JMem) : Option JMem :=
  obd (g_Numbers_init v0 μ) fun μ1 =>
  obd (jpF B 5 0 v0 (.int v1) μ1) fun μ2 =>
  obd (jpF B 5 1 v0 (.long ((1 : Int64) <<< (Int32.toInt64 v1 &&& 63))) μ2) fun μ3 =>
  obd (jpF B 5 2 v0 (.int (((1 : Int32) <<< (v2 &&& 31)) - (1 : Int32))) μ3) fun μ4 =>
  obd (jgI μ4.1 v0 5 2) fun x5 =>
  obd (jpF B 5 3 v0 (.int (x5 >>> ((1 : Int32) &&& 31))) μ4) fun μ6 =>
  obd (jpF B 5 4 v0 (.long ((-1 : Int64) <<< (Int32.toInt64 (v1 + v2) &&& 63))) μ6) fun μ7 =>
  obd (jgI μ7.1 v0 5 2) fun x8 =>
  obd (jpF B 5 5 v0 (.long ((Int32.toInt64 x8) <<< (Int32.toInt64 v1 &&& 63))) μ7) fun μ9 =>
  obd (jgJ μ9.1 v0 5 5) fun x10 =>
  obd (jgJ μ9.1 v0 5 1) fun x11 =>
  obd (jpF B 5 6 v0 (.long (x10 ||| (x11 >>> (Int32.toInt64 (1 : Int32) &&& 63)))) μ9) fun μ12 =>
  some μ12
/-! FilterBench$Shorts.<init>()V -/
set_option maxRecDepth 10000 in
def g_Shorts_init (v0 : Nat)  (μ : JMem) : Option JMem :=
  obd (g_Numbers_init v0 μ) fun μ1 =>
  some μ1
/-! FilterBench.<init>()V -/
set_option maxRecDepth 10000 in
def g_B_init (B : Nat) (v0 : Nat)  (μ : JMem) : Option JMem :=
  jnew 5 μ fun a1 μ2 =>
  obd (g_Real_init B a1 (52 : Int32) (11 : Int32) μ2) fun μ3 =>
  obd (jpF B 0 0 v0 (rv (some a1)) μ3) fun μ4 =>
  jnew 5 μ4 fun a5 μ6 =>
  obd (g_Real_init B a5 (23 : Int32) (8 : Int32) μ6) fun μ7 =>
  obd (jpF B 0 1 v0 (rv (some a5)) μ7) fun μ8 =>
  jnew 8 μ8 fun a9 μ10 =>
  obd (g_Shorts_init a9 μ10) fun μ11 =>
  obd (jpF B 0 2 v0 (rv (some a9)) μ11) fun μ12 =>
  jbd2 (jnR 7 (60 : Int32) μ12) fun a13 μ14 =>
  obd (jpF B 0 3 v0 (rv (some a13)) μ14) fun μ15 =>
  jbd2 (jnR 1 (20 : Int32) μ15) fun a16 μ17 =>
  obd (jpF B 0 5 v0 (rv (some a16)) μ17) fun μ18 =>
  jbd2 (jnR 3 (8 : Int32) μ18) fun a19 μ20 =>
  obd (jpF B 0 7 v0 (rv (some a19)) μ20) fun μ21 =>
  jbd2 (jnR 1 (20 : Int32) μ21) fun a22 μ23 =>
  obd (jpF B 0 9 v0 (rv (some a22)) μ23) fun μ24 =>
  jnew 2 μ24 fun a25 μ26 =>
  obd (g_DeadCycles_init a25 μ26) fun μ27 =>
  obd (jpF B 0 10 v0 (rv (some a25)) μ27) fun μ28 =>
  some μ28
/-! FilterBench.fitsKind(II)Z -/
set_option maxRecDepth 10000 in
def g_B_fitsKind_48 (SA : Nat → Nat)  (h : Nat → Option JCell) : Option Bool :=
  some true
set_option maxRecDepth 10000 in
def g_B_fitsKind (SA : Nat → Nat) (v0 : Int32) (v1 : Int32)  (h : Nat → Option JCell) : Option Bool :=
  if v0 < 0 then (
    some false)
  else
    obd (jal h (SA 3)) fun x1 =>
    if x1 ≤ v0 then (
      some false)
    else
      obd (jal h (SA 2)) fun x2 =>
      if v0 < x2 then (
        obd (jaI h (SA 3) v0) fun x3 =>
        if x3 = 0 then (
          g_B_fitsKind_48 SA h)
        else
          obd (jaI h (SA 2) v0) fun x4 =>
          if v1 < x4 then (
            some false)
          else
            obd (jaI h (SA 3) v0) fun x5 =>
            if x5 < v1 then (
              some false)
            else
              g_B_fitsKind_48 SA h)
      else
        some false
/-! FilterBench.isKind(I)Z -/
set_option maxRecDepth 10000 in
def g_B_isKind (SA : Nat → Nat) (v0 : Int32)  (h : Nat → Option JCell) : Option Bool :=
  if v0 < 0 then (
    some false)
  else
    obd (jal h (SA 0)) fun x1 =>
    if x1 ≤ v0 then (
      some false)
    else
      some true
/-! FilterBench$Row.<init>(I)V -/
set_option maxRecDepth 10000 in
def g_Row_init_14 (B : Nat) (s0 : Int32) (s1 : Nat)  (μ : JMem) : Option JMem :=
  jbd2 (jnA .long s0 μ) fun a1 μ2 =>
  obd (jpF B 6 0 s1 (rv (some a1)) μ2) fun μ3 =>
  some μ3
set_option maxRecDepth 10000 in
def g_Row_init (B : Nat) (v0 : Nat) (v1 : Int32)  (μ : JMem) : Option JMem :=
  if 0 ≤ v1 then (
    g_Row_init_14 B v1 v0 μ)
  else
    g_Row_init_14 B (0 : Int32) v0 μ
/-! FilterBench$Section.<init>(IIIILFilterBench$Numbers;)V -/
set_option maxRecDepth 10000 in
def g_Section_init_128 (B : Nat) (SA : Nat → Nat) (s0 : Int32) (s1 : Nat) (s2 : Nat) (s3 : Nat)  (μ : JMem) : Option JMem :=
  obd (g_Row_init B s1 s0 μ) fun μ1 =>
  obd (jpF B 7 6 s3 (rv (some s2)) μ1) fun μ2 =>
  some μ2
set_option maxRecDepth 10000 in
def g_Section_init_109 (B : Nat) (SA : Nat → Nat) (v0 : Nat) (v4 : Int32) (s0 : Int32)  (μ : JMem) : Option JMem :=
  jnew 6 μ fun a1 μ2 =>
  if 0 ≤ s0 then (
    g_Section_init_128 B SA s0 a1 a1 v0 μ2)
  else
    g_Section_init_128 B SA v4 a1 a1 v0 μ2
set_option maxRecDepth 10000 in
def g_Section_init_100 (B : Nat) (SA : Nat → Nat) (v0 : Nat) (v4 : Int32)  (μ : JMem) : Option JMem :=
  g_Section_init_109 B SA v0 v4 (0 : Int32) μ
set_option maxRecDepth 10000 in
def g_Section_init_83 (B : Nat) (SA : Nat → Nat) (v0 : Nat) (v2 : Int32) (v4 : Int32) (s0 : Int32) (s1 : Nat)  (μ : JMem) : Option JMem :=
  jbd2 (jnA .long s0 μ) fun a1 μ2 =>
  obd (jpF B 7 5 s1 (rv (some a1)) μ2) fun μ3 =>
  if v2 < 0 then (
    g_Section_init_100 B SA v0 v4 μ3)
  else
    obd (jal μ3.1 (SA 1)) fun x4 =>
    if v2 < x4 then (
      obd (jaI μ3.1 (SA 1) v2) fun x5 =>
      g_Section_init_109 B SA v0 v4 x5 μ3)
    else
      g_Section_init_100 B SA v0 v4 μ3
set_option maxRecDepth 10000 in
def g_Section_init_69 (B : Nat) (SA : Nat → Nat) (v0 : Nat) (v2 : Int32) (v4 : Int32) (s0 : Int32)  (μ : JMem) : Option JMem :=
  if 0 ≤ s0 then (
    g_Section_init_83 B SA v0 v2 v4 s0 v0 μ)
  else
    g_Section_init_83 B SA v0 v2 v4 (0 : Int32) v0 μ
set_option maxRecDepth 10000 in
def g_Section_init_60 (B : Nat) (SA : Nat → Nat) (v0 : Nat) (v2 : Int32) (v4 : Int32)  (μ : JMem) : Option JMem :=
  g_Section_init_69 B SA v0 v2 v4 (0 : Int32) μ
set_option maxRecDepth 10000 in
def g_Section_init (B : Nat) (SA : Nat → Nat) (v0 : Nat) (v1 : Int32) (v2 : Int32) (v3 : Int32) (v4 : Int32) (v5 : Option Nat)  (μ : JMem) : Option JMem :=
  jnew 6 μ fun a1 μ2 =>
  obd (g_Row_init B a1 (1 : Int32) μ2) fun μ3 =>
  obd (jpF B 7 9 v0 (rv (some a1)) μ3) fun μ4 =>
  obd (jpF B 7 13 v0 (.int (-1 : Int32)) μ4) fun μ5 =>
  obd (jpF B 7 0 v0 (.int v1) μ5) fun μ6 =>
  obd (jpF B 7 1 v0 (.int v2) μ6) fun μ7 =>
  obd (jpF B 7 2 v0 (.int v3) μ7) fun μ8 =>
  obd (jpF B 7 3 v0 (.int v4) μ8) fun μ9 =>
  obd (jpF B 7 4 v0 (rv v5) μ9) fun μ10 =>
  if v2 < 0 then (
    g_Section_init_60 B SA v0 v2 v4 μ10)
  else
    obd (jal μ10.1 (SA 0)) fun x11 =>
    if v2 < x11 then (
      obd (jaI μ10.1 (SA 0) v2) fun x12 =>
      g_Section_init_69 B SA v0 v2 v4 x12 μ10)
    else
      g_Section_init_60 B SA v0 v2 v4 μ10
/-! FilterBench.newSection(IIILFilterBench$Numbers;)LFilterBench$Section; -/
set_option maxRecDepth 10000 in
def g_B_newSection (B : Nat) (SA : Nat → Nat) (v0 : Nat) (v1 : Int32) (v2 : Int32) (v3 : Int32) (v4 : Option Nat)  (μ : JMem) : Option (Option Nat × JMem) :=
  obd (jgI μ.1 v0 0 4) fun x1 =>
  if x1 < 0 then (
    some (none, μ))
  else
    obd (jgI μ.1 v0 0 4) fun x2 =>
    obd (jgA μ.1 v0 0 3) fun x3 =>
    obd x3 fun a4 =>
    obd (jal μ.1 a4) fun x5 =>
    if x2 < x5 then (
      jnew 7 μ fun a6 μ7 =>
      obd (jgI μ7.1 v0 0 4) fun x8 =>
      obd (g_Section_init B SA a6 x8 v1 v2 v3 v4 μ7) fun μ9 =>
      obd (jgA μ9.1 v0 0 3) fun x10 =>
      obd (jgI μ9.1 v0 0 4) fun x11 =>
      obd x10 fun a12 =>
      obd (jpO B a12 x11 a6 μ9) fun μ13 =>
      obd (jgI μ13.1 v0 0 4) fun x14 =>
      obd (jpF B 0 4 v0 (.int (x14 + (1 : Int32))) μ13) fun μ15 =>
      some ((some a6), μ15))
    else
      some (none, μ)
/-! FilterBench.numbersOf(I)LFilterBench$Numbers; -/
set_option maxRecDepth 10000 in
def g_B_numbersOf (v0 : Nat) (v1 : Int32)  (h : Nat → Option JCell) : Option (Option Nat) :=
  if v1 = 0 then (
    obd (jgA h v0 0 0) fun x1 =>
    some x1)
  else
  if v1 = 1 then (
    obd (jgA h v0 0 1) fun x2 =>
    some x2)
  else
  if v1 = 2 then (
    obd (jgA h v0 0 2) fun x3 =>
    some x3)
  else
  some none
/-! FilterBench.section(III)I -/
set_option maxRecDepth 10000 in
def g_B_section (B : Nat) (SA : Nat → Nat) (v0 : Nat) (v1 : Int32) (v2 : Int32) (v3 : Int32)  (μ : JMem) : Option (Int32 × JMem) :=
  jgd (jobC 0 (μ.1 v0)) <|
  obd (g_B_numbersOf v0 v2 μ.1) fun x2 =>
  jon x2 (
    some ((-1 : Int32), μ))
  fun a3 =>
    obd (g_B_isKind SA v1 μ.1) fun x4 =>
    if x4 = true then (
      obd (g_B_fitsKind SA v1 v3 μ.1) fun x5 =>
      if x5 = true then (
        jgd (jobC 0 (μ.1 v0)) <|
        jbd2 (g_B_newSection B SA v0 v1 v2 v3 (some a3) μ) fun x7 μ8 =>
        jon x7 (
          some ((-1 : Int32), μ8))
        fun a9 =>
          obd (jgI μ8.1 a9 7 0) fun x10 =>
          some (x10, μ8))
      else
        some ((-1 : Int32), μ))
    else
      some ((-1 : Int32), μ)
/-! FilterBench.sectionAt(I)LFilterBench$Section; -/
set_option maxRecDepth 10000 in
def g_B_sectionAt_21  (h : Nat → Option JCell) : Option (Option Nat) :=
  some none
set_option maxRecDepth 10000 in
def g_B_sectionAt (v0 : Nat) (v1 : Int32)  (h : Nat → Option JCell) : Option (Option Nat) :=
  if v1 < 0 then (
    g_B_sectionAt_21 h)
  else
    obd (jgI h v0 0 4) fun x1 =>
    if x1 ≤ v1 then (
      g_B_sectionAt_21 h)
    else
      obd (jgA h v0 0 3) fun x2 =>
      obd x2 fun a3 =>
      obd (jal h a3) fun x4 =>
      if v1 < x4 then (
        obd (jgA h v0 0 3) fun x5 =>
        obd x5 fun a6 =>
        obd (jaA h a6 v1) fun x7 =>
        some x7)
      else
        g_B_sectionAt_21 h
/-! FilterBench$Real.isNumber(J)Z -/
set_option maxRecDepth 10000 in
def g_Real_isNumber (v0 : Nat) (v1 : Int64)  (h : Nat → Option JCell) : Option Bool :=
  obd (jgJ h v0 5 4) fun x1 =>
  obd (jgJ h v0 5 5) fun x2 =>
  if x2 < (v1 &&& (x1 ^^^ (-1 : Int64))) then (
    some false)
  else
    some true
/-! FilterBench$Real.clean(J)J -/
set_option maxRecDepth 10000 in
def g_Real_clean (v0 : Nat) (v1 : Int64)  (h : Nat → Option JCell) : Option Int64 :=
  jgd (jobC 5 (h v0)) <|
  obd (g_Real_isNumber v0 v1 h) fun x2 =>
  if x2 = true then (
    some v1)
  else
    obd (jgJ h v0 5 6) fun x3 =>
    some x3
/-! FilterBench$Real.holds(J)Z -/
set_option maxRecDepth 10000 in
def g_Real_holds_17  (h : Nat → Option JCell) : Option Bool :=
  some true
set_option maxRecDepth 10000 in
def g_Real_holds (v0 : Nat) (v1 : Int64)  (h : Nat → Option JCell) : Option Bool :=
  obd (jgI h v0 5 0) fun x1 =>
  if x1 = (52 : Int32) then (
    g_Real_holds_17 h)
  else
    if v1 = (Int32.toInt64 (Int64.toInt32 v1)) then (
      g_Real_holds_17 h)
    else
      some false
/-! FilterBench$Section.hasFactor(I)Z -/
set_option maxRecDepth 10000 in
def g_Section_hasFactor (v0 : Nat) (v1 : Int32)  (h : Nat → Option JCell) : Option Bool :=
  if v1 < 0 then (
    some false)
  else
    obd (jgA h v0 7 5) fun x1 =>
    obd x1 fun a2 =>
    obd (jal h a2) fun x3 =>
    if x3 ≤ v1 then (
      some false)
    else
      some true
/-! FilterBench$Section.setFactor(IJ)V -/
set_option maxRecDepth 10000 in
def g_Section_setFactor (B : Nat) (v0 : Nat) (v1 : Int32) (v2 : Int64)  (μ : JMem) : Option JMem :=
  if v1 < 0 then (
    some μ)
  else
    obd (jgA μ.1 v0 7 5) fun x1 =>
    obd x1 fun a2 =>
    obd (jal μ.1 a2) fun x3 =>
    if x3 ≤ v1 then (
      some μ)
    else
      obd (jgA μ.1 v0 7 5) fun x4 =>
      obd x4 fun a5 =>
      obd (jpA B .long a5 v1 (.long v2) μ) fun μ6 =>
      some μ6
/-! FilterBench$Shorts.clean(J)J -/
set_option maxRecDepth 10000 in
def g_Shorts_clean_e (v1 : Int64)  : Int64 :=
  v1
set_option maxRecDepth 10000 in
def g_Shorts_clean (v0 : Nat) (v1 : Int64)  : Int64 := g_Shorts_clean_e  v1
/-! FilterBench$Shorts.holds(J)Z -/
set_option maxRecDepth 10000 in
def g_Shorts_holds_e (v1 : Int64)  : Bool :=
  if v1 = (Int32.toInt64 (Int16.toInt32 (Int32.toInt16 (Int64.toInt32 v1)))) then (
    true)
  else
    false
set_option maxRecDepth 10000 in
def g_Shorts_holds (v0 : Nat) (v1 : Int64)  : Bool := g_Shorts_holds_e  v1
/-! FilterBench.coefficient(IIJ)Z -/
set_option maxRecDepth 10000 in
def g_B_coefficient (B : Nat) (v0 : Nat) (v1 : Int32) (v2 : Int32) (v3 : Int64)  (μ : JMem) : Option (Bool × JMem) :=
  jgd (jobC 0 (μ.1 v0)) <|
  obd (g_B_sectionAt v0 v1 μ.1) fun x2 =>
  jon x2 (
    some (false, μ))
  fun a3 =>
    jgd (jobC 7 (μ.1 a3)) <|
    obd (g_Section_hasFactor a3 v2 μ.1) fun x5 =>
    if x5 = true then (
      obd (jgA μ.1 a3 7 4) fun x6 =>
      obd x6 fun a7 =>
      obd (if jobC 5 (μ.1 a7) = true then g_Real_holds a7 v3 μ.1 else jgd (jobC 8 (μ.1 a7)) (some (g_Shorts_holds a7 v3))) fun x8 =>
      if x8 = true then (
        obd (jgA μ.1 a3 7 4) fun x9 =>
        obd x9 fun a10 =>
        obd (if jobC 5 (μ.1 a10) = true then g_Real_clean a10 v3 μ.1 else jgd (jobC 8 (μ.1 a10)) (some (g_Shorts_clean a10 v3))) fun x11 =>
        jgd (jobC 7 (μ.1 a3)) <|
        obd (g_Section_setFactor B a3 v2 x11 μ) fun μ13 =>
        some (true, μ13))
      else
        some (false, μ))
    else
      some (false, μ)
/-! java/lang/Math.abs(J)J -/
set_option maxRecDepth 10000 in
def g_JMath_abs (v0 : Int64)  : Int64 :=
  if (0 : Int64) ≤ v0 then (
    v0)
  else
    (-v0)
/-! FilterBench$Real.lead(J)I -/
set_option maxRecDepth 10000 in
def g_Real_lead_89 (v2 : Int64) (v4 : Int32)  : Int32 :=
  if ((v2).toUInt64 >>> (((62 : Int32)).toInt64.toUInt64 &&& Int64.toUInt64 63)).toInt64 = (0 : Int64) then (
    (v4 + (1 : Int32)))
  else
    v4
set_option maxRecDepth 10000 in
def g_Real_lead_73 (v2 : Int64) (v4 : Int32)  : Int32 :=
  if ((v2).toUInt64 >>> (((61 : Int32)).toInt64.toUInt64 &&& Int64.toUInt64 63)).toInt64 = (0 : Int64) then (
    jlet (v2 <<< (Int32.toInt64 (2 : Int32) &&& 63)) fun (v2_1 : Int64) =>
    g_Real_lead_89 v2_1 (v4 + 2))
  else
    g_Real_lead_89 v2 v4
set_option maxRecDepth 10000 in
def g_Real_lead_57 (v2 : Int64) (v4 : Int32)  : Int32 :=
  if ((v2).toUInt64 >>> (((59 : Int32)).toInt64.toUInt64 &&& Int64.toUInt64 63)).toInt64 = (0 : Int64) then (
    jlet (v2 <<< (Int32.toInt64 (4 : Int32) &&& 63)) fun (v2_1 : Int64) =>
    g_Real_lead_73 v2_1 (v4 + 4))
  else
    g_Real_lead_73 v2 v4
set_option maxRecDepth 10000 in
def g_Real_lead_40 (v2 : Int64) (v4 : Int32)  : Int32 :=
  if ((v2).toUInt64 >>> (((55 : Int32)).toInt64.toUInt64 &&& Int64.toUInt64 63)).toInt64 = (0 : Int64) then (
    jlet (v2 <<< (Int32.toInt64 (8 : Int32) &&& 63)) fun (v2_1 : Int64) =>
    g_Real_lead_57 v2_1 (v4 + 8))
  else
    g_Real_lead_57 v2 v4
set_option maxRecDepth 10000 in
def g_Real_lead_23 (v2 : Int64) (v4 : Int32)  : Int32 :=
  if ((v2).toUInt64 >>> (((47 : Int32)).toInt64.toUInt64 &&& Int64.toUInt64 63)).toInt64 = (0 : Int64) then (
    jlet (v2 <<< (Int32.toInt64 (16 : Int32) &&& 63)) fun (v2_1 : Int64) =>
    g_Real_lead_40 v2_1 (v4 + 16))
  else
    g_Real_lead_40 v2 v4
set_option maxRecDepth 10000 in
def g_Real_lead (v0 : Int64)  : Int32 :=
  if ((v0).toUInt64 >>> (((31 : Int32)).toInt64.toUInt64 &&& Int64.toUInt64 63)).toInt64 = (0 : Int64) then (
    jlet (v0 <<< (Int32.toInt64 (32 : Int32) &&& 63)) fun (v2_1 : Int64) =>
    g_Real_lead_23 v2_1 (32 : Int32))
  else
    g_Real_lead_23 v0 (0 : Int32)
/-! FilterBench$Numbers.halfEven(JI)J -/
set_option maxRecDepth 10000 in
def g_Numbers_halfEven_58 (v3 : Int64)  : Int64 :=
  (v3 + (1 : Int64))
set_option maxRecDepth 10000 in
def g_Numbers_halfEven (v0 : Int64) (v2 : Int32)  : Int64 :=
  if 0 < v2 then (
    if v2 ≤ (63 : Int32) then (
      jlet (((v0).toUInt64 >>> ((v2).toInt64.toUInt64 &&& Int64.toUInt64 63)).toInt64) fun (v3_1 : Int64) =>
      jlet (v0 &&& (((1 : Int64) <<< (Int32.toInt64 v2 &&& 63)) - (1 : Int64))) fun (v5_2 : Int64) =>
      jlet ((1 : Int64) <<< (Int32.toInt64 (v2 - (1 : Int32)) &&& 63)) fun (v7_3 : Int64) =>
      if v7_3 < v5_2 then (
        g_Numbers_halfEven_58 v3_1)
      else
        if v5_2 = v7_3 then (
          if (v3_1 &&& (1 : Int64)) = (1 : Int64) then (
            g_Numbers_halfEven_58 v3_1)
          else
            v3_1)
        else
          v3_1)
    else
      (0 : Int64))
  else
    v0
/-! FilterBench$Real.signed(ZJ)J -/
set_option maxRecDepth 10000 in
def g_Real_signed (v0 : Nat) (v1 : Bool) (v2 : Int64)  (h : Nat → Option JCell) : Option Int64 :=
  if v1 = true then (
    obd (jgJ h v0 5 4) fun x1 =>
    some (v2 ||| x1))
  else
    some v2
/-! FilterBench$Real.packed(ZIJ)J -/
set_option maxRecDepth 10000 in
def g_Real_packed_66 (v0 : Nat) (v1 : Bool) (v3 : Int64) (v5 : Int32) (v6 : Int32) (v7 : Int32)  (h : Nat → Option JCell) : Option Int64 :=
  obd (jgI h v0 5 0) fun x1 =>
  jlet (((Int32.toInt64 (v6 - (1 : Int32))) <<< (Int32.toInt64 x1 &&& 63)) + (g_Numbers_halfEven (v3 <<< (Int32.toInt64 v5 &&& 63)) v7)) fun (v8_2 : Int64) =>
  jgd (jobC 5 (h v0)) <|
  obd (g_Real_signed v0 v1 v8_2 h) fun x4 =>
  some x4
set_option maxRecDepth 10000 in
def g_Real_packed (v0 : Nat) (v1 : Bool) (v2 : Int32) (v3 : Int64)  (h : Nat → Option JCell) : Option Int64 :=
  obd (jgI h v0 5 3) fun x1 =>
  jlet (((v2 - (g_Real_lead v3)) + (62 : Int32)) + x1) fun (v6_2 : Int32) =>
  obd (jgI h v0 5 2) fun x3 =>
  if v6_2 < x3 then (
    obd (jgI h v0 5 0) fun x4 =>
    if (1 : Int32) ≤ v6_2 then (
      g_Real_packed_66 v0 v1 v3 (g_Real_lead v3) v6_2 ((62 : Int32) - x4) h)
    else
      jlet (((62 : Int32) - x4) + ((1 : Int32) - v6_2)) fun (v7_5 : Int32) =>
      g_Real_packed_66 v0 v1 v3 (g_Real_lead v3) (1 : Int32) v7_5 h)
  else
    obd (jgJ h v0 5 5) fun x6 =>
    jgd (jobC 5 (h v0)) <|
    obd (g_Real_signed v0 v1 x6 h) fun x8 =>
    some x8
/-! FilterBench$Real.divided(II)J -/
set_option maxRecDepth 10000 in
def g_Real_divided_78 (v0 : Nat) (v3 : Bool)  (h : Nat → Option JCell) : Option Int64 :=
  jgd (jobC 5 (h v0)) <|
  obd (g_Real_signed v0 v3 (0 : Int64) h) fun x2 =>
  some x2
set_option maxRecDepth 10000 in
def g_Real_divided_150 (s0 : Int64) (s1 : Int32) (s2 : Bool) (s3 : Nat)  (h : Nat → Option JCell) : Option Int64 :=
  jgd (jobC 5 (h s3)) <|
  obd (g_Real_packed s3 s2 s1 s0 h) fun x2 =>
  some x2
set_option maxRecDepth 10000 in
def g_Real_divided_26 (v0 : Nat) (v1 : Int32) (v2 : Int32) (s0 : Bool)  (h : Nat → Option JCell) : Option Int64 :=
  jlet (g_JMath_abs (Int32.toInt64 v1)) fun (v4_1 : Int64) =>
  jlet ((g_Real_lead (g_JMath_abs (Int32.toInt64 v2))) - (31 : Int32)) fun (v7_2 : Int32) =>
  jlet ((g_JMath_abs (Int32.toInt64 v2)) <<< (Int32.toInt64 v7_2 &&& 63)) fun (v8_3 : Int64) =>
  if v4_1 = (0 : Int64) then (
    g_Real_divided_78 v0 s0 h)
  else
    if v8_3 = (0 : Int64) then (
      g_Real_divided_78 v0 s0 h)
    else
      obd (jdivL (v4_1 <<< (Int32.toInt64 (g_Real_lead v4_1) &&& 63)) v8_3) fun x4 =>
      obd (jremL (v4_1 <<< (Int32.toInt64 (g_Real_lead v4_1) &&& 63)) v8_3) fun x5 =>
      jlet (x5 <<< (Int32.toInt64 (30 : Int32) &&& 63)) fun (v12_6 : Int64) =>
      obd (jdivL v12_6 v8_3) fun x7 =>
      jlet ((x4 <<< (Int32.toInt64 (30 : Int32) &&& 63)) ||| x7) fun (v14_8 : Int64) =>
      obd (jremL v12_6 v8_3) fun x9 =>
      if x9 = (0 : Int64) then (
        g_Real_divided_150 v14_8 ((v7_2 - (g_Real_lead v4_1)) - (30 : Int32)) s0 v0 h)
      else
        g_Real_divided_150 (v14_8 ||| (1 : Int64)) ((v7_2 - (g_Real_lead v4_1)) - (30 : Int32)) s0 v0 h
set_option maxRecDepth 10000 in
def g_Real_divided_18 (v0 : Nat) (v1 : Int32) (v2 : Int32) (s0 : Bool) (s1 : Bool)  (h : Nat → Option JCell) : Option Int64 :=
  if s1 = s0 then (
    g_Real_divided_26 v0 v1 v2 false h)
  else
    g_Real_divided_26 v0 v1 v2 true h
set_option maxRecDepth 10000 in
def g_Real_divided_9 (v0 : Nat) (v1 : Int32) (v2 : Int32) (s0 : Bool)  (h : Nat → Option JCell) : Option Int64 :=
  if 0 ≤ v2 then (
    g_Real_divided_18 v0 v1 v2 false s0 h)
  else
    g_Real_divided_18 v0 v1 v2 true s0 h
set_option maxRecDepth 10000 in
def g_Real_divided (v0 : Nat) (v1 : Int32) (v2 : Int32)  (h : Nat → Option JCell) : Option Int64 :=
  if 0 ≤ v1 then (
    g_Real_divided_9 v0 v1 v2 false h)
  else
    g_Real_divided_9 v0 v1 v2 true h
/-! FilterBench$Real.exponent(J)I -/
set_option maxRecDepth 10000 in
def g_Real_exponent_17 (v0 : Nat) (s0 : Int32)  (h : Nat → Option JCell) : Option Int32 :=
  obd (jgI h v0 5 3) fun x1 =>
  obd (jgI h v0 5 0) fun x2 =>
  some ((s0 - x1) - x2)
set_option maxRecDepth 10000 in
def g_Real_exponent (v0 : Nat) (v1 : Int64)  (h : Nat → Option JCell) : Option Int32 :=
  obd (jgI h v0 5 0) fun x1 =>
  jlet (Int64.toInt32 ((v1).toUInt64 >>> ((x1).toInt64.toUInt64 &&& Int64.toUInt64 63)).toInt64) fun (v3_2 : Int32) =>
  if v3_2 = 0 then (
    g_Real_exponent_17 v0 (1 : Int32) h)
  else
    g_Real_exponent_17 v0 v3_2 h
/-! FilterBench$Real.mantissa(J)J -/
set_option maxRecDepth 10000 in
def g_Real_mantissa (v0 : Nat) (v1 : Int64)  (h : Nat → Option JCell) : Option Int64 :=
  obd (jgJ h v0 5 1) fun x1 =>
  if x1 ≤ v1 then (
    obd (jgJ h v0 5 1) fun x2 =>
    obd (jgJ h v0 5 1) fun x3 =>
    some ((v1 &&& (x2 - (1 : Int64))) ||| x3))
  else
    some v1
/-! FilterBench$Real.sizeOf(J)J -/
set_option maxRecDepth 10000 in
def g_Real_sizeOf (v0 : Nat) (v1 : Int64)  (h : Nat → Option JCell) : Option Int64 :=
  obd (jgJ h v0 5 4) fun x1 =>
  some (v1 &&& (x1 ^^^ (-1 : Int64)))
/-! FilterBench$Real.taken(LFilterBench$Real;J)J -/
set_option maxRecDepth 10000 in
def g_Real_taken_66 (s0 : Int64) (s1 : Bool) (s2 : Nat)  (h : Nat → Option JCell) : Option Int64 :=
  jgd (jobC 5 (h s2)) <|
  obd (g_Real_signed s2 s1 s0 h) fun x2 =>
  some x2
set_option maxRecDepth 10000 in
def g_Real_taken_51 (v0 : Nat) (v4 : Int64) (s0 : Bool) (s1 : Nat)  (h : Nat → Option JCell) : Option Int64 :=
  if v4 = (0 : Int64) then (
    g_Real_taken_66 (0 : Int64) s0 s1 h)
  else
    obd (jgJ h v0 5 5) fun x1 =>
    g_Real_taken_66 x1 s0 s1 h
set_option maxRecDepth 10000 in
def g_Real_taken_39 (v0 : Nat) (v2 : Int64) (v4 : Int64)  (h : Nat → Option JCell) : Option Int64 :=
  if (0 : Int64) ≤ v2 then (
    g_Real_taken_51 v0 v4 false v0 h)
  else
    g_Real_taken_51 v0 v4 true v0 h
set_option maxRecDepth 10000 in
def g_Real_taken_82 (v1 : Nat) (v4 : Int64) (s0 : Bool) (s1 : Nat)  (h : Nat → Option JCell) : Option Int64 :=
  jgd (jobC 5 (h v1)) <|
  obd (g_Real_exponent v1 v4 h) fun x2 =>
  jgd (jobC 5 (h v1)) <|
  obd (g_Real_mantissa v1 v4 h) fun x4 =>
  jgd (jobC 5 (h s1)) <|
  obd (g_Real_packed s1 s0 x2 x4 h) fun x6 =>
  some x6
set_option maxRecDepth 10000 in
def g_Real_taken (v0 : Nat) (v1 : Option Nat) (v2 : Int64)  (h : Nat → Option JCell) : Option Int64 :=
  obd v1 fun a1 =>
  jgd (jobC 5 (h a1)) <|
  obd (g_Real_sizeOf a1 v2 h) fun x3 =>
  obd (jgJ h a1 5 5) fun x4 =>
  if x3 ≤ x4 then (
    if x3 = (0 : Int64) then (
      g_Real_taken_39 v0 v2 x3 h)
    else
      obd (jgJ h a1 5 5) fun x5 =>
      if x3 = x5 then (
        g_Real_taken_39 v0 v2 x3 h)
      else
        if (0 : Int64) ≤ v2 then (
          g_Real_taken_82 a1 x3 false v0 h)
        else
          g_Real_taken_82 a1 x3 true v0 h)
  else
    obd (jgJ h v0 5 6) fun x6 =>
    some x6
/-! FilterBench$Real.quotient(IIZLFilterBench$Real;)J -/
set_option maxRecDepth 10000 in
def g_Real_quotient_e (v0 : Nat) (v1 : Int32) (v2 : Int32) (v4 : Option Nat)  (h : Nat → Option JCell) : Option Int64 :=
  obd v4 fun a1 =>
  jgd (jobC 5 (h a1)) <|
  obd (g_Real_divided a1 v1 v2 h) fun x3 =>
  jgd (jobC 5 (h v0)) <|
  obd (g_Real_taken v0 (some a1) x3 h) fun x5 =>
  some x5
set_option maxRecDepth 10000 in
def g_Real_quotient (v0 : Nat) (v1 : Int32) (v2 : Int32) (v3 : Bool) (v4 : Option Nat)  (h : Nat → Option JCell) : Option Int64 := g_Real_quotient_e  v0 v1 v2 v4 h
/-! FilterBench$Section.takesWhole()Z -/
set_option maxRecDepth 10000 in
def g_Section_takesWhole_18  (h : Nat → Option JCell) : Option Bool :=
  some true
set_option maxRecDepth 10000 in
def g_Section_takesWhole (v0 : Nat)  (h : Nat → Option JCell) : Option Bool :=
  obd (jgI h v0 7 1) fun x1 =>
  if x1 = (9 : Int32) then (
    g_Section_takesWhole_18 h)
  else
    obd (jgI h v0 7 1) fun x2 =>
    if x2 = (10 : Int32) then (
      g_Section_takesWhole_18 h)
    else
      some false
/-! java/lang/Math.floorDiv(JJ)J -/
set_option maxRecDepth 10000 in
def g_JMath_floorDiv (v0 : Int64) (v2 : Int64)  : Option Int64 :=
  obd (jdivL v0 v2) fun x1 =>
  if (0 : Int64) ≤ (v0 ^^^ v2) then (
    some x1)
  else
    if (x1 * v2) = v0 then (
      some x1)
    else
      some (x1 - (1 : Int64))
/-! FilterBench$Shorts.quotient(IIZLFilterBench$Real;)J -/
set_option maxRecDepth 10000 in
def g_Shorts_quotient_93 (v9 : Int64)  : Option Int64 :=
  some (v9 + (1 : Int64))
set_option maxRecDepth 10000 in
def g_Shorts_quotient_30 (v5 : Int64) (s0 : Int32) (s1 : Int64)  : Option Int64 :=
  if v5 = (0 : Int64) then (
    some (1099511627776 : Int64))
  else
    obd (g_JMath_floorDiv (s1 * (Int32.toInt64 s0)) v5) fun x1 =>
    jlet (((s1 * (Int32.toInt64 s0)) - (x1 * v5)) * (2 : Int64)) fun (v11_2 : Int64) =>
    if v5 < v11_2 then (
      g_Shorts_quotient_93 x1)
    else
      if v11_2 = v5 then (
        if (x1 &&& (1 : Int64)) = (1 : Int64) then (
          g_Shorts_quotient_93 x1)
        else
          some x1)
      else
        some x1
set_option maxRecDepth 10000 in
def g_Shorts_quotient_19 (v3 : Bool) (v5 : Int64) (s0 : Int64)  : Option Int64 :=
  if v3 = true then (
    g_Shorts_quotient_30 v5 (1 : Int32) s0)
  else
    g_Shorts_quotient_30 v5 (16384 : Int32) s0
set_option maxRecDepth 10000 in
def g_Shorts_quotient_e (v1 : Int32) (v2 : Int32) (v3 : Bool)  : Option Int64 :=
  jlet (g_JMath_abs (Int32.toInt64 v2)) fun (v5_1 : Int64) =>
  if 0 ≤ v2 then (
    g_Shorts_quotient_19 v3 v5_1 (Int32.toInt64 v1))
  else
    g_Shorts_quotient_19 v3 v5_1 (-(Int32.toInt64 v1))
set_option maxRecDepth 10000 in
def g_Shorts_quotient (v0 : Nat) (v1 : Int32) (v2 : Int32) (v3 : Bool) (v4 : Option Nat)  : Option Int64 := g_Shorts_quotient_e  v1 v2 v3
/-! FilterBench.ratio(IIII)Z -/
set_option maxRecDepth 10000 in
def g_B_ratio (B : Nat) (v0 : Nat) (v1 : Int32) (v2 : Int32) (v3 : Int32) (v4 : Int32)  (μ : JMem) : Option (Bool × JMem) :=
  jgd (jobC 0 (μ.1 v0)) <|
  obd (g_B_sectionAt v0 v1 μ.1) fun x2 =>
  jon x2 (
    some (false, μ))
  fun a3 =>
    jgd (jobC 7 (μ.1 a3)) <|
    obd (g_Section_hasFactor a3 v2 μ.1) fun x5 =>
    if x5 = true then (
      if v4 = 0 then (
        some (false, μ))
      else
        obd (jgA μ.1 a3 7 4) fun x6 =>
        jgd (jobC 7 (μ.1 a3)) <|
        obd (g_Section_takesWhole a3 μ.1) fun x8 =>
        obd (jgA μ.1 v0 0 0) fun x9 =>
        obd x6 fun a10 =>
        obd (if jobC 5 (μ.1 a10) = true then g_Real_quotient a10 v3 v4 x8 x9 μ.1 else jgd (jobC 8 (μ.1 a10)) (g_Shorts_quotient a10 v3 v4 x8 x9)) fun x11 =>
        obd (jgA μ.1 a3 7 4) fun x12 =>
        obd x12 fun a13 =>
        obd (if jobC 5 (μ.1 a13) = true then g_Real_holds a13 x11 μ.1 else jgd (jobC 8 (μ.1 a13)) (some (g_Shorts_holds a13 x11))) fun x14 =>
        if x14 = true then (
          jgd (jobC 7 (μ.1 a3)) <|
          obd (g_Section_setFactor B a3 v2 x11 μ) fun μ16 =>
          some (true, μ16))
        else
          some (false, μ))
    else
      some (false, μ)
/-! FilterBench.rule(III)Z -/
set_option maxRecDepth 10000 in
def g_B_rule (B : Nat) (v0 : Nat) (v1 : Int32) (v2 : Int32) (v3 : Int32)  (μ : JMem) : Option (Bool × JMem) :=
  jgd (jobC 0 (μ.1 v0)) <|
  obd (g_B_sectionAt v0 v1 μ.1) fun x2 =>
  jon x2 (
    some (false, μ))
  fun a3 =>
    obd (jgI μ.1 a3 7 2) fun x4 =>
    if x4 = (2 : Int32) then (
      if v2 < 0 then (
        some (false, μ))
      else
        if (2 : Int32) < v2 then (
          some (false, μ))
        else
          if v3 < 0 then (
            some (false, μ))
          else
            if v3 ≤ (1 : Int32) then (
              obd (jpF B 7 7 a3 (.int v2) μ) fun μ5 =>
              obd (jpF B 7 8 a3 (.int v3) μ5) fun μ6 =>
              some (true, μ6))
            else
              some (false, μ))
    else
      some (false, μ)
/-! FilterBench$Row.index(I)I -/
set_option maxRecDepth 10000 in
def g_Row_index (v0 : Nat) (v1 : Int32)  (h : Nat → Option JCell) : Option Int32 :=
  obd (jgI h v0 6 1) fun x1 =>
  obd (jgA h v0 6 0) fun x2 =>
  obd x2 fun a3 =>
  obd (jal h a3) fun x4 =>
  if (x1 + v1) < x4 then (
    some (x1 + v1))
  else
    obd (jgA h v0 6 0) fun x5 =>
    obd x5 fun a6 =>
    obd (jal h a6) fun x7 =>
    some ((x1 + v1) - x7)
/-! FilterBench$Row.at(I)J -/
set_option maxRecDepth 10000 in
def g_Row_at_13  (h : Nat → Option JCell) : Option Int64 :=
  some (0 : Int64)
set_option maxRecDepth 10000 in
def g_Row_at (v0 : Nat) (v1 : Int32)  (h : Nat → Option JCell) : Option Int64 :=
  if v1 < 0 then (
    g_Row_at_13 h)
  else
    obd (jgA h v0 6 0) fun x1 =>
    obd x1 fun a2 =>
    obd (jal h a2) fun x3 =>
    if v1 < x3 then (
      obd (jgA h v0 6 0) fun x4 =>
      jgd (jobC 6 (h v0)) <|
      obd (g_Row_index v0 v1 h) fun x6 =>
      obd x4 fun a7 =>
      obd (jaJ h a7 x6) fun x8 =>
      some x8)
    else
      g_Row_at_13 h
/-! FilterBench.state(II)J -/
set_option maxRecDepth 10000 in
def g_B_state (v0 : Nat) (v1 : Int32) (v2 : Int32)  (h : Nat → Option JCell) : Option Int64 :=
  jgd (jobC 0 (h v0)) <|
  obd (g_B_sectionAt v0 v1 h) fun x2 =>
  jon x2 (
    some (0 : Int64))
  fun a3 =>
    if v2 = (100 : Int32) then (
      obd (jgA h a3 7 9) fun x4 =>
      obd x4 fun a5 =>
      jgd (jobC 6 (h a5)) <|
      obd (g_Row_at a5 (0 : Int32) h) fun x7 =>
      some x7)
    else
      obd (jgA h a3 7 6) fun x8 =>
      obd x8 fun a9 =>
      jgd (jobC 6 (h a9)) <|
      obd (g_Row_at a9 v2 h) fun x11 =>
      some x11
/-! FilterBench.numberOf(LFilterBench$Chain;)I -/
set_option maxRecDepth 10000 in
def g_B_numberOf (v0 : Option Nat)  (h : Nat → Option JCell) : Option Int32 :=
  jon v0 (
    some (-1 : Int32))
  fun a1 =>
    obd (jgI h a1 1 0) fun x2 =>
    some x2
/-! FilterBench.about(II)I -/
set_option maxRecDepth 10000 in
def g_B_about (v0 : Nat) (v1 : Int32) (v2 : Int32)  (h : Nat → Option JCell) : Option Int32 :=
  jgd (jobC 0 (h v0)) <|
  obd (g_B_sectionAt v0 v1 h) fun x2 =>
  jon x2 (
    some (-1 : Int32))
  fun a3 =>
    if v2 = 0 then (
      obd (jgI h a3 7 1) fun x4 =>
      some x4)
    else
    if v2 = 1 then (
      obd (jgI h a3 7 2) fun x5 =>
      some x5)
    else
    if v2 = 2 then (
      obd (jgI h a3 7 3) fun x6 =>
      some x6)
    else
    if v2 = 3 then (
      obd (jgA h a3 7 12) fun x7 =>
      obd (g_B_numberOf x7 h) fun x8 =>
      some x8)
    else
    if v2 = 4 then (
      obd (jgI h a3 7 13) fun x9 =>
      some x9)
    else
    if v2 = 5 then (
      obd (jgI h a3 7 10) fun x10 =>
      some x10)
    else
    if v2 = 6 then (
      obd (jgI h a3 7 11) fun x11 =>
      some x11)
    else
    if v2 = 7 then (
      obd (jgA h a3 7 14) fun x12 =>
      obd (g_B_numberOf x12 h) fun x13 =>
      some x13)
    else
    if v2 = 8 then (
      obd (jgI h a3 7 7) fun x14 =>
      some x14)
    else
    if v2 = 9 then (
      obd (jgI h a3 7 8) fun x15 =>
      some x15)
    else
    some (-1 : Int32)
/-! FilterBench$Section.factor(I)J -/
set_option maxRecDepth 10000 in
def g_Section_factor_13  (h : Nat → Option JCell) : Option Int64 :=
  some (0 : Int64)
set_option maxRecDepth 10000 in
def g_Section_factor (v0 : Nat) (v1 : Int32)  (h : Nat → Option JCell) : Option Int64 :=
  if v1 < 0 then (
    g_Section_factor_13 h)
  else
    obd (jgA h v0 7 5) fun x1 =>
    obd x1 fun a2 =>
    obd (jal h a2) fun x3 =>
    if v1 < x3 then (
      obd (jgA h v0 7 5) fun x4 =>
      obd x4 fun a5 =>
      obd (jaJ h a5 v1) fun x6 =>
      some x6)
    else
      g_Section_factor_13 h
/-! FilterBench.told(II)J -/
set_option maxRecDepth 10000 in
def g_B_told (v0 : Nat) (v1 : Int32) (v2 : Int32)  (h : Nat → Option JCell) : Option Int64 :=
  jgd (jobC 0 (h v0)) <|
  obd (g_B_sectionAt v0 v1 h) fun x2 =>
  jon x2 (
    some (0 : Int64))
  fun a3 =>
    jgd (jobC 7 (h a3)) <|
    obd (g_Section_factor a3 v2 h) fun x5 =>
    some x5
/-! FilterBench.registered(LFilterBench$Chain;)I -/
set_option maxRecDepth 10000 in
def g_B_registered (B : Nat) (v0 : Nat) (v1 : Option Nat)  (μ : JMem) : Option (Int32 × JMem) :=
  obd (jgI μ.1 v0 0 6) fun x1 =>
  if x1 < 0 then (
    some ((-1 : Int32), μ))
  else
    obd (jgI μ.1 v0 0 6) fun x2 =>
    obd (jgA μ.1 v0 0 5) fun x3 =>
    obd x3 fun a4 =>
    obd (jal μ.1 a4) fun x5 =>
    if x2 < x5 then (
      obd (jgI μ.1 v0 0 6) fun x6 =>
      obd v1 fun a7 =>
      obd (jpF B 1 0 a7 (.int x6) μ) fun μ8 =>
      obd (jgA μ8.1 v0 0 5) fun x9 =>
      obd (jgI μ8.1 v0 0 6) fun x10 =>
      obd x9 fun a11 =>
      obd (jpO B a11 x10 a7 μ8) fun μ12 =>
      obd (jgI μ12.1 v0 0 6) fun x13 =>
      obd (jpF B 0 6 v0 (.int (x13 + (1 : Int32))) μ12) fun μ14 =>
      obd (jgI μ14.1 a7 1 0) fun x15 =>
      some (x15, μ14))
    else
      some ((-1 : Int32), μ)
/-! FilterBench$Chain.<init>()V -/
set_option maxRecDepth 10000 in
def g_Chain_init (B : Nat) (v0 : Nat)  (μ : JMem) : Option JMem :=
  obd (jpF B 1 0 v0 (.int (-1 : Int32)) μ) fun μ1 =>
  jbd2 (jnR 7 (10 : Int32) μ1) fun a2 μ3 =>
  obd (jpF B 1 1 v0 (rv (some a2)) μ3) fun μ4 =>
  jbd2 (jnR 4 (3 : Int32) μ4) fun a5 μ6 =>
  obd (jpF B 1 3 v0 (rv (some a5)) μ6) fun μ7 =>
  jbd2 (jnA .long (400 : Int32) μ7) fun a8 μ9 =>
  obd (jpF B 1 5 v0 (rv (some a8)) μ9) fun μ10 =>
  some μ10
/-! FilterBench.chain()I -/
set_option maxRecDepth 10000 in
def g_B_chain (B : Nat) (v0 : Nat)  (μ : JMem) : Option (Int32 × JMem) :=
  obd (jgI μ.1 v0 0 6) fun x1 =>
  obd (jgA μ.1 v0 0 5) fun x2 =>
  obd x2 fun a3 =>
  obd (jal μ.1 a3) fun x4 =>
  if x1 < x4 then (
    jnew 1 μ fun a5 μ6 =>
    obd (g_Chain_init B a5 μ6) fun μ7 =>
    jgd (jobC 0 (μ7.1 v0)) <|
    jbd2 (g_B_registered B v0 (some a5) μ7) fun x9 μ10 =>
    some (x9, μ10))
  else
    some ((-1 : Int32), μ)
/-! FilterBench.chainAt(I)LFilterBench$Chain; -/
set_option maxRecDepth 10000 in
def g_B_chainAt_21  (h : Nat → Option JCell) : Option (Option Nat) :=
  some none
set_option maxRecDepth 10000 in
def g_B_chainAt (v0 : Nat) (v1 : Int32)  (h : Nat → Option JCell) : Option (Option Nat) :=
  if v1 < 0 then (
    g_B_chainAt_21 h)
  else
    obd (jgI h v0 0 6) fun x1 =>
    if x1 ≤ v1 then (
      g_B_chainAt_21 h)
    else
      obd (jgA h v0 0 5) fun x2 =>
      obd x2 fun a3 =>
      obd (jal h a3) fun x4 =>
      if v1 < x4 then (
        obd (jgA h v0 0 5) fun x5 =>
        obd x5 fun a6 =>
        obd (jaA h a6 v1) fun x7 =>
        some x7)
      else
        g_B_chainAt_21 h
/-! FilterBench$Chain.join(LFilterBench$Section;)V -/
set_option maxRecDepth 10000 in
def g_Chain_join (B : Nat) (v0 : Nat) (v1 : Option Nat)  (μ : JMem) : Option JMem :=
  obd (jgI μ.1 v0 1 2) fun x1 =>
  if x1 < 0 then (
    some μ)
  else
    obd (jgI μ.1 v0 1 2) fun x2 =>
    obd (jgA μ.1 v0 1 1) fun x3 =>
    obd x3 fun a4 =>
    obd (jal μ.1 a4) fun x5 =>
    if x5 ≤ x2 then (
      some μ)
    else
      obd (jgA μ.1 v0 1 1) fun x6 =>
      obd (jgI μ.1 v0 1 2) fun x7 =>
      obd v1 fun a8 =>
      obd x6 fun a9 =>
      obd (jpO B a9 x7 a8 μ) fun μ10 =>
      obd (jpF B 7 12 a8 (rv (some v0)) μ10) fun μ11 =>
      obd (jgI μ11.1 v0 1 2) fun x12 =>
      obd (jpF B 7 13 a8 (.int x12) μ11) fun μ13 =>
      obd (jgI μ13.1 v0 1 2) fun x14 =>
      obd (jpF B 1 2 v0 (.int (x14 + (1 : Int32))) μ13) fun μ15 =>
      some μ15
/-! FilterBench$Chain.memberAt(I)LFilterBench$Section; -/
set_option maxRecDepth 10000 in
def g_Chain_memberAt_21  (h : Nat → Option JCell) : Option (Option Nat) :=
  some none
set_option maxRecDepth 10000 in
def g_Chain_memberAt (v0 : Nat) (v1 : Int32)  (h : Nat → Option JCell) : Option (Option Nat) :=
  if v1 < 0 then (
    g_Chain_memberAt_21 h)
  else
    obd (jgI h v0 1 2) fun x1 =>
    if x1 ≤ v1 then (
      g_Chain_memberAt_21 h)
    else
      obd (jgA h v0 1 1) fun x2 =>
      obd x2 fun a3 =>
      obd (jal h a3) fun x4 =>
      if v1 < x4 then (
        obd (jgA h v0 1 1) fun x5 =>
        obd x5 fun a6 =>
        obd (jaA h a6 v1) fun x7 =>
        some x7)
      else
        g_Chain_memberAt_21 h
/-! FilterBench$Chain.sort()I -/
set_option maxRecDepth 10000 in
def g_Chain_sort (v0 : Nat)  (h : Nat → Option JCell) : Option Int32 :=
  jgd (jobC 1 (h v0)) <|
  obd (g_Chain_memberAt v0 (0 : Int32) h) fun x2 =>
  jon x2 (
    some (-1 : Int32))
  fun a3 =>
    obd (jgI h a3 7 2) fun x4 =>
    some x4
/-! FilterBench$Section.spreads()Z -/
set_option maxRecDepth 10000 in
def g_Section_spreads_18  (h : Nat → Option JCell) : Option Bool :=
  some true
set_option maxRecDepth 10000 in
def g_Section_spreads (v0 : Nat)  (h : Nat → Option JCell) : Option Bool :=
  obd (jgI h v0 7 1) fun x1 =>
  if x1 = (13 : Int32) then (
    g_Section_spreads_18 h)
  else
    obd (jgI h v0 7 1) fun x2 =>
    if x2 = (14 : Int32) then (
      g_Section_spreads_18 h)
    else
      some false
/-! FilterBench$Chain.spreaders()I -/
set_option maxRecDepth 10000 in
def g_Chain_spreaders_35 (N : Nat) (k4 : Nat → Int32 → Int32 → (Nat → Option JCell) → Option Int32) (v0 : Nat) (v2 : Int32) (s0 : Bool) (s1 : Int32)  (h : Nat → Option JCell) : Option Int32 :=
  k4 v0 (s1 + (jb s0)) (v2 + 1) h
set_option maxRecDepth 10000 in
def g_Chain_spreaders_34 (N : Nat) (k4 : Nat → Int32 → Int32 → (Nat → Option JCell) → Option Int32) (v0 : Nat) (v2 : Int32) (s0 : Int32)  (h : Nat → Option JCell) : Option Int32 :=
  g_Chain_spreaders_35 N k4 v0 v2 false s0 h
set_option maxRecDepth 10000 in
def g_Chain_spreaders_4 (N : Nat) : Nat → Nat → Int32 → Int32 → (Nat → Option JCell) → Option Int32
  | 0, _, _, _, _ => none
  | n + 1, v0, v1, v2, h =>
    obd (jgI h v0 1 2) fun x1 =>
    if x1 ≤ v2 then (
      some v1)
    else
      jgd (jobC 1 (h v0)) <|
      obd (g_Chain_memberAt v0 v2 h) fun x3 =>
      jon x3 (
        g_Chain_spreaders_34 N (g_Chain_spreaders_4 N n) v0 v2 v1 h)
      fun a4 =>
        jgd (jobC 7 (h a4)) <|
        obd (g_Section_spreads a4 h) fun x6 =>
        if x6 = true then (
          g_Chain_spreaders_35 N (g_Chain_spreaders_4 N n) v0 v2 true v1 h)
        else
          g_Chain_spreaders_34 N (g_Chain_spreaders_4 N n) v0 v2 v1 h
set_option maxRecDepth 10000 in
def g_Chain_spreaders (N : Nat) (v0 : Nat)  (h : Nat → Option JCell) : Option Int32 :=
  g_Chain_spreaders_4 N N v0 (0 : Int32) (0 : Int32) h
/-! FilterBench.add(II)I -/
set_option maxRecDepth 10000 in
def g_B_add_87 (N : Nat) (B : Nat) (v3 : Nat) (v4 : Nat)  (μ : JMem) : Option (Int32 × JMem) :=
  jgd (jobC 1 (μ.1 v3)) <|
  obd (g_Chain_join B v3 (some v4) μ) fun μ2 =>
  obd (jgI μ2.1 v4 7 13) fun x3 =>
  some (x3, μ2)
set_option maxRecDepth 10000 in
def g_B_add_69 (N : Nat) (B : Nat) (v3 : Nat) (v4 : Nat)  (μ : JMem) : Option (Int32 × JMem) :=
  jgd (jobC 7 (μ.1 v4)) <|
  obd (g_Section_spreads v4 μ.1) fun x2 =>
  if x2 = true then (
    jgd (jobC 1 (μ.1 v3)) <|
    obd (g_Chain_spreaders N v3 μ.1) fun x4 =>
    if x4 < (2 : Int32) then (
      g_B_add_87 N B v3 v4 μ)
    else
      some ((-1 : Int32), μ))
  else
    g_B_add_87 N B v3 v4 μ
set_option maxRecDepth 10000 in
def g_B_add (N : Nat) (B : Nat) (v0 : Nat) (v1 : Int32) (v2 : Int32)  (μ : JMem) : Option (Int32 × JMem) :=
  jgd (jobC 0 (μ.1 v0)) <|
  obd (g_B_chainAt v0 v1 μ.1) fun x2 =>
  jgd (jobC 0 (μ.1 v0)) <|
  obd (g_B_sectionAt v0 v2 μ.1) fun x4 =>
  jon x2 (
    some ((-1 : Int32), μ))
  fun a5 =>
    jon x4 (
      some ((-1 : Int32), μ))
    fun a6 =>
      obd (jgA μ.1 a6 7 12) fun x7 =>
      jon x7 (
        obd (jgA μ.1 a5 1 9) fun x9 =>
        jon x9 (
          obd (jgI μ.1 a5 1 2) fun x11 =>
          if (10 : Int32) ≤ x11 then (
            some ((-1 : Int32), μ))
          else
            obd (jgI μ.1 a5 1 2) fun x12 =>
            if x12 ≤ 0 then (
              g_B_add_69 N B a5 a6 μ)
            else
              jgd (jobC 1 (μ.1 a5)) <|
              obd (g_Chain_sort a5 μ.1) fun x14 =>
              obd (jgI μ.1 a6 7 2) fun x15 =>
              if x14 = x15 then (
                g_B_add_69 N B a5 a6 μ)
              else
                some ((-1 : Int32), μ))
        fun a10 =>
          some ((-1 : Int32), μ))
      fun a8 =>
        some ((-1 : Int32), μ)
/-! FilterBench$Section.changesRate()Z -/
set_option maxRecDepth 10000 in
def g_Section_changesRate_16  (h : Nat → Option JCell) : Option Bool :=
  some true
set_option maxRecDepth 10000 in
def g_Section_changesRate (v0 : Nat)  (h : Nat → Option JCell) : Option Bool :=
  obd (jgI h v0 7 1) fun x1 =>
  if x1 = (12 : Int32) then (
    g_Section_changesRate_16 h)
  else
    jgd (jobC 7 (h v0)) <|
    obd (g_Section_spreads v0 h) fun x3 =>
    if x3 = true then (
      g_Section_changesRate_16 h)
    else
      some false
/-! FilterBench$Chain.changesRate(II)Z -/
set_option maxRecDepth 10000 in
def g_Chain_changesRate_45 (N : Nat) (k10 : Nat → Int32 → Int32 → (Nat → Option JCell) → Option Bool) (v0 : Nat) (v2 : Int32) (v3 : Int32)  (h : Nat → Option JCell) : Option Bool :=
  k10 v0 v2 (v3 + 1) h
set_option maxRecDepth 10000 in
def g_Chain_changesRate_10 (N : Nat) : Nat → Nat → Int32 → Int32 → (Nat → Option JCell) → Option Bool
  | 0, _, _, _, _ => none
  | n + 1, v0, v2, v3, h =>
    if v2 < v3 then (
      some false)
    else
      obd (jgI h v0 1 2) fun x1 =>
      if x1 ≤ v3 then (
        some false)
      else
        jgd (jobC 1 (h v0)) <|
        obd (g_Chain_memberAt v0 v3 h) fun x3 =>
        jon x3 (
          g_Chain_changesRate_45 N (g_Chain_changesRate_10 N n) v0 v2 v3 h)
        fun a4 =>
          jgd (jobC 7 (h a4)) <|
          obd (g_Section_changesRate a4 h) fun x6 =>
          if x6 = true then (
            some true)
          else
            g_Chain_changesRate_45 N (g_Chain_changesRate_10 N n) v0 v2 v3 h
set_option maxRecDepth 10000 in
def g_Chain_changesRate_9 (N : Nat) (v0 : Nat) (v2 : Int32) (s0 : Int32)  (h : Nat → Option JCell) : Option Bool :=
  g_Chain_changesRate_10 N N v0 v2 s0 h
set_option maxRecDepth 10000 in
def g_Chain_changesRate (N : Nat) (v0 : Nat) (v1 : Int32) (v2 : Int32)  (h : Nat → Option JCell) : Option Bool :=
  if 0 ≤ v1 then (
    g_Chain_changesRate_9 N v0 v2 v1 h)
  else
    g_Chain_changesRate_9 N v0 v2 (0 : Int32) h
/-! FilterBench$Chain.tie(LFilterBench$Loop;)V -/
set_option maxRecDepth 10000 in
def g_Chain_tie (B : Nat) (v0 : Nat) (v1 : Option Nat)  (μ : JMem) : Option JMem :=
  obd (jgI μ.1 v0 1 4) fun x1 =>
  if x1 < 0 then (
    some μ)
  else
    obd (jgI μ.1 v0 1 4) fun x2 =>
    obd (jgA μ.1 v0 1 3) fun x3 =>
    obd x3 fun a4 =>
    obd (jal μ.1 a4) fun x5 =>
    if x5 ≤ x2 then (
      some μ)
    else
      obd (jgA μ.1 v0 1 3) fun x6 =>
      obd (jgI μ.1 v0 1 4) fun x7 =>
      obd v1 fun a8 =>
      obd x6 fun a9 =>
      obd (jpO B a9 x7 a8 μ) fun μ10 =>
      obd (jgI μ10.1 v0 1 4) fun x11 =>
      obd (jpF B 1 4 v0 (.int (x11 + (1 : Int32))) μ10) fun μ12 =>
      some μ12
/-! FilterBench$Loop.<init>(IIIJ)V -/
set_option maxRecDepth 10000 in
def g_Loop_init (B : Nat) (v0 : Nat) (v1 : Int32) (v2 : Int32) (v3 : Int32) (v4 : Int64)  (μ : JMem) : Option JMem :=
  obd (jpF B 4 0 v0 (.int v1) μ) fun μ1 =>
  obd (jpF B 4 1 v0 (.int v2) μ1) fun μ2 =>
  obd (jpF B 4 2 v0 (.long v4) μ2) fun μ3 =>
  jnew 6 μ3 fun a4 μ5 =>
  obd (g_Row_init B a4 v3 μ5) fun μ6 =>
  obd (jpF B 4 3 v0 (rv (some a4)) μ6) fun μ7 =>
  some μ7
/-! FilterBench.loop(IIIIJ)I -/
set_option maxRecDepth 10000 in
def g_B_loop (N : Nat) (B : Nat) (v0 : Nat) (v1 : Int32) (v2 : Int32) (v3 : Int32) (v4 : Int32) (v5 : Int64)  (μ : JMem) : Option (Int32 × JMem) :=
  jgd (jobC 0 (μ.1 v0)) <|
  obd (g_B_chainAt v0 v1 μ.1) fun x2 =>
  jon x2 (
    some ((-1 : Int32), μ))
  fun a3 =>
    obd (jgA μ.1 a3 1 9) fun x4 =>
    jon x4 (
      obd (jgI μ.1 a3 1 4) fun x6 =>
      if x6 < (3 : Int32) then (
        if v2 < 0 then (
          some ((-1 : Int32), μ))
        else
          if v3 < v2 then (
            some ((-1 : Int32), μ))
          else
            obd (jgI μ.1 a3 1 2) fun x7 =>
            if x7 ≤ v3 then (
              some ((-1 : Int32), μ))
            else
              if v4 < (1 : Int32) then (
                some ((-1 : Int32), μ))
              else
                if (64 : Int32) < v4 then (
                  some ((-1 : Int32), μ))
                else
                  jgd (jobC 1 (μ.1 a3)) <|
                  obd (g_Chain_changesRate N a3 v2 v3 μ.1) fun x9 =>
                  if x9 = true then (
                    some ((-1 : Int32), μ))
                  else
                    jgd (jobC 1 (μ.1 a3)) <|
                    obd (g_Chain_sort a3 μ.1) fun x11 =>
                    jgd (jobC 0 (μ.1 v0)) <|
                    obd (g_B_numbersOf v0 x11 μ.1) fun x13 =>
                    jon x13 (
                      some ((-1 : Int32), μ))
                    fun a14 =>
                      obd (if jobC 5 (μ.1 a14) = true then g_Real_holds a14 v5 μ.1 else jgd (jobC 8 (μ.1 a14)) (some (g_Shorts_holds a14 v5))) fun x15 =>
                      if x15 = true then (
                        jnew 4 μ fun a16 μ17 =>
                        obd (if jobC 5 (μ17.1 a14) = true then g_Real_clean a14 v5 μ17.1 else jgd (jobC 8 (μ17.1 a14)) (some (g_Shorts_clean a14 v5))) fun x18 =>
                        obd (g_Loop_init B a16 v2 v3 v4 x18 μ17) fun μ19 =>
                        jgd (jobC 1 (μ19.1 a3)) <|
                        obd (g_Chain_tie B a3 (some a16) μ19) fun μ21 =>
                        obd (jgI μ21.1 a3 1 4) fun x22 =>
                        some (x22, μ21))
                      else
                        some ((-1 : Int32), μ))
      else
        some ((-1 : Int32), μ))
    fun a5 =>
      some ((-1 : Int32), μ)
/-! FilterBench.within(II)Z -/
set_option maxRecDepth 10000 in
def g_B_within (N : Nat) (B : Nat) (v0 : Nat) (v1 : Int32) (v2 : Int32)  (μ : JMem) : Option (Bool × JMem) :=
  jgd (jobC 0 (μ.1 v0)) <|
  obd (g_B_sectionAt v0 v1 μ.1) fun x2 =>
  jgd (jobC 0 (μ.1 v0)) <|
  obd (g_B_chainAt v0 v2 μ.1) fun x4 =>
  jon x2 (
    some (false, μ))
  fun a5 =>
    jon x4 (
      some (false, μ))
    fun a6 =>
      obd (jgI μ.1 a5 7 1) fun x7 =>
      if x7 = (15 : Int32) then (
        obd (jgA μ.1 a5 7 14) fun x8 =>
        jon x8 (
          obd (jgA μ.1 a5 7 12) fun x10 =>
          jon x10 (
            some (false, μ))
          fun a11 =>
            obd (jgA μ.1 a5 7 12) fun x12 =>
            obd x12 fun a13 =>
            obd (jgI μ.1 a13 1 0) fun x14 =>
            obd (jgI μ.1 a6 1 0) fun x15 =>
            if x14 ≤ x15 then (
              some (false, μ))
            else
              obd (jgA μ.1 a6 1 9) fun x16 =>
              jon x16 (
                obd (jgI μ.1 a6 1 2) fun x18 =>
                if x18 = 0 then (
                  some (false, μ))
                else
                  jgd (jobC 1 (μ.1 a6)) <|
                  obd (g_Chain_sort a6 μ.1) fun x20 =>
                  obd (jgI μ.1 a5 7 2) fun x21 =>
                  if x20 = x21 then (
                    obd (jgI μ.1 a6 1 2) fun x22 =>
                    jgd (jobC 1 (μ.1 a6)) <|
                    obd (g_Chain_changesRate N a6 (0 : Int32) (x22 - (1 : Int32)) μ.1) fun x24 =>
                    if x24 = true then (
                      some (false, μ))
                    else
                      obd (jpF B 7 14 a5 (rv (some a6)) μ) fun μ25 =>
                      obd (jpF B 1 9 a6 (rv (some a5)) μ25) fun μ26 =>
                      some (true, μ26))
                  else
                    some (false, μ))
              fun a17 =>
                some (false, μ))
        fun a9 =>
          some (false, μ))
      else
        some (false, μ)
/-! FilterBench.chain(II)I -/
set_option maxRecDepth 10000 in
def g_B_chain_2 (v0 : Nat) (v1 : Int32) (v2 : Int32)  (h : Nat → Option JCell) : Option Int32 :=
  jgd (jobC 0 (h v0)) <|
  obd (g_B_chainAt v0 v1 h) fun x2 =>
  jon x2 (
    some (-1 : Int32))
  fun a3 =>
    if v2 = 0 then (
      obd (jgI h a3 1 2) fun x4 =>
      some x4)
    else
    if v2 = 1 then (
      obd (jgI h a3 1 4) fun x5 =>
      some x5)
    else
    if v2 = 2 then (
      obd (jgI h a3 1 8) fun x6 =>
      some x6)
    else
    if v2 = 3 then (
      obd (jgA h a3 1 9) fun x7 =>
      jon x7 (
        some (-1 : Int32))
      fun a8 =>
        obd (jgA h a3 1 9) fun x9 =>
        obd x9 fun a10 =>
        obd (jgI h a10 7 0) fun x11 =>
        some x11)
    else
    if v2 = 4 then (
      jgd (jobC 1 (h a3)) <|
      obd (g_Chain_sort a3 h) fun x13 =>
      some x13)
    else
    some (-1 : Int32)
/-! FilterBench.count(I)I -/
set_option maxRecDepth 10000 in
def g_B_count (v0 : Nat) (v1 : Int32)  (h : Nat → Option JCell) : Option Int32 :=
  if v1 = 0 then (
    obd (jgI h v0 0 4) fun x1 =>
    some x1)
  else
  if v1 = 1 then (
    obd (jgI h v0 0 6) fun x2 =>
    some x2)
  else
  if v1 = 2 then (
    obd (jgI h v0 0 8) fun x3 =>
    some x3)
  else
  some (-1 : Int32)
/-! FilterBench.fedAlone(I)LFilterBench$Chain; -/
set_option maxRecDepth 10000 in
def g_B_fedAlone_24  (h : Nat → Option JCell) : Option (Option Nat) :=
  some none
set_option maxRecDepth 10000 in
def g_B_fedAlone (v0 : Nat) (v1 : Int32)  (h : Nat → Option JCell) : Option (Option Nat) :=
  jgd (jobC 0 (h v0)) <|
  obd (g_B_chainAt v0 v1 h) fun x2 =>
  jon x2 (
    g_B_fedAlone_24 h)
  fun a3 =>
    obd (jgI h a3 1 2) fun x4 =>
    if x4 = 0 then (
      g_B_fedAlone_24 h)
    else
      obd (jgA h a3 1 9) fun x5 =>
      jon x5 (
        some (some a3))
      fun a6 =>
        g_B_fedAlone_24 h
/-! FilterBench$Chain.emit(J)V -/
set_option maxRecDepth 10000 in
def g_Chain_emit_84 (B : Nat) (v0 : Nat) (s0 : Int32) (s1 : Nat)  (μ : JMem) : Option JMem :=
  obd (jpF B 1 7 s1 (.int s0) μ) fun μ1 =>
  obd (jgI μ1.1 v0 1 8) fun x2 =>
  obd (jpF B 1 8 v0 (.int (x2 + (1 : Int32))) μ1) fun μ3 =>
  some μ3
set_option maxRecDepth 10000 in
def g_Chain_emit_55 (B : Nat) (v0 : Nat) (s0 : Int32) (s1 : Nat)  (μ : JMem) : Option JMem :=
  obd (jpF B 1 6 s1 (.int s0) μ) fun μ1 =>
  obd (jgI μ1.1 v0 1 7) fun x2 =>
  obd (jgA μ1.1 v0 1 5) fun x3 =>
  obd x3 fun a4 =>
  obd (jal μ1.1 a4) fun x5 =>
  if x5 ≤ x2 then (
    obd (jgI μ1.1 v0 1 7) fun x6 =>
    g_Chain_emit_84 B v0 x6 v0 μ1)
  else
    obd (jgI μ1.1 v0 1 7) fun x7 =>
    g_Chain_emit_84 B v0 (x7 + (1 : Int32)) v0 μ1
set_option maxRecDepth 10000 in
def g_Chain_emit (B : Nat) (v0 : Nat) (v1 : Int64)  (μ : JMem) : Option JMem :=
  obd (jgI μ.1 v0 1 6) fun x1 =>
  if x1 < 0 then (
    some μ)
  else
    obd (jgI μ.1 v0 1 6) fun x2 =>
    obd (jgA μ.1 v0 1 5) fun x3 =>
    obd x3 fun a4 =>
    obd (jal μ.1 a4) fun x5 =>
    if x2 < x5 then (
      obd (jgA μ.1 v0 1 5) fun x6 =>
      obd (jgI μ.1 v0 1 6) fun x7 =>
      obd x6 fun a8 =>
      obd (jpA B .long a8 x7 (.long v1) μ) fun μ9 =>
      obd (jgI μ9.1 v0 1 6) fun x10 =>
      obd (jgA μ9.1 v0 1 5) fun x11 =>
      obd x11 fun a12 =>
      obd (jal μ9.1 a12) fun x13 =>
      if (x10 + (1 : Int32)) < x13 then (
        obd (jgI μ9.1 v0 1 6) fun x14 =>
        g_Chain_emit_55 B v0 (x14 + (1 : Int32)) v0 μ9)
      else
        g_Chain_emit_55 B v0 (0 : Int32) v0 μ9)
    else
      some μ
/-! FilterBench$Chain.loopAt(I)LFilterBench$Loop; -/
set_option maxRecDepth 10000 in
def g_Chain_loopAt_21  (h : Nat → Option JCell) : Option (Option Nat) :=
  some none
set_option maxRecDepth 10000 in
def g_Chain_loopAt (v0 : Nat) (v1 : Int32)  (h : Nat → Option JCell) : Option (Option Nat) :=
  if v1 < 0 then (
    g_Chain_loopAt_21 h)
  else
    obd (jgI h v0 1 4) fun x1 =>
    if x1 ≤ v1 then (
      g_Chain_loopAt_21 h)
    else
      obd (jgA h v0 1 3) fun x2 =>
      obd x2 fun a3 =>
      obd (jal h a3) fun x4 =>
      if v1 < x4 then (
        obd (jgA h v0 1 3) fun x5 =>
        obd x5 fun a6 =>
        obd (jaA h a6 v1) fun x7 =>
        some x7)
      else
        g_Chain_loopAt_21 h
/-! FilterBench$Real.shifted(JI)J -/
set_option maxRecDepth 10000 in
def g_Real_shifted (v0 : Int64) (v2 : Int32)  : Int64 :=
  if 0 < v2 then (
    if v2 ≤ (62 : Int32) then (
      jlet (((v0).toUInt64 >>> ((v2).toInt64.toUInt64 &&& Int64.toUInt64 63)).toInt64) fun (v3_1 : Int64) =>
      if (v3_1 <<< (Int32.toInt64 v2 &&& 63)) = v0 then (
        v3_1)
      else
        (v3_1 ||| (1 : Int64)))
    else
      (1 : Int64))
  else
    v0
/-! FilterBench$Real.added(ZJZJ)J -/
set_option maxRecDepth 10000 in
def g_Real_added_62 (v0 : Nat) (v1 : Bool) (v7 : Int32) (s0 : Int64)  (h : Nat → Option JCell) : Option Int64 :=
  if s0 = (0 : Int64) then (
    some (0 : Int64))
  else
    jgd (jobC 5 (h v0)) <|
    obd (g_Real_packed v0 v1 (v7 - (9 : Int32)) s0 h) fun x2 =>
    some x2
set_option maxRecDepth 10000 in
def g_Real_added (v0 : Nat) (v1 : Bool) (v2 : Int64) (v4 : Bool) (v5 : Int64)  (h : Nat → Option JCell) : Option Int64 :=
  jgd (jobC 5 (h v0)) <|
  obd (g_Real_exponent v0 v2 h) fun x2 =>
  jgd (jobC 5 (h v0)) <|
  obd (g_Real_exponent v0 v5 h) fun x4 =>
  jgd (jobC 5 (h v0)) <|
  obd (g_Real_mantissa v0 v2 h) fun x6 =>
  jlet (x6 <<< (Int32.toInt64 (9 : Int32) &&& 63)) fun (v9_7 : Int64) =>
  jgd (jobC 5 (h v0)) <|
  obd (g_Real_mantissa v0 v5 h) fun x9 =>
  jlet (g_Real_shifted (x9 <<< (Int32.toInt64 (9 : Int32) &&& 63)) (x2 - x4)) fun (v11_10 : Int64) =>
  if v4 = true then (
    g_Real_added_62 v0 v1 x2 (v9_7 + v11_10) h)
  else
    g_Real_added_62 v0 v1 x2 (v9_7 - v11_10) h
/-! FilterBench$Real.withInfinity(JJ)J -/
set_option maxRecDepth 10000 in
def g_Real_withInfinity_16 (v0 : Nat)  (h : Nat → Option JCell) : Option Int64 :=
  obd (jgJ h v0 5 6) fun x1 =>
  some x1
set_option maxRecDepth 10000 in
def g_Real_withInfinity (v0 : Nat) (v1 : Int64) (v3 : Int64)  (h : Nat → Option JCell) : Option Int64 :=
  jgd (jobC 5 (h v0)) <|
  obd (g_Real_isNumber v0 v1 h) fun x2 =>
  if x2 = true then (
    jgd (jobC 5 (h v0)) <|
    obd (g_Real_isNumber v0 v3 h) fun x4 =>
    if x4 = true then (
      jgd (jobC 5 (h v0)) <|
      obd (g_Real_sizeOf v0 v1 h) fun x6 =>
      obd (jgJ h v0 5 5) fun x7 =>
      if x6 = x7 then (
        jgd (jobC 5 (h v0)) <|
        obd (g_Real_sizeOf v0 v3 h) fun x9 =>
        obd (jgJ h v0 5 5) fun x10 =>
        if x9 = x10 then (
          if v1 = v3 then (
            some v1)
          else
            obd (jgJ h v0 5 6) fun x11 =>
            some x11)
        else
          some v1)
      else
        some v3)
    else
      g_Real_withInfinity_16 v0 h)
  else
    g_Real_withInfinity_16 v0 h
/-! FilterBench$Real.plus(JJ)J -/
set_option maxRecDepth 10000 in
def g_Real_plus_34 (v0 : Nat) (v1 : Int64) (v3 : Int64)  (h : Nat → Option JCell) : Option Int64 :=
  jgd (jobC 5 (h v0)) <|
  obd (g_Real_withInfinity v0 v1 v3 h) fun x2 =>
  some x2
set_option maxRecDepth 10000 in
def g_Real_plus_55 (v1 : Int64) (v3 : Int64) (v5 : Int64) (v7 : Int64)  (h : Nat → Option JCell) : Option Int64 :=
  if v5 = (0 : Int64) then (
    if v7 = (0 : Int64) then (
      some (v1 &&& v3))
    else
      some v3)
  else
    some v1
set_option maxRecDepth 10000 in
def g_Real_plus_133 (v7 : Int64) (s0 : Bool) (s1 : Int64) (s2 : Bool) (s3 : Nat)  (h : Nat → Option JCell) : Option Int64 :=
  jgd (jobC 5 (h s3)) <|
  obd (g_Real_added s3 s2 s1 s0 v7 h) fun x2 =>
  some x2
set_option maxRecDepth 10000 in
def g_Real_plus_125 (v7 : Int64) (s0 : Bool) (s1 : Bool) (s2 : Int64) (s3 : Bool) (s4 : Nat)  (h : Nat → Option JCell) : Option Int64 :=
  if s1 = s0 then (
    g_Real_plus_133 v7 true s2 s3 s4 h)
  else
    g_Real_plus_133 v7 false s2 s3 s4 h
set_option maxRecDepth 10000 in
def g_Real_plus_114 (v3 : Int64) (v7 : Int64) (s0 : Bool) (s1 : Int64) (s2 : Bool) (s3 : Nat)  (h : Nat → Option JCell) : Option Int64 :=
  if (0 : Int64) ≤ v3 then (
    g_Real_plus_125 v7 false s0 s1 s2 s3 h)
  else
    g_Real_plus_125 v7 true s0 s1 s2 s3 h
set_option maxRecDepth 10000 in
def g_Real_plus_101 (v1 : Int64) (v3 : Int64) (v5 : Int64) (v7 : Int64) (s0 : Bool) (s1 : Nat)  (h : Nat → Option JCell) : Option Int64 :=
  if (0 : Int64) ≤ v1 then (
    g_Real_plus_114 v3 v7 false v5 s0 s1 h)
  else
    g_Real_plus_114 v3 v7 true v5 s0 s1 h
set_option maxRecDepth 10000 in
def g_Real_plus_185 (v5 : Int64) (s0 : Bool) (s1 : Int64) (s2 : Bool) (s3 : Nat)  (h : Nat → Option JCell) : Option Int64 :=
  jgd (jobC 5 (h s3)) <|
  obd (g_Real_added s3 s2 s1 s0 v5 h) fun x2 =>
  some x2
set_option maxRecDepth 10000 in
def g_Real_plus_177 (v5 : Int64) (s0 : Bool) (s1 : Bool) (s2 : Int64) (s3 : Bool) (s4 : Nat)  (h : Nat → Option JCell) : Option Int64 :=
  if s1 = s0 then (
    g_Real_plus_185 v5 true s2 s3 s4 h)
  else
    g_Real_plus_185 v5 false s2 s3 s4 h
set_option maxRecDepth 10000 in
def g_Real_plus_166 (v3 : Int64) (v5 : Int64) (s0 : Bool) (s1 : Int64) (s2 : Bool) (s3 : Nat)  (h : Nat → Option JCell) : Option Int64 :=
  if (0 : Int64) ≤ v3 then (
    g_Real_plus_177 v5 false s0 s1 s2 s3 h)
  else
    g_Real_plus_177 v5 true s0 s1 s2 s3 h
set_option maxRecDepth 10000 in
def g_Real_plus_153 (v1 : Int64) (v3 : Int64) (v5 : Int64) (v7 : Int64) (s0 : Bool) (s1 : Nat)  (h : Nat → Option JCell) : Option Int64 :=
  if (0 : Int64) ≤ v1 then (
    g_Real_plus_166 v3 v5 false v7 s0 s1 h)
  else
    g_Real_plus_166 v3 v5 true v7 s0 s1 h
set_option maxRecDepth 10000 in
def g_Real_plus (v0 : Nat) (v1 : Int64) (v3 : Int64)  (h : Nat → Option JCell) : Option Int64 :=
  jgd (jobC 5 (h v0)) <|
  obd (g_Real_sizeOf v0 v1 h) fun x2 =>
  jgd (jobC 5 (h v0)) <|
  obd (g_Real_sizeOf v0 v3 h) fun x4 =>
  obd (jgJ h v0 5 5) fun x5 =>
  if x5 ≤ x2 then (
    g_Real_plus_34 v0 v1 v3 h)
  else
    obd (jgJ h v0 5 5) fun x6 =>
    if x4 < x6 then (
      if x2 = (0 : Int64) then (
        g_Real_plus_55 v1 v3 x2 x4 h)
      else
        if x4 = (0 : Int64) then (
          g_Real_plus_55 v1 v3 x2 x4 h)
        else
          if x2 < x4 then (
            if (0 : Int64) ≤ v3 then (
              g_Real_plus_153 v1 v3 x2 x4 false v0 h)
            else
              g_Real_plus_153 v1 v3 x2 x4 true v0 h)
          else
            if (0 : Int64) ≤ v1 then (
              g_Real_plus_101 v1 v3 x2 x4 false v0 h)
            else
              g_Real_plus_101 v1 v3 x2 x4 true v0 h)
    else
      g_Real_plus_34 v0 v1 v3 h
/-! FilterBench$Real.highProduct(JJ)J -/
set_option maxRecDepth 10000 in
def g_Real_highProduct (v0 : Int64) (v2 : Int64)  : Int64 :=
  jlet (((v0).toUInt64 >>> (((27 : Int32)).toInt64.toUInt64 &&& Int64.toUInt64 63)).toInt64) fun (v4_1 : Int64) =>
  jlet (((v2).toUInt64 >>> (((27 : Int32)).toInt64.toUInt64 &&& Int64.toUInt64 63)).toInt64) fun (v8_2 : Int64) =>
  jlet ((v0 &&& (134217727 : Int64)) * (v2 &&& (134217727 : Int64))) fun (v12_3 : Int64) =>
  jlet (((v4_1 * (v2 &&& (134217727 : Int64))) + ((v0 &&& (134217727 : Int64)) * v8_2)) + ((v12_3).toUInt64 >>> (((27 : Int32)).toInt64.toUInt64 &&& Int64.toUInt64 63)).toInt64) fun (v14_4 : Int64) =>
  jlet ((v4_1 * v8_2) + ((v14_4).toUInt64 >>> (((27 : Int32)).toInt64.toUInt64 &&& Int64.toUInt64 63)).toInt64) fun (v16_5 : Int64) =>
  jlet (((v14_4 &&& (134217727 : Int64)) <<< (Int32.toInt64 (27 : Int32) &&& 63)) ||| (v12_3 &&& (134217727 : Int64))) fun (v18_6 : Int64) =>
  jlet ((v16_5 <<< (Int32.toInt64 (10 : Int32) &&& 63)) ||| ((v18_6).toUInt64 >>> (((44 : Int32)).toInt64.toUInt64 &&& Int64.toUInt64 63)).toInt64) fun (v20_7 : Int64) =>
  if (v18_6 &&& (17592186044415 : Int64)) = (0 : Int64) then (
    v20_7)
  else
    (v20_7 ||| (1 : Int64))
/-! FilterBench$Real.product(JJ)J -/
set_option maxRecDepth 10000 in
def g_Real_product_100 (v0 : Nat)  (h : Nat → Option JCell) : Option Int64 :=
  obd (jgJ h v0 5 6) fun x1 =>
  some x1
set_option maxRecDepth 10000 in
def g_Real_product_66 (v0 : Nat) (v5 : Int64) (v7 : Int64) (v9 : Bool)  (h : Nat → Option JCell) : Option Int64 :=
  obd (jgJ h v0 5 5) fun x1 =>
  if x1 < v5 then (
    g_Real_product_100 v0 h)
  else
    obd (jgJ h v0 5 5) fun x2 =>
    if x2 < v7 then (
      g_Real_product_100 v0 h)
    else
      if v5 = (0 : Int64) then (
        g_Real_product_100 v0 h)
      else
        if v7 = (0 : Int64) then (
          g_Real_product_100 v0 h)
        else
          obd (jgJ h v0 5 5) fun x3 =>
          jgd (jobC 5 (h v0)) <|
          obd (g_Real_signed v0 v9 x3 h) fun x5 =>
          some x5
set_option maxRecDepth 10000 in
def g_Real_product_132 (v0 : Nat) (v9 : Bool)  (h : Nat → Option JCell) : Option Int64 :=
  jgd (jobC 5 (h v0)) <|
  obd (g_Real_signed v0 v9 (0 : Int64) h) fun x2 =>
  some x2
set_option maxRecDepth 10000 in
def g_Real_product_44 (v0 : Nat) (v5 : Int64) (v7 : Int64) (s0 : Bool)  (h : Nat → Option JCell) : Option Int64 :=
  obd (jgJ h v0 5 5) fun x1 =>
  if x1 ≤ v5 then (
    g_Real_product_66 v0 v5 v7 s0 h)
  else
    obd (jgJ h v0 5 5) fun x2 =>
    if v7 < x2 then (
      if v5 = (0 : Int64) then (
        g_Real_product_132 v0 s0 h)
      else
        if v7 = (0 : Int64) then (
          g_Real_product_132 v0 s0 h)
        else
          jgd (jobC 5 (h v0)) <|
          obd (g_Real_mantissa v0 v5 h) fun x4 =>
          jgd (jobC 5 (h v0)) <|
          obd (g_Real_mantissa v0 v7 h) fun x6 =>
          jlet (((g_Real_lead x4) - (62 : Int32)) + (52 : Int32)) fun (v14_7 : Int32) =>
          jlet (((g_Real_lead x6) - (62 : Int32)) + (52 : Int32)) fun (v15_8 : Int32) =>
          jgd (jobC 5 (h v0)) <|
          obd (g_Real_exponent v0 v5 h) fun x10 =>
          jgd (jobC 5 (h v0)) <|
          obd (g_Real_exponent v0 v7 h) fun x12 =>
          jgd (jobC 5 (h v0)) <|
          obd (g_Real_packed v0 s0 ((((x10 - v14_7) + x12) - v15_8) + (44 : Int32)) (g_Real_highProduct (x4 <<< (Int32.toInt64 v14_7 &&& 63)) (x6 <<< (Int32.toInt64 v15_8 &&& 63))) h) fun x14 =>
          some x14)
    else
      g_Real_product_66 v0 v5 v7 s0 h
set_option maxRecDepth 10000 in
def g_Real_product_36 (v0 : Nat) (v5 : Int64) (v7 : Int64) (s0 : Bool) (s1 : Bool)  (h : Nat → Option JCell) : Option Int64 :=
  if s1 = s0 then (
    g_Real_product_44 v0 v5 v7 false h)
  else
    g_Real_product_44 v0 v5 v7 true h
set_option maxRecDepth 10000 in
def g_Real_product_25 (v0 : Nat) (v3 : Int64) (v5 : Int64) (v7 : Int64) (s0 : Bool)  (h : Nat → Option JCell) : Option Int64 :=
  if (0 : Int64) ≤ v3 then (
    g_Real_product_36 v0 v5 v7 false s0 h)
  else
    g_Real_product_36 v0 v5 v7 true s0 h
set_option maxRecDepth 10000 in
def g_Real_product (v0 : Nat) (v1 : Int64) (v3 : Int64)  (h : Nat → Option JCell) : Option Int64 :=
  jgd (jobC 5 (h v0)) <|
  obd (g_Real_sizeOf v0 v1 h) fun x2 =>
  jgd (jobC 5 (h v0)) <|
  obd (g_Real_sizeOf v0 v3 h) fun x4 =>
  if (0 : Int64) ≤ v1 then (
    g_Real_product_25 v0 v3 x2 x4 false h)
  else
    g_Real_product_25 v0 v3 x2 x4 true h
/-! FilterBench$Real.term(J)J -/
set_option maxRecDepth 10000 in
def g_Real_term_e (v1 : Int64)  : Int64 :=
  v1
set_option maxRecDepth 10000 in
def g_Real_term (v0 : Nat) (v1 : Int64)  : Int64 := g_Real_term_e  v1
/-! FilterBench$Row.put(IJ)V -/
set_option maxRecDepth 10000 in
def g_Row_put (B : Nat) (v0 : Nat) (v1 : Int32) (v2 : Int64)  (μ : JMem) : Option JMem :=
  if v1 < 0 then (
    some μ)
  else
    obd (jgA μ.1 v0 6 0) fun x1 =>
    obd x1 fun a2 =>
    obd (jal μ.1 a2) fun x3 =>
    if x3 ≤ v1 then (
      some μ)
    else
      obd (jgA μ.1 v0 6 0) fun x4 =>
      jgd (jobC 6 (μ.1 v0)) <|
      obd (g_Row_index v0 v1 μ.1) fun x6 =>
      obd x4 fun a7 =>
      obd (jpA B .long a7 x6 (.long v2) μ) fun μ8 =>
      some μ8
/-! FilterBench$Shorts.isShort(J)Z -/
set_option maxRecDepth 10000 in
def g_Shorts_isShort (v0 : Int64)  : Bool :=
  if v0 < (-32768 : Int64) then (
    false)
  else
    if (32767 : Int64) < v0 then (
      false)
    else
      true
/-! FilterBench$Shorts.cut(J)J -/
set_option maxRecDepth 10000 in
def g_Shorts_cut (v0 : Int64)  : Int64 :=
  if v0 ≤ (32767 : Int64) then (
    if (-32768 : Int64) ≤ v0 then (
      v0)
    else
      (-32768 : Int64))
  else
    (32767 : Int64)
/-! FilterBench$Shorts.limited(JI)J -/
set_option maxRecDepth 10000 in
def g_Shorts_limited (v0 : Int64) (v2 : Int32)  : Int64 :=
  if v2 = 0 then (
    (g_Shorts_cut v0))
  else
    (Int32.toInt64 (Int16.toInt32 (Int32.toInt16 (Int64.toInt32 v0))))
/-! FilterBench$Shorts.rounded(JI)J -/
set_option maxRecDepth 10000 in
def g_Shorts_rounded (v0 : Int64) (v2 : Int32)  : Int64 :=
  if v2 = 0 then (
    ((v0 + (8192 : Int64)) >>> (Int32.toInt64 (14 : Int32) &&& 63)))
  else
    (v0 / (16384 : Int64))
/-! FilterBench$Section.settled(J)J -/
set_option maxRecDepth 10000 in
def g_Section_settled_67 (B : Nat) (v0 : Nat) (v5 : Int64)  (μ : JMem) : Option (Int64 × JMem) :=
  if (g_Shorts_isShort v5) = true then (
    some (v5, μ))
  else
    obd (jgI μ.1 v0 7 10) fun x1 =>
    obd (jpF B 7 10 v0 (.int (x1 + (1 : Int32))) μ) fun μ2 =>
    obd (jgI μ2.1 v0 7 8) fun x3 =>
    some ((g_Shorts_limited v5 x3), μ2)
set_option maxRecDepth 10000 in
def g_Section_settled_32 (B : Nat) (v0 : Nat) (s0 : Int64)  (μ : JMem) : Option (Int64 × JMem) :=
  obd (jgI μ.1 v0 7 7) fun x1 =>
  obd (jgI μ.1 v0 7 7) fun x2 =>
  if x2 = (2 : Int32) then (
    obd (jgA μ.1 v0 7 9) fun x3 =>
    obd x3 fun a4 =>
    jgd (jobC 6 (μ.1 a4)) <|
    obd (g_Row_put B a4 (0 : Int32) (s0 - ((g_Shorts_rounded s0 x1) * (16384 : Int64))) μ) fun μ6 =>
    g_Section_settled_67 B v0 (g_Shorts_rounded s0 x1) μ6)
  else
    g_Section_settled_67 B v0 (g_Shorts_rounded s0 x1) μ
set_option maxRecDepth 10000 in
def g_Section_settled (B : Nat) (v0 : Nat) (v1 : Int64)  (μ : JMem) : Option (Int64 × JMem) :=
  obd (jgI μ.1 v0 7 2) fun x1 =>
  if x1 = (2 : Int32) then (
    obd (jgI μ.1 v0 7 7) fun x2 =>
    if x2 = (2 : Int32) then (
      obd (jgA μ.1 v0 7 9) fun x3 =>
      obd x3 fun a4 =>
      jgd (jobC 6 (μ.1 a4)) <|
      obd (g_Row_at a4 (0 : Int32) μ.1) fun x6 =>
      g_Section_settled_32 B v0 (v1 + x6) μ)
    else
      g_Section_settled_32 B v0 v1 μ)
  else
    some (v1, μ)
/-! FilterBench$Shorts.plus(JJ)J -/
set_option maxRecDepth 10000 in
def g_Shorts_plus_e (v1 : Int64) (v3 : Int64)  : Int64 :=
  (v1 + v3)
set_option maxRecDepth 10000 in
def g_Shorts_plus (v0 : Nat) (v1 : Int64) (v3 : Int64)  : Int64 := g_Shorts_plus_e  v1 v3
/-! FilterBench$Shorts.product(JJ)J -/
set_option maxRecDepth 10000 in
def g_Shorts_product_e (v1 : Int64) (v3 : Int64)  : Int64 :=
  (v1 * v3)
set_option maxRecDepth 10000 in
def g_Shorts_product (v0 : Nat) (v1 : Int64) (v3 : Int64)  : Int64 := g_Shorts_product_e  v1 v3
/-! FilterBench$Shorts.term(J)J -/
set_option maxRecDepth 10000 in
def g_Shorts_term_e (v1 : Int64)  : Int64 :=
  (v1 * (16384 : Int64))
set_option maxRecDepth 10000 in
def g_Shorts_term (v0 : Nat) (v1 : Int64)  : Int64 := g_Shorts_term_e  v1
/-! FilterBench$Chain.looped(ILFilterBench$Section;J)J -/
set_option maxRecDepth 10000 in
def g_Chain_looped_84 (N : Nat) (B : Nat) (k6 : Nat → Int32 → Option Nat → Int64 → Int32 → JMem → Option (Int64 × JMem)) (v0 : Nat) (v1 : Int32) (v2 : Option Nat) (v5 : Int64) (v7 : Int32)  (μ : JMem) : Option (Int64 × JMem) :=
  k6 v0 v1 v2 v5 (v7 + 1) μ
set_option maxRecDepth 10000 in
def g_Chain_looped_6 (N : Nat) (B : Nat) : Nat → Nat → Int32 → Option Nat → Int64 → Int32 → JMem → Option (Int64 × JMem)
  | 0, _, _, _, _, _, _ => none
  | n + 1, v0, v1, v2, v5, v7, μ =>
    obd (jgI μ.1 v0 1 4) fun x1 =>
    if x1 ≤ v7 then (
      some (v5, μ))
    else
      jgd (jobC 1 (μ.1 v0)) <|
      obd (g_Chain_loopAt v0 v7 μ.1) fun x3 =>
      jon x3 (
        g_Chain_looped_84 N B (g_Chain_looped_6 N B n) v0 v1 v2 v5 v7 μ)
      fun a4 =>
        obd (jgI μ.1 a4 4 0) fun x5 =>
        if x5 = v1 then (
          obd v2 fun a6 =>
          obd (jgA μ.1 a6 7 4) fun x7 =>
          obd (jgJ μ.1 a4 4 2) fun x8 =>
          obd (jgA μ.1 a4 4 3) fun x9 =>
          obd x9 fun a10 =>
          jgd (jobC 6 (μ.1 a10)) <|
          obd (g_Row_at a10 (0 : Int32) μ.1) fun x12 =>
          obd x7 fun a13 =>
          obd (if jobC 5 (μ.1 a13) = true then g_Real_product a13 x8 x12 μ.1 else jgd (jobC 8 (μ.1 a13)) (some (g_Shorts_product a13 x8 x12))) fun x14 =>
          obd (jgA μ.1 a6 7 4) fun x15 =>
          obd (jgA μ.1 a6 7 4) fun x16 =>
          obd x16 fun a17 =>
          obd (if jobC 5 (μ.1 a17) = true then some (g_Real_term a17 v5) else jgd (jobC 8 (μ.1 a17)) (some (g_Shorts_term a17 v5))) fun x18 =>
          obd x15 fun a19 =>
          obd (if jobC 5 (μ.1 a19) = true then g_Real_plus a19 x18 x14 μ.1 else jgd (jobC 8 (μ.1 a19)) (some (g_Shorts_plus a19 x18 x14))) fun x20 =>
          jgd (jobC 7 (μ.1 a6)) <|
          jbd2 (g_Section_settled B a6 x20 μ) fun x22 μ23 =>
          g_Chain_looped_84 N B (g_Chain_looped_6 N B n) v0 v1 (some a6) x22 v7 μ23)
        else
          g_Chain_looped_84 N B (g_Chain_looped_6 N B n) v0 v1 v2 v5 v7 μ
set_option maxRecDepth 10000 in
def g_Chain_looped (N : Nat) (B : Nat) (v0 : Nat) (v1 : Int32) (v2 : Option Nat) (v3 : Int64)  (μ : JMem) : Option (Int64 × JMem) :=
  g_Chain_looped_6 N B N v0 v1 v2 v3 (0 : Int32) μ
/-! FilterBench$Chain.madeBefore(I)J -/
set_option maxRecDepth 10000 in
def g_Chain_madeBefore_52  (h : Nat → Option JCell) : Option Int64 :=
  some (0 : Int64)
set_option maxRecDepth 10000 in
def g_Chain_madeBefore_38 (v0 : Nat) (s0 : Int32)  (h : Nat → Option JCell) : Option Int64 :=
  if s0 < 0 then (
    g_Chain_madeBefore_52 h)
  else
    obd (jgA h v0 1 5) fun x1 =>
    obd x1 fun a2 =>
    obd (jal h a2) fun x3 =>
    if s0 < x3 then (
      obd (jgA h v0 1 5) fun x4 =>
      obd x4 fun a5 =>
      obd (jaJ h a5 s0) fun x6 =>
      some x6)
    else
      g_Chain_madeBefore_52 h
set_option maxRecDepth 10000 in
def g_Chain_madeBefore (v0 : Nat) (v1 : Int32)  (h : Nat → Option JCell) : Option Int64 :=
  if v1 < 0 then (
    some (0 : Int64))
  else
    obd (jgI h v0 1 7) fun x1 =>
    if v1 < x1 then (
      obd (jgI h v0 1 6) fun x2 =>
      if 0 ≤ ((x2 - (1 : Int32)) - v1) then (
        g_Chain_madeBefore_38 v0 ((x2 - (1 : Int32)) - v1) h)
      else
        obd (jgA h v0 1 5) fun x3 =>
        obd x3 fun a4 =>
        obd (jal h a4) fun x5 =>
        g_Chain_madeBefore_38 v0 (((x2 - (1 : Int32)) - v1) + x5) h)
    else
      some (0 : Int64)
/-! FilterBench$Chain.madeLast()J -/
set_option maxRecDepth 10000 in
def g_Chain_madeLast (v0 : Nat)  (h : Nat → Option JCell) : Option Int64 :=
  jgd (jobC 1 (h v0)) <|
  obd (g_Chain_madeBefore v0 (0 : Int32) h) fun x2 =>
  some x2
/-! FilterBench$Row.push(J)V -/
set_option maxRecDepth 10000 in
def g_Row_push_31 (B : Nat) (s0 : Int32) (s1 : Nat)  (μ : JMem) : Option JMem :=
  obd (jpF B 6 1 s1 (.int s0) μ) fun μ1 =>
  some μ1
set_option maxRecDepth 10000 in
def g_Row_push (B : Nat) (v0 : Nat) (v1 : Int64)  (μ : JMem) : Option JMem :=
  jgd (jobC 6 (μ.1 v0)) <|
  obd (g_Row_put B v0 (0 : Int32) v1 μ) fun μ2 =>
  obd (jgI μ2.1 v0 6 1) fun x3 =>
  obd (jgA μ2.1 v0 6 0) fun x4 =>
  obd x4 fun a5 =>
  obd (jal μ2.1 a5) fun x6 =>
  if (x3 + (1 : Int32)) < x6 then (
    obd (jgI μ2.1 v0 6 1) fun x7 =>
    g_Row_push_31 B (x7 + (1 : Int32)) v0 μ2)
  else
    g_Row_push_31 B (0 : Int32) v0 μ2
/-! FilterBench$Chain.note(IJ)V -/
set_option maxRecDepth 10000 in
def g_Chain_note_43 (N : Nat) (B : Nat) (k3 : Nat → Int32 → Int64 → Int32 → JMem → Option JMem) (v0 : Nat) (v1 : Int32) (v2 : Int64) (v4 : Int32)  (μ : JMem) : Option JMem :=
  k3 v0 v1 v2 (v4 + 1) μ
set_option maxRecDepth 10000 in
def g_Chain_note_3 (N : Nat) (B : Nat) : Nat → Nat → Int32 → Int64 → Int32 → JMem → Option JMem
  | 0, _, _, _, _, _ => none
  | n + 1, v0, v1, v2, v4, μ =>
    obd (jgI μ.1 v0 1 4) fun x1 =>
    if x1 ≤ v4 then (
      some μ)
    else
      jgd (jobC 1 (μ.1 v0)) <|
      obd (g_Chain_loopAt v0 v4 μ.1) fun x3 =>
      jon x3 (
        g_Chain_note_43 N B (g_Chain_note_3 N B n) v0 v1 v2 v4 μ)
      fun a4 =>
        obd (jgI μ.1 a4 4 1) fun x5 =>
        if x5 = v1 then (
          obd (jgA μ.1 a4 4 3) fun x6 =>
          obd x6 fun a7 =>
          jgd (jobC 6 (μ.1 a7)) <|
          obd (g_Row_push B a7 v2 μ) fun μ9 =>
          g_Chain_note_43 N B (g_Chain_note_3 N B n) v0 v1 v2 v4 μ9)
        else
          g_Chain_note_43 N B (g_Chain_note_3 N B n) v0 v1 v2 v4 μ
set_option maxRecDepth 10000 in
def g_Chain_note (N : Nat) (B : Nat) (v0 : Nat) (v1 : Int32) (v2 : Int64)  (μ : JMem) : Option JMem :=
  g_Chain_note_3 N B N v0 v1 v2 (0 : Int32) μ
/-! FilterBench$Section.letsThrough()Z -/
set_option maxRecDepth 10000 in
def g_Section_letsThrough_33 (B : Nat) (v1 : Int64) (s0 : Int64) (s2 : Option Nat)  (μ : JMem) : Option (Bool × JMem) :=
  obd s2 fun a1 =>
  jgd (jobC 6 (μ.1 a1)) <|
  obd (g_Row_put B a1 (0 : Int32) s0 μ) fun μ3 =>
  if v1 = (0 : Int64) then (
    some (true, μ3))
  else
    some (false, μ3)
set_option maxRecDepth 10000 in
def g_Section_letsThrough (B : Nat) (v0 : Nat)  (μ : JMem) : Option (Bool × JMem) :=
  obd (jgA μ.1 v0 7 6) fun x1 =>
  obd x1 fun a2 =>
  jgd (jobC 6 (μ.1 a2)) <|
  obd (g_Row_at a2 (0 : Int32) μ.1) fun x4 =>
  obd (jgA μ.1 v0 7 6) fun x5 =>
  obd (jgI μ.1 v0 7 3) fun x6 =>
  if (x4 + (1 : Int64)) < (Int32.toInt64 x6) then (
    g_Section_letsThrough_33 B x4 (x4 + (1 : Int64)) x5 μ)
  else
    g_Section_letsThrough_33 B x4 (0 : Int64) x5 μ
/-! java/lang/Long.compare(JJ)I -/
set_option maxRecDepth 10000 in
def g_JLong_compare (v0 : Int64) (v2 : Int64)  : Int32 :=
  if v2 ≤ v0 then (
    if v0 = v2 then (
      (0 : Int32))
    else
      (1 : Int32))
  else
    (-1 : Int32)
/-! FilterBench$Real.compared(JJ)I -/
set_option maxRecDepth 10000 in
def g_Real_compared_32 (s0 : Int64) (s1 : Int64)  (h : Nat → Option JCell) : Option Int32 :=
  some (g_JLong_compare s1 s0)
set_option maxRecDepth 10000 in
def g_Real_compared_16 (v0 : Nat) (v3 : Int64) (s0 : Int64)  (h : Nat → Option JCell) : Option Int32 :=
  if (0 : Int64) ≤ v3 then (
    g_Real_compared_32 v3 s0 h)
  else
    jgd (jobC 5 (h v0)) <|
    obd (g_Real_sizeOf v0 v3 h) fun x2 =>
    g_Real_compared_32 (-x2) s0 h
set_option maxRecDepth 10000 in
def g_Real_compared (v0 : Nat) (v1 : Int64) (v3 : Int64)  (h : Nat → Option JCell) : Option Int32 :=
  if (0 : Int64) ≤ v1 then (
    g_Real_compared_16 v0 v3 v1 h)
  else
    jgd (jobC 5 (h v0)) <|
    obd (g_Real_sizeOf v0 v1 h) fun x2 =>
    g_Real_compared_16 v0 v3 (-x2) h
/-! FilterBench$Shorts.compared(JJ)I -/
set_option maxRecDepth 10000 in
def g_Shorts_compared_e (v1 : Int64) (v3 : Int64)  : Int32 :=
  (g_JLong_compare v1 v3)
set_option maxRecDepth 10000 in
def g_Shorts_compared (v0 : Nat) (v1 : Int64) (v3 : Int64)  : Int32 := g_Shorts_compared_e  v1 v3
/-! FilterBench$Shorts.isNumber(J)Z -/
set_option maxRecDepth 10000 in
def g_Shorts_isNumber_e  : Bool :=
  true
set_option maxRecDepth 10000 in
def g_Shorts_isNumber (v0 : Nat) (v1 : Int64)  : Bool := g_Shorts_isNumber_e  
/-! FilterBench$Numbers.above(JJ)Z -/
set_option maxRecDepth 10000 in
def g_Numbers_above (v0 : Nat) (v1 : Int64) (v3 : Int64)  (h : Nat → Option JCell) : Option Bool :=
  obd (if jobC 5 (h v0) = true then g_Real_isNumber v0 v1 h else jgd (jobC 8 (h v0)) (some (g_Shorts_isNumber v0 v1))) fun x1 =>
  if x1 = true then (
    obd (if jobC 5 (h v0) = true then g_Real_isNumber v0 v3 h else jgd (jobC 8 (h v0)) (some (g_Shorts_isNumber v0 v3))) fun x2 =>
    if x2 = true then (
      obd (if jobC 5 (h v0) = true then g_Real_compared v0 v1 v3 h else jgd (jobC 8 (h v0)) (some (g_Shorts_compared v0 v1 v3))) fun x3 =>
      if x3 ≤ 0 then (
        some false)
      else
        some true)
    else
      some false)
  else
    some false
/-! FilterBench$Real.negative(J)J -/
set_option maxRecDepth 10000 in
def g_Real_negative (v0 : Nat) (v1 : Int64)  (h : Nat → Option JCell) : Option Int64 :=
  jgd (jobC 5 (h v0)) <|
  obd (g_Real_isNumber v0 v1 h) fun x2 =>
  if x2 = true then (
    obd (jgJ h v0 5 4) fun x3 =>
    some (v1 ^^^ x3))
  else
    obd (jgJ h v0 5 6) fun x4 =>
    some x4
/-! FilterBench$Shorts.negative(J)J -/
set_option maxRecDepth 10000 in
def g_Shorts_negative_e (v1 : Int64)  : Int64 :=
  (g_Shorts_cut (-v1))
set_option maxRecDepth 10000 in
def g_Shorts_negative (v0 : Nat) (v1 : Int64)  : Int64 := g_Shorts_negative_e  v1
/-! FilterBench$Section.clipped(J)J -/
set_option maxRecDepth 10000 in
def g_Section_clipped (B : Nat) (v0 : Nat) (v1 : Int64)  (μ : JMem) : Option (Int64 × JMem) :=
  jgd (jobC 7 (μ.1 v0)) <|
  obd (g_Section_factor v0 (0 : Int32) μ.1) fun x2 =>
  obd (jgA μ.1 v0 7 4) fun x3 =>
  obd x3 fun a4 =>
  obd (if jobC 5 (μ.1 a4) = true then g_Numbers_above a4 v1 x2 μ.1 else jgd (jobC 8 (μ.1 a4)) (g_Numbers_above a4 v1 x2 μ.1)) fun x5 =>
  if x5 = true then (
    obd (jgI μ.1 v0 7 11) fun x6 =>
    obd (jpF B 7 11 v0 (.int (x6 + (1 : Int32))) μ) fun μ7 =>
    some (x2, μ7))
  else
    obd (jgA μ.1 v0 7 4) fun x8 =>
    obd x8 fun a9 =>
    obd (if jobC 5 (μ.1 a9) = true then g_Real_negative a9 x2 μ.1 else jgd (jobC 8 (μ.1 a9)) (some (g_Shorts_negative a9 x2))) fun x10 =>
    obd (jgA μ.1 v0 7 4) fun x11 =>
    obd x11 fun a12 =>
    obd (if jobC 5 (μ.1 a12) = true then g_Numbers_above a12 x10 v1 μ.1 else jgd (jobC 8 (μ.1 a12)) (g_Numbers_above a12 x10 v1 μ.1)) fun x13 =>
    if x13 = true then (
      obd (jgI μ.1 v0 7 11) fun x14 =>
      obd (jpF B 7 11 v0 (.int (x14 + (1 : Int32))) μ) fun μ15 =>
      some (x10, μ15))
    else
      some (v1, μ)
/-! FilterBench$Section.times(IJ)J -/
set_option maxRecDepth 10000 in
def g_Section_times (v0 : Nat) (v1 : Int32) (v2 : Int64)  (h : Nat → Option JCell) : Option Int64 :=
  obd (jgA h v0 7 4) fun x1 =>
  jgd (jobC 7 (h v0)) <|
  obd (g_Section_factor v0 v1 h) fun x3 =>
  obd x1 fun a4 =>
  obd (if jobC 5 (h a4) = true then g_Real_product a4 x3 v2 h else jgd (jobC 8 (h a4)) (some (g_Shorts_product a4 x3 v2))) fun x5 =>
  some x5
/-! FilterBench$Section.comb(J)J -/
set_option maxRecDepth 10000 in
def g_Section_comb (B : Nat) (v0 : Nat) (v1 : Int64)  (μ : JMem) : Option (Int64 × JMem) :=
  obd (jgA μ.1 v0 7 4) fun x1 =>
  obd (jgA μ.1 v0 7 4) fun x2 =>
  obd x2 fun a3 =>
  obd (if jobC 5 (μ.1 a3) = true then some (g_Real_term a3 v1) else jgd (jobC 8 (μ.1 a3)) (some (g_Shorts_term a3 v1))) fun x4 =>
  obd (jgA μ.1 v0 7 6) fun x5 =>
  obd x5 fun a6 =>
  jgd (jobC 6 (μ.1 a6)) <|
  obd (g_Row_at a6 (0 : Int32) μ.1) fun x8 =>
  jgd (jobC 7 (μ.1 v0)) <|
  obd (g_Section_times v0 (0 : Int32) x8 μ.1) fun x10 =>
  obd x1 fun a11 =>
  obd (if jobC 5 (μ.1 a11) = true then g_Real_plus a11 x4 x10 μ.1 else jgd (jobC 8 (μ.1 a11)) (some (g_Shorts_plus a11 x4 x10))) fun x12 =>
  jgd (jobC 7 (μ.1 v0)) <|
  jbd2 (g_Section_settled B v0 x12 μ) fun x14 μ15 =>
  obd (jgA μ15.1 v0 7 6) fun x16 =>
  obd x16 fun a17 =>
  jgd (jobC 6 (μ15.1 a17)) <|
  obd (g_Row_push B a17 x14 μ15) fun μ19 =>
  some (x14, μ19)
/-! FilterBench$Shorts.sizeOf(J)J -/
set_option maxRecDepth 10000 in
def g_Shorts_sizeOf (v0 : Nat) (v1 : Int64)  (h : Nat → Option JCell) : Option Int64 :=
  if (0 : Int64) ≤ v1 then (
    some v1)
  else
    jgd (jobC 8 (h v0)) <|
    some (g_Shorts_negative v0 v1)
/-! FilterBench$Section.deadened(J)J -/
set_option maxRecDepth 10000 in
def g_Section_deadened (B : Nat) (v0 : Nat) (v1 : Int64)  (μ : JMem) : Option (Int64 × JMem) :=
  jgd (jobC 7 (μ.1 v0)) <|
  obd (g_Section_factor v0 (0 : Int32) μ.1) fun x2 =>
  obd (jgA μ.1 v0 7 4) fun x3 =>
  obd x3 fun a4 =>
  obd (if jobC 5 (μ.1 a4) = true then g_Real_isNumber a4 v1 μ.1 else jgd (jobC 8 (μ.1 a4)) (some (g_Shorts_isNumber a4 v1))) fun x5 =>
  if x5 = true then (
    obd (jgA μ.1 v0 7 4) fun x6 =>
    obd x6 fun a7 =>
    obd (if jobC 5 (μ.1 a7) = true then g_Real_isNumber a7 x2 μ.1 else jgd (jobC 8 (μ.1 a7)) (some (g_Shorts_isNumber a7 x2))) fun x8 =>
    if x8 = true then (
      obd (jgA μ.1 v0 7 4) fun x9 =>
      obd (jgA μ.1 v0 7 4) fun x10 =>
      obd x10 fun a11 =>
      obd (if jobC 5 (μ.1 a11) = true then g_Real_sizeOf a11 v1 μ.1 else jgd (jobC 8 (μ.1 a11)) (g_Shorts_sizeOf a11 v1 μ.1)) fun x12 =>
      obd x9 fun a13 =>
      obd (if jobC 5 (μ.1 a13) = true then g_Numbers_above a13 x12 x2 μ.1 else jgd (jobC 8 (μ.1 a13)) (g_Numbers_above a13 x12 x2 μ.1)) fun x14 =>
      if x14 = true then (
        some (v1, μ))
      else
        obd (jgI μ.1 v0 7 11) fun x15 =>
        obd (jpF B 7 11 v0 (.int (x15 + (1 : Int32))) μ) fun μ16 =>
        some ((0 : Int64), μ16))
    else
      some (v1, μ))
  else
    some (v1, μ)
/-! FilterBench$Section.delayed(J)J -/
set_option maxRecDepth 10000 in
def g_Section_delayed (B : Nat) (v0 : Nat) (v1 : Int64)  (μ : JMem) : Option (Int64 × JMem) :=
  obd (jgA μ.1 v0 7 6) fun x1 =>
  obd x1 fun a2 =>
  jgd (jobC 6 (μ.1 a2)) <|
  obd (g_Row_at a2 (0 : Int32) μ.1) fun x4 =>
  obd (jgA μ.1 v0 7 6) fun x5 =>
  obd x5 fun a6 =>
  jgd (jobC 6 (μ.1 a6)) <|
  obd (g_Row_push B a6 v1 μ) fun μ8 =>
  some (x4, μ8)
/-! FilterBench$Real.opposite(J)J -/
set_option maxRecDepth 10000 in
def g_Real_opposite (v0 : Nat) (v1 : Int64)  (h : Nat → Option JCell) : Option Int64 :=
  jgd (jobC 5 (h v0)) <|
  obd (g_Real_negative v0 v1 h) fun x2 =>
  some x2
/-! FilterBench$Shorts.opposite(J)J -/
set_option maxRecDepth 10000 in
def g_Shorts_opposite_e (v1 : Int64)  : Int64 :=
  (-v1)
set_option maxRecDepth 10000 in
def g_Shorts_opposite (v0 : Nat) (v1 : Int64)  : Int64 := g_Shorts_opposite_e  v1
/-! FilterBench$Section.lessTimes(IJ)J -/
set_option maxRecDepth 10000 in
def g_Section_lessTimes (v0 : Nat) (v1 : Int32) (v2 : Int64)  (h : Nat → Option JCell) : Option Int64 :=
  obd (jgA h v0 7 4) fun x1 =>
  obd (jgA h v0 7 4) fun x2 =>
  jgd (jobC 7 (h v0)) <|
  obd (g_Section_factor v0 v1 h) fun x4 =>
  obd x2 fun a5 =>
  obd (if jobC 5 (h a5) = true then g_Real_product a5 x4 v2 h else jgd (jobC 8 (h a5)) (some (g_Shorts_product a5 x4 v2))) fun x6 =>
  obd x1 fun a7 =>
  obd (if jobC 5 (h a7) = true then g_Real_opposite a7 x6 h else jgd (jobC 8 (h a7)) (some (g_Shorts_opposite a7 x6))) fun x8 =>
  some x8
/-! FilterBench$Section.direct(J)J -/
set_option maxRecDepth 10000 in
def g_Section_direct (B : Nat) (v0 : Nat) (v1 : Int64)  (μ : JMem) : Option (Int64 × JMem) :=
  obd (jgA μ.1 v0 7 4) fun x1 =>
  jgd (jobC 7 (μ.1 v0)) <|
  obd (g_Section_times v0 (0 : Int32) v1 μ.1) fun x3 =>
  obd (jgA μ.1 v0 7 6) fun x4 =>
  obd x4 fun a5 =>
  jgd (jobC 6 (μ.1 a5)) <|
  obd (g_Row_at a5 (0 : Int32) μ.1) fun x7 =>
  jgd (jobC 7 (μ.1 v0)) <|
  obd (g_Section_times v0 (1 : Int32) x7 μ.1) fun x9 =>
  obd x1 fun a10 =>
  obd (if jobC 5 (μ.1 a10) = true then g_Real_plus a10 x3 x9 μ.1 else jgd (jobC 8 (μ.1 a10)) (some (g_Shorts_plus a10 x3 x9))) fun x11 =>
  obd (jgA μ.1 v0 7 4) fun x12 =>
  obd (jgA μ.1 v0 7 6) fun x13 =>
  obd x13 fun a14 =>
  jgd (jobC 6 (μ.1 a14)) <|
  obd (g_Row_at a14 (1 : Int32) μ.1) fun x16 =>
  jgd (jobC 7 (μ.1 v0)) <|
  obd (g_Section_times v0 (2 : Int32) x16 μ.1) fun x18 =>
  obd x12 fun a19 =>
  obd (if jobC 5 (μ.1 a19) = true then g_Real_plus a19 x11 x18 μ.1 else jgd (jobC 8 (μ.1 a19)) (some (g_Shorts_plus a19 x11 x18))) fun x20 =>
  obd (jgA μ.1 v0 7 4) fun x21 =>
  obd (jgA μ.1 v0 7 6) fun x22 =>
  obd x22 fun a23 =>
  jgd (jobC 6 (μ.1 a23)) <|
  obd (g_Row_at a23 (2 : Int32) μ.1) fun x25 =>
  jgd (jobC 7 (μ.1 v0)) <|
  obd (g_Section_lessTimes v0 (3 : Int32) x25 μ.1) fun x27 =>
  obd x21 fun a28 =>
  obd (if jobC 5 (μ.1 a28) = true then g_Real_plus a28 x20 x27 μ.1 else jgd (jobC 8 (μ.1 a28)) (some (g_Shorts_plus a28 x20 x27))) fun x29 =>
  obd (jgA μ.1 v0 7 4) fun x30 =>
  obd (jgA μ.1 v0 7 6) fun x31 =>
  obd x31 fun a32 =>
  jgd (jobC 6 (μ.1 a32)) <|
  obd (g_Row_at a32 (3 : Int32) μ.1) fun x34 =>
  jgd (jobC 7 (μ.1 v0)) <|
  obd (g_Section_lessTimes v0 (4 : Int32) x34 μ.1) fun x36 =>
  obd x30 fun a37 =>
  obd (if jobC 5 (μ.1 a37) = true then g_Real_plus a37 x29 x36 μ.1 else jgd (jobC 8 (μ.1 a37)) (some (g_Shorts_plus a37 x29 x36))) fun x38 =>
  jgd (jobC 7 (μ.1 v0)) <|
  jbd2 (g_Section_settled B v0 x38 μ) fun x40 μ41 =>
  obd (jgA μ41.1 v0 7 6) fun x42 =>
  obd (jgA μ41.1 v0 7 6) fun x43 =>
  obd x43 fun a44 =>
  jgd (jobC 6 (μ41.1 a44)) <|
  obd (g_Row_at a44 (0 : Int32) μ41.1) fun x46 =>
  obd x42 fun a47 =>
  jgd (jobC 6 (μ41.1 a47)) <|
  obd (g_Row_put B a47 (1 : Int32) x46 μ41) fun μ49 =>
  obd (jgA μ49.1 v0 7 6) fun x50 =>
  obd x50 fun a51 =>
  jgd (jobC 6 (μ49.1 a51)) <|
  obd (g_Row_put B a51 (0 : Int32) v1 μ49) fun μ53 =>
  obd (jgA μ53.1 v0 7 6) fun x54 =>
  obd (jgA μ53.1 v0 7 6) fun x55 =>
  obd x55 fun a56 =>
  jgd (jobC 6 (μ53.1 a56)) <|
  obd (g_Row_at a56 (2 : Int32) μ53.1) fun x58 =>
  obd x54 fun a59 =>
  jgd (jobC 6 (μ53.1 a59)) <|
  obd (g_Row_put B a59 (3 : Int32) x58 μ53) fun μ61 =>
  obd (jgA μ61.1 v0 7 6) fun x62 =>
  obd x62 fun a63 =>
  jgd (jobC 6 (μ61.1 a63)) <|
  obd (g_Row_put B a63 (2 : Int32) x40 μ61) fun μ65 =>
  some (x40, μ65)
/-! FilterBench$Row.size()I -/
set_option maxRecDepth 10000 in
def g_Row_size (v0 : Nat)  (h : Nat → Option JCell) : Option Int32 :=
  obd (jgA h v0 6 0) fun x1 =>
  obd x1 fun a2 =>
  obd (jal h a2) fun x3 =>
  some x3
/-! FilterBench$Section.mean(J)J -/
set_option maxRecDepth 10000 in
def g_Section_mean_27 (N : Nat) (B : Nat) : Nat → Nat → Int64 → Int32 → JMem → Option (Int64 × JMem)
  | 0, _, _, _, _ => none
  | n + 1, v0, v3, v5, μ =>
    obd (jgA μ.1 v0 7 6) fun x1 =>
    obd x1 fun a2 =>
    jgd (jobC 6 (μ.1 a2)) <|
    obd (g_Row_size a2 μ.1) fun x4 =>
    if x4 ≤ v5 then (
      jgd (jobC 7 (μ.1 v0)) <|
      jbd2 (g_Section_settled B v0 v3 μ) fun x6 μ7 =>
      jgd (jobC 7 (μ7.1 v0)) <|
      obd (g_Section_times v0 (0 : Int32) x6 μ7.1) fun x9 =>
      jgd (jobC 7 (μ7.1 v0)) <|
      jbd2 (g_Section_settled B v0 x9 μ7) fun x11 μ12 =>
      some (x11, μ12))
    else
      obd (jgA μ.1 v0 7 4) fun x13 =>
      obd (jgA μ.1 v0 7 4) fun x14 =>
      obd (jgA μ.1 v0 7 6) fun x15 =>
      obd x15 fun a16 =>
      jgd (jobC 6 (μ.1 a16)) <|
      obd (g_Row_at a16 v5 μ.1) fun x18 =>
      obd x14 fun a19 =>
      obd (if jobC 5 (μ.1 a19) = true then some (g_Real_term a19 x18) else jgd (jobC 8 (μ.1 a19)) (some (g_Shorts_term a19 x18))) fun x20 =>
      obd x13 fun a21 =>
      obd (if jobC 5 (μ.1 a21) = true then g_Real_plus a21 v3 x20 μ.1 else jgd (jobC 8 (μ.1 a21)) (some (g_Shorts_plus a21 v3 x20))) fun x22 =>
      g_Section_mean_27 N B n v0 x22 (v5 + 1) μ
set_option maxRecDepth 10000 in
def g_Section_mean (N : Nat) (B : Nat) (v0 : Nat) (v1 : Int64)  (μ : JMem) : Option (Int64 × JMem) :=
  obd (jgA μ.1 v0 7 6) fun x1 =>
  obd x1 fun a2 =>
  jgd (jobC 6 (μ.1 a2)) <|
  obd (g_Row_push B a2 v1 μ) fun μ4 =>
  obd (jgA μ4.1 v0 7 4) fun x5 =>
  obd (jgA μ4.1 v0 7 6) fun x6 =>
  obd x6 fun a7 =>
  jgd (jobC 6 (μ4.1 a7)) <|
  obd (g_Row_at a7 (0 : Int32) μ4.1) fun x9 =>
  obd x5 fun a10 =>
  obd (if jobC 5 (μ4.1 a10) = true then some (g_Real_term a10 x9) else jgd (jobC 8 (μ4.1 a10)) (some (g_Shorts_term a10 x9))) fun x11 =>
  g_Section_mean_27 N B N v0 x11 (1 : Int32) μ4
/-! FilterBench$Section.pass(J)J -/
set_option maxRecDepth 10000 in
def g_Section_pass (B : Nat) (v0 : Nat) (v1 : Int64)  (μ : JMem) : Option (Int64 × JMem) :=
  obd (jgA μ.1 v0 7 6) fun x1 =>
  obd x1 fun a2 =>
  jgd (jobC 6 (μ.1 a2)) <|
  obd (g_Row_at a2 (0 : Int32) μ.1) fun x4 =>
  obd (jgA μ.1 v0 7 4) fun x5 =>
  obd (jgA μ.1 v0 7 4) fun x6 =>
  obd x6 fun a7 =>
  obd (if jobC 5 (μ.1 a7) = true then some (g_Real_term a7 v1) else jgd (jobC 8 (μ.1 a7)) (some (g_Shorts_term a7 v1))) fun x8 =>
  jgd (jobC 7 (μ.1 v0)) <|
  obd (g_Section_lessTimes v0 (0 : Int32) x4 μ.1) fun x10 =>
  obd x5 fun a11 =>
  obd (if jobC 5 (μ.1 a11) = true then g_Real_plus a11 x8 x10 μ.1 else jgd (jobC 8 (μ.1 a11)) (some (g_Shorts_plus a11 x8 x10))) fun x12 =>
  jgd (jobC 7 (μ.1 v0)) <|
  jbd2 (g_Section_settled B v0 x12 μ) fun x14 μ15 =>
  obd (jgA μ15.1 v0 7 4) fun x16 =>
  jgd (jobC 7 (μ15.1 v0)) <|
  obd (g_Section_times v0 (0 : Int32) x14 μ15.1) fun x18 =>
  obd (jgA μ15.1 v0 7 4) fun x19 =>
  obd x19 fun a20 =>
  obd (if jobC 5 (μ15.1 a20) = true then some (g_Real_term a20 x4) else jgd (jobC 8 (μ15.1 a20)) (some (g_Shorts_term a20 x4))) fun x21 =>
  obd x16 fun a22 =>
  obd (if jobC 5 (μ15.1 a22) = true then g_Real_plus a22 x18 x21 μ15.1 else jgd (jobC 8 (μ15.1 a22)) (some (g_Shorts_plus a22 x18 x21))) fun x23 =>
  jgd (jobC 7 (μ15.1 v0)) <|
  jbd2 (g_Section_settled B v0 x23 μ15) fun x25 μ26 =>
  obd (jgA μ26.1 v0 7 6) fun x27 =>
  obd x27 fun a28 =>
  jgd (jobC 6 (μ26.1 a28)) <|
  obd (g_Row_put B a28 (0 : Int32) x14 μ26) fun μ30 =>
  some (x25, μ30)
/-! FilterBench$Section.peak(J)J -/
set_option maxRecDepth 10000 in
def g_Section_peak_47 (B : Nat) (v0 : Nat) (s0 : Int64)  (μ : JMem) : Option (Int64 × JMem) :=
  obd (jgA μ.1 v0 7 6) fun x1 =>
  obd x1 fun a2 =>
  jgd (jobC 6 (μ.1 a2)) <|
  obd (g_Row_put B a2 (0 : Int32) s0 μ) fun μ4 =>
  some (s0, μ4)
set_option maxRecDepth 10000 in
def g_Section_peak (B : Nat) (v0 : Nat) (v1 : Int64)  (μ : JMem) : Option (Int64 × JMem) :=
  obd (jgA μ.1 v0 7 4) fun x1 =>
  obd x1 fun a2 =>
  obd (if jobC 5 (μ.1 a2) = true then g_Real_sizeOf a2 v1 μ.1 else jgd (jobC 8 (μ.1 a2)) (g_Shorts_sizeOf a2 v1 μ.1)) fun x3 =>
  obd (jgA μ.1 v0 7 6) fun x4 =>
  obd x4 fun a5 =>
  jgd (jobC 6 (μ.1 a5)) <|
  obd (g_Row_at a5 (0 : Int32) μ.1) fun x7 =>
  obd (jgA μ.1 v0 7 4) fun x8 =>
  obd x8 fun a9 =>
  obd (if jobC 5 (μ.1 a9) = true then g_Numbers_above a9 x3 x7 μ.1 else jgd (jobC 8 (μ.1 a9)) (g_Numbers_above a9 x3 x7 μ.1)) fun x10 =>
  if x10 = true then (
    g_Section_peak_47 B v0 x3 μ)
  else
    jgd (jobC 7 (μ.1 v0)) <|
    obd (g_Section_times v0 (0 : Int32) x7 μ.1) fun x12 =>
    jgd (jobC 7 (μ.1 v0)) <|
    jbd2 (g_Section_settled B v0 x12 μ) fun x14 μ15 =>
    g_Section_peak_47 B v0 x14 μ15
/-! FilterBench$Section.pole(J)J -/
set_option maxRecDepth 10000 in
def g_Section_pole (B : Nat) (v0 : Nat) (v1 : Int64)  (μ : JMem) : Option (Int64 × JMem) :=
  obd (jgA μ.1 v0 7 4) fun x1 =>
  jgd (jobC 7 (μ.1 v0)) <|
  obd (g_Section_times v0 (0 : Int32) v1 μ.1) fun x3 =>
  obd (jgA μ.1 v0 7 6) fun x4 =>
  obd x4 fun a5 =>
  jgd (jobC 6 (μ.1 a5)) <|
  obd (g_Row_at a5 (0 : Int32) μ.1) fun x7 =>
  jgd (jobC 7 (μ.1 v0)) <|
  obd (g_Section_times v0 (1 : Int32) x7 μ.1) fun x9 =>
  obd x1 fun a10 =>
  obd (if jobC 5 (μ.1 a10) = true then g_Real_plus a10 x3 x9 μ.1 else jgd (jobC 8 (μ.1 a10)) (some (g_Shorts_plus a10 x3 x9))) fun x11 =>
  jgd (jobC 7 (μ.1 v0)) <|
  jbd2 (g_Section_settled B v0 x11 μ) fun x13 μ14 =>
  obd (jgA μ14.1 v0 7 6) fun x15 =>
  obd x15 fun a16 =>
  jgd (jobC 6 (μ14.1 a16)) <|
  obd (g_Row_put B a16 (0 : Int32) x13 μ14) fun μ18 =>
  some (x13, μ18)
/-! FilterBench$Section.second(J)J -/
set_option maxRecDepth 10000 in
def g_Section_second (B : Nat) (v0 : Nat) (v1 : Int64)  (μ : JMem) : Option (Int64 × JMem) :=
  obd (jgA μ.1 v0 7 6) fun x1 =>
  obd x1 fun a2 =>
  jgd (jobC 6 (μ.1 a2)) <|
  obd (g_Row_at a2 (0 : Int32) μ.1) fun x4 =>
  obd (jgA μ.1 v0 7 4) fun x5 =>
  obd (jgA μ.1 v0 7 4) fun x6 =>
  obd x6 fun a7 =>
  obd (if jobC 5 (μ.1 a7) = true then some (g_Real_term a7 v1) else jgd (jobC 8 (μ.1 a7)) (some (g_Shorts_term a7 v1))) fun x8 =>
  jgd (jobC 7 (μ.1 v0)) <|
  obd (g_Section_lessTimes v0 (3 : Int32) x4 μ.1) fun x10 =>
  obd x5 fun a11 =>
  obd (if jobC 5 (μ.1 a11) = true then g_Real_plus a11 x8 x10 μ.1 else jgd (jobC 8 (μ.1 a11)) (some (g_Shorts_plus a11 x8 x10))) fun x12 =>
  obd (jgA μ.1 v0 7 4) fun x13 =>
  obd (jgA μ.1 v0 7 6) fun x14 =>
  obd x14 fun a15 =>
  jgd (jobC 6 (μ.1 a15)) <|
  obd (g_Row_at a15 (1 : Int32) μ.1) fun x17 =>
  jgd (jobC 7 (μ.1 v0)) <|
  obd (g_Section_lessTimes v0 (4 : Int32) x17 μ.1) fun x19 =>
  obd x13 fun a20 =>
  obd (if jobC 5 (μ.1 a20) = true then g_Real_plus a20 x12 x19 μ.1 else jgd (jobC 8 (μ.1 a20)) (some (g_Shorts_plus a20 x12 x19))) fun x21 =>
  jgd (jobC 7 (μ.1 v0)) <|
  jbd2 (g_Section_settled B v0 x21 μ) fun x23 μ24 =>
  obd (jgA μ24.1 v0 7 4) fun x25 =>
  jgd (jobC 7 (μ24.1 v0)) <|
  obd (g_Section_times v0 (0 : Int32) x23 μ24.1) fun x27 =>
  jgd (jobC 7 (μ24.1 v0)) <|
  obd (g_Section_times v0 (1 : Int32) x4 μ24.1) fun x29 =>
  obd x25 fun a30 =>
  obd (if jobC 5 (μ24.1 a30) = true then g_Real_plus a30 x27 x29 μ24.1 else jgd (jobC 8 (μ24.1 a30)) (some (g_Shorts_plus a30 x27 x29))) fun x31 =>
  obd (jgA μ24.1 v0 7 4) fun x32 =>
  obd (jgA μ24.1 v0 7 6) fun x33 =>
  obd x33 fun a34 =>
  jgd (jobC 6 (μ24.1 a34)) <|
  obd (g_Row_at a34 (1 : Int32) μ24.1) fun x36 =>
  jgd (jobC 7 (μ24.1 v0)) <|
  obd (g_Section_times v0 (2 : Int32) x36 μ24.1) fun x38 =>
  obd x32 fun a39 =>
  obd (if jobC 5 (μ24.1 a39) = true then g_Real_plus a39 x31 x38 μ24.1 else jgd (jobC 8 (μ24.1 a39)) (some (g_Shorts_plus a39 x31 x38))) fun x40 =>
  jgd (jobC 7 (μ24.1 v0)) <|
  jbd2 (g_Section_settled B v0 x40 μ24) fun x42 μ43 =>
  obd (jgA μ43.1 v0 7 6) fun x44 =>
  obd x44 fun a45 =>
  jgd (jobC 6 (μ43.1 a45)) <|
  obd (g_Row_put B a45 (1 : Int32) x4 μ43) fun μ47 =>
  obd (jgA μ47.1 v0 7 6) fun x48 =>
  obd x48 fun a49 =>
  jgd (jobC 6 (μ47.1 a49)) <|
  obd (g_Row_put B a49 (0 : Int32) x23 μ47) fun μ51 =>
  some (x42, μ51)
/-! FilterBench$Section.turned(J)J -/
set_option maxRecDepth 10000 in
def g_Section_turned (B : Nat) (v0 : Nat) (v1 : Int64)  (μ : JMem) : Option (Int64 × JMem) :=
  obd (jgA μ.1 v0 7 4) fun x1 =>
  jgd (jobC 7 (μ.1 v0)) <|
  obd (g_Section_times v0 (0 : Int32) v1 μ.1) fun x3 =>
  obd (jgA μ.1 v0 7 4) fun x4 =>
  obd (jgA μ.1 v0 7 6) fun x5 =>
  obd x5 fun a6 =>
  jgd (jobC 6 (μ.1 a6)) <|
  obd (g_Row_at a6 (0 : Int32) μ.1) fun x8 =>
  obd x4 fun a9 =>
  obd (if jobC 5 (μ.1 a9) = true then some (g_Real_term a9 x8) else jgd (jobC 8 (μ.1 a9)) (some (g_Shorts_term a9 x8))) fun x10 =>
  obd x1 fun a11 =>
  obd (if jobC 5 (μ.1 a11) = true then g_Real_plus a11 x3 x10 μ.1 else jgd (jobC 8 (μ.1 a11)) (some (g_Shorts_plus a11 x3 x10))) fun x12 =>
  jgd (jobC 7 (μ.1 v0)) <|
  jbd2 (g_Section_settled B v0 x12 μ) fun x14 μ15 =>
  obd (jgA μ15.1 v0 7 4) fun x16 =>
  jgd (jobC 7 (μ15.1 v0)) <|
  obd (g_Section_times v0 (1 : Int32) v1 μ15.1) fun x18 =>
  jgd (jobC 7 (μ15.1 v0)) <|
  obd (g_Section_lessTimes v0 (3 : Int32) x14 μ15.1) fun x20 =>
  obd x16 fun a21 =>
  obd (if jobC 5 (μ15.1 a21) = true then g_Real_plus a21 x18 x20 μ15.1 else jgd (jobC 8 (μ15.1 a21)) (some (g_Shorts_plus a21 x18 x20))) fun x22 =>
  obd (jgA μ15.1 v0 7 6) fun x23 =>
  obd (jgA μ15.1 v0 7 4) fun x24 =>
  obd (jgA μ15.1 v0 7 4) fun x25 =>
  obd (jgA μ15.1 v0 7 6) fun x26 =>
  obd x26 fun a27 =>
  jgd (jobC 6 (μ15.1 a27)) <|
  obd (g_Row_at a27 (1 : Int32) μ15.1) fun x29 =>
  obd x25 fun a30 =>
  obd (if jobC 5 (μ15.1 a30) = true then some (g_Real_term a30 x29) else jgd (jobC 8 (μ15.1 a30)) (some (g_Shorts_term a30 x29))) fun x31 =>
  obd x24 fun a32 =>
  obd (if jobC 5 (μ15.1 a32) = true then g_Real_plus a32 x22 x31 μ15.1 else jgd (jobC 8 (μ15.1 a32)) (some (g_Shorts_plus a32 x22 x31))) fun x33 =>
  jgd (jobC 7 (μ15.1 v0)) <|
  jbd2 (g_Section_settled B v0 x33 μ15) fun x35 μ36 =>
  obd x23 fun a37 =>
  jgd (jobC 6 (μ36.1 a37)) <|
  obd (g_Row_put B a37 (0 : Int32) x35 μ36) fun μ39 =>
  obd (jgA μ39.1 v0 7 6) fun x40 =>
  obd (jgA μ39.1 v0 7 4) fun x41 =>
  jgd (jobC 7 (μ39.1 v0)) <|
  obd (g_Section_times v0 (2 : Int32) v1 μ39.1) fun x43 =>
  jgd (jobC 7 (μ39.1 v0)) <|
  obd (g_Section_lessTimes v0 (4 : Int32) x14 μ39.1) fun x45 =>
  obd x41 fun a46 =>
  obd (if jobC 5 (μ39.1 a46) = true then g_Real_plus a46 x43 x45 μ39.1 else jgd (jobC 8 (μ39.1 a46)) (some (g_Shorts_plus a46 x43 x45))) fun x47 =>
  jgd (jobC 7 (μ39.1 v0)) <|
  jbd2 (g_Section_settled B v0 x47 μ39) fun x49 μ50 =>
  obd x40 fun a51 =>
  jgd (jobC 6 (μ50.1 a51)) <|
  obd (g_Row_put B a51 (1 : Int32) x49 μ50) fun μ53 =>
  some (x14, μ53)
/-! FilterBench$Section.step(JJ)J -/
set_option maxRecDepth 10000 in
def g_Section_step (N : Nat) (B : Nat) (v0 : Nat) (v1 : Int64) (v3 : Int64)  (μ : JMem) : Option (Int64 × JMem) :=
  obd (jgI μ.1 v0 7 1) fun x1 =>
  if x1 = 0 then (
    jgd (jobC 7 (μ.1 v0)) <|
    obd (g_Section_times v0 (0 : Int32) v1 μ.1) fun x3 =>
    jgd (jobC 7 (μ.1 v0)) <|
    jbd2 (g_Section_settled B v0 x3 μ) fun x5 μ6 =>
    some (x5, μ6))
  else
  if x1 = 1 then (
    jgd (jobC 7 (μ.1 v0)) <|
    jbd2 (g_Section_pole B v0 v1 μ) fun x8 μ9 =>
    some (x8, μ9))
  else
  if x1 = 2 then (
    jgd (jobC 7 (μ.1 v0)) <|
    jbd2 (g_Section_direct B v0 v1 μ) fun x11 μ12 =>
    some (x11, μ12))
  else
  if x1 = 3 then (
    jgd (jobC 7 (μ.1 v0)) <|
    jbd2 (g_Section_second B v0 v1 μ) fun x14 μ15 =>
    some (x14, μ15))
  else
  if x1 = 4 then (
    jgd (jobC 7 (μ.1 v0)) <|
    jbd2 (g_Section_turned B v0 v1 μ) fun x17 μ18 =>
    some (x17, μ18))
  else
  if x1 = 5 then (
    jgd (jobC 7 (μ.1 v0)) <|
    jbd2 (g_Section_pass B v0 v1 μ) fun x20 μ21 =>
    some (x20, μ21))
  else
  if x1 = 6 then (
    jgd (jobC 7 (μ.1 v0)) <|
    jbd2 (g_Section_delayed B v0 v1 μ) fun x23 μ24 =>
    some (x23, μ24))
  else
  if x1 = 7 then (
    jgd (jobC 7 (μ.1 v0)) <|
    jbd2 (g_Section_mean N B v0 v1 μ) fun x26 μ27 =>
    some (x26, μ27))
  else
  if x1 = 8 then (
    jgd (jobC 7 (μ.1 v0)) <|
    jbd2 (g_Section_comb B v0 v1 μ) fun x29 μ30 =>
    some (x29, μ30))
  else
  if x1 = 9 then (
    jgd (jobC 7 (μ.1 v0)) <|
    jbd2 (g_Section_clipped B v0 v1 μ) fun x32 μ33 =>
    some (x32, μ33))
  else
  if x1 = 10 then (
    jgd (jobC 7 (μ.1 v0)) <|
    jbd2 (g_Section_deadened B v0 v1 μ) fun x35 μ36 =>
    some (x35, μ36))
  else
  if x1 = 11 then (
    jgd (jobC 7 (μ.1 v0)) <|
    jbd2 (g_Section_peak B v0 v1 μ) fun x38 μ39 =>
    some (x38, μ39))
  else
  if x1 = 12 then (
    some (v1, μ))
  else
  if x1 = 13 then (
    some (v1, μ))
  else
  if x1 = 14 then (
    some (v1, μ))
  else
  if x1 = 15 then (
    obd (jgA μ.1 v0 7 4) fun x40 =>
    jgd (jobC 7 (μ.1 v0)) <|
    obd (g_Section_times v0 (0 : Int32) v1 μ.1) fun x42 =>
    jgd (jobC 7 (μ.1 v0)) <|
    obd (g_Section_times v0 (1 : Int32) v3 μ.1) fun x44 =>
    obd x40 fun a45 =>
    obd (if jobC 5 (μ.1 a45) = true then g_Real_plus a45 x42 x44 μ.1 else jgd (jobC 8 (μ.1 a45)) (some (g_Shorts_plus a45 x42 x44))) fun x46 =>
    jgd (jobC 7 (μ.1 v0)) <|
    jbd2 (g_Section_settled B v0 x46 μ) fun x48 μ49 =>
    some (x48, μ49))
  else
  some (v1, μ)
/-! FilterBench.send(LFilterBench$Chain;IJI)I -/
set_option maxRecDepth 10000 in
def g_B_send_111 (N : Nat) (B : Nat) (kS : Option Nat → Int32 → Int64 → Int32 → JMem → Option (Int32 × JMem)) (k73 : Nat → Int32 → Int64 → Int32 → Nat → Int32 → Int32 → JMem → Option (Int32 × JMem)) (v0 : Nat) (v4 : Int32) (v5 : Int64) (v7 : Int32) (v8 : Nat) (v10 : Int32) (s0 : Int64) (s1 : Int32) (s2 : Nat) (s3 : Int32)  (μ : JMem) : Option (Int32 × JMem) :=
  jbd2 (kS (some s2) s1 s0 (v4 + (1 : Int32)) μ) fun x1 μ2 =>
  k73 v0 v4 v5 v7 v8 (s3 + x1) (v10 + 1) μ2
set_option maxRecDepth 10000 in
def g_B_send_105 (N : Nat) (B : Nat) (kS : Option Nat → Int32 → Int64 → Int32 → JMem → Option (Int32 × JMem)) (k73 : Nat → Int32 → Int64 → Int32 → Nat → Int32 → Int32 → JMem → Option (Int32 × JMem)) (v0 : Nat) (v4 : Int32) (v5 : Int64) (v7 : Int32) (v8 : Nat) (v10 : Int32) (s0 : Int32) (s1 : Nat) (s2 : Int32)  (μ : JMem) : Option (Int32 × JMem) :=
  g_B_send_111 N B kS k73 v0 v4 v5 v7 v8 v10 v5 s0 s1 s2 μ
set_option maxRecDepth 10000 in
def g_B_send_73 (N : Nat) (B : Nat) (kS : Option Nat → Int32 → Int64 → Int32 → JMem → Option (Int32 × JMem)) : Nat → Nat → Int32 → Int64 → Int32 → Nat → Int32 → Int32 → JMem → Option (Int32 × JMem)
  | 0, _, _, _, _, _, _, _, _ => none
  | n + 1, v0, v4, v5, v7, v8, v9, v10, μ =>
    obd (jgI μ.1 v8 7 3) fun x1 =>
    if x1 ≤ v10 then (
      some (v9, μ))
    else
      if v10 = 0 then (
        g_B_send_105 N B kS (g_B_send_73 N B kS n) v0 v4 v5 v7 v8 v10 (v7 + (1 : Int32)) v0 v9 μ)
      else
        obd (jgI μ.1 v8 7 1) fun x2 =>
        if x2 = (14 : Int32) then (
          g_B_send_105 N B kS (g_B_send_73 N B kS n) v0 v4 v5 v7 v8 v10 (v7 + (1 : Int32)) v0 v9 μ)
        else
          g_B_send_111 N B kS (g_B_send_73 N B kS n) v0 v4 v5 v7 v8 v10 (0 : Int64) (v7 + (1 : Int32)) v0 v9 μ
set_option maxRecDepth 10000 in
def g_B_send_198 (N : Nat) (B : Nat) (kS : Option Nat → Int32 → Int64 → Int32 → JMem → Option (Int32 × JMem)) (k15 : Option Nat → Int32 → Int64 → Int32 → JMem → Option (Int32 × JMem)) (v0 : Nat) (v4 : Int32) (v5 : Int64) (v7 : Int32)  (μ : JMem) : Option (Int32 × JMem) :=
  k15 (some v0) v4 v5 (v7 + 1) μ
set_option maxRecDepth 10000 in
def g_B_send_179 (N : Nat) (B : Nat) (kS : Option Nat → Int32 → Int64 → Int32 → JMem → Option (Int32 × JMem)) (k15 : Option Nat → Int32 → Int64 → Int32 → JMem → Option (Int32 × JMem)) (v0 : Nat) (v4 : Int32) (v5 : Int64) (v7 : Int32) (v8 : Nat) (v9 : Int64)  (μ : JMem) : Option (Int32 × JMem) :=
  jgd (jobC 7 (μ.1 v8)) <|
  jbd2 (g_Section_step N B v8 v5 v9 μ) fun x2 μ3 =>
  jgd (jobC 1 (μ3.1 v0)) <|
  obd (g_Chain_note N B v0 v7 x2 μ3) fun μ5 =>
  g_B_send_198 N B kS k15 v0 v4 x2 v7 μ5
set_option maxRecDepth 10000 in
def g_B_send_15 (N : Nat) (B : Nat) (kS : Option Nat → Int32 → Int64 → Int32 → JMem → Option (Int32 × JMem)) : Nat → Option Nat → Int32 → Int64 → Int32 → JMem → Option (Int32 × JMem)
  | 0, _, _, _, _, _ => none
  | n + 1, v0, v4, v5, v7, μ =>
    obd v0 fun a1 =>
    obd (jgI μ.1 a1 1 2) fun x2 =>
    if x2 ≤ v7 then (
      jgd (jobC 1 (μ.1 a1)) <|
      obd (g_Chain_emit B a1 v5 μ) fun μ4 =>
      some ((1 : Int32), μ4))
    else
      jgd (jobC 1 (μ.1 a1)) <|
      obd (g_Chain_memberAt a1 v7 μ.1) fun x6 =>
      jon x6 (
        some ((0 : Int32), μ))
      fun a7 =>
        obd (jgI μ.1 a7 7 1) fun x8 =>
        if x8 = (12 : Int32) then (
          jgd (jobC 7 (μ.1 a7)) <|
          jbd2 (g_Section_letsThrough B a7 μ) fun x10 μ11 =>
          if x10 = true then (
            g_B_send_198 N B kS (g_B_send_15 N B kS n) a1 v4 v5 v7 μ11)
          else
            some ((0 : Int32), μ11))
        else
          jgd (jobC 7 (μ.1 a7)) <|
          obd (g_Section_spreads a7 μ.1) fun x13 =>
          if x13 = true then (
            g_B_send_73 N B kS N a1 v4 v5 v7 a7 (0 : Int32) (0 : Int32) μ)
          else
            jgd (jobC 1 (μ.1 a1)) <|
            jbd2 (g_Chain_looped N B a1 v7 (some a7) v5 μ) fun x15 μ16 =>
            obd (jgA μ16.1 a7 7 14) fun x17 =>
            jon x17 (
              g_B_send_179 N B kS (g_B_send_15 N B kS n) a1 v4 x15 v7 a7 (0 : Int64) μ16)
            fun a18 =>
              obd (jgA μ16.1 a7 7 14) fun x19 =>
              jbd2 (kS x19 (0 : Int32) x15 (v4 + (1 : Int32)) μ16) fun x20 μ21 =>
              obd (jgA μ21.1 a7 7 14) fun x22 =>
              obd x22 fun a23 =>
              jgd (jobC 1 (μ21.1 a23)) <|
              obd (g_Chain_madeLast a23 μ21.1) fun x25 =>
              g_B_send_179 N B kS (g_B_send_15 N B kS n) a1 v4 x15 v7 a7 x25 μ21
set_option maxRecDepth 10000 in
def g_B_send_b (N : Nat) (B : Nat) (kS : Option Nat → Int32 → Int64 → Int32 → JMem → Option (Int32 × JMem)) (v0 : Option Nat) (v1 : Int32) (v2 : Int64) (v4 : Int32)  (μ : JMem) : Option (Int32 × JMem) :=
  if v4 ≤ (30 : Int32) then (
    g_B_send_15 N B kS N v0 v4 v2 v1 μ)
  else
    some ((0 : Int32), μ)
set_option maxRecDepth 10000 in
def g_B_send (N : Nat) (B : Nat) : Nat → Option Nat → Int32 → Int64 → Int32 → JMem → Option (Int32 × JMem)
  | 0, _, _, _, _, _ => none
  | n + 1, v0, v1, v2, v4, μ => g_B_send_b N B (g_B_send N B n) v0 v1 v2 v4 μ
/-! FilterBench.feed(IJ)I -/
set_option maxRecDepth 10000 in
def g_B_feed (N : Nat) (M : Nat) (B : Nat) (v0 : Nat) (v1 : Int32) (v2 : Int64)  (μ : JMem) : Option (Int32 × JMem) :=
  jgd (jobC 0 (μ.1 v0)) <|
  obd (g_B_fedAlone v0 v1 μ.1) fun x2 =>
  jon x2 (
    some ((-1 : Int32), μ))
  fun a3 =>
    jgd (jobC 1 (μ.1 a3)) <|
    obd (g_Chain_sort a3 μ.1) fun x5 =>
    jgd (jobC 0 (μ.1 v0)) <|
    obd (g_B_numbersOf v0 x5 μ.1) fun x7 =>
    jon x7 (
      some ((-1 : Int32), μ))
    fun a8 =>
      obd (if jobC 5 (μ.1 a8) = true then g_Real_holds a8 v2 μ.1 else jgd (jobC 8 (μ.1 a8)) (some (g_Shorts_holds a8 v2))) fun x9 =>
      if x9 = true then (
        obd (if jobC 5 (μ.1 a8) = true then g_Real_clean a8 v2 μ.1 else jgd (jobC 8 (μ.1 a8)) (some (g_Shorts_clean a8 v2))) fun x10 =>
        jbd2 (g_B_send N B M (some a3) (0 : Int32) x10 (0 : Int32) μ) fun x11 μ12 =>
        some (x11, μ12))
      else
        some ((-1 : Int32), μ)
/-! FilterBench$Real.scaled(JI)J -/
set_option maxRecDepth 10000 in
def g_Real_scaled_22 (v1 : Int64) (v3 : Int32) (s0 : Bool) (s1 : Nat)  (h : Nat → Option JCell) : Option Int64 :=
  jgd (jobC 5 (h s1)) <|
  obd (g_Real_packed s1 s0 v3 (g_JMath_abs v1) h) fun x2 =>
  some x2
set_option maxRecDepth 10000 in
def g_Real_scaled (v0 : Nat) (v1 : Int64) (v3 : Int32)  (h : Nat → Option JCell) : Option Int64 :=
  if v1 = (0 : Int64) then (
    some (0 : Int64))
  else
    if (0 : Int64) ≤ v1 then (
      g_Real_scaled_22 v1 v3 false v0 h)
    else
      g_Real_scaled_22 v1 v3 true v0 h
/-! FilterBench$Real.sample(I)J -/
set_option maxRecDepth 10000 in
def g_Real_sample (v0 : Nat) (v1 : Int32)  (h : Nat → Option JCell) : Option Int64 :=
  jgd (jobC 5 (h v0)) <|
  obd (g_Real_scaled v0 (Int32.toInt64 v1) (-8 : Int32) h) fun x2 =>
  some x2
/-! FilterBench$Shorts.sample(I)J -/
set_option maxRecDepth 10000 in
def g_Shorts_sample_e (v1 : Int32)  : Int64 :=
  (Int32.toInt64 v1)
set_option maxRecDepth 10000 in
def g_Shorts_sample (v0 : Nat) (v1 : Int32)  : Int64 := g_Shorts_sample_e  v1
/-! FilterBench.run(III)I -/
set_option maxRecDepth 10000 in
def g_B_run_52 (N : Nat) (M : Nat) (B : Nat) : Nat → Int32 → Nat → Nat → Int32 → Int32 → Int32 → JMem → Option (Int32 × JMem)
  | 0, _, _, _, _, _, _, _ => none
  | n + 1, v2, v4, v5, v6, v7, v8, μ =>
    if v2 ≤ v8 then (
      some (v6, μ))
    else
      obd (if jobC 5 (μ.1 v5) = true then g_Real_sample v5 (Int16.toInt32 (Int32.toInt16 v7)) μ.1 else jgd (jobC 8 (μ.1 v5)) (some (g_Shorts_sample v5 (Int16.toInt32 (Int32.toInt16 v7))))) fun x1 =>
      jbd2 (g_B_send N B M (some v4) (0 : Int32) x1 (0 : Int32) μ) fun x2 μ3 =>
      jlet ((v7 * (1103515245 : Int32)) + (12345 : Int32)) fun (v7_4 : Int32) =>
      g_B_run_52 N M B n v2 v4 v5 (v6 + x2) v7_4 (v8 + 1) μ3
set_option maxRecDepth 10000 in
def g_B_run (N : Nat) (M : Nat) (B : Nat) (v0 : Nat) (v1 : Int32) (v2 : Int32) (v3 : Int32)  (μ : JMem) : Option (Int32 × JMem) :=
  jgd (jobC 0 (μ.1 v0)) <|
  obd (g_B_fedAlone v0 v1 μ.1) fun x2 =>
  jon x2 (
    some ((-1 : Int32), μ))
  fun a3 =>
    if v2 < (1 : Int32) then (
      some ((-1 : Int32), μ))
    else
      if v2 ≤ (100 : Int32) then (
        jgd (jobC 1 (μ.1 a3)) <|
        obd (g_Chain_sort a3 μ.1) fun x5 =>
        jgd (jobC 0 (μ.1 v0)) <|
        obd (g_B_numbersOf v0 x5 μ.1) fun x7 =>
        jon x7 (
          some ((-1 : Int32), μ))
        fun a8 =>
          g_B_run_52 N M B N v2 a3 a8 (0 : Int32) v3 (0 : Int32) μ)
      else
        some ((-1 : Int32), μ)
/-! FilterBench$Chain.madeAs(I)J -/
set_option maxRecDepth 10000 in
def g_Chain_madeAs_12  (h : Nat → Option JCell) : Option Int64 :=
  some (0 : Int64)
set_option maxRecDepth 10000 in
def g_Chain_madeAs (v0 : Nat) (v1 : Int32)  (h : Nat → Option JCell) : Option Int64 :=
  if v1 < 0 then (
    g_Chain_madeAs_12 h)
  else
    obd (jgI h v0 1 8) fun x1 =>
    if v1 < x1 then (
      obd (jgI h v0 1 8) fun x2 =>
      jgd (jobC 1 (h v0)) <|
      obd (g_Chain_madeBefore v0 ((x2 - (1 : Int32)) - v1) h) fun x4 =>
      some x4)
    else
      g_Chain_madeAs_12 h
/-! FilterBench.output(II)J -/
set_option maxRecDepth 10000 in
def g_B_output (v0 : Nat) (v1 : Int32) (v2 : Int32)  (h : Nat → Option JCell) : Option Int64 :=
  jgd (jobC 0 (h v0)) <|
  obd (g_B_chainAt v0 v1 h) fun x2 =>
  jon x2 (
    some (0 : Int64))
  fun a3 =>
    jgd (jobC 1 (h a3)) <|
    obd (g_Chain_madeAs a3 v2 h) fun x5 =>
    some x5
/-! FilterBench$Chain.greatestSize(LFilterBench$Numbers;)J -/
set_option maxRecDepth 10000 in
def g_Chain_greatestSize_43 (N : Nat) (k10 : Nat → Option Nat → Int64 → Int32 → (Nat → Option JCell) → Option Int64) (v0 : Nat) (v1 : Nat) (v4 : Int32) (s0 : Int64)  (h : Nat → Option JCell) : Option Int64 :=
  k10 v0 (some v1) s0 (v4 + (-1)) h
set_option maxRecDepth 10000 in
def g_Chain_greatestSize_10 (N : Nat) : Nat → Nat → Option Nat → Int64 → Int32 → (Nat → Option JCell) → Option Int64
  | 0, _, _, _, _, _ => none
  | n + 1, v0, v1, v2, v4, h =>
    if v4 < 0 then (
      some v2)
    else
      jgd (jobC 1 (h v0)) <|
      obd (g_Chain_madeBefore v0 v4 h) fun x2 =>
      obd v1 fun a3 =>
      obd (if jobC 5 (h a3) = true then g_Real_sizeOf a3 x2 h else jgd (jobC 8 (h a3)) (g_Shorts_sizeOf a3 x2 h)) fun x4 =>
      obd (if jobC 5 (h a3) = true then g_Numbers_above a3 x4 v2 h else jgd (jobC 8 (h a3)) (g_Numbers_above a3 x4 v2 h)) fun x5 =>
      if x5 = true then (
        g_Chain_greatestSize_43 N (g_Chain_greatestSize_10 N n) v0 a3 v4 x4 h)
      else
        g_Chain_greatestSize_43 N (g_Chain_greatestSize_10 N n) v0 a3 v4 v2 h
set_option maxRecDepth 10000 in
def g_Chain_greatestSize (N : Nat) (v0 : Nat) (v1 : Option Nat)  (h : Nat → Option JCell) : Option Int64 :=
  obd (jgI h v0 1 7) fun x1 =>
  g_Chain_greatestSize_10 N N v0 v1 (0 : Int64) (x1 - (1 : Int32)) h
/-! java/lang/Math.max(II)I -/
set_option maxRecDepth 10000 in
def g_JMath_max (v0 : Int32) (v1 : Int32)  : Int32 :=
  if v0 < v1 then (
    v1)
  else
    v0
/-! FilterBench$Chain.longestSilence(LFilterBench$Numbers;)I -/
set_option maxRecDepth 10000 in
def g_Chain_longestSilence_51 (N : Nat) (k12 : Nat → Option Nat → Int32 → Int32 → Int32 → (Nat → Option JCell) → Option Int32) (v0 : Nat) (v1 : Nat) (v2 : Int32) (v4 : Int32) (s0 : Int32)  (h : Nat → Option JCell) : Option Int32 :=
  k12 v0 (some v1) (g_JMath_max v2 s0) s0 (v4 + (-1)) h
set_option maxRecDepth 10000 in
def g_Chain_longestSilence_50 (N : Nat) (k12 : Nat → Option Nat → Int32 → Int32 → Int32 → (Nat → Option JCell) → Option Int32) (v0 : Nat) (v1 : Nat) (v2 : Int32) (v4 : Int32)  (h : Nat → Option JCell) : Option Int32 :=
  g_Chain_longestSilence_51 N k12 v0 v1 v2 v4 (0 : Int32) h
set_option maxRecDepth 10000 in
def g_Chain_longestSilence_12 (N : Nat) : Nat → Nat → Option Nat → Int32 → Int32 → Int32 → (Nat → Option JCell) → Option Int32
  | 0, _, _, _, _, _, _ => none
  | n + 1, v0, v1, v2, v3, v4, h =>
    if v4 < 0 then (
      some v2)
    else
      jgd (jobC 1 (h v0)) <|
      obd (g_Chain_madeBefore v0 v4 h) fun x2 =>
      obd v1 fun a3 =>
      obd (if jobC 5 (h a3) = true then g_Real_isNumber a3 x2 h else jgd (jobC 8 (h a3)) (some (g_Shorts_isNumber a3 x2))) fun x4 =>
      if x4 = true then (
        obd (if jobC 5 (h a3) = true then g_Real_compared a3 x2 (0 : Int64) h else jgd (jobC 8 (h a3)) (some (g_Shorts_compared a3 x2 (0 : Int64)))) fun x5 =>
        if x5 = 0 then (
          g_Chain_longestSilence_51 N (g_Chain_longestSilence_12 N n) v0 a3 v2 v4 (v3 + (1 : Int32)) h)
        else
          g_Chain_longestSilence_50 N (g_Chain_longestSilence_12 N n) v0 a3 v2 v4 h)
      else
        g_Chain_longestSilence_50 N (g_Chain_longestSilence_12 N n) v0 a3 v2 v4 h
set_option maxRecDepth 10000 in
def g_Chain_longestSilence (N : Nat) (v0 : Nat) (v1 : Option Nat)  (h : Nat → Option JCell) : Option Int32 :=
  obd (jgI h v0 1 7) fun x1 =>
  g_Chain_longestSilence_12 N N v0 v1 (0 : Int32) (0 : Int32) (x1 - (1 : Int32)) h
/-! FilterBench$Chain.signChanges(LFilterBench$Numbers;)I -/
set_option maxRecDepth 10000 in
def g_Chain_signChanges_73 (N : Nat) (k12 : Nat → Option Nat → Int32 → Int32 → Int32 → (Nat → Option JCell) → Option Int32) (v0 : Nat) (v1 : Nat) (v2 : Int32) (v4 : Int32) (s0 : Int32)  (h : Nat → Option JCell) : Option Int32 :=
  k12 v0 (some v1) v2 s0 (v4 + (-1)) h
set_option maxRecDepth 10000 in
def g_Chain_signChanges_60 (N : Nat) (k12 : Nat → Option Nat → Int32 → Int32 → Int32 → (Nat → Option JCell) → Option Int32) (v0 : Nat) (v1 : Nat) (v3 : Int32) (v4 : Int32) (v7 : Int32) (s0 : Bool) (s1 : Int32)  (h : Nat → Option JCell) : Option Int32 :=
  if v7 = 0 then (
    g_Chain_signChanges_73 N k12 v0 v1 (s1 + (jb s0)) v4 v3 h)
  else
    g_Chain_signChanges_73 N k12 v0 v1 (s1 + (jb s0)) v4 v7 h
set_option maxRecDepth 10000 in
def g_Chain_signChanges_45 (N : Nat) (k12 : Nat → Option Nat → Int32 → Int32 → Int32 → (Nat → Option JCell) → Option Int32) (v0 : Nat) (v1 : Nat) (v2 : Int32) (v3 : Int32) (v4 : Int32) (s0 : Int32)  (h : Nat → Option JCell) : Option Int32 :=
  if 0 ≤ (s0 * v3) then (
    g_Chain_signChanges_60 N k12 v0 v1 v3 v4 s0 false v2 h)
  else
    g_Chain_signChanges_60 N k12 v0 v1 v3 v4 s0 true v2 h
set_option maxRecDepth 10000 in
def g_Chain_signChanges_12 (N : Nat) : Nat → Nat → Option Nat → Int32 → Int32 → Int32 → (Nat → Option JCell) → Option Int32
  | 0, _, _, _, _, _, _ => none
  | n + 1, v0, v1, v2, v3, v4, h =>
    if v4 < 0 then (
      some v2)
    else
      jgd (jobC 1 (h v0)) <|
      obd (g_Chain_madeBefore v0 v4 h) fun x2 =>
      obd v1 fun a3 =>
      obd (if jobC 5 (h a3) = true then g_Real_isNumber a3 x2 h else jgd (jobC 8 (h a3)) (some (g_Shorts_isNumber a3 x2))) fun x4 =>
      if x4 = true then (
        obd (if jobC 5 (h a3) = true then g_Real_compared a3 x2 (0 : Int64) h else jgd (jobC 8 (h a3)) (some (g_Shorts_compared a3 x2 (0 : Int64)))) fun x5 =>
        g_Chain_signChanges_45 N (g_Chain_signChanges_12 N n) v0 a3 v2 v3 v4 x5 h)
      else
        g_Chain_signChanges_45 N (g_Chain_signChanges_12 N n) v0 a3 v2 v3 v4 (0 : Int32) h
set_option maxRecDepth 10000 in
def g_Chain_signChanges (N : Nat) (v0 : Nat) (v1 : Option Nat)  (h : Nat → Option JCell) : Option Int32 :=
  obd (jgI h v0 1 7) fun x1 =>
  g_Chain_signChanges_12 N N v0 v1 (0 : Int32) (0 : Int32) (x1 - (1 : Int32)) h
/-! FilterBench.measure(II)J -/
set_option maxRecDepth 10000 in
def g_B_measure (N : Nat) (v0 : Nat) (v1 : Int32) (v2 : Int32)  (h : Nat → Option JCell) : Option Int64 :=
  jgd (jobC 0 (h v0)) <|
  obd (g_B_chainAt v0 v1 h) fun x2 =>
  jon x2 (
    some (0 : Int64))
  fun a3 =>
    jgd (jobC 1 (h a3)) <|
    obd (g_Chain_sort a3 h) fun x5 =>
    jgd (jobC 0 (h v0)) <|
    obd (g_B_numbersOf v0 x5 h) fun x7 =>
    jon x7 (
      some (0 : Int64))
    fun a8 =>
      if v2 = 0 then (
        jgd (jobC 1 (h a3)) <|
        obd (g_Chain_greatestSize N a3 (some a8) h) fun x10 =>
        some x10)
      else
      if v2 = 1 then (
        jgd (jobC 1 (h a3)) <|
        obd (g_Chain_signChanges N a3 (some a8) h) fun x12 =>
        some (Int32.toInt64 x12))
      else
      if v2 = 2 then (
        jgd (jobC 1 (h a3)) <|
        obd (g_Chain_longestSilence N a3 (some a8) h) fun x14 =>
        some (Int32.toInt64 x14))
      else
      some (0 : Int64)
/-! FilterBench.gathered(LFilterBench$Chain;I)I -/
set_option maxRecDepth 10000 in
def g_B_gathered (B : Nat) (v0 : Nat) (v1 : Option Nat) (v2 : Int32)  (μ : JMem) : Option (Int32 × JMem) :=
  jon v1 (
    some (v2, μ))
  fun a1 =>
    if v2 < 0 then (
      some (v2, μ))
    else
      obd (jgA μ.1 v0 0 9) fun x2 =>
      obd x2 fun a3 =>
      obd (jal μ.1 a3) fun x4 =>
      if v2 < x4 then (
        obd (jgA μ.1 v0 0 9) fun x5 =>
        obd x5 fun a6 =>
        obd (jpO B a6 v2 a1 μ) fun μ7 =>
        some ((v2 + (1 : Int32)), μ7))
      else
        some (v2, μ)
/-! FilterBench.gather(LFilterBench$Chain;)I -/
set_option maxRecDepth 10000 in
def g_B_gather_77 (N : Nat) (B : Nat) (k9 : Nat → Int32 → Int32 → JMem → Option (Int32 × JMem)) (k34 : Nat → Int32 → Int32 → Option Nat → Int32 → JMem → Option (Int32 × JMem)) (v0 : Nat) (v3 : Int32) (v4 : Nat) (v5 : Int32) (s0 : Int32)  (μ : JMem) : Option (Int32 × JMem) :=
  k34 v0 s0 v3 (some v4) (v5 + 1) μ
set_option maxRecDepth 10000 in
def g_B_gather_84 (N : Nat) (B : Nat) (k9 : Nat → Int32 → Int32 → JMem → Option (Int32 × JMem)) (v0 : Nat) (v2 : Int32) (v3 : Int32)  (μ : JMem) : Option (Int32 × JMem) :=
  k9 v0 v2 (v3 + 1) μ
set_option maxRecDepth 10000 in
def g_B_gather_34 (N : Nat) (B : Nat) (k9 : Nat → Int32 → Int32 → JMem → Option (Int32 × JMem)) : Nat → Nat → Int32 → Int32 → Option Nat → Int32 → JMem → Option (Int32 × JMem)
  | 0, _, _, _, _, _, _ => none
  | n + 1, v0, v2, v3, v4, v5, μ =>
    jon v4 (
      g_B_gather_84 N B k9 v0 v2 v3 μ)
    fun a1 =>
      obd (jgI μ.1 a1 1 2) fun x2 =>
      if x2 ≤ v5 then (
        g_B_gather_84 N B k9 v0 v2 v3 μ)
      else
        jgd (jobC 1 (μ.1 a1)) <|
        obd (g_Chain_memberAt a1 v5 μ.1) fun x4 =>
        jon x4 (
          g_B_gather_77 N B k9 (g_B_gather_34 N B k9 n) v0 v3 a1 v5 v2 μ)
        fun a5 =>
          obd (jgA μ.1 a5 7 14) fun x6 =>
          jgd (jobC 0 (μ.1 v0)) <|
          jbd2 (g_B_gathered B v0 x6 v2 μ) fun x8 μ9 =>
          g_B_gather_77 N B k9 (g_B_gather_34 N B k9 n) v0 v3 a1 v5 x8 μ9
set_option maxRecDepth 10000 in
def g_B_gather_9 (N : Nat) (B : Nat) : Nat → Nat → Int32 → Int32 → JMem → Option (Int32 × JMem)
  | 0, _, _, _, _ => none
  | n + 1, v0, v2, v3, μ =>
    if v2 ≤ v3 then (
      some (v2, μ))
    else
      obd (jgA μ.1 v0 0 9) fun x1 =>
      obd x1 fun a2 =>
      obd (jal μ.1 a2) fun x3 =>
      if x3 ≤ v3 then (
        some (v2, μ))
      else
        obd (jgA μ.1 v0 0 9) fun x4 =>
        obd x4 fun a5 =>
        obd (jaA μ.1 a5 v3) fun x6 =>
        g_B_gather_34 N B (g_B_gather_9 N B n) N v0 v2 v3 x6 (0 : Int32) μ
set_option maxRecDepth 10000 in
def g_B_gather (N : Nat) (B : Nat) (v0 : Nat) (v1 : Option Nat)  (μ : JMem) : Option (Int32 × JMem) :=
  jgd (jobC 0 (μ.1 v0)) <|
  jbd2 (g_B_gathered B v0 v1 (0 : Int32) μ) fun x2 μ3 =>
  g_B_gather_9 N B N v0 x2 (0 : Int32) μ3
/-! FilterBench$Chain.rowAt(I)LFilterBench$Row; -/
set_option maxRecDepth 10000 in
def g_Chain_rowAt (v0 : Nat) (v1 : Int32)  (h : Nat → Option JCell) : Option (Option Nat) :=
  obd (jgI h v0 1 2) fun x1 =>
  if ((2 : Int32) * x1) ≤ v1 then (
    obd (jgI h v0 1 2) fun x2 =>
    jgd (jobC 1 (h v0)) <|
    obd (g_Chain_loopAt v0 (v1 - ((2 : Int32) * x2)) h) fun x4 =>
    jon x4 (
      some none)
    fun a5 =>
      obd (jgA h a5 4 3) fun x6 =>
      some x6)
  else
    jgd (jobC 1 (h v0)) <|
    obd (g_Chain_memberAt v0 (v1 >>> ((1 : Int32) &&& 31)) h) fun x8 =>
    jon x8 (
      some none)
    fun a9 =>
      if (v1 &&& (1 : Int32)) = 0 then (
        obd (jgA h a9 7 9) fun x10 =>
        some x10)
      else
        obd (jgA h a9 7 6) fun x11 =>
        some x11
/-! FilterBench$Chain.rowCount()I -/
set_option maxRecDepth 10000 in
def g_Chain_rowCount (v0 : Nat)  (h : Nat → Option JCell) : Option Int32 :=
  obd (jgI h v0 1 2) fun x1 =>
  obd (jgI h v0 1 4) fun x2 =>
  some (((2 : Int32) * x1) + x2)
/-! java/util/Arrays.fill([JJ)V -/
set_option maxRecDepth 10000 in
def g_JArrays_fill_6 (N : Nat) (B : Nat) : Nat → Nat → Int64 → Int32 → Int32 → JMem → Option JMem
  | 0, _, _, _, _, _ => none
  | n + 1, v0, v1, v3, v4, μ =>
    if v4 ≤ v3 then (
      some μ)
    else
      obd (jpA B .long v0 v3 (.long v1) μ) fun μ1 =>
      g_JArrays_fill_6 N B n v0 v1 (v3 + 1) v4 μ1
set_option maxRecDepth 10000 in
def g_JArrays_fill (N : Nat) (B : Nat) (v0 : Option Nat) (v1 : Int64)  (μ : JMem) : Option JMem :=
  obd v0 fun a1 =>
  obd (jal μ.1 a1) fun x2 =>
  g_JArrays_fill_6 N B N a1 v1 (0 : Int32) x2 μ
/-! FilterBench$Row.clear()V -/
set_option maxRecDepth 10000 in
def g_Row_clear (N : Nat) (B : Nat) (v0 : Nat)  (μ : JMem) : Option JMem :=
  obd (jgA μ.1 v0 6 0) fun x1 =>
  obd (g_JArrays_fill N B x1 (0 : Int64) μ) fun μ2 =>
  some μ2
/-! FilterBench$Chain.silence()V -/
set_option maxRecDepth 10000 in
def g_Chain_silence_24 (N : Nat) (B : Nat) (k2 : Nat → Int32 → JMem → Option JMem) (v0 : Nat) (v1 : Int32)  (μ : JMem) : Option JMem :=
  k2 v0 (v1 + 1) μ
set_option maxRecDepth 10000 in
def g_Chain_silence_2 (N : Nat) (B : Nat) : Nat → Nat → Int32 → JMem → Option JMem
  | 0, _, _, _ => none
  | n + 1, v0, v1, μ =>
    jgd (jobC 1 (μ.1 v0)) <|
    obd (g_Chain_rowCount v0 μ.1) fun x2 =>
    if x2 ≤ v1 then (
      obd (jpF B 1 6 v0 (.int (0 : Int32)) μ) fun μ3 =>
      obd (jpF B 1 7 v0 (.int (0 : Int32)) μ3) fun μ4 =>
      obd (jpF B 1 8 v0 (.int (0 : Int32)) μ4) fun μ5 =>
      some μ5)
    else
      jgd (jobC 1 (μ.1 v0)) <|
      obd (g_Chain_rowAt v0 v1 μ.1) fun x7 =>
      jon x7 (
        g_Chain_silence_24 N B (g_Chain_silence_2 N B n) v0 v1 μ)
      fun a8 =>
        jgd (jobC 6 (μ.1 a8)) <|
        obd (g_Row_clear N B a8 μ) fun μ10 =>
        g_Chain_silence_24 N B (g_Chain_silence_2 N B n) v0 v1 μ10
set_option maxRecDepth 10000 in
def g_Chain_silence (N : Nat) (B : Nat) (v0 : Nat)  (μ : JMem) : Option JMem :=
  g_Chain_silence_2 N B N v0 (0 : Int32) μ
/-! FilterBench.reset(I)Z -/
set_option maxRecDepth 10000 in
def g_B_reset_57 (N : Nat) (B : Nat) (k21 : Nat → Int32 → Int32 → JMem → Option (Bool × JMem)) (v0 : Nat) (v3 : Int32) (v4 : Int32)  (μ : JMem) : Option (Bool × JMem) :=
  k21 v0 v3 (v4 + 1) μ
set_option maxRecDepth 10000 in
def g_B_reset_21 (N : Nat) (B : Nat) : Nat → Nat → Int32 → Int32 → JMem → Option (Bool × JMem)
  | 0, _, _, _, _ => none
  | n + 1, v0, v3, v4, μ =>
    if v3 ≤ v4 then (
      some (true, μ))
    else
      obd (jgA μ.1 v0 0 9) fun x1 =>
      obd x1 fun a2 =>
      obd (jal μ.1 a2) fun x3 =>
      if x3 ≤ v4 then (
        some (true, μ))
      else
        obd (jgA μ.1 v0 0 9) fun x4 =>
        obd x4 fun a5 =>
        obd (jaA μ.1 a5 v4) fun x6 =>
        jon x6 (
          g_B_reset_57 N B (g_B_reset_21 N B n) v0 v3 v4 μ)
        fun a7 =>
          obd (jgA μ.1 v0 0 9) fun x8 =>
          obd x8 fun a9 =>
          obd (jaA μ.1 a9 v4) fun x10 =>
          obd x10 fun a11 =>
          jgd (jobC 1 (μ.1 a11)) <|
          obd (g_Chain_silence N B a11 μ) fun μ13 =>
          g_B_reset_57 N B (g_B_reset_21 N B n) v0 v3 v4 μ13
set_option maxRecDepth 10000 in
def g_B_reset (N : Nat) (B : Nat) (v0 : Nat) (v1 : Int32)  (μ : JMem) : Option (Bool × JMem) :=
  jgd (jobC 0 (μ.1 v0)) <|
  obd (g_B_chainAt v0 v1 μ.1) fun x2 =>
  jon x2 (
    some (false, μ))
  fun a3 =>
    jgd (jobC 0 (μ.1 v0)) <|
    jbd2 (g_B_gather N B v0 (some a3) μ) fun x5 μ6 =>
    g_B_reset_21 N B N v0 x5 (0 : Int32) μ6
/-! FilterBench$Row.save([JI)I -/
set_option maxRecDepth 10000 in
def g_Row_save_35 (N : Nat) (B : Nat) (k2 : Nat → Option Nat → Int32 → Int32 → JMem → Option (Int32 × JMem)) (v0 : Nat) (v1 : Option Nat) (v2 : Int32) (v3 : Int32)  (μ : JMem) : Option (Int32 × JMem) :=
  k2 v0 v1 v2 (v3 + 1) μ
set_option maxRecDepth 10000 in
def g_Row_save_2 (N : Nat) (B : Nat) : Nat → Nat → Option Nat → Int32 → Int32 → JMem → Option (Int32 × JMem)
  | 0, _, _, _, _, _ => none
  | n + 1, v0, v1, v2, v3, μ =>
    obd (jgA μ.1 v0 6 0) fun x1 =>
    obd x1 fun a2 =>
    obd (jal μ.1 a2) fun x3 =>
    if x3 ≤ v3 then (
      obd (jgA μ.1 v0 6 0) fun x4 =>
      obd x4 fun a5 =>
      obd (jal μ.1 a5) fun x6 =>
      some ((v2 + x6), μ))
    else
      if (v2 + v3) < 0 then (
        g_Row_save_35 N B (g_Row_save_2 N B n) v0 v1 v2 v3 μ)
      else
        obd v1 fun a7 =>
        obd (jal μ.1 a7) fun x8 =>
        if x8 ≤ (v2 + v3) then (
          g_Row_save_35 N B (g_Row_save_2 N B n) v0 (some a7) v2 v3 μ)
        else
          jgd (jobC 6 (μ.1 v0)) <|
          obd (g_Row_at v0 v3 μ.1) fun x10 =>
          obd (jpA B .long a7 (v2 + v3) (.long x10) μ) fun μ11 =>
          g_Row_save_35 N B (g_Row_save_2 N B n) v0 (some a7) v2 v3 μ11
set_option maxRecDepth 10000 in
def g_Row_save (N : Nat) (B : Nat) (v0 : Nat) (v1 : Option Nat) (v2 : Int32)  (μ : JMem) : Option (Int32 × JMem) :=
  g_Row_save_2 N B N v0 v1 v2 (0 : Int32) μ
/-! FilterBench$Chain.save([JI)I -/
set_option maxRecDepth 10000 in
def g_Chain_save_38 (N : Nat) (B : Nat) (k5 : Nat → Option Nat → Int32 → Int32 → JMem → Option (Int32 × JMem)) (v0 : Nat) (v1 : Option Nat) (v4 : Int32) (s0 : Int32)  (μ : JMem) : Option (Int32 × JMem) :=
  k5 v0 v1 s0 (v4 + 1) μ
set_option maxRecDepth 10000 in
def g_Chain_save_5 (N : Nat) (B : Nat) : Nat → Nat → Option Nat → Int32 → Int32 → JMem → Option (Int32 × JMem)
  | 0, _, _, _, _, _ => none
  | n + 1, v0, v1, v3, v4, μ =>
    jgd (jobC 1 (μ.1 v0)) <|
    obd (g_Chain_rowCount v0 μ.1) fun x2 =>
    if x2 ≤ v4 then (
      some (v3, μ))
    else
      jgd (jobC 1 (μ.1 v0)) <|
      obd (g_Chain_rowAt v0 v4 μ.1) fun x4 =>
      jon x4 (
        g_Chain_save_38 N B (g_Chain_save_5 N B n) v0 v1 v4 v3 μ)
      fun a5 =>
        jgd (jobC 6 (μ.1 a5)) <|
        jbd2 (g_Row_save N B a5 v1 v3 μ) fun x7 μ8 =>
        g_Chain_save_38 N B (g_Chain_save_5 N B n) v0 v1 v4 x7 μ8
set_option maxRecDepth 10000 in
def g_Chain_save (N : Nat) (B : Nat) (v0 : Nat) (v1 : Option Nat) (v2 : Int32)  (μ : JMem) : Option (Int32 × JMem) :=
  g_Chain_save_5 N B N v0 v1 v2 (0 : Int32) μ
/-! FilterBench$Chain.valueCount()I -/
set_option maxRecDepth 10000 in
def g_Chain_valueCount_31 (N : Nat) (k4 : Nat → Int32 → Int32 → (Nat → Option JCell) → Option Int32) (v0 : Nat) (v2 : Int32) (s0 : Int32) (s1 : Int32)  (h : Nat → Option JCell) : Option Int32 :=
  k4 v0 (s1 + s0) (v2 + 1) h
set_option maxRecDepth 10000 in
def g_Chain_valueCount_4 (N : Nat) : Nat → Nat → Int32 → Int32 → (Nat → Option JCell) → Option Int32
  | 0, _, _, _, _ => none
  | n + 1, v0, v1, v2, h =>
    jgd (jobC 1 (h v0)) <|
    obd (g_Chain_rowCount v0 h) fun x2 =>
    if x2 ≤ v2 then (
      some v1)
    else
      jgd (jobC 1 (h v0)) <|
      obd (g_Chain_rowAt v0 v2 h) fun x4 =>
      jon x4 (
        g_Chain_valueCount_31 N (g_Chain_valueCount_4 N n) v0 v2 (0 : Int32) v1 h)
      fun a5 =>
        jgd (jobC 6 (h a5)) <|
        obd (g_Row_size a5 h) fun x7 =>
        g_Chain_valueCount_31 N (g_Chain_valueCount_4 N n) v0 v2 x7 v1 h
set_option maxRecDepth 10000 in
def g_Chain_valueCount (N : Nat) (v0 : Nat)  (h : Nat → Option JCell) : Option Int32 :=
  g_Chain_valueCount_4 N N v0 (0 : Int32) (0 : Int32) h
/-! FilterBench$Kept.<init>(LFilterBench$Chain;II)V -/
set_option maxRecDepth 10000 in
def g_Kept_init_36 (B : Nat) (s0 : Int32) (s1 : Nat)  (μ : JMem) : Option JMem :=
  jbd2 (jnA .long s0 μ) fun a1 μ2 =>
  obd (jpF B 3 2 s1 (rv (some a1)) μ2) fun μ3 =>
  some μ3
set_option maxRecDepth 10000 in
def g_Kept_init_21 (B : Nat) (v0 : Nat) (v3 : Int32) (s0 : Int32) (s1 : Nat)  (μ : JMem) : Option JMem :=
  jbd2 (jnA .int s0 μ) fun a1 μ2 =>
  obd (jpF B 3 1 s1 (rv (some a1)) μ2) fun μ3 =>
  if 0 ≤ v3 then (
    g_Kept_init_36 B v3 v0 μ3)
  else
    g_Kept_init_36 B (0 : Int32) v0 μ3
set_option maxRecDepth 10000 in
def g_Kept_init (B : Nat) (v0 : Nat) (v1 : Option Nat) (v2 : Int32) (v3 : Int32)  (μ : JMem) : Option JMem :=
  obd (jpF B 3 0 v0 (rv v1) μ) fun μ1 =>
  if 0 ≤ v2 then (
    g_Kept_init_21 B v0 v3 (v2 * (3 : Int32)) v0 μ1)
  else
    g_Kept_init_21 B v0 v3 (0 : Int32) v0 μ1
/-! FilterBench$Kept.shape(ILFilterBench$Chain;)V -/
set_option maxRecDepth 10000 in
def g_Kept_shape (B : Nat) (v0 : Nat) (v1 : Int32) (v2 : Option Nat)  (μ : JMem) : Option JMem :=
  if (v1 * (3 : Int32)) < 0 then (
    some μ)
  else
    obd (jgA μ.1 v0 3 1) fun x1 =>
    obd x1 fun a2 =>
    obd (jal μ.1 a2) fun x3 =>
    if x3 ≤ ((v1 * (3 : Int32)) + (2 : Int32)) then (
      some μ)
    else
      obd (jgA μ.1 v0 3 1) fun x4 =>
      obd v2 fun a5 =>
      obd (jgI μ.1 a5 1 0) fun x6 =>
      obd x4 fun a7 =>
      obd (jpA B .int a7 (v1 * (3 : Int32)) (.int x6) μ) fun μ8 =>
      obd (jgA μ8.1 v0 3 1) fun x9 =>
      obd (jgI μ8.1 a5 1 2) fun x10 =>
      obd x9 fun a11 =>
      obd (jpA B .int a11 ((v1 * (3 : Int32)) + (1 : Int32)) (.int x10) μ8) fun μ12 =>
      obd (jgA μ12.1 v0 3 1) fun x13 =>
      obd (jgI μ12.1 a5 1 4) fun x14 =>
      obd x13 fun a15 =>
      obd (jpA B .int a15 ((v1 * (3 : Int32)) + (2 : Int32)) (.int x14) μ12) fun μ16 =>
      some μ16
/-! FilterBench.keep(I)I -/
set_option maxRecDepth 10000 in
def g_B_keep_85 (N : Nat) (B : Nat) (k43 : Nat → Nat → Int32 → Int32 → Int32 → JMem → Option (Int32 × JMem)) (v0 : Nat) (v2 : Nat) (v3 : Int32) (v5 : Int32) (s0 : Int32) (s1 : Int32)  (μ : JMem) : Option (Int32 × JMem) :=
  k43 v0 v2 v3 (s1 + s0) (v5 + 1) μ
set_option maxRecDepth 10000 in
def g_B_keep_172 (N : Nat) (B : Nat) (k113 : Nat → Int32 → Nat → Int32 → Int32 → JMem → Option (Int32 × JMem)) (v0 : Nat) (v3 : Int32) (v5 : Nat) (v6 : Int32) (v7 : Int32)  (μ : JMem) : Option (Int32 × JMem) :=
  k113 v0 v3 v5 v6 (v7 + 1) μ
set_option maxRecDepth 10000 in
def g_B_keep_178 (N : Nat) (B : Nat) (v0 : Nat) (v5 : Nat)  (μ : JMem) : Option (Int32 × JMem) :=
  obd (jgA μ.1 v0 0 7) fun x1 =>
  obd (jgI μ.1 v0 0 8) fun x2 =>
  obd x1 fun a3 =>
  obd (jpO B a3 x2 v5 μ) fun μ4 =>
  obd (jgI μ4.1 v0 0 8) fun x5 =>
  obd (jpF B 0 8 v0 (.int (x5 + (1 : Int32))) μ4) fun μ6 =>
  obd (jgI μ6.1 v0 0 8) fun x7 =>
  some ((x7 - (1 : Int32)), μ6)
set_option maxRecDepth 10000 in
def g_B_keep_113 (N : Nat) (B : Nat) : Nat → Nat → Int32 → Nat → Int32 → Int32 → JMem → Option (Int32 × JMem)
  | 0, _, _, _, _, _, _ => none
  | n + 1, v0, v3, v5, v6, v7, μ =>
    if v3 ≤ v7 then (
      g_B_keep_178 N B v0 v5 μ)
    else
      obd (jgA μ.1 v0 0 9) fun x1 =>
      obd x1 fun a2 =>
      obd (jal μ.1 a2) fun x3 =>
      if x3 ≤ v7 then (
        g_B_keep_178 N B v0 v5 μ)
      else
        obd (jgA μ.1 v0 0 9) fun x4 =>
        obd x4 fun a5 =>
        obd (jaA μ.1 a5 v7) fun x6 =>
        jon x6 (
          g_B_keep_172 N B (g_B_keep_113 N B n) v0 v3 v5 v6 v7 μ)
        fun a7 =>
          obd (jgA μ.1 v0 0 9) fun x8 =>
          obd x8 fun a9 =>
          obd (jaA μ.1 a9 v7) fun x10 =>
          jgd (jobC 3 (μ.1 v5)) <|
          obd (g_Kept_shape B v5 v7 x10 μ) fun μ12 =>
          obd (jgA μ12.1 v0 0 9) fun x13 =>
          obd x13 fun a14 =>
          obd (jaA μ12.1 a14 v7) fun x15 =>
          obd (jgA μ12.1 v5 3 2) fun x16 =>
          obd x15 fun a17 =>
          jgd (jobC 1 (μ12.1 a17)) <|
          jbd2 (g_Chain_save N B a17 x16 v6 μ12) fun x19 μ20 =>
          g_B_keep_172 N B (g_B_keep_113 N B n) v0 v3 v5 x19 v7 μ20
set_option maxRecDepth 10000 in
def g_B_keep_94 (N : Nat) (B : Nat) (v0 : Nat) (v2 : Nat) (v3 : Int32) (v4 : Int32)  (μ : JMem) : Option (Int32 × JMem) :=
  jnew 3 μ fun a1 μ2 =>
  obd (g_Kept_init B a1 (some v2) v3 v4 μ2) fun μ3 =>
  g_B_keep_113 N B N v0 v3 a1 (0 : Int32) (0 : Int32) μ3
set_option maxRecDepth 10000 in
def g_B_keep_43 (N : Nat) (B : Nat) : Nat → Nat → Nat → Int32 → Int32 → Int32 → JMem → Option (Int32 × JMem)
  | 0, _, _, _, _, _, _ => none
  | n + 1, v0, v2, v3, v4, v5, μ =>
    if v3 ≤ v5 then (
      g_B_keep_94 N B v0 v2 v3 v4 μ)
    else
      obd (jgA μ.1 v0 0 9) fun x1 =>
      obd x1 fun a2 =>
      obd (jal μ.1 a2) fun x3 =>
      if x3 ≤ v5 then (
        g_B_keep_94 N B v0 v2 v3 v4 μ)
      else
        obd (jgA μ.1 v0 0 9) fun x4 =>
        obd x4 fun a5 =>
        obd (jaA μ.1 a5 v5) fun x6 =>
        jon x6 (
          g_B_keep_85 N B (g_B_keep_43 N B n) v0 v2 v3 v5 (0 : Int32) v4 μ)
        fun a7 =>
          obd (jgA μ.1 v0 0 9) fun x8 =>
          obd x8 fun a9 =>
          obd (jaA μ.1 a9 v5) fun x10 =>
          obd x10 fun a11 =>
          jgd (jobC 1 (μ.1 a11)) <|
          obd (g_Chain_valueCount N a11 μ.1) fun x13 =>
          g_B_keep_85 N B (g_B_keep_43 N B n) v0 v2 v3 v5 x13 v4 μ
set_option maxRecDepth 10000 in
def g_B_keep (N : Nat) (B : Nat) (v0 : Nat) (v1 : Int32)  (μ : JMem) : Option (Int32 × JMem) :=
  jgd (jobC 0 (μ.1 v0)) <|
  obd (g_B_chainAt v0 v1 μ.1) fun x2 =>
  jon x2 (
    some ((-1 : Int32), μ))
  fun a3 =>
    obd (jgI μ.1 v0 0 8) fun x4 =>
    if x4 < 0 then (
      some ((-1 : Int32), μ))
    else
      obd (jgI μ.1 v0 0 8) fun x5 =>
      obd (jgA μ.1 v0 0 7) fun x6 =>
      obd x6 fun a7 =>
      obd (jal μ.1 a7) fun x8 =>
      if x5 < x8 then (
        jgd (jobC 0 (μ.1 v0)) <|
        jbd2 (g_B_gather N B v0 (some a3) μ) fun x10 μ11 =>
        g_B_keep_43 N B N v0 a3 x10 (0 : Int32) (0 : Int32) μ11)
      else
        some ((-1 : Int32), μ)
/-! FilterBench$Kept.chainCount()I -/
set_option maxRecDepth 10000 in
def g_Kept_chainCount (v0 : Nat)  (h : Nat → Option JCell) : Option Int32 :=
  obd (jgA h v0 3 1) fun x1 =>
  obd x1 fun a2 =>
  obd (jal h a2) fun x3 =>
  some (x3 / (3 : Int32))
/-! FilterBench$Kept.isShaped(ILFilterBench$Chain;)Z -/
set_option maxRecDepth 10000 in
def g_Kept_isShaped (v0 : Nat) (v1 : Int32) (v2 : Option Nat)  (h : Nat → Option JCell) : Option Bool :=
  if (v1 * (3 : Int32)) < 0 then (
    some false)
  else
    obd (jgA h v0 3 1) fun x1 =>
    obd x1 fun a2 =>
    obd (jal h a2) fun x3 =>
    if x3 ≤ ((v1 * (3 : Int32)) + (2 : Int32)) then (
      some false)
    else
      obd (jgA h v0 3 1) fun x4 =>
      obd x4 fun a5 =>
      obd (jaI h a5 (v1 * (3 : Int32))) fun x6 =>
      obd v2 fun a7 =>
      obd (jgI h a7 1 0) fun x8 =>
      if x6 = x8 then (
        obd (jgA h v0 3 1) fun x9 =>
        obd x9 fun a10 =>
        obd (jaI h a10 ((v1 * (3 : Int32)) + (1 : Int32))) fun x11 =>
        obd (jgI h a7 1 2) fun x12 =>
        if x11 = x12 then (
          obd (jgA h v0 3 1) fun x13 =>
          obd x13 fun a14 =>
          obd (jaI h a14 ((v1 * (3 : Int32)) + (2 : Int32))) fun x15 =>
          obd (jgI h a7 1 4) fun x16 =>
          if x15 = x16 then (
            some true)
          else
            some false)
        else
          some false)
      else
        some false
/-! FilterBench.gatherAsKept(LFilterBench$Kept;)Z -/
set_option maxRecDepth 10000 in
def g_B_gatherAsKept_21 (N : Nat) (B : Nat) : Nat → Nat → Nat → Int32 → Int32 → JMem → Option (Bool × JMem)
  | 0, _, _, _, _, _ => none
  | n + 1, v0, v1, v2, v3, μ =>
    if v2 ≤ v3 then (
      some (true, μ))
    else
      obd (jgA μ.1 v0 0 9) fun x1 =>
      obd x1 fun a2 =>
      obd (jal μ.1 a2) fun x3 =>
      if x3 ≤ v3 then (
        some (true, μ))
      else
        obd (jgA μ.1 v0 0 9) fun x4 =>
        obd x4 fun a5 =>
        obd (jaA μ.1 a5 v3) fun x6 =>
        jon x6 (
          some (false, μ))
        fun a7 =>
          obd (jgA μ.1 v0 0 9) fun x8 =>
          obd x8 fun a9 =>
          obd (jaA μ.1 a9 v3) fun x10 =>
          jgd (jobC 3 (μ.1 v1)) <|
          obd (g_Kept_isShaped v1 v3 x10 μ.1) fun x12 =>
          if x12 = true then (
            g_B_gatherAsKept_21 N B n v0 v1 v2 (v3 + 1) μ)
          else
            some (false, μ)
set_option maxRecDepth 10000 in
def g_B_gatherAsKept (N : Nat) (B : Nat) (v0 : Nat) (v1 : Option Nat)  (μ : JMem) : Option (Bool × JMem) :=
  obd v1 fun a1 =>
  obd (jgA μ.1 a1 3 0) fun x2 =>
  jgd (jobC 0 (μ.1 v0)) <|
  jbd2 (g_B_gather N B v0 x2 μ) fun x4 μ5 =>
  jgd (jobC 3 (μ5.1 a1)) <|
  obd (g_Kept_chainCount a1 μ5.1) fun x7 =>
  if x4 = x7 then (
    g_B_gatherAsKept_21 N B N v0 a1 x4 (0 : Int32) μ5)
  else
    some (false, μ5)
/-! FilterBench.keptAt(I)LFilterBench$Kept; -/
set_option maxRecDepth 10000 in
def g_B_keptAt_21  (h : Nat → Option JCell) : Option (Option Nat) :=
  some none
set_option maxRecDepth 10000 in
def g_B_keptAt (v0 : Nat) (v1 : Int32)  (h : Nat → Option JCell) : Option (Option Nat) :=
  if v1 < 0 then (
    g_B_keptAt_21 h)
  else
    obd (jgI h v0 0 8) fun x1 =>
    if x1 ≤ v1 then (
      g_B_keptAt_21 h)
    else
      obd (jgA h v0 0 7) fun x2 =>
      obd x2 fun a3 =>
      obd (jal h a3) fun x4 =>
      if v1 < x4 then (
        obd (jgA h v0 0 7) fun x5 =>
        obd x5 fun a6 =>
        obd (jaA h a6 v1) fun x7 =>
        some x7)
      else
        g_B_keptAt_21 h
/-! FilterBench$Row.load([JI)I -/
set_option maxRecDepth 10000 in
def g_Row_load_35 (N : Nat) (B : Nat) (k2 : Nat → Option Nat → Int32 → Int32 → JMem → Option (Int32 × JMem)) (v0 : Nat) (v1 : Option Nat) (v2 : Int32) (v3 : Int32)  (μ : JMem) : Option (Int32 × JMem) :=
  k2 v0 v1 v2 (v3 + 1) μ
set_option maxRecDepth 10000 in
def g_Row_load_2 (N : Nat) (B : Nat) : Nat → Nat → Option Nat → Int32 → Int32 → JMem → Option (Int32 × JMem)
  | 0, _, _, _, _, _ => none
  | n + 1, v0, v1, v2, v3, μ =>
    obd (jgA μ.1 v0 6 0) fun x1 =>
    obd x1 fun a2 =>
    obd (jal μ.1 a2) fun x3 =>
    if x3 ≤ v3 then (
      obd (jgA μ.1 v0 6 0) fun x4 =>
      obd x4 fun a5 =>
      obd (jal μ.1 a5) fun x6 =>
      some ((v2 + x6), μ))
    else
      if (v2 + v3) < 0 then (
        g_Row_load_35 N B (g_Row_load_2 N B n) v0 v1 v2 v3 μ)
      else
        obd v1 fun a7 =>
        obd (jal μ.1 a7) fun x8 =>
        if x8 ≤ (v2 + v3) then (
          g_Row_load_35 N B (g_Row_load_2 N B n) v0 (some a7) v2 v3 μ)
        else
          obd (jaJ μ.1 a7 (v2 + v3)) fun x9 =>
          jgd (jobC 6 (μ.1 v0)) <|
          obd (g_Row_put B v0 v3 x9 μ) fun μ11 =>
          g_Row_load_35 N B (g_Row_load_2 N B n) v0 (some a7) v2 v3 μ11
set_option maxRecDepth 10000 in
def g_Row_load (N : Nat) (B : Nat) (v0 : Nat) (v1 : Option Nat) (v2 : Int32)  (μ : JMem) : Option (Int32 × JMem) :=
  g_Row_load_2 N B N v0 v1 v2 (0 : Int32) μ
/-! FilterBench$Chain.load([JI)I -/
set_option maxRecDepth 10000 in
def g_Chain_load_38 (N : Nat) (B : Nat) (k5 : Nat → Option Nat → Int32 → Int32 → JMem → Option (Int32 × JMem)) (v0 : Nat) (v1 : Option Nat) (v4 : Int32) (s0 : Int32)  (μ : JMem) : Option (Int32 × JMem) :=
  k5 v0 v1 s0 (v4 + 1) μ
set_option maxRecDepth 10000 in
def g_Chain_load_5 (N : Nat) (B : Nat) : Nat → Nat → Option Nat → Int32 → Int32 → JMem → Option (Int32 × JMem)
  | 0, _, _, _, _, _ => none
  | n + 1, v0, v1, v3, v4, μ =>
    jgd (jobC 1 (μ.1 v0)) <|
    obd (g_Chain_rowCount v0 μ.1) fun x2 =>
    if x2 ≤ v4 then (
      some (v3, μ))
    else
      jgd (jobC 1 (μ.1 v0)) <|
      obd (g_Chain_rowAt v0 v4 μ.1) fun x4 =>
      jon x4 (
        g_Chain_load_38 N B (g_Chain_load_5 N B n) v0 v1 v4 v3 μ)
      fun a5 =>
        jgd (jobC 6 (μ.1 a5)) <|
        jbd2 (g_Row_load N B a5 v1 v3 μ) fun x7 μ8 =>
        g_Chain_load_38 N B (g_Chain_load_5 N B n) v0 v1 v4 x7 μ8
set_option maxRecDepth 10000 in
def g_Chain_load (N : Nat) (B : Nat) (v0 : Nat) (v1 : Option Nat) (v2 : Int32)  (μ : JMem) : Option (Int32 × JMem) :=
  g_Chain_load_5 N B N v0 v1 v2 (0 : Int32) μ
/-! FilterBench.back(I)Z -/
set_option maxRecDepth 10000 in
def g_B_back_70 (N : Nat) (B : Nat) (k25 : Nat → Nat → Int32 → Int32 → JMem → Option (Bool × JMem)) (v0 : Nat) (v2 : Nat) (v3 : Int32) (v4 : Int32)  (μ : JMem) : Option (Bool × JMem) :=
  k25 v0 v2 v3 (v4 + 1) μ
set_option maxRecDepth 10000 in
def g_B_back_25 (N : Nat) (B : Nat) : Nat → Nat → Nat → Int32 → Int32 → JMem → Option (Bool × JMem)
  | 0, _, _, _, _, _ => none
  | n + 1, v0, v2, v3, v4, μ =>
    jgd (jobC 3 (μ.1 v2)) <|
    obd (g_Kept_chainCount v2 μ.1) fun x2 =>
    if x2 ≤ v4 then (
      some (true, μ))
    else
      obd (jgA μ.1 v0 0 9) fun x3 =>
      obd x3 fun a4 =>
      obd (jal μ.1 a4) fun x5 =>
      if x5 ≤ v4 then (
        some (true, μ))
      else
        obd (jgA μ.1 v0 0 9) fun x6 =>
        obd x6 fun a7 =>
        obd (jaA μ.1 a7 v4) fun x8 =>
        jon x8 (
          g_B_back_70 N B (g_B_back_25 N B n) v0 v2 v3 v4 μ)
        fun a9 =>
          obd (jgA μ.1 v0 0 9) fun x10 =>
          obd x10 fun a11 =>
          obd (jaA μ.1 a11 v4) fun x12 =>
          obd (jgA μ.1 v2 3 2) fun x13 =>
          obd x12 fun a14 =>
          jgd (jobC 1 (μ.1 a14)) <|
          jbd2 (g_Chain_load N B a14 x13 v3 μ) fun x16 μ17 =>
          g_B_back_70 N B (g_B_back_25 N B n) v0 v2 x16 v4 μ17
set_option maxRecDepth 10000 in
def g_B_back (N : Nat) (B : Nat) (v0 : Nat) (v1 : Int32)  (μ : JMem) : Option (Bool × JMem) :=
  jgd (jobC 0 (μ.1 v0)) <|
  obd (g_B_keptAt v0 v1 μ.1) fun x2 =>
  jon x2 (
    some (false, μ))
  fun a3 =>
    jgd (jobC 0 (μ.1 v0)) <|
    jbd2 (g_B_gatherAsKept N B v0 (some a3) μ) fun x5 μ6 =>
    if x5 = true then (
      g_B_back_25 N B N v0 a3 (0 : Int32) (0 : Int32) μ6)
    else
      some (false, μ6)
/-! FilterBench$Row.holdsValues([JI)Z -/
set_option maxRecDepth 10000 in
def g_Row_holdsValues_2 (N : Nat) : Nat → Nat → Option Nat → Int32 → Int32 → (Nat → Option JCell) → Option Bool
  | 0, _, _, _, _, _ => none
  | n + 1, v0, v1, v2, v3, h =>
    obd (jgA h v0 6 0) fun x1 =>
    obd x1 fun a2 =>
    obd (jal h a2) fun x3 =>
    if x3 ≤ v3 then (
      some true)
    else
      if (v2 + v3) < 0 then (
        some false)
      else
        obd v1 fun a4 =>
        obd (jal h a4) fun x5 =>
        if x5 ≤ (v2 + v3) then (
          some false)
        else
          obd (jaJ h a4 (v2 + v3)) fun x6 =>
          jgd (jobC 6 (h v0)) <|
          obd (g_Row_at v0 v3 h) fun x8 =>
          if x6 = x8 then (
            g_Row_holdsValues_2 N n v0 (some a4) v2 (v3 + 1) h)
          else
            some false
set_option maxRecDepth 10000 in
def g_Row_holdsValues (N : Nat) (v0 : Nat) (v1 : Option Nat) (v2 : Int32)  (h : Nat → Option JCell) : Option Bool :=
  g_Row_holdsValues_2 N N v0 v1 v2 (0 : Int32) h
/-! FilterBench$Chain.holdsValues([JI)Z -/
set_option maxRecDepth 10000 in
def g_Chain_holdsValues_5 (N : Nat) : Nat → Nat → Option Nat → Int32 → Int32 → (Nat → Option JCell) → Option Bool
  | 0, _, _, _, _, _ => none
  | n + 1, v0, v1, v3, v4, h =>
    jgd (jobC 1 (h v0)) <|
    obd (g_Chain_rowCount v0 h) fun x2 =>
    if x2 ≤ v4 then (
      some true)
    else
      jgd (jobC 1 (h v0)) <|
      obd (g_Chain_rowAt v0 v4 h) fun x4 =>
      jon x4 (
        some false)
      fun a5 =>
        jgd (jobC 6 (h a5)) <|
        obd (g_Row_holdsValues N a5 v1 v3 h) fun x7 =>
        if x7 = true then (
          jgd (jobC 6 (h a5)) <|
          obd (g_Row_size a5 h) fun x9 =>
          g_Chain_holdsValues_5 N n v0 v1 (v3 + x9) (v4 + 1) h)
        else
          some false
set_option maxRecDepth 10000 in
def g_Chain_holdsValues (N : Nat) (v0 : Nat) (v1 : Option Nat) (v2 : Int32)  (h : Nat → Option JCell) : Option Bool :=
  g_Chain_holdsValues_5 N N v0 v1 v2 (0 : Int32) h
/-! FilterBench.same(I)Z -/
set_option maxRecDepth 10000 in
def g_B_same_25 (N : Nat) (B : Nat) : Nat → Nat → Nat → Int32 → Int32 → JMem → Option (Bool × JMem)
  | 0, _, _, _, _, _ => none
  | n + 1, v0, v2, v3, v4, μ =>
    jgd (jobC 3 (μ.1 v2)) <|
    obd (g_Kept_chainCount v2 μ.1) fun x2 =>
    if x2 ≤ v4 then (
      some (true, μ))
    else
      obd (jgA μ.1 v0 0 9) fun x3 =>
      obd x3 fun a4 =>
      obd (jal μ.1 a4) fun x5 =>
      if x5 ≤ v4 then (
        some (true, μ))
      else
        obd (jgA μ.1 v0 0 9) fun x6 =>
        obd x6 fun a7 =>
        obd (jaA μ.1 a7 v4) fun x8 =>
        jon x8 (
          some (false, μ))
        fun a9 =>
          obd (jgA μ.1 v0 0 9) fun x10 =>
          obd x10 fun a11 =>
          obd (jaA μ.1 a11 v4) fun x12 =>
          obd (jgA μ.1 v2 3 2) fun x13 =>
          obd x12 fun a14 =>
          jgd (jobC 1 (μ.1 a14)) <|
          obd (g_Chain_holdsValues N a14 x13 v3 μ.1) fun x16 =>
          if x16 = true then (
            obd (jgA μ.1 v0 0 9) fun x17 =>
            obd x17 fun a18 =>
            obd (jaA μ.1 a18 v4) fun x19 =>
            obd x19 fun a20 =>
            jgd (jobC 1 (μ.1 a20)) <|
            obd (g_Chain_valueCount N a20 μ.1) fun x22 =>
            g_B_same_25 N B n v0 v2 (v3 + x22) (v4 + 1) μ)
          else
            some (false, μ)
set_option maxRecDepth 10000 in
def g_B_same (N : Nat) (B : Nat) (v0 : Nat) (v1 : Int32)  (μ : JMem) : Option (Bool × JMem) :=
  jgd (jobC 0 (μ.1 v0)) <|
  obd (g_B_keptAt v0 v1 μ.1) fun x2 =>
  jon x2 (
    some (false, μ))
  fun a3 =>
    jgd (jobC 0 (μ.1 v0)) <|
    jbd2 (g_B_gatherAsKept N B v0 (some a3) μ) fun x5 μ6 =>
    if x5 = true then (
      g_B_same_25 N B N v0 a3 (0 : Int32) (0 : Int32) μ6)
    else
      some (false, μ6)
/-! FilterBench.comparedToOnePlus(JJ)I -/
set_option maxRecDepth 10000 in
def g_B_comparedToOnePlus (v0 : Nat) (v1 : Int64) (v3 : Int64)  (h : Nat → Option JCell) : Option Int32 :=
  obd (jgA h v0 0 0) fun x1 =>
  obd x1 fun a2 =>
  jgd (jobC 5 (h a2)) <|
  obd (g_Real_compared a2 v1 (4611686018427387904 : Int64) h) fun x4 =>
  if x4 ≤ 0 then (
    obd (jgA h v0 0 0) fun x5 =>
    obd x5 fun a6 =>
    jgd (jobC 5 (h a6)) <|
    obd (g_Real_compared a6 v1 (4602678819172646912 : Int64) h) fun x8 =>
    if x8 < 0 then (
      obd (jgA h v0 0 0) fun x9 =>
      obd (jgA h v0 0 0) fun x10 =>
      obd x10 fun a11 =>
      jgd (jobC 5 (h a11)) <|
      obd (g_Real_negative a11 (4602678819172646912 : Int64) h) fun x13 =>
      obd x9 fun a14 =>
      jgd (jobC 5 (h a14)) <|
      obd (g_Real_compared a14 v3 x13 h) fun x16 =>
      if x16 ≤ 0 then (
        obd (jgA h v0 0 0) fun x17 =>
        obd (jgA h v0 0 0) fun x18 =>
        obd x18 fun a19 =>
        jgd (jobC 5 (h a19)) <|
        obd (g_Real_plus a19 v3 (4607182418800017408 : Int64) h) fun x21 =>
        obd x17 fun a22 =>
        jgd (jobC 5 (h a22)) <|
        obd (g_Real_compared a22 x21 v1 h) fun x24 =>
        some x24)
      else
        some (1 : Int32))
    else
      obd (jgA h v0 0 0) fun x25 =>
      obd (jgA h v0 0 0) fun x26 =>
      obd (jgA h v0 0 0) fun x27 =>
      obd x27 fun a28 =>
      jgd (jobC 5 (h a28)) <|
      obd (g_Real_negative a28 (4607182418800017408 : Int64) h) fun x30 =>
      obd x26 fun a31 =>
      jgd (jobC 5 (h a31)) <|
      obd (g_Real_plus a31 v1 x30 h) fun x33 =>
      obd x25 fun a34 =>
      jgd (jobC 5 (h a34)) <|
      obd (g_Real_compared a34 v3 x33 h) fun x36 =>
      some x36)
  else
    some (-1 : Int32)
/-! FilterBench.judged(I)I -/
set_option maxRecDepth 10000 in
def g_B_judged (v0 : Int32)  : Int32 :=
  if v0 ≤ 0 then (
    if v0 = 0 then (
      (2 : Int32))
    else
      (0 : Int32))
  else
    (1 : Int32)
/-! FilterBench$Real.isFinite(J)Z -/
set_option maxRecDepth 10000 in
def g_Real_isFinite (v0 : Nat) (v1 : Int64)  (h : Nat → Option JCell) : Option Bool :=
  obd (jgJ h v0 5 4) fun x1 =>
  obd (jgJ h v0 5 5) fun x2 =>
  if x2 ≤ (v1 &&& (x1 ^^^ (-1 : Int64))) then (
    some false)
  else
    some true
/-! FilterBench.judgedPair(JJ)I -/
set_option maxRecDepth 10000 in
def g_B_judgedPair_80 (s0 : Int32)  (h : Nat → Option JCell) : Option Int32 :=
  some (g_B_judged s0)
set_option maxRecDepth 10000 in
def g_B_judgedPair (v0 : Nat) (v1 : Int64) (v3 : Int64)  (h : Nat → Option JCell) : Option Int32 :=
  obd (jgA h v0 0 0) fun x1 =>
  obd x1 fun a2 =>
  jgd (jobC 5 (h a2)) <|
  obd (g_Real_isFinite a2 v1 h) fun x4 =>
  if x4 = true then (
    obd (jgA h v0 0 0) fun x5 =>
    obd x5 fun a6 =>
    jgd (jobC 5 (h a6)) <|
    obd (g_Real_isFinite a6 v3 h) fun x8 =>
    if x8 = true then (
      obd (jgA h v0 0 0) fun x9 =>
      obd (jgA h v0 0 0) fun x10 =>
      obd x10 fun a11 =>
      jgd (jobC 5 (h a11)) <|
      obd (g_Real_sizeOf a11 v3 h) fun x13 =>
      obd x9 fun a14 =>
      jgd (jobC 5 (h a14)) <|
      obd (g_Real_compared a14 (4607182418800017408 : Int64) x13 h) fun x16 =>
      if 0 ≤ x16 then (
        obd (jgA h v0 0 0) fun x17 =>
        obd x17 fun a18 =>
        jgd (jobC 5 (h a18)) <|
        obd (g_Real_sizeOf a18 v1 h) fun x20 =>
        jgd (jobC 0 (h v0)) <|
        obd (g_B_comparedToOnePlus v0 x20 v3 h) fun x22 =>
        if x16 ≤ x22 then (
          g_B_judgedPair_80 x16 h)
        else
          g_B_judgedPair_80 x22 h)
      else
        some (0 : Int32))
    else
      some (0 : Int32))
  else
    some (0 : Int32)
/-! FilterBench.judgedPole(J)I -/
set_option maxRecDepth 10000 in
def g_B_judgedPole (v0 : Nat) (v1 : Int64)  (h : Nat → Option JCell) : Option Int32 :=
  obd (jgA h v0 0 0) fun x1 =>
  obd x1 fun a2 =>
  jgd (jobC 5 (h a2)) <|
  obd (g_Real_isFinite a2 v1 h) fun x4 =>
  if x4 = true then (
    obd (jgA h v0 0 0) fun x5 =>
    obd (jgA h v0 0 0) fun x6 =>
    obd x6 fun a7 =>
    jgd (jobC 5 (h a7)) <|
    obd (g_Real_sizeOf a7 v1 h) fun x9 =>
    obd x5 fun a10 =>
    jgd (jobC 5 (h a10)) <|
    obd (g_Real_compared a10 (4607182418800017408 : Int64) x9 h) fun x12 =>
    some (g_B_judged x12))
  else
    some (0 : Int32)
/-! FilterBench$Real.meaning(JZLFilterBench$Real;)J -/
set_option maxRecDepth 10000 in
def g_Real_meaning_e (v0 : Nat) (v1 : Int64) (v4 : Option Nat)  (h : Nat → Option JCell) : Option Int64 :=
  obd v4 fun a1 =>
  jgd (jobC 5 (h a1)) <|
  obd (g_Real_taken a1 (some v0) v1 h) fun x3 =>
  some x3
set_option maxRecDepth 10000 in
def g_Real_meaning (v0 : Nat) (v1 : Int64) (v3 : Bool) (v4 : Option Nat)  (h : Nat → Option JCell) : Option Int64 := g_Real_meaning_e  v0 v1 v4 h
/-! FilterBench$Shorts.meaning(JZLFilterBench$Real;)J -/
set_option maxRecDepth 10000 in
def g_Shorts_meaning_13 (s0 : Int32) (s1 : Int64) (s2 : Option Nat)  (h : Nat → Option JCell) : Option Int64 :=
  obd s2 fun a1 =>
  jgd (jobC 5 (h a1)) <|
  obd (g_Real_scaled a1 s1 s0 h) fun x3 =>
  some x3
set_option maxRecDepth 10000 in
def g_Shorts_meaning_e (v1 : Int64) (v3 : Bool) (v4 : Option Nat)  (h : Nat → Option JCell) : Option Int64 :=
  if v3 = true then (
    g_Shorts_meaning_13 (0 : Int32) v1 v4 h)
  else
    g_Shorts_meaning_13 (-14 : Int32) v1 v4 h
set_option maxRecDepth 10000 in
def g_Shorts_meaning (v0 : Nat) (v1 : Int64) (v3 : Bool) (v4 : Option Nat)  (h : Nat → Option JCell) : Option Int64 := g_Shorts_meaning_e  v1 v3 v4 h
/-! FilterBench.meaningOf(LFilterBench$Section;I)J -/
set_option maxRecDepth 10000 in
def g_B_meaningOf (v0 : Nat) (v1 : Option Nat) (v2 : Int32)  (h : Nat → Option JCell) : Option Int64 :=
  obd v1 fun a1 =>
  obd (jgA h a1 7 4) fun x2 =>
  jgd (jobC 7 (h a1)) <|
  obd (g_Section_factor a1 v2 h) fun x4 =>
  jgd (jobC 7 (h a1)) <|
  obd (g_Section_takesWhole a1 h) fun x6 =>
  obd (jgA h v0 0 0) fun x7 =>
  obd x2 fun a8 =>
  obd (if jobC 5 (h a8) = true then g_Real_meaning a8 x4 x6 x7 h else jgd (jobC 8 (h a8)) (g_Shorts_meaning a8 x4 x6 x7 h)) fun x9 =>
  some x9
/-! FilterBench.poles(I)I -/
set_option maxRecDepth 10000 in
def g_B_poles_74 (v0 : Nat) (v2 : Nat)  (h : Nat → Option JCell) : Option Int32 :=
  jgd (jobC 0 (h v0)) <|
  obd (g_B_meaningOf v0 (some v2) (3 : Int32) h) fun x2 =>
  jgd (jobC 0 (h v0)) <|
  obd (g_B_meaningOf v0 (some v2) (4 : Int32) h) fun x4 =>
  jgd (jobC 0 (h v0)) <|
  obd (g_B_judgedPair v0 x2 x4 h) fun x6 =>
  some x6
set_option maxRecDepth 10000 in
def g_B_poles (v0 : Nat) (v1 : Int32)  (h : Nat → Option JCell) : Option Int32 :=
  jgd (jobC 0 (h v0)) <|
  obd (g_B_sectionAt v0 v1 h) fun x2 =>
  jon x2 (
    some (-1 : Int32))
  fun a3 =>
    obd (jgI h a3 7 1) fun x4 =>
    if x4 = 1 then (
      jgd (jobC 0 (h v0)) <|
      obd (g_B_meaningOf v0 (some a3) (1 : Int32) h) fun x6 =>
      jgd (jobC 0 (h v0)) <|
      obd (g_B_judgedPole v0 x6 h) fun x8 =>
      some x8)
    else
    if x4 = 2 then (
      g_B_poles_74 v0 a3 h)
    else
    if x4 = 3 then (
      g_B_poles_74 v0 a3 h)
    else
    if x4 = 4 then (
      g_B_poles_74 v0 a3 h)
    else
    if x4 = 5 then (
      jgd (jobC 0 (h v0)) <|
      obd (g_B_meaningOf v0 (some a3) (0 : Int32) h) fun x10 =>
      jgd (jobC 0 (h v0)) <|
      obd (g_B_judgedPole v0 x10 h) fun x12 =>
      some x12)
    else
    some (-1 : Int32)
/-! java/util/Arrays.fill([II)V -/
set_option maxRecDepth 10000 in
def g_JArrays_fill_2_5 (N : Nat) (B : Nat) : Nat → Nat → Int32 → Int32 → Int32 → JMem → Option JMem
  | 0, _, _, _, _, _ => none
  | n + 1, v0, v1, v2, v3, μ =>
    if v3 ≤ v2 then (
      some μ)
    else
      obd (jpA B .int v0 v2 (.int v1) μ) fun μ1 =>
      g_JArrays_fill_2_5 N B n v0 v1 (v2 + 1) v3 μ1
set_option maxRecDepth 10000 in
def g_JArrays_fill_2 (N : Nat) (B : Nat) (v0 : Option Nat) (v1 : Int32)  (μ : JMem) : Option JMem :=
  obd v0 fun a1 =>
  obd (jal μ.1 a1) fun x2 =>
  g_JArrays_fill_2_5 N B N a1 v1 (0 : Int32) x2 μ
/-! FilterBench$DeadCycles.begin()V -/
set_option maxRecDepth 10000 in
def g_DeadCycles_begin_14 (N : Nat) (B : Nat) (v0 : Nat)  (μ : JMem) : Option JMem :=
  jbd2 (jnA .int (65536 : Int32) μ) fun a1 μ2 =>
  obd (jpF B 2 5 v0 (rv (some a1)) μ2) fun μ3 =>
  jbd2 (jnA .long (65536 : Int32) μ3) fun a4 μ5 =>
  obd (jpF B 2 6 v0 (rv (some a4)) μ5) fun μ6 =>
  some μ6
set_option maxRecDepth 10000 in
def g_DeadCycles_begin (N : Nat) (B : Nat) (v0 : Nat)  (μ : JMem) : Option JMem :=
  obd (jgA μ.1 v0 2 5) fun x1 =>
  jon x1 (
    g_DeadCycles_begin_14 N B v0 μ)
  fun a2 =>
    obd (jgA μ.1 v0 2 6) fun x3 =>
    jon x3 (
      g_DeadCycles_begin_14 N B v0 μ)
    fun a4 =>
      obd (jgA μ.1 v0 2 5) fun x5 =>
      obd (g_JArrays_fill_2 N B x5 (0 : Int32) μ) fun μ6 =>
      obd (jgA μ6.1 v0 2 6) fun x7 =>
      obd (g_JArrays_fill N B x7 (0 : Int64) μ6) fun μ8 =>
      some μ8
/-! FilterBench$DeadCycles.setOwner(II)V -/
set_option maxRecDepth 10000 in
def g_DeadCycles_setOwner (B : Nat) (v0 : Nat) (v1 : Int32) (v2 : Int32)  (μ : JMem) : Option JMem :=
  obd (jgA μ.1 v0 2 5) fun x1 =>
  jon x1 (
    some μ)
  fun a2 =>
    if v1 < 0 then (
      some μ)
    else
      obd (jgA μ.1 v0 2 5) fun x3 =>
      obd x3 fun a4 =>
      obd (jal μ.1 a4) fun x5 =>
      if x5 ≤ v1 then (
        some μ)
      else
        obd (jgA μ.1 v0 2 5) fun x6 =>
        obd x6 fun a7 =>
        obd (jpA B .int a7 v1 (.int v2) μ) fun μ8 =>
        some μ8
/-! FilterBench$DeadCycles.setTally(IJ)V -/
set_option maxRecDepth 10000 in
def g_DeadCycles_setTally (B : Nat) (v0 : Nat) (v1 : Int32) (v2 : Int64)  (μ : JMem) : Option JMem :=
  obd (jgA μ.1 v0 2 6) fun x1 =>
  jon x1 (
    some μ)
  fun a2 =>
    if v1 < 0 then (
      some μ)
    else
      obd (jgA μ.1 v0 2 6) fun x3 =>
      obd x3 fun a4 =>
      obd (jal μ.1 a4) fun x5 =>
      if x5 ≤ v1 then (
        some μ)
      else
        obd (jgA μ.1 v0 2 6) fun x6 =>
        obd x6 fun a7 =>
        obd (jpA B .long a7 v1 (.long v2) μ) fun μ8 =>
        some μ8
/-! FilterBench$DeadCycles.tallyOf(I)J -/
set_option maxRecDepth 10000 in
def g_DeadCycles_tallyOf_20  (h : Nat → Option JCell) : Option Int64 :=
  some (0 : Int64)
set_option maxRecDepth 10000 in
def g_DeadCycles_tallyOf (v0 : Nat) (v1 : Int32)  (h : Nat → Option JCell) : Option Int64 :=
  obd (jgA h v0 2 6) fun x1 =>
  jon x1 (
    g_DeadCycles_tallyOf_20 h)
  fun a2 =>
    if v1 < 0 then (
      g_DeadCycles_tallyOf_20 h)
    else
      obd (jgA h v0 2 6) fun x3 =>
      obd x3 fun a4 =>
      obd (jal h a4) fun x5 =>
      if v1 < x5 then (
        obd (jgA h v0 2 6) fun x6 =>
        obd x6 fun a7 =>
        obd (jaJ h a7 v1) fun x8 =>
        some x8)
      else
        g_DeadCycles_tallyOf_20 h
/-! FilterBench$DeadCycles.gatherFound()V -/
set_option maxRecDepth 10000 in
def g_DeadCycles_gatherFound_55 (N : Nat) (B : Nat) (k7 : Nat → Int32 → JMem → Option JMem) (v0 : Nat) (v1 : Int32)  (μ : JMem) : Option JMem :=
  k7 v0 (v1 + 1) μ
set_option maxRecDepth 10000 in
def g_DeadCycles_gatherFound_7 (N : Nat) (B : Nat) : Nat → Nat → Int32 → JMem → Option JMem
  | 0, _, _, _ => none
  | n + 1, v0, v1, μ =>
    if (65536 : Int32) ≤ v1 then (
      some μ)
    else
      jgd (jobC 2 (μ.1 v0)) <|
      obd (g_DeadCycles_tallyOf v0 v1 μ.1) fun x2 =>
      if x2 = (0 : Int64) then (
        g_DeadCycles_gatherFound_55 N B (g_DeadCycles_gatherFound_7 N B n) v0 v1 μ)
      else
        obd (jgI μ.1 v0 2 4) fun x3 =>
        jgd (jobC 2 (μ.1 v0)) <|
        obd (g_DeadCycles_tallyOf v0 v1 μ.1) fun x5 =>
        jgd (jobC 2 (μ.1 v0)) <|
        obd (g_DeadCycles_setTally B v0 x3 x5 μ) fun μ7 =>
        obd (jgI μ7.1 v0 2 4) fun x8 =>
        jgd (jobC 2 (μ7.1 v0)) <|
        obd (g_DeadCycles_setOwner B v0 x8 v1 μ7) fun μ10 =>
        obd (jgI μ10.1 v0 2 4) fun x11 =>
        obd (jpF B 2 4 v0 (.int (x11 + (1 : Int32))) μ10) fun μ12 =>
        g_DeadCycles_gatherFound_55 N B (g_DeadCycles_gatherFound_7 N B n) v0 v1 μ12
set_option maxRecDepth 10000 in
def g_DeadCycles_gatherFound (N : Nat) (B : Nat) (v0 : Nat)  (μ : JMem) : Option JMem :=
  obd (jpF B 2 4 v0 (.int (0 : Int32)) μ) fun μ1 =>
  g_DeadCycles_gatherFound_7 N B N v0 (0 : Int32) μ1
/-! FilterBench$DeadCycles.ownerOf(I)I -/
set_option maxRecDepth 10000 in
def g_DeadCycles_ownerOf_20  (h : Nat → Option JCell) : Option Int32 :=
  some (0 : Int32)
set_option maxRecDepth 10000 in
def g_DeadCycles_ownerOf (v0 : Nat) (v1 : Int32)  (h : Nat → Option JCell) : Option Int32 :=
  obd (jgA h v0 2 5) fun x1 =>
  jon x1 (
    g_DeadCycles_ownerOf_20 h)
  fun a2 =>
    if v1 < 0 then (
      g_DeadCycles_ownerOf_20 h)
    else
      obd (jgA h v0 2 5) fun x3 =>
      obd x3 fun a4 =>
      obd (jal h a4) fun x5 =>
      if v1 < x5 then (
        obd (jgA h v0 2 5) fun x6 =>
        obd x6 fun a7 =>
        obd (jaI h a7 v1) fun x8 =>
        some x8)
      else
        g_DeadCycles_ownerOf_20 h
/-! FilterBench$DeadCycles.next(I)I -/
set_option maxRecDepth 10000 in
def g_DeadCycles_next_38 (s0 : Int64)  (h : Nat → Option JCell) : Option Int32 :=
  some ((Int64.toInt32 s0) - (-32768 : Int32))
set_option maxRecDepth 10000 in
def g_DeadCycles_next (v0 : Nat) (v1 : Int32)  (h : Nat → Option JCell) : Option Int32 :=
  obd (jgJ h v0 2 1) fun x1 =>
  obd (jgI h v0 2 2) fun x2 =>
  jlet (g_Shorts_rounded (x1 * (Int32.toInt64 (v1 + (-32768 : Int32)))) x2) fun (v2_3 : Int64) =>
  if (g_Shorts_isShort v2_3) = true then (
    g_DeadCycles_next_38 v2_3 h)
  else
    obd (jgI h v0 2 3) fun x4 =>
    g_DeadCycles_next_38 (g_Shorts_limited v2_3 x4) h
/-! java/lang/Math.min(II)I -/
set_option maxRecDepth 10000 in
def g_JMath_min (v0 : Int32) (v1 : Int32)  : Int32 :=
  if v1 < v0 then (
    v1)
  else
    v0
/-! FilterBench$DeadCycles.newCycle(I)I -/
set_option maxRecDepth 10000 in
def g_DeadCycles_newCycle_51 (N : Nat) (B : Nat) (v0 : Nat) (v2 : Int32) (v3 : Int32)  (μ : JMem) : Option (Int32 × JMem) :=
  jgd (jobC 2 (μ.1 v0)) <|
  obd (g_DeadCycles_setTally B v0 v2 (Int32.toInt64 v3) μ) fun μ2 =>
  some ((v2 + (1 : Int32)), μ2)
set_option maxRecDepth 10000 in
def g_DeadCycles_newCycle_14 (N : Nat) (B : Nat) : Nat → Nat → Int32 → Int32 → Int32 → Int32 → Int32 → JMem → Option (Int32 × JMem)
  | 0, _, _, _, _, _, _, _ => none
  | n + 1, v0, v1, v2, v3, v4, v5, μ =>
    if (65536 : Int32) ≤ v5 then (
      g_DeadCycles_newCycle_51 N B v0 v2 v3 μ)
    else
      if v4 = v1 then (
        g_DeadCycles_newCycle_51 N B v0 v2 v3 μ)
      else
        jgd (jobC 2 (μ.1 v0)) <|
        obd (g_DeadCycles_next v0 v4 μ.1) fun x2 =>
        g_DeadCycles_newCycle_14 N B n v0 v1 (g_JMath_min v2 v4) (v3 + 1) x2 (v5 + 1) μ
set_option maxRecDepth 10000 in
def g_DeadCycles_newCycle (N : Nat) (B : Nat) (v0 : Nat) (v1 : Int32)  (μ : JMem) : Option (Int32 × JMem) :=
  jgd (jobC 2 (μ.1 v0)) <|
  obd (g_DeadCycles_next v0 v1 μ.1) fun x2 =>
  g_DeadCycles_newCycle_14 N B N v0 v1 v1 (1 : Int32) x2 (0 : Int32) μ
/-! FilterBench$DeadCycles.walk(I)V -/
set_option maxRecDepth 10000 in
def g_DeadCycles_walk_112 (N : Nat) (B : Nat) (v0 : Nat) (v4 : Int32) (v5 : Int32)  (μ : JMem) : Option JMem :=
  jgd (jobC 2 (μ.1 v0)) <|
  obd (g_DeadCycles_tallyOf v0 (v4 - (1 : Int32)) μ.1) fun x2 =>
  jgd (jobC 2 (μ.1 v0)) <|
  obd (g_DeadCycles_setTally B v0 (v4 - (1 : Int32)) (x2 + ((Int32.toInt64 v5) <<< (Int32.toInt64 (32 : Int32) &&& 63))) μ) fun μ4 =>
  some μ4
set_option maxRecDepth 10000 in
def g_DeadCycles_walk_74 (N : Nat) (B : Nat) : Nat → Nat → Int32 → Int32 → Int32 → Int32 → Int32 → JMem → Option JMem
  | 0, _, _, _, _, _, _, _ => none
  | n + 1, v0, v2, v3, v4, v5, v6, μ =>
    if (65536 : Int32) ≤ v6 then (
      g_DeadCycles_walk_112 N B v0 v4 v5 μ)
    else
      jgd (jobC 2 (μ.1 v0)) <|
      obd (g_DeadCycles_ownerOf v0 v3 μ.1) fun x2 =>
      if x2 = v2 then (
        jgd (jobC 2 (μ.1 v0)) <|
        obd (g_DeadCycles_setOwner B v0 v3 v4 μ) fun μ4 =>
        jgd (jobC 2 (μ4.1 v0)) <|
        obd (g_DeadCycles_next v0 v3 μ4.1) fun x6 =>
        g_DeadCycles_walk_74 N B n v0 v2 x6 v4 (v5 + 1) (v6 + 1) μ4)
      else
        g_DeadCycles_walk_112 N B v0 v4 v5 μ
set_option maxRecDepth 10000 in
def g_DeadCycles_walk_64 (N : Nat) (B : Nat) (v0 : Nat) (v1 : Int32) (v2 : Int32) (s0 : Int32)  (μ : JMem) : Option JMem :=
  g_DeadCycles_walk_74 N B N v0 v2 v1 s0 (0 : Int32) (0 : Int32) μ
set_option maxRecDepth 10000 in
def g_DeadCycles_walk_42 (N : Nat) (B : Nat) (v0 : Nat) (v1 : Int32) (v2 : Int32) (v3 : Int32)  (μ : JMem) : Option JMem :=
  jgd (jobC 2 (μ.1 v0)) <|
  obd (g_DeadCycles_ownerOf v0 v3 μ.1) fun x2 =>
  if x2 = v2 then (
    jgd (jobC 2 (μ.1 v0)) <|
    jbd2 (g_DeadCycles_newCycle N B v0 v3 μ) fun x4 μ5 =>
    g_DeadCycles_walk_64 N B v0 v1 v2 x4 μ5)
  else
    jgd (jobC 2 (μ.1 v0)) <|
    obd (g_DeadCycles_ownerOf v0 v3 μ.1) fun x7 =>
    g_DeadCycles_walk_64 N B v0 v1 v2 x7 μ
set_option maxRecDepth 10000 in
def g_DeadCycles_walk_9 (N : Nat) (B : Nat) : Nat → Nat → Int32 → Int32 → Int32 → Int32 → JMem → Option JMem
  | 0, _, _, _, _, _, _ => none
  | n + 1, v0, v1, v2, v3, v4, μ =>
    if (65536 : Int32) ≤ v4 then (
      g_DeadCycles_walk_42 N B v0 v1 v2 v3 μ)
    else
      jgd (jobC 2 (μ.1 v0)) <|
      obd (g_DeadCycles_ownerOf v0 v3 μ.1) fun x2 =>
      if x2 = 0 then (
        jgd (jobC 2 (μ.1 v0)) <|
        obd (g_DeadCycles_setOwner B v0 v3 v2 μ) fun μ4 =>
        jgd (jobC 2 (μ4.1 v0)) <|
        obd (g_DeadCycles_next v0 v3 μ4.1) fun x6 =>
        g_DeadCycles_walk_9 N B n v0 v1 v2 x6 (v4 + 1) μ4)
      else
        g_DeadCycles_walk_42 N B v0 v1 v2 v3 μ
set_option maxRecDepth 10000 in
def g_DeadCycles_walk (N : Nat) (B : Nat) (v0 : Nat) (v1 : Int32)  (μ : JMem) : Option JMem :=
  g_DeadCycles_walk_9 N B N v0 v1 ((-1 : Int32) - v1) v1 (0 : Int32) μ
/-! FilterBench$DeadCycles.look(LFilterBench$Section;)Z -/
set_option maxRecDepth 10000 in
def g_DeadCycles_look_129 (N : Nat) (B : Nat) (k110 : Nat → Int32 → JMem → Option (Bool × JMem)) (v0 : Nat) (v2 : Int32)  (μ : JMem) : Option (Bool × JMem) :=
  k110 v0 (v2 + 1) μ
set_option maxRecDepth 10000 in
def g_DeadCycles_look_110 (N : Nat) (B : Nat) : Nat → Nat → Int32 → JMem → Option (Bool × JMem)
  | 0, _, _, _ => none
  | n + 1, v0, v2, μ =>
    if (65536 : Int32) ≤ v2 then (
      jgd (jobC 2 (μ.1 v0)) <|
      obd (g_DeadCycles_gatherFound N B v0 μ) fun μ2 =>
      some (true, μ2))
    else
      jgd (jobC 2 (μ.1 v0)) <|
      obd (g_DeadCycles_ownerOf v0 v2 μ.1) fun x4 =>
      if x4 = 0 then (
        jgd (jobC 2 (μ.1 v0)) <|
        obd (g_DeadCycles_walk N B v0 v2 μ) fun μ6 =>
        g_DeadCycles_look_129 N B (g_DeadCycles_look_110 N B n) v0 v2 μ6)
      else
        g_DeadCycles_look_129 N B (g_DeadCycles_look_110 N B n) v0 v2 μ
set_option maxRecDepth 10000 in
def g_DeadCycles_look_74 (N : Nat) (B : Nat) (v0 : Nat) (v1 : Nat)  (μ : JMem) : Option (Bool × JMem) :=
  obd (jpF B 2 0 v0 (.int (jb true)) μ) fun μ1 =>
  jgd (jobC 7 (μ1.1 v1)) <|
  obd (g_Section_factor v1 (1 : Int32) μ1.1) fun x3 =>
  obd (jpF B 2 1 v0 (.long x3) μ1) fun μ4 =>
  obd (jgI μ4.1 v1 7 7) fun x5 =>
  obd (jpF B 2 2 v0 (.int x5) μ4) fun μ6 =>
  obd (jgI μ6.1 v1 7 8) fun x7 =>
  obd (jpF B 2 3 v0 (.int x7) μ6) fun μ8 =>
  jgd (jobC 2 (μ8.1 v0)) <|
  obd (g_DeadCycles_begin N B v0 μ8) fun μ10 =>
  g_DeadCycles_look_110 N B N v0 (0 : Int32) μ10
set_option maxRecDepth 10000 in
def g_DeadCycles_look (N : Nat) (B : Nat) (v0 : Nat) (v1 : Option Nat)  (μ : JMem) : Option (Bool × JMem) :=
  jon v1 (
    some (false, μ))
  fun a1 =>
    obd (jgI μ.1 a1 7 1) fun x2 =>
    if x2 = (1 : Int32) then (
      obd (jgI μ.1 a1 7 2) fun x3 =>
      if x3 = (2 : Int32) then (
        obd (jgI μ.1 a1 7 7) fun x4 =>
        if x4 = (2 : Int32) then (
          some (false, μ))
        else
          obd (jgZ μ.1 v0 2 0) fun x5 =>
          if x5 = true then (
            obd (jgJ μ.1 v0 2 1) fun x6 =>
            jgd (jobC 7 (μ.1 a1)) <|
            obd (g_Section_factor a1 (1 : Int32) μ.1) fun x8 =>
            if x6 = x8 then (
              obd (jgI μ.1 v0 2 2) fun x9 =>
              obd (jgI μ.1 a1 7 7) fun x10 =>
              if x9 = x10 then (
                obd (jgI μ.1 v0 2 3) fun x11 =>
                obd (jgI μ.1 a1 7 8) fun x12 =>
                if x11 = x12 then (
                  some (true, μ))
                else
                  g_DeadCycles_look_74 N B v0 a1 μ)
              else
                g_DeadCycles_look_74 N B v0 a1 μ)
            else
              g_DeadCycles_look_74 N B v0 a1 μ)
          else
            g_DeadCycles_look_74 N B v0 a1 μ)
      else
        some (false, μ))
    else
      some (false, μ)
/-! FilterBench.cycles(I)I -/
set_option maxRecDepth 10000 in
def g_B_cycles (N : Nat) (B : Nat) (v0 : Nat) (v1 : Int32)  (μ : JMem) : Option (Int32 × JMem) :=
  obd (jgA μ.1 v0 0 10) fun x1 =>
  jgd (jobC 0 (μ.1 v0)) <|
  obd (g_B_sectionAt v0 v1 μ.1) fun x3 =>
  obd x1 fun a4 =>
  jgd (jobC 2 (μ.1 a4)) <|
  jbd2 (g_DeadCycles_look N B a4 x3 μ) fun x6 μ7 =>
  if x6 = true then (
    obd (jgA μ7.1 v0 0 10) fun x8 =>
    obd x8 fun a9 =>
    obd (jgI μ7.1 a9 2 4) fun x10 =>
    some (x10, μ7))
  else
    some ((-1 : Int32), μ7)
/-! FilterBench$DeadCycles.basinOf(I)I -/
set_option maxRecDepth 10000 in
def g_DeadCycles_basinOf (v0 : Nat) (v1 : Int32)  (h : Nat → Option JCell) : Option Int32 :=
  jgd (jobC 2 (h v0)) <|
  obd (g_DeadCycles_tallyOf v0 v1 h) fun x2 =>
  some (Int64.toInt32 ((x2).toUInt64 >>> (((32 : Int32)).toInt64.toUInt64 &&& Int64.toUInt64 63)).toInt64)
/-! FilterBench$DeadCycles.leastOf(I)I -/
set_option maxRecDepth 10000 in
def g_DeadCycles_leastOf (v0 : Nat) (v1 : Int32)  (h : Nat → Option JCell) : Option Int32 :=
  jgd (jobC 2 (h v0)) <|
  obd (g_DeadCycles_ownerOf v0 v1 h) fun x2 =>
  some (x2 + (-32768 : Int32))
/-! FilterBench$DeadCycles.lengthOf(I)I -/
set_option maxRecDepth 10000 in
def g_DeadCycles_lengthOf (v0 : Nat) (v1 : Int32)  (h : Nat → Option JCell) : Option Int32 :=
  jgd (jobC 2 (h v0)) <|
  obd (g_DeadCycles_tallyOf v0 v1 h) fun x2 =>
  some (Int64.toInt32 x2)
/-! FilterBench.cycle(III)I -/
set_option maxRecDepth 10000 in
def g_B_cycle (N : Nat) (B : Nat) (v0 : Nat) (v1 : Int32) (v2 : Int32) (v3 : Int32)  (μ : JMem) : Option (Int32 × JMem) :=
  obd (jgA μ.1 v0 0 10) fun x1 =>
  jgd (jobC 0 (μ.1 v0)) <|
  obd (g_B_sectionAt v0 v1 μ.1) fun x3 =>
  obd x1 fun a4 =>
  jgd (jobC 2 (μ.1 a4)) <|
  jbd2 (g_DeadCycles_look N B a4 x3 μ) fun x6 μ7 =>
  if x6 = true then (
    if v2 < 0 then (
      some ((0 : Int32), μ7))
    else
      obd (jgA μ7.1 v0 0 10) fun x8 =>
      obd x8 fun a9 =>
      obd (jgI μ7.1 a9 2 4) fun x10 =>
      if v2 < x10 then (
        if v3 = 0 then (
          obd (jgA μ7.1 v0 0 10) fun x11 =>
          obd x11 fun a12 =>
          jgd (jobC 2 (μ7.1 a12)) <|
          obd (g_DeadCycles_leastOf a12 v2 μ7.1) fun x14 =>
          some (x14, μ7))
        else
        if v3 = 1 then (
          obd (jgA μ7.1 v0 0 10) fun x15 =>
          obd x15 fun a16 =>
          jgd (jobC 2 (μ7.1 a16)) <|
          obd (g_DeadCycles_lengthOf a16 v2 μ7.1) fun x18 =>
          some (x18, μ7))
        else
        if v3 = 2 then (
          obd (jgA μ7.1 v0 0 10) fun x19 =>
          obd x19 fun a20 =>
          jgd (jobC 2 (μ7.1 a20)) <|
          obd (g_DeadCycles_basinOf a20 v2 μ7.1) fun x22 =>
          some (x22, μ7))
        else
        some ((0 : Int32), μ7))
      else
        some ((0 : Int32), μ7))
  else
    some ((0 : Int32), μ7)
/-! FilterBench$Real.nearest(JZLFilterBench$Real;)J -/
set_option maxRecDepth 10000 in
def g_Real_nearest_e (v0 : Nat) (v1 : Int64) (v4 : Option Nat)  (h : Nat → Option JCell) : Option Int64 :=
  jgd (jobC 5 (h v0)) <|
  obd (g_Real_taken v0 v4 v1 h) fun x2 =>
  some x2
set_option maxRecDepth 10000 in
def g_Real_nearest (v0 : Nat) (v1 : Int64) (v3 : Bool) (v4 : Option Nat)  (h : Nat → Option JCell) : Option Int64 := g_Real_nearest_e  v0 v1 v4 h
/-! FilterBench$Shorts.nearest(JZLFilterBench$Real;)J -/
set_option maxRecDepth 10000 in
def g_Shorts_nearest_25 (v1 : Int64) (v4 : Nat) (v5 : Int64) (s0 : Int32) (s1 : Int32)  (h : Nat → Option JCell) : Option Int64 :=
  jgd (jobC 5 (h v4)) <|
  obd (g_Real_isFinite v4 v1 h) fun x2 =>
  if x2 = true then (
    if (s1 + s0) < 0 then (
      jgd (jobC 5 (h v4)) <|
      obd (g_Real_mantissa v4 v5 h) fun x4 =>
      jlet (g_Numbers_halfEven x4 (-(s1 + s0))) fun (v8_5 : Int64) =>
      if (0 : Int64) ≤ v1 then (
        some v8_5)
      else
        some (-v8_5))
    else
      some (1099511627776 : Int64))
  else
    some (1099511627776 : Int64)
set_option maxRecDepth 10000 in
def g_Shorts_nearest_e (v1 : Int64) (v3 : Bool) (v4 : Option Nat)  (h : Nat → Option JCell) : Option Int64 :=
  obd v4 fun a1 =>
  jgd (jobC 5 (h a1)) <|
  obd (g_Real_sizeOf a1 v1 h) fun x3 =>
  jgd (jobC 5 (h a1)) <|
  obd (g_Real_exponent a1 x3 h) fun x5 =>
  if v3 = true then (
    g_Shorts_nearest_25 v1 a1 x3 (0 : Int32) x5 h)
  else
    g_Shorts_nearest_25 v1 a1 x3 (14 : Int32) x5 h
set_option maxRecDepth 10000 in
def g_Shorts_nearest (v0 : Nat) (v1 : Int64) (v3 : Bool) (v4 : Option Nat)  (h : Nat → Option JCell) : Option Int64 := g_Shorts_nearest_e  v1 v3 v4 h
/-! FilterBench.translated(LFilterBench$Numbers;JZLFilterBench$Numbers;)J -/
set_option maxRecDepth 10000 in
def g_B_translated (v0 : Nat) (v1 : Option Nat) (v2 : Int64) (v4 : Bool) (v5 : Option Nat)  (h : Nat → Option JCell) : Option Int64 :=
  obd (jgA h v0 0 0) fun x1 =>
  obd v1 fun a2 =>
  obd (if jobC 5 (h a2) = true then g_Real_meaning a2 v2 v4 x1 h else jgd (jobC 8 (h a2)) (g_Shorts_meaning a2 v2 v4 x1 h)) fun x3 =>
  obd (jgA h v0 0 0) fun x4 =>
  obd v5 fun a5 =>
  obd (if jobC 5 (h a5) = true then g_Real_nearest a5 x3 v4 x4 h else jgd (jobC 8 (h a5)) (g_Shorts_nearest a5 x3 v4 x4 h)) fun x6 =>
  some x6
/-! FilterBench$Section.factorCount()I -/
set_option maxRecDepth 10000 in
def g_Section_factorCount (v0 : Nat)  (h : Nat → Option JCell) : Option Int32 :=
  obd (jgA h v0 7 5) fun x1 =>
  obd x1 fun a2 =>
  obd (jal h a2) fun x3 =>
  some x3
/-! FilterBench.canTranslate(LFilterBench$Chain;LFilterBench$Numbers;)Z -/
set_option maxRecDepth 10000 in
def g_B_canTranslate_72 (N : Nat) (k2 : Nat → Option Nat → Option Nat → Int32 → (Nat → Option JCell) → Option Bool) (v0 : Nat) (v1 : Nat) (v2 : Option Nat) (v3 : Int32)  (h : Nat → Option JCell) : Option Bool :=
  k2 v0 (some v1) v2 (v3 + 1) h
set_option maxRecDepth 10000 in
def g_B_canTranslate_20 (N : Nat) (k2 : Nat → Option Nat → Option Nat → Int32 → (Nat → Option JCell) → Option Bool) : Nat → Nat → Nat → Option Nat → Int32 → Option Nat → Int32 → (Nat → Option JCell) → Option Bool
  | 0, _, _, _, _, _, _, _ => none
  | n + 1, v0, v1, v2, v3, v4, v5, h =>
    jon v4 (
      g_B_canTranslate_72 N k2 v0 v1 v2 v3 h)
    fun a1 =>
      jgd (jobC 7 (h a1)) <|
      obd (g_Section_factorCount a1 h) fun x3 =>
      if x3 ≤ v5 then (
        g_B_canTranslate_72 N k2 v0 v1 v2 v3 h)
      else
        obd (jgA h a1 7 4) fun x4 =>
        jgd (jobC 7 (h a1)) <|
        obd (g_Section_factor a1 v5 h) fun x6 =>
        jgd (jobC 7 (h a1)) <|
        obd (g_Section_takesWhole a1 h) fun x8 =>
        jgd (jobC 0 (h v0)) <|
        obd (g_B_translated v0 x4 x6 x8 v2 h) fun x10 =>
        obd v2 fun a11 =>
        obd (if jobC 5 (h a11) = true then g_Real_holds a11 x10 h else jgd (jobC 8 (h a11)) (some (g_Shorts_holds a11 x10))) fun x12 =>
        if x12 = true then (
          g_B_canTranslate_20 N k2 n v0 v1 (some a11) v3 (some a1) (v5 + 1) h)
        else
          some false
set_option maxRecDepth 10000 in
def g_B_canTranslate_90 (N : Nat) : Nat → Nat → Nat → Option Nat → Option Nat → Int32 → (Nat → Option JCell) → Option Bool
  | 0, _, _, _, _, _, _ => none
  | n + 1, v0, v1, v2, v3, v4, h =>
    obd (jgI h v1 1 4) fun x1 =>
    if x1 ≤ v4 then (
      some true)
    else
      jgd (jobC 1 (h v1)) <|
      obd (g_Chain_loopAt v1 v4 h) fun x3 =>
      jon v3 (
        some false)
      fun a4 =>
        jon x3 (
          some false)
        fun a5 =>
          obd (jgJ h a5 4 2) fun x6 =>
          jgd (jobC 0 (h v0)) <|
          obd (g_B_translated v0 (some a4) x6 false v2 h) fun x8 =>
          obd v2 fun a9 =>
          obd (if jobC 5 (h a9) = true then g_Real_holds a9 x8 h else jgd (jobC 8 (h a9)) (some (g_Shorts_holds a9 x8))) fun x10 =>
          if x10 = true then (
            g_B_canTranslate_90 N n v0 v1 (some a9) (some a4) (v4 + 1) h)
          else
            some false
set_option maxRecDepth 10000 in
def g_B_canTranslate_2 (N : Nat) : Nat → Nat → Option Nat → Option Nat → Int32 → (Nat → Option JCell) → Option Bool
  | 0, _, _, _, _, _ => none
  | n + 1, v0, v1, v2, v3, h =>
    obd v1 fun a1 =>
    obd (jgI h a1 1 2) fun x2 =>
    if x2 ≤ v3 then (
      jgd (jobC 1 (h a1)) <|
      obd (g_Chain_sort a1 h) fun x4 =>
      jgd (jobC 0 (h v0)) <|
      obd (g_B_numbersOf v0 x4 h) fun x6 =>
      g_B_canTranslate_90 N N v0 a1 v2 x6 (0 : Int32) h)
    else
      jgd (jobC 1 (h a1)) <|
      obd (g_Chain_memberAt a1 v3 h) fun x8 =>
      g_B_canTranslate_20 N (g_B_canTranslate_2 N n) N v0 a1 v2 v3 x8 (0 : Int32) h
set_option maxRecDepth 10000 in
def g_B_canTranslate (N : Nat) (v0 : Nat) (v1 : Option Nat) (v2 : Option Nat)  (h : Nat → Option JCell) : Option Bool :=
  g_B_canTranslate_2 N N v0 v1 v2 (0 : Int32) h
/-! FilterBench.canRemake(LFilterBench$Chain;LFilterBench$Numbers;)Z -/
set_option maxRecDepth 10000 in
def g_B_canRemake_76 (N : Nat) (B : Nat) (v0 : Nat) (v3 : Int32) (v4 : Int32)  (μ : JMem) : Option (Bool × JMem) :=
  obd (jgI μ.1 v0 0 4) fun x1 =>
  if (60 : Int32) < (x1 + v4) then (
    some (false, μ))
  else
    obd (jgI μ.1 v0 0 6) fun x2 =>
    if (20 : Int32) < (x2 + v3) then (
      some (false, μ))
    else
      some (true, μ)
set_option maxRecDepth 10000 in
def g_B_canRemake_12 (N : Nat) (B : Nat) : Nat → Nat → Option Nat → Int32 → Int32 → Int32 → JMem → Option (Bool × JMem)
  | 0, _, _, _, _, _, _ => none
  | n + 1, v0, v2, v3, v4, v5, μ =>
    if v3 ≤ v5 then (
      g_B_canRemake_76 N B v0 v3 v4 μ)
    else
      obd (jgA μ.1 v0 0 9) fun x1 =>
      obd x1 fun a2 =>
      obd (jal μ.1 a2) fun x3 =>
      if x3 ≤ v5 then (
        g_B_canRemake_76 N B v0 v3 v4 μ)
      else
        obd (jgA μ.1 v0 0 9) fun x4 =>
        obd x4 fun a5 =>
        obd (jaA μ.1 a5 v5) fun x6 =>
        jon x6 (
          some (false, μ))
        fun a7 =>
          obd (jgA μ.1 v0 0 9) fun x8 =>
          obd x8 fun a9 =>
          obd (jaA μ.1 a9 v5) fun x10 =>
          jgd (jobC 0 (μ.1 v0)) <|
          obd (g_B_canTranslate N v0 x10 v2 μ.1) fun x12 =>
          if x12 = true then (
            obd (jgA μ.1 v0 0 9) fun x13 =>
            obd x13 fun a14 =>
            obd (jaA μ.1 a14 v5) fun x15 =>
            obd x15 fun a16 =>
            obd (jgI μ.1 a16 1 2) fun x17 =>
            g_B_canRemake_12 N B n v0 v2 v3 (v4 + x17) (v5 + 1) μ)
          else
            some (false, μ)
set_option maxRecDepth 10000 in
def g_B_canRemake (N : Nat) (B : Nat) (v0 : Nat) (v1 : Option Nat) (v2 : Option Nat)  (μ : JMem) : Option (Bool × JMem) :=
  jgd (jobC 0 (μ.1 v0)) <|
  jbd2 (g_B_gather N B v0 v1 μ) fun x2 μ3 =>
  g_B_canRemake_12 N B N v0 v2 x2 (0 : Int32) (0 : Int32) μ3
/-! FilterBench.remadeSection(LFilterBench$Section;ILFilterBench$Numbers;)LFilterBench$Section; -/
set_option maxRecDepth 10000 in
def g_B_remadeSection_26 (N : Nat) (B : Nat) (SA : Nat → Nat) : Nat → Nat → Nat → Int32 → Option Nat → Nat → Int32 → JMem → Option (Option Nat × JMem)
  | 0, _, _, _, _, _, _, _ => none
  | n + 1, v0, v1, v2, v3, v4, v5, μ =>
    jgd (jobC 7 (μ.1 v1)) <|
    obd (g_Section_factorCount v1 μ.1) fun x2 =>
    if x2 ≤ v5 then (
      obd (jgI μ.1 v1 7 2) fun x3 =>
      if x3 = (2 : Int32) then (
        if v2 = (2 : Int32) then (
          obd (jgI μ.1 v1 7 7) fun x4 =>
          obd (jpF B 7 7 v4 (.int x4) μ) fun μ5 =>
          obd (jgI μ5.1 v1 7 8) fun x6 =>
          obd (jpF B 7 8 v4 (.int x6) μ5) fun μ7 =>
          some ((some v4), μ7))
        else
          some ((some v4), μ))
      else
        some ((some v4), μ))
    else
      obd (jgA μ.1 v1 7 4) fun x8 =>
      jgd (jobC 7 (μ.1 v1)) <|
      obd (g_Section_factor v1 v5 μ.1) fun x10 =>
      jgd (jobC 7 (μ.1 v1)) <|
      obd (g_Section_takesWhole v1 μ.1) fun x12 =>
      jgd (jobC 0 (μ.1 v0)) <|
      obd (g_B_translated v0 x8 x10 x12 v3 μ.1) fun x14 =>
      jgd (jobC 7 (μ.1 v4)) <|
      obd (g_Section_setFactor B v4 v5 x14 μ) fun μ16 =>
      g_B_remadeSection_26 N B SA n v0 v1 v2 v3 v4 (v5 + 1) μ16
set_option maxRecDepth 10000 in
def g_B_remadeSection (N : Nat) (B : Nat) (SA : Nat → Nat) (v0 : Nat) (v1 : Option Nat) (v2 : Int32) (v3 : Option Nat)  (μ : JMem) : Option (Option Nat × JMem) :=
  obd v1 fun a1 =>
  obd (jgI μ.1 a1 7 1) fun x2 =>
  obd (jgI μ.1 a1 7 3) fun x3 =>
  jgd (jobC 0 (μ.1 v0)) <|
  jbd2 (g_B_newSection B SA v0 x2 v2 x3 v3 μ) fun x5 μ6 =>
  jon x5 (
    some (none, μ6))
  fun a7 =>
    g_B_remadeSection_26 N B SA N v0 a1 v2 v3 a7 (0 : Int32) μ6
/-! FilterBench.remakeLoops(LFilterBench$Chain;LFilterBench$Chain;LFilterBench$Numbers;)V -/
set_option maxRecDepth 10000 in
def g_B_remakeLoops_82 (N : Nat) (B : Nat) (k13 : Nat → Nat → Option Nat → Option Nat → Option Nat → Int32 → JMem → Option JMem) (v0 : Nat) (v1 : Nat) (v2 : Option Nat) (v3 : Option Nat) (v4 : Option Nat) (v5 : Int32)  (μ : JMem) : Option JMem :=
  k13 v0 v1 v2 v3 v4 (v5 + 1) μ
set_option maxRecDepth 10000 in
def g_B_remakeLoops_13 (N : Nat) (B : Nat) : Nat → Nat → Nat → Option Nat → Option Nat → Option Nat → Int32 → JMem → Option JMem
  | 0, _, _, _, _, _, _, _ => none
  | n + 1, v0, v1, v2, v3, v4, v5, μ =>
    obd (jgI μ.1 v1 1 4) fun x1 =>
    if x1 ≤ v5 then (
      some μ)
    else
      jgd (jobC 1 (μ.1 v1)) <|
      obd (g_Chain_loopAt v1 v5 μ.1) fun x3 =>
      jon v4 (
        g_B_remakeLoops_82 N B (g_B_remakeLoops_13 N B n) v0 v1 v2 v3 none v5 μ)
      fun a4 =>
        jon x3 (
          g_B_remakeLoops_82 N B (g_B_remakeLoops_13 N B n) v0 v1 v2 v3 (some a4) v5 μ)
        fun a5 =>
          jnew 4 μ fun a6 μ7 =>
          obd (jgI μ7.1 a5 4 0) fun x8 =>
          obd (jgI μ7.1 a5 4 1) fun x9 =>
          obd (jgA μ7.1 a5 4 3) fun x10 =>
          obd x10 fun a11 =>
          jgd (jobC 6 (μ7.1 a11)) <|
          obd (g_Row_size a11 μ7.1) fun x13 =>
          obd (jgJ μ7.1 a5 4 2) fun x14 =>
          jgd (jobC 0 (μ7.1 v0)) <|
          obd (g_B_translated v0 (some a4) x14 false v3 μ7.1) fun x16 =>
          obd (g_Loop_init B a6 x8 x9 x13 x16 μ7) fun μ17 =>
          obd v2 fun a18 =>
          jgd (jobC 1 (μ17.1 a18)) <|
          obd (g_Chain_tie B a18 (some a6) μ17) fun μ20 =>
          g_B_remakeLoops_82 N B (g_B_remakeLoops_13 N B n) v0 v1 (some a18) v3 (some a4) v5 μ20
set_option maxRecDepth 10000 in
def g_B_remakeLoops (N : Nat) (B : Nat) (v0 : Nat) (v1 : Option Nat) (v2 : Option Nat) (v3 : Option Nat)  (μ : JMem) : Option JMem :=
  obd v1 fun a1 =>
  jgd (jobC 1 (μ.1 a1)) <|
  obd (g_Chain_sort a1 μ.1) fun x3 =>
  jgd (jobC 0 (μ.1 v0)) <|
  obd (g_B_numbersOf v0 x3 μ.1) fun x5 =>
  g_B_remakeLoops_13 N B N v0 a1 v2 v3 x5 (0 : Int32) μ
/-! FilterBench.remade(LFilterBench$Chain;ILFilterBench$Numbers;I)LFilterBench$Chain; -/
set_option maxRecDepth 10000 in
def g_B_remade_117 (N : Nat) (B : Nat) (SA : Nat → Nat) (kS : Nat → Option Nat → Int32 → Option Nat → Int32 → JMem → Option (Option Nat × JMem)) (k21 : Nat → Option Nat → Int32 → Option Nat → Int32 → Nat → Int32 → JMem → Option (Option Nat × JMem)) (v0 : Nat) (v1 : Nat) (v2 : Int32) (v3 : Option Nat) (v4 : Int32) (v5 : Nat) (v6 : Int32)  (μ : JMem) : Option (Option Nat × JMem) :=
  k21 v0 (some v1) v2 v3 v4 v5 (v6 + 1) μ
set_option maxRecDepth 10000 in
def g_B_remade_72 (N : Nat) (B : Nat) (SA : Nat → Nat) (kS : Nat → Option Nat → Int32 → Option Nat → Int32 → JMem → Option (Option Nat × JMem)) (k21 : Nat → Option Nat → Int32 → Option Nat → Int32 → Nat → Int32 → JMem → Option (Option Nat × JMem)) (v0 : Nat) (v1 : Nat) (v2 : Int32) (v3 : Option Nat) (v4 : Int32) (v5 : Nat) (v6 : Int32) (v7 : Nat) (s0 : Option Nat)  (μ : JMem) : Option (Option Nat × JMem) :=
  jgd (jobC 0 (μ.1 v0)) <|
  jbd2 (g_B_remadeSection N B SA v0 (some v7) v2 v3 μ) fun x2 μ3 =>
  jon x2 (
    some (none, μ3))
  fun a4 =>
    jgd (jobC 1 (μ3.1 v5)) <|
    obd (g_Chain_join B v5 (some a4) μ3) fun μ6 =>
    jon s0 (
      g_B_remade_117 N B SA kS k21 v0 v1 v2 v3 v4 v5 v6 μ6)
    fun a7 =>
      obd (jpF B 7 14 a4 (rv (some a7)) μ6) fun μ8 =>
      obd (jpF B 1 9 a7 (rv (some a4)) μ8) fun μ9 =>
      g_B_remade_117 N B SA kS k21 v0 v1 v2 v3 v4 v5 v6 μ9
set_option maxRecDepth 10000 in
def g_B_remade_21 (N : Nat) (B : Nat) (SA : Nat → Nat) (kS : Nat → Option Nat → Int32 → Option Nat → Int32 → JMem → Option (Option Nat × JMem)) : Nat → Nat → Option Nat → Int32 → Option Nat → Int32 → Nat → Int32 → JMem → Option (Option Nat × JMem)
  | 0, _, _, _, _, _, _, _, _ => none
  | n + 1, v0, v1, v2, v3, v4, v5, v6, μ =>
    obd v1 fun a1 =>
    obd (jgI μ.1 a1 1 2) fun x2 =>
    if x2 ≤ v6 then (
      jgd (jobC 0 (μ.1 v0)) <|
      obd (g_B_remakeLoops N B v0 (some a1) (some v5) v3 μ) fun μ4 =>
      jgd (jobC 0 (μ4.1 v0)) <|
      jbd2 (g_B_registered B v0 (some v5) μ4) fun x6 μ7 =>
      some ((some v5), μ7))
    else
      jgd (jobC 1 (μ.1 a1)) <|
      obd (g_Chain_memberAt a1 v6 μ.1) fun x9 =>
      jon x9 (
        some (none, μ))
      fun a10 =>
        obd (jgA μ.1 a10 7 14) fun x11 =>
        jon x11 (
          g_B_remade_72 N B SA kS (g_B_remade_21 N B SA kS n) v0 a1 v2 v3 v4 v5 v6 a10 none μ)
        fun a12 =>
          obd (jgA μ.1 a10 7 14) fun x13 =>
          jgd (jobC 0 (μ.1 v0)) <|
          jbd2 (kS v0 x13 v2 v3 (v4 + (1 : Int32)) μ) fun x15 μ16 =>
          g_B_remade_72 N B SA kS (g_B_remade_21 N B SA kS n) v0 a1 v2 v3 v4 v5 v6 a10 x15 μ16
set_option maxRecDepth 10000 in
def g_B_remade_b (N : Nat) (B : Nat) (SA : Nat → Nat) (kS : Nat → Option Nat → Int32 → Option Nat → Int32 → JMem → Option (Option Nat × JMem)) (v0 : Nat) (v1 : Option Nat) (v2 : Int32) (v3 : Option Nat) (v4 : Int32)  (μ : JMem) : Option (Option Nat × JMem) :=
  if v4 ≤ (30 : Int32) then (
    jnew 1 μ fun a1 μ2 =>
    obd (g_Chain_init B a1 μ2) fun μ3 =>
    g_B_remade_21 N B SA kS N v0 v1 v2 v3 v4 a1 (0 : Int32) μ3)
  else
    some (none, μ)
set_option maxRecDepth 10000 in
def g_B_remade (N : Nat) (B : Nat) (SA : Nat → Nat) : Nat → Nat → Option Nat → Int32 → Option Nat → Int32 → JMem → Option (Option Nat × JMem)
  | 0, _, _, _, _, _, _ => none
  | n + 1, v0, v1, v2, v3, v4, μ => g_B_remade_b N B SA (g_B_remade N B SA n) v0 v1 v2 v3 v4 μ
/-! FilterBench.convert(II)I -/
set_option maxRecDepth 10000 in
def g_B_convert (N : Nat) (M : Nat) (B : Nat) (SA : Nat → Nat) (v0 : Nat) (v1 : Int32) (v2 : Int32)  (μ : JMem) : Option (Int32 × JMem) :=
  jgd (jobC 0 (μ.1 v0)) <|
  obd (g_B_fedAlone v0 v1 μ.1) fun x2 =>
  jgd (jobC 0 (μ.1 v0)) <|
  obd (g_B_numbersOf v0 v2 μ.1) fun x4 =>
  jon x2 (
    some ((-1 : Int32), μ))
  fun a5 =>
    jon x4 (
      some ((-1 : Int32), μ))
    fun a6 =>
      jgd (jobC 0 (μ.1 v0)) <|
      jbd2 (g_B_canRemake N B v0 (some a5) (some a6) μ) fun x8 μ9 =>
      if x8 = true then (
        jgd (jobC 0 (μ9.1 v0)) <|
        jbd2 (g_B_remade N B SA M v0 (some a5) v2 (some a6) (0 : Int32) μ9) fun x11 μ12 =>
        obd (g_B_numberOf x11 μ12.1) fun x13 =>
        some (x13, μ12))
      else
        some ((-1 : Int32), μ9)
/-! FilterBenchModel.<init>()V -/
set_option maxRecDepth 10000 in
def g_R_init (B : Nat) (v0 : Nat)  (μ : JMem) : Option JMem :=
  jbd2 (jnA .int (60 : Int32) μ) fun a1 μ2 =>
  obd (jpF B 9 2 v0 (rv (some a1)) μ2) fun μ3 =>
  jbd2 (jnA .int (60 : Int32) μ3) fun a4 μ5 =>
  obd (jpF B 9 3 v0 (rv (some a4)) μ5) fun μ6 =>
  jbd2 (jnA .int (60 : Int32) μ6) fun a7 μ8 =>
  obd (jpF B 9 4 v0 (rv (some a7)) μ8) fun μ9 =>
  jbd2 (jnA .int (60 : Int32) μ9) fun a10 μ11 =>
  obd (jpF B 9 5 v0 (rv (some a10)) μ11) fun μ12 =>
  jbd2 (jnA .int (60 : Int32) μ12) fun a13 μ14 =>
  obd (jpF B 9 6 v0 (rv (some a13)) μ14) fun μ15 =>
  jbd2 (jnA .double (300 : Int32) μ15) fun a16 μ17 =>
  obd (jpF B 9 7 v0 (rv (some a16)) μ17) fun μ18 =>
  jbd2 (jnA .int (60 : Int32) μ18) fun a19 μ20 =>
  obd (jpF B 9 8 v0 (rv (some a19)) μ20) fun μ21 =>
  jbd2 (jnA .int (60 : Int32) μ21) fun a22 μ23 =>
  obd (jpF B 9 9 v0 (rv (some a22)) μ23) fun μ24 =>
  jbd2 (jnA .int (60 : Int32) μ24) fun a25 μ26 =>
  obd (jpF B 9 10 v0 (rv (some a25)) μ26) fun μ27 =>
  jbd2 (jnA .int (60 : Int32) μ27) fun a28 μ29 =>
  obd (jpF B 9 11 v0 (rv (some a28)) μ29) fun μ30 =>
  jbd2 (jnA .int (60 : Int32) μ30) fun a31 μ32 =>
  obd (jpF B 9 12 v0 (rv (some a31)) μ32) fun μ33 =>
  jbd2 (jnA .double (3840 : Int32) μ33) fun a34 μ35 =>
  obd (jpF B 9 13 v0 (rv (some a34)) μ35) fun μ36 =>
  jbd2 (jnA .int (60 : Int32) μ36) fun a37 μ38 =>
  obd (jpF B 9 14 v0 (rv (some a37)) μ38) fun μ39 =>
  jbd2 (jnA .long (60 : Int32) μ39) fun a40 μ41 =>
  obd (jpF B 9 15 v0 (rv (some a40)) μ41) fun μ42 =>
  jbd2 (jnA .int (20 : Int32) μ42) fun a43 μ44 =>
  obd (jpF B 9 17 v0 (rv (some a43)) μ44) fun μ45 =>
  jbd2 (jnA .int (200 : Int32) μ45) fun a46 μ47 =>
  obd (jpF B 9 18 v0 (rv (some a46)) μ47) fun μ48 =>
  jbd2 (jnA .int (20 : Int32) μ48) fun a49 μ50 =>
  obd (jpF B 9 19 v0 (rv (some a49)) μ50) fun μ51 =>
  jbd2 (jnA .int (20 : Int32) μ51) fun a52 μ53 =>
  obd (jpF B 9 20 v0 (rv (some a52)) μ53) fun μ54 =>
  jbd2 (jnA .int (60 : Int32) μ54) fun a55 μ56 =>
  obd (jpF B 9 21 v0 (rv (some a55)) μ56) fun μ57 =>
  jbd2 (jnA .int (60 : Int32) μ57) fun a58 μ59 =>
  obd (jpF B 9 22 v0 (rv (some a58)) μ59) fun μ60 =>
  jbd2 (jnA .int (60 : Int32) μ60) fun a61 μ62 =>
  obd (jpF B 9 23 v0 (rv (some a61)) μ62) fun μ63 =>
  jbd2 (jnA .double (60 : Int32) μ63) fun a64 μ65 =>
  obd (jpF B 9 24 v0 (rv (some a64)) μ65) fun μ66 =>
  jbd2 (jnA .double (3840 : Int32) μ66) fun a67 μ68 =>
  obd (jpF B 9 25 v0 (rv (some a67)) μ68) fun μ69 =>
  jbd2 (jnA .int (60 : Int32) μ69) fun a70 μ71 =>
  obd (jpF B 9 26 v0 (rv (some a70)) μ71) fun μ72 =>
  jbd2 (jnA .double (8000 : Int32) μ72) fun a73 μ74 =>
  obd (jpF B 9 27 v0 (rv (some a73)) μ74) fun μ75 =>
  jbd2 (jnA .int (20 : Int32) μ75) fun a76 μ77 =>
  obd (jpF B 9 28 v0 (rv (some a76)) μ77) fun μ78 =>
  jbd2 (jnA .int (40 : Int32) μ78) fun a79 μ80 =>
  obd (jpF B 9 35 v0 (rv (some a79)) μ80) fun μ81 =>
  jbd2 (jnA .int (40 : Int32) μ81) fun a82 μ83 =>
  obd (jpF B 9 36 v0 (rv (some a82)) μ83) fun μ84 =>
  jbd2 (jnA .int (40 : Int32) μ84) fun a85 μ86 =>
  obd (jpF B 9 37 v0 (rv (some a85)) μ86) fun μ87 =>
  jbd2 (jnA .double (40 : Int32) μ87) fun a88 μ89 =>
  obd (jpF B 9 38 v0 (rv (some a88)) μ89) fun μ90 =>
  jbd2 (jnA .int (20 : Int32) μ90) fun a91 μ92 =>
  obd (jpF B 9 43 v0 (rv (some a91)) μ92) fun μ93 =>
  jbd2 (jnA .int (8 : Int32) μ93) fun a94 μ95 =>
  obd (jpF B 9 45 v0 (rv (some a94)) μ95) fun μ96 =>
  jbd2 (jnA .double (30720 : Int32) μ96) fun a97 μ98 =>
  obd (jpF B 9 46 v0 (rv (some a97)) μ98) fun μ99 =>
  jbd2 (jnA .int (480 : Int32) μ99) fun a100 μ101 =>
  obd (jpF B 9 47 v0 (rv (some a100)) μ101) fun μ102 =>
  jbd2 (jnA .long (480 : Int32) μ102) fun a103 μ104 =>
  obd (jpF B 9 48 v0 (rv (some a103)) μ104) fun μ105 =>
  jbd2 (jnA .double (30720 : Int32) μ105) fun a106 μ107 =>
  obd (jpF B 9 49 v0 (rv (some a106)) μ107) fun μ108 =>
  jbd2 (jnA .int (480 : Int32) μ108) fun a109 μ110 =>
  obd (jpF B 9 50 v0 (rv (some a109)) μ110) fun μ111 =>
  jbd2 (jnA .int (160 : Int32) μ111) fun a112 μ113 =>
  obd (jpF B 9 51 v0 (rv (some a112)) μ113) fun μ114 =>
  jbd2 (jnA .int (160 : Int32) μ114) fun a115 μ116 =>
  obd (jpF B 9 52 v0 (rv (some a115)) μ116) fun μ117 =>
  jbd2 (jnA .int (480 : Int32) μ117) fun a118 μ119 =>
  obd (jpF B 9 53 v0 (rv (some a118)) μ119) fun μ120 =>
  jbd2 (jnA .int (65536 : Int32) μ120) fun a121 μ122 =>
  obd (jpF B 9 56 v0 (rv (some a121)) μ122) fun μ123 =>
  jbd2 (jnA .int (65536 : Int32) μ123) fun a124 μ125 =>
  obd (jpF B 9 57 v0 (rv (some a124)) μ125) fun μ126 =>
  jbd2 (jnA .int (65536 : Int32) μ126) fun a127 μ128 =>
  obd (jpF B 9 58 v0 (rv (some a127)) μ128) fun μ129 =>
  jbd2 (jnA .int (65536 : Int32) μ129) fun a130 μ131 =>
  obd (jpF B 9 59 v0 (rv (some a130)) μ131) fun μ132 =>
  jbd2 (jnA .int (65536 : Int32) μ132) fun a133 μ134 =>
  obd (jpF B 9 60 v0 (rv (some a133)) μ134) fun μ135 =>
  jbd2 (jnA .int (60 : Int32) μ135) fun a136 μ137 =>
  obd (jpF B 9 64 v0 (rv (some a136)) μ137) fun μ138 =>
  jbd2 (jnA .int (20 : Int32) μ138) fun a139 μ140 =>
  obd (jpF B 9 65 v0 (rv (some a139)) μ140) fun μ141 =>
  jbd2 (jnA .int (20 : Int32) μ141) fun a142 μ143 =>
  obd (jpF B 9 66 v0 (rv (some a142)) μ143) fun μ144 =>
  jbd2 (jnA .int (20 : Int32) μ144) fun a145 μ146 =>
  obd (jpF B 9 67 v0 (rv (some a145)) μ146) fun μ147 =>
  obd (jpF B 9 54 v0 (.int (-1 : Int32)) μ147) fun μ148 =>
  some μ148
/-! FilterBenchModel.in(III)Z -/
set_option maxRecDepth 10000 in
def g_R_in (v0 : Int32) (v1 : Int32) (v2 : Int32)  : Bool :=
  if v0 < v1 then (
    false)
  else
    if v2 < v0 then (
      false)
    else
      true
/-! FilterBenchModel.isLength(II)Z -/
set_option maxRecDepth 10000 in
def g_R_isLength_12 (v1 : Int32)  : Bool :=
  (g_R_in v1 (1 : Int32) (64 : Int32))
set_option maxRecDepth 10000 in
def g_R_isLength_55  : Bool :=
  true
set_option maxRecDepth 10000 in
def g_R_isLength (v0 : Int32) (v1 : Int32)  : Bool :=
  if v0 = (6 : Int32) then (
    g_R_isLength_12 v1)
  else
    if v0 = (8 : Int32) then (
      g_R_isLength_12 v1)
    else
      if v0 = (7 : Int32) then (
        (g_R_in v1 (1 : Int32) (32 : Int32)))
      else
        if (g_R_in v0 (12 : Int32) (14 : Int32)) = true then (
          if (g_R_in v1 (2 : Int32) (8 : Int32)) = true then (
            g_R_isLength_55)
          else
            false)
        else
          g_R_isLength_55
/-! FilterBenchModel.clears(I)V -/
set_option maxRecDepth 10000 in
def g_R_clears_2 (N : Nat) (B : Nat) : Nat → Nat → Int32 → Int32 → JMem → Option JMem
  | 0, _, _, _, _ => none
  | n + 1, v0, v1, v2, μ =>
    if (64 : Int32) ≤ v2 then (
      obd (jgA μ.1 v0 9 14) fun x1 =>
      obd x1 fun a2 =>
      obd (jpA B .int a2 v1 (.int (0 : Int32)) μ) fun μ3 =>
      obd (jgA μ3.1 v0 9 15) fun x4 =>
      obd x4 fun a5 =>
      obd (jpA B .long a5 v1 (.long (0 : Int64)) μ3) fun μ6 =>
      some μ6)
    else
      obd (jgA μ.1 v0 9 13) fun x7 =>
      obd x7 fun a8 =>
      obd (jpA B .double a8 (((64 : Int32) * v1) + v2) (.double (0 : UInt64)) μ) fun μ9 =>
      g_R_clears_2 N B n v0 v1 (v2 + 1) μ9
set_option maxRecDepth 10000 in
def g_R_clears (N : Nat) (B : Nat) (v0 : Nat) (v1 : Int32)  (μ : JMem) : Option JMem :=
  g_R_clears_2 N B N v0 v1 (0 : Int32) μ
/-! FilterBenchModel.newSection(III)I -/
set_option maxRecDepth 10000 in
def g_R_newSection_49 (N : Nat) (B : Nat) : Nat → Nat → Int32 → Int32 → JMem → Option (Int32 × JMem)
  | 0, _, _, _, _ => none
  | n + 1, v0, v4, v5, μ =>
    if (5 : Int32) ≤ v5 then (
      obd (jgA μ.1 v0 9 8) fun x1 =>
      obd x1 fun a2 =>
      obd (jpA B .int a2 v4 (.int (-1 : Int32)) μ) fun μ3 =>
      obd (jgA μ3.1 v0 9 9) fun x4 =>
      obd x4 fun a5 =>
      obd (jpA B .int a5 v4 (.int (-1 : Int32)) μ3) fun μ6 =>
      obd (jgA μ6.1 v0 9 10) fun x7 =>
      obd x7 fun a8 =>
      obd (jpA B .int a8 v4 (.int (-1 : Int32)) μ6) fun μ9 =>
      obd (jgA μ9.1 v0 9 11) fun x10 =>
      obd x10 fun a11 =>
      obd (jpA B .int a11 v4 (.int (0 : Int32)) μ9) fun μ12 =>
      obd (jgA μ12.1 v0 9 12) fun x13 =>
      obd x13 fun a14 =>
      obd (jpA B .int a14 v4 (.int (0 : Int32)) μ12) fun μ15 =>
      jgd (jobC 9 (μ15.1 v0)) <|
      obd (g_R_clears N B v0 v4 μ15) fun μ17 =>
      obd (jgI μ17.1 v0 9 1) fun x18 =>
      obd (jpF B 9 1 v0 (.int (x18 + (1 : Int32))) μ17) fun μ19 =>
      some (v4, μ19))
    else
      obd (jgA μ.1 v0 9 7) fun x20 =>
      obd x20 fun a21 =>
      obd (jpA B .double a21 (((5 : Int32) * v4) + v5) (.double (0 : UInt64)) μ) fun μ22 =>
      g_R_newSection_49 N B n v0 v4 (v5 + 1) μ22
set_option maxRecDepth 10000 in
def g_R_newSection (N : Nat) (B : Nat) (v0 : Nat) (v1 : Int32) (v2 : Int32) (v3 : Int32)  (μ : JMem) : Option (Int32 × JMem) :=
  obd (jgI μ.1 v0 9 1) fun x1 =>
  obd (jgA μ.1 v0 9 2) fun x2 =>
  obd x2 fun a3 =>
  obd (jpA B .int a3 x1 (.int v1) μ) fun μ4 =>
  obd (jgA μ4.1 v0 9 3) fun x5 =>
  obd x5 fun a6 =>
  obd (jpA B .int a6 x1 (.int v2) μ4) fun μ7 =>
  obd (jgA μ7.1 v0 9 4) fun x8 =>
  obd x8 fun a9 =>
  obd (jpA B .int a9 x1 (.int v3) μ7) fun μ10 =>
  obd (jgA μ10.1 v0 9 5) fun x11 =>
  obd x11 fun a12 =>
  obd (jpA B .int a12 x1 (.int (0 : Int32)) μ10) fun μ13 =>
  obd (jgA μ13.1 v0 9 6) fun x14 =>
  obd x14 fun a15 =>
  obd (jpA B .int a15 x1 (.int (0 : Int32)) μ13) fun μ16 =>
  g_R_newSection_49 N B N v0 x1 (0 : Int32) μ16
/-! FilterBenchModel.section(III)I -/
set_option maxRecDepth 10000 in
def g_R_section (N : Nat) (B : Nat) (v0 : Nat) (v1 : Int32) (v2 : Int32) (v3 : Int32)  (μ : JMem) : Option (Int32 × JMem) :=
  obd (jgI μ.1 v0 9 1) fun x1 =>
  if x1 = (60 : Int32) then (
    some ((-1 : Int32), μ))
  else
    if (g_R_in v1 (0 : Int32) (15 : Int32)) = true then (
      if (g_R_in v2 (0 : Int32) (2 : Int32)) = true then (
        if (g_R_isLength v1 v3) = true then (
          jgd (jobC 9 (μ.1 v0)) <|
          jbd2 (g_R_newSection N B v0 v1 v2 v3 μ) fun x3 μ4 =>
          some (x3, μ4))
        else
          some ((-1 : Int32), μ))
      else
        some ((-1 : Int32), μ))
    else
      some ((-1 : Int32), μ)
/-! FilterBenchModel.coefficientsOf(I)I -/
set_option maxRecDepth 10000 in
def g_R_coefficientsOf (v0 : Int32)  : Int32 :=
  if v0 = 1 then (
    (2 : Int32))
  else
  if v0 = 2 then (
    (5 : Int32))
  else
  if v0 = 3 then (
    (5 : Int32))
  else
  if v0 = 4 then (
    (5 : Int32))
  else
  if v0 = 5 then (
    (1 : Int32))
  else
  if v0 = 6 then (
    (0 : Int32))
  else
  if v0 = 7 then (
    (1 : Int32))
  else
  if v0 = 8 then (
    (1 : Int32))
  else
  if v0 = 9 then (
    (1 : Int32))
  else
  if v0 = 10 then (
    (1 : Int32))
  else
  if v0 = 11 then (
    (1 : Int32))
  else
  if v0 = 12 then (
    (0 : Int32))
  else
  if v0 = 13 then (
    (0 : Int32))
  else
  if v0 = 14 then (
    (0 : Int32))
  else
  if v0 = 15 then (
    (2 : Int32))
  else
  (1 : Int32)
/-! FilterBenchModel.isSection(I)Z -/
set_option maxRecDepth 10000 in
def g_R_isSection (v0 : Nat) (v1 : Int32)  (h : Nat → Option JCell) : Option Bool :=
  obd (jgI h v0 9 1) fun x1 =>
  some (g_R_in v1 (0 : Int32) (x1 - (1 : Int32)))
/-! FilterBenchModel.isCoefficient(II)Z -/
set_option maxRecDepth 10000 in
def g_R_isCoefficient (v0 : Nat) (v1 : Int32) (v2 : Int32)  (h : Nat → Option JCell) : Option Bool :=
  jgd (jobC 9 (h v0)) <|
  obd (g_R_isSection v0 v1 h) fun x2 =>
  if x2 = true then (
    obd (jgA h v0 9 2) fun x3 =>
    obd x3 fun a4 =>
    obd (jaI h a4 v1) fun x5 =>
    if (g_R_in v2 (0 : Int32) ((g_R_coefficientsOf x5) - (1 : Int32))) = true then (
      some true)
    else
      some false)
  else
    some false
/-! FilterBenchModel.isValue(IJ)Z -/
set_option maxRecDepth 10000 in
def g_R_isValue_47  : Bool :=
  true
set_option maxRecDepth 10000 in
def g_R_isValue (v0 : Int32) (v1 : Int64)  : Bool :=
  if v0 = (2 : Int32) then (
    if v1 < (-32768 : Int64) then (
      false)
    else
      if (32767 : Int64) < v1 then (
        false)
      else
        true)
  else
    if v0 = 0 then (
      g_R_isValue_47)
    else
      if v1 < (-2147483648 : Int64) then (
        false)
      else
        if (2147483647 : Int64) < v1 then (
          false)
        else
          g_R_isValue_47
/-! FilterBenchModel.valueOf(IJ)D -/
set_option maxRecDepth 10000 in
def g_R_valueOf (v0 : Int32) (v1 : Int64)  : Option UInt64 :=
  if v0 = 0 then (
    if (v1 &&& (9223372036854775807 : Int64)) ≤ (9218868437227405312 : Int64) then (
      obd (jl2d v1) fun x1 =>
      some x1)
    else
      some (0x7ff8000000000000 : UInt64))
  else
    if v0 = (1 : Int32) then (
      if ((Int64.toInt32 v1) &&& (2147483647 : Int32)) ≤ (2139095040 : Int32) then (
        obd (ji2f (Int64.toInt32 v1)) fun x2 =>
        obd (jnD (FP.f2d x2)) fun x3 =>
        some x3)
      else
        some (0x7ff8000000000000 : UInt64))
    else
      some (FP.l2d v1)
/-! FilterBenchModel.coefficient(IIJ)Z -/
set_option maxRecDepth 10000 in
def g_R_coefficient (B : Nat) (v0 : Nat) (v1 : Int32) (v2 : Int32) (v3 : Int64)  (μ : JMem) : Option (Bool × JMem) :=
  jgd (jobC 9 (μ.1 v0)) <|
  obd (g_R_isCoefficient v0 v1 v2 μ.1) fun x2 =>
  if x2 = true then (
    obd (jgA μ.1 v0 9 3) fun x3 =>
    obd x3 fun a4 =>
    obd (jaI μ.1 a4 v1) fun x5 =>
    if (g_R_isValue x5 v3) = true then (
      obd (jgA μ.1 v0 9 7) fun x6 =>
      obd (jgA μ.1 v0 9 3) fun x7 =>
      obd x7 fun a8 =>
      obd (jaI μ.1 a8 v1) fun x9 =>
      obd (g_R_valueOf x9 v3) fun x10 =>
      obd x6 fun a11 =>
      obd (jpA B .double a11 (((5 : Int32) * v1) + v2) (.double x10) μ) fun μ12 =>
      some (true, μ12))
    else
      some (false, μ))
  else
    some (false, μ)
/-! FilterBenchModel.floor(JJ)J -/
set_option maxRecDepth 10000 in
def g_R_floor (v0 : Int64) (v2 : Int64)  : Option Int64 :=
  obd (jdivL v0 v2) fun x1 =>
  obd (jremL v0 v2) fun x2 =>
  if (0 : Int64) ≤ x2 then (
    some x1)
  else
    some (x1 - (1 : Int64))
/-! FilterBenchModel.isPlain(I)Z -/
set_option maxRecDepth 10000 in
def g_R_isPlain_12  : Bool :=
  true
set_option maxRecDepth 10000 in
def g_R_isPlain (v0 : Int32)  : Bool :=
  if v0 = (9 : Int32) then (
    g_R_isPlain_12)
  else
    if v0 = (10 : Int32) then (
      g_R_isPlain_12)
    else
      false
/-! FilterBenchModel.ratio(IIII)Z -/
set_option maxRecDepth 10000 in
def g_R_ratio_167 (B : Nat) (v0 : Nat) (v1 : Int32) (v2 : Int32) (v5 : UInt64)  (μ : JMem) : Option (Bool × JMem) :=
  obd (jgA μ.1 v0 9 7) fun x1 =>
  obd x1 fun a2 =>
  obd (jpA B .double a2 (((5 : Int32) * v1) + v2) (.double v5) μ) fun μ3 =>
  some (true, μ3)
set_option maxRecDepth 10000 in
def g_R_ratio_151 (B : Nat) (v0 : Nat) (v1 : Int32) (v2 : Int32) (v11 : Int64)  (μ : JMem) : Option (Bool × JMem) :=
  if (g_R_isValue (2 : Int32) v11) = true then (
    g_R_ratio_167 B v0 v1 v2 (FP.l2d v11) μ)
  else
    some (false, μ)
set_option maxRecDepth 10000 in
def g_R_ratio_145 (B : Nat) (v0 : Nat) (v1 : Int32) (v2 : Int32) (v11 : Int64)  (μ : JMem) : Option (Bool × JMem) :=
  g_R_ratio_151 B v0 v1 v2 (v11 + (1 : Int64)) μ
set_option maxRecDepth 10000 in
def g_R_ratio_97 (B : Nat) (v0 : Nat) (v1 : Int32) (v2 : Int32) (v7 : Int64) (v9 : Int64)  (μ : JMem) : Option (Bool × JMem) :=
  obd (g_R_floor v7 v9) fun x1 =>
  jlet ((2 : Int64) * (v7 - (x1 * v9))) fun (v13_2 : Int64) =>
  if v9 < v13_2 then (
    g_R_ratio_145 B v0 v1 v2 x1 μ)
  else
    if v13_2 = v9 then (
      if (x1 &&& (1 : Int64)) = (1 : Int64) then (
        g_R_ratio_145 B v0 v1 v2 x1 μ)
      else
        g_R_ratio_151 B v0 v1 v2 x1 μ)
    else
      g_R_ratio_151 B v0 v1 v2 x1 μ
set_option maxRecDepth 10000 in
def g_R_ratio_73 (B : Nat) (v0 : Nat) (v1 : Int32) (v2 : Int32) (v4 : Int32) (s0 : Int64)  (μ : JMem) : Option (Bool × JMem) :=
  if (0 : Int64) ≤ (Int32.toInt64 v4) then (
    g_R_ratio_97 B v0 v1 v2 s0 (Int32.toInt64 v4) μ)
  else
    g_R_ratio_97 B v0 v1 v2 (-s0) (-(Int32.toInt64 v4)) μ
set_option maxRecDepth 10000 in
def g_R_ratio_40 (B : Nat) (v0 : Nat) (v1 : Int32) (v2 : Int32) (v3 : Int32) (v4 : Int32) (v5 : UInt64)  (μ : JMem) : Option (Bool × JMem) :=
  obd (jgA μ.1 v0 9 3) fun x1 =>
  obd x1 fun a2 =>
  obd (jaI μ.1 a2 v1) fun x3 =>
  if x3 = (2 : Int32) then (
    obd (jgA μ.1 v0 9 2) fun x4 =>
    obd x4 fun a5 =>
    obd (jaI μ.1 a5 v1) fun x6 =>
    if (g_R_isPlain x6) = true then (
      g_R_ratio_73 B v0 v1 v2 v4 (Int32.toInt64 v3) μ)
    else
      g_R_ratio_73 B v0 v1 v2 v4 ((16384 : Int64) * (Int32.toInt64 v3)) μ)
  else
    g_R_ratio_167 B v0 v1 v2 v5 μ
set_option maxRecDepth 10000 in
def g_R_ratio (B : Nat) (v0 : Nat) (v1 : Int32) (v2 : Int32) (v3 : Int32) (v4 : Int32)  (μ : JMem) : Option (Bool × JMem) :=
  jgd (jobC 9 (μ.1 v0)) <|
  obd (g_R_isCoefficient v0 v1 v2 μ.1) fun x2 =>
  if x2 = true then (
    if v4 = 0 then (
      some (false, μ))
    else
      obd (jnD (FP.ddiv (FP.i2d v3) (FP.i2d v4))) fun x3 =>
      obd (jgA μ.1 v0 9 3) fun x4 =>
      obd x4 fun a5 =>
      obd (jaI μ.1 a5 v1) fun x6 =>
      if x6 = (1 : Int32) then (
        obd (jnF (FP.d2f x3)) fun x7 =>
        obd (jnD (FP.f2d x7)) fun x8 =>
        g_R_ratio_40 B v0 v1 v2 v3 v4 x8 μ)
      else
        g_R_ratio_40 B v0 v1 v2 v3 v4 x3 μ)
  else
    some (false, μ)
/-! FilterBenchModel.rule(III)Z -/
set_option maxRecDepth 10000 in
def g_R_rule (B : Nat) (v0 : Nat) (v1 : Int32) (v2 : Int32) (v3 : Int32)  (μ : JMem) : Option (Bool × JMem) :=
  jgd (jobC 9 (μ.1 v0)) <|
  obd (g_R_isSection v0 v1 μ.1) fun x2 =>
  if x2 = true then (
    obd (jgA μ.1 v0 9 3) fun x3 =>
    obd x3 fun a4 =>
    obd (jaI μ.1 a4 v1) fun x5 =>
    if x5 = (2 : Int32) then (
      if (g_R_in v2 (0 : Int32) (2 : Int32)) = true then (
        if (g_R_in v3 (0 : Int32) (1 : Int32)) = true then (
          obd (jgA μ.1 v0 9 5) fun x6 =>
          obd x6 fun a7 =>
          obd (jpA B .int a7 v1 (.int v2) μ) fun μ8 =>
          obd (jgA μ8.1 v0 9 6) fun x9 =>
          obd x9 fun a10 =>
          obd (jpA B .int a10 v1 (.int v3) μ8) fun μ11 =>
          some (true, μ11))
        else
          some (false, μ))
      else
        some (false, μ))
    else
      some (false, μ))
  else
    some (false, μ)
/-! FilterBenchModel.newChain()I -/
set_option maxRecDepth 10000 in
def g_R_newChain (B : Nat) (v0 : Nat)  (μ : JMem) : Option (Int32 × JMem) :=
  obd (jgI μ.1 v0 9 16) fun x1 =>
  obd (jgA μ.1 v0 9 17) fun x2 =>
  obd x2 fun a3 =>
  obd (jpA B .int a3 x1 (.int (0 : Int32)) μ) fun μ4 =>
  obd (jgA μ4.1 v0 9 19) fun x5 =>
  obd x5 fun a6 =>
  obd (jpA B .int a6 x1 (.int (-1 : Int32)) μ4) fun μ7 =>
  obd (jgA μ7.1 v0 9 20) fun x8 =>
  obd x8 fun a9 =>
  obd (jpA B .int a9 x1 (.int (0 : Int32)) μ7) fun μ10 =>
  obd (jgA μ10.1 v0 9 28) fun x11 =>
  obd x11 fun a12 =>
  obd (jpA B .int a12 x1 (.int (0 : Int32)) μ10) fun μ13 =>
  obd (jgI μ13.1 v0 9 16) fun x14 =>
  obd (jpF B 9 16 v0 (.int (x14 + (1 : Int32))) μ13) fun μ15 =>
  some (x1, μ15)
/-! FilterBenchModel.chain()I -/
set_option maxRecDepth 10000 in
def g_R_chain (B : Nat) (v0 : Nat)  (μ : JMem) : Option (Int32 × JMem) :=
  obd (jgI μ.1 v0 9 16) fun x1 =>
  if x1 = (20 : Int32) then (
    some ((-1 : Int32), μ))
  else
    jgd (jobC 9 (μ.1 v0)) <|
    jbd2 (g_R_newChain B v0 μ) fun x3 μ4 =>
    some (x3, μ4)
/-! FilterBenchModel.countOf(III)I -/
set_option maxRecDepth 10000 in
def g_R_countOf_45 (N : Nat) (k6 : Nat → Int32 → Int32 → Int32 → Int32 → Int32 → (Nat → Option JCell) → Option Int32) (v0 : Nat) (v1 : Int32) (v2 : Int32) (v3 : Int32) (v4 : Int32) (v5 : Int32)  (h : Nat → Option JCell) : Option Int32 :=
  k6 v0 v1 v2 v3 v4 (v5 + 1) h
set_option maxRecDepth 10000 in
def g_R_countOf_6 (N : Nat) : Nat → Nat → Int32 → Int32 → Int32 → Int32 → Int32 → (Nat → Option JCell) → Option Int32
  | 0, _, _, _, _, _, _, _ => none
  | n + 1, v0, v1, v2, v3, v4, v5, h =>
    obd (jgA h v0 9 17) fun x1 =>
    obd x1 fun a2 =>
    obd (jaI h a2 v1) fun x3 =>
    if x3 ≤ v5 then (
      some v4)
    else
      obd (jgA h v0 9 2) fun x4 =>
      obd (jgA h v0 9 18) fun x5 =>
      obd x5 fun a6 =>
      obd (jaI h a6 (((10 : Int32) * v1) + v5)) fun x7 =>
      obd x4 fun a8 =>
      obd (jaI h a8 x7) fun x9 =>
      if (g_R_in x9 v2 v3) = true then (
        g_R_countOf_45 N (g_R_countOf_6 N n) v0 v1 v2 v3 (v4 + 1) v5 h)
      else
        g_R_countOf_45 N (g_R_countOf_6 N n) v0 v1 v2 v3 v4 v5 h
set_option maxRecDepth 10000 in
def g_R_countOf (N : Nat) (v0 : Nat) (v1 : Int32) (v2 : Int32) (v3 : Int32)  (h : Nat → Option JCell) : Option Int32 :=
  g_R_countOf_6 N N v0 v1 v2 v3 (0 : Int32) (0 : Int32) h
/-! FilterBenchModel.isChain(I)Z -/
set_option maxRecDepth 10000 in
def g_R_isChain (v0 : Nat) (v1 : Int32)  (h : Nat → Option JCell) : Option Bool :=
  obd (jgI h v0 9 16) fun x1 =>
  some (g_R_in v1 (0 : Int32) (x1 - (1 : Int32)))
/-! FilterBenchModel.join(II)I -/
set_option maxRecDepth 10000 in
def g_R_join (B : Nat) (v0 : Nat) (v1 : Int32) (v2 : Int32)  (μ : JMem) : Option (Int32 × JMem) :=
  obd (jgA μ.1 v0 9 17) fun x1 =>
  obd x1 fun a2 =>
  obd (jaI μ.1 a2 v1) fun x3 =>
  obd (jgA μ.1 v0 9 18) fun x4 =>
  obd x4 fun a5 =>
  obd (jpA B .int a5 (((10 : Int32) * v1) + x3) (.int v2) μ) fun μ6 =>
  obd (jgA μ6.1 v0 9 8) fun x7 =>
  obd x7 fun a8 =>
  obd (jpA B .int a8 v2 (.int v1) μ6) fun μ9 =>
  obd (jgA μ9.1 v0 9 9) fun x10 =>
  obd x10 fun a11 =>
  obd (jpA B .int a11 v2 (.int x3) μ9) fun μ12 =>
  obd (jgA μ12.1 v0 9 17) fun x13 =>
  obd x13 fun a14 =>
  obd (jaI μ12.1 a14 v1) fun x15 =>
  obd (jpA B .int a14 v1 (.int (x15 + (1 : Int32))) μ12) fun μ16 =>
  some (x3, μ16)
/-! FilterBenchModel.sortOf(I)I -/
set_option maxRecDepth 10000 in
def g_R_sortOf (v0 : Nat) (v1 : Int32)  (h : Nat → Option JCell) : Option Int32 :=
  obd (jgA h v0 9 17) fun x1 =>
  obd x1 fun a2 =>
  obd (jaI h a2 v1) fun x3 =>
  if x3 = 0 then (
    some (-1 : Int32))
  else
    obd (jgA h v0 9 3) fun x4 =>
    obd (jgA h v0 9 18) fun x5 =>
    obd x5 fun a6 =>
    obd (jaI h a6 ((10 : Int32) * v1)) fun x7 =>
    obd x4 fun a8 =>
    obd (jaI h a8 x7) fun x9 =>
    some x9
/-! FilterBenchModel.add(II)I -/
set_option maxRecDepth 10000 in
def g_R_add_105 (N : Nat) (B : Nat) (v0 : Nat) (v1 : Int32) (v2 : Int32)  (μ : JMem) : Option (Int32 × JMem) :=
  jgd (jobC 9 (μ.1 v0)) <|
  jbd2 (g_R_join B v0 v1 v2 μ) fun x2 μ3 =>
  some (x2, μ3)
set_option maxRecDepth 10000 in
def g_R_add_74 (N : Nat) (B : Nat) (v0 : Nat) (v1 : Int32) (v2 : Int32)  (μ : JMem) : Option (Int32 × JMem) :=
  obd (jgA μ.1 v0 9 2) fun x1 =>
  obd x1 fun a2 =>
  obd (jaI μ.1 a2 v2) fun x3 =>
  if (g_R_in x3 (13 : Int32) (14 : Int32)) = true then (
    jgd (jobC 9 (μ.1 v0)) <|
    obd (g_R_countOf N v0 v1 (13 : Int32) (14 : Int32) μ.1) fun x5 =>
    if x5 = (2 : Int32) then (
      some ((-1 : Int32), μ))
    else
      g_R_add_105 N B v0 v1 v2 μ)
  else
    g_R_add_105 N B v0 v1 v2 μ
set_option maxRecDepth 10000 in
def g_R_add (N : Nat) (B : Nat) (v0 : Nat) (v1 : Int32) (v2 : Int32)  (μ : JMem) : Option (Int32 × JMem) :=
  jgd (jobC 9 (μ.1 v0)) <|
  obd (g_R_isChain v0 v1 μ.1) fun x2 =>
  if x2 = true then (
    jgd (jobC 9 (μ.1 v0)) <|
    obd (g_R_isSection v0 v2 μ.1) fun x4 =>
    if x4 = true then (
      obd (jgA μ.1 v0 9 8) fun x5 =>
      obd x5 fun a6 =>
      obd (jaI μ.1 a6 v2) fun x7 =>
      if x7 = (-1 : Int32) then (
        obd (jgA μ.1 v0 9 19) fun x8 =>
        obd x8 fun a9 =>
        obd (jaI μ.1 a9 v1) fun x10 =>
        if x10 = (-1 : Int32) then (
          obd (jgA μ.1 v0 9 17) fun x11 =>
          obd x11 fun a12 =>
          obd (jaI μ.1 a12 v1) fun x13 =>
          if x13 = (10 : Int32) then (
            some ((-1 : Int32), μ))
          else
            obd (jgA μ.1 v0 9 17) fun x14 =>
            obd x14 fun a15 =>
            obd (jaI μ.1 a15 v1) fun x16 =>
            if x16 ≤ 0 then (
              g_R_add_74 N B v0 v1 v2 μ)
            else
              obd (jgA μ.1 v0 9 3) fun x17 =>
              obd x17 fun a18 =>
              obd (jaI μ.1 a18 v2) fun x19 =>
              jgd (jobC 9 (μ.1 v0)) <|
              obd (g_R_sortOf v0 v1 μ.1) fun x21 =>
              if x19 = x21 then (
                g_R_add_74 N B v0 v1 v2 μ)
              else
                some ((-1 : Int32), μ))
        else
          some ((-1 : Int32), μ))
      else
        some ((-1 : Int32), μ))
    else
      some ((-1 : Int32), μ))
  else
    some ((-1 : Int32), μ)
/-! FilterBenchModel.newLoop(IIIID)I -/
set_option maxRecDepth 10000 in
def g_R_newLoop_49 (N : Nat) (B : Nat) : Nat → Nat → Int32 → Int32 → Int32 → JMem → Option (Int32 × JMem)
  | 0, _, _, _, _, _ => none
  | n + 1, v0, v1, v7, v8, μ =>
    if (64 : Int32) ≤ v8 then (
      obd (jgA μ.1 v0 9 26) fun x1 =>
      obd x1 fun a2 =>
      obd (jpA B .int a2 v7 (.int (0 : Int32)) μ) fun μ3 =>
      obd (jgA μ3.1 v0 9 20) fun x4 =>
      obd x4 fun a5 =>
      obd (jaI μ3.1 a5 v1) fun x6 =>
      obd (jpA B .int a5 v1 (.int (x6 + (1 : Int32))) μ3) fun μ7 =>
      obd (jgA μ7.1 v0 9 20) fun x8 =>
      obd x8 fun a9 =>
      obd (jaI μ7.1 a9 v1) fun x10 =>
      some (x10, μ7))
    else
      obd (jgA μ.1 v0 9 25) fun x11 =>
      obd x11 fun a12 =>
      obd (jpA B .double a12 (((64 : Int32) * v7) + v8) (.double (0 : UInt64)) μ) fun μ13 =>
      g_R_newLoop_49 N B n v0 v1 v7 (v8 + 1) μ13
set_option maxRecDepth 10000 in
def g_R_newLoop (N : Nat) (B : Nat) (v0 : Nat) (v1 : Int32) (v2 : Int32) (v3 : Int32) (v4 : Int32) (v5 : UInt64)  (μ : JMem) : Option (Int32 × JMem) :=
  obd (jgA μ.1 v0 9 20) fun x1 =>
  obd x1 fun a2 =>
  obd (jaI μ.1 a2 v1) fun x3 =>
  obd (jgA μ.1 v0 9 21) fun x4 =>
  obd x4 fun a5 =>
  obd (jpA B .int a5 (((3 : Int32) * v1) + x3) (.int v3) μ) fun μ6 =>
  obd (jgA μ6.1 v0 9 22) fun x7 =>
  obd x7 fun a8 =>
  obd (jpA B .int a8 (((3 : Int32) * v1) + x3) (.int v2) μ6) fun μ9 =>
  obd (jgA μ9.1 v0 9 23) fun x10 =>
  obd x10 fun a11 =>
  obd (jpA B .int a11 (((3 : Int32) * v1) + x3) (.int v4) μ9) fun μ12 =>
  obd (jgA μ12.1 v0 9 24) fun x13 =>
  obd x13 fun a14 =>
  obd (jpA B .double a14 (((3 : Int32) * v1) + x3) (.double v5) μ12) fun μ15 =>
  g_R_newLoop_49 N B N v0 v1 (((3 : Int32) * v1) + x3) (0 : Int32) μ15
/-! FilterBenchModel.loop(IIIIJ)I -/
set_option maxRecDepth 10000 in
def g_R_loop_63 (N : Nat) (B : Nat) : Nat → Nat → Int32 → Int32 → Int32 → Int32 → Int64 → Int32 → JMem → Option (Int32 × JMem)
  | 0, _, _, _, _, _, _, _, _ => none
  | n + 1, v0, v1, v2, v3, v4, v5, v7, μ =>
    if v3 < v7 then (
      jgd (jobC 9 (μ.1 v0)) <|
      obd (g_R_sortOf v0 v1 μ.1) fun x2 =>
      if (g_R_isValue x2 v5) = true then (
        jgd (jobC 9 (μ.1 v0)) <|
        obd (g_R_sortOf v0 v1 μ.1) fun x4 =>
        obd (g_R_valueOf x4 v5) fun x5 =>
        jgd (jobC 9 (μ.1 v0)) <|
        jbd2 (g_R_newLoop N B v0 v1 v2 v3 v4 x5 μ) fun x7 μ8 =>
        some (x7, μ8))
      else
        some ((-1 : Int32), μ))
    else
      obd (jgA μ.1 v0 9 2) fun x9 =>
      obd (jgA μ.1 v0 9 18) fun x10 =>
      obd x10 fun a11 =>
      obd (jaI μ.1 a11 (((10 : Int32) * v1) + v7)) fun x12 =>
      obd x9 fun a13 =>
      obd (jaI μ.1 a13 x12) fun x14 =>
      if (g_R_in x14 (12 : Int32) (14 : Int32)) = true then (
        some ((-1 : Int32), μ))
      else
        g_R_loop_63 N B n v0 v1 v2 v3 v4 v5 (v7 + 1) μ
set_option maxRecDepth 10000 in
def g_R_loop (N : Nat) (B : Nat) (v0 : Nat) (v1 : Int32) (v2 : Int32) (v3 : Int32) (v4 : Int32) (v5 : Int64)  (μ : JMem) : Option (Int32 × JMem) :=
  jgd (jobC 9 (μ.1 v0)) <|
  obd (g_R_isChain v0 v1 μ.1) fun x2 =>
  if x2 = true then (
    obd (jgA μ.1 v0 9 19) fun x3 =>
    obd x3 fun a4 =>
    obd (jaI μ.1 a4 v1) fun x5 =>
    if x5 = (-1 : Int32) then (
      obd (jgA μ.1 v0 9 20) fun x6 =>
      obd x6 fun a7 =>
      obd (jaI μ.1 a7 v1) fun x8 =>
      if x8 = (3 : Int32) then (
        some ((-1 : Int32), μ))
      else
        if v2 < 0 then (
          some ((-1 : Int32), μ))
        else
          if v3 < v2 then (
            some ((-1 : Int32), μ))
          else
            obd (jgA μ.1 v0 9 17) fun x9 =>
            obd x9 fun a10 =>
            obd (jaI μ.1 a10 v1) fun x11 =>
            if x11 ≤ v3 then (
              some ((-1 : Int32), μ))
            else
              if (g_R_in v4 (1 : Int32) (64 : Int32)) = true then (
                g_R_loop_63 N B N v0 v1 v2 v3 v4 v5 v2 μ)
              else
                some ((-1 : Int32), μ))
    else
      some ((-1 : Int32), μ))
  else
    some ((-1 : Int32), μ)
/-! FilterBenchModel.within(II)Z -/
set_option maxRecDepth 10000 in
def g_R_within (N : Nat) (B : Nat) (v0 : Nat) (v1 : Int32) (v2 : Int32)  (μ : JMem) : Option (Bool × JMem) :=
  jgd (jobC 9 (μ.1 v0)) <|
  obd (g_R_isSection v0 v1 μ.1) fun x2 =>
  if x2 = true then (
    jgd (jobC 9 (μ.1 v0)) <|
    obd (g_R_isChain v0 v2 μ.1) fun x4 =>
    if x4 = true then (
      obd (jgA μ.1 v0 9 2) fun x5 =>
      obd x5 fun a6 =>
      obd (jaI μ.1 a6 v1) fun x7 =>
      if x7 = (15 : Int32) then (
        obd (jgA μ.1 v0 9 8) fun x8 =>
        obd x8 fun a9 =>
        obd (jaI μ.1 a9 v1) fun x10 =>
        if x10 ≤ v2 then (
          some (false, μ))
        else
          obd (jgA μ.1 v0 9 10) fun x11 =>
          obd x11 fun a12 =>
          obd (jaI μ.1 a12 v1) fun x13 =>
          if x13 = (-1 : Int32) then (
            obd (jgA μ.1 v0 9 19) fun x14 =>
            obd x14 fun a15 =>
            obd (jaI μ.1 a15 v2) fun x16 =>
            if x16 = (-1 : Int32) then (
              obd (jgA μ.1 v0 9 17) fun x17 =>
              obd x17 fun a18 =>
              obd (jaI μ.1 a18 v2) fun x19 =>
              if x19 = 0 then (
                some (false, μ))
              else
                jgd (jobC 9 (μ.1 v0)) <|
                obd (g_R_sortOf v0 v2 μ.1) fun x21 =>
                obd (jgA μ.1 v0 9 3) fun x22 =>
                obd x22 fun a23 =>
                obd (jaI μ.1 a23 v1) fun x24 =>
                if x21 = x24 then (
                  jgd (jobC 9 (μ.1 v0)) <|
                  obd (g_R_countOf N v0 v2 (12 : Int32) (14 : Int32) μ.1) fun x26 =>
                  if x26 ≤ 0 then (
                    obd (jgA μ.1 v0 9 10) fun x27 =>
                    obd x27 fun a28 =>
                    obd (jpA B .int a28 v1 (.int v2) μ) fun μ29 =>
                    obd (jgA μ29.1 v0 9 19) fun x30 =>
                    obd x30 fun a31 =>
                    obd (jpA B .int a31 v2 (.int v1) μ29) fun μ32 =>
                    some (true, μ32))
                  else
                    some (false, μ))
                else
                  some (false, μ))
            else
              some (false, μ))
          else
            some (false, μ))
      else
        some (false, μ))
    else
      some (false, μ))
  else
    some (false, μ)
/-! FilterBenchModel.begins(I)V -/
set_option maxRecDepth 10000 in
def g_R_begins (B : Nat) (v0 : Nat) (v1 : Int32)  (μ : JMem) : Option JMem :=
  obd (jpF B 9 29 v0 (.int v1) μ) fun μ1 =>
  obd (jpF B 9 30 v0 (.int (0 : Int32)) μ1) fun μ2 =>
  obd (jpF B 9 31 v0 (.double (0 : UInt64)) μ2) fun μ3 =>
  obd (jpF B 9 32 v0 (.long (0 : Int64)) μ3) fun μ4 =>
  some μ4
/-! FilterBenchModel.cut(JI)D -/
set_option maxRecDepth 10000 in
def g_R_cut (v0 : Int64) (v2 : Int32)  : UInt64 :=
  if v2 = (1 : Int32) then (
    (FP.i2d (Int16.toInt32 (Int32.toInt16 (Int64.toInt32 v0)))))
  else
    if v0 ≤ (32767 : Int64) then (
      if (-32768 : Int64) ≤ v0 then (
        (FP.l2d v0))
      else
        (0xc0e0000000000000 : UInt64))
    else
      (0x40dfffc000000000 : UInt64)
/-! FilterBenchModel.comes()D -/
set_option maxRecDepth 10000 in
def g_R_comes_105 (B : Nat) (v0 : Nat) (v1 : Int32) (v2 : Int64)  (μ : JMem) : Option (UInt64 × JMem) :=
  if (g_R_isValue (2 : Int32) v2) = true then (
    some ((FP.l2d v2), μ))
  else
    obd (jgA μ.1 v0 9 11) fun x1 =>
    obd x1 fun a2 =>
    obd (jaI μ.1 a2 v1) fun x3 =>
    obd (jpA B .int a2 v1 (.int (x3 + (1 : Int32))) μ) fun μ4 =>
    obd (jgA μ4.1 v0 9 6) fun x5 =>
    obd x5 fun a6 =>
    obd (jaI μ4.1 a6 v1) fun x7 =>
    some ((g_R_cut v2 x7), μ4)
set_option maxRecDepth 10000 in
def g_R_comes (B : Nat) (v0 : Nat)  (μ : JMem) : Option (UInt64 × JMem) :=
  obd (jgI μ.1 v0 9 29) fun x1 =>
  obd (jgA μ.1 v0 9 3) fun x2 =>
  obd x2 fun a3 =>
  obd (jaI μ.1 a3 x1) fun x4 =>
  if x4 = (2 : Int32) then (
    obd (jgA μ.1 v0 9 5) fun x5 =>
    obd x5 fun a6 =>
    obd (jaI μ.1 a6 x1) fun x7 =>
    if x7 = 0 then (
      obd (jgJ μ.1 v0 9 32) fun x8 =>
      obd (g_R_floor (x8 + (8192 : Int64)) (16384 : Int64)) fun x9 =>
      g_R_comes_105 B v0 x1 x9 μ)
    else
      obd (jgA μ.1 v0 9 5) fun x10 =>
      obd x10 fun a11 =>
      obd (jaI μ.1 a11 x1) fun x12 =>
      if x12 = (1 : Int32) then (
        obd (jgJ μ.1 v0 9 32) fun x13 =>
        g_R_comes_105 B v0 x1 (x13 / (16384 : Int64)) μ)
      else
        obd (jgJ μ.1 v0 9 32) fun x14 =>
        obd (jgA μ.1 v0 9 15) fun x15 =>
        obd x15 fun a16 =>
        obd (jaJ μ.1 a16 x1) fun x17 =>
        jlet ((x14 + x17) / (16384 : Int64)) fun (v2_18 : Int64) =>
        obd (jgA μ.1 v0 9 15) fun x19 =>
        obd x19 fun a20 =>
        obd (jpA B .long a20 x1 (.long ((x14 + x17) - ((16384 : Int64) * v2_18))) μ) fun μ21 =>
        g_R_comes_105 B v0 x1 v2_18 μ21)
  else
    obd (jgD μ.1 v0 9 31) fun x22 =>
    some (x22, μ)
/-! FilterBenchModel.c(II)D -/
set_option maxRecDepth 10000 in
def g_R_c (v0 : Nat) (v1 : Int32) (v2 : Int32)  (h : Nat → Option JCell) : Option UInt64 :=
  obd (jgA h v0 9 7) fun x1 =>
  obd x1 fun a2 =>
  obd (jaD h a2 (((5 : Int32) * v1) + v2)) fun x3 =>
  some x3
/-! FilterBenchModel.leaves()V -/
set_option maxRecDepth 10000 in
def g_R_leaves_84 (N : Nat) (B : Nat) (k7 : Nat → Int32 → JMem → Option JMem) (v0 : Nat) (v1 : Int32)  (μ : JMem) : Option JMem :=
  k7 v0 (v1 + 1) μ
set_option maxRecDepth 10000 in
def g_R_leaves_7 (N : Nat) (B : Nat) : Nat → Nat → Int32 → JMem → Option JMem
  | 0, _, _, _ => none
  | n + 1, v0, v1, μ =>
    obd (jgI μ.1 v0 9 39) fun x1 =>
    obd (jgA μ.1 v0 9 20) fun x2 =>
    obd (jgI μ.1 v0 9 39) fun x3 =>
    obd x2 fun a4 =>
    obd (jaI μ.1 a4 x3) fun x5 =>
    if (((3 : Int32) * x1) + x5) ≤ v1 then (
      obd (jgI μ.1 v0 9 40) fun x6 =>
      obd (jpF B 9 40 v0 (.int (x6 + (1 : Int32))) μ) fun μ7 =>
      some μ7)
    else
      obd (jgA μ.1 v0 9 21) fun x8 =>
      obd x8 fun a9 =>
      obd (jaI μ.1 a9 v1) fun x10 =>
      obd (jgI μ.1 v0 9 40) fun x11 =>
      if x10 = x11 then (
        obd (jgA μ.1 v0 9 25) fun x12 =>
        obd (jgA μ.1 v0 9 26) fun x13 =>
        obd x13 fun a14 =>
        obd (jaI μ.1 a14 v1) fun x15 =>
        obd (jgD μ.1 v0 9 41) fun x16 =>
        obd x12 fun a17 =>
        obd (jpA B .double a17 (((64 : Int32) * v1) + x15) (.double x16) μ) fun μ18 =>
        obd (jgA μ18.1 v0 9 26) fun x19 =>
        obd (jgA μ18.1 v0 9 26) fun x20 =>
        obd x20 fun a21 =>
        obd (jaI μ18.1 a21 v1) fun x22 =>
        obd (jgA μ18.1 v0 9 23) fun x23 =>
        obd x23 fun a24 =>
        obd (jaI μ18.1 a24 v1) fun x25 =>
        obd (jremI (x22 + (1 : Int32)) x25) fun x26 =>
        obd x19 fun a27 =>
        obd (jpA B .int a27 v1 (.int x26) μ18) fun μ28 =>
        g_R_leaves_84 N B (g_R_leaves_7 N B n) v0 v1 μ28)
      else
        g_R_leaves_84 N B (g_R_leaves_7 N B n) v0 v1 μ
set_option maxRecDepth 10000 in
def g_R_leaves (N : Nat) (B : Nat) (v0 : Nat)  (μ : JMem) : Option JMem :=
  obd (jgI μ.1 v0 9 39) fun x1 =>
  g_R_leaves_7 N B N v0 ((3 : Int32) * x1) μ
/-! FilterBenchModel.isEndless(D)Z -/
set_option maxRecDepth 10000 in
def g_R_isEndless_16  : Bool :=
  true
set_option maxRecDepth 10000 in
def g_R_isEndless (v0 : UInt64)  : Bool :=
  if (Op.cmpValue (FP.dcmp v0 (0x7ff0000000000000 : UInt64)) .l) = 0 then (
    g_R_isEndless_16)
  else
    if (Op.cmpValue (FP.dcmp v0 (0xfff0000000000000 : UInt64)) .l) = 0 then (
      g_R_isEndless_16)
    else
      false
/-! FilterBenchModel.joins(DZ)V -/
set_option maxRecDepth 10000 in
def g_R_joins_156 (B : Nat) (v0 : Nat)  (μ : JMem) : Option JMem :=
  obd (jgI μ.1 v0 9 30) fun x1 =>
  obd (jpF B 9 30 v0 (.int (x1 + (1 : Int32))) μ) fun μ2 =>
  some μ2
set_option maxRecDepth 10000 in
def g_R_joins_33 (B : Nat) (v0 : Nat)  (μ : JMem) : Option JMem :=
  obd (jpF B 9 31 v0 (.double (0x7ff8000000000000 : UInt64)) μ) fun μ1 =>
  g_R_joins_156 B v0 μ1
set_option maxRecDepth 10000 in
def g_R_joins_127 (B : Nat) (v0 : Nat) (s0 : UInt64) (s1 : Nat)  (μ : JMem) : Option JMem :=
  obd (jpF B 9 31 s1 (.double s0) μ) fun μ1 =>
  g_R_joins_156 B v0 μ1
set_option maxRecDepth 10000 in
def g_R_joins_153 (B : Nat) (v0 : Nat) (s0 : UInt64) (s1 : Nat)  (μ : JMem) : Option JMem :=
  obd (jpF B 9 31 s1 (.double s0) μ) fun μ1 =>
  g_R_joins_156 B v0 μ1
set_option maxRecDepth 10000 in
def g_R_joins_88 (B : Nat) (v0 : Nat) (v1 : UInt64) (v3 : Bool)  (μ : JMem) : Option JMem :=
  obd (jgA μ.1 v0 9 3) fun x1 =>
  obd (jgI μ.1 v0 9 29) fun x2 =>
  obd x1 fun a3 =>
  obd (jaI μ.1 a3 x2) fun x4 =>
  if x4 = (1 : Int32) then (
    if v3 = true then (
      obd (jgD μ.1 v0 9 31) fun x5 =>
      obd (jnF (FP.d2f x5)) fun x6 =>
      obd (jnF (FP.d2f v1)) fun x7 =>
      obd (jnF (FP.fsub x6 x7)) fun x8 =>
      obd (jnD (FP.f2d x8)) fun x9 =>
      g_R_joins_127 B v0 x9 v0 μ)
    else
      obd (jgD μ.1 v0 9 31) fun x10 =>
      obd (jnF (FP.d2f x10)) fun x11 =>
      obd (jnF (FP.d2f v1)) fun x12 =>
      obd (jnF (FP.fadd x11 x12)) fun x13 =>
      obd (jnD (FP.f2d x13)) fun x14 =>
      g_R_joins_127 B v0 x14 v0 μ)
  else
    if v3 = true then (
      obd (jgD μ.1 v0 9 31) fun x15 =>
      obd (jnD (FP.dsub x15 v1)) fun x16 =>
      g_R_joins_153 B v0 x16 v0 μ)
    else
      obd (jgD μ.1 v0 9 31) fun x17 =>
      obd (jnD (FP.dadd x17 v1)) fun x18 =>
      g_R_joins_153 B v0 x18 v0 μ
set_option maxRecDepth 10000 in
def g_R_joins_74 (B : Nat) (v0 : Nat) (v1 : UInt64) (v3 : Bool) (s0 : Bool)  (μ : JMem) : Option JMem :=
  if s0 = v3 then (
    obd (jpF B 9 31 v0 (.double (0x7ff8000000000000 : UInt64)) μ) fun μ1 =>
    g_R_joins_156 B v0 μ1)
  else
    g_R_joins_88 B v0 v1 v3 μ
set_option maxRecDepth 10000 in
def g_R_joins (B : Nat) (v0 : Nat) (v1 : UInt64) (v3 : Bool)  (μ : JMem) : Option JMem :=
  obd (jgI μ.1 v0 9 30) fun x1 =>
  if x1 = 0 then (
    obd (jpF B 9 31 v0 (.double v1) μ) fun μ2 =>
    g_R_joins_156 B v0 μ2)
  else
    obd (jgD μ.1 v0 9 31) fun x3 =>
    obd (jgD μ.1 v0 9 31) fun x4 =>
    if (Op.cmpValue (FP.dcmp x3 x4) .l) = 0 then (
      if (Op.cmpValue (FP.dcmp v1 v1) .l) = 0 then (
        obd (jgD μ.1 v0 9 31) fun x5 =>
        if (g_R_isEndless x5) = true then (
          if (g_R_isEndless v1) = true then (
            obd (jgD μ.1 v0 9 31) fun x6 =>
            if (Op.cmpValue (FP.dcmp x6 v1) .l) = 0 then (
              g_R_joins_74 B v0 v1 v3 true μ)
            else
              g_R_joins_74 B v0 v1 v3 false μ)
          else
            g_R_joins_88 B v0 v1 v3 μ)
        else
          g_R_joins_88 B v0 v1 v3 μ)
      else
        g_R_joins_33 B v0 μ)
    else
      g_R_joins_33 B v0 μ
/-! FilterBenchModel.product(DD)D -/
set_option maxRecDepth 10000 in
def g_R_product_46 (v0 : Nat) (v1 : UInt64) (v3 : UInt64)  (h : Nat → Option JCell) : Option UInt64 :=
  obd (jgA h v0 9 3) fun x1 =>
  obd (jgI h v0 9 29) fun x2 =>
  obd x1 fun a3 =>
  obd (jaI h a3 x2) fun x4 =>
  if x4 = (1 : Int32) then (
    obd (jnF (FP.d2f v1)) fun x5 =>
    obd (jnF (FP.d2f v3)) fun x6 =>
    obd (jnF (FP.fmul x5 x6)) fun x7 =>
    obd (jnD (FP.f2d x7)) fun x8 =>
    some x8)
  else
    obd (jnD (FP.dmul v1 v3)) fun x9 =>
    some x9
set_option maxRecDepth 10000 in
def g_R_product_29 (v0 : Nat) (v1 : UInt64) (v3 : UInt64)  (h : Nat → Option JCell) : Option UInt64 :=
  if (Op.cmpValue (FP.dcmp v1 (0 : UInt64)) .l) = 0 then (
    if (g_R_isEndless v3) = true then (
      some (0x7ff8000000000000 : UInt64))
    else
      g_R_product_46 v0 v1 v3 h)
  else
    g_R_product_46 v0 v1 v3 h
set_option maxRecDepth 10000 in
def g_R_product (v0 : Nat) (v1 : UInt64) (v3 : UInt64)  (h : Nat → Option JCell) : Option UInt64 :=
  if (Op.cmpValue (FP.dcmp v1 v1) .l) = 0 then (
    if (Op.cmpValue (FP.dcmp v3 v3) .l) = 0 then (
      if (g_R_isEndless v1) = true then (
        if (Op.cmpValue (FP.dcmp v3 (0 : UInt64)) .l) = 0 then (
          some (0x7ff8000000000000 : UInt64))
        else
          g_R_product_29 v0 v1 v3 h)
      else
        g_R_product_29 v0 v1 v3 h)
    else
      some (0x7ff8000000000000 : UInt64))
  else
    some (0x7ff8000000000000 : UInt64)
/-! FilterBenchModel.term(DDZ)V -/
set_option maxRecDepth 10000 in
def g_R_term_38 (B : Nat) (s0 : Int64) (s1 : Int64) (s2 : Nat)  (μ : JMem) : Option JMem :=
  obd (jpF B 9 32 s2 (.long (s1 + s0)) μ) fun μ1 =>
  some μ1
set_option maxRecDepth 10000 in
def g_R_term (B : Nat) (v0 : Nat) (v1 : UInt64) (v3 : UInt64) (v5 : Bool)  (μ : JMem) : Option JMem :=
  obd (jgA μ.1 v0 9 3) fun x1 =>
  obd (jgI μ.1 v0 9 29) fun x2 =>
  obd x1 fun a3 =>
  obd (jaI μ.1 a3 x2) fun x4 =>
  if x4 = (2 : Int32) then (
    obd (jgJ μ.1 v0 9 32) fun x5 =>
    if v5 = true then (
      g_R_term_38 B (-((FP.d2l v1) * (FP.d2l v3))) x5 v0 μ)
    else
      g_R_term_38 B ((FP.d2l v1) * (FP.d2l v3)) x5 v0 μ)
  else
    jgd (jobC 9 (μ.1 v0)) <|
    obd (g_R_product v0 v1 v3 μ.1) fun x7 =>
    jgd (jobC 9 (μ.1 v0)) <|
    obd (g_R_joins B v0 x7 v5 μ) fun μ9 =>
    some μ9
/-! FilterBenchModel.goesOn()Z -/
set_option maxRecDepth 10000 in
def g_R_goesOn_175 (N : Nat) (B : Nat) (v0 : Nat) (s0 : UInt64) (s1 : Nat)  (μ : JMem) : Option (Bool × JMem) :=
  obd (jpF B 9 41 s1 (.double s0) μ) fun μ1 =>
  obd (jgI μ1.1 v0 9 40) fun x2 =>
  obd (jpF B 9 40 v0 (.int (x2 + (1 : Int32))) μ1) fun μ3 =>
  some (true, μ3)
set_option maxRecDepth 10000 in
def g_R_goesOn_153 (N : Nat) (B : Nat) (v0 : Nat) (v1 : Int32) (v2 : Int32)  (μ : JMem) : Option (Bool × JMem) :=
  obd (jgA μ.1 v0 9 2) fun x1 =>
  obd x1 fun a2 =>
  obd (jaI μ.1 a2 v2) fun x3 =>
  if x3 = (14 : Int32) then (
    obd (jgA μ.1 v0 9 38) fun x4 =>
    obd x4 fun a5 =>
    obd (jaD μ.1 a5 v1) fun x6 =>
    g_R_goesOn_175 N B v0 x6 v0 μ)
  else
    g_R_goesOn_175 N B v0 (0 : UInt64) v0 μ
set_option maxRecDepth 10000 in
def g_R_goesOn (N : Nat) (B : Nat) (v0 : Nat)  (μ : JMem) : Option (Bool × JMem) :=
  obd (jgI μ.1 v0 9 34) fun x1 =>
  if x1 = 0 then (
    some (false, μ))
  else
    obd (jgI μ.1 v0 9 34) fun x2 =>
    obd (jgA μ.1 v0 9 35) fun x3 =>
    obd x3 fun a4 =>
    obd (jaI μ.1 a4 (x2 - (1 : Int32))) fun x5 =>
    obd (jpF B 9 39 v0 (.int x5) μ) fun μ6 =>
    obd (jgA μ6.1 v0 9 36) fun x7 =>
    obd x7 fun a8 =>
    obd (jaI μ6.1 a8 (x2 - (1 : Int32))) fun x9 =>
    obd (jpF B 9 40 v0 (.int x9) μ6) fun μ10 =>
    obd (jgA μ10.1 v0 9 18) fun x11 =>
    obd (jgI μ10.1 v0 9 39) fun x12 =>
    obd (jgI μ10.1 v0 9 40) fun x13 =>
    obd x11 fun a14 =>
    obd (jaI μ10.1 a14 (((10 : Int32) * x12) + x13)) fun x15 =>
    obd (jgA μ10.1 v0 9 37) fun x16 =>
    obd x16 fun a17 =>
    obd (jaI μ10.1 a17 (x2 - (1 : Int32))) fun x18 =>
    if 0 ≤ x18 then (
      obd (jgA μ10.1 v0 9 37) fun x19 =>
      obd x19 fun a20 =>
      obd (jaI μ10.1 a20 (x2 - (1 : Int32))) fun x21 =>
      obd (jpA B .int a20 (x2 - (1 : Int32)) (.int (x21 - (1 : Int32))) μ10) fun μ22 =>
      obd (jgA μ22.1 v0 9 37) fun x23 =>
      obd x23 fun a24 =>
      obd (jaI μ22.1 a24 (x2 - (1 : Int32))) fun x25 =>
      if x25 = 0 then (
        obd (jgI μ22.1 v0 9 34) fun x26 =>
        obd (jpF B 9 34 v0 (.int (x26 - (1 : Int32))) μ22) fun μ27 =>
        g_R_goesOn_153 N B v0 (x2 - (1 : Int32)) x15 μ27)
      else
        g_R_goesOn_153 N B v0 (x2 - (1 : Int32)) x15 μ22)
    else
      obd (jgI μ10.1 v0 9 34) fun x28 =>
      obd (jpF B 9 34 v0 (.int (x28 - (1 : Int32))) μ10) fun μ29 =>
      jgd (jobC 9 (μ29.1 v0)) <|
      obd (g_R_begins B v0 x15 μ29) fun μ31 =>
      jgd (jobC 9 (μ31.1 v0)) <|
      obd (g_R_c v0 x15 (0 : Int32) μ31.1) fun x33 =>
      obd (jgA μ31.1 v0 9 38) fun x34 =>
      obd x34 fun a35 =>
      obd (jaD μ31.1 a35 (x2 - (1 : Int32))) fun x36 =>
      jgd (jobC 9 (μ31.1 v0)) <|
      obd (g_R_term B v0 x33 x36 false μ31) fun μ38 =>
      jgd (jobC 9 (μ38.1 v0)) <|
      obd (g_R_c v0 x15 (1 : Int32) μ38.1) fun x40 =>
      obd (jgD μ38.1 v0 9 33) fun x41 =>
      jgd (jobC 9 (μ38.1 v0)) <|
      obd (g_R_term B v0 x40 x41 false μ38) fun μ43 =>
      jgd (jobC 9 (μ43.1 v0)) <|
      jbd2 (g_R_comes B v0 μ43) fun x45 μ46 =>
      obd (jpF B 9 41 v0 (.double x45) μ46) fun μ47 =>
      jgd (jobC 9 (μ47.1 v0)) <|
      obd (g_R_leaves N B v0 μ47) fun μ49 =>
      some (true, μ49)
/-! FilterBenchModel.st(II)D -/
set_option maxRecDepth 10000 in
def g_R_st (v0 : Nat) (v1 : Int32) (v2 : Int32)  (h : Nat → Option JCell) : Option UInt64 :=
  obd (jgA h v0 9 13) fun x1 =>
  obd x1 fun a2 =>
  obd (jaD h a2 (((64 : Int32) * v1) + v2)) fun x3 =>
  some x3
/-! FilterBenchModel.st(IID)V -/
set_option maxRecDepth 10000 in
def g_R_st_2 (B : Nat) (v0 : Nat) (v1 : Int32) (v2 : Int32) (v3 : UInt64)  (μ : JMem) : Option JMem :=
  obd (jgA μ.1 v0 9 13) fun x1 =>
  obd x1 fun a2 =>
  obd (jpA B .double a2 (((64 : Int32) * v1) + v2) (.double v3) μ) fun μ3 =>
  some μ3
/-! FilterBenchModel.term(DZ)V -/
set_option maxRecDepth 10000 in
def g_R_term_2_38 (B : Nat) (s0 : Int64) (s1 : Int64) (s2 : Nat)  (μ : JMem) : Option JMem :=
  obd (jpF B 9 32 s2 (.long (s1 + s0)) μ) fun μ1 =>
  some μ1
set_option maxRecDepth 10000 in
def g_R_term_2 (B : Nat) (v0 : Nat) (v1 : UInt64) (v3 : Bool)  (μ : JMem) : Option JMem :=
  obd (jgA μ.1 v0 9 3) fun x1 =>
  obd (jgI μ.1 v0 9 29) fun x2 =>
  obd x1 fun a3 =>
  obd (jaI μ.1 a3 x2) fun x4 =>
  if x4 = (2 : Int32) then (
    jlet ((16384 : Int64) * (FP.d2l v1)) fun (v4_5 : Int64) =>
    obd (jgJ μ.1 v0 9 32) fun x6 =>
    if v3 = true then (
      g_R_term_2_38 B (-v4_5) x6 v0 μ)
    else
      g_R_term_2_38 B v4_5 x6 v0 μ)
  else
    jgd (jobC 9 (μ.1 v0)) <|
    obd (g_R_joins B v0 v1 v3 μ) fun μ8 =>
    some μ8
/-! FilterBenchModel.waits(I)V -/
set_option maxRecDepth 10000 in
def g_R_waits (B : Nat) (v0 : Nat) (v1 : Int32)  (μ : JMem) : Option JMem :=
  obd (jgA μ.1 v0 9 35) fun x1 =>
  obd (jgI μ.1 v0 9 34) fun x2 =>
  obd (jgI μ.1 v0 9 39) fun x3 =>
  obd x1 fun a4 =>
  obd (jpA B .int a4 x2 (.int x3) μ) fun μ5 =>
  obd (jgA μ5.1 v0 9 36) fun x6 =>
  obd (jgI μ5.1 v0 9 34) fun x7 =>
  obd (jgI μ5.1 v0 9 40) fun x8 =>
  obd x6 fun a9 =>
  obd (jpA B .int a9 x7 (.int x8) μ5) fun μ10 =>
  obd (jgA μ10.1 v0 9 37) fun x11 =>
  obd (jgI μ10.1 v0 9 34) fun x12 =>
  obd x11 fun a13 =>
  obd (jpA B .int a13 x12 (.int v1) μ10) fun μ14 =>
  obd (jgA μ14.1 v0 9 38) fun x15 =>
  obd (jgI μ14.1 v0 9 34) fun x16 =>
  obd (jgD μ14.1 v0 9 41) fun x17 =>
  obd x15 fun a18 =>
  obd (jpA B .double a18 x16 (.double x17) μ14) fun μ19 =>
  obd (jgI μ19.1 v0 9 34) fun x20 =>
  obd (jpF B 9 34 v0 (.int (x20 + (1 : Int32))) μ19) fun μ21 =>
  some μ21
/-! FilterBenchModel.rings(ID)D -/
set_option maxRecDepth 10000 in
def g_R_rings (B : Nat) (v0 : Nat) (v1 : Int32) (v2 : UInt64)  (μ : JMem) : Option (UInt64 × JMem) :=
  obd (jgA μ.1 v0 9 4) fun x1 =>
  obd x1 fun a2 =>
  obd (jaI μ.1 a2 v1) fun x3 =>
  obd (jgA μ.1 v0 9 14) fun x4 =>
  obd x4 fun a5 =>
  obd (jaI μ.1 a5 v1) fun x6 =>
  obd (jgA μ.1 v0 9 13) fun x7 =>
  obd x7 fun a8 =>
  obd (jaD μ.1 a8 (((64 : Int32) * v1) + x6)) fun x9 =>
  obd (jgA μ.1 v0 9 13) fun x10 =>
  obd x10 fun a11 =>
  obd (jpA B .double a11 (((64 : Int32) * v1) + x6) (.double v2) μ) fun μ12 =>
  obd (jgA μ12.1 v0 9 14) fun x13 =>
  obd (jgA μ12.1 v0 9 14) fun x14 =>
  obd x14 fun a15 =>
  obd (jaI μ12.1 a15 v1) fun x16 =>
  obd (jremI (x16 + (1 : Int32)) x3) fun x17 =>
  obd x13 fun a18 =>
  obd (jpA B .int a18 v1 (.int x17) μ12) fun μ19 =>
  some (x9, μ19)
/-! FilterBenchModel.sizeOf(ID)D -/
set_option maxRecDepth 10000 in
def g_R_sizeOf_19 (s0 : Int64)  : Option UInt64 :=
  some (g_R_cut s0 (0 : Int32))
set_option maxRecDepth 10000 in
def g_R_sizeOf_e (v1 : Int32) (v2 : UInt64)  : Option UInt64 :=
  if v1 = (2 : Int32) then (
    if 0 ≤ (Op.cmpValue (FP.dcmp v2 (0 : UInt64)) .g) then (
      g_R_sizeOf_19 (FP.d2l v2))
    else
      g_R_sizeOf_19 (-(FP.d2l v2)))
  else
    if 0 < (Op.cmpValue (FP.dcmp v2 (0 : UInt64)) .g) then (
      some v2)
    else
      obd (jnD (FP.dsub (0 : UInt64) v2)) fun x1 =>
      some x1
set_option maxRecDepth 10000 in
def g_R_sizeOf (v0 : Nat) (v1 : Int32) (v2 : UInt64)  : Option UInt64 := g_R_sizeOf_e  v1 v2
/-! FilterBenchModel.shapes(ID)D -/
set_option maxRecDepth 10000 in
def g_R_shapes_78 (B : Nat) (v0 : Nat) (v1 : Int32) (v2 : UInt64) (v4 : UInt64) (s0 : UInt64)  (μ : JMem) : Option (UInt64 × JMem) :=
  if (Op.cmpValue (FP.dcmp v2 v4) .l) ≤ 0 then (
    if 0 ≤ (Op.cmpValue (FP.dcmp v2 s0) .g) then (
      some (v2, μ))
    else
      obd (jgA μ.1 v0 9 12) fun x1 =>
      obd x1 fun a2 =>
      obd (jaI μ.1 a2 v1) fun x3 =>
      obd (jpA B .int a2 v1 (.int (x3 + (1 : Int32))) μ) fun μ4 =>
      some (s0, μ4))
  else
    obd (jgA μ.1 v0 9 12) fun x5 =>
    obd x5 fun a6 =>
    obd (jaI μ.1 a6 v1) fun x7 =>
    obd (jpA B .int a6 v1 (.int (x7 + (1 : Int32))) μ) fun μ8 =>
    some (v4, μ8)
set_option maxRecDepth 10000 in
def g_R_shapes_202 (B : Nat) (v0 : Nat) (v1 : Int32) (v6 : UInt64)  (μ : JMem) : Option (UInt64 × JMem) :=
  jgd (jobC 9 (μ.1 v0)) <|
  obd (g_R_st_2 B v0 v1 (0 : Int32) v6 μ) fun μ2 =>
  some (v6, μ2)
set_option maxRecDepth 10000 in
def g_R_shapes (B : Nat) (v0 : Nat) (v1 : Int32) (v2 : UInt64)  (μ : JMem) : Option (UInt64 × JMem) :=
  jgd (jobC 9 (μ.1 v0)) <|
  obd (g_R_c v0 v1 (0 : Int32) μ.1) fun x2 =>
  obd (jgA μ.1 v0 9 2) fun x3 =>
  obd x3 fun a4 =>
  obd (jaI μ.1 a4 v1) fun x5 =>
  if x5 = 9 then (
    obd (jgA μ.1 v0 9 3) fun x6 =>
    obd x6 fun a7 =>
    obd (jaI μ.1 a7 v1) fun x8 =>
    if x8 = (2 : Int32) then (
      g_R_shapes_78 B v0 v1 v2 x2 (g_R_cut (-(FP.d2l x2)) (0 : Int32)) μ)
    else
      if (Op.cmpValue (FP.dcmp x2 x2) .l) = 0 then (
        g_R_shapes_78 B v0 v1 v2 x2 (FP.dneg x2) μ)
      else
        g_R_shapes_78 B v0 v1 v2 x2 (0x7ff8000000000000 : UInt64) μ)
  else
  if x5 = 10 then (
    obd (jgA μ.1 v0 9 3) fun x9 =>
    obd x9 fun a10 =>
    obd (jaI μ.1 a10 v1) fun x11 =>
    jgd (jobC 9 (μ.1 v0)) <|
    obd (g_R_sizeOf v0 x11 v2) fun x13 =>
    if (Op.cmpValue (FP.dcmp x13 x2) .g) ≤ 0 then (
      obd (jgA μ.1 v0 9 12) fun x14 =>
      obd x14 fun a15 =>
      obd (jaI μ.1 a15 v1) fun x16 =>
      obd (jpA B .int a15 v1 (.int (x16 + (1 : Int32))) μ) fun μ17 =>
      some ((0 : UInt64), μ17))
    else
      some (v2, μ))
  else
  if x5 = 11 then (
    obd (jgA μ.1 v0 9 3) fun x18 =>
    obd x18 fun a19 =>
    obd (jaI μ.1 a19 v1) fun x20 =>
    jgd (jobC 9 (μ.1 v0)) <|
    obd (g_R_sizeOf v0 x20 v2) fun x22 =>
    jgd (jobC 9 (μ.1 v0)) <|
    obd (g_R_st v0 v1 (0 : Int32) μ.1) fun x24 =>
    if 0 < (Op.cmpValue (FP.dcmp x22 x24) .l) then (
      g_R_shapes_202 B v0 v1 x22 μ)
    else
      jgd (jobC 9 (μ.1 v0)) <|
      obd (g_R_begins B v0 v1 μ) fun μ26 =>
      jgd (jobC 9 (μ26.1 v0)) <|
      obd (g_R_st v0 v1 (0 : Int32) μ26.1) fun x28 =>
      jgd (jobC 9 (μ26.1 v0)) <|
      obd (g_R_term B v0 x2 x28 false μ26) fun μ30 =>
      jgd (jobC 9 (μ30.1 v0)) <|
      jbd2 (g_R_comes B v0 μ30) fun x32 μ33 =>
      g_R_shapes_202 B v0 v1 x32 μ33)
  else
  jgd (jobC 9 (μ.1 v0)) <|
  obd (g_R_begins B v0 v1 μ) fun μ35 =>
  jgd (jobC 9 (μ35.1 v0)) <|
  obd (g_R_term B v0 x2 v2 false μ35) fun μ37 =>
  jgd (jobC 9 (μ37.1 v0)) <|
  obd (g_R_c v0 v1 (1 : Int32) μ37.1) fun x39 =>
  jgd (jobC 9 (μ37.1 v0)) <|
  obd (g_R_term B v0 x39 (0 : UInt64) false μ37) fun μ41 =>
  jgd (jobC 9 (μ41.1 v0)) <|
  jbd2 (g_R_comes B v0 μ41) fun x43 μ44 =>
  some (x43, μ44)
/-! FilterBenchModel.works(ID)D -/
set_option maxRecDepth 10000 in
def g_R_works_620 (N : Nat) (B : Nat) : Nat → Nat → Int32 → Int32 → JMem → Option (UInt64 × JMem)
  | 0, _, _, _, _ => none
  | n + 1, v0, v1, v4, μ =>
    obd (jgA μ.1 v0 9 4) fun x1 =>
    obd x1 fun a2 =>
    obd (jaI μ.1 a2 v1) fun x3 =>
    if x3 ≤ v4 then (
      jgd (jobC 9 (μ.1 v0)) <|
      jbd2 (g_R_comes B v0 μ) fun x5 μ6 =>
      jgd (jobC 9 (μ6.1 v0)) <|
      obd (g_R_begins B v0 v1 μ6) fun μ8 =>
      jgd (jobC 9 (μ8.1 v0)) <|
      obd (g_R_c v0 v1 (0 : Int32) μ8.1) fun x10 =>
      jgd (jobC 9 (μ8.1 v0)) <|
      obd (g_R_term B v0 x10 x5 false μ8) fun μ12 =>
      jgd (jobC 9 (μ12.1 v0)) <|
      jbd2 (g_R_comes B v0 μ12) fun x14 μ15 =>
      some (x14, μ15))
    else
      obd (jgA μ.1 v0 9 14) fun x16 =>
      obd x16 fun a17 =>
      obd (jaI μ.1 a17 v1) fun x18 =>
      obd (jgA μ.1 v0 9 4) fun x19 =>
      obd x19 fun a20 =>
      obd (jaI μ.1 a20 v1) fun x21 =>
      obd (jremI (x18 + v4) x21) fun x22 =>
      jgd (jobC 9 (μ.1 v0)) <|
      obd (g_R_st v0 v1 x22 μ.1) fun x24 =>
      jgd (jobC 9 (μ.1 v0)) <|
      obd (g_R_term_2 B v0 x24 false μ) fun μ26 =>
      g_R_works_620 N B n v0 v1 (v4 + 1) μ26
set_option maxRecDepth 10000 in
def g_R_works (N : Nat) (B : Nat) (v0 : Nat) (v1 : Int32) (v2 : UInt64)  (μ : JMem) : Option (UInt64 × JMem) :=
  obd (jgA μ.1 v0 9 2) fun x1 =>
  obd x1 fun a2 =>
  obd (jaI μ.1 a2 v1) fun x3 =>
  if x3 = 0 then (
    jgd (jobC 9 (μ.1 v0)) <|
    obd (g_R_begins B v0 v1 μ) fun μ5 =>
    jgd (jobC 9 (μ5.1 v0)) <|
    obd (g_R_c v0 v1 (0 : Int32) μ5.1) fun x7 =>
    jgd (jobC 9 (μ5.1 v0)) <|
    obd (g_R_term B v0 x7 v2 false μ5) fun μ9 =>
    jgd (jobC 9 (μ9.1 v0)) <|
    jbd2 (g_R_comes B v0 μ9) fun x11 μ12 =>
    some (x11, μ12))
  else
  if x3 = 1 then (
    jgd (jobC 9 (μ.1 v0)) <|
    obd (g_R_begins B v0 v1 μ) fun μ14 =>
    jgd (jobC 9 (μ14.1 v0)) <|
    obd (g_R_c v0 v1 (0 : Int32) μ14.1) fun x16 =>
    jgd (jobC 9 (μ14.1 v0)) <|
    obd (g_R_term B v0 x16 v2 false μ14) fun μ18 =>
    jgd (jobC 9 (μ18.1 v0)) <|
    obd (g_R_c v0 v1 (1 : Int32) μ18.1) fun x20 =>
    jgd (jobC 9 (μ18.1 v0)) <|
    obd (g_R_st v0 v1 (0 : Int32) μ18.1) fun x22 =>
    jgd (jobC 9 (μ18.1 v0)) <|
    obd (g_R_term B v0 x20 x22 false μ18) fun μ24 =>
    jgd (jobC 9 (μ24.1 v0)) <|
    jbd2 (g_R_comes B v0 μ24) fun x26 μ27 =>
    jgd (jobC 9 (μ27.1 v0)) <|
    obd (g_R_st_2 B v0 v1 (0 : Int32) x26 μ27) fun μ29 =>
    some (x26, μ29))
  else
  if x3 = 2 then (
    jgd (jobC 9 (μ.1 v0)) <|
    obd (g_R_begins B v0 v1 μ) fun μ31 =>
    jgd (jobC 9 (μ31.1 v0)) <|
    obd (g_R_c v0 v1 (0 : Int32) μ31.1) fun x33 =>
    jgd (jobC 9 (μ31.1 v0)) <|
    obd (g_R_term B v0 x33 v2 false μ31) fun μ35 =>
    jgd (jobC 9 (μ35.1 v0)) <|
    obd (g_R_c v0 v1 (1 : Int32) μ35.1) fun x37 =>
    jgd (jobC 9 (μ35.1 v0)) <|
    obd (g_R_st v0 v1 (0 : Int32) μ35.1) fun x39 =>
    jgd (jobC 9 (μ35.1 v0)) <|
    obd (g_R_term B v0 x37 x39 false μ35) fun μ41 =>
    jgd (jobC 9 (μ41.1 v0)) <|
    obd (g_R_c v0 v1 (2 : Int32) μ41.1) fun x43 =>
    jgd (jobC 9 (μ41.1 v0)) <|
    obd (g_R_st v0 v1 (1 : Int32) μ41.1) fun x45 =>
    jgd (jobC 9 (μ41.1 v0)) <|
    obd (g_R_term B v0 x43 x45 false μ41) fun μ47 =>
    jgd (jobC 9 (μ47.1 v0)) <|
    obd (g_R_c v0 v1 (3 : Int32) μ47.1) fun x49 =>
    jgd (jobC 9 (μ47.1 v0)) <|
    obd (g_R_st v0 v1 (2 : Int32) μ47.1) fun x51 =>
    jgd (jobC 9 (μ47.1 v0)) <|
    obd (g_R_term B v0 x49 x51 true μ47) fun μ53 =>
    jgd (jobC 9 (μ53.1 v0)) <|
    obd (g_R_c v0 v1 (4 : Int32) μ53.1) fun x55 =>
    jgd (jobC 9 (μ53.1 v0)) <|
    obd (g_R_st v0 v1 (3 : Int32) μ53.1) fun x57 =>
    jgd (jobC 9 (μ53.1 v0)) <|
    obd (g_R_term B v0 x55 x57 true μ53) fun μ59 =>
    jgd (jobC 9 (μ59.1 v0)) <|
    jbd2 (g_R_comes B v0 μ59) fun x61 μ62 =>
    jgd (jobC 9 (μ62.1 v0)) <|
    obd (g_R_st v0 v1 (0 : Int32) μ62.1) fun x64 =>
    jgd (jobC 9 (μ62.1 v0)) <|
    obd (g_R_st_2 B v0 v1 (1 : Int32) x64 μ62) fun μ66 =>
    jgd (jobC 9 (μ66.1 v0)) <|
    obd (g_R_st_2 B v0 v1 (0 : Int32) v2 μ66) fun μ68 =>
    jgd (jobC 9 (μ68.1 v0)) <|
    obd (g_R_st v0 v1 (2 : Int32) μ68.1) fun x70 =>
    jgd (jobC 9 (μ68.1 v0)) <|
    obd (g_R_st_2 B v0 v1 (3 : Int32) x70 μ68) fun μ72 =>
    jgd (jobC 9 (μ72.1 v0)) <|
    obd (g_R_st_2 B v0 v1 (2 : Int32) x61 μ72) fun μ74 =>
    some (x61, μ74))
  else
  if x3 = 3 then (
    jgd (jobC 9 (μ.1 v0)) <|
    obd (g_R_begins B v0 v1 μ) fun μ76 =>
    jgd (jobC 9 (μ76.1 v0)) <|
    obd (g_R_term_2 B v0 v2 false μ76) fun μ78 =>
    jgd (jobC 9 (μ78.1 v0)) <|
    obd (g_R_c v0 v1 (3 : Int32) μ78.1) fun x80 =>
    jgd (jobC 9 (μ78.1 v0)) <|
    obd (g_R_st v0 v1 (0 : Int32) μ78.1) fun x82 =>
    jgd (jobC 9 (μ78.1 v0)) <|
    obd (g_R_term B v0 x80 x82 true μ78) fun μ84 =>
    jgd (jobC 9 (μ84.1 v0)) <|
    obd (g_R_c v0 v1 (4 : Int32) μ84.1) fun x86 =>
    jgd (jobC 9 (μ84.1 v0)) <|
    obd (g_R_st v0 v1 (1 : Int32) μ84.1) fun x88 =>
    jgd (jobC 9 (μ84.1 v0)) <|
    obd (g_R_term B v0 x86 x88 true μ84) fun μ90 =>
    jgd (jobC 9 (μ90.1 v0)) <|
    jbd2 (g_R_comes B v0 μ90) fun x92 μ93 =>
    jgd (jobC 9 (μ93.1 v0)) <|
    obd (g_R_begins B v0 v1 μ93) fun μ95 =>
    jgd (jobC 9 (μ95.1 v0)) <|
    obd (g_R_c v0 v1 (0 : Int32) μ95.1) fun x97 =>
    jgd (jobC 9 (μ95.1 v0)) <|
    obd (g_R_term B v0 x97 x92 false μ95) fun μ99 =>
    jgd (jobC 9 (μ99.1 v0)) <|
    obd (g_R_c v0 v1 (1 : Int32) μ99.1) fun x101 =>
    jgd (jobC 9 (μ99.1 v0)) <|
    obd (g_R_st v0 v1 (0 : Int32) μ99.1) fun x103 =>
    jgd (jobC 9 (μ99.1 v0)) <|
    obd (g_R_term B v0 x101 x103 false μ99) fun μ105 =>
    jgd (jobC 9 (μ105.1 v0)) <|
    obd (g_R_c v0 v1 (2 : Int32) μ105.1) fun x107 =>
    jgd (jobC 9 (μ105.1 v0)) <|
    obd (g_R_st v0 v1 (1 : Int32) μ105.1) fun x109 =>
    jgd (jobC 9 (μ105.1 v0)) <|
    obd (g_R_term B v0 x107 x109 false μ105) fun μ111 =>
    jgd (jobC 9 (μ111.1 v0)) <|
    jbd2 (g_R_comes B v0 μ111) fun x113 μ114 =>
    jgd (jobC 9 (μ114.1 v0)) <|
    obd (g_R_st v0 v1 (0 : Int32) μ114.1) fun x116 =>
    jgd (jobC 9 (μ114.1 v0)) <|
    obd (g_R_st_2 B v0 v1 (1 : Int32) x116 μ114) fun μ118 =>
    jgd (jobC 9 (μ118.1 v0)) <|
    obd (g_R_st_2 B v0 v1 (0 : Int32) x92 μ118) fun μ120 =>
    some (x113, μ120))
  else
  if x3 = 4 then (
    jgd (jobC 9 (μ.1 v0)) <|
    obd (g_R_begins B v0 v1 μ) fun μ122 =>
    jgd (jobC 9 (μ122.1 v0)) <|
    obd (g_R_c v0 v1 (0 : Int32) μ122.1) fun x124 =>
    jgd (jobC 9 (μ122.1 v0)) <|
    obd (g_R_term B v0 x124 v2 false μ122) fun μ126 =>
    jgd (jobC 9 (μ126.1 v0)) <|
    obd (g_R_st v0 v1 (0 : Int32) μ126.1) fun x128 =>
    jgd (jobC 9 (μ126.1 v0)) <|
    obd (g_R_term_2 B v0 x128 false μ126) fun μ130 =>
    jgd (jobC 9 (μ130.1 v0)) <|
    jbd2 (g_R_comes B v0 μ130) fun x132 μ133 =>
    jgd (jobC 9 (μ133.1 v0)) <|
    obd (g_R_begins B v0 v1 μ133) fun μ135 =>
    jgd (jobC 9 (μ135.1 v0)) <|
    obd (g_R_c v0 v1 (1 : Int32) μ135.1) fun x137 =>
    jgd (jobC 9 (μ135.1 v0)) <|
    obd (g_R_term B v0 x137 v2 false μ135) fun μ139 =>
    jgd (jobC 9 (μ139.1 v0)) <|
    obd (g_R_c v0 v1 (3 : Int32) μ139.1) fun x141 =>
    jgd (jobC 9 (μ139.1 v0)) <|
    obd (g_R_term B v0 x141 x132 true μ139) fun μ143 =>
    jgd (jobC 9 (μ143.1 v0)) <|
    obd (g_R_st v0 v1 (1 : Int32) μ143.1) fun x145 =>
    jgd (jobC 9 (μ143.1 v0)) <|
    obd (g_R_term_2 B v0 x145 false μ143) fun μ147 =>
    jgd (jobC 9 (μ147.1 v0)) <|
    jbd2 (g_R_comes B v0 μ147) fun x149 μ150 =>
    jgd (jobC 9 (μ150.1 v0)) <|
    obd (g_R_st_2 B v0 v1 (0 : Int32) x149 μ150) fun μ152 =>
    jgd (jobC 9 (μ152.1 v0)) <|
    obd (g_R_begins B v0 v1 μ152) fun μ154 =>
    jgd (jobC 9 (μ154.1 v0)) <|
    obd (g_R_c v0 v1 (2 : Int32) μ154.1) fun x156 =>
    jgd (jobC 9 (μ154.1 v0)) <|
    obd (g_R_term B v0 x156 v2 false μ154) fun μ158 =>
    jgd (jobC 9 (μ158.1 v0)) <|
    obd (g_R_c v0 v1 (4 : Int32) μ158.1) fun x160 =>
    jgd (jobC 9 (μ158.1 v0)) <|
    obd (g_R_term B v0 x160 x132 true μ158) fun μ162 =>
    jgd (jobC 9 (μ162.1 v0)) <|
    jbd2 (g_R_comes B v0 μ162) fun x164 μ165 =>
    jgd (jobC 9 (μ165.1 v0)) <|
    obd (g_R_st_2 B v0 v1 (1 : Int32) x164 μ165) fun μ167 =>
    some (x132, μ167))
  else
  if x3 = 5 then (
    jgd (jobC 9 (μ.1 v0)) <|
    obd (g_R_begins B v0 v1 μ) fun μ169 =>
    jgd (jobC 9 (μ169.1 v0)) <|
    obd (g_R_term_2 B v0 v2 false μ169) fun μ171 =>
    jgd (jobC 9 (μ171.1 v0)) <|
    obd (g_R_c v0 v1 (0 : Int32) μ171.1) fun x173 =>
    jgd (jobC 9 (μ171.1 v0)) <|
    obd (g_R_st v0 v1 (0 : Int32) μ171.1) fun x175 =>
    jgd (jobC 9 (μ171.1 v0)) <|
    obd (g_R_term B v0 x173 x175 true μ171) fun μ177 =>
    jgd (jobC 9 (μ177.1 v0)) <|
    jbd2 (g_R_comes B v0 μ177) fun x179 μ180 =>
    jgd (jobC 9 (μ180.1 v0)) <|
    obd (g_R_begins B v0 v1 μ180) fun μ182 =>
    jgd (jobC 9 (μ182.1 v0)) <|
    obd (g_R_c v0 v1 (0 : Int32) μ182.1) fun x184 =>
    jgd (jobC 9 (μ182.1 v0)) <|
    obd (g_R_term B v0 x184 x179 false μ182) fun μ186 =>
    jgd (jobC 9 (μ186.1 v0)) <|
    obd (g_R_st v0 v1 (0 : Int32) μ186.1) fun x188 =>
    jgd (jobC 9 (μ186.1 v0)) <|
    obd (g_R_term_2 B v0 x188 false μ186) fun μ190 =>
    jgd (jobC 9 (μ190.1 v0)) <|
    obd (g_R_st_2 B v0 v1 (0 : Int32) x179 μ190) fun μ192 =>
    jgd (jobC 9 (μ192.1 v0)) <|
    jbd2 (g_R_comes B v0 μ192) fun x194 μ195 =>
    some (x194, μ195))
  else
  if x3 = 6 then (
    jgd (jobC 9 (μ.1 v0)) <|
    jbd2 (g_R_rings B v0 v1 v2 μ) fun x197 μ198 =>
    some (x197, μ198))
  else
  if x3 = 7 then (
    jgd (jobC 9 (μ.1 v0)) <|
    jbd2 (g_R_rings B v0 v1 v2 μ) fun x200 μ201 =>
    jgd (jobC 9 (μ201.1 v0)) <|
    obd (g_R_begins B v0 v1 μ201) fun μ203 =>
    g_R_works_620 N B N v0 v1 (0 : Int32) μ203)
  else
  if x3 = 8 then (
    jgd (jobC 9 (μ.1 v0)) <|
    obd (g_R_begins B v0 v1 μ) fun μ205 =>
    jgd (jobC 9 (μ205.1 v0)) <|
    obd (g_R_term_2 B v0 v2 false μ205) fun μ207 =>
    jgd (jobC 9 (μ207.1 v0)) <|
    obd (g_R_c v0 v1 (0 : Int32) μ207.1) fun x209 =>
    obd (jgA μ207.1 v0 9 14) fun x210 =>
    obd x210 fun a211 =>
    obd (jaI μ207.1 a211 v1) fun x212 =>
    jgd (jobC 9 (μ207.1 v0)) <|
    obd (g_R_st v0 v1 x212 μ207.1) fun x214 =>
    jgd (jobC 9 (μ207.1 v0)) <|
    obd (g_R_term B v0 x209 x214 false μ207) fun μ216 =>
    jgd (jobC 9 (μ216.1 v0)) <|
    jbd2 (g_R_comes B v0 μ216) fun x218 μ219 =>
    jgd (jobC 9 (μ219.1 v0)) <|
    jbd2 (g_R_rings B v0 v1 x218 μ219) fun x221 μ222 =>
    some (x218, μ222))
  else
  jgd (jobC 9 (μ.1 v0)) <|
  jbd2 (g_R_shapes B v0 v1 v2 μ) fun x224 μ225 =>
  some (x224, μ225)
/-! FilterBenchModel.goes(ID)I -/
set_option maxRecDepth 10000 in
def g_R_goes_113 (N : Nat) (B : Nat) (k26 : Nat → Int32 → Int32 → Bool → JMem → Option (Int32 × JMem)) (v0 : Nat) (v1 : Int32) (v4 : Int32)  (μ : JMem) : Option (Int32 × JMem) :=
  jgd (jobC 9 (μ.1 v0)) <|
  jbd2 (g_R_goesOn N B v0 μ) fun x2 μ3 =>
  k26 v0 v1 v4 x2 μ3
set_option maxRecDepth 10000 in
def g_R_goes_240 (N : Nat) (B : Nat) (k26 : Nat → Int32 → Int32 → Bool → JMem → Option (Int32 × JMem)) (k149 : Nat → Int32 → Int32 → Bool → Int32 → Int32 → JMem → Option (Int32 × JMem)) (v0 : Nat) (v1 : Int32) (v4 : Int32) (v5 : Bool) (v6 : Int32) (v7 : Int32)  (μ : JMem) : Option (Int32 × JMem) :=
  k149 v0 v1 v4 v5 v6 (v7 + 1) μ
set_option maxRecDepth 10000 in
def g_R_goes_430 (N : Nat) (B : Nat) (k26 : Nat → Int32 → Int32 → Bool → JMem → Option (Int32 × JMem)) (v0 : Nat) (v1 : Int32) (v4 : Int32) (v5 : Bool)  (μ : JMem) : Option (Int32 × JMem) :=
  k26 v0 v1 v4 v5 μ
set_option maxRecDepth 10000 in
def g_R_goes_312 (N : Nat) (B : Nat) (k26 : Nat → Int32 → Int32 → Bool → JMem → Option (Int32 × JMem)) (v0 : Nat) (v1 : Int32) (v4 : Int32) (v5 : Bool)  (μ : JMem) : Option (Int32 × JMem) :=
  g_R_goes_430 N B k26 v0 v1 v4 v5 μ
set_option maxRecDepth 10000 in
def g_R_goes_339 (N : Nat) (B : Nat) (k26 : Nat → Int32 → Int32 → Bool → JMem → Option (Int32 × JMem)) (v0 : Nat) (v1 : Int32) (v4 : Int32) (v5 : Bool) (v6 : Int32)  (μ : JMem) : Option (Int32 × JMem) :=
  obd (jgA μ.1 v0 9 4) fun x1 =>
  obd x1 fun a2 =>
  obd (jaI μ.1 a2 v6) fun x3 =>
  jgd (jobC 9 (μ.1 v0)) <|
  obd (g_R_waits B v0 (x3 - (1 : Int32)) μ) fun μ5 =>
  obd (jgI μ5.1 v0 9 40) fun x6 =>
  obd (jpF B 9 40 v0 (.int (x6 + (1 : Int32))) μ5) fun μ7 =>
  g_R_goes_430 N B k26 v0 v1 v4 v5 μ7
set_option maxRecDepth 10000 in
def g_R_goes_412 (N : Nat) (B : Nat) (k26 : Nat → Int32 → Int32 → Bool → JMem → Option (Int32 × JMem)) (v0 : Nat) (v1 : Int32) (v4 : Int32) (v5 : Bool) (v6 : Int32)  (μ : JMem) : Option (Int32 × JMem) :=
  obd (jgD μ.1 v0 9 41) fun x1 =>
  jgd (jobC 9 (μ.1 v0)) <|
  jbd2 (g_R_works N B v0 v6 x1 μ) fun x3 μ4 =>
  obd (jpF B 9 41 v0 (.double x3) μ4) fun μ5 =>
  jgd (jobC 9 (μ5.1 v0)) <|
  obd (g_R_leaves N B v0 μ5) fun μ7 =>
  g_R_goes_430 N B k26 v0 v1 v4 v5 μ7
set_option maxRecDepth 10000 in
def g_R_goes_149 (N : Nat) (B : Nat) (k26 : Nat → Int32 → Int32 → Bool → JMem → Option (Int32 × JMem)) : Nat → Nat → Int32 → Int32 → Bool → Int32 → Int32 → JMem → Option (Int32 × JMem)
  | 0, _, _, _, _, _, _, _ => none
  | n + 1, v0, v1, v4, v5, v6, v7, μ =>
    obd (jgI μ.1 v0 9 39) fun x1 =>
    obd (jgA μ.1 v0 9 20) fun x2 =>
    obd (jgI μ.1 v0 9 39) fun x3 =>
    obd x2 fun a4 =>
    obd (jaI μ.1 a4 x3) fun x5 =>
    if (((3 : Int32) * x1) + x5) ≤ v7 then (
      obd (jgA μ.1 v0 9 2) fun x6 =>
      obd x6 fun a7 =>
      obd (jaI μ.1 a7 v6) fun x8 =>
      if x8 = (12 : Int32) then (
        jgd (jobC 9 (μ.1 v0)) <|
        obd (g_R_st v0 v6 (0 : Int32) μ.1) fun x10 =>
        obd (jgA μ.1 v0 9 4) fun x11 =>
        obd x11 fun a12 =>
        obd (jaI μ.1 a12 v6) fun x13 =>
        obd (jremI ((FP.d2i x10) + (1 : Int32)) x13) fun x14 =>
        jgd (jobC 9 (μ.1 v0)) <|
        obd (g_R_st_2 B v0 v6 (0 : Int32) (FP.i2d x14) μ) fun μ16 =>
        if (FP.d2i x10) ≤ 0 then (
          obd (jgI μ16.1 v0 9 40) fun x17 =>
          obd (jpF B 9 40 v0 (.int (x17 + (1 : Int32))) μ16) fun μ18 =>
          g_R_goes_312 N B k26 v0 v1 v4 v5 μ18)
        else
          jgd (jobC 9 (μ16.1 v0)) <|
          jbd2 (g_R_goesOn N B v0 μ16) fun x20 μ21 =>
          g_R_goes_312 N B k26 v0 v1 v4 x20 μ21)
      else
        obd (jgA μ.1 v0 9 2) fun x22 =>
        obd x22 fun a23 =>
        obd (jaI μ.1 a23 v6) fun x24 =>
        if x24 = (13 : Int32) then (
          g_R_goes_339 N B k26 v0 v1 v4 v5 v6 μ)
        else
          obd (jgA μ.1 v0 9 2) fun x25 =>
          obd x25 fun a26 =>
          obd (jaI μ.1 a26 v6) fun x27 =>
          if x27 = (14 : Int32) then (
            g_R_goes_339 N B k26 v0 v1 v4 v5 v6 μ)
          else
            obd (jgA μ.1 v0 9 2) fun x28 =>
            obd x28 fun a29 =>
            obd (jaI μ.1 a29 v6) fun x30 =>
            if x30 = (15 : Int32) then (
              obd (jgA μ.1 v0 9 10) fun x31 =>
              obd x31 fun a32 =>
              obd (jaI μ.1 a32 v6) fun x33 =>
              if x33 = (-1 : Int32) then (
                g_R_goes_412 N B k26 v0 v1 v4 v5 v6 μ)
              else
                jgd (jobC 9 (μ.1 v0)) <|
                obd (g_R_waits B v0 (-1 : Int32) μ) fun μ35 =>
                obd (jgA μ35.1 v0 9 10) fun x36 =>
                obd x36 fun a37 =>
                obd (jaI μ35.1 a37 v6) fun x38 =>
                obd (jpF B 9 39 v0 (.int x38) μ35) fun μ39 =>
                obd (jpF B 9 40 v0 (.int (0 : Int32)) μ39) fun μ40 =>
                g_R_goes_430 N B k26 v0 v1 v4 v5 μ40)
            else
              g_R_goes_412 N B k26 v0 v1 v4 v5 v6 μ)
    else
      obd (jgA μ.1 v0 9 22) fun x41 =>
      obd x41 fun a42 =>
      obd (jaI μ.1 a42 v7) fun x43 =>
      obd (jgI μ.1 v0 9 40) fun x44 =>
      if x43 = x44 then (
        jgd (jobC 9 (μ.1 v0)) <|
        obd (g_R_begins B v0 v6 μ) fun μ46 =>
        obd (jgD μ46.1 v0 9 41) fun x47 =>
        jgd (jobC 9 (μ46.1 v0)) <|
        obd (g_R_term_2 B v0 x47 false μ46) fun μ49 =>
        obd (jgA μ49.1 v0 9 24) fun x50 =>
        obd x50 fun a51 =>
        obd (jaD μ49.1 a51 v7) fun x52 =>
        obd (jgA μ49.1 v0 9 25) fun x53 =>
        obd (jgA μ49.1 v0 9 26) fun x54 =>
        obd x54 fun a55 =>
        obd (jaI μ49.1 a55 v7) fun x56 =>
        obd x53 fun a57 =>
        obd (jaD μ49.1 a57 (((64 : Int32) * v7) + x56)) fun x58 =>
        jgd (jobC 9 (μ49.1 v0)) <|
        obd (g_R_term B v0 x52 x58 false μ49) fun μ60 =>
        jgd (jobC 9 (μ60.1 v0)) <|
        jbd2 (g_R_comes B v0 μ60) fun x62 μ63 =>
        obd (jpF B 9 41 v0 (.double x62) μ63) fun μ64 =>
        g_R_goes_240 N B k26 (g_R_goes_149 N B k26 n) v0 v1 v4 v5 v6 v7 μ64)
      else
        g_R_goes_240 N B k26 (g_R_goes_149 N B k26 n) v0 v1 v4 v5 v6 v7 μ
set_option maxRecDepth 10000 in
def g_R_goes_26 (N : Nat) (B : Nat) : Nat → Nat → Int32 → Int32 → Bool → JMem → Option (Int32 × JMem)
  | 0, _, _, _, _, _ => none
  | n + 1, v0, v1, v4, v5, μ =>
    if v5 = true then (
      obd (jgI μ.1 v0 9 40) fun x1 =>
      obd (jgA μ.1 v0 9 17) fun x2 =>
      obd (jgI μ.1 v0 9 39) fun x3 =>
      obd x2 fun a4 =>
      obd (jaI μ.1 a4 x3) fun x5 =>
      if x1 = x5 then (
        obd (jgA μ.1 v0 9 27) fun x6 =>
        obd (jgI μ.1 v0 9 39) fun x7 =>
        obd (jgA μ.1 v0 9 28) fun x8 =>
        obd (jgI μ.1 v0 9 39) fun x9 =>
        obd x8 fun a10 =>
        obd (jaI μ.1 a10 x9) fun x11 =>
        obd (jgD μ.1 v0 9 41) fun x12 =>
        obd x6 fun a13 =>
        obd (jpA B .double a13 (((400 : Int32) * x7) + ((x11 &&& (2147483647 : Int32)) - (x11 &&& (2147483647 : Int32)) / (400 : Int32) * (400 : Int32))) (.double x12) μ) fun μ14 =>
        obd (jgA μ14.1 v0 9 28) fun x15 =>
        obd (jgI μ14.1 v0 9 39) fun x16 =>
        obd x15 fun a17 =>
        obd (jaI μ14.1 a17 x16) fun x18 =>
        obd (jpA B .int a17 x16 (.int (x18 + (1 : Int32))) μ14) fun μ19 =>
        obd (jgD μ19.1 v0 9 41) fun x20 =>
        obd (jpF B 9 33 v0 (.double x20) μ19) fun μ21 =>
        obd (jgI μ21.1 v0 9 39) fun x22 =>
        if x22 = v1 then (
          g_R_goes_113 N B (g_R_goes_26 N B n) v0 v1 (v4 + 1) μ21)
        else
          g_R_goes_113 N B (g_R_goes_26 N B n) v0 v1 v4 μ21)
      else
        obd (jgA μ.1 v0 9 18) fun x23 =>
        obd (jgI μ.1 v0 9 39) fun x24 =>
        obd (jgI μ.1 v0 9 40) fun x25 =>
        obd x23 fun a26 =>
        obd (jaI μ.1 a26 (((10 : Int32) * x24) + x25)) fun x27 =>
        obd (jgI μ.1 v0 9 39) fun x28 =>
        g_R_goes_149 N B (g_R_goes_26 N B n) N v0 v1 v4 v5 x27 ((3 : Int32) * x28) μ)
    else
      some (v4, μ)
set_option maxRecDepth 10000 in
def g_R_goes (N : Nat) (B : Nat) (v0 : Nat) (v1 : Int32) (v2 : UInt64)  (μ : JMem) : Option (Int32 × JMem) :=
  obd (jpF B 9 34 v0 (.int (0 : Int32)) μ) fun μ1 =>
  obd (jpF B 9 39 v0 (.int v1) μ1) fun μ2 =>
  obd (jpF B 9 40 v0 (.int (0 : Int32)) μ2) fun μ3 =>
  obd (jpF B 9 41 v0 (.double v2) μ3) fun μ4 =>
  g_R_goes_26 N B N v0 v1 (0 : Int32) true μ4
/-! FilterBenchModel.isFed(I)Z -/
set_option maxRecDepth 10000 in
def g_R_isFed (v0 : Nat) (v1 : Int32)  (h : Nat → Option JCell) : Option Bool :=
  jgd (jobC 9 (h v0)) <|
  obd (g_R_isChain v0 v1 h) fun x2 =>
  if x2 = true then (
    obd (jgA h v0 9 17) fun x3 =>
    obd x3 fun a4 =>
    obd (jaI h a4 v1) fun x5 =>
    if x5 ≤ 0 then (
      some false)
    else
      obd (jgA h v0 9 19) fun x6 =>
      obd x6 fun a7 =>
      obd (jaI h a7 v1) fun x8 =>
      if x8 = (-1 : Int32) then (
        some true)
      else
        some false)
  else
    some false
/-! FilterBenchModel.feed(IJ)I -/
set_option maxRecDepth 10000 in
def g_R_feed (N : Nat) (B : Nat) (v0 : Nat) (v1 : Int32) (v2 : Int64)  (μ : JMem) : Option (Int32 × JMem) :=
  jgd (jobC 9 (μ.1 v0)) <|
  obd (g_R_isFed v0 v1 μ.1) fun x2 =>
  if x2 = true then (
    jgd (jobC 9 (μ.1 v0)) <|
    obd (g_R_sortOf v0 v1 μ.1) fun x4 =>
    if (g_R_isValue x4 v2) = true then (
      jgd (jobC 9 (μ.1 v0)) <|
      obd (g_R_sortOf v0 v1 μ.1) fun x6 =>
      obd (g_R_valueOf x6 v2) fun x7 =>
      jgd (jobC 9 (μ.1 v0)) <|
      jbd2 (g_R_goes N B v0 v1 x7 μ) fun x9 μ10 =>
      some (x9, μ10))
    else
      some ((-1 : Int32), μ))
  else
    some ((-1 : Int32), μ)
/-! FilterBenchModel.run(III)I -/
set_option maxRecDepth 10000 in
def g_R_run_65 (N : Nat) (B : Nat) (k29 : Nat → Int32 → Int32 → Int32 → Int32 → Int32 → JMem → Option (Int32 × JMem)) (v0 : Nat) (v1 : Int32) (v2 : Int32) (v5 : Int32) (v6 : Int32) (s0 : UInt64) (s1 : Int32) (s2 : Nat) (s3 : Int32)  (μ : JMem) : Option (Int32 × JMem) :=
  jgd (jobC 9 (μ.1 s2)) <|
  jbd2 (g_R_goes N B s2 s1 s0 μ) fun x2 μ3 =>
  jlet ((v5 * (1103515245 : Int32)) + (12345 : Int32)) fun (v5_4 : Int32) =>
  k29 v0 v1 v2 (s3 + x2) v5_4 (v6 + 1) μ3
set_option maxRecDepth 10000 in
def g_R_run_29 (N : Nat) (B : Nat) : Nat → Nat → Int32 → Int32 → Int32 → Int32 → Int32 → JMem → Option (Int32 × JMem)
  | 0, _, _, _, _, _, _, _ => none
  | n + 1, v0, v1, v2, v4, v5, v6, μ =>
    if v2 ≤ v6 then (
      some (v4, μ))
    else
      jlet (FP.i2d (Int16.toInt32 (Int32.toInt16 v5))) fun (v7_1 : UInt64) =>
      jgd (jobC 9 (μ.1 v0)) <|
      obd (g_R_sortOf v0 v1 μ.1) fun x3 =>
      if x3 = (2 : Int32) then (
        g_R_run_65 N B (g_R_run_29 N B n) v0 v1 v2 v5 v6 v7_1 v1 v0 v4 μ)
      else
        obd (jnD (FP.ddiv v7_1 (0x4070000000000000 : UInt64))) fun x4 =>
        g_R_run_65 N B (g_R_run_29 N B n) v0 v1 v2 v5 v6 x4 v1 v0 v4 μ
set_option maxRecDepth 10000 in
def g_R_run (N : Nat) (B : Nat) (v0 : Nat) (v1 : Int32) (v2 : Int32) (v3 : Int32)  (μ : JMem) : Option (Int32 × JMem) :=
  jgd (jobC 9 (μ.1 v0)) <|
  obd (g_R_isFed v0 v1 μ.1) fun x2 =>
  if x2 = true then (
    if (g_R_in v2 (1 : Int32) (100 : Int32)) = true then (
      g_R_run_29 N B N v0 v1 v2 (0 : Int32) v3 (0 : Int32) μ)
    else
      some ((-1 : Int32), μ))
  else
    some ((-1 : Int32), μ)
/-! java/lang/Double.isNaN(D)Z -/
set_option maxRecDepth 10000 in
def g_JDouble_isNaN (v0 : UInt64)  : Bool :=
  if (Op.cmpValue (FP.dcmp v0 v0) .l) = 0 then (
    false)
  else
    true
/-! java/lang/Double.doubleToLongBits(D)J -/
set_option maxRecDepth 10000 in
def g_JDouble_doubleToLongBits (v0 : UInt64)  : Int64 :=
  if (g_JDouble_isNaN v0) = true then (
    (9221120237041090560 : Int64))
  else
    (UInt64.toInt64 v0)
/-! java/lang/Float.isNaN(F)Z -/
set_option maxRecDepth 10000 in
def g_JFloat_isNaN (v0 : UInt32)  : Bool :=
  if (Op.cmpValue (FP.fcmp v0 v0) .l) = 0 then (
    false)
  else
    true
/-! java/lang/Float.floatToIntBits(F)I -/
set_option maxRecDepth 10000 in
def g_JFloat_floatToIntBits (v0 : UInt32)  : Int32 :=
  if (g_JFloat_isNaN v0) = true then (
    (2143289344 : Int32))
  else
    (UInt32.toInt32 v0)
/-! FilterBenchModel.bitsOf(ID)J -/
set_option maxRecDepth 10000 in
def g_R_bitsOf (v0 : Int32) (v1 : UInt64)  : Option Int64 :=
  if (Op.cmpValue (FP.dcmp v1 v1) .l) = 0 then (
    if v0 = 0 then (
      some (g_JDouble_doubleToLongBits v1))
    else
      if v0 = (1 : Int32) then (
        obd (jnF (FP.d2f v1)) fun x1 =>
        some (Int32.toInt64 (g_JFloat_floatToIntBits x1)))
      else
        some (FP.d2l v1))
  else
    if v0 = 0 then (
      some (9221120237041090560 : Int64))
    else
      some (2143289344 : Int64)
/-! FilterBenchModel.isKeptOut(II)Z -/
set_option maxRecDepth 10000 in
def g_R_isKeptOut (v0 : Nat) (v1 : Int32) (v2 : Int32)  (h : Nat → Option JCell) : Option Bool :=
  if v2 < 0 then (
    some false)
  else
    obd (jgA h v0 9 28) fun x1 =>
    obd x1 fun a2 =>
    obd (jaI h a2 v1) fun x3 =>
    if x3 ≤ v2 then (
      some false)
    else
      obd (jgA h v0 9 28) fun x4 =>
      obd x4 fun a5 =>
      obd (jaI h a5 v1) fun x6 =>
      if v2 < (x6 - (400 : Int32)) then (
        some false)
      else
        some true
/-! FilterBenchModel.output(II)J -/
set_option maxRecDepth 10000 in
def g_R_output (v0 : Nat) (v1 : Int32) (v2 : Int32)  (h : Nat → Option JCell) : Option Int64 :=
  jgd (jobC 9 (h v0)) <|
  obd (g_R_isChain v0 v1 h) fun x2 =>
  if x2 = true then (
    jgd (jobC 9 (h v0)) <|
    obd (g_R_isKeptOut v0 v1 v2 h) fun x4 =>
    if x4 = true then (
      jgd (jobC 9 (h v0)) <|
      obd (g_R_sortOf v0 v1 h) fun x6 =>
      obd (jgA h v0 9 27) fun x7 =>
      obd x7 fun a8 =>
      obd (jaD h a8 (((400 : Int32) * v1) + (v2 - v2 / (400 : Int32) * (400 : Int32)))) fun x9 =>
      obd (g_R_bitsOf x6 x9) fun x10 =>
      some x10)
    else
      some (0 : Int64))
  else
    some (0 : Int64)
/-! FilterBenchModel.state(II)J -/
set_option maxRecDepth 10000 in
def g_R_state_175 (v0 : Nat) (v1 : Int32) (v2 : Int32) (v3 : Int32)  (h : Nat → Option JCell) : Option Int64 :=
  if (g_R_in v2 (0 : Int32) (v3 - (1 : Int32))) = true then (
    obd (jgA h v0 9 3) fun x1 =>
    obd x1 fun a2 =>
    obd (jaI h a2 v1) fun x3 =>
    jgd (jobC 9 (h v0)) <|
    obd (g_R_st v0 v1 v2 h) fun x5 =>
    obd (g_R_bitsOf x3 x5) fun x6 =>
    some x6)
  else
    some (0 : Int64)
set_option maxRecDepth 10000 in
def g_R_state_92 (v0 : Nat) (v1 : Int32) (v2 : Int32)  (h : Nat → Option JCell) : Option Int64 :=
  g_R_state_175 v0 v1 v2 (1 : Int32) h
set_option maxRecDepth 10000 in
def g_R_state_102 (v0 : Nat) (v1 : Int32) (v2 : Int32)  (h : Nat → Option JCell) : Option Int64 :=
  g_R_state_175 v0 v1 v2 (2 : Int32) h
set_option maxRecDepth 10000 in
def g_R_state_107 (v0 : Nat) (v1 : Int32) (v2 : Int32)  (h : Nat → Option JCell) : Option Int64 :=
  obd (jgA h v0 9 4) fun x1 =>
  obd x1 fun a2 =>
  obd (jaI h a2 v1) fun x3 =>
  if (g_R_in v2 (0 : Int32) (x3 - (1 : Int32))) = true then (
    obd (jgA h v0 9 3) fun x4 =>
    obd x4 fun a5 =>
    obd (jaI h a5 v1) fun x6 =>
    obd (jgA h v0 9 14) fun x7 =>
    obd x7 fun a8 =>
    obd (jaI h a8 v1) fun x9 =>
    obd (jgA h v0 9 4) fun x10 =>
    obd x10 fun a11 =>
    obd (jaI h a11 v1) fun x12 =>
    obd (jremI (x9 + v2) x12) fun x13 =>
    jgd (jobC 9 (h v0)) <|
    obd (g_R_st v0 v1 x13 h) fun x15 =>
    obd (g_R_bitsOf x6 x15) fun x16 =>
    some x16)
  else
    some (0 : Int64)
set_option maxRecDepth 10000 in
def g_R_state_173 (v0 : Nat) (v1 : Int32) (v2 : Int32)  (h : Nat → Option JCell) : Option Int64 :=
  g_R_state_175 v0 v1 v2 (0 : Int32) h
set_option maxRecDepth 10000 in
def g_R_state (v0 : Nat) (v1 : Int32) (v2 : Int32)  (h : Nat → Option JCell) : Option Int64 :=
  jgd (jobC 9 (h v0)) <|
  obd (g_R_isSection v0 v1 h) fun x2 =>
  if x2 = true then (
    if v2 = (100 : Int32) then (
      obd (jgA h v0 9 15) fun x3 =>
      obd x3 fun a4 =>
      obd (jaJ h a4 v1) fun x5 =>
      some x5)
    else
      obd (jgA h v0 9 2) fun x6 =>
      obd x6 fun a7 =>
      obd (jaI h a7 v1) fun x8 =>
      if x8 = 1 then (
        g_R_state_92 v0 v1 v2 h)
      else
      if x8 = 2 then (
        g_R_state_175 v0 v1 v2 (4 : Int32) h)
      else
      if x8 = 3 then (
        g_R_state_102 v0 v1 v2 h)
      else
      if x8 = 4 then (
        g_R_state_102 v0 v1 v2 h)
      else
      if x8 = 5 then (
        g_R_state_92 v0 v1 v2 h)
      else
      if x8 = 6 then (
        g_R_state_107 v0 v1 v2 h)
      else
      if x8 = 7 then (
        g_R_state_107 v0 v1 v2 h)
      else
      if x8 = 8 then (
        g_R_state_107 v0 v1 v2 h)
      else
      if x8 = 9 then (
        g_R_state_173 v0 v1 v2 h)
      else
      if x8 = 10 then (
        g_R_state_173 v0 v1 v2 h)
      else
      if x8 = 11 then (
        g_R_state_92 v0 v1 v2 h)
      else
      if x8 = 12 then (
        if v2 = 0 then (
          jgd (jobC 9 (h v0)) <|
          obd (g_R_st v0 v1 (0 : Int32) h) fun x10 =>
          some (FP.d2l x10))
        else
          some (0 : Int64))
      else
      g_R_state_173 v0 v1 v2 h)
  else
    some (0 : Int64)
/-! FilterBenchModel.about(II)I -/
set_option maxRecDepth 10000 in
def g_R_about (v0 : Nat) (v1 : Int32) (v2 : Int32)  (h : Nat → Option JCell) : Option Int32 :=
  jgd (jobC 9 (h v0)) <|
  obd (g_R_isSection v0 v1 h) fun x2 =>
  if x2 = true then (
    if v2 = 0 then (
      obd (jgA h v0 9 2) fun x3 =>
      obd x3 fun a4 =>
      obd (jaI h a4 v1) fun x5 =>
      some x5)
    else
    if v2 = 1 then (
      obd (jgA h v0 9 3) fun x6 =>
      obd x6 fun a7 =>
      obd (jaI h a7 v1) fun x8 =>
      some x8)
    else
    if v2 = 2 then (
      obd (jgA h v0 9 4) fun x9 =>
      obd x9 fun a10 =>
      obd (jaI h a10 v1) fun x11 =>
      some x11)
    else
    if v2 = 3 then (
      obd (jgA h v0 9 8) fun x12 =>
      obd x12 fun a13 =>
      obd (jaI h a13 v1) fun x14 =>
      some x14)
    else
    if v2 = 4 then (
      obd (jgA h v0 9 9) fun x15 =>
      obd x15 fun a16 =>
      obd (jaI h a16 v1) fun x17 =>
      some x17)
    else
    if v2 = 5 then (
      obd (jgA h v0 9 11) fun x18 =>
      obd x18 fun a19 =>
      obd (jaI h a19 v1) fun x20 =>
      some x20)
    else
    if v2 = 6 then (
      obd (jgA h v0 9 12) fun x21 =>
      obd x21 fun a22 =>
      obd (jaI h a22 v1) fun x23 =>
      some x23)
    else
    if v2 = 7 then (
      obd (jgA h v0 9 10) fun x24 =>
      obd x24 fun a25 =>
      obd (jaI h a25 v1) fun x26 =>
      some x26)
    else
    if v2 = 8 then (
      obd (jgA h v0 9 5) fun x27 =>
      obd x27 fun a28 =>
      obd (jaI h a28 v1) fun x29 =>
      some x29)
    else
    if v2 = 9 then (
      obd (jgA h v0 9 6) fun x30 =>
      obd x30 fun a31 =>
      obd (jaI h a31 v1) fun x32 =>
      some x32)
    else
    some (-1 : Int32))
  else
    some (-1 : Int32)
/-! FilterBenchModel.told(II)J -/
set_option maxRecDepth 10000 in
def g_R_told (v0 : Nat) (v1 : Int32) (v2 : Int32)  (h : Nat → Option JCell) : Option Int64 :=
  jgd (jobC 9 (h v0)) <|
  obd (g_R_isCoefficient v0 v1 v2 h) fun x2 =>
  if x2 = true then (
    obd (jgA h v0 9 3) fun x3 =>
    obd x3 fun a4 =>
    obd (jaI h a4 v1) fun x5 =>
    jgd (jobC 9 (h v0)) <|
    obd (g_R_c v0 v1 v2 h) fun x7 =>
    obd (g_R_bitsOf x5 x7) fun x8 =>
    some x8)
  else
    some (0 : Int64)
/-! FilterBenchModel.empties(I)V -/
set_option maxRecDepth 10000 in
def g_R_empties_27 (N : Nat) (B : Nat) (k11 : Nat → Int32 → Int32 → JMem → Option JMem) : Nat → Nat → Int32 → Int32 → Int32 → JMem → Option JMem
  | 0, _, _, _, _, _ => none
  | n + 1, v0, v1, v2, v3, μ =>
    if (64 : Int32) ≤ v3 then (
      obd (jgA μ.1 v0 9 26) fun x1 =>
      obd x1 fun a2 =>
      obd (jpA B .int a2 v2 (.int (0 : Int32)) μ) fun μ3 =>
      k11 v0 v1 (v2 + 1) μ3)
    else
      obd (jgA μ.1 v0 9 25) fun x4 =>
      obd x4 fun a5 =>
      obd (jpA B .double a5 (((64 : Int32) * v2) + v3) (.double (0 : UInt64)) μ) fun μ6 =>
      g_R_empties_27 N B k11 n v0 v1 v2 (v3 + 1) μ6
set_option maxRecDepth 10000 in
def g_R_empties_66 (N : Nat) (B : Nat) : Nat → Nat → Int32 → Int32 → JMem → Option JMem
  | 0, _, _, _, _ => none
  | n + 1, v0, v1, v2, μ =>
    obd (jgA μ.1 v0 9 17) fun x1 =>
    obd x1 fun a2 =>
    obd (jaI μ.1 a2 v1) fun x3 =>
    if x3 ≤ v2 then (
      some μ)
    else
      obd (jgA μ.1 v0 9 18) fun x4 =>
      obd x4 fun a5 =>
      obd (jaI μ.1 a5 (((10 : Int32) * v1) + v2)) fun x6 =>
      jgd (jobC 9 (μ.1 v0)) <|
      obd (g_R_clears N B v0 x6 μ) fun μ8 =>
      g_R_empties_66 N B n v0 v1 (v2 + 1) μ8
set_option maxRecDepth 10000 in
def g_R_empties_11 (N : Nat) (B : Nat) : Nat → Nat → Int32 → Int32 → JMem → Option JMem
  | 0, _, _, _, _ => none
  | n + 1, v0, v1, v2, μ =>
    obd (jgA μ.1 v0 9 20) fun x1 =>
    obd x1 fun a2 =>
    obd (jaI μ.1 a2 v1) fun x3 =>
    if (((3 : Int32) * v1) + x3) ≤ v2 then (
      g_R_empties_66 N B N v0 v1 (0 : Int32) μ)
    else
      g_R_empties_27 N B (g_R_empties_11 N B n) N v0 v1 v2 (0 : Int32) μ
set_option maxRecDepth 10000 in
def g_R_empties (N : Nat) (B : Nat) (v0 : Nat) (v1 : Int32)  (μ : JMem) : Option JMem :=
  obd (jgA μ.1 v0 9 28) fun x1 =>
  obd x1 fun a2 =>
  obd (jpA B .int a2 v1 (.int (0 : Int32)) μ) fun μ3 =>
  g_R_empties_11 N B N v0 v1 ((3 : Int32) * v1) μ3
/-! FilterBenchModel.trees(I)V -/
set_option maxRecDepth 10000 in
def g_R_trees_97 (N : Nat) (B : Nat) (k14 : Nat → Int32 → JMem → Option JMem) (k24 : Nat → Int32 → Int32 → JMem → Option JMem) (v0 : Nat) (v2 : Int32) (v3 : Int32)  (μ : JMem) : Option JMem :=
  k24 v0 v2 (v3 + 1) μ
set_option maxRecDepth 10000 in
def g_R_trees_24 (N : Nat) (B : Nat) (k14 : Nat → Int32 → JMem → Option JMem) : Nat → Nat → Int32 → Int32 → JMem → Option JMem
  | 0, _, _, _, _ => none
  | n + 1, v0, v2, v3, μ =>
    obd (jgA μ.1 v0 9 17) fun x1 =>
    obd (jgA μ.1 v0 9 43) fun x2 =>
    obd x2 fun a3 =>
    obd (jaI μ.1 a3 v2) fun x4 =>
    obd x1 fun a5 =>
    obd (jaI μ.1 a5 x4) fun x6 =>
    if x6 ≤ v3 then (
      k14 v0 (v2 + 1) μ)
    else
      obd (jgA μ.1 v0 9 18) fun x7 =>
      obd (jgA μ.1 v0 9 43) fun x8 =>
      obd x8 fun a9 =>
      obd (jaI μ.1 a9 v2) fun x10 =>
      obd x7 fun a11 =>
      obd (jaI μ.1 a11 (((10 : Int32) * x10) + v3)) fun x12 =>
      obd (jgA μ.1 v0 9 10) fun x13 =>
      obd x13 fun a14 =>
      obd (jaI μ.1 a14 x12) fun x15 =>
      if x15 = (-1 : Int32) then (
        g_R_trees_97 N B k14 (g_R_trees_24 N B k14 n) v0 v2 v3 μ)
      else
        obd (jgA μ.1 v0 9 43) fun x16 =>
        obd (jgI μ.1 v0 9 42) fun x17 =>
        obd (jgA μ.1 v0 9 10) fun x18 =>
        obd x18 fun a19 =>
        obd (jaI μ.1 a19 x12) fun x20 =>
        obd x16 fun a21 =>
        obd (jpA B .int a21 x17 (.int x20) μ) fun μ22 =>
        obd (jgI μ22.1 v0 9 42) fun x23 =>
        obd (jpF B 9 42 v0 (.int (x23 + (1 : Int32))) μ22) fun μ24 =>
        g_R_trees_97 N B k14 (g_R_trees_24 N B k14 n) v0 v2 v3 μ24
set_option maxRecDepth 10000 in
def g_R_trees_14 (N : Nat) (B : Nat) : Nat → Nat → Int32 → JMem → Option JMem
  | 0, _, _, _ => none
  | n + 1, v0, v2, μ =>
    obd (jgI μ.1 v0 9 42) fun x1 =>
    if x1 ≤ v2 then (
      some μ)
    else
      g_R_trees_24 N B (g_R_trees_14 N B n) N v0 v2 (0 : Int32) μ
set_option maxRecDepth 10000 in
def g_R_trees (N : Nat) (B : Nat) (v0 : Nat) (v1 : Int32)  (μ : JMem) : Option JMem :=
  obd (jpF B 9 42 v0 (.int (1 : Int32)) μ) fun μ1 =>
  obd (jgA μ1.1 v0 9 43) fun x2 =>
  obd x2 fun a3 =>
  obd (jpA B .int a3 (0 : Int32) (.int v1) μ1) fun μ4 =>
  g_R_trees_14 N B N v0 (0 : Int32) μ4
/-! FilterBenchModel.reset(I)Z -/
set_option maxRecDepth 10000 in
def g_R_reset_17 (N : Nat) (B : Nat) : Nat → Nat → Int32 → JMem → Option (Bool × JMem)
  | 0, _, _, _ => none
  | n + 1, v0, v2, μ =>
    obd (jgI μ.1 v0 9 42) fun x1 =>
    if x1 ≤ v2 then (
      some (true, μ))
    else
      obd (jgA μ.1 v0 9 43) fun x2 =>
      obd x2 fun a3 =>
      obd (jaI μ.1 a3 v2) fun x4 =>
      jgd (jobC 9 (μ.1 v0)) <|
      obd (g_R_empties N B v0 x4 μ) fun μ6 =>
      g_R_reset_17 N B n v0 (v2 + 1) μ6
set_option maxRecDepth 10000 in
def g_R_reset (N : Nat) (B : Nat) (v0 : Nat) (v1 : Int32)  (μ : JMem) : Option (Bool × JMem) :=
  jgd (jobC 9 (μ.1 v0)) <|
  obd (g_R_isChain v0 v1 μ.1) fun x2 =>
  if x2 = true then (
    jgd (jobC 9 (μ.1 v0)) <|
    obd (g_R_trees N B v0 v1 μ) fun μ4 =>
    g_R_reset_17 N B N v0 (0 : Int32) μ4)
  else
    some (false, μ)
/-! FilterBenchModel.keeps(II)V -/
set_option maxRecDepth 10000 in
def g_R_keeps_63 (N : Nat) (B : Nat) (k38 : Nat → Int32 → Int32 → Int32 → JMem → Option JMem) : Nat → Nat → Int32 → Int32 → Int32 → Int32 → Int32 → JMem → Option JMem
  | 0, _, _, _, _, _, _, _ => none
  | n + 1, v0, v1, v2, v3, v4, v5, μ =>
    if (64 : Int32) ≤ v5 then (
      obd (jgA μ.1 v0 9 50) fun x1 =>
      obd (jgA μ.1 v0 9 26) fun x2 =>
      obd x2 fun a3 =>
      obd (jaI μ.1 a3 v3) fun x4 =>
      obd x1 fun a5 =>
      obd (jpA B .int a5 v4 (.int x4) μ) fun μ6 =>
      k38 v0 v1 v2 (v3 + 1) μ6)
    else
      obd (jgA μ.1 v0 9 49) fun x7 =>
      obd (jgA μ.1 v0 9 25) fun x8 =>
      obd x8 fun a9 =>
      obd (jaD μ.1 a9 (((64 : Int32) * v3) + v5)) fun x10 =>
      obd x7 fun a11 =>
      obd (jpA B .double a11 (((64 : Int32) * v4) + v5) (.double x10) μ) fun μ12 =>
      g_R_keeps_63 N B k38 n v0 v1 v2 v3 v4 (v5 + 1) μ12
set_option maxRecDepth 10000 in
def g_R_keeps_157 (N : Nat) (B : Nat) (k122 : Nat → Int32 → Int32 → Int32 → JMem → Option JMem) : Nat → Nat → Int32 → Int32 → Int32 → Int32 → Int32 → Int32 → JMem → Option JMem
  | 0, _, _, _, _, _, _, _, _ => none
  | n + 1, v0, v1, v2, v3, v4, v5, v6, μ =>
    if (64 : Int32) ≤ v6 then (
      obd (jgA μ.1 v0 9 47) fun x1 =>
      obd (jgA μ.1 v0 9 14) fun x2 =>
      obd x2 fun a3 =>
      obd (jaI μ.1 a3 v4) fun x4 =>
      obd x1 fun a5 =>
      obd (jpA B .int a5 v5 (.int x4) μ) fun μ6 =>
      obd (jgA μ6.1 v0 9 48) fun x7 =>
      obd (jgA μ6.1 v0 9 15) fun x8 =>
      obd x8 fun a9 =>
      obd (jaJ μ6.1 a9 v4) fun x10 =>
      obd x7 fun a11 =>
      obd (jpA B .long a11 v5 (.long x10) μ6) fun μ12 =>
      obd (jgA μ12.1 v0 9 53) fun x13 =>
      obd (jgA μ12.1 v0 9 10) fun x14 =>
      obd x14 fun a15 =>
      obd (jaI μ12.1 a15 v4) fun x16 =>
      obd x13 fun a17 =>
      obd (jpA B .int a17 v5 (.int x16) μ12) fun μ18 =>
      k122 v0 v1 v2 (v3 + 1) μ18)
    else
      obd (jgA μ.1 v0 9 46) fun x19 =>
      obd (jgA μ.1 v0 9 13) fun x20 =>
      obd x20 fun a21 =>
      obd (jaD μ.1 a21 (((64 : Int32) * v4) + v6)) fun x22 =>
      obd x19 fun a23 =>
      obd (jpA B .double a23 (((64 : Int32) * v5) + v6) (.double x22) μ) fun μ24 =>
      g_R_keeps_157 N B k122 n v0 v1 v2 v3 v4 v5 (v6 + 1) μ24
set_option maxRecDepth 10000 in
def g_R_keeps_122 (N : Nat) (B : Nat) : Nat → Nat → Int32 → Int32 → Int32 → JMem → Option JMem
  | 0, _, _, _, _, _ => none
  | n + 1, v0, v1, v2, v3, μ =>
    obd (jgA μ.1 v0 9 17) fun x1 =>
    obd x1 fun a2 =>
    obd (jaI μ.1 a2 v2) fun x3 =>
    if x3 ≤ v3 then (
      some μ)
    else
      obd (jgA μ.1 v0 9 18) fun x4 =>
      obd x4 fun a5 =>
      obd (jaI μ.1 a5 (((10 : Int32) * v2) + v3)) fun x6 =>
      g_R_keeps_157 N B (g_R_keeps_122 N B n) N v0 v1 v2 v3 x6 (((60 : Int32) * v1) + x6) (0 : Int32) μ
set_option maxRecDepth 10000 in
def g_R_keeps_38 (N : Nat) (B : Nat) : Nat → Nat → Int32 → Int32 → Int32 → JMem → Option JMem
  | 0, _, _, _, _, _ => none
  | n + 1, v0, v1, v2, v3, μ =>
    obd (jgA μ.1 v0 9 20) fun x1 =>
    obd x1 fun a2 =>
    obd (jaI μ.1 a2 v2) fun x3 =>
    if (((3 : Int32) * v2) + x3) ≤ v3 then (
      g_R_keeps_122 N B N v0 v1 v2 (0 : Int32) μ)
    else
      g_R_keeps_63 N B (g_R_keeps_38 N B n) N v0 v1 v2 v3 (((60 : Int32) * v1) + v3) (0 : Int32) μ
set_option maxRecDepth 10000 in
def g_R_keeps (N : Nat) (B : Nat) (v0 : Nat) (v1 : Int32) (v2 : Int32)  (μ : JMem) : Option JMem :=
  obd (jgA μ.1 v0 9 51) fun x1 =>
  obd (jgA μ.1 v0 9 17) fun x2 =>
  obd x2 fun a3 =>
  obd (jaI μ.1 a3 v2) fun x4 =>
  obd x1 fun a5 =>
  obd (jpA B .int a5 (((20 : Int32) * v1) + v2) (.int x4) μ) fun μ6 =>
  obd (jgA μ6.1 v0 9 52) fun x7 =>
  obd (jgA μ6.1 v0 9 20) fun x8 =>
  obd x8 fun a9 =>
  obd (jaI μ6.1 a9 v2) fun x10 =>
  obd x7 fun a11 =>
  obd (jpA B .int a11 (((20 : Int32) * v1) + v2) (.int x10) μ6) fun μ12 =>
  g_R_keeps_38 N B N v0 v1 v2 ((3 : Int32) * v2) μ12
/-! FilterBenchModel.keep(I)I -/
set_option maxRecDepth 10000 in
def g_R_keep_36 (N : Nat) (B : Nat) : Nat → Nat → Int32 → JMem → Option (Int32 × JMem)
  | 0, _, _, _ => none
  | n + 1, v0, v2, μ =>
    obd (jgI μ.1 v0 9 42) fun x1 =>
    if x1 ≤ v2 then (
      obd (jgI μ.1 v0 9 44) fun x2 =>
      obd (jpF B 9 44 v0 (.int (x2 + (1 : Int32))) μ) fun μ3 =>
      obd (jgI μ3.1 v0 9 44) fun x4 =>
      some ((x4 - (1 : Int32)), μ3))
    else
      obd (jgI μ.1 v0 9 44) fun x5 =>
      obd (jgA μ.1 v0 9 43) fun x6 =>
      obd x6 fun a7 =>
      obd (jaI μ.1 a7 v2) fun x8 =>
      jgd (jobC 9 (μ.1 v0)) <|
      obd (g_R_keeps N B v0 x5 x8 μ) fun μ10 =>
      g_R_keep_36 N B n v0 (v2 + 1) μ10
set_option maxRecDepth 10000 in
def g_R_keep (N : Nat) (B : Nat) (v0 : Nat) (v1 : Int32)  (μ : JMem) : Option (Int32 × JMem) :=
  jgd (jobC 9 (μ.1 v0)) <|
  obd (g_R_isChain v0 v1 μ.1) fun x2 =>
  if x2 = true then (
    obd (jgI μ.1 v0 9 44) fun x3 =>
    if x3 = (8 : Int32) then (
      some ((-1 : Int32), μ))
    else
      obd (jgA μ.1 v0 9 45) fun x4 =>
      obd (jgI μ.1 v0 9 44) fun x5 =>
      obd x4 fun a6 =>
      obd (jpA B .int a6 x5 (.int v1) μ) fun μ7 =>
      jgd (jobC 9 (μ7.1 v0)) <|
      obd (g_R_trees N B v0 v1 μ7) fun μ9 =>
      g_R_keep_36 N B N v0 (0 : Int32) μ9)
  else
    some ((-1 : Int32), μ)
/-! FilterBenchModel.backs(II)V -/
set_option maxRecDepth 10000 in
def g_R_backs_29 (N : Nat) (B : Nat) (k4 : Nat → Int32 → Int32 → Int32 → JMem → Option JMem) : Nat → Nat → Int32 → Int32 → Int32 → Int32 → Int32 → JMem → Option JMem
  | 0, _, _, _, _, _, _, _ => none
  | n + 1, v0, v1, v2, v3, v4, v5, μ =>
    if (64 : Int32) ≤ v5 then (
      obd (jgA μ.1 v0 9 26) fun x1 =>
      obd (jgA μ.1 v0 9 50) fun x2 =>
      obd x2 fun a3 =>
      obd (jaI μ.1 a3 v4) fun x4 =>
      obd x1 fun a5 =>
      obd (jpA B .int a5 v3 (.int x4) μ) fun μ6 =>
      k4 v0 v1 v2 (v3 + 1) μ6)
    else
      obd (jgA μ.1 v0 9 25) fun x7 =>
      obd (jgA μ.1 v0 9 49) fun x8 =>
      obd x8 fun a9 =>
      obd (jaD μ.1 a9 (((64 : Int32) * v4) + v5)) fun x10 =>
      obd x7 fun a11 =>
      obd (jpA B .double a11 (((64 : Int32) * v3) + v5) (.double x10) μ) fun μ12 =>
      g_R_backs_29 N B k4 n v0 v1 v2 v3 v4 (v5 + 1) μ12
set_option maxRecDepth 10000 in
def g_R_backs_123 (N : Nat) (B : Nat) (k88 : Nat → Int32 → Int32 → Int32 → JMem → Option JMem) : Nat → Nat → Int32 → Int32 → Int32 → Int32 → Int32 → Int32 → JMem → Option JMem
  | 0, _, _, _, _, _, _, _, _ => none
  | n + 1, v0, v1, v2, v3, v4, v5, v6, μ =>
    if (64 : Int32) ≤ v6 then (
      obd (jgA μ.1 v0 9 14) fun x1 =>
      obd (jgA μ.1 v0 9 47) fun x2 =>
      obd x2 fun a3 =>
      obd (jaI μ.1 a3 v5) fun x4 =>
      obd x1 fun a5 =>
      obd (jpA B .int a5 v4 (.int x4) μ) fun μ6 =>
      obd (jgA μ6.1 v0 9 15) fun x7 =>
      obd (jgA μ6.1 v0 9 48) fun x8 =>
      obd x8 fun a9 =>
      obd (jaJ μ6.1 a9 v5) fun x10 =>
      obd x7 fun a11 =>
      obd (jpA B .long a11 v4 (.long x10) μ6) fun μ12 =>
      k88 v0 v1 v2 (v3 + 1) μ12)
    else
      obd (jgA μ.1 v0 9 13) fun x13 =>
      obd (jgA μ.1 v0 9 46) fun x14 =>
      obd x14 fun a15 =>
      obd (jaD μ.1 a15 (((64 : Int32) * v5) + v6)) fun x16 =>
      obd x13 fun a17 =>
      obd (jpA B .double a17 (((64 : Int32) * v4) + v6) (.double x16) μ) fun μ18 =>
      g_R_backs_123 N B k88 n v0 v1 v2 v3 v4 v5 (v6 + 1) μ18
set_option maxRecDepth 10000 in
def g_R_backs_88 (N : Nat) (B : Nat) : Nat → Nat → Int32 → Int32 → Int32 → JMem → Option JMem
  | 0, _, _, _, _, _ => none
  | n + 1, v0, v1, v2, v3, μ =>
    obd (jgA μ.1 v0 9 17) fun x1 =>
    obd x1 fun a2 =>
    obd (jaI μ.1 a2 v2) fun x3 =>
    if x3 ≤ v3 then (
      some μ)
    else
      obd (jgA μ.1 v0 9 18) fun x4 =>
      obd x4 fun a5 =>
      obd (jaI μ.1 a5 (((10 : Int32) * v2) + v3)) fun x6 =>
      g_R_backs_123 N B (g_R_backs_88 N B n) N v0 v1 v2 v3 x6 (((60 : Int32) * v1) + x6) (0 : Int32) μ
set_option maxRecDepth 10000 in
def g_R_backs_4 (N : Nat) (B : Nat) : Nat → Nat → Int32 → Int32 → Int32 → JMem → Option JMem
  | 0, _, _, _, _, _ => none
  | n + 1, v0, v1, v2, v3, μ =>
    obd (jgA μ.1 v0 9 20) fun x1 =>
    obd x1 fun a2 =>
    obd (jaI μ.1 a2 v2) fun x3 =>
    if (((3 : Int32) * v2) + x3) ≤ v3 then (
      g_R_backs_88 N B N v0 v1 v2 (0 : Int32) μ)
    else
      g_R_backs_29 N B (g_R_backs_4 N B n) N v0 v1 v2 v3 (((60 : Int32) * v1) + v3) (0 : Int32) μ
set_option maxRecDepth 10000 in
def g_R_backs (N : Nat) (B : Nat) (v0 : Nat) (v1 : Int32) (v2 : Int32)  (μ : JMem) : Option JMem :=
  g_R_backs_4 N B N v0 v1 v2 ((3 : Int32) * v2) μ
/-! FilterBenchModel.fits(II)Z -/
set_option maxRecDepth 10000 in
def g_R_fits_44 (N : Nat) : Nat → Nat → Int32 → Int32 → Int32 → (Nat → Option JCell) → Option Bool
  | 0, _, _, _, _, _ => none
  | n + 1, v0, v1, v2, v3, h =>
    obd (jgA h v0 9 17) fun x1 =>
    obd x1 fun a2 =>
    obd (jaI h a2 v2) fun x3 =>
    if x3 ≤ v3 then (
      some true)
    else
      obd (jgA h v0 9 18) fun x4 =>
      obd x4 fun a5 =>
      obd (jaI h a5 (((10 : Int32) * v2) + v3)) fun x6 =>
      obd (jgA h v0 9 53) fun x7 =>
      obd x7 fun a8 =>
      obd (jaI h a8 (((60 : Int32) * v1) + x6)) fun x9 =>
      obd (jgA h v0 9 10) fun x10 =>
      obd x10 fun a11 =>
      obd (jaI h a11 x6) fun x12 =>
      if x9 = x12 then (
        g_R_fits_44 N n v0 v1 v2 (v3 + 1) h)
      else
        some false
set_option maxRecDepth 10000 in
def g_R_fits (N : Nat) (v0 : Nat) (v1 : Int32) (v2 : Int32)  (h : Nat → Option JCell) : Option Bool :=
  obd (jgA h v0 9 51) fun x1 =>
  obd x1 fun a2 =>
  obd (jaI h a2 (((20 : Int32) * v1) + v2)) fun x3 =>
  obd (jgA h v0 9 17) fun x4 =>
  obd x4 fun a5 =>
  obd (jaI h a5 v2) fun x6 =>
  if x3 = x6 then (
    obd (jgA h v0 9 52) fun x7 =>
    obd x7 fun a8 =>
    obd (jaI h a8 (((20 : Int32) * v1) + v2)) fun x9 =>
    obd (jgA h v0 9 20) fun x10 =>
    obd x10 fun a11 =>
    obd (jaI h a11 v2) fun x12 =>
    if x9 = x12 then (
      g_R_fits_44 N N v0 v1 v2 (0 : Int32) h)
    else
      some false)
  else
    some false
/-! FilterBenchModel.isKept(I)Z -/
set_option maxRecDepth 10000 in
def g_R_isKept_28 (N : Nat) (B : Nat) : Nat → Nat → Int32 → Int32 → JMem → Option (Bool × JMem)
  | 0, _, _, _, _ => none
  | n + 1, v0, v1, v2, μ =>
    obd (jgI μ.1 v0 9 42) fun x1 =>
    if x1 ≤ v2 then (
      some (true, μ))
    else
      obd (jgA μ.1 v0 9 43) fun x2 =>
      obd x2 fun a3 =>
      obd (jaI μ.1 a3 v2) fun x4 =>
      jgd (jobC 9 (μ.1 v0)) <|
      obd (g_R_fits N v0 v1 x4 μ.1) fun x6 =>
      if x6 = true then (
        g_R_isKept_28 N B n v0 v1 (v2 + 1) μ)
      else
        some (false, μ)
set_option maxRecDepth 10000 in
def g_R_isKept (N : Nat) (B : Nat) (v0 : Nat) (v1 : Int32)  (μ : JMem) : Option (Bool × JMem) :=
  obd (jgI μ.1 v0 9 44) fun x1 =>
  if (g_R_in v1 (0 : Int32) (x1 - (1 : Int32))) = true then (
    obd (jgA μ.1 v0 9 45) fun x2 =>
    obd x2 fun a3 =>
    obd (jaI μ.1 a3 v1) fun x4 =>
    jgd (jobC 9 (μ.1 v0)) <|
    obd (g_R_trees N B v0 x4 μ) fun μ6 =>
    g_R_isKept_28 N B N v0 v1 (0 : Int32) μ6)
  else
    some (false, μ)
/-! FilterBenchModel.back(I)Z -/
set_option maxRecDepth 10000 in
def g_R_back_12 (N : Nat) (B : Nat) : Nat → Nat → Int32 → Int32 → JMem → Option (Bool × JMem)
  | 0, _, _, _, _ => none
  | n + 1, v0, v1, v2, μ =>
    obd (jgI μ.1 v0 9 42) fun x1 =>
    if x1 ≤ v2 then (
      some (true, μ))
    else
      obd (jgA μ.1 v0 9 43) fun x2 =>
      obd x2 fun a3 =>
      obd (jaI μ.1 a3 v2) fun x4 =>
      jgd (jobC 9 (μ.1 v0)) <|
      obd (g_R_backs N B v0 v1 x4 μ) fun μ6 =>
      g_R_back_12 N B n v0 v1 (v2 + 1) μ6
set_option maxRecDepth 10000 in
def g_R_back (N : Nat) (B : Nat) (v0 : Nat) (v1 : Int32)  (μ : JMem) : Option (Bool × JMem) :=
  jgd (jobC 9 (μ.1 v0)) <|
  jbd2 (g_R_isKept N B v0 v1 μ) fun x2 μ3 =>
  if x2 = true then (
    g_R_back_12 N B N v0 v1 (0 : Int32) μ3)
  else
    some (false, μ3)
/-! FilterBenchModel.alike(II)Z -/
set_option maxRecDepth 10000 in
def g_R_alike_37 (N : Nat) (k4 : Nat → Int32 → Int32 → Int32 → (Nat → Option JCell) → Option Bool) : Nat → Nat → Int32 → Int32 → Int32 → Int32 → Int32 → Int32 → (Nat → Option JCell) → Option Bool
  | 0, _, _, _, _, _, _, _, _ => none
  | n + 1, v0, v1, v2, v3, v4, v5, v6, h =>
    if v5 ≤ v6 then (
      k4 v0 v1 v2 (v3 + 1) h)
    else
      obd (jgA h v0 9 25) fun x1 =>
      obd (jgA h v0 9 26) fun x2 =>
      obd x2 fun a3 =>
      obd (jaI h a3 v3) fun x4 =>
      obd (jremI (x4 + v6) v5) fun x5 =>
      obd x1 fun a6 =>
      obd (jaD h a6 (((64 : Int32) * v3) + x5)) fun x7 =>
      obd (g_R_bitsOf (0 : Int32) x7) fun x8 =>
      obd (jgA h v0 9 49) fun x9 =>
      obd (jgA h v0 9 50) fun x10 =>
      obd x10 fun a11 =>
      obd (jaI h a11 v4) fun x12 =>
      obd (jremI (x12 + v6) v5) fun x13 =>
      obd x9 fun a14 =>
      obd (jaD h a14 (((64 : Int32) * v4) + x13)) fun x15 =>
      obd (g_R_bitsOf (0 : Int32) x15) fun x16 =>
      if x8 = x16 then (
        g_R_alike_37 N k4 n v0 v1 v2 v3 v4 v5 (v6 + 1) h)
      else
        some false
set_option maxRecDepth 10000 in
def g_R_alike_277 (N : Nat) (k118 : Nat → Int32 → Int32 → Int32 → (Nat → Option JCell) → Option Bool) (k207 : Nat → Int32 → Int32 → Int32 → Int32 → Int32 → Bool → Int32 → Int32 → (Nat → Option JCell) → Option Bool) (v0 : Nat) (v1 : Int32) (v2 : Int32) (v3 : Int32) (v4 : Int32) (v5 : Int32) (v6 : Bool) (v7 : Int32) (v8 : Int32) (v9 : UInt64) (s0 : Int32) (s1 : Int32) (s2 : Option Nat)  (h : Nat → Option JCell) : Option Bool :=
  obd s2 fun a1 =>
  obd (jaD h a1 (s1 + s0)) fun x2 =>
  obd (g_R_bitsOf (0 : Int32) v9) fun x3 =>
  obd (g_R_bitsOf (0 : Int32) x2) fun x4 =>
  if x3 = x4 then (
    k207 v0 v1 v2 v3 v4 v5 v6 v7 (v8 + 1) h)
  else
    some false
set_option maxRecDepth 10000 in
def g_R_alike_240 (N : Nat) (k118 : Nat → Int32 → Int32 → Int32 → (Nat → Option JCell) → Option Bool) (k207 : Nat → Int32 → Int32 → Int32 → Int32 → Int32 → Bool → Int32 → Int32 → (Nat → Option JCell) → Option Bool) (v0 : Nat) (v1 : Int32) (v2 : Int32) (v3 : Int32) (v4 : Int32) (v5 : Int32) (v6 : Bool) (v7 : Int32) (v8 : Int32) (s0 : Int32) (s1 : Int32) (s2 : Nat)  (h : Nat → Option JCell) : Option Bool :=
  jgd (jobC 9 (h s2)) <|
  obd (g_R_st s2 s1 s0 h) fun x2 =>
  obd (jgA h v0 9 46) fun x3 =>
  if v6 = true then (
    obd (jgA h v0 9 47) fun x4 =>
    obd x4 fun a5 =>
    obd (jaI h a5 v5) fun x6 =>
    obd (jremI (x6 + v8) v7) fun x7 =>
    g_R_alike_277 N k118 k207 v0 v1 v2 v3 v4 v5 v6 v7 v8 x2 x7 ((64 : Int32) * v5) x3 h)
  else
    g_R_alike_277 N k118 k207 v0 v1 v2 v3 v4 v5 v6 v7 v8 x2 v8 ((64 : Int32) * v5) x3 h
set_option maxRecDepth 10000 in
def g_R_alike_207 (N : Nat) (k118 : Nat → Int32 → Int32 → Int32 → (Nat → Option JCell) → Option Bool) : Nat → Nat → Int32 → Int32 → Int32 → Int32 → Int32 → Bool → Int32 → Int32 → (Nat → Option JCell) → Option Bool
  | 0, _, _, _, _, _, _, _, _, _, _ => none
  | n + 1, v0, v1, v2, v3, v4, v5, v6, v7, v8, h =>
    if v7 ≤ v8 then (
      k118 v0 v1 v2 (v3 + 1) h)
    else
      if v6 = true then (
        obd (jgA h v0 9 14) fun x1 =>
        obd x1 fun a2 =>
        obd (jaI h a2 v4) fun x3 =>
        obd (jremI (x3 + v8) v7) fun x4 =>
        g_R_alike_240 N k118 (g_R_alike_207 N k118 n) v0 v1 v2 v3 v4 v5 v6 v7 v8 x4 v4 v0 h)
      else
        g_R_alike_240 N k118 (g_R_alike_207 N k118 n) v0 v1 v2 v3 v4 v5 v6 v7 v8 v8 v4 v0 h
set_option maxRecDepth 10000 in
def g_R_alike_202 (N : Nat) (k118 : Nat → Int32 → Int32 → Int32 → (Nat → Option JCell) → Option Bool) (v0 : Nat) (v1 : Int32) (v2 : Int32) (v3 : Int32) (v4 : Int32) (v5 : Int32) (v6 : Bool) (s0 : Int32)  (h : Nat → Option JCell) : Option Bool :=
  g_R_alike_207 N k118 N v0 v1 v2 v3 v4 v5 v6 s0 (0 : Int32) h
set_option maxRecDepth 10000 in
def g_R_alike_118 (N : Nat) : Nat → Nat → Int32 → Int32 → Int32 → (Nat → Option JCell) → Option Bool
  | 0, _, _, _, _, _ => none
  | n + 1, v0, v1, v2, v3, h =>
    obd (jgA h v0 9 17) fun x1 =>
    obd x1 fun a2 =>
    obd (jaI h a2 v2) fun x3 =>
    if x3 ≤ v3 then (
      some true)
    else
      obd (jgA h v0 9 18) fun x4 =>
      obd x4 fun a5 =>
      obd (jaI h a5 (((10 : Int32) * v2) + v3)) fun x6 =>
      obd (jgA h v0 9 15) fun x7 =>
      obd x7 fun a8 =>
      obd (jaJ h a8 x6) fun x9 =>
      obd (jgA h v0 9 48) fun x10 =>
      obd x10 fun a11 =>
      obd (jaJ h a11 (((60 : Int32) * v1) + x6)) fun x12 =>
      if x9 = x12 then (
        obd (jgA h v0 9 2) fun x13 =>
        obd x13 fun a14 =>
        obd (jaI h a14 x6) fun x15 =>
        jlet (g_R_in x15 (6 : Int32) (8 : Int32)) fun (v6_16 : Bool) =>
        if v6_16 = true then (
          obd (jgA h v0 9 4) fun x17 =>
          obd x17 fun a18 =>
          obd (jaI h a18 x6) fun x19 =>
          g_R_alike_202 N (g_R_alike_118 N n) v0 v1 v2 v3 x6 (((60 : Int32) * v1) + x6) v6_16 x19 h)
        else
          g_R_alike_202 N (g_R_alike_118 N n) v0 v1 v2 v3 x6 (((60 : Int32) * v1) + x6) v6_16 (4 : Int32) h)
      else
        some false
set_option maxRecDepth 10000 in
def g_R_alike_4 (N : Nat) : Nat → Nat → Int32 → Int32 → Int32 → (Nat → Option JCell) → Option Bool
  | 0, _, _, _, _, _ => none
  | n + 1, v0, v1, v2, v3, h =>
    obd (jgA h v0 9 20) fun x1 =>
    obd x1 fun a2 =>
    obd (jaI h a2 v2) fun x3 =>
    if (((3 : Int32) * v2) + x3) ≤ v3 then (
      g_R_alike_118 N N v0 v1 v2 (0 : Int32) h)
    else
      obd (jgA h v0 9 23) fun x4 =>
      obd x4 fun a5 =>
      obd (jaI h a5 v3) fun x6 =>
      g_R_alike_37 N (g_R_alike_4 N n) N v0 v1 v2 v3 (((60 : Int32) * v1) + v3) x6 (0 : Int32) h
set_option maxRecDepth 10000 in
def g_R_alike (N : Nat) (v0 : Nat) (v1 : Int32) (v2 : Int32)  (h : Nat → Option JCell) : Option Bool :=
  g_R_alike_4 N N v0 v1 v2 ((3 : Int32) * v2) h
/-! FilterBenchModel.same(I)Z -/
set_option maxRecDepth 10000 in
def g_R_same_12 (N : Nat) (B : Nat) : Nat → Nat → Int32 → Int32 → JMem → Option (Bool × JMem)
  | 0, _, _, _, _ => none
  | n + 1, v0, v1, v2, μ =>
    obd (jgI μ.1 v0 9 42) fun x1 =>
    if x1 ≤ v2 then (
      some (true, μ))
    else
      obd (jgA μ.1 v0 9 43) fun x2 =>
      obd x2 fun a3 =>
      obd (jaI μ.1 a3 v2) fun x4 =>
      jgd (jobC 9 (μ.1 v0)) <|
      obd (g_R_alike N v0 v1 x4 μ.1) fun x6 =>
      if x6 = true then (
        g_R_same_12 N B n v0 v1 (v2 + 1) μ)
      else
        some (false, μ)
set_option maxRecDepth 10000 in
def g_R_same (N : Nat) (B : Nat) (v0 : Nat) (v1 : Int32)  (μ : JMem) : Option (Bool × JMem) :=
  jgd (jobC 9 (μ.1 v0)) <|
  jbd2 (g_R_isKept N B v0 v1 μ) fun x2 μ3 =>
  if x2 = true then (
    g_R_same_12 N B N v0 v1 (0 : Int32) μ3)
  else
    some (false, μ3)
/-! FilterBenchModel.against(DD)I -/
set_option maxRecDepth 10000 in
def g_R_against (v0 : UInt64) (v2 : UInt64)  : Option Int32 :=
  obd (jnD (FP.dadd (0x3ff0000000000000 : UInt64) v2)) fun x1 =>
  if (Op.cmpValue (FP.dcmp v0 x1) .l) = 0 then (
    obd (jnD (FP.dsub x1 (0x3ff0000000000000 : UInt64))) fun x2 =>
    obd (jnD (FP.dsub x1 x2)) fun x3 =>
    obd (jnD (FP.dsub (0x3ff0000000000000 : UInt64) x3)) fun x4 =>
    obd (jnD (FP.dsub v2 x2)) fun x5 =>
    obd (jnD (FP.dadd x4 x5)) fun x6 =>
    if (Op.cmpValue (FP.dcmp x6 (0 : UInt64)) .l) ≤ 0 then (
      if 0 ≤ (Op.cmpValue (FP.dcmp x6 (0 : UInt64)) .g) then (
        some (0 : Int32))
      else
        some (1 : Int32))
    else
      some (-1 : Int32))
  else
    if 0 ≤ (Op.cmpValue (FP.dcmp v0 x1) .g) then (
      some (1 : Int32))
    else
      some (-1 : Int32)
/-! FilterBenchModel.isFinite(D)Z -/
set_option maxRecDepth 10000 in
def g_R_isFinite (v0 : UInt64)  : Bool :=
  if (Op.cmpValue (FP.dcmp v0 (0xfff0000000000000 : UInt64)) .l) ≤ 0 then (
    false)
  else
    if 0 ≤ (Op.cmpValue (FP.dcmp v0 (0x7ff0000000000000 : UInt64)) .g) then (
      false)
    else
      true
/-! FilterBenchModel.poles(I)I -/
set_option maxRecDepth 10000 in
def g_R_poles_112 (v0 : Nat) (v2 : UInt64) (v4 : UInt64) (s0 : UInt64)  (h : Nat → Option JCell) : Option Int32 :=
  if (g_R_isFinite v4) = true then (
    if (g_R_isFinite s0) = true then (
      jgd (jobC 9 (h v0)) <|
      obd (g_R_sizeOf v0 (0 : Int32) v4) fun x2 =>
      obd (jnD (FP.ddiv x2 v2)) fun x3 =>
      obd (jnD (FP.ddiv s0 v2)) fun x4 =>
      if 0 < (Op.cmpValue (FP.dcmp x4 (0x3ff0000000000000 : UInt64)) .l) then (
        some (0 : Int32))
      else
        if 0 ≤ (Op.cmpValue (FP.dcmp x4 (0xbff0000000000000 : UInt64)) .g) then (
          obd (g_R_against x3 x4) fun x5 =>
          if x5 ≤ 0 then (
            if 0 ≤ x5 then (
              some (2 : Int32))
            else
              if 0 ≤ (Op.cmpValue (FP.dcmp x4 (0x3ff0000000000000 : UInt64)) .g) then (
                some (2 : Int32))
              else
                if (Op.cmpValue (FP.dcmp x4 (0xbff0000000000000 : UInt64)) .l) ≤ 0 then (
                  some (2 : Int32))
                else
                  some (1 : Int32))
          else
            some (0 : Int32))
        else
          some (0 : Int32))
    else
      some (0 : Int32))
  else
    some (0 : Int32)
set_option maxRecDepth 10000 in
def g_R_poles_86 (v0 : Nat) (v1 : Int32) (v2 : UInt64) (s0 : UInt64)  (h : Nat → Option JCell) : Option Int32 :=
  obd (jgA h v0 9 2) fun x1 =>
  obd x1 fun a2 =>
  obd (jaI h a2 v1) fun x3 =>
  if (g_R_in x3 (2 : Int32) (4 : Int32)) = true then (
    jgd (jobC 9 (h v0)) <|
    obd (g_R_c v0 v1 (4 : Int32) h) fun x5 =>
    g_R_poles_112 v0 v2 s0 x5 h)
  else
    g_R_poles_112 v0 v2 s0 (0 : UInt64) h
set_option maxRecDepth 10000 in
def g_R_poles_41 (v0 : Nat) (v1 : Int32) (s0 : UInt64)  (h : Nat → Option JCell) : Option Int32 :=
  obd (jgA h v0 9 2) fun x1 =>
  obd x1 fun a2 =>
  obd (jaI h a2 v1) fun x3 =>
  if x3 = (1 : Int32) then (
    jgd (jobC 9 (h v0)) <|
    obd (g_R_c v0 v1 (1 : Int32) h) fun x5 =>
    g_R_poles_86 v0 v1 s0 x5 h)
  else
    obd (jgA h v0 9 2) fun x6 =>
    obd x6 fun a7 =>
    obd (jaI h a7 v1) fun x8 =>
    if x8 = (5 : Int32) then (
      jgd (jobC 9 (h v0)) <|
      obd (g_R_c v0 v1 (0 : Int32) h) fun x10 =>
      g_R_poles_86 v0 v1 s0 x10 h)
    else
      jgd (jobC 9 (h v0)) <|
      obd (g_R_c v0 v1 (3 : Int32) h) fun x12 =>
      g_R_poles_86 v0 v1 s0 x12 h
set_option maxRecDepth 10000 in
def g_R_poles (v0 : Nat) (v1 : Int32)  (h : Nat → Option JCell) : Option Int32 :=
  jgd (jobC 9 (h v0)) <|
  obd (g_R_isSection v0 v1 h) fun x2 =>
  if x2 = true then (
    obd (jgA h v0 9 2) fun x3 =>
    obd x3 fun a4 =>
    obd (jaI h a4 v1) fun x5 =>
    if (g_R_in x5 (1 : Int32) (5 : Int32)) = true then (
      obd (jgA h v0 9 3) fun x6 =>
      obd x6 fun a7 =>
      obd (jaI h a7 v1) fun x8 =>
      if x8 = (2 : Int32) then (
        g_R_poles_41 v0 v1 (0x40d0000000000000 : UInt64) h)
      else
        g_R_poles_41 v0 v1 (0x3ff0000000000000 : UInt64) h)
    else
      some (-1 : Int32))
  else
    some (-1 : Int32)
/-! FilterBenchModel.finds(I)V -/
set_option maxRecDepth 10000 in
def g_R_finds_98 (N : Nat) (B : Nat) (k7 : Nat → Int32 → Int32 → JMem → Option JMem) (v0 : Nat) (v1 : Int32) (v2 : Int32) (s0 : Int32) (s1 : Int32) (s2 : Option Nat)  (μ : JMem) : Option JMem :=
  obd s2 fun a1 =>
  obd (jpA B .int a1 s1 (.int s0) μ) fun μ2 =>
  obd (jgA μ2.1 v0 9 57) fun x3 =>
  obd x3 fun a4 =>
  obd (jpA B .int a4 v2 (.int (0 : Int32)) μ2) fun μ5 =>
  k7 v0 v1 (v2 + 1) μ5
set_option maxRecDepth 10000 in
def g_R_finds_56 (N : Nat) (B : Nat) (k7 : Nat → Int32 → Int32 → JMem → Option JMem) (v0 : Nat) (v1 : Int32) (v2 : Int32) (s0 : Int64)  (μ : JMem) : Option JMem :=
  obd (jgA μ.1 v0 9 56) fun x1 =>
  if (g_R_isValue (2 : Int32) s0) = true then (
    g_R_finds_98 N B k7 v0 v1 v2 ((Int64.toInt32 s0) + (32768 : Int32)) v2 x1 μ)
  else
    obd (jgA μ.1 v0 9 6) fun x2 =>
    obd x2 fun a3 =>
    obd (jaI μ.1 a3 v1) fun x4 =>
    g_R_finds_98 N B k7 v0 v1 v2 ((FP.d2i (g_R_cut s0 x4)) + (32768 : Int32)) v2 x1 μ
set_option maxRecDepth 10000 in
def g_R_finds_238 (N : Nat) (B : Nat) (k114 : Nat → Int32 → JMem → Option JMem) (k194 : Nat → Int32 → Int32 → Int32 → Int32 → Int32 → Int32 → Bool → JMem → Option JMem) (v0 : Nat) (v2 : Int32) (v3 : Int32) (v4 : Int32) (v5 : Int32) (v6 : Int32) (v7 : Int32) (s0 : Bool)  (μ : JMem) : Option JMem :=
  k194 v0 v2 v3 v4 v5 v6 v7 s0 μ
set_option maxRecDepth 10000 in
def g_R_finds_213 (N : Nat) (B : Nat) (k114 : Nat → Int32 → JMem → Option JMem) (k194 : Nat → Int32 → Int32 → Int32 → Int32 → Int32 → Int32 → Bool → JMem → Option JMem) (v0 : Nat) (v2 : Int32) (v3 : Int32) (v4 : Int32) (v5 : Int32) (v7 : Int32) (s0 : Int32)  (μ : JMem) : Option JMem :=
  obd (jgA μ.1 v0 9 56) fun x1 =>
  obd x1 fun a2 =>
  obd (jaI μ.1 a2 v7) fun x3 =>
  if x3 = v3 then (
    g_R_finds_238 N B k114 k194 v0 v2 v3 v4 (v5 + 1) s0 x3 false μ)
  else
    g_R_finds_238 N B k114 k194 v0 v2 v3 v4 (v5 + 1) s0 x3 true μ
set_option maxRecDepth 10000 in
def g_R_finds_277 (N : Nat) (B : Nat) (k114 : Nat → Int32 → JMem → Option JMem) : Nat → Nat → Int32 → Int32 → Int32 → JMem → Option JMem
  | 0, _, _, _, _, _ => none
  | n + 1, v0, v2, v3, v4, μ =>
    obd (jgA μ.1 v0 9 57) fun x1 =>
    obd x1 fun a2 =>
    obd (jaI μ.1 a2 v3) fun x3 =>
    if x3 = ((-1 : Int32) - v2) then (
      obd (jgA μ.1 v0 9 57) fun x4 =>
      obd x4 fun a5 =>
      obd (jpA B .int a5 v3 (.int v4) μ) fun μ6 =>
      obd (jgA μ6.1 v0 9 60) fun x7 =>
      obd x7 fun a8 =>
      obd (jaI μ6.1 a8 (v4 - (1 : Int32))) fun x9 =>
      obd (jpA B .int a8 (v4 - (1 : Int32)) (.int (x9 + (1 : Int32))) μ6) fun μ10 =>
      obd (jgA μ10.1 v0 9 56) fun x11 =>
      obd x11 fun a12 =>
      obd (jaI μ10.1 a12 v3) fun x13 =>
      g_R_finds_277 N B k114 n v0 v2 x13 v4 μ10)
    else
      k114 v0 (v2 + 1) μ
set_option maxRecDepth 10000 in
def g_R_finds_275 (N : Nat) (B : Nat) (k114 : Nat → Int32 → JMem → Option JMem) (v0 : Nat) (v2 : Int32) (v4 : Int32)  (μ : JMem) : Option JMem :=
  g_R_finds_277 N B k114 N v0 v2 v2 v4 μ
set_option maxRecDepth 10000 in
def g_R_finds_194 (N : Nat) (B : Nat) (k114 : Nat → Int32 → JMem → Option JMem) : Nat → Nat → Int32 → Int32 → Int32 → Int32 → Int32 → Int32 → Bool → JMem → Option JMem
  | 0, _, _, _, _, _, _, _, _, _ => none
  | n + 1, v0, v2, v3, v4, v5, v6, v7, v8, μ =>
    if v8 = true then (
      if v6 ≤ v7 then (
        g_R_finds_213 N B k114 (g_R_finds_194 N B k114 n) v0 v2 v3 v4 v5 v7 v6 μ)
      else
        g_R_finds_213 N B k114 (g_R_finds_194 N B k114 n) v0 v2 v3 v4 v5 v7 v7 μ)
    else
      obd (jgA μ.1 v0 9 58) fun x1 =>
      obd x1 fun a2 =>
      obd (jpA B .int a2 (v4 - (1 : Int32)) (.int v6) μ) fun μ3 =>
      obd (jgA μ3.1 v0 9 59) fun x4 =>
      obd x4 fun a5 =>
      obd (jpA B .int a5 (v4 - (1 : Int32)) (.int v5) μ3) fun μ6 =>
      obd (jgA μ6.1 v0 9 60) fun x7 =>
      obd x7 fun a8 =>
      obd (jpA B .int a8 (v4 - (1 : Int32)) (.int (0 : Int32)) μ6) fun μ9 =>
      g_R_finds_275 N B k114 v0 v2 v4 μ9
set_option maxRecDepth 10000 in
def g_R_finds_122 (N : Nat) (B : Nat) (k114 : Nat → Int32 → JMem → Option JMem) : Nat → Nat → Int32 → Int32 → JMem → Option JMem
  | 0, _, _, _, _ => none
  | n + 1, v0, v2, v3, μ =>
    obd (jgA μ.1 v0 9 57) fun x1 =>
    obd x1 fun a2 =>
    obd (jaI μ.1 a2 v3) fun x3 =>
    if x3 = 0 then (
      obd (jgA μ.1 v0 9 57) fun x4 =>
      obd x4 fun a5 =>
      obd (jpA B .int a5 v3 (.int ((-1 : Int32) - v2)) μ) fun μ6 =>
      obd (jgA μ6.1 v0 9 56) fun x7 =>
      obd x7 fun a8 =>
      obd (jaI μ6.1 a8 v3) fun x9 =>
      g_R_finds_122 N B k114 n v0 v2 x9 μ6)
    else
      obd (jgA μ.1 v0 9 57) fun x10 =>
      obd x10 fun a11 =>
      obd (jaI μ.1 a11 v3) fun x12 =>
      if x12 = ((-1 : Int32) - v2) then (
        obd (jgI μ.1 v0 9 55) fun x13 =>
        obd (jpF B 9 55 v0 (.int (x13 + (1 : Int32))) μ) fun μ14 =>
        obd (jgI μ14.1 v0 9 55) fun x15 =>
        g_R_finds_194 N B k114 N v0 v2 v3 x15 (0 : Int32) v3 v3 true μ14)
      else
        g_R_finds_275 N B k114 v0 v2 x12 μ
set_option maxRecDepth 10000 in
def g_R_finds_114 (N : Nat) (B : Nat) : Nat → Nat → Int32 → JMem → Option JMem
  | 0, _, _, _ => none
  | n + 1, v0, v2, μ =>
    if (65536 : Int32) ≤ v2 then (
      some μ)
    else
      g_R_finds_122 N B (g_R_finds_114 N B n) N v0 v2 v2 μ
set_option maxRecDepth 10000 in
def g_R_finds_7 (N : Nat) (B : Nat) : Nat → Nat → Int32 → Int32 → JMem → Option JMem
  | 0, _, _, _, _ => none
  | n + 1, v0, v1, v2, μ =>
    if (65536 : Int32) ≤ v2 then (
      g_R_finds_114 N B N v0 (0 : Int32) μ)
    else
      jgd (jobC 9 (μ.1 v0)) <|
      obd (g_R_c v0 v1 (1 : Int32) μ.1) fun x2 =>
      jlet ((FP.d2l x2) * (Int32.toInt64 (v2 - (32768 : Int32)))) fun (v3_3 : Int64) =>
      obd (jgA μ.1 v0 9 5) fun x4 =>
      obd x4 fun a5 =>
      obd (jaI μ.1 a5 v1) fun x6 =>
      if x6 = 0 then (
        obd (g_R_floor (v3_3 + (8192 : Int64)) (16384 : Int64)) fun x7 =>
        g_R_finds_56 N B (g_R_finds_7 N B n) v0 v1 v2 x7 μ)
      else
        g_R_finds_56 N B (g_R_finds_7 N B n) v0 v1 v2 (v3_3 / (16384 : Int64)) μ
set_option maxRecDepth 10000 in
def g_R_finds (N : Nat) (B : Nat) (v0 : Nat) (v1 : Int32)  (μ : JMem) : Option JMem :=
  obd (jpF B 9 55 v0 (.int (0 : Int32)) μ) fun μ1 =>
  g_R_finds_7 N B N v0 v1 (0 : Int32) μ1
/-! FilterBenchModel.isDead(I)Z -/
set_option maxRecDepth 10000 in
def g_R_isDead (v0 : Nat) (v1 : Int32)  (h : Nat → Option JCell) : Option Bool :=
  jgd (jobC 9 (h v0)) <|
  obd (g_R_isSection v0 v1 h) fun x2 =>
  if x2 = true then (
    obd (jgA h v0 9 2) fun x3 =>
    obd x3 fun a4 =>
    obd (jaI h a4 v1) fun x5 =>
    if x5 = (1 : Int32) then (
      obd (jgA h v0 9 3) fun x6 =>
      obd x6 fun a7 =>
      obd (jaI h a7 v1) fun x8 =>
      if x8 = (2 : Int32) then (
        obd (jgA h v0 9 5) fun x9 =>
        obd x9 fun a10 =>
        obd (jaI h a10 v1) fun x11 =>
        if (2 : Int32) ≤ x11 then (
          some false)
        else
          some true)
      else
        some false)
    else
      some false)
  else
    some false
/-! FilterBenchModel.cycles(I)I -/
set_option maxRecDepth 10000 in
def g_R_cycles (N : Nat) (B : Nat) (v0 : Nat) (v1 : Int32)  (μ : JMem) : Option (Int32 × JMem) :=
  jgd (jobC 9 (μ.1 v0)) <|
  obd (g_R_isDead v0 v1 μ.1) fun x2 =>
  if x2 = true then (
    jgd (jobC 9 (μ.1 v0)) <|
    obd (g_R_finds N B v0 v1 μ) fun μ4 =>
    obd (jgI μ4.1 v0 9 55) fun x5 =>
    some (x5, μ4))
  else
    some ((-1 : Int32), μ)
/-! FilterBenchModel.cycle(III)I -/
set_option maxRecDepth 10000 in
def g_R_cycle_94 (N : Nat) (B : Nat) (k40 : Nat → Int32 → Int32 → Int32 → Int32 → JMem → Option (Int32 × JMem)) (v0 : Nat) (v3 : Int32) (v4 : Int32) (v5 : Int32) (v6 : Int32)  (μ : JMem) : Option (Int32 × JMem) :=
  k40 v0 v3 v4 v5 (v6 + 1) μ
set_option maxRecDepth 10000 in
def g_R_cycle_91 (N : Nat) (B : Nat) (k40 : Nat → Int32 → Int32 → Int32 → Int32 → JMem → Option (Int32 × JMem)) (v0 : Nat) (v3 : Int32) (v4 : Int32) (v5 : Int32) (v6 : Int32)  (μ : JMem) : Option (Int32 × JMem) :=
  g_R_cycle_94 N B k40 v0 v3 v4 (v5 + (-1)) v6 μ
set_option maxRecDepth 10000 in
def g_R_cycle_100 (N : Nat) (B : Nat) (v0 : Nat) (v3 : Int32) (v4 : Int32)  (μ : JMem) : Option (Int32 × JMem) :=
  if v3 = 0 then (
    obd (jgA μ.1 v0 9 58) fun x1 =>
    obd x1 fun a2 =>
    obd (jaI μ.1 a2 v4) fun x3 =>
    some ((x3 - (32768 : Int32)), μ))
  else
    if v3 = (1 : Int32) then (
      obd (jgA μ.1 v0 9 59) fun x4 =>
      obd x4 fun a5 =>
      obd (jaI μ.1 a5 v4) fun x6 =>
      some (x6, μ))
    else
      if v3 = (2 : Int32) then (
        obd (jgA μ.1 v0 9 60) fun x7 =>
        obd x7 fun a8 =>
        obd (jaI μ.1 a8 v4) fun x9 =>
        some (x9, μ))
      else
        some ((0 : Int32), μ)
set_option maxRecDepth 10000 in
def g_R_cycle_40 (N : Nat) (B : Nat) : Nat → Nat → Int32 → Int32 → Int32 → Int32 → JMem → Option (Int32 × JMem)
  | 0, _, _, _, _, _, _ => none
  | n + 1, v0, v3, v4, v5, v6, μ =>
    if (65536 : Int32) ≤ v6 then (
      g_R_cycle_100 N B v0 v3 v4 μ)
    else
      if v4 = (-1 : Int32) then (
        obd (jgA μ.1 v0 9 58) fun x1 =>
        obd (jgA μ.1 v0 9 57) fun x2 =>
        obd x2 fun a3 =>
        obd (jaI μ.1 a3 v6) fun x4 =>
        obd x1 fun a5 =>
        obd (jaI μ.1 a5 (x4 - (1 : Int32))) fun x6 =>
        if x6 = v6 then (
          if v5 = 0 then (
            obd (jgA μ.1 v0 9 57) fun x7 =>
            obd x7 fun a8 =>
            obd (jaI μ.1 a8 v6) fun x9 =>
            g_R_cycle_91 N B (g_R_cycle_40 N B n) v0 v3 (x9 - (1 : Int32)) v5 v6 μ)
          else
            g_R_cycle_91 N B (g_R_cycle_40 N B n) v0 v3 v4 v5 v6 μ)
        else
          g_R_cycle_94 N B (g_R_cycle_40 N B n) v0 v3 v4 v5 v6 μ)
      else
        g_R_cycle_100 N B v0 v3 v4 μ
set_option maxRecDepth 10000 in
def g_R_cycle (N : Nat) (B : Nat) (v0 : Nat) (v1 : Int32) (v2 : Int32) (v3 : Int32)  (μ : JMem) : Option (Int32 × JMem) :=
  jgd (jobC 9 (μ.1 v0)) <|
  obd (g_R_isDead v0 v1 μ.1) fun x2 =>
  if x2 = true then (
    jgd (jobC 9 (μ.1 v0)) <|
    obd (g_R_finds N B v0 v1 μ) fun μ4 =>
    obd (jgI μ4.1 v0 9 55) fun x5 =>
    if (g_R_in v2 (0 : Int32) (x5 - (1 : Int32))) = true then (
      g_R_cycle_40 N B N v0 v3 (-1 : Int32) v2 (0 : Int32) μ4)
    else
      some ((0 : Int32), μ4))
  else
    some ((0 : Int32), μ)
/-! FilterBenchModel.turned(DIIZ)D -/
set_option maxRecDepth 10000 in
def g_R_turned_172 (v9 : UInt64)  : Option UInt64 :=
  if (Op.cmpValue (FP.dcmp v9 (0xc0e0000000000000 : UInt64)) .l) < 0 then (
    some (0x40e3880000000000 : UInt64))
  else
    if 0 < (Op.cmpValue (FP.dcmp v9 (0x40dfffc000000000 : UInt64)) .g) then (
      some (0x40e3880000000000 : UInt64))
    else
      obd (jnD (FP.dadd v9 (0 : UInt64))) fun x1 =>
      some x1
set_option maxRecDepth 10000 in
def g_R_turned_166 (v9 : UInt64)  : Option UInt64 :=
  obd (jnD (FP.dadd v9 (0x3ff0000000000000 : UInt64))) fun x1 =>
  g_R_turned_172 x1
set_option maxRecDepth 10000 in
def g_R_turned_141 (v9 : UInt64) (v11 : UInt64) (s0 : Bool)  : Option UInt64 :=
  if 0 < (Op.cmpValue (FP.dcmp v11 (0x3fe0000000000000 : UInt64)) .l) then (
    g_R_turned_166 v9)
  else
    if (Op.cmpValue (FP.dcmp v11 (0x3fe0000000000000 : UInt64)) .l) = 0 then (
      if s0 = true then (
        g_R_turned_166 v9)
      else
        g_R_turned_172 v9)
    else
      g_R_turned_172 v9
set_option maxRecDepth 10000 in
def g_R_turned_119 (v7 : UInt64) (v9 : UInt64)  : Option UInt64 :=
  obd (jnD (FP.dsub v7 v9)) fun x1 =>
  if ((FP.d2l v9) &&& (1 : Int64)) = (1 : Int64) then (
    g_R_turned_141 v9 x1 true)
  else
    g_R_turned_141 v9 x1 false
set_option maxRecDepth 10000 in
def g_R_turned_75 (s0 : UInt64)  : Option UInt64 :=
  if (Op.cmpValue (FP.dcmp s0 (0xc0e3880000000000 : UInt64)) .l) ≤ 0 then (
    some (0x40e3880000000000 : UInt64))
  else
    if (Op.cmpValue (FP.dcmp s0 (0x40e3880000000000 : UInt64)) .g) < 0 then (
      if (Op.cmpValue (FP.dcmp (FP.l2d (FP.d2l s0)) s0) .l) ≤ 0 then (
        g_R_turned_119 s0 (FP.l2d (FP.d2l s0)))
      else
        obd (jnD (FP.dsub (FP.l2d (FP.d2l s0)) (0x3ff0000000000000 : UInt64))) fun x1 =>
        g_R_turned_119 s0 x1)
    else
      some (0x40e3880000000000 : UInt64)
set_option maxRecDepth 10000 in
def g_R_turned_40 (v3 : Int32) (v4 : Bool) (s0 : UInt64)  : Option UInt64 :=
  if v3 = 0 then (
    some s0)
  else
    if v3 = (1 : Int32) then (
      obd (jnF (FP.d2f s0)) fun x1 =>
      obd (jnD (FP.f2d x1)) fun x2 =>
      some x2)
    else
      if v4 = true then (
        g_R_turned_75 s0)
      else
        obd (jnD (FP.dmul (0x40d0000000000000 : UInt64) s0)) fun x3 =>
        g_R_turned_75 x3
set_option maxRecDepth 10000 in
def g_R_turned_39 (v0 : UInt64) (v3 : Int32) (v4 : Bool)  : Option UInt64 :=
  g_R_turned_40 v3 v4 v0
set_option maxRecDepth 10000 in
def g_R_turned (v0 : UInt64) (v2 : Int32) (v3 : Int32) (v4 : Bool)  : Option UInt64 :=
  if (Op.cmpValue (FP.dcmp v0 v0) .l) = 0 then (
    if v2 = (2 : Int32) then (
      if v4 = true then (
        g_R_turned_39 v0 v3 v4)
      else
        obd (jnD (FP.ddiv v0 (0x40d0000000000000 : UInt64))) fun x1 =>
        g_R_turned_40 v3 v4 x1)
    else
      g_R_turned_39 v0 v3 v4)
  else
    if v3 = (2 : Int32) then (
      some (0x40e3880000000000 : UInt64))
    else
      some (0x7ff8000000000000 : UInt64)
/-! FilterBenchModel.gathers(III)I -/
set_option maxRecDepth 10000 in
def g_R_gathers_55 (N : Nat) (B : Nat) : Nat → Nat → Int32 → Int32 → Int32 → Int32 → Int32 → JMem → Option (Int32 × JMem)
  | 0, _, _, _, _, _, _, _ => none
  | n + 1, v0, v1, v2, v3, v4, v5, μ =>
    obd (jgA μ.1 v0 9 20) fun x1 =>
    obd x1 fun a2 =>
    obd (jaI μ.1 a2 v1) fun x3 =>
    if (((3 : Int32) * v1) + x3) ≤ v5 then (
      some (v4, μ))
    else
      obd (jgA μ.1 v0 9 22) fun x4 =>
      obd x4 fun a5 =>
      obd (jaI μ.1 a5 v5) fun x6 =>
      obd (jgA μ.1 v0 9 21) fun x7 =>
      obd x7 fun a8 =>
      obd (jaI μ.1 a8 v5) fun x9 =>
      obd (jgA μ.1 v0 9 23) fun x10 =>
      obd x10 fun a11 =>
      obd (jaI μ.1 a11 v5) fun x12 =>
      obd (jgA μ.1 v0 9 24) fun x13 =>
      obd x13 fun a14 =>
      obd (jaD μ.1 a14 v5) fun x15 =>
      obd (g_R_turned x15 v2 v3 false) fun x16 =>
      jgd (jobC 9 (μ.1 v0)) <|
      jbd2 (g_R_newLoop N B v0 v4 x6 x9 x12 x16 μ) fun x18 μ19 =>
      g_R_gathers_55 N B n v0 v1 v2 v3 v4 (v5 + 1) μ19
set_option maxRecDepth 10000 in
def g_R_gathers_9 (N : Nat) (B : Nat) : Nat → Nat → Int32 → Int32 → Int32 → Int32 → Int32 → JMem → Option (Int32 × JMem)
  | 0, _, _, _, _, _, _, _ => none
  | n + 1, v0, v1, v2, v3, v4, v5, μ =>
    obd (jgA μ.1 v0 9 17) fun x1 =>
    obd x1 fun a2 =>
    obd (jaI μ.1 a2 v1) fun x3 =>
    if x3 ≤ v5 then (
      g_R_gathers_55 N B N v0 v1 v2 v3 v4 ((3 : Int32) * v1) μ)
    else
      obd (jgA μ.1 v0 9 64) fun x4 =>
      obd (jgA μ.1 v0 9 18) fun x5 =>
      obd x5 fun a6 =>
      obd (jaI μ.1 a6 (((10 : Int32) * v1) + v5)) fun x7 =>
      obd x4 fun a8 =>
      obd (jaI μ.1 a8 x7) fun x9 =>
      jgd (jobC 9 (μ.1 v0)) <|
      jbd2 (g_R_join B v0 v4 x9 μ) fun x11 μ12 =>
      g_R_gathers_9 N B n v0 v1 v2 v3 v4 (v5 + 1) μ12
set_option maxRecDepth 10000 in
def g_R_gathers (N : Nat) (B : Nat) (v0 : Nat) (v1 : Int32) (v2 : Int32) (v3 : Int32)  (μ : JMem) : Option (Int32 × JMem) :=
  jgd (jobC 9 (μ.1 v0)) <|
  jbd2 (g_R_newChain B v0 μ) fun x2 μ3 =>
  g_R_gathers_9 N B N v0 v1 v2 v3 x2 (0 : Int32) μ3
/-! FilterBenchModel.anew(II)I -/
set_option maxRecDepth 10000 in
def g_R_anew_295 (N : Nat) (B : Nat) (k47 : Nat → Int32 → Int32 → Int32 → Int32 → JMem → Option (Int32 × JMem)) (v0 : Nat) (v1 : Int32) (v2 : Int32) (v3 : Int32) (v4 : Int32) (v7 : Int32) (v8 : Int32)  (μ : JMem) : Option (Int32 × JMem) :=
  obd (jgA μ.1 v0 9 64) fun x1 =>
  obd x1 fun a2 =>
  obd (jpA B .int a2 v7 (.int v8) μ) fun μ3 =>
  obd (jgA μ3.1 v0 9 67) fun x4 =>
  obd x4 fun a5 =>
  obd (jaI μ3.1 a5 (v4 - (1 : Int32))) fun x6 =>
  obd (jpA B .int a5 (v4 - (1 : Int32)) (.int (x6 + (1 : Int32))) μ3) fun μ7 =>
  obd (jgA μ7.1 v0 9 10) fun x8 =>
  obd x8 fun a9 =>
  obd (jaI μ7.1 a9 v7) fun x10 =>
  if x10 = (-1 : Int32) then (
    k47 v0 v1 v2 v3 v4 μ7)
  else
    obd (jgA μ7.1 v0 9 10) fun x11 =>
    obd (jgA μ7.1 v0 9 65) fun x12 =>
    obd (jgA μ7.1 v0 9 10) fun x13 =>
    obd x13 fun a14 =>
    obd (jaI μ7.1 a14 v7) fun x15 =>
    obd x12 fun a16 =>
    obd (jaI μ7.1 a16 x15) fun x17 =>
    obd x11 fun a18 =>
    obd (jpA B .int a18 v8 (.int x17) μ7) fun μ19 =>
    obd (jgA μ19.1 v0 9 19) fun x20 =>
    obd (jgA μ19.1 v0 9 10) fun x21 =>
    obd x21 fun a22 =>
    obd (jaI μ19.1 a22 v8) fun x23 =>
    obd x20 fun a24 =>
    obd (jpA B .int a24 x23 (.int v8) μ19) fun μ25 =>
    k47 v0 v1 v2 v3 v4 μ25
set_option maxRecDepth 10000 in
def g_R_anew_201 (N : Nat) (B : Nat) (k47 : Nat → Int32 → Int32 → Int32 → Int32 → JMem → Option (Int32 × JMem)) : Nat → Nat → Int32 → Int32 → Int32 → Int32 → Int32 → Int32 → Int32 → JMem → Option (Int32 × JMem)
  | 0, _, _, _, _, _, _, _, _, _ => none
  | n + 1, v0, v1, v2, v3, v4, v7, v8, v9, μ =>
    obd (jgA μ.1 v0 9 2) fun x1 =>
    obd x1 fun a2 =>
    obd (jaI μ.1 a2 v7) fun x3 =>
    if (g_R_coefficientsOf x3) ≤ v9 then (
      if v3 = (2 : Int32) then (
        if v2 = (2 : Int32) then (
          obd (jgA μ.1 v0 9 5) fun x4 =>
          obd (jgA μ.1 v0 9 5) fun x5 =>
          obd x5 fun a6 =>
          obd (jaI μ.1 a6 v7) fun x7 =>
          obd x4 fun a8 =>
          obd (jpA B .int a8 v8 (.int x7) μ) fun μ9 =>
          obd (jgA μ9.1 v0 9 6) fun x10 =>
          obd (jgA μ9.1 v0 9 6) fun x11 =>
          obd x11 fun a12 =>
          obd (jaI μ9.1 a12 v7) fun x13 =>
          obd x10 fun a14 =>
          obd (jpA B .int a14 v8 (.int x13) μ9) fun μ15 =>
          g_R_anew_295 N B k47 v0 v1 v2 v3 v4 v7 v8 μ15)
        else
          g_R_anew_295 N B k47 v0 v1 v2 v3 v4 v7 v8 μ)
      else
        g_R_anew_295 N B k47 v0 v1 v2 v3 v4 v7 v8 μ)
    else
      obd (jgA μ.1 v0 9 7) fun x16 =>
      jgd (jobC 9 (μ.1 v0)) <|
      obd (g_R_c v0 v7 v9 μ.1) fun x18 =>
      obd (jgA μ.1 v0 9 2) fun x19 =>
      obd x19 fun a20 =>
      obd (jaI μ.1 a20 v7) fun x21 =>
      obd (g_R_turned x18 v3 v2 (g_R_isPlain x21)) fun x22 =>
      obd x16 fun a23 =>
      obd (jpA B .double a23 (((5 : Int32) * v8) + v9) (.double x22) μ) fun μ24 =>
      g_R_anew_201 N B k47 n v0 v1 v2 v3 v4 v7 v8 (v9 + 1) μ24
set_option maxRecDepth 10000 in
def g_R_anew_177 (N : Nat) (B : Nat) (k47 : Nat → Int32 → Int32 → Int32 → Int32 → JMem → Option (Int32 × JMem)) (v0 : Nat) (v1 : Int32) (v2 : Int32) (v3 : Int32) (v4 : Int32) (v7 : Int32)  (μ : JMem) : Option (Int32 × JMem) :=
  obd (jgA μ.1 v0 9 2) fun x1 =>
  obd x1 fun a2 =>
  obd (jaI μ.1 a2 v7) fun x3 =>
  obd (jgA μ.1 v0 9 4) fun x4 =>
  obd x4 fun a5 =>
  obd (jaI μ.1 a5 v7) fun x6 =>
  jgd (jobC 9 (μ.1 v0)) <|
  jbd2 (g_R_newSection N B v0 x3 v2 x6 μ) fun x8 μ9 =>
  g_R_anew_201 N B k47 N v0 v1 v2 v3 v4 v7 x8 (0 : Int32) μ9
set_option maxRecDepth 10000 in
def g_R_anew_47 (N : Nat) (B : Nat) : Nat → Nat → Int32 → Int32 → Int32 → Int32 → JMem → Option (Int32 × JMem)
  | 0, _, _, _, _, _, _ => none
  | n + 1, v0, v1, v2, v3, v4, μ =>
    if v4 ≤ 0 then (
      obd (jgA μ.1 v0 9 65) fun x1 =>
      obd x1 fun a2 =>
      obd (jaI μ.1 a2 v1) fun x3 =>
      some (x3, μ))
    else
      obd (jgA μ.1 v0 9 66) fun x4 =>
      obd x4 fun a5 =>
      obd (jaI μ.1 a5 (v4 - (1 : Int32))) fun x6 =>
      obd (jgA μ.1 v0 9 67) fun x7 =>
      obd x7 fun a8 =>
      obd (jaI μ.1 a8 (v4 - (1 : Int32))) fun x9 =>
      obd (jgA μ.1 v0 9 17) fun x10 =>
      obd x10 fun a11 =>
      obd (jaI μ.1 a11 x6) fun x12 =>
      if x9 = x12 then (
        obd (jgA μ.1 v0 9 65) fun x13 =>
        jgd (jobC 9 (μ.1 v0)) <|
        jbd2 (g_R_gathers N B v0 x6 v3 v2 μ) fun x15 μ16 =>
        obd x13 fun a17 =>
        obd (jpA B .int a17 x6 (.int x15) μ16) fun μ18 =>
        g_R_anew_47 N B n v0 v1 v2 v3 (v4 + (-1)) μ18)
      else
        obd (jgA μ.1 v0 9 18) fun x19 =>
        obd x19 fun a20 =>
        obd (jaI μ.1 a20 (((10 : Int32) * x6) + x9)) fun x21 =>
        obd (jgA μ.1 v0 9 10) fun x22 =>
        obd x22 fun a23 =>
        obd (jaI μ.1 a23 x21) fun x24 =>
        if x24 = (-1 : Int32) then (
          g_R_anew_177 N B (g_R_anew_47 N B n) v0 v1 v2 v3 v4 x21 μ)
        else
          obd (jgA μ.1 v0 9 65) fun x25 =>
          obd (jgA μ.1 v0 9 10) fun x26 =>
          obd x26 fun a27 =>
          obd (jaI μ.1 a27 x21) fun x28 =>
          obd x25 fun a29 =>
          obd (jaI μ.1 a29 x28) fun x30 =>
          if x30 = (-1 : Int32) then (
            obd (jgA μ.1 v0 9 66) fun x31 =>
            obd (jgA μ.1 v0 9 10) fun x32 =>
            obd x32 fun a33 =>
            obd (jaI μ.1 a33 x21) fun x34 =>
            obd x31 fun a35 =>
            obd (jpA B .int a35 v4 (.int x34) μ) fun μ36 =>
            obd (jgA μ36.1 v0 9 67) fun x37 =>
            obd x37 fun a38 =>
            obd (jpA B .int a38 v4 (.int (0 : Int32)) μ36) fun μ39 =>
            g_R_anew_47 N B n v0 v1 v2 v3 (v4 + 1) μ39)
          else
            g_R_anew_177 N B (g_R_anew_47 N B n) v0 v1 v2 v3 v4 x21 μ
set_option maxRecDepth 10000 in
def g_R_anew_9 (N : Nat) (B : Nat) : Nat → Nat → Int32 → Int32 → Int32 → Int32 → JMem → Option (Int32 × JMem)
  | 0, _, _, _, _, _, _ => none
  | n + 1, v0, v1, v2, v3, v4, μ =>
    if (20 : Int32) ≤ v4 then (
      obd (jgA μ.1 v0 9 66) fun x1 =>
      obd x1 fun a2 =>
      obd (jpA B .int a2 (0 : Int32) (.int v1) μ) fun μ3 =>
      obd (jgA μ3.1 v0 9 67) fun x4 =>
      obd x4 fun a5 =>
      obd (jpA B .int a5 (0 : Int32) (.int (0 : Int32)) μ3) fun μ6 =>
      g_R_anew_47 N B N v0 v1 v2 v3 (1 : Int32) μ6)
    else
      obd (jgA μ.1 v0 9 65) fun x7 =>
      obd x7 fun a8 =>
      obd (jpA B .int a8 v4 (.int (-1 : Int32)) μ) fun μ9 =>
      g_R_anew_9 N B n v0 v1 v2 v3 (v4 + 1) μ9
set_option maxRecDepth 10000 in
def g_R_anew (N : Nat) (B : Nat) (v0 : Nat) (v1 : Int32) (v2 : Int32)  (μ : JMem) : Option (Int32 × JMem) :=
  jgd (jobC 9 (μ.1 v0)) <|
  obd (g_R_sortOf v0 v1 μ.1) fun x2 =>
  g_R_anew_9 N B N v0 v1 v2 x2 (0 : Int32) μ
/-! FilterBenchModel.asks(II)V -/
set_option maxRecDepth 10000 in
def g_R_asks_74 (N : Nat) (B : Nat) (k21 : Nat → Int32 → Int32 → Int32 → Int32 → JMem → Option JMem) (v0 : Nat) (v1 : Int32) (v2 : Int32) (v3 : Int32) (v4 : Int32) (s0 : Bool) (s1 : Nat)  (μ : JMem) : Option JMem :=
  obd (jpF B 9 63 s1 (.int (jb s0)) μ) fun μ1 =>
  k21 v0 v1 v2 v3 (v4 + 1) μ1
set_option maxRecDepth 10000 in
def g_R_asks_69 (N : Nat) (B : Nat) (k21 : Nat → Int32 → Int32 → Int32 → Int32 → JMem → Option JMem) (v0 : Nat) (v1 : Int32) (v2 : Int32) (v3 : Int32) (v4 : Int32) (s0 : Nat)  (μ : JMem) : Option JMem :=
  g_R_asks_74 N B k21 v0 v1 v2 v3 v4 true s0 μ
set_option maxRecDepth 10000 in
def g_R_asks_73 (N : Nat) (B : Nat) (k21 : Nat → Int32 → Int32 → Int32 → Int32 → JMem → Option JMem) (v0 : Nat) (v1 : Int32) (v2 : Int32) (v3 : Int32) (v4 : Int32) (s0 : Nat)  (μ : JMem) : Option JMem :=
  g_R_asks_74 N B k21 v0 v1 v2 v3 v4 false s0 μ
set_option maxRecDepth 10000 in
def g_R_asks_187 (N : Nat) (B : Nat) (k86 : Nat → Int32 → Int32 → Int32 → Int32 → JMem → Option JMem) (k124 : Nat → Int32 → Int32 → Int32 → Int32 → Int32 → Int32 → JMem → Option JMem) (v0 : Nat) (v1 : Int32) (v2 : Int32) (v3 : Int32) (v4 : Int32) (v5 : Int32) (v6 : Int32) (s0 : Bool) (s1 : Nat)  (μ : JMem) : Option JMem :=
  obd (jpF B 9 63 s1 (.int (jb s0)) μ) fun μ1 =>
  k124 v0 v1 v2 v3 v4 v5 (v6 + 1) μ1
set_option maxRecDepth 10000 in
def g_R_asks_182 (N : Nat) (B : Nat) (k86 : Nat → Int32 → Int32 → Int32 → Int32 → JMem → Option JMem) (k124 : Nat → Int32 → Int32 → Int32 → Int32 → Int32 → Int32 → JMem → Option JMem) (v0 : Nat) (v1 : Int32) (v2 : Int32) (v3 : Int32) (v4 : Int32) (v5 : Int32) (v6 : Int32) (s0 : Nat)  (μ : JMem) : Option JMem :=
  g_R_asks_187 N B k86 k124 v0 v1 v2 v3 v4 v5 v6 true s0 μ
set_option maxRecDepth 10000 in
def g_R_asks_186 (N : Nat) (B : Nat) (k86 : Nat → Int32 → Int32 → Int32 → Int32 → JMem → Option JMem) (k124 : Nat → Int32 → Int32 → Int32 → Int32 → Int32 → Int32 → JMem → Option JMem) (v0 : Nat) (v1 : Int32) (v2 : Int32) (v3 : Int32) (v4 : Int32) (v5 : Int32) (v6 : Int32) (s0 : Nat)  (μ : JMem) : Option JMem :=
  g_R_asks_187 N B k86 k124 v0 v1 v2 v3 v4 v5 v6 false s0 μ
set_option maxRecDepth 10000 in
def g_R_asks_124 (N : Nat) (B : Nat) (k86 : Nat → Int32 → Int32 → Int32 → Int32 → JMem → Option JMem) : Nat → Nat → Int32 → Int32 → Int32 → Int32 → Int32 → Int32 → JMem → Option JMem
  | 0, _, _, _, _, _, _, _, _ => none
  | n + 1, v0, v1, v2, v3, v4, v5, v6, μ =>
    obd (jgA μ.1 v0 9 2) fun x1 =>
    obd x1 fun a2 =>
    obd (jaI μ.1 a2 v5) fun x3 =>
    if (g_R_coefficientsOf x3) ≤ v6 then (
      k86 v0 v1 v2 v3 (v4 + 1) μ)
    else
      obd (jgZ μ.1 v0 9 63) fun x4 =>
      if x4 = true then (
        if v2 = (2 : Int32) then (
          jgd (jobC 9 (μ.1 v0)) <|
          obd (g_R_c v0 v5 v6 μ.1) fun x6 =>
          obd (jgA μ.1 v0 9 2) fun x7 =>
          obd x7 fun a8 =>
          obd (jaI μ.1 a8 v5) fun x9 =>
          obd (g_R_turned x6 v3 v2 (g_R_isPlain x9)) fun x10 =>
          if (Op.cmpValue (FP.dcmp x10 (0x40e3880000000000 : UInt64)) .l) = 0 then (
            g_R_asks_186 N B k86 (g_R_asks_124 N B k86 n) v0 v1 v2 v3 v4 v5 v6 v0 μ)
          else
            g_R_asks_182 N B k86 (g_R_asks_124 N B k86 n) v0 v1 v2 v3 v4 v5 v6 v0 μ)
        else
          g_R_asks_182 N B k86 (g_R_asks_124 N B k86 n) v0 v1 v2 v3 v4 v5 v6 v0 μ)
      else
        g_R_asks_186 N B k86 (g_R_asks_124 N B k86 n) v0 v1 v2 v3 v4 v5 v6 v0 μ
set_option maxRecDepth 10000 in
def g_R_asks_86 (N : Nat) (B : Nat) : Nat → Nat → Int32 → Int32 → Int32 → Int32 → JMem → Option JMem
  | 0, _, _, _, _, _, _ => none
  | n + 1, v0, v1, v2, v3, v4, μ =>
    obd (jgA μ.1 v0 9 17) fun x1 =>
    obd x1 fun a2 =>
    obd (jaI μ.1 a2 v1) fun x3 =>
    if x3 ≤ v4 then (
      some μ)
    else
      obd (jgA μ.1 v0 9 18) fun x4 =>
      obd x4 fun a5 =>
      obd (jaI μ.1 a5 (((10 : Int32) * v1) + v4)) fun x6 =>
      obd (jgI μ.1 v0 9 61) fun x7 =>
      obd (jpF B 9 61 v0 (.int (x7 + (1 : Int32))) μ) fun μ8 =>
      g_R_asks_124 N B (g_R_asks_86 N B n) N v0 v1 v2 v3 v4 x6 (0 : Int32) μ8
set_option maxRecDepth 10000 in
def g_R_asks_21 (N : Nat) (B : Nat) : Nat → Nat → Int32 → Int32 → Int32 → Int32 → JMem → Option JMem
  | 0, _, _, _, _, _, _ => none
  | n + 1, v0, v1, v2, v3, v4, μ =>
    obd (jgA μ.1 v0 9 20) fun x1 =>
    obd x1 fun a2 =>
    obd (jaI μ.1 a2 v1) fun x3 =>
    if (((3 : Int32) * v1) + x3) ≤ v4 then (
      g_R_asks_86 N B N v0 v1 v2 v3 (0 : Int32) μ)
    else
      obd (jgZ μ.1 v0 9 63) fun x4 =>
      if x4 = true then (
        if v2 = (2 : Int32) then (
          obd (jgA μ.1 v0 9 24) fun x5 =>
          obd x5 fun a6 =>
          obd (jaD μ.1 a6 v4) fun x7 =>
          obd (g_R_turned x7 v3 v2 false) fun x8 =>
          if (Op.cmpValue (FP.dcmp x8 (0x40e3880000000000 : UInt64)) .l) = 0 then (
            g_R_asks_73 N B (g_R_asks_21 N B n) v0 v1 v2 v3 v4 v0 μ)
          else
            g_R_asks_69 N B (g_R_asks_21 N B n) v0 v1 v2 v3 v4 v0 μ)
        else
          g_R_asks_69 N B (g_R_asks_21 N B n) v0 v1 v2 v3 v4 v0 μ)
      else
        g_R_asks_73 N B (g_R_asks_21 N B n) v0 v1 v2 v3 v4 v0 μ
set_option maxRecDepth 10000 in
def g_R_asks (N : Nat) (B : Nat) (v0 : Nat) (v1 : Int32) (v2 : Int32)  (μ : JMem) : Option JMem :=
  obd (jgI μ.1 v0 9 62) fun x1 =>
  obd (jpF B 9 62 v0 (.int (x1 + (1 : Int32))) μ) fun μ2 =>
  jgd (jobC 9 (μ2.1 v0)) <|
  obd (g_R_sortOf v0 v1 μ2.1) fun x4 =>
  g_R_asks_21 N B N v0 v1 v2 x4 ((3 : Int32) * v1) μ2
/-! FilterBenchModel.convert(II)I -/
set_option maxRecDepth 10000 in
def g_R_convert_41 (N : Nat) (B : Nat) : Nat → Nat → Int32 → Int32 → Int32 → JMem → Option (Int32 × JMem)
  | 0, _, _, _, _, _ => none
  | n + 1, v0, v1, v2, v3, μ =>
    obd (jgI μ.1 v0 9 42) fun x1 =>
    if x1 ≤ v3 then (
      obd (jgZ μ.1 v0 9 63) fun x2 =>
      if x2 = true then (
        obd (jgI μ.1 v0 9 1) fun x3 =>
        obd (jgI μ.1 v0 9 61) fun x4 =>
        if (60 : Int32) < (x3 + x4) then (
          some ((-1 : Int32), μ))
        else
          obd (jgI μ.1 v0 9 16) fun x5 =>
          obd (jgI μ.1 v0 9 62) fun x6 =>
          if (x5 + x6) ≤ (20 : Int32) then (
            jgd (jobC 9 (μ.1 v0)) <|
            jbd2 (g_R_anew N B v0 v1 v2 μ) fun x8 μ9 =>
            some (x8, μ9))
          else
            some ((-1 : Int32), μ))
      else
        some ((-1 : Int32), μ))
    else
      obd (jgA μ.1 v0 9 43) fun x10 =>
      obd x10 fun a11 =>
      obd (jaI μ.1 a11 v3) fun x12 =>
      jgd (jobC 9 (μ.1 v0)) <|
      obd (g_R_asks N B v0 x12 v2 μ) fun μ14 =>
      g_R_convert_41 N B n v0 v1 v2 (v3 + 1) μ14
set_option maxRecDepth 10000 in
def g_R_convert (N : Nat) (B : Nat) (v0 : Nat) (v1 : Int32) (v2 : Int32)  (μ : JMem) : Option (Int32 × JMem) :=
  jgd (jobC 9 (μ.1 v0)) <|
  obd (g_R_isFed v0 v1 μ.1) fun x2 =>
  if x2 = true then (
    if (g_R_in v2 (0 : Int32) (2 : Int32)) = true then (
      obd (jpF B 9 61 v0 (.int (0 : Int32)) μ) fun μ3 =>
      obd (jpF B 9 62 v0 (.int (0 : Int32)) μ3) fun μ4 =>
      obd (jpF B 9 63 v0 (.int (jb true)) μ4) fun μ5 =>
      jgd (jobC 9 (μ5.1 v0)) <|
      obd (g_R_trees N B v0 v1 μ5) fun μ7 =>
      g_R_convert_41 N B N v0 v1 v2 (0 : Int32) μ7)
    else
      some ((-1 : Int32), μ))
  else
    some ((-1 : Int32), μ)
/-! FilterBenchModel.measure(II)J -/
set_option maxRecDepth 10000 in
def g_R_measure_204 (N : Nat) (k64 : Nat → Int32 → Int32 → UInt64 → Int64 → Int32 → Int64 → Int64 → Int32 → (Nat → Option JCell) → Option Int64) (v0 : Nat) (v1 : Int32) (v2 : Int32) (v4 : UInt64) (v6 : Int64) (v8 : Int32) (v9 : Int64) (v11 : Int64) (v13 : Int32)  (h : Nat → Option JCell) : Option Int64 :=
  k64 v0 v1 v2 v4 v6 v8 v9 v11 (v13 + 1) h
set_option maxRecDepth 10000 in
def g_R_measure_200 (N : Nat) (k64 : Nat → Int32 → Int32 → UInt64 → Int64 → Int32 → Int64 → Int64 → Int32 → (Nat → Option JCell) → Option Int64) (v0 : Nat) (v1 : Int32) (v2 : Int32) (v4 : UInt64) (v6 : Int64) (v9 : Int64) (v11 : Int64) (v13 : Int32) (v18 : Int32)  (h : Nat → Option JCell) : Option Int64 :=
  g_R_measure_204 N k64 v0 v1 v2 v4 v6 v18 v9 v11 v13 h
set_option maxRecDepth 10000 in
def g_R_measure_176 (N : Nat) (k64 : Nat → Int32 → Int32 → UInt64 → Int64 → Int32 → Int64 → Int64 → Int32 → (Nat → Option JCell) → Option Int64) (v0 : Nat) (v1 : Int32) (v2 : Int32) (v4 : UInt64) (v6 : Int64) (v8 : Int32) (v9 : Int64) (v11 : Int64) (v13 : Int32) (s0 : Int32)  (h : Nat → Option JCell) : Option Int64 :=
  if s0 = 0 then (
    g_R_measure_204 N k64 v0 v1 v2 v4 v6 v8 v9 v11 v13 h)
  else
    if v8 = (-s0) then (
      g_R_measure_200 N k64 v0 v1 v2 v4 (v6 + (1 : Int64)) v9 v11 v13 s0 h)
    else
      g_R_measure_200 N k64 v0 v1 v2 v4 v6 v9 v11 v13 s0 h
set_option maxRecDepth 10000 in
def g_R_measure_151 (N : Nat) (k64 : Nat → Int32 → Int32 → UInt64 → Int64 → Int32 → Int64 → Int64 → Int32 → (Nat → Option JCell) → Option Int64) (v0 : Nat) (v1 : Int32) (v2 : Int32) (v4 : UInt64) (v6 : Int64) (v8 : Int32) (v9 : Int64) (v13 : Int32) (v14 : UInt64) (s0 : Int64)  (h : Nat → Option JCell) : Option Int64 :=
  if (Op.cmpValue (FP.dcmp v14 (0 : UInt64)) .l) ≤ 0 then (
    if 0 ≤ (Op.cmpValue (FP.dcmp v14 (0 : UInt64)) .g) then (
      g_R_measure_176 N k64 v0 v1 v2 v4 v6 v8 v9 s0 v13 (0 : Int32) h)
    else
      g_R_measure_176 N k64 v0 v1 v2 v4 v6 v8 v9 s0 v13 (-1 : Int32) h)
  else
    g_R_measure_176 N k64 v0 v1 v2 v4 v6 v8 v9 s0 v13 (1 : Int32) h
set_option maxRecDepth 10000 in
def g_R_measure_134 (N : Nat) (k64 : Nat → Int32 → Int32 → UInt64 → Int64 → Int32 → Int64 → Int64 → Int32 → (Nat → Option JCell) → Option Int64) (v0 : Nat) (v1 : Int32) (v2 : Int32) (v4 : UInt64) (v6 : Int64) (v8 : Int32) (v11 : Int64) (v13 : Int32) (v14 : UInt64) (s0 : Int64)  (h : Nat → Option JCell) : Option Int64 :=
  if s0 ≤ v11 then (
    g_R_measure_151 N k64 v0 v1 v2 v4 v6 v8 s0 v13 v14 v11 h)
  else
    g_R_measure_151 N k64 v0 v1 v2 v4 v6 v8 s0 v13 v14 s0 h
set_option maxRecDepth 10000 in
def g_R_measure_119 (N : Nat) (k64 : Nat → Int32 → Int32 → UInt64 → Int64 → Int32 → Int64 → Int64 → Int32 → (Nat → Option JCell) → Option Int64) (v0 : Nat) (v1 : Int32) (v2 : Int32) (v4 : UInt64) (v6 : Int64) (v8 : Int32) (v9 : Int64) (v11 : Int64) (v13 : Int32) (v14 : UInt64)  (h : Nat → Option JCell) : Option Int64 :=
  if (Op.cmpValue (FP.dcmp v14 (0 : UInt64)) .l) = 0 then (
    g_R_measure_134 N k64 v0 v1 v2 v4 v6 v8 v11 v13 v14 (v9 + (1 : Int64)) h)
  else
    g_R_measure_134 N k64 v0 v1 v2 v4 v6 v8 v11 v13 v14 (0 : Int64) h
set_option maxRecDepth 10000 in
def g_R_measure_64 (N : Nat) : Nat → Nat → Int32 → Int32 → UInt64 → Int64 → Int32 → Int64 → Int64 → Int32 → (Nat → Option JCell) → Option Int64
  | 0, _, _, _, _, _, _, _, _, _, _ => none
  | n + 1, v0, v1, v2, v4, v6, v8, v9, v11, v13, h =>
    obd (jgA h v0 9 28) fun x1 =>
    obd x1 fun a2 =>
    obd (jaI h a2 v1) fun x3 =>
    if x3 ≤ v13 then (
      if v2 = 0 then (
        obd (jgA h v0 9 17) fun x4 =>
        obd x4 fun a5 =>
        obd (jaI h a5 v1) fun x6 =>
        if x6 = 0 then (
          some (0 : Int64))
        else
          jgd (jobC 9 (h v0)) <|
          obd (g_R_sortOf v0 v1 h) fun x8 =>
          obd (g_R_bitsOf x8 v4) fun x9 =>
          some x9)
      else
        if v2 = (1 : Int32) then (
          some v6)
        else
          some v11)
    else
      obd (jgA h v0 9 27) fun x10 =>
      obd x10 fun a11 =>
      obd (jaD h a11 (((400 : Int32) * v1) + (v13 - v13 / (400 : Int32) * (400 : Int32)))) fun x12 =>
      jgd (jobC 9 (h v0)) <|
      obd (g_R_sortOf v0 v1 h) fun x14 =>
      jgd (jobC 9 (h v0)) <|
      obd (g_R_sizeOf v0 x14 x12) fun x16 =>
      if (Op.cmpValue (FP.dcmp x16 v4) .l) ≤ 0 then (
        g_R_measure_119 N (g_R_measure_64 N n) v0 v1 v2 v4 v6 v8 v9 v11 v13 x12 h)
      else
        g_R_measure_119 N (g_R_measure_64 N n) v0 v1 v2 x16 v6 v8 v9 v11 v13 x12 h
set_option maxRecDepth 10000 in
def g_R_measure_45 (N : Nat) (v0 : Nat) (v1 : Int32) (v2 : Int32) (s0 : Int32)  (h : Nat → Option JCell) : Option Int64 :=
  g_R_measure_64 N N v0 v1 v2 (0 : UInt64) (0 : Int64) (0 : Int32) (0 : Int64) (0 : Int64) s0 h
set_option maxRecDepth 10000 in
def g_R_measure (N : Nat) (v0 : Nat) (v1 : Int32) (v2 : Int32)  (h : Nat → Option JCell) : Option Int64 :=
  jgd (jobC 9 (h v0)) <|
  obd (g_R_isChain v0 v1 h) fun x2 =>
  if x2 = true then (
    if (g_R_in v2 (0 : Int32) (2 : Int32)) = true then (
      obd (jgA h v0 9 28) fun x3 =>
      obd x3 fun a4 =>
      obd (jaI h a4 v1) fun x5 =>
      if x5 ≤ (400 : Int32) then (
        g_R_measure_45 N v0 v1 v2 (0 : Int32) h)
      else
        obd (jgA h v0 9 28) fun x6 =>
        obd x6 fun a7 =>
        obd (jaI h a7 v1) fun x8 =>
        g_R_measure_45 N v0 v1 v2 (x8 - (400 : Int32)) h)
    else
      some (0 : Int64))
  else
    some (0 : Int64)
/-! FilterBenchModel.count(I)I -/
set_option maxRecDepth 10000 in
def g_R_count (v0 : Nat) (v1 : Int32)  (h : Nat → Option JCell) : Option Int32 :=
  if v1 = 0 then (
    obd (jgI h v0 9 1) fun x1 =>
    some x1)
  else
    if v1 = (1 : Int32) then (
      obd (jgI h v0 9 16) fun x2 =>
      some x2)
    else
      if v1 = (2 : Int32) then (
        obd (jgI h v0 9 44) fun x3 =>
        some x3)
      else
        some (-1 : Int32)
/-! FilterBenchModel.chain(II)I -/
set_option maxRecDepth 10000 in
def g_R_chain_2 (v0 : Nat) (v1 : Int32) (v2 : Int32)  (h : Nat → Option JCell) : Option Int32 :=
  jgd (jobC 9 (h v0)) <|
  obd (g_R_isChain v0 v1 h) fun x2 =>
  if x2 = true then (
    if v2 = 0 then (
      obd (jgA h v0 9 17) fun x3 =>
      obd x3 fun a4 =>
      obd (jaI h a4 v1) fun x5 =>
      some x5)
    else
    if v2 = 1 then (
      obd (jgA h v0 9 20) fun x6 =>
      obd x6 fun a7 =>
      obd (jaI h a7 v1) fun x8 =>
      some x8)
    else
    if v2 = 2 then (
      obd (jgA h v0 9 28) fun x9 =>
      obd x9 fun a10 =>
      obd (jaI h a10 v1) fun x11 =>
      some x11)
    else
    if v2 = 3 then (
      obd (jgA h v0 9 19) fun x12 =>
      obd x12 fun a13 =>
      obd (jaI h a13 v1) fun x14 =>
      some x14)
    else
    if v2 = 4 then (
      jgd (jobC 9 (h v0)) <|
      obd (g_R_sortOf v0 v1 h) fun x16 =>
      some x16)
    else
    some (-1 : Int32))
  else
    some (-1 : Int32)
/-! FilterBenchLaw.law([I)Z -/
set_option maxRecDepth 10000 in
def g_L_law_1079 (N : Nat) (M : Nat) (B : Nat) (SA : Nat → Nat) (k18 : Option Nat → Nat → Nat → Int32 → JMem → Option (Bool × JMem)) (v0 : Nat) (v1 : Nat) (v2 : Nat) (v3 : Int32)  (μ : JMem) : Option (Bool × JMem) :=
  k18 (some v0) v1 v2 (v3 + 7) μ
set_option maxRecDepth 10000 in
def g_L_law_18 (N : Nat) (M : Nat) (B : Nat) (SA : Nat → Nat) : Nat → Option Nat → Nat → Nat → Int32 → JMem → Option (Bool × JMem)
  | 0, _, _, _, _, _ => none
  | n + 1, v0, v1, v2, v3, μ =>
    obd v0 fun a1 =>
    obd (jal μ.1 a1) fun x2 =>
    if (x2 - (7 : Int32)) < v3 then (
      some (true, μ))
    else
      obd (jaI μ.1 a1 v3) fun x3 =>
      if (x3 &&& (31 : Int32)) = 0 then (
        obd (jaI μ.1 a1 (v3 + (1 : Int32))) fun x4 =>
        obd (jaI μ.1 a1 (v3 + (2 : Int32))) fun x5 =>
        obd (jaI μ.1 a1 (v3 + (3 : Int32))) fun x6 =>
        jgd (jobC 0 (μ.1 v1)) <|
        jbd2 (g_B_section B SA v1 x4 x5 x6 μ) fun x8 μ9 =>
        obd (jaI μ9.1 a1 (v3 + (1 : Int32))) fun x10 =>
        obd (jaI μ9.1 a1 (v3 + (2 : Int32))) fun x11 =>
        obd (jaI μ9.1 a1 (v3 + (3 : Int32))) fun x12 =>
        jgd (jobC 9 (μ9.1 v2)) <|
        jbd2 (g_R_section N B v2 x10 x11 x12 μ9) fun x14 μ15 =>
        if x8 = x14 then (
          g_L_law_1079 N M B SA (g_L_law_18 N M B SA n) a1 v1 v2 v3 μ15)
        else
          some (false, μ15))
      else
      if (x3 &&& (31 : Int32)) = 1 then (
        obd (jaI μ.1 a1 (v3 + (1 : Int32))) fun x16 =>
        obd (jaI μ.1 a1 (v3 + (2 : Int32))) fun x17 =>
        obd (jaI μ.1 a1 (v3 + (3 : Int32))) fun x18 =>
        obd (jaI μ.1 a1 (v3 + (4 : Int32))) fun x19 =>
        jgd (jobC 0 (μ.1 v1)) <|
        jbd2 (g_B_coefficient B v1 x16 x17 (((Int32.toInt64 x18) <<< (Int32.toInt64 (32 : Int32) &&& 63)) ||| ((Int32.toInt64 x19) &&& (4294967295 : Int64))) μ) fun x21 μ22 =>
        obd (jaI μ22.1 a1 (v3 + (1 : Int32))) fun x23 =>
        obd (jaI μ22.1 a1 (v3 + (2 : Int32))) fun x24 =>
        obd (jaI μ22.1 a1 (v3 + (3 : Int32))) fun x25 =>
        obd (jaI μ22.1 a1 (v3 + (4 : Int32))) fun x26 =>
        jgd (jobC 9 (μ22.1 v2)) <|
        jbd2 (g_R_coefficient B v2 x23 x24 (((Int32.toInt64 x25) <<< (Int32.toInt64 (32 : Int32) &&& 63)) ||| ((Int32.toInt64 x26) &&& (4294967295 : Int64))) μ22) fun x28 μ29 =>
        if x21 = x28 then (
          g_L_law_1079 N M B SA (g_L_law_18 N M B SA n) a1 v1 v2 v3 μ29)
        else
          some (false, μ29))
      else
      if (x3 &&& (31 : Int32)) = 2 then (
        obd (jaI μ.1 a1 (v3 + (1 : Int32))) fun x30 =>
        obd (jaI μ.1 a1 (v3 + (2 : Int32))) fun x31 =>
        obd (jaI μ.1 a1 (v3 + (3 : Int32))) fun x32 =>
        obd (jaI μ.1 a1 (v3 + (4 : Int32))) fun x33 =>
        jgd (jobC 0 (μ.1 v1)) <|
        jbd2 (g_B_ratio B v1 x30 x31 x32 x33 μ) fun x35 μ36 =>
        obd (jaI μ36.1 a1 (v3 + (1 : Int32))) fun x37 =>
        obd (jaI μ36.1 a1 (v3 + (2 : Int32))) fun x38 =>
        obd (jaI μ36.1 a1 (v3 + (3 : Int32))) fun x39 =>
        obd (jaI μ36.1 a1 (v3 + (4 : Int32))) fun x40 =>
        jgd (jobC 9 (μ36.1 v2)) <|
        jbd2 (g_R_ratio B v2 x37 x38 x39 x40 μ36) fun x42 μ43 =>
        if x35 = x42 then (
          g_L_law_1079 N M B SA (g_L_law_18 N M B SA n) a1 v1 v2 v3 μ43)
        else
          some (false, μ43))
      else
      if (x3 &&& (31 : Int32)) = 3 then (
        obd (jaI μ.1 a1 (v3 + (1 : Int32))) fun x44 =>
        obd (jaI μ.1 a1 (v3 + (2 : Int32))) fun x45 =>
        obd (jaI μ.1 a1 (v3 + (3 : Int32))) fun x46 =>
        jgd (jobC 0 (μ.1 v1)) <|
        jbd2 (g_B_rule B v1 x44 x45 x46 μ) fun x48 μ49 =>
        obd (jaI μ49.1 a1 (v3 + (1 : Int32))) fun x50 =>
        obd (jaI μ49.1 a1 (v3 + (2 : Int32))) fun x51 =>
        obd (jaI μ49.1 a1 (v3 + (3 : Int32))) fun x52 =>
        jgd (jobC 9 (μ49.1 v2)) <|
        jbd2 (g_R_rule B v2 x50 x51 x52 μ49) fun x54 μ55 =>
        if x48 = x54 then (
          g_L_law_1079 N M B SA (g_L_law_18 N M B SA n) a1 v1 v2 v3 μ55)
        else
          some (false, μ55))
      else
      if (x3 &&& (31 : Int32)) = 4 then (
        jgd (jobC 0 (μ.1 v1)) <|
        jbd2 (g_B_chain B v1 μ) fun x57 μ58 =>
        jgd (jobC 9 (μ58.1 v2)) <|
        jbd2 (g_R_chain B v2 μ58) fun x60 μ61 =>
        if x57 = x60 then (
          g_L_law_1079 N M B SA (g_L_law_18 N M B SA n) a1 v1 v2 v3 μ61)
        else
          some (false, μ61))
      else
      if (x3 &&& (31 : Int32)) = 5 then (
        obd (jaI μ.1 a1 (v3 + (1 : Int32))) fun x62 =>
        obd (jaI μ.1 a1 (v3 + (2 : Int32))) fun x63 =>
        jgd (jobC 0 (μ.1 v1)) <|
        jbd2 (g_B_add N B v1 x62 x63 μ) fun x65 μ66 =>
        obd (jaI μ66.1 a1 (v3 + (1 : Int32))) fun x67 =>
        obd (jaI μ66.1 a1 (v3 + (2 : Int32))) fun x68 =>
        jgd (jobC 9 (μ66.1 v2)) <|
        jbd2 (g_R_add N B v2 x67 x68 μ66) fun x70 μ71 =>
        if x65 = x70 then (
          g_L_law_1079 N M B SA (g_L_law_18 N M B SA n) a1 v1 v2 v3 μ71)
        else
          some (false, μ71))
      else
      if (x3 &&& (31 : Int32)) = 6 then (
        obd (jaI μ.1 a1 (v3 + (1 : Int32))) fun x72 =>
        obd (jaI μ.1 a1 (v3 + (2 : Int32))) fun x73 =>
        obd (jaI μ.1 a1 (v3 + (3 : Int32))) fun x74 =>
        obd (jaI μ.1 a1 (v3 + (4 : Int32))) fun x75 =>
        obd (jaI μ.1 a1 (v3 + (5 : Int32))) fun x76 =>
        obd (jaI μ.1 a1 (v3 + (6 : Int32))) fun x77 =>
        jgd (jobC 0 (μ.1 v1)) <|
        jbd2 (g_B_loop N B v1 x72 x73 x74 x75 (((Int32.toInt64 x76) <<< (Int32.toInt64 (32 : Int32) &&& 63)) ||| ((Int32.toInt64 x77) &&& (4294967295 : Int64))) μ) fun x79 μ80 =>
        obd (jaI μ80.1 a1 (v3 + (1 : Int32))) fun x81 =>
        obd (jaI μ80.1 a1 (v3 + (2 : Int32))) fun x82 =>
        obd (jaI μ80.1 a1 (v3 + (3 : Int32))) fun x83 =>
        obd (jaI μ80.1 a1 (v3 + (4 : Int32))) fun x84 =>
        obd (jaI μ80.1 a1 (v3 + (5 : Int32))) fun x85 =>
        obd (jaI μ80.1 a1 (v3 + (6 : Int32))) fun x86 =>
        jgd (jobC 9 (μ80.1 v2)) <|
        jbd2 (g_R_loop N B v2 x81 x82 x83 x84 (((Int32.toInt64 x85) <<< (Int32.toInt64 (32 : Int32) &&& 63)) ||| ((Int32.toInt64 x86) &&& (4294967295 : Int64))) μ80) fun x88 μ89 =>
        if x79 = x88 then (
          g_L_law_1079 N M B SA (g_L_law_18 N M B SA n) a1 v1 v2 v3 μ89)
        else
          some (false, μ89))
      else
      if (x3 &&& (31 : Int32)) = 7 then (
        obd (jaI μ.1 a1 (v3 + (1 : Int32))) fun x90 =>
        obd (jaI μ.1 a1 (v3 + (2 : Int32))) fun x91 =>
        jgd (jobC 0 (μ.1 v1)) <|
        jbd2 (g_B_within N B v1 x90 x91 μ) fun x93 μ94 =>
        obd (jaI μ94.1 a1 (v3 + (1 : Int32))) fun x95 =>
        obd (jaI μ94.1 a1 (v3 + (2 : Int32))) fun x96 =>
        jgd (jobC 9 (μ94.1 v2)) <|
        jbd2 (g_R_within N B v2 x95 x96 μ94) fun x98 μ99 =>
        if x93 = x98 then (
          g_L_law_1079 N M B SA (g_L_law_18 N M B SA n) a1 v1 v2 v3 μ99)
        else
          some (false, μ99))
      else
      if (x3 &&& (31 : Int32)) = 8 then (
        obd (jaI μ.1 a1 (v3 + (1 : Int32))) fun x100 =>
        obd (jaI μ.1 a1 (v3 + (2 : Int32))) fun x101 =>
        obd (jaI μ.1 a1 (v3 + (3 : Int32))) fun x102 =>
        jgd (jobC 0 (μ.1 v1)) <|
        jbd2 (g_B_feed N M B v1 x100 (((Int32.toInt64 x101) <<< (Int32.toInt64 (32 : Int32) &&& 63)) ||| ((Int32.toInt64 x102) &&& (4294967295 : Int64))) μ) fun x104 μ105 =>
        obd (jaI μ105.1 a1 (v3 + (1 : Int32))) fun x106 =>
        obd (jaI μ105.1 a1 (v3 + (2 : Int32))) fun x107 =>
        obd (jaI μ105.1 a1 (v3 + (3 : Int32))) fun x108 =>
        jgd (jobC 9 (μ105.1 v2)) <|
        jbd2 (g_R_feed N B v2 x106 (((Int32.toInt64 x107) <<< (Int32.toInt64 (32 : Int32) &&& 63)) ||| ((Int32.toInt64 x108) &&& (4294967295 : Int64))) μ105) fun x110 μ111 =>
        if x104 = x110 then (
          g_L_law_1079 N M B SA (g_L_law_18 N M B SA n) a1 v1 v2 v3 μ111)
        else
          some (false, μ111))
      else
      if (x3 &&& (31 : Int32)) = 9 then (
        obd (jaI μ.1 a1 (v3 + (1 : Int32))) fun x112 =>
        obd (jaI μ.1 a1 (v3 + (2 : Int32))) fun x113 =>
        obd (jaI μ.1 a1 (v3 + (3 : Int32))) fun x114 =>
        jgd (jobC 0 (μ.1 v1)) <|
        jbd2 (g_B_run N M B v1 x112 x113 x114 μ) fun x116 μ117 =>
        obd (jaI μ117.1 a1 (v3 + (1 : Int32))) fun x118 =>
        obd (jaI μ117.1 a1 (v3 + (2 : Int32))) fun x119 =>
        obd (jaI μ117.1 a1 (v3 + (3 : Int32))) fun x120 =>
        jgd (jobC 9 (μ117.1 v2)) <|
        jbd2 (g_R_run N B v2 x118 x119 x120 μ117) fun x122 μ123 =>
        if x116 = x122 then (
          g_L_law_1079 N M B SA (g_L_law_18 N M B SA n) a1 v1 v2 v3 μ123)
        else
          some (false, μ123))
      else
      if (x3 &&& (31 : Int32)) = 10 then (
        obd (jaI μ.1 a1 (v3 + (1 : Int32))) fun x124 =>
        obd (jaI μ.1 a1 (v3 + (2 : Int32))) fun x125 =>
        jgd (jobC 0 (μ.1 v1)) <|
        obd (g_B_output v1 x124 x125 μ.1) fun x127 =>
        obd (jaI μ.1 a1 (v3 + (1 : Int32))) fun x128 =>
        obd (jaI μ.1 a1 (v3 + (2 : Int32))) fun x129 =>
        jgd (jobC 9 (μ.1 v2)) <|
        obd (g_R_output v2 x128 x129 μ.1) fun x131 =>
        if x127 = x131 then (
          g_L_law_1079 N M B SA (g_L_law_18 N M B SA n) a1 v1 v2 v3 μ)
        else
          some (false, μ))
      else
      if (x3 &&& (31 : Int32)) = 11 then (
        obd (jaI μ.1 a1 (v3 + (1 : Int32))) fun x132 =>
        obd (jaI μ.1 a1 (v3 + (2 : Int32))) fun x133 =>
        jgd (jobC 0 (μ.1 v1)) <|
        obd (g_B_state v1 x132 x133 μ.1) fun x135 =>
        obd (jaI μ.1 a1 (v3 + (1 : Int32))) fun x136 =>
        obd (jaI μ.1 a1 (v3 + (2 : Int32))) fun x137 =>
        jgd (jobC 9 (μ.1 v2)) <|
        obd (g_R_state v2 x136 x137 μ.1) fun x139 =>
        if x135 = x139 then (
          g_L_law_1079 N M B SA (g_L_law_18 N M B SA n) a1 v1 v2 v3 μ)
        else
          some (false, μ))
      else
      if (x3 &&& (31 : Int32)) = 12 then (
        obd (jaI μ.1 a1 (v3 + (1 : Int32))) fun x140 =>
        obd (jaI μ.1 a1 (v3 + (2 : Int32))) fun x141 =>
        jgd (jobC 0 (μ.1 v1)) <|
        obd (g_B_about v1 x140 x141 μ.1) fun x143 =>
        obd (jaI μ.1 a1 (v3 + (1 : Int32))) fun x144 =>
        obd (jaI μ.1 a1 (v3 + (2 : Int32))) fun x145 =>
        jgd (jobC 9 (μ.1 v2)) <|
        obd (g_R_about v2 x144 x145 μ.1) fun x147 =>
        if x143 = x147 then (
          g_L_law_1079 N M B SA (g_L_law_18 N M B SA n) a1 v1 v2 v3 μ)
        else
          some (false, μ))
      else
      if (x3 &&& (31 : Int32)) = 13 then (
        obd (jaI μ.1 a1 (v3 + (1 : Int32))) fun x148 =>
        obd (jaI μ.1 a1 (v3 + (2 : Int32))) fun x149 =>
        jgd (jobC 0 (μ.1 v1)) <|
        obd (g_B_told v1 x148 x149 μ.1) fun x151 =>
        obd (jaI μ.1 a1 (v3 + (1 : Int32))) fun x152 =>
        obd (jaI μ.1 a1 (v3 + (2 : Int32))) fun x153 =>
        jgd (jobC 9 (μ.1 v2)) <|
        obd (g_R_told v2 x152 x153 μ.1) fun x155 =>
        if x151 = x155 then (
          g_L_law_1079 N M B SA (g_L_law_18 N M B SA n) a1 v1 v2 v3 μ)
        else
          some (false, μ))
      else
      if (x3 &&& (31 : Int32)) = 14 then (
        obd (jaI μ.1 a1 (v3 + (1 : Int32))) fun x156 =>
        jgd (jobC 0 (μ.1 v1)) <|
        jbd2 (g_B_reset N B v1 x156 μ) fun x158 μ159 =>
        obd (jaI μ159.1 a1 (v3 + (1 : Int32))) fun x160 =>
        jgd (jobC 9 (μ159.1 v2)) <|
        jbd2 (g_R_reset N B v2 x160 μ159) fun x162 μ163 =>
        if x158 = x162 then (
          g_L_law_1079 N M B SA (g_L_law_18 N M B SA n) a1 v1 v2 v3 μ163)
        else
          some (false, μ163))
      else
      if (x3 &&& (31 : Int32)) = 15 then (
        obd (jaI μ.1 a1 (v3 + (1 : Int32))) fun x164 =>
        jgd (jobC 0 (μ.1 v1)) <|
        jbd2 (g_B_keep N B v1 x164 μ) fun x166 μ167 =>
        obd (jaI μ167.1 a1 (v3 + (1 : Int32))) fun x168 =>
        jgd (jobC 9 (μ167.1 v2)) <|
        jbd2 (g_R_keep N B v2 x168 μ167) fun x170 μ171 =>
        if x166 = x170 then (
          g_L_law_1079 N M B SA (g_L_law_18 N M B SA n) a1 v1 v2 v3 μ171)
        else
          some (false, μ171))
      else
      if (x3 &&& (31 : Int32)) = 16 then (
        obd (jaI μ.1 a1 (v3 + (1 : Int32))) fun x172 =>
        jgd (jobC 0 (μ.1 v1)) <|
        jbd2 (g_B_back N B v1 x172 μ) fun x174 μ175 =>
        obd (jaI μ175.1 a1 (v3 + (1 : Int32))) fun x176 =>
        jgd (jobC 9 (μ175.1 v2)) <|
        jbd2 (g_R_back N B v2 x176 μ175) fun x178 μ179 =>
        if x174 = x178 then (
          g_L_law_1079 N M B SA (g_L_law_18 N M B SA n) a1 v1 v2 v3 μ179)
        else
          some (false, μ179))
      else
      if (x3 &&& (31 : Int32)) = 17 then (
        obd (jaI μ.1 a1 (v3 + (1 : Int32))) fun x180 =>
        jgd (jobC 0 (μ.1 v1)) <|
        jbd2 (g_B_same N B v1 x180 μ) fun x182 μ183 =>
        obd (jaI μ183.1 a1 (v3 + (1 : Int32))) fun x184 =>
        jgd (jobC 9 (μ183.1 v2)) <|
        jbd2 (g_R_same N B v2 x184 μ183) fun x186 μ187 =>
        if x182 = x186 then (
          g_L_law_1079 N M B SA (g_L_law_18 N M B SA n) a1 v1 v2 v3 μ187)
        else
          some (false, μ187))
      else
      if (x3 &&& (31 : Int32)) = 18 then (
        obd (jaI μ.1 a1 (v3 + (1 : Int32))) fun x188 =>
        jgd (jobC 0 (μ.1 v1)) <|
        obd (g_B_poles v1 x188 μ.1) fun x190 =>
        obd (jaI μ.1 a1 (v3 + (1 : Int32))) fun x191 =>
        jgd (jobC 9 (μ.1 v2)) <|
        obd (g_R_poles v2 x191 μ.1) fun x193 =>
        if x190 = x193 then (
          g_L_law_1079 N M B SA (g_L_law_18 N M B SA n) a1 v1 v2 v3 μ)
        else
          some (false, μ))
      else
      if (x3 &&& (31 : Int32)) = 19 then (
        obd (jaI μ.1 a1 (v3 + (1 : Int32))) fun x194 =>
        jgd (jobC 0 (μ.1 v1)) <|
        jbd2 (g_B_cycles N B v1 x194 μ) fun x196 μ197 =>
        obd (jaI μ197.1 a1 (v3 + (1 : Int32))) fun x198 =>
        jgd (jobC 9 (μ197.1 v2)) <|
        jbd2 (g_R_cycles N B v2 x198 μ197) fun x200 μ201 =>
        if x196 = x200 then (
          g_L_law_1079 N M B SA (g_L_law_18 N M B SA n) a1 v1 v2 v3 μ201)
        else
          some (false, μ201))
      else
      if (x3 &&& (31 : Int32)) = 20 then (
        obd (jaI μ.1 a1 (v3 + (1 : Int32))) fun x202 =>
        obd (jaI μ.1 a1 (v3 + (2 : Int32))) fun x203 =>
        obd (jaI μ.1 a1 (v3 + (3 : Int32))) fun x204 =>
        jgd (jobC 0 (μ.1 v1)) <|
        jbd2 (g_B_cycle N B v1 x202 x203 x204 μ) fun x206 μ207 =>
        obd (jaI μ207.1 a1 (v3 + (1 : Int32))) fun x208 =>
        obd (jaI μ207.1 a1 (v3 + (2 : Int32))) fun x209 =>
        obd (jaI μ207.1 a1 (v3 + (3 : Int32))) fun x210 =>
        jgd (jobC 9 (μ207.1 v2)) <|
        jbd2 (g_R_cycle N B v2 x208 x209 x210 μ207) fun x212 μ213 =>
        if x206 = x212 then (
          g_L_law_1079 N M B SA (g_L_law_18 N M B SA n) a1 v1 v2 v3 μ213)
        else
          some (false, μ213))
      else
      if (x3 &&& (31 : Int32)) = 21 then (
        obd (jaI μ.1 a1 (v3 + (1 : Int32))) fun x214 =>
        obd (jaI μ.1 a1 (v3 + (2 : Int32))) fun x215 =>
        jgd (jobC 0 (μ.1 v1)) <|
        jbd2 (g_B_convert N M B SA v1 x214 x215 μ) fun x217 μ218 =>
        obd (jaI μ218.1 a1 (v3 + (1 : Int32))) fun x219 =>
        obd (jaI μ218.1 a1 (v3 + (2 : Int32))) fun x220 =>
        jgd (jobC 9 (μ218.1 v2)) <|
        jbd2 (g_R_convert N B v2 x219 x220 μ218) fun x222 μ223 =>
        if x217 = x222 then (
          g_L_law_1079 N M B SA (g_L_law_18 N M B SA n) a1 v1 v2 v3 μ223)
        else
          some (false, μ223))
      else
      if (x3 &&& (31 : Int32)) = 22 then (
        obd (jaI μ.1 a1 (v3 + (1 : Int32))) fun x224 =>
        obd (jaI μ.1 a1 (v3 + (2 : Int32))) fun x225 =>
        jgd (jobC 0 (μ.1 v1)) <|
        obd (g_B_measure N v1 x224 x225 μ.1) fun x227 =>
        obd (jaI μ.1 a1 (v3 + (1 : Int32))) fun x228 =>
        obd (jaI μ.1 a1 (v3 + (2 : Int32))) fun x229 =>
        jgd (jobC 9 (μ.1 v2)) <|
        obd (g_R_measure N v2 x228 x229 μ.1) fun x231 =>
        if x227 = x231 then (
          g_L_law_1079 N M B SA (g_L_law_18 N M B SA n) a1 v1 v2 v3 μ)
        else
          some (false, μ))
      else
      if (x3 &&& (31 : Int32)) = 23 then (
        obd (jaI μ.1 a1 (v3 + (1 : Int32))) fun x232 =>
        jgd (jobC 0 (μ.1 v1)) <|
        obd (g_B_count v1 x232 μ.1) fun x234 =>
        obd (jaI μ.1 a1 (v3 + (1 : Int32))) fun x235 =>
        jgd (jobC 9 (μ.1 v2)) <|
        obd (g_R_count v2 x235 μ.1) fun x237 =>
        if x234 = x237 then (
          g_L_law_1079 N M B SA (g_L_law_18 N M B SA n) a1 v1 v2 v3 μ)
        else
          some (false, μ))
      else
      if (x3 &&& (31 : Int32)) = 24 then (
        obd (jaI μ.1 a1 (v3 + (1 : Int32))) fun x238 =>
        obd (jaI μ.1 a1 (v3 + (2 : Int32))) fun x239 =>
        jgd (jobC 0 (μ.1 v1)) <|
        obd (g_B_chain_2 v1 x238 x239 μ.1) fun x241 =>
        obd (jaI μ.1 a1 (v3 + (1 : Int32))) fun x242 =>
        obd (jaI μ.1 a1 (v3 + (2 : Int32))) fun x243 =>
        jgd (jobC 9 (μ.1 v2)) <|
        obd (g_R_chain_2 v2 x242 x243 μ.1) fun x245 =>
        if x241 = x245 then (
          g_L_law_1079 N M B SA (g_L_law_18 N M B SA n) a1 v1 v2 v3 μ)
        else
          some (false, μ))
      else
      g_L_law_1079 N M B SA (g_L_law_18 N M B SA n) a1 v1 v2 v3 μ
set_option maxRecDepth 10000 in
def g_L_law (N : Nat) (M : Nat) (B : Nat) (SA : Nat → Nat) (v0 : Option Nat)  (μ : JMem) : Option (Bool × JMem) :=
  jnew 0 μ fun a1 μ2 =>
  obd (g_B_init B a1 μ2) fun μ3 =>
  jnew 9 μ3 fun a4 μ5 =>
  obd (g_R_init B a4 μ5) fun μ6 =>
  g_L_law_18 N M B SA N v0 a1 a4 (0 : Int32) μ6
