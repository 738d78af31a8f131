/-! the methods as typed functions (printed by wip/p28/dec.py) -/
/-! FilterBench$DeadCycles.<init>()V -/
set_option maxRecDepth 10000 in
def g_DeadCycles_init (v0 : Nat)  (μ : JMem) : Option JMem :=
  some μ
/-! FilterBench$Numbers.<init>()V -/
set_option maxRecDepth 10000 in
def g_Numbers_init (v0 : Nat)  (μ : JMem) : Option JMem :=
  some μ
/-! FilterBench$Real.<init>(II)V -/
set_option maxRecDepth 10000 in
def g_Real_init (B : Nat) (v0 : Nat) (v1 : Int32) (v2 : Int32)  (μ : JMem) : Option JMem :=
  obd (g_Numbers_init v0 μ) fun μ1 =>
  obd (jpF B 5 0 v0 (.int v1) μ1) fun μ2 =>
  obd (jpF B 5 1 v0 (.long ((1 : Int64) <<< (Int32.toInt64 v1 &&& 63))) μ2) fun μ3 =>
  obd (jpF B 5 2 v0 (.int (((1 : Int32) <<< (v2 &&& 31)) - (1 : Int32))) μ3) fun μ4 =>
  obd (jgI μ4.1 v0 5 2) fun x5 =>
  obd (jpF B 5 3 v0 (.int (x5 >>> ((1 : Int32) &&& 31))) μ4) fun μ6 =>
  obd (jpF B 5 4 v0 (.long ((-1 : Int64) <<< (Int32.toInt64 (v1 + v2) &&& 63))) μ6) fun μ7 =>
  obd (jgI μ7.1 v0 5 2) fun x8 =>
  obd (jpF B 5 5 v0 (.long ((Int32.toInt64 x8) <<< (Int32.toInt64 v1 &&& 63))) μ7) fun μ9 =>
  obd (jgJ μ9.1 v0 5 5) fun x10 =>
  obd (jgJ μ9.1 v0 5 1) fun x11 =>
  obd (jpF B 5 6 v0 (.long (x10 ||| (x11 >>> (Int32.toInt64 (1 : Int32) &&& 63)))) μ9) fun μ12 =>
  some μ12
/-! FilterBench$Shorts.<init>()V -/
set_option maxRecDepth 10000 in
def g_Shorts_init (v0 : Nat)  (μ : JMem) : Option JMem :=
  obd (g_Numbers_init v0 μ) fun μ1 =>
  some μ1
/-! FilterBench.<init>()V -/
set_option maxRecDepth 10000 in
def g_B_init (B : Nat) (v0 : Nat)  (μ : JMem) : Option JMem :=
  jnew 5 μ fun a1 μ2 =>
  obd (g_Real_init B a1 (52 : Int32) (11 : Int32) μ2) fun μ3 =>
  obd (jpF B 0 0 v0 (rv (some a1)) μ3) fun μ4 =>
  jnew 5 μ4 fun a5 μ6 =>
  obd (g_Real_init B a5 (23 : Int32) (8 : Int32) μ6) fun μ7 =>
  obd (jpF B 0 1 v0 (rv (some a5)) μ7) fun μ8 =>
  jnew 8 μ8 fun a9 μ10 =>
  obd (g_Shorts_init a9 μ10) fun μ11 =>
  obd (jpF B 0 2 v0 (rv (some a9)) μ11) fun μ12 =>
  jbd2 (jnR 7 (60 : Int32) μ12) fun a13 μ14 =>
  obd (jpF B 0 3 v0 (rv (some a13)) μ14) fun μ15 =>
  jbd2 (jnR 1 (20 : Int32) μ15) fun a16 μ17 =>
  obd (jpF B 0 5 v0 (rv (some a16)) μ17) fun μ18 =>
  jbd2 (jnR 3 (8 : Int32) μ18) fun a19 μ20 =>
  obd (jpF B 0 7 v0 (rv (some a19)) μ20) fun μ21 =>
  jbd2 (jnR 1 (20 : Int32) μ21) fun a22 μ23 =>
  obd (jpF B 0 9 v0 (rv (some a22)) μ23) fun μ24 =>
  jnew 2 μ24 fun a25 μ26 =>
  obd (g_DeadCycles_init a25 μ26) fun μ27 =>
  obd (jpF B 0 10 v0 (rv (some a25)) μ27) fun μ28 =>
  some μ28
/-! FilterBench.fitsKind(II)Z -/
set_option maxRecDepth 10000 in
def g_B_fitsKind_48 (SA : Nat → Nat)  (h : Nat → Option JCell) : Option Bool :=
  some true
set_option maxRecDepth 10000 in
def g_B_fitsKind (SA : Nat → Nat) (v0 : Int32) (v1 : Int32)  (h : Nat → Option JCell) : Option Bool :=
  if v0 < 0 then (
    some false)
  else
    obd (jal h (SA 3)) fun x1 =>
    if x1 ≤ v0 then (
      some false)
    else
      obd (jal h (SA 2)) fun x2 =>
      if v0 < x2 then (
        obd (jaI h (SA 3) v0) fun x3 =>
        if x3 = 0 then (
          g_B_fitsKind_48 SA h)
        else
          obd (jaI h (SA 2) v0) fun x4 =>
          if v1 < x4 then (
            some false)
          else
            obd (jaI h (SA 3) v0) fun x5 =>
            if x5 < v1 then (
              some false)
            else
              g_B_fitsKind_48 SA h)
      else
        some false
/-! FilterBench.isKind(I)Z -/
set_option maxRecDepth 10000 in
def g_B_isKind (SA : Nat → Nat) (v0 : Int32)  (h : Nat → Option JCell) : Option Bool :=
  if v0 < 0 then (
    some false)
  else
    obd (jal h (SA 0)) fun x1 =>
    if x1 ≤ v0 then (
      some false)
    else
      some true
/-! FilterBench$Row.<init>(I)V -/
set_option maxRecDepth 10000 in
def g_Row_init_14 (B : Nat) (s0 : Int32) (s1 : Nat)  (μ : JMem) : Option JMem :=
  jbd2 (jnA .long s0 μ) fun a1 μ2 =>
  obd (jpF B 6 0 s1 (rv (some a1)) μ2) fun μ3 =>
  some μ3
set_option maxRecDepth 10000 in
def g_Row_init (B : Nat) (v0 : Nat) (v1 : Int32)  (μ : JMem) : Option JMem :=
  if 0 ≤ v1 then (
    g_Row_init_14 B v1 v0 μ)
  else
    g_Row_init_14 B (0 : Int32) v0 μ
/-! FilterBench$Section.<init>(IIIILFilterBench$Numbers;)V -/
set_option maxRecDepth 10000 in
def g_Section_init_128 (B : Nat) (SA : Nat → Nat) (s0 : Int32) (s1 : Nat) (s2 : Nat) (s3 : Nat)  (μ : JMem) : Option JMem :=
  obd (g_Row_init B s1 s0 μ) fun μ1 =>
  obd (jpF B 7 6 s3 (rv (some s2)) μ1) fun μ2 =>
  some μ2
set_option maxRecDepth 10000 in
def g_Section_init_109 (B : Nat) (SA : Nat → Nat) (v0 : Nat) (v4 : Int32) (s0 : Int32)  (μ : JMem) : Option JMem :=
  jnew 6 μ fun a1 μ2 =>
  if 0 ≤ s0 then (
    g_Section_init_128 B SA s0 a1 a1 v0 μ2)
  else
    g_Section_init_128 B SA v4 a1 a1 v0 μ2
set_option maxRecDepth 10000 in
def g_Section_init_100 (B : Nat) (SA : Nat → Nat) (v0 : Nat) (v4 : Int32)  (μ : JMem) : Option JMem :=
  g_Section_init_109 B SA v0 v4 (0 : Int32) μ
set_option maxRecDepth 10000 in
def g_Section_init_83 (B : Nat) (SA : Nat → Nat) (v0 : Nat) (v2 : Int32) (v4 : Int32) (s0 : Int32) (s1 : Nat)  (μ : JMem) : Option JMem :=
  jbd2 (jnA .long s0 μ) fun a1 μ2 =>
  obd (jpF B 7 5 s1 (rv (some a1)) μ2) fun μ3 =>
  if v2 < 0 then (
    g_Section_init_100 B SA v0 v4 μ3)
  else
    obd (jal μ3.1 (SA 1)) fun x4 =>
    if v2 < x4 then (
      obd (jaI μ3.1 (SA 1) v2) fun x5 =>
      g_Section_init_109 B SA v0 v4 x5 μ3)
    else
      g_Section_init_100 B SA v0 v4 μ3
set_option maxRecDepth 10000 in
def g_Section_init_69 (B : Nat) (SA : Nat → Nat) (v0 : Nat) (v2 : Int32) (v4 : Int32) (s0 : Int32)  (μ : JMem) : Option JMem :=
  if 0 ≤ s0 then (
    g_Section_init_83 B SA v0 v2 v4 s0 v0 μ)
  else
    g_Section_init_83 B SA v0 v2 v4 (0 : Int32) v0 μ
set_option maxRecDepth 10000 in
def g_Section_init_60 (B : Nat) (SA : Nat → Nat) (v0 : Nat) (v2 : Int32) (v4 : Int32)  (μ : JMem) : Option JMem :=
  g_Section_init_69 B SA v0 v2 v4 (0 : Int32) μ
set_option maxRecDepth 10000 in
def g_Section_init (B : Nat) (SA : Nat → Nat) (v0 : Nat) (v1 : Int32) (v2 : Int32) (v3 : Int32) (v4 : Int32) (v5 : Option Nat)  (μ : JMem) : Option JMem :=
  jnew 6 μ fun a1 μ2 =>
  obd (g_Row_init B a1 (1 : Int32) μ2) fun μ3 =>
  obd (jpF B 7 9 v0 (rv (some a1)) μ3) fun μ4 =>
  obd (jpF B 7 13 v0 (.int (-1 : Int32)) μ4) fun μ5 =>
  obd (jpF B 7 0 v0 (.int v1) μ5) fun μ6 =>
  obd (jpF B 7 1 v0 (.int v2) μ6) fun μ7 =>
  obd (jpF B 7 2 v0 (.int v3) μ7) fun μ8 =>
  obd (jpF B 7 3 v0 (.int v4) μ8) fun μ9 =>
  obd (jpF B 7 4 v0 (rv v5) μ9) fun μ10 =>
  if v2 < 0 then (
    g_Section_init_60 B SA v0 v2 v4 μ10)
  else
    obd (jal μ10.1 (SA 0)) fun x11 =>
    if v2 < x11 then (
      obd (jaI μ10.1 (SA 0) v2) fun x12 =>
      g_Section_init_69 B SA v0 v2 v4 x12 μ10)
    else
      g_Section_init_60 B SA v0 v2 v4 μ10
/-! FilterBench.newSection(IIILFilterBench$Numbers;)LFilterBench$Section; -/
set_option maxRecDepth 10000 in
def g_B_newSection (B : Nat) (SA : Nat → Nat) (v0 : Nat) (v1 : Int32) (v2 : Int32) (v3 : Int32) (v4 : Option Nat)  (μ : JMem) : Option (Option Nat × JMem) :=
  obd (jgI μ.1 v0 0 4) fun x1 =>
  if x1 < 0 then (
    some (none, μ))
  else
    obd (jgI μ.1 v0 0 4) fun x2 =>
    obd (jgA μ.1 v0 0 3) fun x3 =>
    obd x3 fun a4 =>
    obd (jal μ.1 a4) fun x5 =>
    if x2 < x5 then (
      jnew 7 μ fun a6 μ7 =>
      obd (jgI μ7.1 v0 0 4) fun x8 =>
      obd (g_Section_init B SA a6 x8 v1 v2 v3 v4 μ7) fun μ9 =>
      obd (jgA μ9.1 v0 0 3) fun x10 =>
      obd (jgI μ9.1 v0 0 4) fun x11 =>
      obd x10 fun a12 =>
      obd (jpO B a12 x11 a6 μ9) fun μ13 =>
      obd (jgI μ13.1 v0 0 4) fun x14 =>
      obd (jpF B 0 4 v0 (.int (x14 + (1 : Int32))) μ13) fun μ15 =>
      some ((some a6), μ15))
    else
      some (none, μ)
/-! FilterBench.numbersOf(I)LFilterBench$Numbers; -/
set_option maxRecDepth 10000 in
def g_B_numbersOf (v0 : Nat) (v1 : Int32)  (h : Nat → Option JCell) : Option (Option Nat) :=
  if v1 = 0 then (
    obd (jgA h v0 0 0) fun x1 =>
    some x1)
  else
  if v1 = 1 then (
    obd (jgA h v0 0 1) fun x2 =>
    some x2)
  else
  if v1 = 2 then (
    obd (jgA h v0 0 2) fun x3 =>
    some x3)
  else
  some none
/-! FilterBench.section(III)I -/
set_option maxRecDepth 10000 in
def g_B_section (B : Nat) (SA : Nat → Nat) (v0 : Nat) (v1 : Int32) (v2 : Int32) (v3 : Int32)  (μ : JMem) : Option (Int32 × JMem) :=
  jgd (jobC 0 (μ.1 v0)) <|
  obd (g_B_numbersOf v0 v2 μ.1) fun x2 =>
  jon x2 (
    some ((-1 : Int32), μ))
  fun a3 =>
    obd (g_B_isKind SA v1 μ.1) fun x4 =>
    if x4 = true then (
      obd (g_B_fitsKind SA v1 v3 μ.1) fun x5 =>
      if x5 = true then (
        jgd (jobC 0 (μ.1 v0)) <|
        jbd2 (g_B_newSection B SA v0 v1 v2 v3 (some a3) μ) fun x7 μ8 =>
        jon x7 (
          some ((-1 : Int32), μ8))
        fun a9 =>
          obd (jgI μ8.1 a9 7 0) fun x10 =>
          some (x10, μ8))
      else
        some ((-1 : Int32), μ))
    else
      some ((-1 : Int32), μ)
/-! FilterBench.sectionAt(I)LFilterBench$Section; -/
set_option maxRecDepth 10000 in
def g_B_sectionAt_21  (h : Nat → Option JCell) : Option (Option Nat) :=
  some none
set_option maxRecDepth 10000 in
def g_B_sectionAt (v0 : Nat) (v1 : Int32)  (h : Nat → Option JCell) : Option (Option Nat) :=
  if v1 < 0 then (
    g_B_sectionAt_21 h)
  else
    obd (jgI h v0 0 4) fun x1 =>
    if x1 ≤ v1 then (
      g_B_sectionAt_21 h)
    else
      obd (jgA h v0 0 3) fun x2 =>
      obd x2 fun a3 =>
      obd (jal h a3) fun x4 =>
      if v1 < x4 then (
        obd (jgA h v0 0 3) fun x5 =>
        obd x5 fun a6 =>
        obd (jaA h a6 v1) fun x7 =>
        some x7)
      else
        g_B_sectionAt_21 h
/-! FilterBench$Real.isNumber(J)Z -/
set_option maxRecDepth 10000 in
def g_Real_isNumber (v0 : Nat) (v1 : Int64)  (h : Nat → Option JCell) : Option Bool :=
  obd (jgJ h v0 5 4) fun x1 =>
  obd (jgJ h v0 5 5) fun x2 =>
  if x2 < (v1 &&& (x1 ^^^ (-1 : Int64))) then (
    some false)
  else
    some true
/-! FilterBench$Real.clean(J)J -/
set_option maxRecDepth 10000 in
def g_Real_clean (v0 : Nat) (v1 : Int64)  (h : Nat → Option JCell) : Option Int64 :=
  jgd (jobC 5 (h v0)) <|
  obd (g_Real_isNumber v0 v1 h) fun x2 =>
  if x2 = true then (
    some v1)
  else
    obd (jgJ h v0 5 6) fun x3 =>
    some x3
/-! FilterBench$Real.holds(J)Z -/
set_option maxRecDepth 10000 in
def g_Real_holds_17  (h : Nat → Option JCell) : Option Bool :=
  some true
set_option maxRecDepth 10000 in
def g_Real_holds (v0 : Nat) (v1 : Int64)  (h : Nat → Option JCell) : Option Bool :=
  obd (jgI h v0 5 0) fun x1 =>
  if x1 = (52 : Int32) then (
    g_Real_holds_17 h)
  else
    if v1 = (Int32.toInt64 (Int64.toInt32 v1)) then (
      g_Real_holds_17 h)
    else
      some false
/-! FilterBench$Section.hasFactor(I)Z -/
set_option maxRecDepth 10000 in
def g_Section_hasFactor (v0 : Nat) (v1 : Int32)  (h : Nat → Option JCell) : Option Bool :=
  if v1 < 0 then (
    some false)
  else
    obd (jgA h v0 7 5) fun x1 =>
    obd x1 fun a2 =>
    obd (jal h a2) fun x3 =>
    if x3 ≤ v1 then (
      some false)
    else
      some true
/-! FilterBench$Section.setFactor(IJ)V -/
set_option maxRecDepth 10000 in
def g_Section_setFactor (B : Nat) (v0 : Nat) (v1 : Int32) (v2 : Int64)  (μ : JMem) : Option JMem :=
  if v1 < 0 then (
    some μ)
  else
    obd (jgA μ.1 v0 7 5) fun x1 =>
    obd x1 fun a2 =>
    obd (jal μ.1 a2) fun x3 =>
    if x3 ≤ v1 then (
      some μ)
    else
      obd (jgA μ.1 v0 7 5) fun x4 =>
      obd x4 fun a5 =>
      obd (jpA B .long a5 v1 (.long v2) μ) fun μ6 =>
      some μ6
/-! FilterBench$Shorts.clean(J)J -/
set_option maxRecDepth 10000 in
def g_Shorts_clean_e (v1 : Int64)  : Int64 :=
  v1
set_option maxRecDepth 10000 in
def g_Shorts_clean (v0 : Nat) (v1 : Int64)  : Int64 := g_Shorts_clean_e  v1
/-! FilterBench$Shorts.holds(J)Z -/
set_option maxRecDepth 10000 in
def g_Shorts_holds_e (v1 : Int64)  : Bool :=
  if v1 = (Int32.toInt64 (Int16.toInt32 (Int32.toInt16 (Int64.toInt32 v1)))) then (
    true)
  else
    false
set_option maxRecDepth 10000 in
def g_Shorts_holds (v0 : Nat) (v1 : Int64)  : Bool := g_Shorts_holds_e  v1
/-! FilterBench.coefficient(IIJ)Z -/
set_option maxRecDepth 10000 in
def g_B_coefficient (B : Nat) (v0 : Nat) (v1 : Int32) (v2 : Int32) (v3 : Int64)  (μ : JMem) : Option (Bool × JMem) :=
  jgd (jobC 0 (μ.1 v0)) <|
  obd (g_B_sectionAt v0 v1 μ.1) fun x2 =>
  jon x2 (
    some (false, μ))
  fun a3 =>
    jgd (jobC 7 (μ.1 a3)) <|
    obd (g_Section_hasFactor a3 v2 μ.1) fun x5 =>
    if x5 = true then (
      obd (jgA μ.1 a3 7 4) fun x6 =>
      obd x6 fun a7 =>
      obd (if jobC 5 (μ.1 a7) = true then g_Real_holds a7 v3 μ.1 else jgd (jobC 8 (μ.1 a7)) (some (g_Shorts_holds a7 v3))) fun x8 =>
      if x8 = true then (
        obd (jgA μ.1 a3 7 4) fun x9 =>
        obd x9 fun a10 =>
        obd (if jobC 5 (μ.1 a10) = true then g_Real_clean a10 v3 μ.1 else jgd (jobC 8 (μ.1 a10)) (some (g_Shorts_clean a10 v3))) fun x11 =>
        jgd (jobC 7 (μ.1 a3)) <|
        obd (g_Section_setFactor B a3 v2 x11 μ) fun μ13 =>
        some (true, μ13))
      else
        some (false, μ))
    else
      some (false, μ)
/-! FilterBench.rule(III)Z -/
set_option maxRecDepth 10000 in
def g_B_rule (B : Nat) (v0 : Nat) (v1 : Int32) (v2 : Int32) (v3 : Int32)  (μ : JMem) : Option (Bool × JMem) :=
  jgd (jobC 0 (μ.1 v0)) <|
  obd (g_B_sectionAt v0 v1 μ.1) fun x2 =>
  jon x2 (
    some (false, μ))
  fun a3 =>
    obd (jgI μ.1 a3 7 2) fun x4 =>
    if x4 = (2 : Int32) then (
      if v2 < 0 then (
        some (false, μ))
      else
        if (2 : Int32) < v2 then (
          some (false, μ))
        else
          if v3 < 0 then (
            some (false, μ))
          else
            if v3 ≤ (1 : Int32) then (
              obd (jpF B 7 7 a3 (.int v2) μ) fun μ5 =>
              obd (jpF B 7 8 a3 (.int v3) μ5) fun μ6 =>
              some (true, μ6))
            else
              some (false, μ))
    else
      some (false, μ)
/-! FilterBench$Row.index(I)I -/
set_option maxRecDepth 10000 in
def g_Row_index (v0 : Nat) (v1 : Int32)  (h : Nat → Option JCell) : Option Int32 :=
  obd (jgI h v0 6 1) fun x1 =>
  obd (jgA h v0 6 0) fun x2 =>
  obd x2 fun a3 =>
  obd (jal h a3) fun x4 =>
  if (x1 + v1) < x4 then (
    some (x1 + v1))
  else
    obd (jgA h v0 6 0) fun x5 =>
    obd x5 fun a6 =>
    obd (jal h a6) fun x7 =>
    some ((x1 + v1) - x7)
/-! FilterBench$Row.at(I)J -/
set_option maxRecDepth 10000 in
def g_Row_at_13  (h : Nat → Option JCell) : Option Int64 :=
  some (0 : Int64)
set_option maxRecDepth 10000 in
def g_Row_at (v0 : Nat) (v1 : Int32)  (h : Nat → Option JCell) : Option Int64 :=
  if v1 < 0 then (
    g_Row_at_13 h)
  else
    obd (jgA h v0 6 0) fun x1 =>
    obd x1 fun a2 =>
    obd (jal h a2) fun x3 =>
    if v1 < x3 then (
      obd (jgA h v0 6 0) fun x4 =>
      jgd (jobC 6 (h v0)) <|
      obd (g_Row_index v0 v1 h) fun x6 =>
      obd x4 fun a7 =>
      obd (jaJ h a7 x6) fun x8 =>
      some x8)
    else
      g_Row_at_13 h
/-! FilterBench.state(II)J -/
set_option maxRecDepth 10000 in
def g_B_state (v0 : Nat) (v1 : Int32) (v2 : Int32)  (h : Nat → Option JCell) : Option Int64 :=
  jgd (jobC 0 (h v0)) <|
  obd (g_B_sectionAt v0 v1 h) fun x2 =>
  jon x2 (
    some (0 : Int64))
  fun a3 =>
    if v2 = (100 : Int32) then (
      obd (jgA h a3 7 9) fun x4 =>
      obd x4 fun a5 =>
      jgd (jobC 6 (h a5)) <|
      obd (g_Row_at a5 (0 : Int32) h) fun x7 =>
      some x7)
    else
      obd (jgA h a3 7 6) fun x8 =>
      obd x8 fun a9 =>
      jgd (jobC 6 (h a9)) <|
      obd (g_Row_at a9 v2 h) fun x11 =>
      some x11
/-! FilterBench.numberOf(LFilterBench$Chain;)I -/
set_option maxRecDepth 10000 in
def g_B_numberOf (v0 : Option Nat)  (h : Nat → Option JCell) : Option Int32 :=
  jon v0 (
    some (-1 : Int32))
  fun a1 =>
    obd (jgI h a1 1 0) fun x2 =>
    some x2
/-! FilterBench.about(II)I -/
set_option maxRecDepth 10000 in
def g_B_about (v0 : Nat) (v1 : Int32) (v2 : Int32)  (h : Nat → Option JCell) : Option Int32 :=
  jgd (jobC 0 (h v0)) <|
  obd (g_B_sectionAt v0 v1 h) fun x2 =>
  jon x2 (
    some (-1 : Int32))
  fun a3 =>
    if v2 = 0 then (
      obd (jgI h a3 7 1) fun x4 =>
      some x4)
    else
    if v2 = 1 then (
      obd (jgI h a3 7 2) fun x5 =>
      some x5)
    else
    if v2 = 2 then (
      obd (jgI h a3 7 3) fun x6 =>
      some x6)
    else
    if v2 = 3 then (
      obd (jgA h a3 7 12) fun x7 =>
      obd (g_B_numberOf x7 h) fun x8 =>
      some x8)
    else
    if v2 = 4 then (
      obd (jgI h a3 7 13) fun x9 =>
      some x9)
    else
    if v2 = 5 then (
      obd (jgI h a3 7 10) fun x10 =>
      some x10)
    else
    if v2 = 6 then (
      obd (jgI h a3 7 11) fun x11 =>
      some x11)
    else
    if v2 = 7 then (
      obd (jgA h a3 7 14) fun x12 =>
      obd (g_B_numberOf x12 h) fun x13 =>
      some x13)
    else
    if v2 = 8 then (
      obd (jgI h a3 7 7) fun x14 =>
      some x14)
    else
    if v2 = 9 then (
      obd (jgI h a3 7 8) fun x15 =>
      some x15)
    else
    some (-1 : Int32)
/-! FilterBench$Section.factor(I)J -/
set_option maxRecDepth 10000 in
def g_Section_factor_13  (h : Nat → Option JCell) : Option Int64 :=
  some (0 : Int64)
set_option maxRecDepth 10000 in
def g_Section_factor (v0 : Nat) (v1 : Int32)  (h : Nat → Option JCell) : Option Int64 :=
  if v1 < 0 then (
    g_Section_factor_13 h)
  else
    obd (jgA h v0 7 5) fun x1 =>
    obd x1 fun a2 =>
    obd (jal h a2) fun x3 =>
    if v1 < x3 then (
      obd (jgA h v0 7 5) fun x4 =>
      obd x4 fun a5 =>
      obd (jaJ h a5 v1) fun x6 =>
      some x6)
    else
      g_Section_factor_13 h
/-! FilterBench.told(II)J -/
set_option maxRecDepth 10000 in
def g_B_told (v0 : Nat) (v1 : Int32) (v2 : Int32)  (h : Nat → Option JCell) : Option Int64 :=
  jgd (jobC 0 (h v0)) <|
  obd (g_B_sectionAt v0 v1 h) fun x2 =>
  jon x2 (
    some (0 : Int64))
  fun a3 =>
    jgd (jobC 7 (h a3)) <|
    obd (g_Section_factor a3 v2 h) fun x5 =>
    some x5
/-! FilterBench.registered(LFilterBench$Chain;)I -/
set_option maxRecDepth 10000 in
def g_B_registered (B : Nat) (v0 : Nat) (v1 : Option Nat)  (μ : JMem) : Option (Int32 × JMem) :=
  obd (jgI μ.1 v0 0 6) fun x1 =>
  if x1 < 0 then (
    some ((-1 : Int32), μ))
  else
    obd (jgI μ.1 v0 0 6) fun x2 =>
    obd (jgA μ.1 v0 0 5) fun x3 =>
    obd x3 fun a4 =>
    obd (jal μ.1 a4) fun x5 =>
    if x2 < x5 then (
      obd (jgI μ.1 v0 0 6) fun x6 =>
      obd v1 fun a7 =>
      obd (jpF B 1 0 a7 (.int x6) μ) fun μ8 =>
      obd (jgA μ8.1 v0 0 5) fun x9 =>
      obd (jgI μ8.1 v0 0 6) fun x10 =>
      obd x9 fun a11 =>
      obd (jpO B a11 x10 a7 μ8) fun μ12 =>
      obd (jgI μ12.1 v0 0 6) fun x13 =>
      obd (jpF B 0 6 v0 (.int (x13 + (1 : Int32))) μ12) fun μ14 =>
      obd (jgI μ14.1 a7 1 0) fun x15 =>
      some (x15, μ14))
    else
      some ((-1 : Int32), μ)
/-! FilterBench$Chain.<init>()V -/
set_option maxRecDepth 10000 in
def g_Chain_init (B : Nat) (v0 : Nat)  (μ : JMem) : Option JMem :=
  obd (jpF B 1 0 v0 (.int (-1 : Int32)) μ) fun μ1 =>
  jbd2 (jnR 7 (10 : Int32) μ1) fun a2 μ3 =>
  obd (jpF B 1 1 v0 (rv (some a2)) μ3) fun μ4 =>
  jbd2 (jnR 4 (3 : Int32) μ4) fun a5 μ6 =>
  obd (jpF B 1 3 v0 (rv (some a5)) μ6) fun μ7 =>
  jbd2 (jnA .long (400 : Int32) μ7) fun a8 μ9 =>
  obd (jpF B 1 5 v0 (rv (some a8)) μ9) fun μ10 =>
  some μ10
/-! FilterBench.chain()I -/
set_option maxRecDepth 10000 in
def g_B_chain (B : Nat) (v0 : Nat)  (μ : JMem) : Option (Int32 × JMem) :=
  obd (jgI μ.1 v0 0 6) fun x1 =>
  obd (jgA μ.1 v0 0 5) fun x2 =>
  obd x2 fun a3 =>
  obd (jal μ.1 a3) fun x4 =>
  if x1 < x4 then (
    jnew 1 μ fun a5 μ6 =>
    obd (g_Chain_init B a5 μ6) fun μ7 =>
    jgd (jobC 0 (μ7.1 v0)) <|
    jbd2 (g_B_registered B v0 (some a5) μ7) fun x9 μ10 =>
    some (x9, μ10))
  else
    some ((-1 : Int32), μ)
/-! FilterBench.chainAt(I)LFilterBench$Chain; -/
set_option maxRecDepth 10000 in
def g_B_chainAt_21  (h : Nat → Option JCell) : Option (Option Nat) :=
  some none
set_option maxRecDepth 10000 in
def g_B_chainAt (v0 : Nat) (v1 : Int32)  (h : Nat → Option JCell) : Option (Option Nat) :=
  if v1 < 0 then (
    g_B_chainAt_21 h)
  else
    obd (jgI h v0 0 6) fun x1 =>
    if x1 ≤ v1 then (
      g_B_chainAt_21 h)
    else
      obd (jgA h v0 0 5) fun x2 =>
      obd x2 fun a3 =>
      obd (jal h a3) fun x4 =>
      if v1 < x4 then (
        obd (jgA h v0 0 5) fun x5 =>
        obd x5 fun a6 =>
        obd (jaA h a6 v1) fun x7 =>
        some x7)
      else
        g_B_chainAt_21 h
/-! FilterBench$Chain.join(LFilterBench$Section;)V -/
set_option maxRecDepth 10000 in
def g_Chain_join (B : Nat) (v0 : Nat) (v1 : Option Nat)  (μ : JMem) : Option JMem :=
  obd (jgI μ.1 v0 1 2) fun x1 =>
  if x1 < 0 then (
    some μ)
  else
    obd (jgI μ.1 v0 1 2) fun x2 =>
    obd (jgA μ.1 v0 1 1) fun x3 =>
    obd x3 fun a4 =>
    obd (jal μ.1 a4) fun x5 =>
    if x5 ≤ x2 then (
      some μ)
    else
      obd (jgA μ.1 v0 1 1) fun x6 =>
      obd (jgI μ.1 v0 1 2) fun x7 =>
      obd v1 fun a8 =>
      obd x6 fun a9 =>
      obd (jpO B a9 x7 a8 μ) fun μ10 =>
      obd (jpF B 7 12 a8 (rv (some v0)) μ10) fun μ11 =>
      obd (jgI μ11.1 v0 1 2) fun x12 =>
      obd (jpF B 7 13 a8 (.int x12) μ11) fun μ13 =>
      obd (jgI μ13.1 v0 1 2) fun x14 =>
      obd (jpF B 1 2 v0 (.int (x14 + (1 : Int32))) μ13) fun μ15 =>
      some μ15
/-! FilterBench$Chain.memberAt(I)LFilterBench$Section; -/
set_option maxRecDepth 10000 in
def g_Chain_memberAt_21  (h : Nat → Option JCell) : Option (Option Nat) :=
  some none
set_option maxRecDepth 10000 in
def g_Chain_memberAt (v0 : Nat) (v1 : Int32)  (h : Nat → Option JCell) : Option (Option Nat) :=
  if v1 < 0 then (
    g_Chain_memberAt_21 h)
  else
    obd (jgI h v0 1 2) fun x1 =>
    if x1 ≤ v1 then (
      g_Chain_memberAt_21 h)
    else
      obd (jgA h v0 1 1) fun x2 =>
      obd x2 fun a3 =>
      obd (jal h a3) fun x4 =>
      if v1 < x4 then (
        obd (jgA h v0 1 1) fun x5 =>
        obd x5 fun a6 =>
        obd (jaA h a6 v1) fun x7 =>
        some x7)
      else
        g_Chain_memberAt_21 h
/-! FilterBench$Chain.sort()I -/
set_option maxRecDepth 10000 in
def g_Chain_sort (v0 : Nat)  (h : Nat → Option JCell) : Option Int32 :=
  jgd (jobC 1 (h v0)) <|
  obd (g_Chain_memberAt v0 (0 : Int32) h) fun x2 =>
  jon x2 (
    some (-1 : Int32))
  fun a3 =>
    obd (jgI h a3 7 2) fun x4 =>
    some x4
/-! FilterBench$Section.spreads()Z -/
set_option maxRecDepth 10000 in
def g_Section_spreads_18  (h : Nat → Option JCell) : Option Bool :=
  some true
set_option maxRecDepth 10000 in
def g_Section_spreads (v0 : Nat)  (h : Nat → Option JCell) : Option Bool :=
  obd (jgI h v0 7 1) fun x1 =>
  if x1 = (13 : Int32) then (
    g_Section_spreads_18 h)
  else
    obd (jgI h v0 7 1) fun x2 =>
    if x2 = (14 : Int32) then (
      g_Section_spreads_18 h)
    else
      some false
/-! FilterBench$Chain.spreaders()I -/
set_option maxRecDepth 10000 in
def g_Chain_spreaders_35 (N : Nat) (k4 : Nat → Int32 → Int32 → (Nat → Option JCell) → Option Int32) (v0 : Nat) (v2 : Int32) (s0 : Bool) (s1 : Int32)  (h : Nat → Option JCell) : Option Int32 :=
  k4 v0 (s1 + (jb s0)) (v2 + 1) h
set_option maxRecDepth 10000 in
def g_Chain_spreaders_34 (N : Nat) (k4 : Nat → Int32 → Int32 → (Nat → Option JCell) → Option Int32) (v0 : Nat) (v2 : Int32) (s0 : Int32)  (h : Nat → Option JCell) : Option Int32 :=
  g_Chain_spreaders_35 N k4 v0 v2 false s0 h
set_option maxRecDepth 10000 in
def g_Chain_spreaders_4 (N : Nat) : Nat → Nat → Int32 → Int32 → (Nat → Option JCell) → Option Int32
  | 0, _, _, _, _ => none
  | n + 1, v0, v1, v2, h =>
    obd (jgI h v0 1 2) fun x1 =>
    if x1 ≤ v2 then (
      some v1)
    else
      jgd (jobC 1 (h v0)) <|
      obd (g_Chain_memberAt v0 v2 h) fun x3 =>
      jon x3 (
        g_Chain_spreaders_34 N (g_Chain_spreaders_4 N n) v0 v2 v1 h)
      fun a4 =>
        jgd (jobC 7 (h a4)) <|
        obd (g_Section_spreads a4 h) fun x6 =>
        if x6 = true then (
          g_Chain_spreaders_35 N (g_Chain_spreaders_4 N n) v0 v2 true v1 h)
        else
          g_Chain_spreaders_34 N (g_Chain_spreaders_4 N n) v0 v2 v1 h
set_option maxRecDepth 10000 in
def g_Chain_spreaders (N : Nat) (v0 : Nat)  (h : Nat → Option JCell) : Option Int32 :=
  g_Chain_spreaders_4 N N v0 (0 : Int32) (0 : Int32) h
/-! FilterBench.add(II)I -/
set_option maxRecDepth 10000 in
def g_B_add_87 (N : Nat) (B : Nat) (v3 : Nat) (v4 : Nat)  (μ : JMem) : Option (Int32 × JMem) :=
  jgd (jobC 1 (μ.1 v3)) <|
  obd (g_Chain_join B v3 (some v4) μ) fun μ2 =>
  obd (jgI μ2.1 v4 7 13) fun x3 =>
  some (x3, μ2)
set_option maxRecDepth 10000 in
def g_B_add_69 (N : Nat) (B : Nat) (v3 : Nat) (v4 : Nat)  (μ : JMem) : Option (Int32 × JMem) :=
  jgd (jobC 7 (μ.1 v4)) <|
  obd (g_Section_spreads v4 μ.1) fun x2 =>
  if x2 = true then (
    jgd (jobC 1 (μ.1 v3)) <|
    obd (g_Chain_spreaders N v3 μ.1) fun x4 =>
    if x4 < (2 : Int32) then (
      g_B_add_87 N B v3 v4 μ)
    else
      some ((-1 : Int32), μ))
  else
    g_B_add_87 N B v3 v4 μ
set_option maxRecDepth 10000 in
def g_B_add (N : Nat) (B : Nat) (v0 : Nat) (v1 : Int32) (v2 : Int32)  (μ : JMem) : Option (Int32 × JMem) :=
  jgd (jobC 0 (μ.1 v0)) <|
  obd (g_B_chainAt v0 v1 μ.1) fun x2 =>
  jgd (jobC 0 (μ.1 v0)) <|
  obd (g_B_sectionAt v0 v2 μ.1) fun x4 =>
  jon x2 (
    some ((-1 : Int32), μ))
  fun a5 =>
    jon x4 (
      some ((-1 : Int32), μ))
    fun a6 =>
      obd (jgA μ.1 a6 7 12) fun x7 =>
      jon x7 (
        obd (jgA μ.1 a5 1 9) fun x9 =>
        jon x9 (
          obd (jgI μ.1 a5 1 2) fun x11 =>
          if (10 : Int32) ≤ x11 then (
            some ((-1 : Int32), μ))
          else
            obd (jgI μ.1 a5 1 2) fun x12 =>
            if x12 ≤ 0 then (
              g_B_add_69 N B a5 a6 μ)
            else
              jgd (jobC 1 (μ.1 a5)) <|
              obd (g_Chain_sort a5 μ.1) fun x14 =>
              obd (jgI μ.1 a6 7 2) fun x15 =>
              if x14 = x15 then (
                g_B_add_69 N B a5 a6 μ)
              else
                some ((-1 : Int32), μ))
        fun a10 =>
          some ((-1 : Int32), μ))
      fun a8 =>
        some ((-1 : Int32), μ)
/-! FilterBench$Section.changesRate()Z -/
set_option maxRecDepth 10000 in
def g_Section_changesRate_16  (h : Nat → Option JCell) : Option Bool :=
  some true
set_option maxRecDepth 10000 in
def g_Section_changesRate (v0 : Nat)  (h : Nat → Option JCell) : Option Bool :=
  obd (jgI h v0 7 1) fun x1 =>
  if x1 = (12 : Int32) then (
    g_Section_changesRate_16 h)
  else
    jgd (jobC 7 (h v0)) <|
    obd (g_Section_spreads v0 h) fun x3 =>
    if x3 = true then (
      g_Section_changesRate_16 h)
    else
      some false
/-! FilterBench$Chain.changesRate(II)Z -/
set_option maxRecDepth 10000 in
def g_Chain_changesRate_45 (N : Nat) (k10 : Nat → Int32 → Int32 → (Nat → Option JCell) → Option Bool) (v0 : Nat) (v2 : Int32) (v3 : Int32)  (h : Nat → Option JCell) : Option Bool :=
  k10 v0 v2 (v3 + 1) h
set_option maxRecDepth 10000 in
def g_Chain_changesRate_10 (N : Nat) : Nat → Nat → Int32 → Int32 → (Nat → Option JCell) → Option Bool
  | 0, _, _, _, _ => none
  | n + 1, v0, v2, v3, h =>
    if v2 < v3 then (
      some false)
    else
      obd (jgI h v0 1 2) fun x1 =>
      if x1 ≤ v3 then (
        some false)
      else
        jgd (jobC 1 (h v0)) <|
        obd (g_Chain_memberAt v0 v3 h) fun x3 =>
        jon x3 (
          g_Chain_changesRate_45 N (g_Chain_changesRate_10 N n) v0 v2 v3 h)
        fun a4 =>
          jgd (jobC 7 (h a4)) <|
          obd (g_Section_changesRate a4 h) fun x6 =>
          if x6 = true then (
            some true)
          else
            g_Chain_changesRate_45 N (g_Chain_changesRate_10 N n) v0 v2 v3 h
set_option maxRecDepth 10000 in
def g_Chain_changesRate_9 (N : Nat) (v0 : Nat) (v2 : Int32) (s0 : Int32)  (h : Nat → Option JCell) : Option Bool :=
  g_Chain_changesRate_10 N N v0 v2 s0 h
set_option maxRecDepth 10000 in
def g_Chain_changesRate (N : Nat) (v0 : Nat) (v1 : Int32) (v2 : Int32)  (h : Nat → Option JCell) : Option Bool :=
  if 0 ≤ v1 then (
    g_Chain_changesRate_9 N v0 v2 v1 h)
  else
    g_Chain_changesRate_9 N v0 v2 (0 : Int32) h
/-! FilterBench$Chain.tie(LFilterBench$Loop;)V -/
set_option maxRecDepth 10000 in
def g_Chain_tie (B : Nat) (v0 : Nat) (v1 : Option Nat)  (μ : JMem) : Option JMem :=
  obd (jgI μ.1 v0 1 4) fun x1 =>
  if x1 < 0 then (
    some μ)
  else
    obd (jgI μ.1 v0 1 4) fun x2 =>
    obd (jgA μ.1 v0 1 3) fun x3 =>
    obd x3 fun a4 =>
    obd (jal μ.1 a4) fun x5 =>
    if x5 ≤ x2 then (
      some μ)
    else
      obd (jgA μ.1 v0 1 3) fun x6 =>
      obd (jgI μ.1 v0 1 4) fun x7 =>
      obd v1 fun a8 =>
      obd x6 fun a9 =>
      obd (jpO B a9 x7 a8 μ) fun μ10 =>
      obd (jgI μ10.1 v0 1 4) fun x11 =>
      obd (jpF B 1 4 v0 (.int (x11 + (1 : Int32))) μ10) fun μ12 =>
      some μ12
/-! FilterBench$Loop.<init>(IIIJ)V -/
set_option maxRecDepth 10000 in
def g_Loop_init (B : Nat) (v0 : Nat) (v1 : Int32) (v2 : Int32) (v3 : Int32) (v4 : Int64)  (μ : JMem) : Option JMem :=
  obd (jpF B 4 0 v0 (.int v1) μ) fun μ1 =>
  obd (jpF B 4 1 v0 (.int v2) μ1) fun μ2 =>
  obd (jpF B 4 2 v0 (.long v4) μ2) fun μ3 =>
  jnew 6 μ3 fun a4 μ5 =>
  obd (g_Row_init B a4 v3 μ5) fun μ6 =>
  obd (jpF B 4 3 v0 (rv (some a4)) μ6) fun μ7 =>
  some μ7
/-! FilterBench.loop(IIIIJ)I -/
set_option maxRecDepth 10000 in
def g_B_loop (N : Nat) (B : Nat) (v0 : Nat) (v1 : Int32) (v2 : Int32) (v3 : Int32) (v4 : Int32) (v5 : Int64)  (μ : JMem) : Option (Int32 × JMem) :=
  jgd (jobC 0 (μ.1 v0)) <|
  obd (g_B_chainAt v0 v1 μ.1) fun x2 =>
  jon x2 (
    some ((-1 : Int32), μ))
  fun a3 =>
    obd (jgA μ.1 a3 1 9) fun x4 =>
    jon x4 (
      obd (jgI μ.1 a3 1 4) fun x6 =>
      if x6 < (3 : Int32) then (
        if v2 < 0 then (
          some ((-1 : Int32), μ))
        else
          if v3 < v2 then (
            some ((-1 : Int32), μ))
          else
            obd (jgI μ.1 a3 1 2) fun x7 =>
            if x7 ≤ v3 then (
              some ((-1 : Int32), μ))
            else
              if v4 < (1 : Int32) then (
                some ((-1 : Int32), μ))
              else
                if (64 : Int32) < v4 then (
                  some ((-1 : Int32), μ))
                else
                  jgd (jobC 1 (μ.1 a3)) <|
                  obd (g_Chain_changesRate N a3 v2 v3 μ.1) fun x9 =>
                  if x9 = true then (
                    some ((-1 : Int32), μ))
                  else
                    jgd (jobC 1 (μ.1 a3)) <|
                    obd (g_Chain_sort a3 μ.1) fun x11 =>
                    jgd (jobC 0 (μ.1 v0)) <|
                    obd (g_B_numbersOf v0 x11 μ.1) fun x13 =>
                    jon x13 (
                      some ((-1 : Int32), μ))
                    fun a14 =>
                      obd (if jobC 5 (μ.1 a14) = true then g_Real_holds a14 v5 μ.1 else jgd (jobC 8 (μ.1 a14)) (some (g_Shorts_holds a14 v5))) fun x15 =>
                      if x15 = true then (
                        jnew 4 μ fun a16 μ17 =>
                        obd (if jobC 5 (μ17.1 a14) = true then g_Real_clean a14 v5 μ17.1 else jgd (jobC 8 (μ17.1 a14)) (some (g_Shorts_clean a14 v5))) fun x18 =>
                        obd (g_Loop_init B a16 v2 v3 v4 x18 μ17) fun μ19 =>
                        jgd (jobC 1 (μ19.1 a3)) <|
                        obd (g_Chain_tie B a3 (some a16) μ19) fun μ21 =>
                        obd (jgI μ21.1 a3 1 4) fun x22 =>
                        some (x22, μ21))
                      else
                        some ((-1 : Int32), μ))
      else
        some ((-1 : Int32), μ))
    fun a5 =>
      some ((-1 : Int32), μ)
/-! FilterBench.chain(II)I -/
set_option maxRecDepth 10000 in
def g_B_chain_2 (v0 : Nat) (v1 : Int32) (v2 : Int32)  (h : Nat → Option JCell) : Option Int32 :=
  jgd (jobC 0 (h v0)) <|
  obd (g_B_chainAt v0 v1 h) fun x2 =>
  jon x2 (
    some (-1 : Int32))
  fun a3 =>
    if v2 = 0 then (
      obd (jgI h a3 1 2) fun x4 =>
      some x4)
    else
    if v2 = 1 then (
      obd (jgI h a3 1 4) fun x5 =>
      some x5)
    else
    if v2 = 2 then (
      obd (jgI h a3 1 8) fun x6 =>
      some x6)
    else
    if v2 = 3 then (
      obd (jgA h a3 1 9) fun x7 =>
      jon x7 (
        some (-1 : Int32))
      fun a8 =>
        obd (jgA h a3 1 9) fun x9 =>
        obd x9 fun a10 =>
        obd (jgI h a10 7 0) fun x11 =>
        some x11)
    else
    if v2 = 4 then (
      jgd (jobC 1 (h a3)) <|
      obd (g_Chain_sort a3 h) fun x13 =>
      some x13)
    else
    some (-1 : Int32)
/-! FilterBench.count(I)I -/
set_option maxRecDepth 10000 in
def g_B_count (v0 : Nat) (v1 : Int32)  (h : Nat → Option JCell) : Option Int32 :=
  if v1 = 0 then (
    obd (jgI h v0 0 4) fun x1 =>
    some x1)
  else
  if v1 = 1 then (
    obd (jgI h v0 0 6) fun x2 =>
    some x2)
  else
  if v1 = 2 then (
    obd (jgI h v0 0 8) fun x3 =>
    some x3)
  else
  some (-1 : Int32)
/-! FilterBench.fedAlone(I)LFilterBench$Chain; -/
set_option maxRecDepth 10000 in
def g_B_fedAlone_24  (h : Nat → Option JCell) : Option (Option Nat) :=
  some none
set_option maxRecDepth 10000 in
def g_B_fedAlone (v0 : Nat) (v1 : Int32)  (h : Nat → Option JCell) : Option (Option Nat) :=
  jgd (jobC 0 (h v0)) <|
  obd (g_B_chainAt v0 v1 h) fun x2 =>
  jon x2 (
    g_B_fedAlone_24 h)
  fun a3 =>
    obd (jgI h a3 1 2) fun x4 =>
    if x4 = 0 then (
      g_B_fedAlone_24 h)
    else
      obd (jgA h a3 1 9) fun x5 =>
      jon x5 (
        some (some a3))
      fun a6 =>
        g_B_fedAlone_24 h
/-! FilterBench$Chain.emit(J)V -/
set_option maxRecDepth 10000 in
def g_Chain_emit_84 (B : Nat) (v0 : Nat) (s0 : Int32) (s1 : Nat)  (μ : JMem) : Option JMem :=
  obd (jpF B 1 7 s1 (.int s0) μ) fun μ1 =>
  obd (jgI μ1.1 v0 1 8) fun x2 =>
  obd (jpF B 1 8 v0 (.int (x2 + (1 : Int32))) μ1) fun μ3 =>
  some μ3
set_option maxRecDepth 10000 in
def g_Chain_emit_55 (B : Nat) (v0 : Nat) (s0 : Int32) (s1 : Nat)  (μ : JMem) : Option JMem :=
  obd (jpF B 1 6 s1 (.int s0) μ) fun μ1 =>
  obd (jgI μ1.1 v0 1 7) fun x2 =>
  obd (jgA μ1.1 v0 1 5) fun x3 =>
  obd x3 fun a4 =>
  obd (jal μ1.1 a4) fun x5 =>
  if x5 ≤ x2 then (
    obd (jgI μ1.1 v0 1 7) fun x6 =>
    g_Chain_emit_84 B v0 x6 v0 μ1)
  else
    obd (jgI μ1.1 v0 1 7) fun x7 =>
    g_Chain_emit_84 B v0 (x7 + (1 : Int32)) v0 μ1
set_option maxRecDepth 10000 in
def g_Chain_emit (B : Nat) (v0 : Nat) (v1 : Int64)  (μ : JMem) : Option JMem :=
  obd (jgI μ.1 v0 1 6) fun x1 =>
  if x1 < 0 then (
    some μ)
  else
    obd (jgI μ.1 v0 1 6) fun x2 =>
    obd (jgA μ.1 v0 1 5) fun x3 =>
    obd x3 fun a4 =>
    obd (jal μ.1 a4) fun x5 =>
    if x2 < x5 then (
      obd (jgA μ.1 v0 1 5) fun x6 =>
      obd (jgI μ.1 v0 1 6) fun x7 =>
      obd x6 fun a8 =>
      obd (jpA B .long a8 x7 (.long v1) μ) fun μ9 =>
      obd (jgI μ9.1 v0 1 6) fun x10 =>
      obd (jgA μ9.1 v0 1 5) fun x11 =>
      obd x11 fun a12 =>
      obd (jal μ9.1 a12) fun x13 =>
      if (x10 + (1 : Int32)) < x13 then (
        obd (jgI μ9.1 v0 1 6) fun x14 =>
        g_Chain_emit_55 B v0 (x14 + (1 : Int32)) v0 μ9)
      else
        g_Chain_emit_55 B v0 (0 : Int32) v0 μ9)
    else
      some μ
/-! FilterBench$Chain.loopAt(I)LFilterBench$Loop; -/
set_option maxRecDepth 10000 in
def g_Chain_loopAt_21  (h : Nat → Option JCell) : Option (Option Nat) :=
  some none
set_option maxRecDepth 10000 in
def g_Chain_loopAt (v0 : Nat) (v1 : Int32)  (h : Nat → Option JCell) : Option (Option Nat) :=
  if v1 < 0 then (
    g_Chain_loopAt_21 h)
  else
    obd (jgI h v0 1 4) fun x1 =>
    if x1 ≤ v1 then (
      g_Chain_loopAt_21 h)
    else
      obd (jgA h v0 1 3) fun x2 =>
      obd x2 fun a3 =>
      obd (jal h a3) fun x4 =>
      if v1 < x4 then (
        obd (jgA h v0 1 3) fun x5 =>
        obd x5 fun a6 =>
        obd (jaA h a6 v1) fun x7 =>
        some x7)
      else
        g_Chain_loopAt_21 h
/-! FilterBench$Real.exponent(J)I -/
set_option maxRecDepth 10000 in
def g_Real_exponent_17 (v0 : Nat) (s0 : Int32)  (h : Nat → Option JCell) : Option Int32 :=
  obd (jgI h v0 5 3) fun x1 =>
  obd (jgI h v0 5 0) fun x2 =>
  some ((s0 - x1) - x2)
set_option maxRecDepth 10000 in
def g_Real_exponent (v0 : Nat) (v1 : Int64)  (h : Nat → Option JCell) : Option Int32 :=
  obd (jgI h v0 5 0) fun x1 =>
  jlet (Int64.toInt32 ((v1).toUInt64 >>> ((x1).toInt64.toUInt64 &&& Int64.toUInt64 63)).toInt64) fun (v3_2 : Int32) =>
  if v3_2 = 0 then (
    g_Real_exponent_17 v0 (1 : Int32) h)
  else
    g_Real_exponent_17 v0 v3_2 h
/-! FilterBench$Real.mantissa(J)J -/
set_option maxRecDepth 10000 in
def g_Real_mantissa (v0 : Nat) (v1 : Int64)  (h : Nat → Option JCell) : Option Int64 :=
  obd (jgJ h v0 5 1) fun x1 =>
  if x1 ≤ v1 then (
    obd (jgJ h v0 5 1) fun x2 =>
    obd (jgJ h v0 5 1) fun x3 =>
    some ((v1 &&& (x2 - (1 : Int64))) ||| x3))
  else
    some v1
/-! FilterBench$Numbers.halfEven(JI)J -/
set_option maxRecDepth 10000 in
def g_Numbers_halfEven_58 (v3 : Int64)  : Int64 :=
  (v3 + (1 : Int64))
set_option maxRecDepth 10000 in
def g_Numbers_halfEven (v0 : Int64) (v2 : Int32)  : Int64 :=
  if 0 < v2 then (
    if v2 ≤ (63 : Int32) then (
      jlet (((v0).toUInt64 >>> ((v2).toInt64.toUInt64 &&& Int64.toUInt64 63)).toInt64) fun (v3_1 : Int64) =>
      jlet (v0 &&& (((1 : Int64) <<< (Int32.toInt64 v2 &&& 63)) - (1 : Int64))) fun (v5_2 : Int64) =>
      jlet ((1 : Int64) <<< (Int32.toInt64 (v2 - (1 : Int32)) &&& 63)) fun (v7_3 : Int64) =>
      if v7_3 < v5_2 then (
        g_Numbers_halfEven_58 v3_1)
      else
        if v5_2 = v7_3 then (
          if (v3_1 &&& (1 : Int64)) = (1 : Int64) then (
            g_Numbers_halfEven_58 v3_1)
          else
            v3_1)
        else
          v3_1)
    else
      (0 : Int64))
  else
    v0
/-! FilterBench$Real.lead(J)I -/
set_option maxRecDepth 10000 in
def g_Real_lead_89 (v2 : Int64) (v4 : Int32)  : Int32 :=
  if ((v2).toUInt64 >>> (((62 : Int32)).toInt64.toUInt64 &&& Int64.toUInt64 63)).toInt64 = (0 : Int64) then (
    (v4 + (1 : Int32)))
  else
    v4
set_option maxRecDepth 10000 in
def g_Real_lead_73 (v2 : Int64) (v4 : Int32)  : Int32 :=
  if ((v2).toUInt64 >>> (((61 : Int32)).toInt64.toUInt64 &&& Int64.toUInt64 63)).toInt64 = (0 : Int64) then (
    jlet (v2 <<< (Int32.toInt64 (2 : Int32) &&& 63)) fun (v2_1 : Int64) =>
    g_Real_lead_89 v2_1 (v4 + 2))
  else
    g_Real_lead_89 v2 v4
set_option maxRecDepth 10000 in
def g_Real_lead_57 (v2 : Int64) (v4 : Int32)  : Int32 :=
  if ((v2).toUInt64 >>> (((59 : Int32)).toInt64.toUInt64 &&& Int64.toUInt64 63)).toInt64 = (0 : Int64) then (
    jlet (v2 <<< (Int32.toInt64 (4 : Int32) &&& 63)) fun (v2_1 : Int64) =>
    g_Real_lead_73 v2_1 (v4 + 4))
  else
    g_Real_lead_73 v2 v4
set_option maxRecDepth 10000 in
def g_Real_lead_40 (v2 : Int64) (v4 : Int32)  : Int32 :=
  if ((v2).toUInt64 >>> (((55 : Int32)).toInt64.toUInt64 &&& Int64.toUInt64 63)).toInt64 = (0 : Int64) then (
    jlet (v2 <<< (Int32.toInt64 (8 : Int32) &&& 63)) fun (v2_1 : Int64) =>
    g_Real_lead_57 v2_1 (v4 + 8))
  else
    g_Real_lead_57 v2 v4
set_option maxRecDepth 10000 in
def g_Real_lead_23 (v2 : Int64) (v4 : Int32)  : Int32 :=
  if ((v2).toUInt64 >>> (((47 : Int32)).toInt64.toUInt64 &&& Int64.toUInt64 63)).toInt64 = (0 : Int64) then (
    jlet (v2 <<< (Int32.toInt64 (16 : Int32) &&& 63)) fun (v2_1 : Int64) =>
    g_Real_lead_40 v2_1 (v4 + 16))
  else
    g_Real_lead_40 v2 v4
set_option maxRecDepth 10000 in
def g_Real_lead (v0 : Int64)  : Int32 :=
  if ((v0).toUInt64 >>> (((31 : Int32)).toInt64.toUInt64 &&& Int64.toUInt64 63)).toInt64 = (0 : Int64) then (
    jlet (v0 <<< (Int32.toInt64 (32 : Int32) &&& 63)) fun (v2_1 : Int64) =>
    g_Real_lead_23 v2_1 (32 : Int32))
  else
    g_Real_lead_23 v0 (0 : Int32)
/-! FilterBench$Real.signed(ZJ)J -/
set_option maxRecDepth 10000 in
def g_Real_signed (v0 : Nat) (v1 : Bool) (v2 : Int64)  (h : Nat → Option JCell) : Option Int64 :=
  if v1 = true then (
    obd (jgJ h v0 5 4) fun x1 =>
    some (v2 ||| x1))
  else
    some v2
/-! FilterBench$Real.packed(ZIJ)J -/
set_option maxRecDepth 10000 in
def g_Real_packed_66 (v0 : Nat) (v1 : Bool) (v3 : Int64) (v5 : Int32) (v6 : Int32) (v7 : Int32)  (h : Nat → Option JCell) : Option Int64 :=
  obd (jgI h v0 5 0) fun x1 =>
  jlet (((Int32.toInt64 (v6 - (1 : Int32))) <<< (Int32.toInt64 x1 &&& 63)) + (g_Numbers_halfEven (v3 <<< (Int32.toInt64 v5 &&& 63)) v7)) fun (v8_2 : Int64) =>
  jgd (jobC 5 (h v0)) <|
  obd (g_Real_signed v0 v1 v8_2 h) fun x4 =>
  some x4
set_option maxRecDepth 10000 in
def g_Real_packed (v0 : Nat) (v1 : Bool) (v2 : Int32) (v3 : Int64)  (h : Nat → Option JCell) : Option Int64 :=
  obd (jgI h v0 5 3) fun x1 =>
  jlet (((v2 - (g_Real_lead v3)) + (62 : Int32)) + x1) fun (v6_2 : Int32) =>
  obd (jgI h v0 5 2) fun x3 =>
  if v6_2 < x3 then (
    obd (jgI h v0 5 0) fun x4 =>
    if (1 : Int32) ≤ v6_2 then (
      g_Real_packed_66 v0 v1 v3 (g_Real_lead v3) v6_2 ((62 : Int32) - x4) h)
    else
      jlet (((62 : Int32) - x4) + ((1 : Int32) - v6_2)) fun (v7_5 : Int32) =>
      g_Real_packed_66 v0 v1 v3 (g_Real_lead v3) (1 : Int32) v7_5 h)
  else
    obd (jgJ h v0 5 5) fun x6 =>
    jgd (jobC 5 (h v0)) <|
    obd (g_Real_signed v0 v1 x6 h) fun x8 =>
    some x8
/-! FilterBench$Real.shifted(JI)J -/
set_option maxRecDepth 10000 in
def g_Real_shifted (v0 : Int64) (v2 : Int32)  : Int64 :=
  if 0 < v2 then (
    if v2 ≤ (62 : Int32) then (
      jlet (((v0).toUInt64 >>> ((v2).toInt64.toUInt64 &&& Int64.toUInt64 63)).toInt64) fun (v3_1 : Int64) =>
      if (v3_1 <<< (Int32.toInt64 v2 &&& 63)) = v0 then (
        v3_1)
      else
        (v3_1 ||| (1 : Int64)))
    else
      (1 : Int64))
  else
    v0
/-! FilterBench$Real.added(ZJZJ)J -/
set_option maxRecDepth 10000 in
def g_Real_added_62 (v0 : Nat) (v1 : Bool) (v7 : Int32) (s0 : Int64)  (h : Nat → Option JCell) : Option Int64 :=
  if s0 = (0 : Int64) then (
    some (0 : Int64))
  else
    jgd (jobC 5 (h v0)) <|
    obd (g_Real_packed v0 v1 (v7 - (9 : Int32)) s0 h) fun x2 =>
    some x2
set_option maxRecDepth 10000 in
def g_Real_added (v0 : Nat) (v1 : Bool) (v2 : Int64) (v4 : Bool) (v5 : Int64)  (h : Nat → Option JCell) : Option Int64 :=
  jgd (jobC 5 (h v0)) <|
  obd (g_Real_exponent v0 v2 h) fun x2 =>
  jgd (jobC 5 (h v0)) <|
  obd (g_Real_exponent v0 v5 h) fun x4 =>
  jgd (jobC 5 (h v0)) <|
  obd (g_Real_mantissa v0 v2 h) fun x6 =>
  jlet (x6 <<< (Int32.toInt64 (9 : Int32) &&& 63)) fun (v9_7 : Int64) =>
  jgd (jobC 5 (h v0)) <|
  obd (g_Real_mantissa v0 v5 h) fun x9 =>
  jlet (g_Real_shifted (x9 <<< (Int32.toInt64 (9 : Int32) &&& 63)) (x2 - x4)) fun (v11_10 : Int64) =>
  if v4 = true then (
    g_Real_added_62 v0 v1 x2 (v9_7 + v11_10) h)
  else
    g_Real_added_62 v0 v1 x2 (v9_7 - v11_10) h
/-! FilterBench$Real.sizeOf(J)J -/
set_option maxRecDepth 10000 in
def g_Real_sizeOf (v0 : Nat) (v1 : Int64)  (h : Nat → Option JCell) : Option Int64 :=
  obd (jgJ h v0 5 4) fun x1 =>
  some (v1 &&& (x1 ^^^ (-1 : Int64)))
/-! FilterBench$Real.withInfinity(JJ)J -/
set_option maxRecDepth 10000 in
def g_Real_withInfinity_16 (v0 : Nat)  (h : Nat → Option JCell) : Option Int64 :=
  obd (jgJ h v0 5 6) fun x1 =>
  some x1
set_option maxRecDepth 10000 in
def g_Real_withInfinity (v0 : Nat) (v1 : Int64) (v3 : Int64)  (h : Nat → Option JCell) : Option Int64 :=
  jgd (jobC 5 (h v0)) <|
  obd (g_Real_isNumber v0 v1 h) fun x2 =>
  if x2 = true then (
    jgd (jobC 5 (h v0)) <|
    obd (g_Real_isNumber v0 v3 h) fun x4 =>
    if x4 = true then (
      jgd (jobC 5 (h v0)) <|
      obd (g_Real_sizeOf v0 v1 h) fun x6 =>
      obd (jgJ h v0 5 5) fun x7 =>
      if x6 = x7 then (
        jgd (jobC 5 (h v0)) <|
        obd (g_Real_sizeOf v0 v3 h) fun x9 =>
        obd (jgJ h v0 5 5) fun x10 =>
        if x9 = x10 then (
          if v1 = v3 then (
            some v1)
          else
            obd (jgJ h v0 5 6) fun x11 =>
            some x11)
        else
          some v1)
      else
        some v3)
    else
      g_Real_withInfinity_16 v0 h)
  else
    g_Real_withInfinity_16 v0 h
/-! FilterBench$Real.plus(JJ)J -/
set_option maxRecDepth 10000 in
def g_Real_plus_34 (v0 : Nat) (v1 : Int64) (v3 : Int64)  (h : Nat → Option JCell) : Option Int64 :=
  jgd (jobC 5 (h v0)) <|
  obd (g_Real_withInfinity v0 v1 v3 h) fun x2 =>
  some x2
set_option maxRecDepth 10000 in
def g_Real_plus_55 (v1 : Int64) (v3 : Int64) (v5 : Int64) (v7 : Int64)  (h : Nat → Option JCell) : Option Int64 :=
  if v5 = (0 : Int64) then (
    if v7 = (0 : Int64) then (
      some (v1 &&& v3))
    else
      some v3)
  else
    some v1
set_option maxRecDepth 10000 in
def g_Real_plus_133 (v7 : Int64) (s0 : Bool) (s1 : Int64) (s2 : Bool) (s3 : Nat)  (h : Nat → Option JCell) : Option Int64 :=
  jgd (jobC 5 (h s3)) <|
  obd (g_Real_added s3 s2 s1 s0 v7 h) fun x2 =>
  some x2
set_option maxRecDepth 10000 in
def g_Real_plus_125 (v7 : Int64) (s0 : Bool) (s1 : Bool) (s2 : Int64) (s3 : Bool) (s4 : Nat)  (h : Nat → Option JCell) : Option Int64 :=
  if s1 = s0 then (
    g_Real_plus_133 v7 true s2 s3 s4 h)
  else
    g_Real_plus_133 v7 false s2 s3 s4 h
set_option maxRecDepth 10000 in
def g_Real_plus_114 (v3 : Int64) (v7 : Int64) (s0 : Bool) (s1 : Int64) (s2 : Bool) (s3 : Nat)  (h : Nat → Option JCell) : Option Int64 :=
  if (0 : Int64) ≤ v3 then (
    g_Real_plus_125 v7 false s0 s1 s2 s3 h)
  else
    g_Real_plus_125 v7 true s0 s1 s2 s3 h
set_option maxRecDepth 10000 in
def g_Real_plus_101 (v1 : Int64) (v3 : Int64) (v5 : Int64) (v7 : Int64) (s0 : Bool) (s1 : Nat)  (h : Nat → Option JCell) : Option Int64 :=
  if (0 : Int64) ≤ v1 then (
    g_Real_plus_114 v3 v7 false v5 s0 s1 h)
  else
    g_Real_plus_114 v3 v7 true v5 s0 s1 h
set_option maxRecDepth 10000 in
def g_Real_plus_185 (v5 : Int64) (s0 : Bool) (s1 : Int64) (s2 : Bool) (s3 : Nat)  (h : Nat → Option JCell) : Option Int64 :=
  jgd (jobC 5 (h s3)) <|
  obd (g_Real_added s3 s2 s1 s0 v5 h) fun x2 =>
  some x2
set_option maxRecDepth 10000 in
def g_Real_plus_177 (v5 : Int64) (s0 : Bool) (s1 : Bool) (s2 : Int64) (s3 : Bool) (s4 : Nat)  (h : Nat → Option JCell) : Option Int64 :=
  if s1 = s0 then (
    g_Real_plus_185 v5 true s2 s3 s4 h)
  else
    g_Real_plus_185 v5 false s2 s3 s4 h
set_option maxRecDepth 10000 in
def g_Real_plus_166 (v3 : Int64) (v5 : Int64) (s0 : Bool) (s1 : Int64) (s2 : Bool) (s3 : Nat)  (h : Nat → Option JCell) : Option Int64 :=
  if (0 : Int64) ≤ v3 then (
    g_Real_plus_177 v5 false s0 s1 s2 s3 h)
  else
    g_Real_plus_177 v5 true s0 s1 s2 s3 h
set_option maxRecDepth 10000 in
def g_Real_plus_153 (v1 : Int64) (v3 : Int64) (v5 : Int64) (v7 : Int64) (s0 : Bool) (s1 : Nat)  (h : Nat → Option JCell) : Option Int64 :=
  if (0 : Int64) ≤ v1 then (
    g_Real_plus_166 v3 v5 false v7 s0 s1 h)
  else
    g_Real_plus_166 v3 v5 true v7 s0 s1 h
set_option maxRecDepth 10000 in
def g_Real_plus (v0 : Nat) (v1 : Int64) (v3 : Int64)  (h : Nat → Option JCell) : Option Int64 :=
  jgd (jobC 5 (h v0)) <|
  obd (g_Real_sizeOf v0 v1 h) fun x2 =>
  jgd (jobC 5 (h v0)) <|
  obd (g_Real_sizeOf v0 v3 h) fun x4 =>
  obd (jgJ h v0 5 5) fun x5 =>
  if x5 ≤ x2 then (
    g_Real_plus_34 v0 v1 v3 h)
  else
    obd (jgJ h v0 5 5) fun x6 =>
    if x4 < x6 then (
      if x2 = (0 : Int64) then (
        g_Real_plus_55 v1 v3 x2 x4 h)
      else
        if x4 = (0 : Int64) then (
          g_Real_plus_55 v1 v3 x2 x4 h)
        else
          if x2 < x4 then (
            if (0 : Int64) ≤ v3 then (
              g_Real_plus_153 v1 v3 x2 x4 false v0 h)
            else
              g_Real_plus_153 v1 v3 x2 x4 true v0 h)
          else
            if (0 : Int64) ≤ v1 then (
              g_Real_plus_101 v1 v3 x2 x4 false v0 h)
            else
              g_Real_plus_101 v1 v3 x2 x4 true v0 h)
    else
      g_Real_plus_34 v0 v1 v3 h
/-! FilterBench$Real.highProduct(JJ)J -/
set_option maxRecDepth 10000 in
def g_Real_highProduct (v0 : Int64) (v2 : Int64)  : Int64 :=
  jlet (((v0).toUInt64 >>> (((27 : Int32)).toInt64.toUInt64 &&& Int64.toUInt64 63)).toInt64) fun (v4_1 : Int64) =>
  jlet (((v2).toUInt64 >>> (((27 : Int32)).toInt64.toUInt64 &&& Int64.toUInt64 63)).toInt64) fun (v8_2 : Int64) =>
  jlet ((v0 &&& (134217727 : Int64)) * (v2 &&& (134217727 : Int64))) fun (v12_3 : Int64) =>
  jlet (((v4_1 * (v2 &&& (134217727 : Int64))) + ((v0 &&& (134217727 : Int64)) * v8_2)) + ((v12_3).toUInt64 >>> (((27 : Int32)).toInt64.toUInt64 &&& Int64.toUInt64 63)).toInt64) fun (v14_4 : Int64) =>
  jlet ((v4_1 * v8_2) + ((v14_4).toUInt64 >>> (((27 : Int32)).toInt64.toUInt64 &&& Int64.toUInt64 63)).toInt64) fun (v16_5 : Int64) =>
  jlet (((v14_4 &&& (134217727 : Int64)) <<< (Int32.toInt64 (27 : Int32) &&& 63)) ||| (v12_3 &&& (134217727 : Int64))) fun (v18_6 : Int64) =>
  jlet ((v16_5 <<< (Int32.toInt64 (10 : Int32) &&& 63)) ||| ((v18_6).toUInt64 >>> (((44 : Int32)).toInt64.toUInt64 &&& Int64.toUInt64 63)).toInt64) fun (v20_7 : Int64) =>
  if (v18_6 &&& (17592186044415 : Int64)) = (0 : Int64) then (
    v20_7)
  else
    (v20_7 ||| (1 : Int64))
/-! FilterBench$Real.product(JJ)J -/
set_option maxRecDepth 10000 in
def g_Real_product_100 (v0 : Nat)  (h : Nat → Option JCell) : Option Int64 :=
  obd (jgJ h v0 5 6) fun x1 =>
  some x1
set_option maxRecDepth 10000 in
def g_Real_product_66 (v0 : Nat) (v5 : Int64) (v7 : Int64) (v9 : Bool)  (h : Nat → Option JCell) : Option Int64 :=
  obd (jgJ h v0 5 5) fun x1 =>
  if x1 < v5 then (
    g_Real_product_100 v0 h)
  else
    obd (jgJ h v0 5 5) fun x2 =>
    if x2 < v7 then (
      g_Real_product_100 v0 h)
    else
      if v5 = (0 : Int64) then (
        g_Real_product_100 v0 h)
      else
        if v7 = (0 : Int64) then (
          g_Real_product_100 v0 h)
        else
          obd (jgJ h v0 5 5) fun x3 =>
          jgd (jobC 5 (h v0)) <|
          obd (g_Real_signed v0 v9 x3 h) fun x5 =>
          some x5
set_option maxRecDepth 10000 in
def g_Real_product_132 (v0 : Nat) (v9 : Bool)  (h : Nat → Option JCell) : Option Int64 :=
  jgd (jobC 5 (h v0)) <|
  obd (g_Real_signed v0 v9 (0 : Int64) h) fun x2 =>
  some x2
set_option maxRecDepth 10000 in
def g_Real_product_44 (v0 : Nat) (v5 : Int64) (v7 : Int64) (s0 : Bool)  (h : Nat → Option JCell) : Option Int64 :=
  obd (jgJ h v0 5 5) fun x1 =>
  if x1 ≤ v5 then (
    g_Real_product_66 v0 v5 v7 s0 h)
  else
    obd (jgJ h v0 5 5) fun x2 =>
    if v7 < x2 then (
      if v5 = (0 : Int64) then (
        g_Real_product_132 v0 s0 h)
      else
        if v7 = (0 : Int64) then (
          g_Real_product_132 v0 s0 h)
        else
          jgd (jobC 5 (h v0)) <|
          obd (g_Real_mantissa v0 v5 h) fun x4 =>
          jgd (jobC 5 (h v0)) <|
          obd (g_Real_mantissa v0 v7 h) fun x6 =>
          jlet (((g_Real_lead x4) - (62 : Int32)) + (52 : Int32)) fun (v14_7 : Int32) =>
          jlet (((g_Real_lead x6) - (62 : Int32)) + (52 : Int32)) fun (v15_8 : Int32) =>
          jgd (jobC 5 (h v0)) <|
          obd (g_Real_exponent v0 v5 h) fun x10 =>
          jgd (jobC 5 (h v0)) <|
          obd (g_Real_exponent v0 v7 h) fun x12 =>
          jgd (jobC 5 (h v0)) <|
          obd (g_Real_packed v0 s0 ((((x10 - v14_7) + x12) - v15_8) + (44 : Int32)) (g_Real_highProduct (x4 <<< (Int32.toInt64 v14_7 &&& 63)) (x6 <<< (Int32.toInt64 v15_8 &&& 63))) h) fun x14 =>
          some x14)
    else
      g_Real_product_66 v0 v5 v7 s0 h
set_option maxRecDepth 10000 in
def g_Real_product_36 (v0 : Nat) (v5 : Int64) (v7 : Int64) (s0 : Bool) (s1 : Bool)  (h : Nat → Option JCell) : Option Int64 :=
  if s1 = s0 then (
    g_Real_product_44 v0 v5 v7 false h)
  else
    g_Real_product_44 v0 v5 v7 true h
set_option maxRecDepth 10000 in
def g_Real_product_25 (v0 : Nat) (v3 : Int64) (v5 : Int64) (v7 : Int64) (s0 : Bool)  (h : Nat → Option JCell) : Option Int64 :=
  if (0 : Int64) ≤ v3 then (
    g_Real_product_36 v0 v5 v7 false s0 h)
  else
    g_Real_product_36 v0 v5 v7 true s0 h
set_option maxRecDepth 10000 in
def g_Real_product (v0 : Nat) (v1 : Int64) (v3 : Int64)  (h : Nat → Option JCell) : Option Int64 :=
  jgd (jobC 5 (h v0)) <|
  obd (g_Real_sizeOf v0 v1 h) fun x2 =>
  jgd (jobC 5 (h v0)) <|
  obd (g_Real_sizeOf v0 v3 h) fun x4 =>
  if (0 : Int64) ≤ v1 then (
    g_Real_product_25 v0 v3 x2 x4 false h)
  else
    g_Real_product_25 v0 v3 x2 x4 true h
/-! FilterBench$Real.term(J)J -/
set_option maxRecDepth 10000 in
def g_Real_term_e (v1 : Int64)  : Int64 :=
  v1
set_option maxRecDepth 10000 in
def g_Real_term (v0 : Nat) (v1 : Int64)  : Int64 := g_Real_term_e  v1
/-! FilterBench$Row.put(IJ)V -/
set_option maxRecDepth 10000 in
def g_Row_put (B : Nat) (v0 : Nat) (v1 : Int32) (v2 : Int64)  (μ : JMem) : Option JMem :=
  if v1 < 0 then (
    some μ)
  else
    obd (jgA μ.1 v0 6 0) fun x1 =>
    obd x1 fun a2 =>
    obd (jal μ.1 a2) fun x3 =>
    if x3 ≤ v1 then (
      some μ)
    else
      obd (jgA μ.1 v0 6 0) fun x4 =>
      jgd (jobC 6 (μ.1 v0)) <|
      obd (g_Row_index v0 v1 μ.1) fun x6 =>
      obd x4 fun a7 =>
      obd (jpA B .long a7 x6 (.long v2) μ) fun μ8 =>
      some μ8
/-! FilterBench$Shorts.isShort(J)Z -/
set_option maxRecDepth 10000 in
def g_Shorts_isShort (v0 : Int64)  : Bool :=
  if v0 < (-32768 : Int64) then (
    false)
  else
    if (32767 : Int64) < v0 then (
      false)
    else
      true
/-! FilterBench$Shorts.cut(J)J -/
set_option maxRecDepth 10000 in
def g_Shorts_cut (v0 : Int64)  : Int64 :=
  if v0 ≤ (32767 : Int64) then (
    if (-32768 : Int64) ≤ v0 then (
      v0)
    else
      (-32768 : Int64))
  else
    (32767 : Int64)
/-! FilterBench$Shorts.limited(JI)J -/
set_option maxRecDepth 10000 in
def g_Shorts_limited (v0 : Int64) (v2 : Int32)  : Int64 :=
  if v2 = 0 then (
    (g_Shorts_cut v0))
  else
    (Int32.toInt64 (Int16.toInt32 (Int32.toInt16 (Int64.toInt32 v0))))
/-! FilterBench$Shorts.rounded(JI)J -/
set_option maxRecDepth 10000 in
def g_Shorts_rounded (v0 : Int64) (v2 : Int32)  : Int64 :=
  if v2 = 0 then (
    ((v0 + (8192 : Int64)) >>> (Int32.toInt64 (14 : Int32) &&& 63)))
  else
    (v0 / (16384 : Int64))
/-! FilterBench$Section.settled(J)J -/
set_option maxRecDepth 10000 in
def g_Section_settled_67 (B : Nat) (v0 : Nat) (v5 : Int64)  (μ : JMem) : Option (Int64 × JMem) :=
  if (g_Shorts_isShort v5) = true then (
    some (v5, μ))
  else
    obd (jgI μ.1 v0 7 10) fun x1 =>
    obd (jpF B 7 10 v0 (.int (x1 + (1 : Int32))) μ) fun μ2 =>
    obd (jgI μ2.1 v0 7 8) fun x3 =>
    some ((g_Shorts_limited v5 x3), μ2)
set_option maxRecDepth 10000 in
def g_Section_settled_32 (B : Nat) (v0 : Nat) (s0 : Int64)  (μ : JMem) : Option (Int64 × JMem) :=
  obd (jgI μ.1 v0 7 7) fun x1 =>
  obd (jgI μ.1 v0 7 7) fun x2 =>
  if x2 = (2 : Int32) then (
    obd (jgA μ.1 v0 7 9) fun x3 =>
    obd x3 fun a4 =>
    jgd (jobC 6 (μ.1 a4)) <|
    obd (g_Row_put B a4 (0 : Int32) (s0 - ((g_Shorts_rounded s0 x1) * (16384 : Int64))) μ) fun μ6 =>
    g_Section_settled_67 B v0 (g_Shorts_rounded s0 x1) μ6)
  else
    g_Section_settled_67 B v0 (g_Shorts_rounded s0 x1) μ
set_option maxRecDepth 10000 in
def g_Section_settled (B : Nat) (v0 : Nat) (v1 : Int64)  (μ : JMem) : Option (Int64 × JMem) :=
  obd (jgI μ.1 v0 7 2) fun x1 =>
  if x1 = (2 : Int32) then (
    obd (jgI μ.1 v0 7 7) fun x2 =>
    if x2 = (2 : Int32) then (
      obd (jgA μ.1 v0 7 9) fun x3 =>
      obd x3 fun a4 =>
      jgd (jobC 6 (μ.1 a4)) <|
      obd (g_Row_at a4 (0 : Int32) μ.1) fun x6 =>
      g_Section_settled_32 B v0 (v1 + x6) μ)
    else
      g_Section_settled_32 B v0 v1 μ)
  else
    some (v1, μ)
/-! FilterBench$Shorts.plus(JJ)J -/
set_option maxRecDepth 10000 in
def g_Shorts_plus_e (v1 : Int64) (v3 : Int64)  : Int64 :=
  (v1 + v3)
set_option maxRecDepth 10000 in
def g_Shorts_plus (v0 : Nat) (v1 : Int64) (v3 : Int64)  : Int64 := g_Shorts_plus_e  v1 v3
/-! FilterBench$Shorts.product(JJ)J -/
set_option maxRecDepth 10000 in
def g_Shorts_product_e (v1 : Int64) (v3 : Int64)  : Int64 :=
  (v1 * v3)
set_option maxRecDepth 10000 in
def g_Shorts_product (v0 : Nat) (v1 : Int64) (v3 : Int64)  : Int64 := g_Shorts_product_e  v1 v3
/-! FilterBench$Shorts.term(J)J -/
set_option maxRecDepth 10000 in
def g_Shorts_term_e (v1 : Int64)  : Int64 :=
  (v1 * (16384 : Int64))
set_option maxRecDepth 10000 in
def g_Shorts_term (v0 : Nat) (v1 : Int64)  : Int64 := g_Shorts_term_e  v1
/-! FilterBench$Chain.looped(ILFilterBench$Section;J)J -/
set_option maxRecDepth 10000 in
def g_Chain_looped_84 (N : Nat) (B : Nat) (k6 : Nat → Int32 → Option Nat → Int64 → Int32 → JMem → Option (Int64 × JMem)) (v0 : Nat) (v1 : Int32) (v2 : Option Nat) (v5 : Int64) (v7 : Int32)  (μ : JMem) : Option (Int64 × JMem) :=
  k6 v0 v1 v2 v5 (v7 + 1) μ
set_option maxRecDepth 10000 in
def g_Chain_looped_6 (N : Nat) (B : Nat) : Nat → Nat → Int32 → Option Nat → Int64 → Int32 → JMem → Option (Int64 × JMem)
  | 0, _, _, _, _, _, _ => none
  | n + 1, v0, v1, v2, v5, v7, μ =>
    obd (jgI μ.1 v0 1 4) fun x1 =>
    if x1 ≤ v7 then (
      some (v5, μ))
    else
      jgd (jobC 1 (μ.1 v0)) <|
      obd (g_Chain_loopAt v0 v7 μ.1) fun x3 =>
      jon x3 (
        g_Chain_looped_84 N B (g_Chain_looped_6 N B n) v0 v1 v2 v5 v7 μ)
      fun a4 =>
        obd (jgI μ.1 a4 4 0) fun x5 =>
        if x5 = v1 then (
          obd v2 fun a6 =>
          obd (jgA μ.1 a6 7 4) fun x7 =>
          obd (jgJ μ.1 a4 4 2) fun x8 =>
          obd (jgA μ.1 a4 4 3) fun x9 =>
          obd x9 fun a10 =>
          jgd (jobC 6 (μ.1 a10)) <|
          obd (g_Row_at a10 (0 : Int32) μ.1) fun x12 =>
          obd x7 fun a13 =>
          obd (if jobC 5 (μ.1 a13) = true then g_Real_product a13 x8 x12 μ.1 else jgd (jobC 8 (μ.1 a13)) (some (g_Shorts_product a13 x8 x12))) fun x14 =>
          obd (jgA μ.1 a6 7 4) fun x15 =>
          obd (jgA μ.1 a6 7 4) fun x16 =>
          obd x16 fun a17 =>
          obd (if jobC 5 (μ.1 a17) = true then some (g_Real_term a17 v5) else jgd (jobC 8 (μ.1 a17)) (some (g_Shorts_term a17 v5))) fun x18 =>
          obd x15 fun a19 =>
          obd (if jobC 5 (μ.1 a19) = true then g_Real_plus a19 x18 x14 μ.1 else jgd (jobC 8 (μ.1 a19)) (some (g_Shorts_plus a19 x18 x14))) fun x20 =>
          jgd (jobC 7 (μ.1 a6)) <|
          jbd2 (g_Section_settled B a6 x20 μ) fun x22 μ23 =>
          g_Chain_looped_84 N B (g_Chain_looped_6 N B n) v0 v1 (some a6) x22 v7 μ23)
        else
          g_Chain_looped_84 N B (g_Chain_looped_6 N B n) v0 v1 v2 v5 v7 μ
set_option maxRecDepth 10000 in
def g_Chain_looped (N : Nat) (B : Nat) (v0 : Nat) (v1 : Int32) (v2 : Option Nat) (v3 : Int64)  (μ : JMem) : Option (Int64 × JMem) :=
  g_Chain_looped_6 N B N v0 v1 v2 v3 (0 : Int32) μ
/-! FilterBench$Chain.madeBefore(I)J -/
set_option maxRecDepth 10000 in
def g_Chain_madeBefore_52  (h : Nat → Option JCell) : Option Int64 :=
  some (0 : Int64)
set_option maxRecDepth 10000 in
def g_Chain_madeBefore_38 (v0 : Nat) (s0 : Int32)  (h : Nat → Option JCell) : Option Int64 :=
  if s0 < 0 then (
    g_Chain_madeBefore_52 h)
  else
    obd (jgA h v0 1 5) fun x1 =>
    obd x1 fun a2 =>
    obd (jal h a2) fun x3 =>
    if s0 < x3 then (
      obd (jgA h v0 1 5) fun x4 =>
      obd x4 fun a5 =>
      obd (jaJ h a5 s0) fun x6 =>
      some x6)
    else
      g_Chain_madeBefore_52 h
set_option maxRecDepth 10000 in
def g_Chain_madeBefore (v0 : Nat) (v1 : Int32)  (h : Nat → Option JCell) : Option Int64 :=
  if v1 < 0 then (
    some (0 : Int64))
  else
    obd (jgI h v0 1 7) fun x1 =>
    if v1 < x1 then (
      obd (jgI h v0 1 6) fun x2 =>
      if 0 ≤ ((x2 - (1 : Int32)) - v1) then (
        g_Chain_madeBefore_38 v0 ((x2 - (1 : Int32)) - v1) h)
      else
        obd (jgA h v0 1 5) fun x3 =>
        obd x3 fun a4 =>
        obd (jal h a4) fun x5 =>
        g_Chain_madeBefore_38 v0 (((x2 - (1 : Int32)) - v1) + x5) h)
    else
      some (0 : Int64)
/-! FilterBench$Chain.madeLast()J -/
set_option maxRecDepth 10000 in
def g_Chain_madeLast (v0 : Nat)  (h : Nat → Option JCell) : Option Int64 :=
  jgd (jobC 1 (h v0)) <|
  obd (g_Chain_madeBefore v0 (0 : Int32) h) fun x2 =>
  some x2
/-! FilterBench$Row.push(J)V -/
set_option maxRecDepth 10000 in
def g_Row_push_31 (B : Nat) (s0 : Int32) (s1 : Nat)  (μ : JMem) : Option JMem :=
  obd (jpF B 6 1 s1 (.int s0) μ) fun μ1 =>
  some μ1
set_option maxRecDepth 10000 in
def g_Row_push (B : Nat) (v0 : Nat) (v1 : Int64)  (μ : JMem) : Option JMem :=
  jgd (jobC 6 (μ.1 v0)) <|
  obd (g_Row_put B v0 (0 : Int32) v1 μ) fun μ2 =>
  obd (jgI μ2.1 v0 6 1) fun x3 =>
  obd (jgA μ2.1 v0 6 0) fun x4 =>
  obd x4 fun a5 =>
  obd (jal μ2.1 a5) fun x6 =>
  if (x3 + (1 : Int32)) < x6 then (
    obd (jgI μ2.1 v0 6 1) fun x7 =>
    g_Row_push_31 B (x7 + (1 : Int32)) v0 μ2)
  else
    g_Row_push_31 B (0 : Int32) v0 μ2
/-! FilterBench$Chain.note(IJ)V -/
set_option maxRecDepth 10000 in
def g_Chain_note_43 (N : Nat) (B : Nat) (k3 : Nat → Int32 → Int64 → Int32 → JMem → Option JMem) (v0 : Nat) (v1 : Int32) (v2 : Int64) (v4 : Int32)  (μ : JMem) : Option JMem :=
  k3 v0 v1 v2 (v4 + 1) μ
set_option maxRecDepth 10000 in
def g_Chain_note_3 (N : Nat) (B : Nat) : Nat → Nat → Int32 → Int64 → Int32 → JMem → Option JMem
  | 0, _, _, _, _, _ => none
  | n + 1, v0, v1, v2, v4, μ =>
    obd (jgI μ.1 v0 1 4) fun x1 =>
    if x1 ≤ v4 then (
      some μ)
    else
      jgd (jobC 1 (μ.1 v0)) <|
      obd (g_Chain_loopAt v0 v4 μ.1) fun x3 =>
      jon x3 (
        g_Chain_note_43 N B (g_Chain_note_3 N B n) v0 v1 v2 v4 μ)
      fun a4 =>
        obd (jgI μ.1 a4 4 1) fun x5 =>
        if x5 = v1 then (
          obd (jgA μ.1 a4 4 3) fun x6 =>
          obd x6 fun a7 =>
          jgd (jobC 6 (μ.1 a7)) <|
          obd (g_Row_push B a7 v2 μ) fun μ9 =>
          g_Chain_note_43 N B (g_Chain_note_3 N B n) v0 v1 v2 v4 μ9)
        else
          g_Chain_note_43 N B (g_Chain_note_3 N B n) v0 v1 v2 v4 μ
set_option maxRecDepth 10000 in
def g_Chain_note (N : Nat) (B : Nat) (v0 : Nat) (v1 : Int32) (v2 : Int64)  (μ : JMem) : Option JMem :=
  g_Chain_note_3 N B N v0 v1 v2 (0 : Int32) μ
/-! FilterBench$Section.letsThrough()Z -/
set_option maxRecDepth 10000 in
def g_Section_letsThrough_33 (B : Nat) (v1 : Int64) (s0 : Int64) (s2 : Option Nat)  (μ : JMem) : Option (Bool × JMem) :=
  obd s2 fun a1 =>
  jgd (jobC 6 (μ.1 a1)) <|
  obd (g_Row_put B a1 (0 : Int32) s0 μ) fun μ3 =>
  if v1 = (0 : Int64) then (
    some (true, μ3))
  else
    some (false, μ3)
set_option maxRecDepth 10000 in
def g_Section_letsThrough (B : Nat) (v0 : Nat)  (μ : JMem) : Option (Bool × JMem) :=
  obd (jgA μ.1 v0 7 6) fun x1 =>
  obd x1 fun a2 =>
  jgd (jobC 6 (μ.1 a2)) <|
  obd (g_Row_at a2 (0 : Int32) μ.1) fun x4 =>
  obd (jgA μ.1 v0 7 6) fun x5 =>
  obd (jgI μ.1 v0 7 3) fun x6 =>
  if (x4 + (1 : Int64)) < (Int32.toInt64 x6) then (
    g_Section_letsThrough_33 B x4 (x4 + (1 : Int64)) x5 μ)
  else
    g_Section_letsThrough_33 B x4 (0 : Int64) x5 μ
/-! java/lang/Long.compare(JJ)I -/
set_option maxRecDepth 10000 in
def g_JLong_compare (v0 : Int64) (v2 : Int64)  : Int32 :=
  if v2 ≤ v0 then (
    if v0 = v2 then (
      (0 : Int32))
    else
      (1 : Int32))
  else
    (-1 : Int32)
/-! FilterBench$Real.compared(JJ)I -/
set_option maxRecDepth 10000 in
def g_Real_compared_32 (s0 : Int64) (s1 : Int64)  (h : Nat → Option JCell) : Option Int32 :=
  some (g_JLong_compare s1 s0)
set_option maxRecDepth 10000 in
def g_Real_compared_16 (v0 : Nat) (v3 : Int64) (s0 : Int64)  (h : Nat → Option JCell) : Option Int32 :=
  if (0 : Int64) ≤ v3 then (
    g_Real_compared_32 v3 s0 h)
  else
    jgd (jobC 5 (h v0)) <|
    obd (g_Real_sizeOf v0 v3 h) fun x2 =>
    g_Real_compared_32 (-x2) s0 h
set_option maxRecDepth 10000 in
def g_Real_compared (v0 : Nat) (v1 : Int64) (v3 : Int64)  (h : Nat → Option JCell) : Option Int32 :=
  if (0 : Int64) ≤ v1 then (
    g_Real_compared_16 v0 v3 v1 h)
  else
    jgd (jobC 5 (h v0)) <|
    obd (g_Real_sizeOf v0 v1 h) fun x2 =>
    g_Real_compared_16 v0 v3 (-x2) h
/-! FilterBench$Shorts.compared(JJ)I -/
set_option maxRecDepth 10000 in
def g_Shorts_compared_e (v1 : Int64) (v3 : Int64)  : Int32 :=
  (g_JLong_compare v1 v3)
set_option maxRecDepth 10000 in
def g_Shorts_compared (v0 : Nat) (v1 : Int64) (v3 : Int64)  : Int32 := g_Shorts_compared_e  v1 v3
/-! FilterBench$Shorts.isNumber(J)Z -/
set_option maxRecDepth 10000 in
def g_Shorts_isNumber_e  : Bool :=
  true
set_option maxRecDepth 10000 in
def g_Shorts_isNumber (v0 : Nat) (v1 : Int64)  : Bool := g_Shorts_isNumber_e  
/-! FilterBench$Numbers.above(JJ)Z -/
set_option maxRecDepth 10000 in
def g_Numbers_above (v0 : Nat) (v1 : Int64) (v3 : Int64)  (h : Nat → Option JCell) : Option Bool :=
  obd (if jobC 5 (h v0) = true then g_Real_isNumber v0 v1 h else jgd (jobC 8 (h v0)) (some (g_Shorts_isNumber v0 v1))) fun x1 =>
  if x1 = true then (
    obd (if jobC 5 (h v0) = true then g_Real_isNumber v0 v3 h else jgd (jobC 8 (h v0)) (some (g_Shorts_isNumber v0 v3))) fun x2 =>
    if x2 = true then (
      obd (if jobC 5 (h v0) = true then g_Real_compared v0 v1 v3 h else jgd (jobC 8 (h v0)) (some (g_Shorts_compared v0 v1 v3))) fun x3 =>
      if x3 ≤ 0 then (
        some false)
      else
        some true)
    else
      some false)
  else
    some false
/-! FilterBench$Real.negative(J)J -/
set_option maxRecDepth 10000 in
def g_Real_negative (v0 : Nat) (v1 : Int64)  (h : Nat → Option JCell) : Option Int64 :=
  jgd (jobC 5 (h v0)) <|
  obd (g_Real_isNumber v0 v1 h) fun x2 =>
  if x2 = true then (
    obd (jgJ h v0 5 4) fun x3 =>
    some (v1 ^^^ x3))
  else
    obd (jgJ h v0 5 6) fun x4 =>
    some x4
/-! FilterBench$Shorts.negative(J)J -/
set_option maxRecDepth 10000 in
def g_Shorts_negative_e (v1 : Int64)  : Int64 :=
  (g_Shorts_cut (-v1))
set_option maxRecDepth 10000 in
def g_Shorts_negative (v0 : Nat) (v1 : Int64)  : Int64 := g_Shorts_negative_e  v1
/-! FilterBench$Section.clipped(J)J -/
set_option maxRecDepth 10000 in
def g_Section_clipped (B : Nat) (v0 : Nat) (v1 : Int64)  (μ : JMem) : Option (Int64 × JMem) :=
  jgd (jobC 7 (μ.1 v0)) <|
  obd (g_Section_factor v0 (0 : Int32) μ.1) fun x2 =>
  obd (jgA μ.1 v0 7 4) fun x3 =>
  obd x3 fun a4 =>
  obd (if jobC 5 (μ.1 a4) = true then g_Numbers_above a4 v1 x2 μ.1 else jgd (jobC 8 (μ.1 a4)) (g_Numbers_above a4 v1 x2 μ.1)) fun x5 =>
  if x5 = true then (
    obd (jgI μ.1 v0 7 11) fun x6 =>
    obd (jpF B 7 11 v0 (.int (x6 + (1 : Int32))) μ) fun μ7 =>
    some (x2, μ7))
  else
    obd (jgA μ.1 v0 7 4) fun x8 =>
    obd x8 fun a9 =>
    obd (if jobC 5 (μ.1 a9) = true then g_Real_negative a9 x2 μ.1 else jgd (jobC 8 (μ.1 a9)) (some (g_Shorts_negative a9 x2))) fun x10 =>
    obd (jgA μ.1 v0 7 4) fun x11 =>
    obd x11 fun a12 =>
    obd (if jobC 5 (μ.1 a12) = true then g_Numbers_above a12 x10 v1 μ.1 else jgd (jobC 8 (μ.1 a12)) (g_Numbers_above a12 x10 v1 μ.1)) fun x13 =>
    if x13 = true then (
      obd (jgI μ.1 v0 7 11) fun x14 =>
      obd (jpF B 7 11 v0 (.int (x14 + (1 : Int32))) μ) fun μ15 =>
      some (x10, μ15))
    else
      some (v1, μ)
/-! FilterBench$Section.times(IJ)J -/
set_option maxRecDepth 10000 in
def g_Section_times (v0 : Nat) (v1 : Int32) (v2 : Int64)  (h : Nat → Option JCell) : Option Int64 :=
  obd (jgA h v0 7 4) fun x1 =>
  jgd (jobC 7 (h v0)) <|
  obd (g_Section_factor v0 v1 h) fun x3 =>
  obd x1 fun a4 =>
  obd (if jobC 5 (h a4) = true then g_Real_product a4 x3 v2 h else jgd (jobC 8 (h a4)) (some (g_Shorts_product a4 x3 v2))) fun x5 =>
  some x5
/-! FilterBench$Section.comb(J)J -/
set_option maxRecDepth 10000 in
def g_Section_comb (B : Nat) (v0 : Nat) (v1 : Int64)  (μ : JMem) : Option (Int64 × JMem) :=
  obd (jgA μ.1 v0 7 4) fun x1 =>
  obd (jgA μ.1 v0 7 4) fun x2 =>
  obd x2 fun a3 =>
  obd (if jobC 5 (μ.1 a3) = true then some (g_Real_term a3 v1) else jgd (jobC 8 (μ.1 a3)) (some (g_Shorts_term a3 v1))) fun x4 =>
  obd (jgA μ.1 v0 7 6) fun x5 =>
  obd x5 fun a6 =>
  jgd (jobC 6 (μ.1 a6)) <|
  obd (g_Row_at a6 (0 : Int32) μ.1) fun x8 =>
  jgd (jobC 7 (μ.1 v0)) <|
  obd (g_Section_times v0 (0 : Int32) x8 μ.1) fun x10 =>
  obd x1 fun a11 =>
  obd (if jobC 5 (μ.1 a11) = true then g_Real_plus a11 x4 x10 μ.1 else jgd (jobC 8 (μ.1 a11)) (some (g_Shorts_plus a11 x4 x10))) fun x12 =>
  jgd (jobC 7 (μ.1 v0)) <|
  jbd2 (g_Section_settled B v0 x12 μ) fun x14 μ15 =>
  obd (jgA μ15.1 v0 7 6) fun x16 =>
  obd x16 fun a17 =>
  jgd (jobC 6 (μ15.1 a17)) <|
  obd (g_Row_push B a17 x14 μ15) fun μ19 =>
  some (x14, μ19)
/-! FilterBench$Shorts.sizeOf(J)J -/
set_option maxRecDepth 10000 in
def g_Shorts_sizeOf (v0 : Nat) (v1 : Int64)  (h : Nat → Option JCell) : Option Int64 :=
  if (0 : Int64) ≤ v1 then (
    some v1)
  else
    jgd (jobC 8 (h v0)) <|
    some (g_Shorts_negative v0 v1)
/-! FilterBench$Section.deadened(J)J -/
set_option maxRecDepth 10000 in
def g_Section_deadened (B : Nat) (v0 : Nat) (v1 : Int64)  (μ : JMem) : Option (Int64 × JMem) :=
  jgd (jobC 7 (μ.1 v0)) <|
  obd (g_Section_factor v0 (0 : Int32) μ.1) fun x2 =>
  obd (jgA μ.1 v0 7 4) fun x3 =>
  obd x3 fun a4 =>
  obd (if jobC 5 (μ.1 a4) = true then g_Real_isNumber a4 v1 μ.1 else jgd (jobC 8 (μ.1 a4)) (some (g_Shorts_isNumber a4 v1))) fun x5 =>
  if x5 = true then (
    obd (jgA μ.1 v0 7 4) fun x6 =>
    obd x6 fun a7 =>
    obd (if jobC 5 (μ.1 a7) = true then g_Real_isNumber a7 x2 μ.1 else jgd (jobC 8 (μ.1 a7)) (some (g_Shorts_isNumber a7 x2))) fun x8 =>
    if x8 = true then (
      obd (jgA μ.1 v0 7 4) fun x9 =>
      obd (jgA μ.1 v0 7 4) fun x10 =>
      obd x10 fun a11 =>
      obd (if jobC 5 (μ.1 a11) = true then g_Real_sizeOf a11 v1 μ.1 else jgd (jobC 8 (μ.1 a11)) (g_Shorts_sizeOf a11 v1 μ.1)) fun x12 =>
      obd x9 fun a13 =>
      obd (if jobC 5 (μ.1 a13) = true then g_Numbers_above a13 x12 x2 μ.1 else jgd (jobC 8 (μ.1 a13)) (g_Numbers_above a13 x12 x2 μ.1)) fun x14 =>
      if x14 = true then (
        some (v1, μ))
      else
        obd (jgI μ.1 v0 7 11) fun x15 =>
        obd (jpF B 7 11 v0 (.int (x15 + (1 : Int32))) μ) fun μ16 =>
        some ((0 : Int64), μ16))
    else
      some (v1, μ))
  else
    some (v1, μ)
/-! FilterBench$Section.delayed(J)J -/
set_option maxRecDepth 10000 in
def g_Section_delayed (B : Nat) (v0 : Nat) (v1 : Int64)  (μ : JMem) : Option (Int64 × JMem) :=
  obd (jgA μ.1 v0 7 6) fun x1 =>
  obd x1 fun a2 =>
  jgd (jobC 6 (μ.1 a2)) <|
  obd (g_Row_at a2 (0 : Int32) μ.1) fun x4 =>
  obd (jgA μ.1 v0 7 6) fun x5 =>
  obd x5 fun a6 =>
  jgd (jobC 6 (μ.1 a6)) <|
  obd (g_Row_push B a6 v1 μ) fun μ8 =>
  some (x4, μ8)
/-! FilterBench$Real.opposite(J)J -/
set_option maxRecDepth 10000 in
def g_Real_opposite (v0 : Nat) (v1 : Int64)  (h : Nat → Option JCell) : Option Int64 :=
  jgd (jobC 5 (h v0)) <|
  obd (g_Real_negative v0 v1 h) fun x2 =>
  some x2
/-! FilterBench$Shorts.opposite(J)J -/
set_option maxRecDepth 10000 in
def g_Shorts_opposite_e (v1 : Int64)  : Int64 :=
  (-v1)
set_option maxRecDepth 10000 in
def g_Shorts_opposite (v0 : Nat) (v1 : Int64)  : Int64 := g_Shorts_opposite_e  v1
/-! FilterBench$Section.lessTimes(IJ)J -/
set_option maxRecDepth 10000 in
def g_Section_lessTimes (v0 : Nat) (v1 : Int32) (v2 : Int64)  (h : Nat → Option JCell) : Option Int64 :=
  obd (jgA h v0 7 4) fun x1 =>
  obd (jgA h v0 7 4) fun x2 =>
  jgd (jobC 7 (h v0)) <|
  obd (g_Section_factor v0 v1 h) fun x4 =>
  obd x2 fun a5 =>
  obd (if jobC 5 (h a5) = true then g_Real_product a5 x4 v2 h else jgd (jobC 8 (h a5)) (some (g_Shorts_product a5 x4 v2))) fun x6 =>
  obd x1 fun a7 =>
  obd (if jobC 5 (h a7) = true then g_Real_opposite a7 x6 h else jgd (jobC 8 (h a7)) (some (g_Shorts_opposite a7 x6))) fun x8 =>
  some x8
/-! FilterBench$Section.direct(J)J -/
set_option maxRecDepth 10000 in
def g_Section_direct (B : Nat) (v0 : Nat) (v1 : Int64)  (μ : JMem) : Option (Int64 × JMem) :=
  obd (jgA μ.1 v0 7 4) fun x1 =>
  jgd (jobC 7 (μ.1 v0)) <|
  obd (g_Section_times v0 (0 : Int32) v1 μ.1) fun x3 =>
  obd (jgA μ.1 v0 7 6) fun x4 =>
  obd x4 fun a5 =>
  jgd (jobC 6 (μ.1 a5)) <|
  obd (g_Row_at a5 (0 : Int32) μ.1) fun x7 =>
  jgd (jobC 7 (μ.1 v0)) <|
  obd (g_Section_times v0 (1 : Int32) x7 μ.1) fun x9 =>
  obd x1 fun a10 =>
  obd (if jobC 5 (μ.1 a10) = true then g_Real_plus a10 x3 x9 μ.1 else jgd (jobC 8 (μ.1 a10)) (some (g_Shorts_plus a10 x3 x9))) fun x11 =>
  obd (jgA μ.1 v0 7 4) fun x12 =>
  obd (jgA μ.1 v0 7 6) fun x13 =>
  obd x13 fun a14 =>
  jgd (jobC 6 (μ.1 a14)) <|
  obd (g_Row_at a14 (1 : Int32) μ.1) fun x16 =>
  jgd (jobC 7 (μ.1 v0)) <|
  obd (g_Section_times v0 (2 : Int32) x16 μ.1) fun x18 =>
  obd x12 fun a19 =>
  obd (if jobC 5 (μ.1 a19) = true then g_Real_plus a19 x11 x18 μ.1 else jgd (jobC 8 (μ.1 a19)) (some (g_Shorts_plus a19 x11 x18))) fun x20 =>
  obd (jgA μ.1 v0 7 4) fun x21 =>
  obd (jgA μ.1 v0 7 6) fun x22 =>
  obd x22 fun a23 =>
  jgd (jobC 6 (μ.1 a23)) <|
  obd (g_Row_at a23 (2 : Int32) μ.1) fun x25 =>
  jgd (jobC 7 (μ.1 v0)) <|
  obd (g_Section_lessTimes v0 (3 : Int32) x25 μ.1) fun x27 =>
  obd x21 fun a28 =>
  obd (if jobC 5 (μ.1 a28) = true then g_Real_plus a28 x20 x27 μ.1 else jgd (jobC 8 (μ.1 a28)) (some (g_Shorts_plus a28 x20 x27))) fun x29 =>
  obd (jgA μ.1 v0 7 4) fun x30 =>
  obd (jgA μ.1 v0 7 6) fun x31 =>
  obd x31 fun a32 =>
  jgd (jobC 6 (μ.1 a32)) <|
  obd (g_Row_at a32 (3 : Int32) μ.1) fun x34 =>
  jgd (jobC 7 (μ.1 v0)) <|
  obd (g_Section_lessTimes v0 (4 : Int32) x34 μ.1) fun x36 =>
  obd x30 fun a37 =>
  obd (if jobC 5 (μ.1 a37) = true then g_Real_plus a37 x29 x36 μ.1 else jgd (jobC 8 (μ.1 a37)) (some (g_Shorts_plus a37 x29 x36))) fun x38 =>
  jgd (jobC 7 (μ.1 v0)) <|
  jbd2 (g_Section_settled B v0 x38 μ) fun x40 μ41 =>
  obd (jgA μ41.1 v0 7 6) fun x42 =>
  obd (jgA μ41.1 v0 7 6) fun x43 =>
  obd x43 fun a44 =>
  jgd (jobC 6 (μ41.1 a44)) <|
  obd (g_Row_at a44 (0 : Int32) μ41.1) fun x46 =>
  obd x42 fun a47 =>
  jgd (jobC 6 (μ41.1 a47)) <|
  obd (g_Row_put B a47 (1 : Int32) x46 μ41) fun μ49 =>
  obd (jgA μ49.1 v0 7 6) fun x50 =>
  obd x50 fun a51 =>
  jgd (jobC 6 (μ49.1 a51)) <|
  obd (g_Row_put B a51 (0 : Int32) v1 μ49) fun μ53 =>
  obd (jgA μ53.1 v0 7 6) fun x54 =>
  obd (jgA μ53.1 v0 7 6) fun x55 =>
  obd x55 fun a56 =>
  jgd (jobC 6 (μ53.1 a56)) <|
  obd (g_Row_at a56 (2 : Int32) μ53.1) fun x58 =>
  obd x54 fun a59 =>
  jgd (jobC 6 (μ53.1 a59)) <|
  obd (g_Row_put B a59 (3 : Int32) x58 μ53) fun μ61 =>
  obd (jgA μ61.1 v0 7 6) fun x62 =>
  obd x62 fun a63 =>
  jgd (jobC 6 (μ61.1 a63)) <|
  obd (g_Row_put B a63 (2 : Int32) x40 μ61) fun μ65 =>
  some (x40, μ65)
/-! FilterBench$Row.size()I -/
set_option maxRecDepth 10000 in
def g_Row_size (v0 : Nat)  (h : Nat → Option JCell) : Option Int32 :=
  obd (jgA h v0 6 0) fun x1 =>
  obd x1 fun a2 =>
  obd (jal h a2) fun x3 =>
  some x3
/-! FilterBench$Section.mean(J)J -/
set_option maxRecDepth 10000 in
def g_Section_mean_27 (N : Nat) (B : Nat) : Nat → Nat → Int64 → Int32 → JMem → Option (Int64 × JMem)
  | 0, _, _, _, _ => none
  | n + 1, v0, v3, v5, μ =>
    obd (jgA μ.1 v0 7 6) fun x1 =>
    obd x1 fun a2 =>
    jgd (jobC 6 (μ.1 a2)) <|
    obd (g_Row_size a2 μ.1) fun x4 =>
    if x4 ≤ v5 then (
      jgd (jobC 7 (μ.1 v0)) <|
      jbd2 (g_Section_settled B v0 v3 μ) fun x6 μ7 =>
      jgd (jobC 7 (μ7.1 v0)) <|
      obd (g_Section_times v0 (0 : Int32) x6 μ7.1) fun x9 =>
      jgd (jobC 7 (μ7.1 v0)) <|
      jbd2 (g_Section_settled B v0 x9 μ7) fun x11 μ12 =>
      some (x11, μ12))
    else
      obd (jgA μ.1 v0 7 4) fun x13 =>
      obd (jgA μ.1 v0 7 4) fun x14 =>
      obd (jgA μ.1 v0 7 6) fun x15 =>
      obd x15 fun a16 =>
      jgd (jobC 6 (μ.1 a16)) <|
      obd (g_Row_at a16 v5 μ.1) fun x18 =>
      obd x14 fun a19 =>
      obd (if jobC 5 (μ.1 a19) = true then some (g_Real_term a19 x18) else jgd (jobC 8 (μ.1 a19)) (some (g_Shorts_term a19 x18))) fun x20 =>
      obd x13 fun a21 =>
      obd (if jobC 5 (μ.1 a21) = true then g_Real_plus a21 v3 x20 μ.1 else jgd (jobC 8 (μ.1 a21)) (some (g_Shorts_plus a21 v3 x20))) fun x22 =>
      g_Section_mean_27 N B n v0 x22 (v5 + 1) μ
set_option maxRecDepth 10000 in
def g_Section_mean (N : Nat) (B : Nat) (v0 : Nat) (v1 : Int64)  (μ : JMem) : Option (Int64 × JMem) :=
  obd (jgA μ.1 v0 7 6) fun x1 =>
  obd x1 fun a2 =>
  jgd (jobC 6 (μ.1 a2)) <|
  obd (g_Row_push B a2 v1 μ) fun μ4 =>
  obd (jgA μ4.1 v0 7 4) fun x5 =>
  obd (jgA μ4.1 v0 7 6) fun x6 =>
  obd x6 fun a7 =>
  jgd (jobC 6 (μ4.1 a7)) <|
  obd (g_Row_at a7 (0 : Int32) μ4.1) fun x9 =>
  obd x5 fun a10 =>
  obd (if jobC 5 (μ4.1 a10) = true then some (g_Real_term a10 x9) else jgd (jobC 8 (μ4.1 a10)) (some (g_Shorts_term a10 x9))) fun x11 =>
  g_Section_mean_27 N B N v0 x11 (1 : Int32) μ4
/-! FilterBench$Section.pass(J)J -/
set_option maxRecDepth 10000 in
def g_Section_pass (B : Nat) (v0 : Nat) (v1 : Int64)  (μ : JMem) : Option (Int64 × JMem) :=
  obd (jgA μ.1 v0 7 6) fun x1 =>
  obd x1 fun a2 =>
  jgd (jobC 6 (μ.1 a2)) <|
  obd (g_Row_at a2 (0 : Int32) μ.1) fun x4 =>
  obd (jgA μ.1 v0 7 4) fun x5 =>
  obd (jgA μ.1 v0 7 4) fun x6 =>
  obd x6 fun a7 =>
  obd (if jobC 5 (μ.1 a7) = true then some (g_Real_term a7 v1) else jgd (jobC 8 (μ.1 a7)) (some (g_Shorts_term a7 v1))) fun x8 =>
  jgd (jobC 7 (μ.1 v0)) <|
  obd (g_Section_lessTimes v0 (0 : Int32) x4 μ.1) fun x10 =>
  obd x5 fun a11 =>
  obd (if jobC 5 (μ.1 a11) = true then g_Real_plus a11 x8 x10 μ.1 else jgd (jobC 8 (μ.1 a11)) (some (g_Shorts_plus a11 x8 x10))) fun x12 =>
  jgd (jobC 7 (μ.1 v0)) <|
  jbd2 (g_Section_settled B v0 x12 μ) fun x14 μ15 =>
  obd (jgA μ15.1 v0 7 4) fun x16 =>
  jgd (jobC 7 (μ15.1 v0)) <|
  obd (g_Section_times v0 (0 : Int32) x14 μ15.1) fun x18 =>
  obd (jgA μ15.1 v0 7 4) fun x19 =>
  obd x19 fun a20 =>
  obd (if jobC 5 (μ15.1 a20) = true then some (g_Real_term a20 x4) else jgd (jobC 8 (μ15.1 a20)) (some (g_Shorts_term a20 x4))) fun x21 =>
  obd x16 fun a22 =>
  obd (if jobC 5 (μ15.1 a22) = true then g_Real_plus a22 x18 x21 μ15.1 else jgd (jobC 8 (μ15.1 a22)) (some (g_Shorts_plus a22 x18 x21))) fun x23 =>
  jgd (jobC 7 (μ15.1 v0)) <|
  jbd2 (g_Section_settled B v0 x23 μ15) fun x25 μ26 =>
  obd (jgA μ26.1 v0 7 6) fun x27 =>
  obd x27 fun a28 =>
  jgd (jobC 6 (μ26.1 a28)) <|
  obd (g_Row_put B a28 (0 : Int32) x14 μ26) fun μ30 =>
  some (x25, μ30)
/-! FilterBench$Section.peak(J)J -/
set_option maxRecDepth 10000 in
def g_Section_peak_47 (B : Nat) (v0 : Nat) (s0 : Int64)  (μ : JMem) : Option (Int64 × JMem) :=
  obd (jgA μ.1 v0 7 6) fun x1 =>
  obd x1 fun a2 =>
  jgd (jobC 6 (μ.1 a2)) <|
  obd (g_Row_put B a2 (0 : Int32) s0 μ) fun μ4 =>
  some (s0, μ4)
set_option maxRecDepth 10000 in
def g_Section_peak (B : Nat) (v0 : Nat) (v1 : Int64)  (μ : JMem) : Option (Int64 × JMem) :=
  obd (jgA μ.1 v0 7 4) fun x1 =>
  obd x1 fun a2 =>
  obd (if jobC 5 (μ.1 a2) = true then g_Real_sizeOf a2 v1 μ.1 else jgd (jobC 8 (μ.1 a2)) (g_Shorts_sizeOf a2 v1 μ.1)) fun x3 =>
  obd (jgA μ.1 v0 7 6) fun x4 =>
  obd x4 fun a5 =>
  jgd (jobC 6 (μ.1 a5)) <|
  obd (g_Row_at a5 (0 : Int32) μ.1) fun x7 =>
  obd (jgA μ.1 v0 7 4) fun x8 =>
  obd x8 fun a9 =>
  obd (if jobC 5 (μ.1 a9) = true then g_Numbers_above a9 x3 x7 μ.1 else jgd (jobC 8 (μ.1 a9)) (g_Numbers_above a9 x3 x7 μ.1)) fun x10 =>
  if x10 = true then (
    g_Section_peak_47 B v0 x3 μ)
  else
    jgd (jobC 7 (μ.1 v0)) <|
    obd (g_Section_times v0 (0 : Int32) x7 μ.1) fun x12 =>
    jgd (jobC 7 (μ.1 v0)) <|
    jbd2 (g_Section_settled B v0 x12 μ) fun x14 μ15 =>
    g_Section_peak_47 B v0 x14 μ15
/-! FilterBench$Section.pole(J)J -/
set_option maxRecDepth 10000 in
def g_Section_pole (B : Nat) (v0 : Nat) (v1 : Int64)  (μ : JMem) : Option (Int64 × JMem) :=
  obd (jgA μ.1 v0 7 4) fun x1 =>
  jgd (jobC 7 (μ.1 v0)) <|
  obd (g_Section_times v0 (0 : Int32) v1 μ.1) fun x3 =>
  obd (jgA μ.1 v0 7 6) fun x4 =>
  obd x4 fun a5 =>
  jgd (jobC 6 (μ.1 a5)) <|
  obd (g_Row_at a5 (0 : Int32) μ.1) fun x7 =>
  jgd (jobC 7 (μ.1 v0)) <|
  obd (g_Section_times v0 (1 : Int32) x7 μ.1) fun x9 =>
  obd x1 fun a10 =>
  obd (if jobC 5 (μ.1 a10) = true then g_Real_plus a10 x3 x9 μ.1 else jgd (jobC 8 (μ.1 a10)) (some (g_Shorts_plus a10 x3 x9))) fun x11 =>
  jgd (jobC 7 (μ.1 v0)) <|
  jbd2 (g_Section_settled B v0 x11 μ) fun x13 μ14 =>
  obd (jgA μ14.1 v0 7 6) fun x15 =>
  obd x15 fun a16 =>
  jgd (jobC 6 (μ14.1 a16)) <|
  obd (g_Row_put B a16 (0 : Int32) x13 μ14) fun μ18 =>
  some (x13, μ18)
/-! FilterBench$Section.second(J)J -/
set_option maxRecDepth 10000 in
def g_Section_second (B : Nat) (v0 : Nat) (v1 : Int64)  (μ : JMem) : Option (Int64 × JMem) :=
  obd (jgA μ.1 v0 7 6) fun x1 =>
  obd x1 fun a2 =>
  jgd (jobC 6 (μ.1 a2)) <|
  obd (g_Row_at a2 (0 : Int32) μ.1) fun x4 =>
  obd (jgA μ.1 v0 7 4) fun x5 =>
  obd (jgA μ.1 v0 7 4) fun x6 =>
  obd x6 fun a7 =>
  obd (if jobC 5 (μ.1 a7) = true then some (g_Real_term a7 v1) else jgd (jobC 8 (μ.1 a7)) (some (g_Shorts_term a7 v1))) fun x8 =>
  jgd (jobC 7 (μ.1 v0)) <|
  obd (g_Section_lessTimes v0 (3 : Int32) x4 μ.1) fun x10 =>
  obd x5 fun a11 =>
  obd (if jobC 5 (μ.1 a11) = true then g_Real_plus a11 x8 x10 μ.1 else jgd (jobC 8 (μ.1 a11)) (some (g_Shorts_plus a11 x8 x10))) fun x12 =>
  obd (jgA μ.1 v0 7 4) fun x13 =>
  obd (jgA μ.1 v0 7 6) fun x14 =>
  obd x14 fun a15 =>
  jgd (jobC 6 (μ.1 a15)) <|
  obd (g_Row_at a15 (1 : Int32) μ.1) fun x17 =>
  jgd (jobC 7 (μ.1 v0)) <|
  obd (g_Section_lessTimes v0 (4 : Int32) x17 μ.1) fun x19 =>
  obd x13 fun a20 =>
  obd (if jobC 5 (μ.1 a20) = true then g_Real_plus a20 x12 x19 μ.1 else jgd (jobC 8 (μ.1 a20)) (some (g_Shorts_plus a20 x12 x19))) fun x21 =>
  jgd (jobC 7 (μ.1 v0)) <|
  jbd2 (g_Section_settled B v0 x21 μ) fun x23 μ24 =>
  obd (jgA μ24.1 v0 7 4) fun x25 =>
  jgd (jobC 7 (μ24.1 v0)) <|
  obd (g_Section_times v0 (0 : Int32) x23 μ24.1) fun x27 =>
  jgd (jobC 7 (μ24.1 v0)) <|
  obd (g_Section_times v0 (1 : Int32) x4 μ24.1) fun x29 =>
  obd x25 fun a30 =>
  obd (if jobC 5 (μ24.1 a30) = true then g_Real_plus a30 x27 x29 μ24.1 else jgd (jobC 8 (μ24.1 a30)) (some (g_Shorts_plus a30 x27 x29))) fun x31 =>
  obd (jgA μ24.1 v0 7 4) fun x32 =>
  obd (jgA μ24.1 v0 7 6) fun x33 =>
  obd x33 fun a34 =>
  jgd (jobC 6 (μ24.1 a34)) <|
  obd (g_Row_at a34 (1 : Int32) μ24.1) fun x36 =>
  jgd (jobC 7 (μ24.1 v0)) <|
  obd (g_Section_times v0 (2 : Int32) x36 μ24.1) fun x38 =>
  obd x32 fun a39 =>
  obd (if jobC 5 (μ24.1 a39) = true then g_Real_plus a39 x31 x38 μ24.1 else jgd (jobC 8 (μ24.1 a39)) (some (g_Shorts_plus a39 x31 x38))) fun x40 =>
  jgd (jobC 7 (μ24.1 v0)) <|
  jbd2 (g_Section_settled B v0 x40 μ24) fun x42 μ43 =>
  obd (jgA μ43.1 v0 7 6) fun x44 =>
  obd x44 fun a45 =>
  jgd (jobC 6 (μ43.1 a45)) <|
  obd (g_Row_put B a45 (1 : Int32) x4 μ43) fun μ47 =>
  obd (jgA μ47.1 v0 7 6) fun x48 =>
  obd x48 fun a49 =>
  jgd (jobC 6 (μ47.1 a49)) <|
  obd (g_Row_put B a49 (0 : Int32) x23 μ47) fun μ51 =>
  some (x42, μ51)
/-! FilterBench$Section.turned(J)J -/
set_option maxRecDepth 10000 in
def g_Section_turned (B : Nat) (v0 : Nat) (v1 : Int64)  (μ : JMem) : Option (Int64 × JMem) :=
  obd (jgA μ.1 v0 7 4) fun x1 =>
  jgd (jobC 7 (μ.1 v0)) <|
  obd (g_Section_times v0 (0 : Int32) v1 μ.1) fun x3 =>
  obd (jgA μ.1 v0 7 4) fun x4 =>
  obd (jgA μ.1 v0 7 6) fun x5 =>
  obd x5 fun a6 =>
  jgd (jobC 6 (μ.1 a6)) <|
  obd (g_Row_at a6 (0 : Int32) μ.1) fun x8 =>
  obd x4 fun a9 =>
  obd (if jobC 5 (μ.1 a9) = true then some (g_Real_term a9 x8) else jgd (jobC 8 (μ.1 a9)) (some (g_Shorts_term a9 x8))) fun x10 =>
  obd x1 fun a11 =>
  obd (if jobC 5 (μ.1 a11) = true then g_Real_plus a11 x3 x10 μ.1 else jgd (jobC 8 (μ.1 a11)) (some (g_Shorts_plus a11 x3 x10))) fun x12 =>
  jgd (jobC 7 (μ.1 v0)) <|
  jbd2 (g_Section_settled B v0 x12 μ) fun x14 μ15 =>
  obd (jgA μ15.1 v0 7 4) fun x16 =>
  jgd (jobC 7 (μ15.1 v0)) <|
  obd (g_Section_times v0 (1 : Int32) v1 μ15.1) fun x18 =>
  jgd (jobC 7 (μ15.1 v0)) <|
  obd (g_Section_lessTimes v0 (3 : Int32) x14 μ15.1) fun x20 =>
  obd x16 fun a21 =>
  obd (if jobC 5 (μ15.1 a21) = true then g_Real_plus a21 x18 x20 μ15.1 else jgd (jobC 8 (μ15.1 a21)) (some (g_Shorts_plus a21 x18 x20))) fun x22 =>
  obd (jgA μ15.1 v0 7 6) fun x23 =>
  obd (jgA μ15.1 v0 7 4) fun x24 =>
  obd (jgA μ15.1 v0 7 4) fun x25 =>
  obd (jgA μ15.1 v0 7 6) fun x26 =>
  obd x26 fun a27 =>
  jgd (jobC 6 (μ15.1 a27)) <|
  obd (g_Row_at a27 (1 : Int32) μ15.1) fun x29 =>
  obd x25 fun a30 =>
  obd (if jobC 5 (μ15.1 a30) = true then some (g_Real_term a30 x29) else jgd (jobC 8 (μ15.1 a30)) (some (g_Shorts_term a30 x29))) fun x31 =>
  obd x24 fun a32 =>
  obd (if jobC 5 (μ15.1 a32) = true then g_Real_plus a32 x22 x31 μ15.1 else jgd (jobC 8 (μ15.1 a32)) (some (g_Shorts_plus a32 x22 x31))) fun x33 =>
  jgd (jobC 7 (μ15.1 v0)) <|
  jbd2 (g_Section_settled B v0 x33 μ15) fun x35 μ36 =>
  obd x23 fun a37 =>
  jgd (jobC 6 (μ36.1 a37)) <|
  obd (g_Row_put B a37 (0 : Int32) x35 μ36) fun μ39 =>
  obd (jgA μ39.1 v0 7 6) fun x40 =>
  obd (jgA μ39.1 v0 7 4) fun x41 =>
  jgd (jobC 7 (μ39.1 v0)) <|
  obd (g_Section_times v0 (2 : Int32) v1 μ39.1) fun x43 =>
  jgd (jobC 7 (μ39.1 v0)) <|
  obd (g_Section_lessTimes v0 (4 : Int32) x14 μ39.1) fun x45 =>
  obd x41 fun a46 =>
  obd (if jobC 5 (μ39.1 a46) = true then g_Real_plus a46 x43 x45 μ39.1 else jgd (jobC 8 (μ39.1 a46)) (some (g_Shorts_plus a46 x43 x45))) fun x47 =>
  jgd (jobC 7 (μ39.1 v0)) <|
  jbd2 (g_Section_settled B v0 x47 μ39) fun x49 μ50 =>
  obd x40 fun a51 =>
  jgd (jobC 6 (μ50.1 a51)) <|
  obd (g_Row_put B a51 (1 : Int32) x49 μ50) fun μ53 =>
  some (x14, μ53)
/-! FilterBench$Section.step(JJ)J -/
set_option maxRecDepth 10000 in
def g_Section_step (N : Nat) (B : Nat) (v0 : Nat) (v1 : Int64) (v3 : Int64)  (μ : JMem) : Option (Int64 × JMem) :=
  obd (jgI μ.1 v0 7 1) fun x1 =>
  if x1 = 0 then (
    jgd (jobC 7 (μ.1 v0)) <|
    obd (g_Section_times v0 (0 : Int32) v1 μ.1) fun x3 =>
    jgd (jobC 7 (μ.1 v0)) <|
    jbd2 (g_Section_settled B v0 x3 μ) fun x5 μ6 =>
    some (x5, μ6))
  else
  if x1 = 1 then (
    jgd (jobC 7 (μ.1 v0)) <|
    jbd2 (g_Section_pole B v0 v1 μ) fun x8 μ9 =>
    some (x8, μ9))
  else
  if x1 = 2 then (
    jgd (jobC 7 (μ.1 v0)) <|
    jbd2 (g_Section_direct B v0 v1 μ) fun x11 μ12 =>
    some (x11, μ12))
  else
  if x1 = 3 then (
    jgd (jobC 7 (μ.1 v0)) <|
    jbd2 (g_Section_second B v0 v1 μ) fun x14 μ15 =>
    some (x14, μ15))
  else
  if x1 = 4 then (
    jgd (jobC 7 (μ.1 v0)) <|
    jbd2 (g_Section_turned B v0 v1 μ) fun x17 μ18 =>
    some (x17, μ18))
  else
  if x1 = 5 then (
    jgd (jobC 7 (μ.1 v0)) <|
    jbd2 (g_Section_pass B v0 v1 μ) fun x20 μ21 =>
    some (x20, μ21))
  else
  if x1 = 6 then (
    jgd (jobC 7 (μ.1 v0)) <|
    jbd2 (g_Section_delayed B v0 v1 μ) fun x23 μ24 =>
    some (x23, μ24))
  else
  if x1 = 7 then (
    jgd (jobC 7 (μ.1 v0)) <|
    jbd2 (g_Section_mean N B v0 v1 μ) fun x26 μ27 =>
    some (x26, μ27))
  else
  if x1 = 8 then (
    jgd (jobC 7 (μ.1 v0)) <|
    jbd2 (g_Section_comb B v0 v1 μ) fun x29 μ30 =>
    some (x29, μ30))
  else
  if x1 = 9 then (
    jgd (jobC 7 (μ.1 v0)) <|
    jbd2 (g_Section_clipped B v0 v1 μ) fun x32 μ33 =>
    some (x32, μ33))
  else
  if x1 = 10 then (
    jgd (jobC 7 (μ.1 v0)) <|
    jbd2 (g_Section_deadened B v0 v1 μ) fun x35 μ36 =>
    some (x35, μ36))
  else
  if x1 = 11 then (
    jgd (jobC 7 (μ.1 v0)) <|
    jbd2 (g_Section_peak B v0 v1 μ) fun x38 μ39 =>
    some (x38, μ39))
  else
  if x1 = 12 then (
    some (v1, μ))
  else
  if x1 = 13 then (
    some (v1, μ))
  else
  if x1 = 14 then (
    some (v1, μ))
  else
  if x1 = 15 then (
    obd (jgA μ.1 v0 7 4) fun x40 =>
    jgd (jobC 7 (μ.1 v0)) <|
    obd (g_Section_times v0 (0 : Int32) v1 μ.1) fun x42 =>
    jgd (jobC 7 (μ.1 v0)) <|
    obd (g_Section_times v0 (1 : Int32) v3 μ.1) fun x44 =>
    obd x40 fun a45 =>
    obd (if jobC 5 (μ.1 a45) = true then g_Real_plus a45 x42 x44 μ.1 else jgd (jobC 8 (μ.1 a45)) (some (g_Shorts_plus a45 x42 x44))) fun x46 =>
    jgd (jobC 7 (μ.1 v0)) <|
    jbd2 (g_Section_settled B v0 x46 μ) fun x48 μ49 =>
    some (x48, μ49))
  else
  some (v1, μ)
/-! FilterBench.send(LFilterBench$Chain;IJI)I -/
set_option maxRecDepth 10000 in
def g_B_send_111 (N : Nat) (B : Nat) (kS : Option Nat → Int32 → Int64 → Int32 → JMem → Option (Int32 × JMem)) (k73 : Nat → Int32 → Int64 → Int32 → Nat → Int32 → Int32 → JMem → Option (Int32 × JMem)) (v0 : Nat) (v4 : Int32) (v5 : Int64) (v7 : Int32) (v8 : Nat) (v10 : Int32) (s0 : Int64) (s1 : Int32) (s2 : Nat) (s3 : Int32)  (μ : JMem) : Option (Int32 × JMem) :=
  jbd2 (kS (some s2) s1 s0 (v4 + (1 : Int32)) μ) fun x1 μ2 =>
  k73 v0 v4 v5 v7 v8 (s3 + x1) (v10 + 1) μ2
set_option maxRecDepth 10000 in
def g_B_send_105 (N : Nat) (B : Nat) (kS : Option Nat → Int32 → Int64 → Int32 → JMem → Option (Int32 × JMem)) (k73 : Nat → Int32 → Int64 → Int32 → Nat → Int32 → Int32 → JMem → Option (Int32 × JMem)) (v0 : Nat) (v4 : Int32) (v5 : Int64) (v7 : Int32) (v8 : Nat) (v10 : Int32) (s0 : Int32) (s1 : Nat) (s2 : Int32)  (μ : JMem) : Option (Int32 × JMem) :=
  g_B_send_111 N B kS k73 v0 v4 v5 v7 v8 v10 v5 s0 s1 s2 μ
set_option maxRecDepth 10000 in
def g_B_send_73 (N : Nat) (B : Nat) (kS : Option Nat → Int32 → Int64 → Int32 → JMem → Option (Int32 × JMem)) : Nat → Nat → Int32 → Int64 → Int32 → Nat → Int32 → Int32 → JMem → Option (Int32 × JMem)
  | 0, _, _, _, _, _, _, _, _ => none
  | n + 1, v0, v4, v5, v7, v8, v9, v10, μ =>
    obd (jgI μ.1 v8 7 3) fun x1 =>
    if x1 ≤ v10 then (
      some (v9, μ))
    else
      if v10 = 0 then (
        g_B_send_105 N B kS (g_B_send_73 N B kS n) v0 v4 v5 v7 v8 v10 (v7 + (1 : Int32)) v0 v9 μ)
      else
        obd (jgI μ.1 v8 7 1) fun x2 =>
        if x2 = (14 : Int32) then (
          g_B_send_105 N B kS (g_B_send_73 N B kS n) v0 v4 v5 v7 v8 v10 (v7 + (1 : Int32)) v0 v9 μ)
        else
          g_B_send_111 N B kS (g_B_send_73 N B kS n) v0 v4 v5 v7 v8 v10 (0 : Int64) (v7 + (1 : Int32)) v0 v9 μ
set_option maxRecDepth 10000 in
def g_B_send_198 (N : Nat) (B : Nat) (kS : Option Nat → Int32 → Int64 → Int32 → JMem → Option (Int32 × JMem)) (k15 : Option Nat → Int32 → Int64 → Int32 → JMem → Option (Int32 × JMem)) (v0 : Nat) (v4 : Int32) (v5 : Int64) (v7 : Int32)  (μ : JMem) : Option (Int32 × JMem) :=
  k15 (some v0) v4 v5 (v7 + 1) μ
set_option maxRecDepth 10000 in
def g_B_send_179 (N : Nat) (B : Nat) (kS : Option Nat → Int32 → Int64 → Int32 → JMem → Option (Int32 × JMem)) (k15 : Option Nat → Int32 → Int64 → Int32 → JMem → Option (Int32 × JMem)) (v0 : Nat) (v4 : Int32) (v5 : Int64) (v7 : Int32) (v8 : Nat) (v9 : Int64)  (μ : JMem) : Option (Int32 × JMem) :=
  jgd (jobC 7 (μ.1 v8)) <|
  jbd2 (g_Section_step N B v8 v5 v9 μ) fun x2 μ3 =>
  jgd (jobC 1 (μ3.1 v0)) <|
  obd (g_Chain_note N B v0 v7 x2 μ3) fun μ5 =>
  g_B_send_198 N B kS k15 v0 v4 x2 v7 μ5
set_option maxRecDepth 10000 in
def g_B_send_15 (N : Nat) (B : Nat) (kS : Option Nat → Int32 → Int64 → Int32 → JMem → Option (Int32 × JMem)) : Nat → Option Nat → Int32 → Int64 → Int32 → JMem → Option (Int32 × JMem)
  | 0, _, _, _, _, _ => none
  | n + 1, v0, v4, v5, v7, μ =>
    obd v0 fun a1 =>
    obd (jgI μ.1 a1 1 2) fun x2 =>
    if x2 ≤ v7 then (
      jgd (jobC 1 (μ.1 a1)) <|
      obd (g_Chain_emit B a1 v5 μ) fun μ4 =>
      some ((1 : Int32), μ4))
    else
      jgd (jobC 1 (μ.1 a1)) <|
      obd (g_Chain_memberAt a1 v7 μ.1) fun x6 =>
      jon x6 (
        some ((0 : Int32), μ))
      fun a7 =>
        obd (jgI μ.1 a7 7 1) fun x8 =>
        if x8 = (12 : Int32) then (
          jgd (jobC 7 (μ.1 a7)) <|
          jbd2 (g_Section_letsThrough B a7 μ) fun x10 μ11 =>
          if x10 = true then (
            g_B_send_198 N B kS (g_B_send_15 N B kS n) a1 v4 v5 v7 μ11)
          else
            some ((0 : Int32), μ11))
        else
          jgd (jobC 7 (μ.1 a7)) <|
          obd (g_Section_spreads a7 μ.1) fun x13 =>
          if x13 = true then (
            g_B_send_73 N B kS N a1 v4 v5 v7 a7 (0 : Int32) (0 : Int32) μ)
          else
            jgd (jobC 1 (μ.1 a1)) <|
            jbd2 (g_Chain_looped N B a1 v7 (some a7) v5 μ) fun x15 μ16 =>
            obd (jgA μ16.1 a7 7 14) fun x17 =>
            jon x17 (
              g_B_send_179 N B kS (g_B_send_15 N B kS n) a1 v4 x15 v7 a7 (0 : Int64) μ16)
            fun a18 =>
              obd (jgA μ16.1 a7 7 14) fun x19 =>
              jbd2 (kS x19 (0 : Int32) x15 (v4 + (1 : Int32)) μ16) fun x20 μ21 =>
              obd (jgA μ21.1 a7 7 14) fun x22 =>
              obd x22 fun a23 =>
              jgd (jobC 1 (μ21.1 a23)) <|
              obd (g_Chain_madeLast a23 μ21.1) fun x25 =>
              g_B_send_179 N B kS (g_B_send_15 N B kS n) a1 v4 x15 v7 a7 x25 μ21
set_option maxRecDepth 10000 in
def g_B_send_b (N : Nat) (B : Nat) (kS : Option Nat → Int32 → Int64 → Int32 → JMem → Option (Int32 × JMem)) (v0 : Option Nat) (v1 : Int32) (v2 : Int64) (v4 : Int32)  (μ : JMem) : Option (Int32 × JMem) :=
  if v4 ≤ (30 : Int32) then (
    g_B_send_15 N B kS N v0 v4 v2 v1 μ)
  else
    some ((0 : Int32), μ)
set_option maxRecDepth 10000 in
def g_B_send (N : Nat) (B : Nat) : Nat → Option Nat → Int32 → Int64 → Int32 → JMem → Option (Int32 × JMem)
  | 0, _, _, _, _, _ => none
  | n + 1, v0, v1, v2, v4, μ => g_B_send_b N B (g_B_send N B n) v0 v1 v2 v4 μ
/-! FilterBench.feed(IJ)I -/
set_option maxRecDepth 10000 in
def g_B_feed (N : Nat) (M : Nat) (B : Nat) (v0 : Nat) (v1 : Int32) (v2 : Int64)  (μ : JMem) : Option (Int32 × JMem) :=
  jgd (jobC 0 (μ.1 v0)) <|
  obd (g_B_fedAlone v0 v1 μ.1) fun x2 =>
  jon x2 (
    some ((-1 : Int32), μ))
  fun a3 =>
    jgd (jobC 1 (μ.1 a3)) <|
    obd (g_Chain_sort a3 μ.1) fun x5 =>
    jgd (jobC 0 (μ.1 v0)) <|
    obd (g_B_numbersOf v0 x5 μ.1) fun x7 =>
    jon x7 (
      some ((-1 : Int32), μ))
    fun a8 =>
      obd (if jobC 5 (μ.1 a8) = true then g_Real_holds a8 v2 μ.1 else jgd (jobC 8 (μ.1 a8)) (some (g_Shorts_holds a8 v2))) fun x9 =>
      if x9 = true then (
        obd (if jobC 5 (μ.1 a8) = true then g_Real_clean a8 v2 μ.1 else jgd (jobC 8 (μ.1 a8)) (some (g_Shorts_clean a8 v2))) fun x10 =>
        jbd2 (g_B_send N B M (some a3) (0 : Int32) x10 (0 : Int32) μ) fun x11 μ12 =>
        some (x11, μ12))
      else
        some ((-1 : Int32), μ)
/-! FilterBench$Chain.madeAs(I)J -/
set_option maxRecDepth 10000 in
def g_Chain_madeAs_12  (h : Nat → Option JCell) : Option Int64 :=
  some (0 : Int64)
set_option maxRecDepth 10000 in
def g_Chain_madeAs (v0 : Nat) (v1 : Int32)  (h : Nat → Option JCell) : Option Int64 :=
  if v1 < 0 then (
    g_Chain_madeAs_12 h)
  else
    obd (jgI h v0 1 8) fun x1 =>
    if v1 < x1 then (
      obd (jgI h v0 1 8) fun x2 =>
      jgd (jobC 1 (h v0)) <|
      obd (g_Chain_madeBefore v0 ((x2 - (1 : Int32)) - v1) h) fun x4 =>
      some x4)
    else
      g_Chain_madeAs_12 h
/-! FilterBench.output(II)J -/
set_option maxRecDepth 10000 in
def g_B_output (v0 : Nat) (v1 : Int32) (v2 : Int32)  (h : Nat → Option JCell) : Option Int64 :=
  jgd (jobC 0 (h v0)) <|
  obd (g_B_chainAt v0 v1 h) fun x2 =>
  jon x2 (
    some (0 : Int64))
  fun a3 =>
    jgd (jobC 1 (h a3)) <|
    obd (g_Chain_madeAs a3 v2 h) fun x5 =>
    some x5
/-! FilterBench.gathered(LFilterBench$Chain;I)I -/
set_option maxRecDepth 10000 in
def g_B_gathered (B : Nat) (v0 : Nat) (v1 : Option Nat) (v2 : Int32)  (μ : JMem) : Option (Int32 × JMem) :=
  jon v1 (
    some (v2, μ))
  fun a1 =>
    if v2 < 0 then (
      some (v2, μ))
    else
      obd (jgA μ.1 v0 0 9) fun x2 =>
      obd x2 fun a3 =>
      obd (jal μ.1 a3) fun x4 =>
      if v2 < x4 then (
        obd (jgA μ.1 v0 0 9) fun x5 =>
        obd x5 fun a6 =>
        obd (jpO B a6 v2 a1 μ) fun μ7 =>
        some ((v2 + (1 : Int32)), μ7))
      else
        some (v2, μ)
/-! FilterBench.gather(LFilterBench$Chain;)I -/
set_option maxRecDepth 10000 in
def g_B_gather_77 (N : Nat) (B : Nat) (k9 : Nat → Int32 → Int32 → JMem → Option (Int32 × JMem)) (k34 : Nat → Int32 → Int32 → Option Nat → Int32 → JMem → Option (Int32 × JMem)) (v0 : Nat) (v3 : Int32) (v4 : Nat) (v5 : Int32) (s0 : Int32)  (μ : JMem) : Option (Int32 × JMem) :=
  k34 v0 s0 v3 (some v4) (v5 + 1) μ
set_option maxRecDepth 10000 in
def g_B_gather_84 (N : Nat) (B : Nat) (k9 : Nat → Int32 → Int32 → JMem → Option (Int32 × JMem)) (v0 : Nat) (v2 : Int32) (v3 : Int32)  (μ : JMem) : Option (Int32 × JMem) :=
  k9 v0 v2 (v3 + 1) μ
set_option maxRecDepth 10000 in
def g_B_gather_34 (N : Nat) (B : Nat) (k9 : Nat → Int32 → Int32 → JMem → Option (Int32 × JMem)) : Nat → Nat → Int32 → Int32 → Option Nat → Int32 → JMem → Option (Int32 × JMem)
  | 0, _, _, _, _, _, _ => none
  | n + 1, v0, v2, v3, v4, v5, μ =>
    jon v4 (
      g_B_gather_84 N B k9 v0 v2 v3 μ)
    fun a1 =>
      obd (jgI μ.1 a1 1 2) fun x2 =>
      if x2 ≤ v5 then (
        g_B_gather_84 N B k9 v0 v2 v3 μ)
      else
        jgd (jobC 1 (μ.1 a1)) <|
        obd (g_Chain_memberAt a1 v5 μ.1) fun x4 =>
        jon x4 (
          g_B_gather_77 N B k9 (g_B_gather_34 N B k9 n) v0 v3 a1 v5 v2 μ)
        fun a5 =>
          obd (jgA μ.1 a5 7 14) fun x6 =>
          jgd (jobC 0 (μ.1 v0)) <|
          jbd2 (g_B_gathered B v0 x6 v2 μ) fun x8 μ9 =>
          g_B_gather_77 N B k9 (g_B_gather_34 N B k9 n) v0 v3 a1 v5 x8 μ9
set_option maxRecDepth 10000 in
def g_B_gather_9 (N : Nat) (B : Nat) : Nat → Nat → Int32 → Int32 → JMem → Option (Int32 × JMem)
  | 0, _, _, _, _ => none
  | n + 1, v0, v2, v3, μ =>
    if v2 ≤ v3 then (
      some (v2, μ))
    else
      obd (jgA μ.1 v0 0 9) fun x1 =>
      obd x1 fun a2 =>
      obd (jal μ.1 a2) fun x3 =>
      if x3 ≤ v3 then (
        some (v2, μ))
      else
        obd (jgA μ.1 v0 0 9) fun x4 =>
        obd x4 fun a5 =>
        obd (jaA μ.1 a5 v3) fun x6 =>
        g_B_gather_34 N B (g_B_gather_9 N B n) N v0 v2 v3 x6 (0 : Int32) μ
set_option maxRecDepth 10000 in
def g_B_gather (N : Nat) (B : Nat) (v0 : Nat) (v1 : Option Nat)  (μ : JMem) : Option (Int32 × JMem) :=
  jgd (jobC 0 (μ.1 v0)) <|
  jbd2 (g_B_gathered B v0 v1 (0 : Int32) μ) fun x2 μ3 =>
  g_B_gather_9 N B N v0 x2 (0 : Int32) μ3
/-! FilterBench$Chain.rowAt(I)LFilterBench$Row; -/
set_option maxRecDepth 10000 in
def g_Chain_rowAt (v0 : Nat) (v1 : Int32)  (h : Nat → Option JCell) : Option (Option Nat) :=
  obd (jgI h v0 1 2) fun x1 =>
  if ((2 : Int32) * x1) ≤ v1 then (
    obd (jgI h v0 1 2) fun x2 =>
    jgd (jobC 1 (h v0)) <|
    obd (g_Chain_loopAt v0 (v1 - ((2 : Int32) * x2)) h) fun x4 =>
    jon x4 (
      some none)
    fun a5 =>
      obd (jgA h a5 4 3) fun x6 =>
      some x6)
  else
    jgd (jobC 1 (h v0)) <|
    obd (g_Chain_memberAt v0 (v1 >>> ((1 : Int32) &&& 31)) h) fun x8 =>
    jon x8 (
      some none)
    fun a9 =>
      if (v1 &&& (1 : Int32)) = 0 then (
        obd (jgA h a9 7 9) fun x10 =>
        some x10)
      else
        obd (jgA h a9 7 6) fun x11 =>
        some x11
/-! FilterBench$Chain.rowCount()I -/
set_option maxRecDepth 10000 in
def g_Chain_rowCount (v0 : Nat)  (h : Nat → Option JCell) : Option Int32 :=
  obd (jgI h v0 1 2) fun x1 =>
  obd (jgI h v0 1 4) fun x2 =>
  some (((2 : Int32) * x1) + x2)
/-! FilterBench$Row.save([JI)I -/
set_option maxRecDepth 10000 in
def g_Row_save_35 (N : Nat) (B : Nat) (k2 : Nat → Option Nat → Int32 → Int32 → JMem → Option (Int32 × JMem)) (v0 : Nat) (v1 : Option Nat) (v2 : Int32) (v3 : Int32)  (μ : JMem) : Option (Int32 × JMem) :=
  k2 v0 v1 v2 (v3 + 1) μ
set_option maxRecDepth 10000 in
def g_Row_save_2 (N : Nat) (B : Nat) : Nat → Nat → Option Nat → Int32 → Int32 → JMem → Option (Int32 × JMem)
  | 0, _, _, _, _, _ => none
  | n + 1, v0, v1, v2, v3, μ =>
    obd (jgA μ.1 v0 6 0) fun x1 =>
    obd x1 fun a2 =>
    obd (jal μ.1 a2) fun x3 =>
    if x3 ≤ v3 then (
      obd (jgA μ.1 v0 6 0) fun x4 =>
      obd x4 fun a5 =>
      obd (jal μ.1 a5) fun x6 =>
      some ((v2 + x6), μ))
    else
      if (v2 + v3) < 0 then (
        g_Row_save_35 N B (g_Row_save_2 N B n) v0 v1 v2 v3 μ)
      else
        obd v1 fun a7 =>
        obd (jal μ.1 a7) fun x8 =>
        if x8 ≤ (v2 + v3) then (
          g_Row_save_35 N B (g_Row_save_2 N B n) v0 (some a7) v2 v3 μ)
        else
          jgd (jobC 6 (μ.1 v0)) <|
          obd (g_Row_at v0 v3 μ.1) fun x10 =>
          obd (jpA B .long a7 (v2 + v3) (.long x10) μ) fun μ11 =>
          g_Row_save_35 N B (g_Row_save_2 N B n) v0 (some a7) v2 v3 μ11
set_option maxRecDepth 10000 in
def g_Row_save (N : Nat) (B : Nat) (v0 : Nat) (v1 : Option Nat) (v2 : Int32)  (μ : JMem) : Option (Int32 × JMem) :=
  g_Row_save_2 N B N v0 v1 v2 (0 : Int32) μ
/-! FilterBench$Chain.save([JI)I -/
set_option maxRecDepth 10000 in
def g_Chain_save_38 (N : Nat) (B : Nat) (k5 : Nat → Option Nat → Int32 → Int32 → JMem → Option (Int32 × JMem)) (v0 : Nat) (v1 : Option Nat) (v4 : Int32) (s0 : Int32)  (μ : JMem) : Option (Int32 × JMem) :=
  k5 v0 v1 s0 (v4 + 1) μ
set_option maxRecDepth 10000 in
def g_Chain_save_5 (N : Nat) (B : Nat) : Nat → Nat → Option Nat → Int32 → Int32 → JMem → Option (Int32 × JMem)
  | 0, _, _, _, _, _ => none
  | n + 1, v0, v1, v3, v4, μ =>
    jgd (jobC 1 (μ.1 v0)) <|
    obd (g_Chain_rowCount v0 μ.1) fun x2 =>
    if x2 ≤ v4 then (
      some (v3, μ))
    else
      jgd (jobC 1 (μ.1 v0)) <|
      obd (g_Chain_rowAt v0 v4 μ.1) fun x4 =>
      jon x4 (
        g_Chain_save_38 N B (g_Chain_save_5 N B n) v0 v1 v4 v3 μ)
      fun a5 =>
        jgd (jobC 6 (μ.1 a5)) <|
        jbd2 (g_Row_save N B a5 v1 v3 μ) fun x7 μ8 =>
        g_Chain_save_38 N B (g_Chain_save_5 N B n) v0 v1 v4 x7 μ8
set_option maxRecDepth 10000 in
def g_Chain_save (N : Nat) (B : Nat) (v0 : Nat) (v1 : Option Nat) (v2 : Int32)  (μ : JMem) : Option (Int32 × JMem) :=
  g_Chain_save_5 N B N v0 v1 v2 (0 : Int32) μ
/-! FilterBench$Chain.valueCount()I -/
set_option maxRecDepth 10000 in
def g_Chain_valueCount_31 (N : Nat) (k4 : Nat → Int32 → Int32 → (Nat → Option JCell) → Option Int32) (v0 : Nat) (v2 : Int32) (s0 : Int32) (s1 : Int32)  (h : Nat → Option JCell) : Option Int32 :=
  k4 v0 (s1 + s0) (v2 + 1) h
set_option maxRecDepth 10000 in
def g_Chain_valueCount_4 (N : Nat) : Nat → Nat → Int32 → Int32 → (Nat → Option JCell) → Option Int32
  | 0, _, _, _, _ => none
  | n + 1, v0, v1, v2, h =>
    jgd (jobC 1 (h v0)) <|
    obd (g_Chain_rowCount v0 h) fun x2 =>
    if x2 ≤ v2 then (
      some v1)
    else
      jgd (jobC 1 (h v0)) <|
      obd (g_Chain_rowAt v0 v2 h) fun x4 =>
      jon x4 (
        g_Chain_valueCount_31 N (g_Chain_valueCount_4 N n) v0 v2 (0 : Int32) v1 h)
      fun a5 =>
        jgd (jobC 6 (h a5)) <|
        obd (g_Row_size a5 h) fun x7 =>
        g_Chain_valueCount_31 N (g_Chain_valueCount_4 N n) v0 v2 x7 v1 h
set_option maxRecDepth 10000 in
def g_Chain_valueCount (N : Nat) (v0 : Nat)  (h : Nat → Option JCell) : Option Int32 :=
  g_Chain_valueCount_4 N N v0 (0 : Int32) (0 : Int32) h
/-! FilterBench$Kept.<init>(LFilterBench$Chain;II)V -/
set_option maxRecDepth 10000 in
def g_Kept_init_36 (B : Nat) (s0 : Int32) (s1 : Nat)  (μ : JMem) : Option JMem :=
  jbd2 (jnA .long s0 μ) fun a1 μ2 =>
  obd (jpF B 3 2 s1 (rv (some a1)) μ2) fun μ3 =>
  some μ3
set_option maxRecDepth 10000 in
def g_Kept_init_21 (B : Nat) (v0 : Nat) (v3 : Int32) (s0 : Int32) (s1 : Nat)  (μ : JMem) : Option JMem :=
  jbd2 (jnA .int s0 μ) fun a1 μ2 =>
  obd (jpF B 3 1 s1 (rv (some a1)) μ2) fun μ3 =>
  if 0 ≤ v3 then (
    g_Kept_init_36 B v3 v0 μ3)
  else
    g_Kept_init_36 B (0 : Int32) v0 μ3
set_option maxRecDepth 10000 in
def g_Kept_init (B : Nat) (v0 : Nat) (v1 : Option Nat) (v2 : Int32) (v3 : Int32)  (μ : JMem) : Option JMem :=
  obd (jpF B 3 0 v0 (rv v1) μ) fun μ1 =>
  if 0 ≤ v2 then (
    g_Kept_init_21 B v0 v3 (v2 * (3 : Int32)) v0 μ1)
  else
    g_Kept_init_21 B v0 v3 (0 : Int32) v0 μ1
/-! FilterBench$Kept.shape(ILFilterBench$Chain;)V -/
set_option maxRecDepth 10000 in
def g_Kept_shape (B : Nat) (v0 : Nat) (v1 : Int32) (v2 : Option Nat)  (μ : JMem) : Option JMem :=
  if (v1 * (3 : Int32)) < 0 then (
    some μ)
  else
    obd (jgA μ.1 v0 3 1) fun x1 =>
    obd x1 fun a2 =>
    obd (jal μ.1 a2) fun x3 =>
    if x3 ≤ ((v1 * (3 : Int32)) + (2 : Int32)) then (
      some μ)
    else
      obd (jgA μ.1 v0 3 1) fun x4 =>
      obd v2 fun a5 =>
      obd (jgI μ.1 a5 1 0) fun x6 =>
      obd x4 fun a7 =>
      obd (jpA B .int a7 (v1 * (3 : Int32)) (.int x6) μ) fun μ8 =>
      obd (jgA μ8.1 v0 3 1) fun x9 =>
      obd (jgI μ8.1 a5 1 2) fun x10 =>
      obd x9 fun a11 =>
      obd (jpA B .int a11 ((v1 * (3 : Int32)) + (1 : Int32)) (.int x10) μ8) fun μ12 =>
      obd (jgA μ12.1 v0 3 1) fun x13 =>
      obd (jgI μ12.1 a5 1 4) fun x14 =>
      obd x13 fun a15 =>
      obd (jpA B .int a15 ((v1 * (3 : Int32)) + (2 : Int32)) (.int x14) μ12) fun μ16 =>
      some μ16
/-! FilterBench.keep(I)I -/
set_option maxRecDepth 10000 in
def g_B_keep_85 (N : Nat) (B : Nat) (k43 : Nat → Nat → Int32 → Int32 → Int32 → JMem → Option (Int32 × JMem)) (v0 : Nat) (v2 : Nat) (v3 : Int32) (v5 : Int32) (s0 : Int32) (s1 : Int32)  (μ : JMem) : Option (Int32 × JMem) :=
  k43 v0 v2 v3 (s1 + s0) (v5 + 1) μ
set_option maxRecDepth 10000 in
def g_B_keep_172 (N : Nat) (B : Nat) (k113 : Nat → Int32 → Nat → Int32 → Int32 → JMem → Option (Int32 × JMem)) (v0 : Nat) (v3 : Int32) (v5 : Nat) (v6 : Int32) (v7 : Int32)  (μ : JMem) : Option (Int32 × JMem) :=
  k113 v0 v3 v5 v6 (v7 + 1) μ
set_option maxRecDepth 10000 in
def g_B_keep_178 (N : Nat) (B : Nat) (v0 : Nat) (v5 : Nat)  (μ : JMem) : Option (Int32 × JMem) :=
  obd (jgA μ.1 v0 0 7) fun x1 =>
  obd (jgI μ.1 v0 0 8) fun x2 =>
  obd x1 fun a3 =>
  obd (jpO B a3 x2 v5 μ) fun μ4 =>
  obd (jgI μ4.1 v0 0 8) fun x5 =>
  obd (jpF B 0 8 v0 (.int (x5 + (1 : Int32))) μ4) fun μ6 =>
  obd (jgI μ6.1 v0 0 8) fun x7 =>
  some ((x7 - (1 : Int32)), μ6)
set_option maxRecDepth 10000 in
def g_B_keep_113 (N : Nat) (B : Nat) : Nat → Nat → Int32 → Nat → Int32 → Int32 → JMem → Option (Int32 × JMem)
  | 0, _, _, _, _, _, _ => none
  | n + 1, v0, v3, v5, v6, v7, μ =>
    if v3 ≤ v7 then (
      g_B_keep_178 N B v0 v5 μ)
    else
      obd (jgA μ.1 v0 0 9) fun x1 =>
      obd x1 fun a2 =>
      obd (jal μ.1 a2) fun x3 =>
      if x3 ≤ v7 then (
        g_B_keep_178 N B v0 v5 μ)
      else
        obd (jgA μ.1 v0 0 9) fun x4 =>
        obd x4 fun a5 =>
        obd (jaA μ.1 a5 v7) fun x6 =>
        jon x6 (
          g_B_keep_172 N B (g_B_keep_113 N B n) v0 v3 v5 v6 v7 μ)
        fun a7 =>
          obd (jgA μ.1 v0 0 9) fun x8 =>
          obd x8 fun a9 =>
          obd (jaA μ.1 a9 v7) fun x10 =>
          jgd (jobC 3 (μ.1 v5)) <|
          obd (g_Kept_shape B v5 v7 x10 μ) fun μ12 =>
          obd (jgA μ12.1 v0 0 9) fun x13 =>
          obd x13 fun a14 =>
          obd (jaA μ12.1 a14 v7) fun x15 =>
          obd (jgA μ12.1 v5 3 2) fun x16 =>
          obd x15 fun a17 =>
          jgd (jobC 1 (μ12.1 a17)) <|
          jbd2 (g_Chain_save N B a17 x16 v6 μ12) fun x19 μ20 =>
          g_B_keep_172 N B (g_B_keep_113 N B n) v0 v3 v5 x19 v7 μ20
set_option maxRecDepth 10000 in
def g_B_keep_94 (N : Nat) (B : Nat) (v0 : Nat) (v2 : Nat) (v3 : Int32) (v4 : Int32)  (μ : JMem) : Option (Int32 × JMem) :=
  jnew 3 μ fun a1 μ2 =>
  obd (g_Kept_init B a1 (some v2) v3 v4 μ2) fun μ3 =>
  g_B_keep_113 N B N v0 v3 a1 (0 : Int32) (0 : Int32) μ3
set_option maxRecDepth 10000 in
def g_B_keep_43 (N : Nat) (B : Nat) : Nat → Nat → Nat → Int32 → Int32 → Int32 → JMem → Option (Int32 × JMem)
  | 0, _, _, _, _, _, _ => none
  | n + 1, v0, v2, v3, v4, v5, μ =>
    if v3 ≤ v5 then (
      g_B_keep_94 N B v0 v2 v3 v4 μ)
    else
      obd (jgA μ.1 v0 0 9) fun x1 =>
      obd x1 fun a2 =>
      obd (jal μ.1 a2) fun x3 =>
      if x3 ≤ v5 then (
        g_B_keep_94 N B v0 v2 v3 v4 μ)
      else
        obd (jgA μ.1 v0 0 9) fun x4 =>
        obd x4 fun a5 =>
        obd (jaA μ.1 a5 v5) fun x6 =>
        jon x6 (
          g_B_keep_85 N B (g_B_keep_43 N B n) v0 v2 v3 v5 (0 : Int32) v4 μ)
        fun a7 =>
          obd (jgA μ.1 v0 0 9) fun x8 =>
          obd x8 fun a9 =>
          obd (jaA μ.1 a9 v5) fun x10 =>
          obd x10 fun a11 =>
          jgd (jobC 1 (μ.1 a11)) <|
          obd (g_Chain_valueCount N a11 μ.1) fun x13 =>
          g_B_keep_85 N B (g_B_keep_43 N B n) v0 v2 v3 v5 x13 v4 μ
set_option maxRecDepth 10000 in
def g_B_keep (N : Nat) (B : Nat) (v0 : Nat) (v1 : Int32)  (μ : JMem) : Option (Int32 × JMem) :=
  jgd (jobC 0 (μ.1 v0)) <|
  obd (g_B_chainAt v0 v1 μ.1) fun x2 =>
  jon x2 (
    some ((-1 : Int32), μ))
  fun a3 =>
    obd (jgI μ.1 v0 0 8) fun x4 =>
    if x4 < 0 then (
      some ((-1 : Int32), μ))
    else
      obd (jgI μ.1 v0 0 8) fun x5 =>
      obd (jgA μ.1 v0 0 7) fun x6 =>
      obd x6 fun a7 =>
      obd (jal μ.1 a7) fun x8 =>
      if x5 < x8 then (
        jgd (jobC 0 (μ.1 v0)) <|
        jbd2 (g_B_gather N B v0 (some a3) μ) fun x10 μ11 =>
        g_B_keep_43 N B N v0 a3 x10 (0 : Int32) (0 : Int32) μ11)
      else
        some ((-1 : Int32), μ)
/-! FilterBench$Kept.chainCount()I -/
set_option maxRecDepth 10000 in
def g_Kept_chainCount (v0 : Nat)  (h : Nat → Option JCell) : Option Int32 :=
  obd (jgA h v0 3 1) fun x1 =>
  obd x1 fun a2 =>
  obd (jal h a2) fun x3 =>
  some (x3 / (3 : Int32))
/-! FilterBench$Kept.isShaped(ILFilterBench$Chain;)Z -/
set_option maxRecDepth 10000 in
def g_Kept_isShaped (v0 : Nat) (v1 : Int32) (v2 : Option Nat)  (h : Nat → Option JCell) : Option Bool :=
  if (v1 * (3 : Int32)) < 0 then (
    some false)
  else
    obd (jgA h v0 3 1) fun x1 =>
    obd x1 fun a2 =>
    obd (jal h a2) fun x3 =>
    if x3 ≤ ((v1 * (3 : Int32)) + (2 : Int32)) then (
      some false)
    else
      obd (jgA h v0 3 1) fun x4 =>
      obd x4 fun a5 =>
      obd (jaI h a5 (v1 * (3 : Int32))) fun x6 =>
      obd v2 fun a7 =>
      obd (jgI h a7 1 0) fun x8 =>
      if x6 = x8 then (
        obd (jgA h v0 3 1) fun x9 =>
        obd x9 fun a10 =>
        obd (jaI h a10 ((v1 * (3 : Int32)) + (1 : Int32))) fun x11 =>
        obd (jgI h a7 1 2) fun x12 =>
        if x11 = x12 then (
          obd (jgA h v0 3 1) fun x13 =>
          obd x13 fun a14 =>
          obd (jaI h a14 ((v1 * (3 : Int32)) + (2 : Int32))) fun x15 =>
          obd (jgI h a7 1 4) fun x16 =>
          if x15 = x16 then (
            some true)
          else
            some false)
        else
          some false)
      else
        some false
/-! FilterBench.gatherAsKept(LFilterBench$Kept;)Z -/
set_option maxRecDepth 10000 in
def g_B_gatherAsKept_21 (N : Nat) (B : Nat) : Nat → Nat → Nat → Int32 → Int32 → JMem → Option (Bool × JMem)
  | 0, _, _, _, _, _ => none
  | n + 1, v0, v1, v2, v3, μ =>
    if v2 ≤ v3 then (
      some (true, μ))
    else
      obd (jgA μ.1 v0 0 9) fun x1 =>
      obd x1 fun a2 =>
      obd (jal μ.1 a2) fun x3 =>
      if x3 ≤ v3 then (
        some (true, μ))
      else
        obd (jgA μ.1 v0 0 9) fun x4 =>
        obd x4 fun a5 =>
        obd (jaA μ.1 a5 v3) fun x6 =>
        jon x6 (
          some (false, μ))
        fun a7 =>
          obd (jgA μ.1 v0 0 9) fun x8 =>
          obd x8 fun a9 =>
          obd (jaA μ.1 a9 v3) fun x10 =>
          jgd (jobC 3 (μ.1 v1)) <|
          obd (g_Kept_isShaped v1 v3 x10 μ.1) fun x12 =>
          if x12 = true then (
            g_B_gatherAsKept_21 N B n v0 v1 v2 (v3 + 1) μ)
          else
            some (false, μ)
set_option maxRecDepth 10000 in
def g_B_gatherAsKept (N : Nat) (B : Nat) (v0 : Nat) (v1 : Option Nat)  (μ : JMem) : Option (Bool × JMem) :=
  obd v1 fun a1 =>
  obd (jgA μ.1 a1 3 0) fun x2 =>
  jgd (jobC 0 (μ.1 v0)) <|
  jbd2 (g_B_gather N B v0 x2 μ) fun x4 μ5 =>
  jgd (jobC 3 (μ5.1 a1)) <|
  obd (g_Kept_chainCount a1 μ5.1) fun x7 =>
  if x4 = x7 then (
    g_B_gatherAsKept_21 N B N v0 a1 x4 (0 : Int32) μ5)
  else
    some (false, μ5)
/-! FilterBench.keptAt(I)LFilterBench$Kept; -/
set_option maxRecDepth 10000 in
def g_B_keptAt_21  (h : Nat → Option JCell) : Option (Option Nat) :=
  some none
set_option maxRecDepth 10000 in
def g_B_keptAt (v0 : Nat) (v1 : Int32)  (h : Nat → Option JCell) : Option (Option Nat) :=
  if v1 < 0 then (
    g_B_keptAt_21 h)
  else
    obd (jgI h v0 0 8) fun x1 =>
    if x1 ≤ v1 then (
      g_B_keptAt_21 h)
    else
      obd (jgA h v0 0 7) fun x2 =>
      obd x2 fun a3 =>
      obd (jal h a3) fun x4 =>
      if v1 < x4 then (
        obd (jgA h v0 0 7) fun x5 =>
        obd x5 fun a6 =>
        obd (jaA h a6 v1) fun x7 =>
        some x7)
      else
        g_B_keptAt_21 h
/-! FilterBench$Row.load([JI)I -/
set_option maxRecDepth 10000 in
def g_Row_load_35 (N : Nat) (B : Nat) (k2 : Nat → Option Nat → Int32 → Int32 → JMem → Option (Int32 × JMem)) (v0 : Nat) (v1 : Option Nat) (v2 : Int32) (v3 : Int32)  (μ : JMem) : Option (Int32 × JMem) :=
  k2 v0 v1 v2 (v3 + 1) μ
set_option maxRecDepth 10000 in
def g_Row_load_2 (N : Nat) (B : Nat) : Nat → Nat → Option Nat → Int32 → Int32 → JMem → Option (Int32 × JMem)
  | 0, _, _, _, _, _ => none
  | n + 1, v0, v1, v2, v3, μ =>
    obd (jgA μ.1 v0 6 0) fun x1 =>
    obd x1 fun a2 =>
    obd (jal μ.1 a2) fun x3 =>
    if x3 ≤ v3 then (
      obd (jgA μ.1 v0 6 0) fun x4 =>
      obd x4 fun a5 =>
      obd (jal μ.1 a5) fun x6 =>
      some ((v2 + x6), μ))
    else
      if (v2 + v3) < 0 then (
        g_Row_load_35 N B (g_Row_load_2 N B n) v0 v1 v2 v3 μ)
      else
        obd v1 fun a7 =>
        obd (jal μ.1 a7) fun x8 =>
        if x8 ≤ (v2 + v3) then (
          g_Row_load_35 N B (g_Row_load_2 N B n) v0 (some a7) v2 v3 μ)
        else
          obd (jaJ μ.1 a7 (v2 + v3)) fun x9 =>
          jgd (jobC 6 (μ.1 v0)) <|
          obd (g_Row_put B v0 v3 x9 μ) fun μ11 =>
          g_Row_load_35 N B (g_Row_load_2 N B n) v0 (some a7) v2 v3 μ11
set_option maxRecDepth 10000 in
def g_Row_load (N : Nat) (B : Nat) (v0 : Nat) (v1 : Option Nat) (v2 : Int32)  (μ : JMem) : Option (Int32 × JMem) :=
  g_Row_load_2 N B N v0 v1 v2 (0 : Int32) μ
/-! FilterBench$Chain.load([JI)I -/
set_option maxRecDepth 10000 in
def g_Chain_load_38 (N : Nat) (B : Nat) (k5 : Nat → Option Nat → Int32 → Int32 → JMem → Option (Int32 × JMem)) (v0 : Nat) (v1 : Option Nat) (v4 : Int32) (s0 : Int32)  (μ : JMem) : Option (Int32 × JMem) :=
  k5 v0 v1 s0 (v4 + 1) μ
set_option maxRecDepth 10000 in
def g_Chain_load_5 (N : Nat) (B : Nat) : Nat → Nat → Option Nat → Int32 → Int32 → JMem → Option (Int32 × JMem)
  | 0, _, _, _, _, _ => none
  | n + 1, v0, v1, v3, v4, μ =>
    jgd (jobC 1 (μ.1 v0)) <|
    obd (g_Chain_rowCount v0 μ.1) fun x2 =>
    if x2 ≤ v4 then (
      some (v3, μ))
    else
      jgd (jobC 1 (μ.1 v0)) <|
      obd (g_Chain_rowAt v0 v4 μ.1) fun x4 =>
      jon x4 (
        g_Chain_load_38 N B (g_Chain_load_5 N B n) v0 v1 v4 v3 μ)
      fun a5 =>
        jgd (jobC 6 (μ.1 a5)) <|
        jbd2 (g_Row_load N B a5 v1 v3 μ) fun x7 μ8 =>
        g_Chain_load_38 N B (g_Chain_load_5 N B n) v0 v1 v4 x7 μ8
set_option maxRecDepth 10000 in
def g_Chain_load (N : Nat) (B : Nat) (v0 : Nat) (v1 : Option Nat) (v2 : Int32)  (μ : JMem) : Option (Int32 × JMem) :=
  g_Chain_load_5 N B N v0 v1 v2 (0 : Int32) μ
/-! FilterBench.back(I)Z -/
set_option maxRecDepth 10000 in
def g_B_back_70 (N : Nat) (B : Nat) (k25 : Nat → Nat → Int32 → Int32 → JMem → Option (Bool × JMem)) (v0 : Nat) (v2 : Nat) (v3 : Int32) (v4 : Int32)  (μ : JMem) : Option (Bool × JMem) :=
  k25 v0 v2 v3 (v4 + 1) μ
set_option maxRecDepth 10000 in
def g_B_back_25 (N : Nat) (B : Nat) : Nat → Nat → Nat → Int32 → Int32 → JMem → Option (Bool × JMem)
  | 0, _, _, _, _, _ => none
  | n + 1, v0, v2, v3, v4, μ =>
    jgd (jobC 3 (μ.1 v2)) <|
    obd (g_Kept_chainCount v2 μ.1) fun x2 =>
    if x2 ≤ v4 then (
      some (true, μ))
    else
      obd (jgA μ.1 v0 0 9) fun x3 =>
      obd x3 fun a4 =>
      obd (jal μ.1 a4) fun x5 =>
      if x5 ≤ v4 then (
        some (true, μ))
      else
        obd (jgA μ.1 v0 0 9) fun x6 =>
        obd x6 fun a7 =>
        obd (jaA μ.1 a7 v4) fun x8 =>
        jon x8 (
          g_B_back_70 N B (g_B_back_25 N B n) v0 v2 v3 v4 μ)
        fun a9 =>
          obd (jgA μ.1 v0 0 9) fun x10 =>
          obd x10 fun a11 =>
          obd (jaA μ.1 a11 v4) fun x12 =>
          obd (jgA μ.1 v2 3 2) fun x13 =>
          obd x12 fun a14 =>
          jgd (jobC 1 (μ.1 a14)) <|
          jbd2 (g_Chain_load N B a14 x13 v3 μ) fun x16 μ17 =>
          g_B_back_70 N B (g_B_back_25 N B n) v0 v2 x16 v4 μ17
set_option maxRecDepth 10000 in
def g_B_back (N : Nat) (B : Nat) (v0 : Nat) (v1 : Int32)  (μ : JMem) : Option (Bool × JMem) :=
  jgd (jobC 0 (μ.1 v0)) <|
  obd (g_B_keptAt v0 v1 μ.1) fun x2 =>
  jon x2 (
    some (false, μ))
  fun a3 =>
    jgd (jobC 0 (μ.1 v0)) <|
    jbd2 (g_B_gatherAsKept N B v0 (some a3) μ) fun x5 μ6 =>
    if x5 = true then (
      g_B_back_25 N B N v0 a3 (0 : Int32) (0 : Int32) μ6)
    else
      some (false, μ6)
/-! FilterBench$Row.holdsValues([JI)Z -/
set_option maxRecDepth 10000 in
def g_Row_holdsValues_2 (N : Nat) : Nat → Nat → Option Nat → Int32 → Int32 → (Nat → Option JCell) → Option Bool
  | 0, _, _, _, _, _ => none
  | n + 1, v0, v1, v2, v3, h =>
    obd (jgA h v0 6 0) fun x1 =>
    obd x1 fun a2 =>
    obd (jal h a2) fun x3 =>
    if x3 ≤ v3 then (
      some true)
    else
      if (v2 + v3) < 0 then (
        some false)
      else
        obd v1 fun a4 =>
        obd (jal h a4) fun x5 =>
        if x5 ≤ (v2 + v3) then (
          some false)
        else
          obd (jaJ h a4 (v2 + v3)) fun x6 =>
          jgd (jobC 6 (h v0)) <|
          obd (g_Row_at v0 v3 h) fun x8 =>
          if x6 = x8 then (
            g_Row_holdsValues_2 N n v0 (some a4) v2 (v3 + 1) h)
          else
            some false
set_option maxRecDepth 10000 in
def g_Row_holdsValues (N : Nat) (v0 : Nat) (v1 : Option Nat) (v2 : Int32)  (h : Nat → Option JCell) : Option Bool :=
  g_Row_holdsValues_2 N N v0 v1 v2 (0 : Int32) h
/-! FilterBench$Chain.holdsValues([JI)Z -/
set_option maxRecDepth 10000 in
def g_Chain_holdsValues_5 (N : Nat) : Nat → Nat → Option Nat → Int32 → Int32 → (Nat → Option JCell) → Option Bool
  | 0, _, _, _, _, _ => none
  | n + 1, v0, v1, v3, v4, h =>
    jgd (jobC 1 (h v0)) <|
    obd (g_Chain_rowCount v0 h) fun x2 =>
    if x2 ≤ v4 then (
      some true)
    else
      jgd (jobC 1 (h v0)) <|
      obd (g_Chain_rowAt v0 v4 h) fun x4 =>
      jon x4 (
        some false)
      fun a5 =>
        jgd (jobC 6 (h a5)) <|
        obd (g_Row_holdsValues N a5 v1 v3 h) fun x7 =>
        if x7 = true then (
          jgd (jobC 6 (h a5)) <|
          obd (g_Row_size a5 h) fun x9 =>
          g_Chain_holdsValues_5 N n v0 v1 (v3 + x9) (v4 + 1) h)
        else
          some false
set_option maxRecDepth 10000 in
def g_Chain_holdsValues (N : Nat) (v0 : Nat) (v1 : Option Nat) (v2 : Int32)  (h : Nat → Option JCell) : Option Bool :=
  g_Chain_holdsValues_5 N N v0 v1 v2 (0 : Int32) h
/-! FilterBench.same(I)Z -/
set_option maxRecDepth 10000 in
def g_B_same_25 (N : Nat) (B : Nat) : Nat → Nat → Nat → Int32 → Int32 → JMem → Option (Bool × JMem)
  | 0, _, _, _, _, _ => none
  | n + 1, v0, v2, v3, v4, μ =>
    jgd (jobC 3 (μ.1 v2)) <|
    obd (g_Kept_chainCount v2 μ.1) fun x2 =>
    if x2 ≤ v4 then (
      some (true, μ))
    else
      obd (jgA μ.1 v0 0 9) fun x3 =>
      obd x3 fun a4 =>
      obd (jal μ.1 a4) fun x5 =>
      if x5 ≤ v4 then (
        some (true, μ))
      else
        obd (jgA μ.1 v0 0 9) fun x6 =>
        obd x6 fun a7 =>
        obd (jaA μ.1 a7 v4) fun x8 =>
        jon x8 (
          some (false, μ))
        fun a9 =>
          obd (jgA μ.1 v0 0 9) fun x10 =>
          obd x10 fun a11 =>
          obd (jaA μ.1 a11 v4) fun x12 =>
          obd (jgA μ.1 v2 3 2) fun x13 =>
          obd x12 fun a14 =>
          jgd (jobC 1 (μ.1 a14)) <|
          obd (g_Chain_holdsValues N a14 x13 v3 μ.1) fun x16 =>
          if x16 = true then (
            obd (jgA μ.1 v0 0 9) fun x17 =>
            obd x17 fun a18 =>
            obd (jaA μ.1 a18 v4) fun x19 =>
            obd x19 fun a20 =>
            jgd (jobC 1 (μ.1 a20)) <|
            obd (g_Chain_valueCount N a20 μ.1) fun x22 =>
            g_B_same_25 N B n v0 v2 (v3 + x22) (v4 + 1) μ)
          else
            some (false, μ)
set_option maxRecDepth 10000 in
def g_B_same (N : Nat) (B : Nat) (v0 : Nat) (v1 : Int32)  (μ : JMem) : Option (Bool × JMem) :=
  jgd (jobC 0 (μ.1 v0)) <|
  obd (g_B_keptAt v0 v1 μ.1) fun x2 =>
  jon x2 (
    some (false, μ))
  fun a3 =>
    jgd (jobC 0 (μ.1 v0)) <|
    jbd2 (g_B_gatherAsKept N B v0 (some a3) μ) fun x5 μ6 =>
    if x5 = true then (
      g_B_same_25 N B N v0 a3 (0 : Int32) (0 : Int32) μ6)
    else
      some (false, μ6)
/-! FilterBench$Real.taken(LFilterBench$Real;J)J -/
set_option maxRecDepth 10000 in
def g_Real_taken_66 (s0 : Int64) (s1 : Bool) (s2 : Nat)  (h : Nat → Option JCell) : Option Int64 :=
  jgd (jobC 5 (h s2)) <|
  obd (g_Real_signed s2 s1 s0 h) fun x2 =>
  some x2
set_option maxRecDepth 10000 in
def g_Real_taken_51 (v0 : Nat) (v4 : Int64) (s0 : Bool) (s1 : Nat)  (h : Nat → Option JCell) : Option Int64 :=
  if v4 = (0 : Int64) then (
    g_Real_taken_66 (0 : Int64) s0 s1 h)
  else
    obd (jgJ h v0 5 5) fun x1 =>
    g_Real_taken_66 x1 s0 s1 h
set_option maxRecDepth 10000 in
def g_Real_taken_39 (v0 : Nat) (v2 : Int64) (v4 : Int64)  (h : Nat → Option JCell) : Option Int64 :=
  if (0 : Int64) ≤ v2 then (
    g_Real_taken_51 v0 v4 false v0 h)
  else
    g_Real_taken_51 v0 v4 true v0 h
set_option maxRecDepth 10000 in
def g_Real_taken_82 (v1 : Nat) (v4 : Int64) (s0 : Bool) (s1 : Nat)  (h : Nat → Option JCell) : Option Int64 :=
  jgd (jobC 5 (h v1)) <|
  obd (g_Real_exponent v1 v4 h) fun x2 =>
  jgd (jobC 5 (h v1)) <|
  obd (g_Real_mantissa v1 v4 h) fun x4 =>
  jgd (jobC 5 (h s1)) <|
  obd (g_Real_packed s1 s0 x2 x4 h) fun x6 =>
  some x6
set_option maxRecDepth 10000 in
def g_Real_taken (v0 : Nat) (v1 : Option Nat) (v2 : Int64)  (h : Nat → Option JCell) : Option Int64 :=
  obd v1 fun a1 =>
  jgd (jobC 5 (h a1)) <|
  obd (g_Real_sizeOf a1 v2 h) fun x3 =>
  obd (jgJ h a1 5 5) fun x4 =>
  if x3 ≤ x4 then (
    if x3 = (0 : Int64) then (
      g_Real_taken_39 v0 v2 x3 h)
    else
      obd (jgJ h a1 5 5) fun x5 =>
      if x3 = x5 then (
        g_Real_taken_39 v0 v2 x3 h)
      else
        if (0 : Int64) ≤ v2 then (
          g_Real_taken_82 a1 x3 false v0 h)
        else
          g_Real_taken_82 a1 x3 true v0 h)
  else
    obd (jgJ h v0 5 6) fun x6 =>
    some x6
/-! FilterBench$Real.meaning(JZLFilterBench$Real;)J -/
set_option maxRecDepth 10000 in
def g_Real_meaning_e (v0 : Nat) (v1 : Int64) (v4 : Option Nat)  (h : Nat → Option JCell) : Option Int64 :=
  obd v4 fun a1 =>
  jgd (jobC 5 (h a1)) <|
  obd (g_Real_taken a1 (some v0) v1 h) fun x3 =>
  some x3
set_option maxRecDepth 10000 in
def g_Real_meaning (v0 : Nat) (v1 : Int64) (v3 : Bool) (v4 : Option Nat)  (h : Nat → Option JCell) : Option Int64 := g_Real_meaning_e  v0 v1 v4 h
/-! FilterBench$Real.nearest(JZLFilterBench$Real;)J -/
set_option maxRecDepth 10000 in
def g_Real_nearest_e (v0 : Nat) (v1 : Int64) (v4 : Option Nat)  (h : Nat → Option JCell) : Option Int64 :=
  jgd (jobC 5 (h v0)) <|
  obd (g_Real_taken v0 v4 v1 h) fun x2 =>
  some x2
set_option maxRecDepth 10000 in
def g_Real_nearest (v0 : Nat) (v1 : Int64) (v3 : Bool) (v4 : Option Nat)  (h : Nat → Option JCell) : Option Int64 := g_Real_nearest_e  v0 v1 v4 h
/-! java/lang/Math.abs(J)J -/
set_option maxRecDepth 10000 in
def g_JMath_abs (v0 : Int64)  : Int64 :=
  if (0 : Int64) ≤ v0 then (
    v0)
  else
    (-v0)
/-! FilterBench$Real.scaled(JI)J -/
set_option maxRecDepth 10000 in
def g_Real_scaled_22 (v1 : Int64) (v3 : Int32) (s0 : Bool) (s1 : Nat)  (h : Nat → Option JCell) : Option Int64 :=
  jgd (jobC 5 (h s1)) <|
  obd (g_Real_packed s1 s0 v3 (g_JMath_abs v1) h) fun x2 =>
  some x2
set_option maxRecDepth 10000 in
def g_Real_scaled (v0 : Nat) (v1 : Int64) (v3 : Int32)  (h : Nat → Option JCell) : Option Int64 :=
  if v1 = (0 : Int64) then (
    some (0 : Int64))
  else
    if (0 : Int64) ≤ v1 then (
      g_Real_scaled_22 v1 v3 false v0 h)
    else
      g_Real_scaled_22 v1 v3 true v0 h
/-! FilterBench$Shorts.meaning(JZLFilterBench$Real;)J -/
set_option maxRecDepth 10000 in
def g_Shorts_meaning_13 (s0 : Int32) (s1 : Int64) (s2 : Option Nat)  (h : Nat → Option JCell) : Option Int64 :=
  obd s2 fun a1 =>
  jgd (jobC 5 (h a1)) <|
  obd (g_Real_scaled a1 s1 s0 h) fun x3 =>
  some x3
set_option maxRecDepth 10000 in
def g_Shorts_meaning_e (v1 : Int64) (v3 : Bool) (v4 : Option Nat)  (h : Nat → Option JCell) : Option Int64 :=
  if v3 = true then (
    g_Shorts_meaning_13 (0 : Int32) v1 v4 h)
  else
    g_Shorts_meaning_13 (-14 : Int32) v1 v4 h
set_option maxRecDepth 10000 in
def g_Shorts_meaning (v0 : Nat) (v1 : Int64) (v3 : Bool) (v4 : Option Nat)  (h : Nat → Option JCell) : Option Int64 := g_Shorts_meaning_e  v1 v3 v4 h
/-! FilterBench$Real.isFinite(J)Z -/
set_option maxRecDepth 10000 in
def g_Real_isFinite (v0 : Nat) (v1 : Int64)  (h : Nat → Option JCell) : Option Bool :=
  obd (jgJ h v0 5 4) fun x1 =>
  obd (jgJ h v0 5 5) fun x2 =>
  if x2 ≤ (v1 &&& (x1 ^^^ (-1 : Int64))) then (
    some false)
  else
    some true
/-! FilterBench$Shorts.nearest(JZLFilterBench$Real;)J -/
set_option maxRecDepth 10000 in
def g_Shorts_nearest_25 (v1 : Int64) (v4 : Nat) (v5 : Int64) (s0 : Int32) (s1 : Int32)  (h : Nat → Option JCell) : Option Int64 :=
  jgd (jobC 5 (h v4)) <|
  obd (g_Real_isFinite v4 v1 h) fun x2 =>
  if x2 = true then (
    if (s1 + s0) < 0 then (
      jgd (jobC 5 (h v4)) <|
      obd (g_Real_mantissa v4 v5 h) fun x4 =>
      jlet (g_Numbers_halfEven x4 (-(s1 + s0))) fun (v8_5 : Int64) =>
      if (0 : Int64) ≤ v1 then (
        some v8_5)
      else
        some (-v8_5))
    else
      some (1099511627776 : Int64))
  else
    some (1099511627776 : Int64)
set_option maxRecDepth 10000 in
def g_Shorts_nearest_e (v1 : Int64) (v3 : Bool) (v4 : Option Nat)  (h : Nat → Option JCell) : Option Int64 :=
  obd v4 fun a1 =>
  jgd (jobC 5 (h a1)) <|
  obd (g_Real_sizeOf a1 v1 h) fun x3 =>
  jgd (jobC 5 (h a1)) <|
  obd (g_Real_exponent a1 x3 h) fun x5 =>
  if v3 = true then (
    g_Shorts_nearest_25 v1 a1 x3 (0 : Int32) x5 h)
  else
    g_Shorts_nearest_25 v1 a1 x3 (14 : Int32) x5 h
set_option maxRecDepth 10000 in
def g_Shorts_nearest (v0 : Nat) (v1 : Int64) (v3 : Bool) (v4 : Option Nat)  (h : Nat → Option JCell) : Option Int64 := g_Shorts_nearest_e  v1 v3 v4 h
/-! FilterBench.translated(LFilterBench$Numbers;JZLFilterBench$Numbers;)J -/
set_option maxRecDepth 10000 in
def g_B_translated (v0 : Nat) (v1 : Option Nat) (v2 : Int64) (v4 : Bool) (v5 : Option Nat)  (h : Nat → Option JCell) : Option Int64 :=
  obd (jgA h v0 0 0) fun x1 =>
  obd v1 fun a2 =>
  obd (if jobC 5 (h a2) = true then g_Real_meaning a2 v2 v4 x1 h else jgd (jobC 8 (h a2)) (g_Shorts_meaning a2 v2 v4 x1 h)) fun x3 =>
  obd (jgA h v0 0 0) fun x4 =>
  obd v5 fun a5 =>
  obd (if jobC 5 (h a5) = true then g_Real_nearest a5 x3 v4 x4 h else jgd (jobC 8 (h a5)) (g_Shorts_nearest a5 x3 v4 x4 h)) fun x6 =>
  some x6
/-! FilterBench$Section.factorCount()I -/
set_option maxRecDepth 10000 in
def g_Section_factorCount (v0 : Nat)  (h : Nat → Option JCell) : Option Int32 :=
  obd (jgA h v0 7 5) fun x1 =>
  obd x1 fun a2 =>
  obd (jal h a2) fun x3 =>
  some x3
/-! FilterBench$Section.takesWhole()Z -/
set_option maxRecDepth 10000 in
def g_Section_takesWhole_18  (h : Nat → Option JCell) : Option Bool :=
  some true
set_option maxRecDepth 10000 in
def g_Section_takesWhole (v0 : Nat)  (h : Nat → Option JCell) : Option Bool :=
  obd (jgI h v0 7 1) fun x1 =>
  if x1 = (9 : Int32) then (
    g_Section_takesWhole_18 h)
  else
    obd (jgI h v0 7 1) fun x2 =>
    if x2 = (10 : Int32) then (
      g_Section_takesWhole_18 h)
    else
      some false
/-! FilterBench.canTranslate(LFilterBench$Chain;LFilterBench$Numbers;)Z -/
set_option maxRecDepth 10000 in
def g_B_canTranslate_72 (N : Nat) (k2 : Nat → Option Nat → Option Nat → Int32 → (Nat → Option JCell) → Option Bool) (v0 : Nat) (v1 : Nat) (v2 : Option Nat) (v3 : Int32)  (h : Nat → Option JCell) : Option Bool :=
  k2 v0 (some v1) v2 (v3 + 1) h
set_option maxRecDepth 10000 in
def g_B_canTranslate_20 (N : Nat) (k2 : Nat → Option Nat → Option Nat → Int32 → (Nat → Option JCell) → Option Bool) : Nat → Nat → Nat → Option Nat → Int32 → Option Nat → Int32 → (Nat → Option JCell) → Option Bool
  | 0, _, _, _, _, _, _, _ => none
  | n + 1, v0, v1, v2, v3, v4, v5, h =>
    jon v4 (
      g_B_canTranslate_72 N k2 v0 v1 v2 v3 h)
    fun a1 =>
      jgd (jobC 7 (h a1)) <|
      obd (g_Section_factorCount a1 h) fun x3 =>
      if x3 ≤ v5 then (
        g_B_canTranslate_72 N k2 v0 v1 v2 v3 h)
      else
        obd (jgA h a1 7 4) fun x4 =>
        jgd (jobC 7 (h a1)) <|
        obd (g_Section_factor a1 v5 h) fun x6 =>
        jgd (jobC 7 (h a1)) <|
        obd (g_Section_takesWhole a1 h) fun x8 =>
        jgd (jobC 0 (h v0)) <|
        obd (g_B_translated v0 x4 x6 x8 v2 h) fun x10 =>
        obd v2 fun a11 =>
        obd (if jobC 5 (h a11) = true then g_Real_holds a11 x10 h else jgd (jobC 8 (h a11)) (some (g_Shorts_holds a11 x10))) fun x12 =>
        if x12 = true then (
          g_B_canTranslate_20 N k2 n v0 v1 (some a11) v3 (some a1) (v5 + 1) h)
        else
          some false
set_option maxRecDepth 10000 in
def g_B_canTranslate_90 (N : Nat) : Nat → Nat → Nat → Option Nat → Option Nat → Int32 → (Nat → Option JCell) → Option Bool
  | 0, _, _, _, _, _, _ => none
  | n + 1, v0, v1, v2, v3, v4, h =>
    obd (jgI h v1 1 4) fun x1 =>
    if x1 ≤ v4 then (
      some true)
    else
      jgd (jobC 1 (h v1)) <|
      obd (g_Chain_loopAt v1 v4 h) fun x3 =>
      jon v3 (
        some false)
      fun a4 =>
        jon x3 (
          some false)
        fun a5 =>
          obd (jgJ h a5 4 2) fun x6 =>
          jgd (jobC 0 (h v0)) <|
          obd (g_B_translated v0 (some a4) x6 false v2 h) fun x8 =>
          obd v2 fun a9 =>
          obd (if jobC 5 (h a9) = true then g_Real_holds a9 x8 h else jgd (jobC 8 (h a9)) (some (g_Shorts_holds a9 x8))) fun x10 =>
          if x10 = true then (
            g_B_canTranslate_90 N n v0 v1 (some a9) (some a4) (v4 + 1) h)
          else
            some false
set_option maxRecDepth 10000 in
def g_B_canTranslate_2 (N : Nat) : Nat → Nat → Option Nat → Option Nat → Int32 → (Nat → Option JCell) → Option Bool
  | 0, _, _, _, _, _ => none
  | n + 1, v0, v1, v2, v3, h =>
    obd v1 fun a1 =>
    obd (jgI h a1 1 2) fun x2 =>
    if x2 ≤ v3 then (
      jgd (jobC 1 (h a1)) <|
      obd (g_Chain_sort a1 h) fun x4 =>
      jgd (jobC 0 (h v0)) <|
      obd (g_B_numbersOf v0 x4 h) fun x6 =>
      g_B_canTranslate_90 N N v0 a1 v2 x6 (0 : Int32) h)
    else
      jgd (jobC 1 (h a1)) <|
      obd (g_Chain_memberAt a1 v3 h) fun x8 =>
      g_B_canTranslate_20 N (g_B_canTranslate_2 N n) N v0 a1 v2 v3 x8 (0 : Int32) h
set_option maxRecDepth 10000 in
def g_B_canTranslate (N : Nat) (v0 : Nat) (v1 : Option Nat) (v2 : Option Nat)  (h : Nat → Option JCell) : Option Bool :=
  g_B_canTranslate_2 N N v0 v1 v2 (0 : Int32) h
/-! FilterBench.canRemake(LFilterBench$Chain;LFilterBench$Numbers;)Z -/
set_option maxRecDepth 10000 in
def g_B_canRemake_76 (N : Nat) (B : Nat) (v0 : Nat) (v3 : Int32) (v4 : Int32)  (μ : JMem) : Option (Bool × JMem) :=
  obd (jgI μ.1 v0 0 4) fun x1 =>
  if (60 : Int32) < (x1 + v4) then (
    some (false, μ))
  else
    obd (jgI μ.1 v0 0 6) fun x2 =>
    if (20 : Int32) < (x2 + v3) then (
      some (false, μ))
    else
      some (true, μ)
set_option maxRecDepth 10000 in
def g_B_canRemake_12 (N : Nat) (B : Nat) : Nat → Nat → Option Nat → Int32 → Int32 → Int32 → JMem → Option (Bool × JMem)
  | 0, _, _, _, _, _, _ => none
  | n + 1, v0, v2, v3, v4, v5, μ =>
    if v3 ≤ v5 then (
      g_B_canRemake_76 N B v0 v3 v4 μ)
    else
      obd (jgA μ.1 v0 0 9) fun x1 =>
      obd x1 fun a2 =>
      obd (jal μ.1 a2) fun x3 =>
      if x3 ≤ v5 then (
        g_B_canRemake_76 N B v0 v3 v4 μ)
      else
        obd (jgA μ.1 v0 0 9) fun x4 =>
        obd x4 fun a5 =>
        obd (jaA μ.1 a5 v5) fun x6 =>
        jon x6 (
          some (false, μ))
        fun a7 =>
          obd (jgA μ.1 v0 0 9) fun x8 =>
          obd x8 fun a9 =>
          obd (jaA μ.1 a9 v5) fun x10 =>
          jgd (jobC 0 (μ.1 v0)) <|
          obd (g_B_canTranslate N v0 x10 v2 μ.1) fun x12 =>
          if x12 = true then (
            obd (jgA μ.1 v0 0 9) fun x13 =>
            obd x13 fun a14 =>
            obd (jaA μ.1 a14 v5) fun x15 =>
            obd x15 fun a16 =>
            obd (jgI μ.1 a16 1 2) fun x17 =>
            g_B_canRemake_12 N B n v0 v2 v3 (v4 + x17) (v5 + 1) μ)
          else
            some (false, μ)
set_option maxRecDepth 10000 in
def g_B_canRemake (N : Nat) (B : Nat) (v0 : Nat) (v1 : Option Nat) (v2 : Option Nat)  (μ : JMem) : Option (Bool × JMem) :=
  jgd (jobC 0 (μ.1 v0)) <|
  jbd2 (g_B_gather N B v0 v1 μ) fun x2 μ3 =>
  g_B_canRemake_12 N B N v0 v2 x2 (0 : Int32) (0 : Int32) μ3
/-! FilterBench.remadeSection(LFilterBench$Section;ILFilterBench$Numbers;)LFilterBench$Section; -/
set_option maxRecDepth 10000 in
def g_B_remadeSection_26 (N : Nat) (B : Nat) (SA : Nat → Nat) : Nat → Nat → Nat → Int32 → Option Nat → Nat → Int32 → JMem → Option (Option Nat × JMem)
  | 0, _, _, _, _, _, _, _ => none
  | n + 1, v0, v1, v2, v3, v4, v5, μ =>
    jgd (jobC 7 (μ.1 v1)) <|
    obd (g_Section_factorCount v1 μ.1) fun x2 =>
    if x2 ≤ v5 then (
      obd (jgI μ.1 v1 7 2) fun x3 =>
      if x3 = (2 : Int32) then (
        if v2 = (2 : Int32) then (
          obd (jgI μ.1 v1 7 7) fun x4 =>
          obd (jpF B 7 7 v4 (.int x4) μ) fun μ5 =>
          obd (jgI μ5.1 v1 7 8) fun x6 =>
          obd (jpF B 7 8 v4 (.int x6) μ5) fun μ7 =>
          some ((some v4), μ7))
        else
          some ((some v4), μ))
      else
        some ((some v4), μ))
    else
      obd (jgA μ.1 v1 7 4) fun x8 =>
      jgd (jobC 7 (μ.1 v1)) <|
      obd (g_Section_factor v1 v5 μ.1) fun x10 =>
      jgd (jobC 7 (μ.1 v1)) <|
      obd (g_Section_takesWhole v1 μ.1) fun x12 =>
      jgd (jobC 0 (μ.1 v0)) <|
      obd (g_B_translated v0 x8 x10 x12 v3 μ.1) fun x14 =>
      jgd (jobC 7 (μ.1 v4)) <|
      obd (g_Section_setFactor B v4 v5 x14 μ) fun μ16 =>
      g_B_remadeSection_26 N B SA n v0 v1 v2 v3 v4 (v5 + 1) μ16
set_option maxRecDepth 10000 in
def g_B_remadeSection (N : Nat) (B : Nat) (SA : Nat → Nat) (v0 : Nat) (v1 : Option Nat) (v2 : Int32) (v3 : Option Nat)  (μ : JMem) : Option (Option Nat × JMem) :=
  obd v1 fun a1 =>
  obd (jgI μ.1 a1 7 1) fun x2 =>
  obd (jgI μ.1 a1 7 3) fun x3 =>
  jgd (jobC 0 (μ.1 v0)) <|
  jbd2 (g_B_newSection B SA v0 x2 v2 x3 v3 μ) fun x5 μ6 =>
  jon x5 (
    some (none, μ6))
  fun a7 =>
    g_B_remadeSection_26 N B SA N v0 a1 v2 v3 a7 (0 : Int32) μ6
/-! FilterBench.remakeLoops(LFilterBench$Chain;LFilterBench$Chain;LFilterBench$Numbers;)V -/
set_option maxRecDepth 10000 in
def g_B_remakeLoops_82 (N : Nat) (B : Nat) (k13 : Nat → Nat → Option Nat → Option Nat → Option Nat → Int32 → JMem → Option JMem) (v0 : Nat) (v1 : Nat) (v2 : Option Nat) (v3 : Option Nat) (v4 : Option Nat) (v5 : Int32)  (μ : JMem) : Option JMem :=
  k13 v0 v1 v2 v3 v4 (v5 + 1) μ
set_option maxRecDepth 10000 in
def g_B_remakeLoops_13 (N : Nat) (B : Nat) : Nat → Nat → Nat → Option Nat → Option Nat → Option Nat → Int32 → JMem → Option JMem
  | 0, _, _, _, _, _, _, _ => none
  | n + 1, v0, v1, v2, v3, v4, v5, μ =>
    obd (jgI μ.1 v1 1 4) fun x1 =>
    if x1 ≤ v5 then (
      some μ)
    else
      jgd (jobC 1 (μ.1 v1)) <|
      obd (g_Chain_loopAt v1 v5 μ.1) fun x3 =>
      jon v4 (
        g_B_remakeLoops_82 N B (g_B_remakeLoops_13 N B n) v0 v1 v2 v3 none v5 μ)
      fun a4 =>
        jon x3 (
          g_B_remakeLoops_82 N B (g_B_remakeLoops_13 N B n) v0 v1 v2 v3 (some a4) v5 μ)
        fun a5 =>
          jnew 4 μ fun a6 μ7 =>
          obd (jgI μ7.1 a5 4 0) fun x8 =>
          obd (jgI μ7.1 a5 4 1) fun x9 =>
          obd (jgA μ7.1 a5 4 3) fun x10 =>
          obd x10 fun a11 =>
          jgd (jobC 6 (μ7.1 a11)) <|
          obd (g_Row_size a11 μ7.1) fun x13 =>
          obd (jgJ μ7.1 a5 4 2) fun x14 =>
          jgd (jobC 0 (μ7.1 v0)) <|
          obd (g_B_translated v0 (some a4) x14 false v3 μ7.1) fun x16 =>
          obd (g_Loop_init B a6 x8 x9 x13 x16 μ7) fun μ17 =>
          obd v2 fun a18 =>
          jgd (jobC 1 (μ17.1 a18)) <|
          obd (g_Chain_tie B a18 (some a6) μ17) fun μ20 =>
          g_B_remakeLoops_82 N B (g_B_remakeLoops_13 N B n) v0 v1 (some a18) v3 (some a4) v5 μ20
set_option maxRecDepth 10000 in
def g_B_remakeLoops (N : Nat) (B : Nat) (v0 : Nat) (v1 : Option Nat) (v2 : Option Nat) (v3 : Option Nat)  (μ : JMem) : Option JMem :=
  obd v1 fun a1 =>
  jgd (jobC 1 (μ.1 a1)) <|
  obd (g_Chain_sort a1 μ.1) fun x3 =>
  jgd (jobC 0 (μ.1 v0)) <|
  obd (g_B_numbersOf v0 x3 μ.1) fun x5 =>
  g_B_remakeLoops_13 N B N v0 a1 v2 v3 x5 (0 : Int32) μ
/-! FilterBench.remade(LFilterBench$Chain;ILFilterBench$Numbers;I)LFilterBench$Chain; -/
set_option maxRecDepth 10000 in
def g_B_remade_117 (N : Nat) (B : Nat) (SA : Nat → Nat) (kS : Nat → Option Nat → Int32 → Option Nat → Int32 → JMem → Option (Option Nat × JMem)) (k21 : Nat → Option Nat → Int32 → Option Nat → Int32 → Nat → Int32 → JMem → Option (Option Nat × JMem)) (v0 : Nat) (v1 : Nat) (v2 : Int32) (v3 : Option Nat) (v4 : Int32) (v5 : Nat) (v6 : Int32)  (μ : JMem) : Option (Option Nat × JMem) :=
  k21 v0 (some v1) v2 v3 v4 v5 (v6 + 1) μ
set_option maxRecDepth 10000 in
def g_B_remade_72 (N : Nat) (B : Nat) (SA : Nat → Nat) (kS : Nat → Option Nat → Int32 → Option Nat → Int32 → JMem → Option (Option Nat × JMem)) (k21 : Nat → Option Nat → Int32 → Option Nat → Int32 → Nat → Int32 → JMem → Option (Option Nat × JMem)) (v0 : Nat) (v1 : Nat) (v2 : Int32) (v3 : Option Nat) (v4 : Int32) (v5 : Nat) (v6 : Int32) (v7 : Nat) (s0 : Option Nat)  (μ : JMem) : Option (Option Nat × JMem) :=
  jgd (jobC 0 (μ.1 v0)) <|
  jbd2 (g_B_remadeSection N B SA v0 (some v7) v2 v3 μ) fun x2 μ3 =>
  jon x2 (
    some (none, μ3))
  fun a4 =>
    jgd (jobC 1 (μ3.1 v5)) <|
    obd (g_Chain_join B v5 (some a4) μ3) fun μ6 =>
    jon s0 (
      g_B_remade_117 N B SA kS k21 v0 v1 v2 v3 v4 v5 v6 μ6)
    fun a7 =>
      obd (jpF B 7 14 a4 (rv (some a7)) μ6) fun μ8 =>
      obd (jpF B 1 9 a7 (rv (some a4)) μ8) fun μ9 =>
      g_B_remade_117 N B SA kS k21 v0 v1 v2 v3 v4 v5 v6 μ9
set_option maxRecDepth 10000 in
def g_B_remade_21 (N : Nat) (B : Nat) (SA : Nat → Nat) (kS : Nat → Option Nat → Int32 → Option Nat → Int32 → JMem → Option (Option Nat × JMem)) : Nat → Nat → Option Nat → Int32 → Option Nat → Int32 → Nat → Int32 → JMem → Option (Option Nat × JMem)
  | 0, _, _, _, _, _, _, _, _ => none
  | n + 1, v0, v1, v2, v3, v4, v5, v6, μ =>
    obd v1 fun a1 =>
    obd (jgI μ.1 a1 1 2) fun x2 =>
    if x2 ≤ v6 then (
      jgd (jobC 0 (μ.1 v0)) <|
      obd (g_B_remakeLoops N B v0 (some a1) (some v5) v3 μ) fun μ4 =>
      jgd (jobC 0 (μ4.1 v0)) <|
      jbd2 (g_B_registered B v0 (some v5) μ4) fun x6 μ7 =>
      some ((some v5), μ7))
    else
      jgd (jobC 1 (μ.1 a1)) <|
      obd (g_Chain_memberAt a1 v6 μ.1) fun x9 =>
      jon x9 (
        some (none, μ))
      fun a10 =>
        obd (jgA μ.1 a10 7 14) fun x11 =>
        jon x11 (
          g_B_remade_72 N B SA kS (g_B_remade_21 N B SA kS n) v0 a1 v2 v3 v4 v5 v6 a10 none μ)
        fun a12 =>
          obd (jgA μ.1 a10 7 14) fun x13 =>
          jgd (jobC 0 (μ.1 v0)) <|
          jbd2 (kS v0 x13 v2 v3 (v4 + (1 : Int32)) μ) fun x15 μ16 =>
          g_B_remade_72 N B SA kS (g_B_remade_21 N B SA kS n) v0 a1 v2 v3 v4 v5 v6 a10 x15 μ16
set_option maxRecDepth 10000 in
def g_B_remade_b (N : Nat) (B : Nat) (SA : Nat → Nat) (kS : Nat → Option Nat → Int32 → Option Nat → Int32 → JMem → Option (Option Nat × JMem)) (v0 : Nat) (v1 : Option Nat) (v2 : Int32) (v3 : Option Nat) (v4 : Int32)  (μ : JMem) : Option (Option Nat × JMem) :=
  if v4 ≤ (30 : Int32) then (
    jnew 1 μ fun a1 μ2 =>
    obd (g_Chain_init B a1 μ2) fun μ3 =>
    g_B_remade_21 N B SA kS N v0 v1 v2 v3 v4 a1 (0 : Int32) μ3)
  else
    some (none, μ)
set_option maxRecDepth 10000 in
def g_B_remade (N : Nat) (B : Nat) (SA : Nat → Nat) : Nat → Nat → Option Nat → Int32 → Option Nat → Int32 → JMem → Option (Option Nat × JMem)
  | 0, _, _, _, _, _, _ => none
  | n + 1, v0, v1, v2, v3, v4, μ => g_B_remade_b N B SA (g_B_remade N B SA n) v0 v1 v2 v3 v4 μ
/-! FilterBench.convert(II)I -/
set_option maxRecDepth 10000 in
def g_B_convert (N : Nat) (M : Nat) (B : Nat) (SA : Nat → Nat) (v0 : Nat) (v1 : Int32) (v2 : Int32)  (μ : JMem) : Option (Int32 × JMem) :=
  jgd (jobC 0 (μ.1 v0)) <|
  obd (g_B_fedAlone v0 v1 μ.1) fun x2 =>
  jgd (jobC 0 (μ.1 v0)) <|
  obd (g_B_numbersOf v0 v2 μ.1) fun x4 =>
  jon x2 (
    some ((-1 : Int32), μ))
  fun a5 =>
    jon x4 (
      some ((-1 : Int32), μ))
    fun a6 =>
      jgd (jobC 0 (μ.1 v0)) <|
      jbd2 (g_B_canRemake N B v0 (some a5) (some a6) μ) fun x8 μ9 =>
      if x8 = true then (
        jgd (jobC 0 (μ9.1 v0)) <|
        jbd2 (g_B_remade N B SA M v0 (some a5) v2 (some a6) (0 : Int32) μ9) fun x11 μ12 =>
        obd (g_B_numberOf x11 μ12.1) fun x13 =>
        some (x13, μ12))
      else
        some ((-1 : Int32), μ9)
/-! FilterBenchLaw.fit(JI)J -/
set_option maxRecDepth 10000 in
def g_L_fit_18 (v0 : Int64) (v2 : Int32)  : Int64 :=
  if v2 = (1 : Int32) then (
    (Int32.toInt64 (Int16.toInt32 (Int32.toInt16 (Int64.toInt32 v0)))))
  else
    if v0 ≤ (0 : Int64) then (
      (-32768 : Int64))
    else
      (32767 : Int64)
set_option maxRecDepth 10000 in
def g_L_fit (v0 : Int64) (v2 : Int32)  : Int64 :=
  if v0 < (-32768 : Int64) then (
    g_L_fit_18 v0 v2)
  else
    if (32767 : Int64) < v0 then (
      g_L_fit_18 v0 v2)
    else
      v0
/-! FilterBenchLaw.law([I)Z -/
set_option maxRecDepth 10000 in
def g_L_law_365 (N : Nat) (M : Nat) (B : Nat) (SA : Nat → Nat) (k94 : Nat → Nat → Int32 → Nat → Nat → Nat → Nat → Nat → Nat → Bool → Int32 → JMem → Option (Bool × JMem)) (v1 : Nat) (v2 : Nat) (v3 : Int32) (v4 : Nat) (v5 : Nat) (v6 : Nat) (v7 : Nat) (v8 : Nat) (v9 : Nat) (v10 : Bool) (v11 : Int32)  (μ : JMem) : Option (Bool × JMem) :=
  k94 v1 v2 v3 v4 v5 v6 v7 v8 v9 v10 (v11 + 1) μ
set_option maxRecDepth 10000 in
def g_L_law_363 (N : Nat) (M : Nat) (B : Nat) (SA : Nat → Nat) (k94 : Nat → Nat → Int32 → Nat → Nat → Nat → Nat → Nat → Nat → Bool → Int32 → JMem → Option (Bool × JMem)) (v1 : Nat) (v2 : Nat) (v3 : Int32) (v4 : Nat) (v5 : Nat) (v6 : Nat) (v7 : Nat) (v8 : Nat) (v9 : Nat) (v11 : Int32) (s0 : Bool)  (μ : JMem) : Option (Bool × JMem) :=
  g_L_law_365 N M B SA k94 v1 v2 v3 v4 v5 v6 v7 v8 v9 s0 v11 μ
set_option maxRecDepth 10000 in
def g_L_law_362 (N : Nat) (M : Nat) (B : Nat) (SA : Nat → Nat) (k94 : Nat → Nat → Int32 → Nat → Nat → Nat → Nat → Nat → Nat → Bool → Int32 → JMem → Option (Bool × JMem)) (v1 : Nat) (v2 : Nat) (v3 : Int32) (v4 : Nat) (v5 : Nat) (v6 : Nat) (v7 : Nat) (v8 : Nat) (v9 : Nat) (v11 : Int32)  (μ : JMem) : Option (Bool × JMem) :=
  g_L_law_363 N M B SA k94 v1 v2 v3 v4 v5 v6 v7 v8 v9 v11 false μ
set_option maxRecDepth 10000 in
def g_L_law_329 (N : Nat) (M : Nat) (B : Nat) (SA : Nat → Nat) (k94 : Nat → Nat → Int32 → Nat → Nat → Nat → Nat → Nat → Nat → Bool → Int32 → JMem → Option (Bool × JMem)) (v1 : Nat) (v2 : Nat) (v3 : Int32) (v4 : Nat) (v5 : Nat) (v6 : Nat) (v7 : Nat) (v8 : Nat) (v9 : Nat) (v10 : Bool) (v11 : Int32)  (μ : JMem) : Option (Bool × JMem) :=
  obd (jaI μ.1 v4 v11) fun x1 =>
  if x1 = (1 : Int32) then (
    if v10 = true then (
      obd (jaJ μ.1 v9 v11) fun x2 =>
      jgd (jobC 0 (μ.1 v2)) <|
      jbd2 (g_B_coefficient B v2 v11 (1 : Int32) x2 μ) fun x4 μ5 =>
      if x4 = true then (
        g_L_law_363 N M B SA k94 v1 v2 v3 v4 v5 v6 v7 v8 v9 v11 true μ5)
      else
        g_L_law_362 N M B SA k94 v1 v2 v3 v4 v5 v6 v7 v8 v9 v11 μ5)
    else
      g_L_law_362 N M B SA k94 v1 v2 v3 v4 v5 v6 v7 v8 v9 v11 μ)
  else
    g_L_law_365 N M B SA k94 v1 v2 v3 v4 v5 v6 v7 v8 v9 v10 v11 μ
set_option maxRecDepth 10000 in
def g_L_law_327 (N : Nat) (M : Nat) (B : Nat) (SA : Nat → Nat) (k94 : Nat → Nat → Int32 → Nat → Nat → Nat → Nat → Nat → Nat → Bool → Int32 → JMem → Option (Bool × JMem)) (v1 : Nat) (v2 : Nat) (v3 : Int32) (v4 : Nat) (v5 : Nat) (v6 : Nat) (v7 : Nat) (v8 : Nat) (v9 : Nat) (v11 : Int32) (s0 : Bool)  (μ : JMem) : Option (Bool × JMem) :=
  g_L_law_329 N M B SA k94 v1 v2 v3 v4 v5 v6 v7 v8 v9 s0 v11 μ
set_option maxRecDepth 10000 in
def g_L_law_326 (N : Nat) (M : Nat) (B : Nat) (SA : Nat → Nat) (k94 : Nat → Nat → Int32 → Nat → Nat → Nat → Nat → Nat → Nat → Bool → Int32 → JMem → Option (Bool × JMem)) (v1 : Nat) (v2 : Nat) (v3 : Int32) (v4 : Nat) (v5 : Nat) (v6 : Nat) (v7 : Nat) (v8 : Nat) (v9 : Nat) (v11 : Int32)  (μ : JMem) : Option (Bool × JMem) :=
  g_L_law_327 N M B SA k94 v1 v2 v3 v4 v5 v6 v7 v8 v9 v11 false μ
set_option maxRecDepth 10000 in
def g_L_law_290 (N : Nat) (M : Nat) (B : Nat) (SA : Nat → Nat) (k94 : Nat → Nat → Int32 → Nat → Nat → Nat → Nat → Nat → Nat → Bool → Int32 → JMem → Option (Bool × JMem)) (v1 : Nat) (v2 : Nat) (v3 : Int32) (v4 : Nat) (v5 : Nat) (v6 : Nat) (v7 : Nat) (v8 : Nat) (v9 : Nat) (v11 : Int32) (s0 : Bool)  (μ : JMem) : Option (Bool × JMem) :=
  obd (jaI μ.1 v4 v11) fun x1 =>
  if x1 = (6 : Int32) then (
    g_L_law_329 N M B SA k94 v1 v2 v3 v4 v5 v6 v7 v8 v9 s0 v11 μ)
  else
    if s0 = true then (
      obd (jaJ μ.1 v8 v11) fun x2 =>
      jgd (jobC 0 (μ.1 v2)) <|
      jbd2 (g_B_coefficient B v2 v11 (0 : Int32) x2 μ) fun x4 μ5 =>
      if x4 = true then (
        g_L_law_327 N M B SA k94 v1 v2 v3 v4 v5 v6 v7 v8 v9 v11 true μ5)
      else
        g_L_law_326 N M B SA k94 v1 v2 v3 v4 v5 v6 v7 v8 v9 v11 μ5)
    else
      g_L_law_326 N M B SA k94 v1 v2 v3 v4 v5 v6 v7 v8 v9 v11 μ
set_option maxRecDepth 10000 in
def g_L_law_289 (N : Nat) (M : Nat) (B : Nat) (SA : Nat → Nat) (k94 : Nat → Nat → Int32 → Nat → Nat → Nat → Nat → Nat → Nat → Bool → Int32 → JMem → Option (Bool × JMem)) (v1 : Nat) (v2 : Nat) (v3 : Int32) (v4 : Nat) (v5 : Nat) (v6 : Nat) (v7 : Nat) (v8 : Nat) (v9 : Nat) (v11 : Int32)  (μ : JMem) : Option (Bool × JMem) :=
  g_L_law_290 N M B SA k94 v1 v2 v3 v4 v5 v6 v7 v8 v9 v11 false μ
set_option maxRecDepth 10000 in
def g_L_law_166 (N : Nat) (M : Nat) (B : Nat) (SA : Nat → Nat) (k94 : Nat → Nat → Int32 → Nat → Nat → Nat → Nat → Nat → Nat → Bool → Int32 → JMem → Option (Bool × JMem)) (v1 : Nat) (v2 : Nat) (v3 : Int32) (v4 : Nat) (v5 : Nat) (v6 : Nat) (v7 : Nat) (v8 : Nat) (v9 : Nat) (v10 : Bool) (v11 : Int32) (v12 : Int32) (s0 : Int32) (s1 : Int32) (s2 : Nat)  (μ : JMem) : Option (Bool × JMem) :=
  obd (jpA B .int s2 s1 (.int s0) μ) fun μ1 =>
  obd (jpA B .int v5 v11 (.int (((v12 >>> ((3 : Int32) &&& 31)) &&& (3 : Int32)) - ((v12 >>> ((3 : Int32) &&& 31)) &&& (3 : Int32)) / (3 : Int32) * (3 : Int32))) μ1) fun μ2 =>
  obd (jpA B .int v6 v11 (.int ((v12 >>> ((5 : Int32) &&& 31)) &&& (1 : Int32))) μ2) fun μ3 =>
  obd (jpA B .int v7 v11 (.int ((1 : Int32) + ((v12 >>> ((6 : Int32) &&& 31)) &&& (3 : Int32)))) μ3) fun μ4 =>
  obd (jpA B .long v8 v11 (.long (Int32.toInt64 (Int16.toInt32 (Int32.toInt16 (v12 >>> ((8 : Int32) &&& 31)))))) μ4) fun μ5 =>
  obd (jpA B .long v9 v11 (.long (Int32.toInt64 (Int16.toInt32 (Int32.toInt16 (v12 >>> ((16 : Int32) &&& 31)))))) μ5) fun μ6 =>
  if v10 = true then (
    obd (jaI μ6.1 v4 v11) fun x7 =>
    obd (jaI μ6.1 v7 v11) fun x8 =>
    jgd (jobC 0 (μ6.1 v2)) <|
    jbd2 (g_B_section B SA v2 x7 (2 : Int32) x8 μ6) fun x10 μ11 =>
    if x10 = v11 then (
      jgd (jobC 0 (μ11.1 v2)) <|
      jbd2 (g_B_add N B v2 (0 : Int32) v11 μ11) fun x13 μ14 =>
      if x13 = v11 then (
        obd (jaI μ14.1 v5 v11) fun x15 =>
        obd (jaI μ14.1 v6 v11) fun x16 =>
        jgd (jobC 0 (μ14.1 v2)) <|
        jbd2 (g_B_rule B v2 v11 x15 x16 μ14) fun x18 μ19 =>
        if x18 = true then (
          g_L_law_290 N M B SA k94 v1 v2 v3 v4 v5 v6 v7 v8 v9 v11 true μ19)
        else
          g_L_law_289 N M B SA k94 v1 v2 v3 v4 v5 v6 v7 v8 v9 v11 μ19)
      else
        g_L_law_289 N M B SA k94 v1 v2 v3 v4 v5 v6 v7 v8 v9 v11 μ14)
    else
      g_L_law_289 N M B SA k94 v1 v2 v3 v4 v5 v6 v7 v8 v9 v11 μ11)
  else
    g_L_law_289 N M B SA k94 v1 v2 v3 v4 v5 v6 v7 v8 v9 v11 μ6
set_option maxRecDepth 10000 in
def g_L_law_1059 (N : Nat) (M : Nat) (B : Nat) (SA : Nat → Nat) (k517 : Nat → Nat → Int32 → Nat → Nat → Nat → Nat → Nat → Nat → Bool → Int32 → Int32 → Int64 → Int64 → Nat → Nat → Nat → Nat → Nat → Nat → Nat → Int32 → Int32 → Nat → Int32 → JMem → Option (Bool × JMem)) (k553 : Nat → Nat → Int32 → Nat → Nat → Nat → Nat → Nat → Nat → Int32 → Int32 → Int64 → Int64 → Nat → Nat → Nat → Nat → Nat → Nat → Nat → Int32 → Int32 → Nat → Int32 → Int64 → Int64 → Int32 → JMem → Option (Bool × JMem)) (k634 : Nat → Nat → Int32 → Nat → Nat → Nat → Nat → Nat → Nat → Int32 → Int32 → Int64 → Int64 → Nat → Nat → Nat → Nat → Nat → Nat → Nat → Int32 → Int32 → Nat → Int32 → Int64 → Int64 → Int32 → Int32 → Int32 → Int64 → Int64 → Int32 → JMem → Option (Bool × JMem)) (v1 : Nat) (v2 : Nat) (v3 : Int32) (v4 : Nat) (v5 : Nat) (v6 : Nat) (v7 : Nat) (v8 : Nat) (v9 : Nat) (v11 : Int32) (v12 : Int32) (v13 : Int64) (v15 : Int64) (v17 : Nat) (v18 : Nat) (v19 : Nat) (v20 : Nat) (v21 : Nat) (v22 : Nat) (v23 : Nat) (v24 : Int32) (v25 : Int32) (v26 : Nat) (v27 : Int32) (v28 : Int64) (v30 : Int64) (v32 : Int32) (v33 : Int32) (v34 : Int32) (v35 : Int64) (v37 : Int64) (v41 : Int32)  (μ : JMem) : Option (Bool × JMem) :=
  k634 v1 v2 v3 v4 v5 v6 v7 v8 v9 v11 v12 v13 v15 v17 v18 v19 v20 v21 v22 v23 v24 v25 v26 v27 v28 v30 v32 v33 v34 v35 v37 (v41 + 1) μ
set_option maxRecDepth 10000 in
def g_L_law_1057 (N : Nat) (M : Nat) (B : Nat) (SA : Nat → Nat) (k517 : Nat → Nat → Int32 → Nat → Nat → Nat → Nat → Nat → Nat → Bool → Int32 → Int32 → Int64 → Int64 → Nat → Nat → Nat → Nat → Nat → Nat → Nat → Int32 → Int32 → Nat → Int32 → JMem → Option (Bool × JMem)) (k553 : Nat → Nat → Int32 → Nat → Nat → Nat → Nat → Nat → Nat → Int32 → Int32 → Int64 → Int64 → Nat → Nat → Nat → Nat → Nat → Nat → Nat → Int32 → Int32 → Nat → Int32 → Int64 → Int64 → Int32 → JMem → Option (Bool × JMem)) (k634 : Nat → Nat → Int32 → Nat → Nat → Nat → Nat → Nat → Nat → Int32 → Int32 → Int64 → Int64 → Nat → Nat → Nat → Nat → Nat → Nat → Nat → Int32 → Int32 → Nat → Int32 → Int64 → Int64 → Int32 → Int32 → Int32 → Int64 → Int64 → Int32 → JMem → Option (Bool × JMem)) (v1 : Nat) (v2 : Nat) (v3 : Int32) (v4 : Nat) (v5 : Nat) (v6 : Nat) (v7 : Nat) (v8 : Nat) (v9 : Nat) (v11 : Int32) (v12 : Int32) (v13 : Int64) (v15 : Int64) (v17 : Nat) (v18 : Nat) (v19 : Nat) (v20 : Nat) (v21 : Nat) (v22 : Nat) (v23 : Nat) (v24 : Int32) (v25 : Int32) (v26 : Nat) (v27 : Int32) (v28 : Int64) (v30 : Int64) (v32 : Int32) (v33 : Int32) (v34 : Int32) (v35 : Int64) (v41 : Int32) (s0 : Int64)  (μ : JMem) : Option (Bool × JMem) :=
  g_L_law_1059 N M B SA k517 k553 k634 v1 v2 v3 v4 v5 v6 v7 v8 v9 v11 v12 v13 v15 v17 v18 v19 v20 v21 v22 v23 v24 v25 v26 v27 v28 v30 v32 v33 v34 v35 s0 v41 μ
set_option maxRecDepth 10000 in
def g_L_law_1055 (N : Nat) (M : Nat) (B : Nat) (SA : Nat → Nat) (k517 : Nat → Nat → Int32 → Nat → Nat → Nat → Nat → Nat → Nat → Bool → Int32 → Int32 → Int64 → Int64 → Nat → Nat → Nat → Nat → Nat → Nat → Nat → Int32 → Int32 → Nat → Int32 → JMem → Option (Bool × JMem)) (k553 : Nat → Nat → Int32 → Nat → Nat → Nat → Nat → Nat → Nat → Int32 → Int32 → Int64 → Int64 → Nat → Nat → Nat → Nat → Nat → Nat → Nat → Int32 → Int32 → Nat → Int32 → Int64 → Int64 → Int32 → JMem → Option (Bool × JMem)) (k634 : Nat → Nat → Int32 → Nat → Nat → Nat → Nat → Nat → Nat → Int32 → Int32 → Int64 → Int64 → Nat → Nat → Nat → Nat → Nat → Nat → Nat → Int32 → Int32 → Nat → Int32 → Int64 → Int64 → Int32 → Int32 → Int32 → Int64 → Int64 → Int32 → JMem → Option (Bool × JMem)) (v1 : Nat) (v2 : Nat) (v3 : Int32) (v4 : Nat) (v5 : Nat) (v6 : Nat) (v7 : Nat) (v8 : Nat) (v9 : Nat) (v11 : Int32) (v12 : Int32) (v13 : Int64) (v15 : Int64) (v17 : Nat) (v18 : Nat) (v19 : Nat) (v20 : Nat) (v21 : Nat) (v22 : Nat) (v23 : Nat) (v24 : Int32) (v25 : Int32) (v26 : Nat) (v27 : Int32) (v28 : Int64) (v30 : Int64) (v32 : Int32) (v33 : Int32) (v34 : Int32) (v35 : Int64) (v37 : Int64) (v41 : Int32)  (μ : JMem) : Option (Bool × JMem) :=
  g_L_law_1057 N M B SA k517 k553 k634 v1 v2 v3 v4 v5 v6 v7 v8 v9 v11 v12 v13 v15 v17 v18 v19 v20 v21 v22 v23 v24 v25 v26 v27 v28 v30 v32 v33 v34 v35 v41 v37 μ
set_option maxRecDepth 10000 in
def g_L_law_1008 (N : Nat) (M : Nat) (B : Nat) (SA : Nat → Nat) (k517 : Nat → Nat → Int32 → Nat → Nat → Nat → Nat → Nat → Nat → Bool → Int32 → Int32 → Int64 → Int64 → Nat → Nat → Nat → Nat → Nat → Nat → Nat → Int32 → Int32 → Nat → Int32 → JMem → Option (Bool × JMem)) (k553 : Nat → Nat → Int32 → Nat → Nat → Nat → Nat → Nat → Nat → Int32 → Int32 → Int64 → Int64 → Nat → Nat → Nat → Nat → Nat → Nat → Nat → Int32 → Int32 → Nat → Int32 → Int64 → Int64 → Int32 → JMem → Option (Bool × JMem)) (k634 : Nat → Nat → Int32 → Nat → Nat → Nat → Nat → Nat → Nat → Int32 → Int32 → Int64 → Int64 → Nat → Nat → Nat → Nat → Nat → Nat → Nat → Int32 → Int32 → Nat → Int32 → Int64 → Int64 → Int32 → Int32 → Int32 → Int64 → Int64 → Int32 → JMem → Option (Bool × JMem)) (v1 : Nat) (v2 : Nat) (v3 : Int32) (v4 : Nat) (v5 : Nat) (v6 : Nat) (v7 : Nat) (v8 : Nat) (v9 : Nat) (v11 : Int32) (v12 : Int32) (v13 : Int64) (v15 : Int64) (v17 : Nat) (v18 : Nat) (v19 : Nat) (v20 : Nat) (v21 : Nat) (v22 : Nat) (v23 : Nat) (v24 : Int32) (v25 : Int32) (v26 : Nat) (v27 : Int32) (v28 : Int64) (v30 : Int64) (v32 : Int32) (v33 : Int32) (v34 : Int32) (v37 : Int64) (v41 : Int32) (v44 : Int64)  (μ : JMem) : Option (Bool × JMem) :=
  obd (jaI μ.1 v6 v32) fun x1 =>
  if v33 ≤ v41 then (
    obd (jaI μ.1 v4 v32) fun x2 =>
    if x2 = (5 : Int32) then (
      if v41 = v33 then (
        g_L_law_1057 N M B SA k517 k553 k634 v1 v2 v3 v4 v5 v6 v7 v8 v9 v11 v12 v13 v15 v17 v18 v19 v20 v21 v22 v23 v24 v25 v26 v27 v28 v30 v32 v33 v34 (g_L_fit v44 x1) v41 (g_L_fit v44 x1) μ)
      else
        g_L_law_1055 N M B SA k517 k553 k634 v1 v2 v3 v4 v5 v6 v7 v8 v9 v11 v12 v13 v15 v17 v18 v19 v20 v21 v22 v23 v24 v25 v26 v27 v28 v30 v32 v33 v34 (g_L_fit v44 x1) v37 v41 μ)
    else
      g_L_law_1055 N M B SA k517 k553 k634 v1 v2 v3 v4 v5 v6 v7 v8 v9 v11 v12 v13 v15 v17 v18 v19 v20 v21 v22 v23 v24 v25 v26 v27 v28 v30 v32 v33 v34 (g_L_fit v44 x1) v37 v41 μ)
  else
    g_L_law_1059 N M B SA k517 k553 k634 v1 v2 v3 v4 v5 v6 v7 v8 v9 v11 v12 v13 v15 v17 v18 v19 v20 v21 v22 v23 v24 v25 v26 v27 (g_L_fit v44 x1) v30 v32 v33 v34 (g_L_fit v44 x1) v37 v41 μ
set_option maxRecDepth 10000 in
def g_L_law_999 (N : Nat) (M : Nat) (B : Nat) (SA : Nat → Nat) (k517 : Nat → Nat → Int32 → Nat → Nat → Nat → Nat → Nat → Nat → Bool → Int32 → Int32 → Int64 → Int64 → Nat → Nat → Nat → Nat → Nat → Nat → Nat → Int32 → Int32 → Nat → Int32 → JMem → Option (Bool × JMem)) (k553 : Nat → Nat → Int32 → Nat → Nat → Nat → Nat → Nat → Nat → Int32 → Int32 → Int64 → Int64 → Nat → Nat → Nat → Nat → Nat → Nat → Nat → Int32 → Int32 → Nat → Int32 → Int64 → Int64 → Int32 → JMem → Option (Bool × JMem)) (k634 : Nat → Nat → Int32 → Nat → Nat → Nat → Nat → Nat → Nat → Int32 → Int32 → Int64 → Int64 → Nat → Nat → Nat → Nat → Nat → Nat → Nat → Int32 → Int32 → Nat → Int32 → Int64 → Int64 → Int32 → Int32 → Int32 → Int64 → Int64 → Int32 → JMem → Option (Bool × JMem)) (v1 : Nat) (v2 : Nat) (v3 : Int32) (v4 : Nat) (v5 : Nat) (v6 : Nat) (v7 : Nat) (v8 : Nat) (v9 : Nat) (v11 : Int32) (v12 : Int32) (v13 : Int64) (v15 : Int64) (v17 : Nat) (v18 : Nat) (v19 : Nat) (v20 : Nat) (v21 : Nat) (v22 : Nat) (v23 : Nat) (v24 : Int32) (v25 : Int32) (v26 : Nat) (v27 : Int32) (v28 : Int64) (v30 : Int64) (v32 : Int32) (v33 : Int32) (v34 : Int32) (v37 : Int64) (v41 : Int32) (v44 : Int64)  (μ : JMem) : Option (Bool × JMem) :=
  obd (jaI μ.1 v21 v32) fun x1 =>
  obd (jpA B .int v21 v32 (.int (x1 + (1 : Int32))) μ) fun μ2 =>
  g_L_law_1008 N M B SA k517 k553 k634 v1 v2 v3 v4 v5 v6 v7 v8 v9 v11 v12 v13 v15 v17 v18 v19 v20 v21 v22 v23 v24 v25 v26 v27 v28 v30 v32 v33 v34 v37 v41 v44 μ2
set_option maxRecDepth 10000 in
def g_L_law_981 (N : Nat) (M : Nat) (B : Nat) (SA : Nat → Nat) (k517 : Nat → Nat → Int32 → Nat → Nat → Nat → Nat → Nat → Nat → Bool → Int32 → Int32 → Int64 → Int64 → Nat → Nat → Nat → Nat → Nat → Nat → Nat → Int32 → Int32 → Nat → Int32 → JMem → Option (Bool × JMem)) (k553 : Nat → Nat → Int32 → Nat → Nat → Nat → Nat → Nat → Nat → Int32 → Int32 → Int64 → Int64 → Nat → Nat → Nat → Nat → Nat → Nat → Nat → Int32 → Int32 → Nat → Int32 → Int64 → Int64 → Int32 → JMem → Option (Bool × JMem)) (k634 : Nat → Nat → Int32 → Nat → Nat → Nat → Nat → Nat → Nat → Int32 → Int32 → Int64 → Int64 → Nat → Nat → Nat → Nat → Nat → Nat → Nat → Int32 → Int32 → Nat → Int32 → Int64 → Int64 → Int32 → Int32 → Int32 → Int64 → Int64 → Int32 → JMem → Option (Bool × JMem)) (v1 : Nat) (v2 : Nat) (v3 : Int32) (v4 : Nat) (v5 : Nat) (v6 : Nat) (v7 : Nat) (v8 : Nat) (v9 : Nat) (v11 : Int32) (v12 : Int32) (v13 : Int64) (v15 : Int64) (v17 : Nat) (v18 : Nat) (v19 : Nat) (v20 : Nat) (v21 : Nat) (v22 : Nat) (v23 : Nat) (v24 : Int32) (v25 : Int32) (v26 : Nat) (v27 : Int32) (v28 : Int64) (v30 : Int64) (v32 : Int32) (v33 : Int32) (v34 : Int32) (v37 : Int64) (v41 : Int32) (v44 : Int64)  (μ : JMem) : Option (Bool × JMem) :=
  if v44 < (-32768 : Int64) then (
    g_L_law_999 N M B SA k517 k553 k634 v1 v2 v3 v4 v5 v6 v7 v8 v9 v11 v12 v13 v15 v17 v18 v19 v20 v21 v22 v23 v24 v25 v26 v27 v28 v30 v32 v33 v34 v37 v41 v44 μ)
  else
    if v44 ≤ (32767 : Int64) then (
      g_L_law_1008 N M B SA k517 k553 k634 v1 v2 v3 v4 v5 v6 v7 v8 v9 v11 v12 v13 v15 v17 v18 v19 v20 v21 v22 v23 v24 v25 v26 v27 v28 v30 v32 v33 v34 v37 v41 v44 μ)
    else
      g_L_law_999 N M B SA k517 k553 k634 v1 v2 v3 v4 v5 v6 v7 v8 v9 v11 v12 v13 v15 v17 v18 v19 v20 v21 v22 v23 v24 v25 v26 v27 v28 v30 v32 v33 v34 v37 v41 v44 μ
set_option maxRecDepth 10000 in
def g_L_law_956 (N : Nat) (M : Nat) (B : Nat) (SA : Nat → Nat) (k517 : Nat → Nat → Int32 → Nat → Nat → Nat → Nat → Nat → Nat → Bool → Int32 → Int32 → Int64 → Int64 → Nat → Nat → Nat → Nat → Nat → Nat → Nat → Int32 → Int32 → Nat → Int32 → JMem → Option (Bool × JMem)) (k553 : Nat → Nat → Int32 → Nat → Nat → Nat → Nat → Nat → Nat → Int32 → Int32 → Int64 → Int64 → Nat → Nat → Nat → Nat → Nat → Nat → Nat → Int32 → Int32 → Nat → Int32 → Int64 → Int64 → Int32 → JMem → Option (Bool × JMem)) (k634 : Nat → Nat → Int32 → Nat → Nat → Nat → Nat → Nat → Nat → Int32 → Int32 → Int64 → Int64 → Nat → Nat → Nat → Nat → Nat → Nat → Nat → Int32 → Int32 → Nat → Int32 → Int64 → Int64 → Int32 → Int32 → Int32 → Int64 → Int64 → Int32 → JMem → Option (Bool × JMem)) (v1 : Nat) (v2 : Nat) (v3 : Int32) (v4 : Nat) (v5 : Nat) (v6 : Nat) (v7 : Nat) (v8 : Nat) (v9 : Nat) (v11 : Int32) (v12 : Int32) (v13 : Int64) (v15 : Int64) (v17 : Nat) (v18 : Nat) (v19 : Nat) (v20 : Nat) (v21 : Nat) (v22 : Nat) (v23 : Nat) (v24 : Int32) (v25 : Int32) (v26 : Nat) (v27 : Int32) (v28 : Int64) (v30 : Int64) (v32 : Int32) (v33 : Int32) (v34 : Int32) (v37 : Int64) (v41 : Int32) (v42 : Int64) (s0 : Int64)  (μ : JMem) : Option (Bool × JMem) :=
  obd (jaI μ.1 v5 v32) fun x1 =>
  if x1 = (2 : Int32) then (
    obd (jpA B .long v20 v32 (.long (v42 - ((16384 : Int64) * s0))) μ) fun μ2 =>
    g_L_law_981 N M B SA k517 k553 k634 v1 v2 v3 v4 v5 v6 v7 v8 v9 v11 v12 v13 v15 v17 v18 v19 v20 v21 v22 v23 v24 v25 v26 v27 v28 v30 v32 v33 v34 v37 v41 s0 μ2)
  else
    g_L_law_981 N M B SA k517 k553 k634 v1 v2 v3 v4 v5 v6 v7 v8 v9 v11 v12 v13 v15 v17 v18 v19 v20 v21 v22 v23 v24 v25 v26 v27 v28 v30 v32 v33 v34 v37 v41 s0 μ
set_option maxRecDepth 10000 in
def g_L_law_930 (N : Nat) (M : Nat) (B : Nat) (SA : Nat → Nat) (k517 : Nat → Nat → Int32 → Nat → Nat → Nat → Nat → Nat → Nat → Bool → Int32 → Int32 → Int64 → Int64 → Nat → Nat → Nat → Nat → Nat → Nat → Nat → Int32 → Int32 → Nat → Int32 → JMem → Option (Bool × JMem)) (k553 : Nat → Nat → Int32 → Nat → Nat → Nat → Nat → Nat → Nat → Int32 → Int32 → Int64 → Int64 → Nat → Nat → Nat → Nat → Nat → Nat → Nat → Int32 → Int32 → Nat → Int32 → Int64 → Int64 → Int32 → JMem → Option (Bool × JMem)) (k634 : Nat → Nat → Int32 → Nat → Nat → Nat → Nat → Nat → Nat → Int32 → Int32 → Int64 → Int64 → Nat → Nat → Nat → Nat → Nat → Nat → Nat → Int32 → Int32 → Nat → Int32 → Int64 → Int64 → Int32 → Int32 → Int32 → Int64 → Int64 → Int32 → JMem → Option (Bool × JMem)) (v1 : Nat) (v2 : Nat) (v3 : Int32) (v4 : Nat) (v5 : Nat) (v6 : Nat) (v7 : Nat) (v8 : Nat) (v9 : Nat) (v11 : Int32) (v12 : Int32) (v13 : Int64) (v15 : Int64) (v17 : Nat) (v18 : Nat) (v19 : Nat) (v20 : Nat) (v21 : Nat) (v22 : Nat) (v23 : Nat) (v24 : Int32) (v25 : Int32) (v26 : Nat) (v27 : Int32) (v28 : Int64) (v30 : Int64) (v32 : Int32) (v33 : Int32) (v34 : Int32) (v37 : Int64) (v41 : Int32) (v42 : Int64)  (μ : JMem) : Option (Bool × JMem) :=
  obd (jaI μ.1 v5 v32) fun x1 =>
  if x1 = 0 then (
    g_L_law_956 N M B SA k517 k553 k634 v1 v2 v3 v4 v5 v6 v7 v8 v9 v11 v12 v13 v15 v17 v18 v19 v20 v21 v22 v23 v24 v25 v26 v27 v28 v30 v32 v33 v34 v37 v41 v42 ((v42 + (8192 : Int64)) >>> (Int32.toInt64 (14 : Int32) &&& 63)) μ)
  else
    g_L_law_956 N M B SA k517 k553 k634 v1 v2 v3 v4 v5 v6 v7 v8 v9 v11 v12 v13 v15 v17 v18 v19 v20 v21 v22 v23 v24 v25 v26 v27 v28 v30 v32 v33 v34 v37 v41 v42 (v42 / (16384 : Int64)) μ
set_option maxRecDepth 10000 in
def g_L_law_911 (N : Nat) (M : Nat) (B : Nat) (SA : Nat → Nat) (k517 : Nat → Nat → Int32 → Nat → Nat → Nat → Nat → Nat → Nat → Bool → Int32 → Int32 → Int64 → Int64 → Nat → Nat → Nat → Nat → Nat → Nat → Nat → Int32 → Int32 → Nat → Int32 → JMem → Option (Bool × JMem)) (k553 : Nat → Nat → Int32 → Nat → Nat → Nat → Nat → Nat → Nat → Int32 → Int32 → Int64 → Int64 → Nat → Nat → Nat → Nat → Nat → Nat → Nat → Int32 → Int32 → Nat → Int32 → Int64 → Int64 → Int32 → JMem → Option (Bool × JMem)) (k634 : Nat → Nat → Int32 → Nat → Nat → Nat → Nat → Nat → Nat → Int32 → Int32 → Int64 → Int64 → Nat → Nat → Nat → Nat → Nat → Nat → Nat → Int32 → Int32 → Nat → Int32 → Int64 → Int64 → Int32 → Int32 → Int32 → Int64 → Int64 → Int32 → JMem → Option (Bool × JMem)) (v1 : Nat) (v2 : Nat) (v3 : Int32) (v4 : Nat) (v5 : Nat) (v6 : Nat) (v7 : Nat) (v8 : Nat) (v9 : Nat) (v11 : Int32) (v12 : Int32) (v13 : Int64) (v15 : Int64) (v17 : Nat) (v18 : Nat) (v19 : Nat) (v20 : Nat) (v21 : Nat) (v22 : Nat) (v23 : Nat) (v24 : Int32) (v25 : Int32) (v26 : Nat) (v27 : Int32) (v28 : Int64) (v30 : Int64) (v32 : Int32) (v33 : Int32) (v34 : Int32) (v37 : Int64) (v41 : Int32) (v42 : Int64)  (μ : JMem) : Option (Bool × JMem) :=
  obd (jaI μ.1 v5 v32) fun x1 =>
  if x1 = (2 : Int32) then (
    obd (jaJ μ.1 v20 v32) fun x2 =>
    g_L_law_930 N M B SA k517 k553 k634 v1 v2 v3 v4 v5 v6 v7 v8 v9 v11 v12 v13 v15 v17 v18 v19 v20 v21 v22 v23 v24 v25 v26 v27 v28 v30 v32 v33 v34 v37 v41 (v42 + x2) μ)
  else
    g_L_law_930 N M B SA k517 k553 k634 v1 v2 v3 v4 v5 v6 v7 v8 v9 v11 v12 v13 v15 v17 v18 v19 v20 v21 v22 v23 v24 v25 v26 v27 v28 v30 v32 v33 v34 v37 v41 v42 μ
set_option maxRecDepth 10000 in
def g_L_law_686 (N : Nat) (M : Nat) (B : Nat) (SA : Nat → Nat) (k517 : Nat → Nat → Int32 → Nat → Nat → Nat → Nat → Nat → Nat → Bool → Int32 → Int32 → Int64 → Int64 → Nat → Nat → Nat → Nat → Nat → Nat → Nat → Int32 → Int32 → Nat → Int32 → JMem → Option (Bool × JMem)) (k553 : Nat → Nat → Int32 → Nat → Nat → Nat → Nat → Nat → Nat → Int32 → Int32 → Int64 → Int64 → Nat → Nat → Nat → Nat → Nat → Nat → Nat → Int32 → Int32 → Nat → Int32 → Int64 → Int64 → Int32 → JMem → Option (Bool × JMem)) (k634 : Nat → Nat → Int32 → Nat → Nat → Nat → Nat → Nat → Nat → Int32 → Int32 → Int64 → Int64 → Nat → Nat → Nat → Nat → Nat → Nat → Nat → Int32 → Int32 → Nat → Int32 → Int64 → Int64 → Int32 → Int32 → Int32 → Int64 → Int64 → Int32 → JMem → Option (Bool × JMem)) (v1 : Nat) (v2 : Nat) (v3 : Int32) (v4 : Nat) (v5 : Nat) (v6 : Nat) (v7 : Nat) (v8 : Nat) (v9 : Nat) (v11 : Int32) (v12 : Int32) (v13 : Int64) (v15 : Int64) (v17 : Nat) (v18 : Nat) (v19 : Nat) (v20 : Nat) (v21 : Nat) (v22 : Nat) (v23 : Nat) (v24 : Int32) (v25 : Int32) (v26 : Nat) (v27 : Int32) (v28 : Int64) (v30 : Int64) (v32 : Int32) (v33 : Int32) (v34 : Int32) (v37 : Int64) (v41 : Int32) (s0 : Int64) (s1 : Int64)  (μ : JMem) : Option (Bool × JMem) :=
  g_L_law_911 N M B SA k517 k553 k634 v1 v2 v3 v4 v5 v6 v7 v8 v9 v11 v12 v13 v15 v17 v18 v19 v20 v21 v22 v23 v24 v25 v26 v27 v28 v30 v32 v33 v34 v37 v41 (s1 + s0) μ
set_option maxRecDepth 10000 in
def g_L_law_802 (N : Nat) (M : Nat) (B : Nat) (SA : Nat → Nat) (k517 : Nat → Nat → Int32 → Nat → Nat → Nat → Nat → Nat → Nat → Bool → Int32 → Int32 → Int64 → Int64 → Nat → Nat → Nat → Nat → Nat → Nat → Nat → Int32 → Int32 → Nat → Int32 → JMem → Option (Bool × JMem)) (k553 : Nat → Nat → Int32 → Nat → Nat → Nat → Nat → Nat → Nat → Int32 → Int32 → Int64 → Int64 → Nat → Nat → Nat → Nat → Nat → Nat → Nat → Int32 → Int32 → Nat → Int32 → Int64 → Int64 → Int32 → JMem → Option (Bool × JMem)) (k634 : Nat → Nat → Int32 → Nat → Nat → Nat → Nat → Nat → Nat → Int32 → Int32 → Int64 → Int64 → Nat → Nat → Nat → Nat → Nat → Nat → Nat → Int32 → Int32 → Nat → Int32 → Int64 → Int64 → Int32 → Int32 → Int32 → Int64 → Int64 → Int32 → JMem → Option (Bool × JMem)) (v1 : Nat) (v2 : Nat) (v3 : Int32) (v4 : Nat) (v5 : Nat) (v6 : Nat) (v7 : Nat) (v8 : Nat) (v9 : Nat) (v11 : Int32) (v12 : Int32) (v13 : Int64) (v15 : Int64) (v17 : Nat) (v18 : Nat) (v19 : Nat) (v20 : Nat) (v21 : Nat) (v22 : Nat) (v23 : Nat) (v24 : Int32) (v25 : Int32) (v26 : Nat) (v27 : Int32) (v28 : Int64) (v30 : Int64) (v32 : Int32) (v33 : Int32) (v34 : Int32) (v37 : Int64) (v41 : Int32) (s0 : Int64)  (μ : JMem) : Option (Bool × JMem) :=
  g_L_law_911 N M B SA k517 k553 k634 v1 v2 v3 v4 v5 v6 v7 v8 v9 v11 v12 v13 v15 v17 v18 v19 v20 v21 v22 v23 v24 v25 v26 v27 v28 v30 v32 v33 v34 v37 v41 s0 μ
set_option maxRecDepth 10000 in
def g_L_law_878 (N : Nat) (M : Nat) (B : Nat) (SA : Nat → Nat) (k517 : Nat → Nat → Int32 → Nat → Nat → Nat → Nat → Nat → Nat → Bool → Int32 → Int32 → Int64 → Int64 → Nat → Nat → Nat → Nat → Nat → Nat → Nat → Int32 → Int32 → Nat → Int32 → JMem → Option (Bool × JMem)) (k553 : Nat → Nat → Int32 → Nat → Nat → Nat → Nat → Nat → Nat → Int32 → Int32 → Int64 → Int64 → Nat → Nat → Nat → Nat → Nat → Nat → Nat → Int32 → Int32 → Nat → Int32 → Int64 → Int64 → Int32 → JMem → Option (Bool × JMem)) (k634 : Nat → Nat → Int32 → Nat → Nat → Nat → Nat → Nat → Nat → Int32 → Int32 → Int64 → Int64 → Nat → Nat → Nat → Nat → Nat → Nat → Nat → Int32 → Int32 → Nat → Int32 → Int64 → Int64 → Int32 → Int32 → Int32 → Int64 → Int64 → Int32 → JMem → Option (Bool × JMem)) (v1 : Nat) (v2 : Nat) (v3 : Int32) (v4 : Nat) (v5 : Nat) (v6 : Nat) (v7 : Nat) (v8 : Nat) (v9 : Nat) (v11 : Int32) (v12 : Int32) (v13 : Int64) (v15 : Int64) (v17 : Nat) (v18 : Nat) (v19 : Nat) (v20 : Nat) (v21 : Nat) (v22 : Nat) (v23 : Nat) (v24 : Int32) (v25 : Int32) (v26 : Nat) (v27 : Int32) (v28 : Int64) (v30 : Int64) (v32 : Int32) (v33 : Int32) (v34 : Int32) (v37 : Int64) (v41 : Int32) (s0 : Int64)  (μ : JMem) : Option (Bool × JMem) :=
  obd (jaJ μ.1 v17 v32) fun x1 =>
  if s0 ≤ x1 then (
    obd (jaJ μ.1 v8 v32) fun x2 =>
    obd (jaJ μ.1 v17 v32) fun x3 =>
    g_L_law_911 N M B SA k517 k553 k634 v1 v2 v3 v4 v5 v6 v7 v8 v9 v11 v12 v13 v15 v17 v18 v19 v20 v21 v22 v23 v24 v25 v26 v27 v28 v30 v32 v33 v34 v37 v41 (x2 * x3) μ)
  else
    g_L_law_1059 N M B SA k517 k553 k634 v1 v2 v3 v4 v5 v6 v7 v8 v9 v11 v12 v13 v15 v17 v18 v19 v20 v21 v22 v23 v24 v25 v26 v27 v28 v30 v32 v33 v34 s0 v37 v41 μ
set_option maxRecDepth 10000 in
def g_L_law_1421 (N : Nat) (M : Nat) (B : Nat) (SA : Nat → Nat) (k517 : Nat → Nat → Int32 → Nat → Nat → Nat → Nat → Nat → Nat → Bool → Int32 → Int32 → Int64 → Int64 → Nat → Nat → Nat → Nat → Nat → Nat → Nat → Int32 → Int32 → Nat → Int32 → JMem → Option (Bool × JMem)) (k553 : Nat → Nat → Int32 → Nat → Nat → Nat → Nat → Nat → Nat → Int32 → Int32 → Int64 → Int64 → Nat → Nat → Nat → Nat → Nat → Nat → Nat → Int32 → Int32 → Nat → Int32 → Int64 → Int64 → Int32 → JMem → Option (Bool × JMem)) (v1 : Nat) (v2 : Nat) (v3 : Int32) (v4 : Nat) (v5 : Nat) (v6 : Nat) (v7 : Nat) (v8 : Nat) (v9 : Nat) (v11 : Int32) (v12 : Int32) (v13 : Int64) (v15 : Int64) (v17 : Nat) (v18 : Nat) (v19 : Nat) (v20 : Nat) (v21 : Nat) (v22 : Nat) (v23 : Nat) (v24 : Int32) (v25 : Int32) (v26 : Nat) (v27 : Int32) (v28 : Int64) (v30 : Int64) (v32 : Int32)  (μ : JMem) : Option (Bool × JMem) :=
  k553 v1 v2 v3 v4 v5 v6 v7 v8 v9 v11 v12 v13 v15 v17 v18 v19 v20 v21 v22 v23 v24 v25 v26 v27 v28 v30 (v32 + 1) μ
set_option maxRecDepth 10000 in
def g_L_law_1394 (N : Nat) (M : Nat) (B : Nat) (SA : Nat → Nat) (k517 : Nat → Nat → Int32 → Nat → Nat → Nat → Nat → Nat → Nat → Bool → Int32 → Int32 → Int64 → Int64 → Nat → Nat → Nat → Nat → Nat → Nat → Nat → Int32 → Int32 → Nat → Int32 → JMem → Option (Bool × JMem)) (k553 : Nat → Nat → Int32 → Nat → Nat → Nat → Nat → Nat → Nat → Int32 → Int32 → Int64 → Int64 → Nat → Nat → Nat → Nat → Nat → Nat → Nat → Int32 → Int32 → Nat → Int32 → Int64 → Int64 → Int32 → JMem → Option (Bool × JMem)) (v1 : Nat) (v2 : Nat) (v3 : Int32) (v4 : Nat) (v5 : Nat) (v6 : Nat) (v7 : Nat) (v8 : Nat) (v9 : Nat) (v11 : Int32) (v12 : Int32) (v13 : Int64) (v15 : Int64) (v17 : Nat) (v18 : Nat) (v19 : Nat) (v20 : Nat) (v21 : Nat) (v22 : Nat) (v23 : Nat) (v24 : Int32) (v25 : Int32) (v26 : Nat) (v27 : Int32) (v30 : Int64) (v32 : Int32) (v35 : Int64)  (μ : JMem) : Option (Bool × JMem) :=
  if v32 = 0 then (
    obd (jpA B .long v23 ((4 : Int32) + v25) (.long v35) μ) fun μ1 =>
    obd (jremI (v25 + (1 : Int32)) v12) fun x2 =>
    g_L_law_1421 N M B SA k517 k553 v1 v2 v3 v4 v5 v6 v7 v8 v9 v11 v12 v13 v15 v17 v18 v19 v20 v21 v22 v23 v24 x2 v26 v27 v35 v30 v32 μ1)
  else
    g_L_law_1421 N M B SA k517 k553 v1 v2 v3 v4 v5 v6 v7 v8 v9 v11 v12 v13 v15 v17 v18 v19 v20 v21 v22 v23 v24 v25 v26 v27 v35 v30 v32 μ
set_option maxRecDepth 10000 in
def g_L_law_1392 (N : Nat) (M : Nat) (B : Nat) (SA : Nat → Nat) (k517 : Nat → Nat → Int32 → Nat → Nat → Nat → Nat → Nat → Nat → Bool → Int32 → Int32 → Int64 → Int64 → Nat → Nat → Nat → Nat → Nat → Nat → Nat → Int32 → Int32 → Nat → Int32 → JMem → Option (Bool × JMem)) (k553 : Nat → Nat → Int32 → Nat → Nat → Nat → Nat → Nat → Nat → Int32 → Int32 → Int64 → Int64 → Nat → Nat → Nat → Nat → Nat → Nat → Nat → Int32 → Int32 → Nat → Int32 → Int64 → Int64 → Int32 → JMem → Option (Bool × JMem)) (v1 : Nat) (v2 : Nat) (v3 : Int32) (v4 : Nat) (v5 : Nat) (v6 : Nat) (v7 : Nat) (v8 : Nat) (v9 : Nat) (v11 : Int32) (v12 : Int32) (v13 : Int64) (v15 : Int64) (v17 : Nat) (v18 : Nat) (v19 : Nat) (v20 : Nat) (v21 : Nat) (v22 : Nat) (v23 : Nat) (v24 : Int32) (v25 : Int32) (v26 : Nat) (v27 : Int32) (v30 : Int64) (v32 : Int32) (s0 : Int64)  (μ : JMem) : Option (Bool × JMem) :=
  g_L_law_1394 N M B SA k517 k553 v1 v2 v3 v4 v5 v6 v7 v8 v9 v11 v12 v13 v15 v17 v18 v19 v20 v21 v22 v23 v24 v25 v26 v27 v30 v32 s0 μ
set_option maxRecDepth 10000 in
def g_L_law_1375 (N : Nat) (M : Nat) (B : Nat) (SA : Nat → Nat) (k517 : Nat → Nat → Int32 → Nat → Nat → Nat → Nat → Nat → Nat → Bool → Int32 → Int32 → Int64 → Int64 → Nat → Nat → Nat → Nat → Nat → Nat → Nat → Int32 → Int32 → Nat → Int32 → JMem → Option (Bool × JMem)) (k553 : Nat → Nat → Int32 → Nat → Nat → Nat → Nat → Nat → Nat → Int32 → Int32 → Int64 → Int64 → Nat → Nat → Nat → Nat → Nat → Nat → Nat → Int32 → Int32 → Nat → Int32 → Int64 → Int64 → Int32 → JMem → Option (Bool × JMem)) (v1 : Nat) (v2 : Nat) (v3 : Int32) (v4 : Nat) (v5 : Nat) (v6 : Nat) (v7 : Nat) (v8 : Nat) (v9 : Nat) (v11 : Int32) (v12 : Int32) (v13 : Int64) (v15 : Int64) (v17 : Nat) (v18 : Nat) (v19 : Nat) (v20 : Nat) (v21 : Nat) (v22 : Nat) (v23 : Nat) (v24 : Int32) (v25 : Int32) (v26 : Nat) (v27 : Int32) (v28 : Int64) (v30 : Int64) (v32 : Int32) (v39 : Int64)  (μ : JMem) : Option (Bool × JMem) :=
  obd (jaJ μ.1 v8 v32) fun x1 =>
  if x1 < v39 then (
    g_L_law_1392 N M B SA k517 k553 v1 v2 v3 v4 v5 v6 v7 v8 v9 v11 v12 v13 v15 v17 v18 v19 v20 v21 v22 v23 v24 v25 v26 v27 v30 v32 v28 μ)
  else
    g_L_law_1392 N M B SA k517 k553 v1 v2 v3 v4 v5 v6 v7 v8 v9 v11 v12 v13 v15 v17 v18 v19 v20 v21 v22 v23 v24 v25 v26 v27 v30 v32 (0 : Int64) μ
set_option maxRecDepth 10000 in
def g_L_law_1353 (N : Nat) (M : Nat) (B : Nat) (SA : Nat → Nat) (k517 : Nat → Nat → Int32 → Nat → Nat → Nat → Nat → Nat → Nat → Bool → Int32 → Int32 → Int64 → Int64 → Nat → Nat → Nat → Nat → Nat → Nat → Nat → Int32 → Int32 → Nat → Int32 → JMem → Option (Bool × JMem)) (k553 : Nat → Nat → Int32 → Nat → Nat → Nat → Nat → Nat → Nat → Int32 → Int32 → Int64 → Int64 → Nat → Nat → Nat → Nat → Nat → Nat → Nat → Int32 → Int32 → Nat → Int32 → Int64 → Int64 → Int32 → JMem → Option (Bool × JMem)) (v1 : Nat) (v2 : Nat) (v3 : Int32) (v4 : Nat) (v5 : Nat) (v6 : Nat) (v7 : Nat) (v8 : Nat) (v9 : Nat) (v11 : Int32) (v12 : Int32) (v13 : Int64) (v15 : Int64) (v17 : Nat) (v18 : Nat) (v19 : Nat) (v20 : Nat) (v21 : Nat) (v22 : Nat) (v23 : Nat) (v24 : Int32) (v25 : Int32) (v26 : Nat) (v27 : Int32) (v28 : Int64) (v30 : Int64) (v32 : Int32) (s0 : Int64)  (μ : JMem) : Option (Bool × JMem) :=
  obd (jaJ μ.1 v8 v32) fun x1 =>
  if x1 < s0 then (
    g_L_law_1375 N M B SA k517 k553 v1 v2 v3 v4 v5 v6 v7 v8 v9 v11 v12 v13 v15 v17 v18 v19 v20 v21 v22 v23 v24 v25 v26 v27 v28 v30 v32 s0 μ)
  else
    obd (jaI μ.1 v22 v32) fun x2 =>
    obd (jpA B .int v22 v32 (.int (x2 + (1 : Int32))) μ) fun μ3 =>
    g_L_law_1375 N M B SA k517 k553 v1 v2 v3 v4 v5 v6 v7 v8 v9 v11 v12 v13 v15 v17 v18 v19 v20 v21 v22 v23 v24 v25 v26 v27 v28 v30 v32 s0 μ3
set_option maxRecDepth 10000 in
def g_L_law_1313 (N : Nat) (M : Nat) (B : Nat) (SA : Nat → Nat) (k517 : Nat → Nat → Int32 → Nat → Nat → Nat → Nat → Nat → Nat → Bool → Int32 → Int32 → Int64 → Int64 → Nat → Nat → Nat → Nat → Nat → Nat → Nat → Int32 → Int32 → Nat → Int32 → JMem → Option (Bool × JMem)) (k553 : Nat → Nat → Int32 → Nat → Nat → Nat → Nat → Nat → Nat → Int32 → Int32 → Int64 → Int64 → Nat → Nat → Nat → Nat → Nat → Nat → Nat → Int32 → Int32 → Nat → Int32 → Int64 → Int64 → Int32 → JMem → Option (Bool × JMem)) (v1 : Nat) (v2 : Nat) (v3 : Int32) (v4 : Nat) (v5 : Nat) (v6 : Nat) (v7 : Nat) (v8 : Nat) (v9 : Nat) (v11 : Int32) (v12 : Int32) (v13 : Int64) (v15 : Int64) (v17 : Nat) (v18 : Nat) (v19 : Nat) (v20 : Nat) (v21 : Nat) (v22 : Nat) (v23 : Nat) (v24 : Int32) (v25 : Int32) (v26 : Nat) (v27 : Int32) (v28 : Int64) (v30 : Int64) (v32 : Int32) (v35 : Int64)  (μ : JMem) : Option (Bool × JMem) :=
  obd (jaI μ.1 v4 v32) fun x1 =>
  if x1 = (10 : Int32) then (
    if (0 : Int64) ≤ v28 then (
      g_L_law_1353 N M B SA k517 k553 v1 v2 v3 v4 v5 v6 v7 v8 v9 v11 v12 v13 v15 v17 v18 v19 v20 v21 v22 v23 v24 v25 v26 v27 v28 v30 v32 v28 μ)
    else
      if v28 = (-32768 : Int64) then (
        g_L_law_1353 N M B SA k517 k553 v1 v2 v3 v4 v5 v6 v7 v8 v9 v11 v12 v13 v15 v17 v18 v19 v20 v21 v22 v23 v24 v25 v26 v27 v28 v30 v32 (32767 : Int64) μ)
      else
        g_L_law_1353 N M B SA k517 k553 v1 v2 v3 v4 v5 v6 v7 v8 v9 v11 v12 v13 v15 v17 v18 v19 v20 v21 v22 v23 v24 v25 v26 v27 v28 v30 v32 (-v28) μ)
  else
    g_L_law_1394 N M B SA k517 k553 v1 v2 v3 v4 v5 v6 v7 v8 v9 v11 v12 v13 v15 v17 v18 v19 v20 v21 v22 v23 v24 v25 v26 v27 v30 v32 v35 μ
set_option maxRecDepth 10000 in
def g_L_law_1311 (N : Nat) (M : Nat) (B : Nat) (SA : Nat → Nat) (k517 : Nat → Nat → Int32 → Nat → Nat → Nat → Nat → Nat → Nat → Bool → Int32 → Int32 → Int64 → Int64 → Nat → Nat → Nat → Nat → Nat → Nat → Nat → Int32 → Int32 → Nat → Int32 → JMem → Option (Bool × JMem)) (k553 : Nat → Nat → Int32 → Nat → Nat → Nat → Nat → Nat → Nat → Int32 → Int32 → Int64 → Int64 → Nat → Nat → Nat → Nat → Nat → Nat → Nat → Int32 → Int32 → Nat → Int32 → Int64 → Int64 → Int32 → JMem → Option (Bool × JMem)) (v1 : Nat) (v2 : Nat) (v3 : Int32) (v4 : Nat) (v5 : Nat) (v6 : Nat) (v7 : Nat) (v8 : Nat) (v9 : Nat) (v11 : Int32) (v12 : Int32) (v13 : Int64) (v15 : Int64) (v17 : Nat) (v18 : Nat) (v19 : Nat) (v20 : Nat) (v21 : Nat) (v22 : Nat) (v23 : Nat) (v24 : Int32) (v25 : Int32) (v26 : Nat) (v27 : Int32) (v28 : Int64) (v30 : Int64) (v32 : Int32) (s0 : Int64)  (μ : JMem) : Option (Bool × JMem) :=
  g_L_law_1313 N M B SA k517 k553 v1 v2 v3 v4 v5 v6 v7 v8 v9 v11 v12 v13 v15 v17 v18 v19 v20 v21 v22 v23 v24 v25 v26 v27 v28 v30 v32 s0 μ
set_option maxRecDepth 10000 in
def g_L_law_1277 (N : Nat) (M : Nat) (B : Nat) (SA : Nat → Nat) (k517 : Nat → Nat → Int32 → Nat → Nat → Nat → Nat → Nat → Nat → Bool → Int32 → Int32 → Int64 → Int64 → Nat → Nat → Nat → Nat → Nat → Nat → Nat → Int32 → Int32 → Nat → Int32 → JMem → Option (Bool × JMem)) (k553 : Nat → Nat → Int32 → Nat → Nat → Nat → Nat → Nat → Nat → Int32 → Int32 → Int64 → Int64 → Nat → Nat → Nat → Nat → Nat → Nat → Nat → Int32 → Int32 → Nat → Int32 → Int64 → Int64 → Int32 → JMem → Option (Bool × JMem)) (v1 : Nat) (v2 : Nat) (v3 : Int32) (v4 : Nat) (v5 : Nat) (v6 : Nat) (v7 : Nat) (v8 : Nat) (v9 : Nat) (v11 : Int32) (v12 : Int32) (v13 : Int64) (v15 : Int64) (v17 : Nat) (v18 : Nat) (v19 : Nat) (v20 : Nat) (v21 : Nat) (v22 : Nat) (v23 : Nat) (v24 : Int32) (v25 : Int32) (v26 : Nat) (v27 : Int32) (v28 : Int64) (v30 : Int64) (v32 : Int32) (v41 : Int64)  (μ : JMem) : Option (Bool × JMem) :=
  obd (jaJ μ.1 v8 v32) fun x1 =>
  if v28 ≤ x1 then (
    if v41 ≤ v28 then (
      g_L_law_1311 N M B SA k517 k553 v1 v2 v3 v4 v5 v6 v7 v8 v9 v11 v12 v13 v15 v17 v18 v19 v20 v21 v22 v23 v24 v25 v26 v27 v28 v30 v32 v28 μ)
    else
      g_L_law_1311 N M B SA k517 k553 v1 v2 v3 v4 v5 v6 v7 v8 v9 v11 v12 v13 v15 v17 v18 v19 v20 v21 v22 v23 v24 v25 v26 v27 v28 v30 v32 v41 μ)
  else
    obd (jaJ μ.1 v8 v32) fun x2 =>
    g_L_law_1311 N M B SA k517 k553 v1 v2 v3 v4 v5 v6 v7 v8 v9 v11 v12 v13 v15 v17 v18 v19 v20 v21 v22 v23 v24 v25 v26 v27 v28 v30 v32 x2 μ
set_option maxRecDepth 10000 in
def g_L_law_1268 (N : Nat) (M : Nat) (B : Nat) (SA : Nat → Nat) (k517 : Nat → Nat → Int32 → Nat → Nat → Nat → Nat → Nat → Nat → Bool → Int32 → Int32 → Int64 → Int64 → Nat → Nat → Nat → Nat → Nat → Nat → Nat → Int32 → Int32 → Nat → Int32 → JMem → Option (Bool × JMem)) (k553 : Nat → Nat → Int32 → Nat → Nat → Nat → Nat → Nat → Nat → Int32 → Int32 → Int64 → Int64 → Nat → Nat → Nat → Nat → Nat → Nat → Nat → Int32 → Int32 → Nat → Int32 → Int64 → Int64 → Int32 → JMem → Option (Bool × JMem)) (v1 : Nat) (v2 : Nat) (v3 : Int32) (v4 : Nat) (v5 : Nat) (v6 : Nat) (v7 : Nat) (v8 : Nat) (v9 : Nat) (v11 : Int32) (v12 : Int32) (v13 : Int64) (v15 : Int64) (v17 : Nat) (v18 : Nat) (v19 : Nat) (v20 : Nat) (v21 : Nat) (v22 : Nat) (v23 : Nat) (v24 : Int32) (v25 : Int32) (v26 : Nat) (v27 : Int32) (v28 : Int64) (v30 : Int64) (v32 : Int32) (v41 : Int64)  (μ : JMem) : Option (Bool × JMem) :=
  obd (jaI μ.1 v22 v32) fun x1 =>
  obd (jpA B .int v22 v32 (.int (x1 + (1 : Int32))) μ) fun μ2 =>
  g_L_law_1277 N M B SA k517 k553 v1 v2 v3 v4 v5 v6 v7 v8 v9 v11 v12 v13 v15 v17 v18 v19 v20 v21 v22 v23 v24 v25 v26 v27 v28 v30 v32 v41 μ2
set_option maxRecDepth 10000 in
def g_L_law_1247 (N : Nat) (M : Nat) (B : Nat) (SA : Nat → Nat) (k517 : Nat → Nat → Int32 → Nat → Nat → Nat → Nat → Nat → Nat → Bool → Int32 → Int32 → Int64 → Int64 → Nat → Nat → Nat → Nat → Nat → Nat → Nat → Int32 → Int32 → Nat → Int32 → JMem → Option (Bool × JMem)) (k553 : Nat → Nat → Int32 → Nat → Nat → Nat → Nat → Nat → Nat → Int32 → Int32 → Int64 → Int64 → Nat → Nat → Nat → Nat → Nat → Nat → Nat → Int32 → Int32 → Nat → Int32 → Int64 → Int64 → Int32 → JMem → Option (Bool × JMem)) (v1 : Nat) (v2 : Nat) (v3 : Int32) (v4 : Nat) (v5 : Nat) (v6 : Nat) (v7 : Nat) (v8 : Nat) (v9 : Nat) (v11 : Int32) (v12 : Int32) (v13 : Int64) (v15 : Int64) (v17 : Nat) (v18 : Nat) (v19 : Nat) (v20 : Nat) (v21 : Nat) (v22 : Nat) (v23 : Nat) (v24 : Int32) (v25 : Int32) (v26 : Nat) (v27 : Int32) (v28 : Int64) (v30 : Int64) (v32 : Int32) (s0 : Int64)  (μ : JMem) : Option (Bool × JMem) :=
  obd (jaJ μ.1 v8 v32) fun x1 =>
  if x1 < v28 then (
    g_L_law_1268 N M B SA k517 k553 v1 v2 v3 v4 v5 v6 v7 v8 v9 v11 v12 v13 v15 v17 v18 v19 v20 v21 v22 v23 v24 v25 v26 v27 v28 v30 v32 s0 μ)
  else
    if s0 ≤ v28 then (
      g_L_law_1277 N M B SA k517 k553 v1 v2 v3 v4 v5 v6 v7 v8 v9 v11 v12 v13 v15 v17 v18 v19 v20 v21 v22 v23 v24 v25 v26 v27 v28 v30 v32 s0 μ)
    else
      g_L_law_1268 N M B SA k517 k553 v1 v2 v3 v4 v5 v6 v7 v8 v9 v11 v12 v13 v15 v17 v18 v19 v20 v21 v22 v23 v24 v25 v26 v27 v28 v30 v32 s0 μ
set_option maxRecDepth 10000 in
def g_L_law_1213 (N : Nat) (M : Nat) (B : Nat) (SA : Nat → Nat) (k517 : Nat → Nat → Int32 → Nat → Nat → Nat → Nat → Nat → Nat → Bool → Int32 → Int32 → Int64 → Int64 → Nat → Nat → Nat → Nat → Nat → Nat → Nat → Int32 → Int32 → Nat → Int32 → JMem → Option (Bool × JMem)) (k553 : Nat → Nat → Int32 → Nat → Nat → Nat → Nat → Nat → Nat → Int32 → Int32 → Int64 → Int64 → Nat → Nat → Nat → Nat → Nat → Nat → Nat → Int32 → Int32 → Nat → Int32 → Int64 → Int64 → Int32 → JMem → Option (Bool × JMem)) (v1 : Nat) (v2 : Nat) (v3 : Int32) (v4 : Nat) (v5 : Nat) (v6 : Nat) (v7 : Nat) (v8 : Nat) (v9 : Nat) (v11 : Int32) (v12 : Int32) (v13 : Int64) (v15 : Int64) (v17 : Nat) (v18 : Nat) (v19 : Nat) (v20 : Nat) (v21 : Nat) (v22 : Nat) (v23 : Nat) (v24 : Int32) (v25 : Int32) (v26 : Nat) (v27 : Int32) (v28 : Int64) (v30 : Int64) (v32 : Int32) (v35 : Int64)  (μ : JMem) : Option (Bool × JMem) :=
  obd (jaI μ.1 v4 v32) fun x1 =>
  if x1 = (9 : Int32) then (
    obd (jaJ μ.1 v8 v32) fun x2 =>
    if x2 = (-32768 : Int64) then (
      g_L_law_1247 N M B SA k517 k553 v1 v2 v3 v4 v5 v6 v7 v8 v9 v11 v12 v13 v15 v17 v18 v19 v20 v21 v22 v23 v24 v25 v26 v27 v28 v30 v32 (32767 : Int64) μ)
    else
      obd (jaJ μ.1 v8 v32) fun x3 =>
      g_L_law_1247 N M B SA k517 k553 v1 v2 v3 v4 v5 v6 v7 v8 v9 v11 v12 v13 v15 v17 v18 v19 v20 v21 v22 v23 v24 v25 v26 v27 v28 v30 v32 (-x3) μ)
  else
    g_L_law_1313 N M B SA k517 k553 v1 v2 v3 v4 v5 v6 v7 v8 v9 v11 v12 v13 v15 v17 v18 v19 v20 v21 v22 v23 v24 v25 v26 v27 v28 v30 v32 v35 μ
set_option maxRecDepth 10000 in
def g_L_law_1180 (N : Nat) (M : Nat) (B : Nat) (SA : Nat → Nat) (k517 : Nat → Nat → Int32 → Nat → Nat → Nat → Nat → Nat → Nat → Bool → Int32 → Int32 → Int64 → Int64 → Nat → Nat → Nat → Nat → Nat → Nat → Nat → Int32 → Int32 → Nat → Int32 → JMem → Option (Bool × JMem)) (k553 : Nat → Nat → Int32 → Nat → Nat → Nat → Nat → Nat → Nat → Int32 → Int32 → Int64 → Int64 → Nat → Nat → Nat → Nat → Nat → Nat → Nat → Int32 → Int32 → Nat → Int32 → Int64 → Int64 → Int32 → JMem → Option (Bool × JMem)) (v1 : Nat) (v2 : Nat) (v3 : Int32) (v4 : Nat) (v5 : Nat) (v6 : Nat) (v7 : Nat) (v8 : Nat) (v9 : Nat) (v11 : Int32) (v12 : Int32) (v13 : Int64) (v15 : Int64) (v17 : Nat) (v18 : Nat) (v19 : Nat) (v20 : Nat) (v21 : Nat) (v22 : Nat) (v23 : Nat) (v24 : Int32) (v25 : Int32) (v26 : Nat) (v27 : Int32) (v28 : Int64) (v30 : Int64) (v32 : Int32) (v35 : Int64) (v41 : Int64) (s0 : Int64) (s1 : Int32) (s2 : Nat)  (μ : JMem) : Option (Bool × JMem) :=
  obd (jpA B .long s2 s1 (.long s0) μ) fun μ1 =>
  obd (jaI μ1.1 v19 v32) fun x2 =>
  obd (jaI μ1.1 v7 v32) fun x3 =>
  obd (jremI (x2 + (1 : Int32)) x3) fun x4 =>
  obd (jpA B .int v19 v32 (.int x4) μ1) fun μ5 =>
  obd (jaI μ5.1 v4 v32) fun x6 =>
  if x6 = (6 : Int32) then (
    g_L_law_1213 N M B SA k517 k553 v1 v2 v3 v4 v5 v6 v7 v8 v9 v11 v12 v13 v15 v17 v18 v19 v20 v21 v22 v23 v24 v25 v26 v27 v28 v30 v32 v41 μ5)
  else
    g_L_law_1213 N M B SA k517 k553 v1 v2 v3 v4 v5 v6 v7 v8 v9 v11 v12 v13 v15 v17 v18 v19 v20 v21 v22 v23 v24 v25 v26 v27 v28 v30 v32 v35 μ5
set_option maxRecDepth 10000 in
def g_L_law_1136 (N : Nat) (M : Nat) (B : Nat) (SA : Nat → Nat) (k517 : Nat → Nat → Int32 → Nat → Nat → Nat → Nat → Nat → Nat → Bool → Int32 → Int32 → Int64 → Int64 → Nat → Nat → Nat → Nat → Nat → Nat → Nat → Int32 → Int32 → Nat → Int32 → JMem → Option (Bool × JMem)) (k553 : Nat → Nat → Int32 → Nat → Nat → Nat → Nat → Nat → Nat → Int32 → Int32 → Int64 → Int64 → Nat → Nat → Nat → Nat → Nat → Nat → Nat → Int32 → Int32 → Nat → Int32 → Int64 → Int64 → Int32 → JMem → Option (Bool × JMem)) (v1 : Nat) (v2 : Nat) (v3 : Int32) (v4 : Nat) (v5 : Nat) (v6 : Nat) (v7 : Nat) (v8 : Nat) (v9 : Nat) (v11 : Int32) (v12 : Int32) (v13 : Int64) (v15 : Int64) (v17 : Nat) (v18 : Nat) (v19 : Nat) (v20 : Nat) (v21 : Nat) (v22 : Nat) (v23 : Nat) (v24 : Int32) (v25 : Int32) (v26 : Nat) (v27 : Int32) (v28 : Int64) (v30 : Int64) (v32 : Int32) (v35 : Int64)  (μ : JMem) : Option (Bool × JMem) :=
  obd (jaI μ.1 v19 v32) fun x1 =>
  obd (jaJ μ.1 v18 (((4 : Int32) * v32) + x1)) fun x2 =>
  obd (jaI μ.1 v19 v32) fun x3 =>
  obd (jaI μ.1 v4 v32) fun x4 =>
  if x4 = (6 : Int32) then (
    g_L_law_1180 N M B SA k517 k553 v1 v2 v3 v4 v5 v6 v7 v8 v9 v11 v12 v13 v15 v17 v18 v19 v20 v21 v22 v23 v24 v25 v26 v27 v28 v30 v32 v35 x2 v28 (((4 : Int32) * v32) + x3) v18 μ)
  else
    g_L_law_1180 N M B SA k517 k553 v1 v2 v3 v4 v5 v6 v7 v8 v9 v11 v12 v13 v15 v17 v18 v19 v20 v21 v22 v23 v24 v25 v26 v27 v28 v30 v32 v35 x2 v35 (((4 : Int32) * v32) + x3) v18 μ
set_option maxRecDepth 10000 in
def g_L_law_1116 (N : Nat) (M : Nat) (B : Nat) (SA : Nat → Nat) (k517 : Nat → Nat → Int32 → Nat → Nat → Nat → Nat → Nat → Nat → Bool → Int32 → Int32 → Int64 → Int64 → Nat → Nat → Nat → Nat → Nat → Nat → Nat → Int32 → Int32 → Nat → Int32 → JMem → Option (Bool × JMem)) (k553 : Nat → Nat → Int32 → Nat → Nat → Nat → Nat → Nat → Nat → Int32 → Int32 → Int64 → Int64 → Nat → Nat → Nat → Nat → Nat → Nat → Nat → Int32 → Int32 → Nat → Int32 → Int64 → Int64 → Int32 → JMem → Option (Bool × JMem)) (v1 : Nat) (v2 : Nat) (v3 : Int32) (v4 : Nat) (v5 : Nat) (v6 : Nat) (v7 : Nat) (v8 : Nat) (v9 : Nat) (v11 : Int32) (v12 : Int32) (v13 : Int64) (v15 : Int64) (v17 : Nat) (v18 : Nat) (v19 : Nat) (v20 : Nat) (v21 : Nat) (v22 : Nat) (v23 : Nat) (v24 : Int32) (v25 : Int32) (v26 : Nat) (v27 : Int32) (v28 : Int64) (v30 : Int64) (v32 : Int32) (v35 : Int64)  (μ : JMem) : Option (Bool × JMem) :=
  obd (jaI μ.1 v4 v32) fun x1 =>
  if x1 = (6 : Int32) then (
    g_L_law_1136 N M B SA k517 k553 v1 v2 v3 v4 v5 v6 v7 v8 v9 v11 v12 v13 v15 v17 v18 v19 v20 v21 v22 v23 v24 v25 v26 v27 v28 v30 v32 v35 μ)
  else
    obd (jaI μ.1 v4 v32) fun x2 =>
    if x2 = (8 : Int32) then (
      g_L_law_1136 N M B SA k517 k553 v1 v2 v3 v4 v5 v6 v7 v8 v9 v11 v12 v13 v15 v17 v18 v19 v20 v21 v22 v23 v24 v25 v26 v27 v28 v30 v32 v35 μ)
    else
      g_L_law_1213 N M B SA k517 k553 v1 v2 v3 v4 v5 v6 v7 v8 v9 v11 v12 v13 v15 v17 v18 v19 v20 v21 v22 v23 v24 v25 v26 v27 v28 v30 v32 v35 μ
set_option maxRecDepth 10000 in
def g_L_law_1100 (N : Nat) (M : Nat) (B : Nat) (SA : Nat → Nat) (k517 : Nat → Nat → Int32 → Nat → Nat → Nat → Nat → Nat → Nat → Bool → Int32 → Int32 → Int64 → Int64 → Nat → Nat → Nat → Nat → Nat → Nat → Nat → Int32 → Int32 → Nat → Int32 → JMem → Option (Bool × JMem)) (k553 : Nat → Nat → Int32 → Nat → Nat → Nat → Nat → Nat → Nat → Int32 → Int32 → Int64 → Int64 → Nat → Nat → Nat → Nat → Nat → Nat → Nat → Int32 → Int32 → Nat → Int32 → Int64 → Int64 → Int32 → JMem → Option (Bool × JMem)) (v1 : Nat) (v2 : Nat) (v3 : Int32) (v4 : Nat) (v5 : Nat) (v6 : Nat) (v7 : Nat) (v8 : Nat) (v9 : Nat) (v11 : Int32) (v12 : Int32) (v13 : Int64) (v15 : Int64) (v17 : Nat) (v18 : Nat) (v19 : Nat) (v20 : Nat) (v21 : Nat) (v22 : Nat) (v23 : Nat) (v24 : Int32) (v25 : Int32) (v26 : Nat) (v27 : Int32) (v28 : Int64) (v30 : Int64) (v32 : Int32) (v35 : Int64) (v37 : Int64)  (μ : JMem) : Option (Bool × JMem) :=
  obd (jaI μ.1 v4 v32) fun x1 =>
  if x1 = (5 : Int32) then (
    obd (jpA B .long v17 v32 (.long v37) μ) fun μ2 =>
    g_L_law_1116 N M B SA k517 k553 v1 v2 v3 v4 v5 v6 v7 v8 v9 v11 v12 v13 v15 v17 v18 v19 v20 v21 v22 v23 v24 v25 v26 v27 v28 v30 v32 v35 μ2)
  else
    g_L_law_1116 N M B SA k517 k553 v1 v2 v3 v4 v5 v6 v7 v8 v9 v11 v12 v13 v15 v17 v18 v19 v20 v21 v22 v23 v24 v25 v26 v27 v28 v30 v32 v35 μ
set_option maxRecDepth 10000 in
def g_L_law_1093 (N : Nat) (M : Nat) (B : Nat) (SA : Nat → Nat) (k517 : Nat → Nat → Int32 → Nat → Nat → Nat → Nat → Nat → Nat → Bool → Int32 → Int32 → Int64 → Int64 → Nat → Nat → Nat → Nat → Nat → Nat → Nat → Int32 → Int32 → Nat → Int32 → JMem → Option (Bool × JMem)) (k553 : Nat → Nat → Int32 → Nat → Nat → Nat → Nat → Nat → Nat → Int32 → Int32 → Int64 → Int64 → Nat → Nat → Nat → Nat → Nat → Nat → Nat → Int32 → Int32 → Nat → Int32 → Int64 → Int64 → Int32 → JMem → Option (Bool × JMem)) (v1 : Nat) (v2 : Nat) (v3 : Int32) (v4 : Nat) (v5 : Nat) (v6 : Nat) (v7 : Nat) (v8 : Nat) (v9 : Nat) (v11 : Int32) (v12 : Int32) (v13 : Int64) (v15 : Int64) (v17 : Nat) (v18 : Nat) (v19 : Nat) (v20 : Nat) (v21 : Nat) (v22 : Nat) (v23 : Nat) (v24 : Int32) (v25 : Int32) (v26 : Nat) (v27 : Int32) (v28 : Int64) (v30 : Int64) (v32 : Int32) (v35 : Int64) (v37 : Int64)  (μ : JMem) : Option (Bool × JMem) :=
  obd (jpA B .long v17 v32 (.long v35) μ) fun μ1 =>
  g_L_law_1100 N M B SA k517 k553 v1 v2 v3 v4 v5 v6 v7 v8 v9 v11 v12 v13 v15 v17 v18 v19 v20 v21 v22 v23 v24 v25 v26 v27 v28 v30 v32 v35 v37 μ1
set_option maxRecDepth 10000 in
def g_L_law_1074 (N : Nat) (M : Nat) (B : Nat) (SA : Nat → Nat) (k517 : Nat → Nat → Int32 → Nat → Nat → Nat → Nat → Nat → Nat → Bool → Int32 → Int32 → Int64 → Int64 → Nat → Nat → Nat → Nat → Nat → Nat → Nat → Int32 → Int32 → Nat → Int32 → JMem → Option (Bool × JMem)) (k553 : Nat → Nat → Int32 → Nat → Nat → Nat → Nat → Nat → Nat → Int32 → Int32 → Int64 → Int64 → Nat → Nat → Nat → Nat → Nat → Nat → Nat → Int32 → Int32 → Nat → Int32 → Int64 → Int64 → Int32 → JMem → Option (Bool × JMem)) (v1 : Nat) (v2 : Nat) (v3 : Int32) (v4 : Nat) (v5 : Nat) (v6 : Nat) (v7 : Nat) (v8 : Nat) (v9 : Nat) (v11 : Int32) (v12 : Int32) (v13 : Int64) (v15 : Int64) (v17 : Nat) (v18 : Nat) (v19 : Nat) (v20 : Nat) (v21 : Nat) (v22 : Nat) (v23 : Nat) (v24 : Int32) (v25 : Int32) (v26 : Nat) (v27 : Int32) (v28 : Int64) (v30 : Int64) (v32 : Int32) (v35 : Int64) (v37 : Int64)  (μ : JMem) : Option (Bool × JMem) :=
  obd (jaI μ.1 v4 v32) fun x1 =>
  if x1 = (1 : Int32) then (
    g_L_law_1093 N M B SA k517 k553 v1 v2 v3 v4 v5 v6 v7 v8 v9 v11 v12 v13 v15 v17 v18 v19 v20 v21 v22 v23 v24 v25 v26 v27 v28 v30 v32 v35 v37 μ)
  else
    obd (jaI μ.1 v4 v32) fun x2 =>
    if x2 = (11 : Int32) then (
      g_L_law_1093 N M B SA k517 k553 v1 v2 v3 v4 v5 v6 v7 v8 v9 v11 v12 v13 v15 v17 v18 v19 v20 v21 v22 v23 v24 v25 v26 v27 v28 v30 v32 v35 v37 μ)
    else
      g_L_law_1100 N M B SA k517 k553 v1 v2 v3 v4 v5 v6 v7 v8 v9 v11 v12 v13 v15 v17 v18 v19 v20 v21 v22 v23 v24 v25 v26 v27 v28 v30 v32 v35 v37 μ
set_option maxRecDepth 10000 in
def g_L_law_634 (N : Nat) (M : Nat) (B : Nat) (SA : Nat → Nat) (k517 : Nat → Nat → Int32 → Nat → Nat → Nat → Nat → Nat → Nat → Bool → Int32 → Int32 → Int64 → Int64 → Nat → Nat → Nat → Nat → Nat → Nat → Nat → Int32 → Int32 → Nat → Int32 → JMem → Option (Bool × JMem)) (k553 : Nat → Nat → Int32 → Nat → Nat → Nat → Nat → Nat → Nat → Int32 → Int32 → Int64 → Int64 → Nat → Nat → Nat → Nat → Nat → Nat → Nat → Int32 → Int32 → Nat → Int32 → Int64 → Int64 → Int32 → JMem → Option (Bool × JMem)) : Nat → Nat → Nat → Int32 → Nat → Nat → Nat → Nat → Nat → Nat → Int32 → Int32 → Int64 → Int64 → Nat → Nat → Nat → Nat → Nat → Nat → Nat → Int32 → Int32 → Nat → Int32 → Int64 → Int64 → Int32 → Int32 → Int32 → Int64 → Int64 → Int32 → JMem → Option (Bool × JMem)
  | 0, _, _, _, _, _, _, _, _, _, _, _, _, _, _, _, _, _, _, _, _, _, _, _, _, _, _, _, _, _, _, _, _, _ => none
  | n + 1, v1, v2, v3, v4, v5, v6, v7, v8, v9, v11, v12, v13, v15, v17, v18, v19, v20, v21, v22, v23, v24, v25, v26, v27, v28, v30, v32, v33, v34, v35, v37, v41, μ =>
    if (v33 + v34) ≤ v41 then (
      if v34 = 0 then (
        g_L_law_1074 N M B SA k517 k553 v1 v2 v3 v4 v5 v6 v7 v8 v9 v11 v12 v13 v15 v17 v18 v19 v20 v21 v22 v23 v24 v25 v26 v27 v28 v30 v32 v28 v37 μ)
      else
        g_L_law_1074 N M B SA k517 k553 v1 v2 v3 v4 v5 v6 v7 v8 v9 v11 v12 v13 v15 v17 v18 v19 v20 v21 v22 v23 v24 v25 v26 v27 v28 v30 v32 v35 v37 μ)
    else
      if v33 ≤ v41 then (
        obd (jaI μ.1 v4 v32) fun x1 =>
        if x1 = 0 then (
          obd (jaJ μ.1 v8 v32) fun x2 =>
          g_L_law_911 N M B SA k517 k553 (g_L_law_634 N M B SA k517 k553 n) v1 v2 v3 v4 v5 v6 v7 v8 v9 v11 v12 v13 v15 v17 v18 v19 v20 v21 v22 v23 v24 v25 v26 v27 v28 v30 v32 v33 v34 v37 v41 (x2 * v28) μ)
        else
          obd (jaI μ.1 v4 v32) fun x3 =>
          if x3 = (1 : Int32) then (
            obd (jaJ μ.1 v8 v32) fun x4 =>
            obd (jaJ μ.1 v9 v32) fun x5 =>
            obd (jaJ μ.1 v17 v32) fun x6 =>
            g_L_law_911 N M B SA k517 k553 (g_L_law_634 N M B SA k517 k553 n) v1 v2 v3 v4 v5 v6 v7 v8 v9 v11 v12 v13 v15 v17 v18 v19 v20 v21 v22 v23 v24 v25 v26 v27 v28 v30 v32 v33 v34 v37 v41 ((x4 * v28) + (x5 * x6)) μ)
          else
            obd (jaI μ.1 v4 v32) fun x7 =>
            if x7 = (5 : Int32) then (
              if v41 = v33 then (
                obd (jaJ μ.1 v8 v32) fun x8 =>
                obd (jaJ μ.1 v17 v32) fun x9 =>
                g_L_law_802 N M B SA k517 k553 (g_L_law_634 N M B SA k517 k553 n) v1 v2 v3 v4 v5 v6 v7 v8 v9 v11 v12 v13 v15 v17 v18 v19 v20 v21 v22 v23 v24 v25 v26 v27 v28 v30 v32 v33 v34 v37 v41 (((16384 : Int64) * v28) - (x8 * x9)) μ)
              else
                obd (jaJ μ.1 v8 v32) fun x10 =>
                obd (jaJ μ.1 v17 v32) fun x11 =>
                g_L_law_802 N M B SA k517 k553 (g_L_law_634 N M B SA k517 k553 n) v1 v2 v3 v4 v5 v6 v7 v8 v9 v11 v12 v13 v15 v17 v18 v19 v20 v21 v22 v23 v24 v25 v26 v27 v28 v30 v32 v33 v34 v37 v41 ((x10 * v37) + ((16384 : Int64) * x11)) μ)
            else
              obd (jaI μ.1 v4 v32) fun x12 =>
              if x12 = (8 : Int32) then (
                obd (jaJ μ.1 v8 v32) fun x13 =>
                obd (jaI μ.1 v19 v32) fun x14 =>
                obd (jaJ μ.1 v18 (((4 : Int32) * v32) + x14)) fun x15 =>
                jlet (((16384 : Int64) * v28) + (x13 * x15)) fun (v42_16 : Int64) =>
                g_L_law_911 N M B SA k517 k553 (g_L_law_634 N M B SA k517 k553 n) v1 v2 v3 v4 v5 v6 v7 v8 v9 v11 v12 v13 v15 v17 v18 v19 v20 v21 v22 v23 v24 v25 v26 v27 v28 v30 v32 v33 v34 v37 v41 v42_16 μ)
              else
                if (0 : Int64) ≤ v28 then (
                  g_L_law_878 N M B SA k517 k553 (g_L_law_634 N M B SA k517 k553 n) v1 v2 v3 v4 v5 v6 v7 v8 v9 v11 v12 v13 v15 v17 v18 v19 v20 v21 v22 v23 v24 v25 v26 v27 v28 v30 v32 v33 v34 v37 v41 v28 μ)
                else
                  if v28 = (-32768 : Int64) then (
                    g_L_law_878 N M B SA k517 k553 (g_L_law_634 N M B SA k517 k553 n) v1 v2 v3 v4 v5 v6 v7 v8 v9 v11 v12 v13 v15 v17 v18 v19 v20 v21 v22 v23 v24 v25 v26 v27 v28 v30 v32 v33 v34 v37 v41 (32767 : Int64) μ)
                  else
                    g_L_law_878 N M B SA k517 k553 (g_L_law_634 N M B SA k517 k553 n) v1 v2 v3 v4 v5 v6 v7 v8 v9 v11 v12 v13 v15 v17 v18 v19 v20 v21 v22 v23 v24 v25 v26 v27 v28 v30 v32 v33 v34 v37 v41 (-v28) μ)
      else
        if v41 = 0 then (
          obd (jaJ μ.1 v23 v24) fun x17 =>
          g_L_law_686 N M B SA k517 k553 (g_L_law_634 N M B SA k517 k553 n) v1 v2 v3 v4 v5 v6 v7 v8 v9 v11 v12 v13 v15 v17 v18 v19 v20 v21 v22 v23 v24 v25 v26 v27 v28 v30 v32 v33 v34 v37 v41 (v13 * x17) ((16384 : Int64) * v28) μ)
        else
          obd (jaJ μ.1 v23 ((4 : Int32) + v25)) fun x18 =>
          g_L_law_686 N M B SA k517 k553 (g_L_law_634 N M B SA k517 k553 n) v1 v2 v3 v4 v5 v6 v7 v8 v9 v11 v12 v13 v15 v17 v18 v19 v20 v21 v22 v23 v24 v25 v26 v27 v28 v30 v32 v33 v34 v37 v41 (v15 * x18) ((16384 : Int64) * v28) μ
set_option maxRecDepth 10000 in
def g_L_law_619 (N : Nat) (M : Nat) (B : Nat) (SA : Nat → Nat) (k517 : Nat → Nat → Int32 → Nat → Nat → Nat → Nat → Nat → Nat → Bool → Int32 → Int32 → Int64 → Int64 → Nat → Nat → Nat → Nat → Nat → Nat → Nat → Int32 → Int32 → Nat → Int32 → JMem → Option (Bool × JMem)) (k553 : Nat → Nat → Int32 → Nat → Nat → Nat → Nat → Nat → Nat → Int32 → Int32 → Int64 → Int64 → Nat → Nat → Nat → Nat → Nat → Nat → Nat → Int32 → Int32 → Nat → Int32 → Int64 → Int64 → Int32 → JMem → Option (Bool × JMem)) (v1 : Nat) (v2 : Nat) (v3 : Int32) (v4 : Nat) (v5 : Nat) (v6 : Nat) (v7 : Nat) (v8 : Nat) (v9 : Nat) (v11 : Int32) (v12 : Int32) (v13 : Int64) (v15 : Int64) (v17 : Nat) (v18 : Nat) (v19 : Nat) (v20 : Nat) (v21 : Nat) (v22 : Nat) (v23 : Nat) (v24 : Int32) (v25 : Int32) (v26 : Nat) (v27 : Int32) (v28 : Int64) (v30 : Int64) (v32 : Int32) (v33 : Int32) (s0 : Int32)  (μ : JMem) : Option (Bool × JMem) :=
  g_L_law_634 N M B SA k517 k553 N v1 v2 v3 v4 v5 v6 v7 v8 v9 v11 v12 v13 v15 v17 v18 v19 v20 v21 v22 v23 v24 v25 v26 v27 v28 v30 v32 v33 s0 v28 (0 : Int64) (0 : Int32) μ
set_option maxRecDepth 10000 in
def g_L_law_614 (N : Nat) (M : Nat) (B : Nat) (SA : Nat → Nat) (k517 : Nat → Nat → Int32 → Nat → Nat → Nat → Nat → Nat → Nat → Bool → Int32 → Int32 → Int64 → Int64 → Nat → Nat → Nat → Nat → Nat → Nat → Nat → Int32 → Int32 → Nat → Int32 → JMem → Option (Bool × JMem)) (k553 : Nat → Nat → Int32 → Nat → Nat → Nat → Nat → Nat → Nat → Int32 → Int32 → Int64 → Int64 → Nat → Nat → Nat → Nat → Nat → Nat → Nat → Int32 → Int32 → Nat → Int32 → Int64 → Int64 → Int32 → JMem → Option (Bool × JMem)) (v1 : Nat) (v2 : Nat) (v3 : Int32) (v4 : Nat) (v5 : Nat) (v6 : Nat) (v7 : Nat) (v8 : Nat) (v9 : Nat) (v11 : Int32) (v12 : Int32) (v13 : Int64) (v15 : Int64) (v17 : Nat) (v18 : Nat) (v19 : Nat) (v20 : Nat) (v21 : Nat) (v22 : Nat) (v23 : Nat) (v24 : Int32) (v25 : Int32) (v26 : Nat) (v27 : Int32) (v28 : Int64) (v30 : Int64) (v32 : Int32) (v33 : Int32)  (μ : JMem) : Option (Bool × JMem) :=
  g_L_law_619 N M B SA k517 k553 v1 v2 v3 v4 v5 v6 v7 v8 v9 v11 v12 v13 v15 v17 v18 v19 v20 v21 v22 v23 v24 v25 v26 v27 v28 v30 v32 v33 (0 : Int32) μ
set_option maxRecDepth 10000 in
def g_L_law_569 (N : Nat) (M : Nat) (B : Nat) (SA : Nat → Nat) (k517 : Nat → Nat → Int32 → Nat → Nat → Nat → Nat → Nat → Nat → Bool → Int32 → Int32 → Int64 → Int64 → Nat → Nat → Nat → Nat → Nat → Nat → Nat → Int32 → Int32 → Nat → Int32 → JMem → Option (Bool × JMem)) (k553 : Nat → Nat → Int32 → Nat → Nat → Nat → Nat → Nat → Nat → Int32 → Int32 → Int64 → Int64 → Nat → Nat → Nat → Nat → Nat → Nat → Nat → Int32 → Int32 → Nat → Int32 → Int64 → Int64 → Int32 → JMem → Option (Bool × JMem)) (v1 : Nat) (v2 : Nat) (v3 : Int32) (v4 : Nat) (v5 : Nat) (v6 : Nat) (v7 : Nat) (v8 : Nat) (v9 : Nat) (v11 : Int32) (v12 : Int32) (v13 : Int64) (v15 : Int64) (v17 : Nat) (v18 : Nat) (v19 : Nat) (v20 : Nat) (v21 : Nat) (v22 : Nat) (v23 : Nat) (v24 : Int32) (v25 : Int32) (v26 : Nat) (v27 : Int32) (v28 : Int64) (v30 : Int64) (v32 : Int32) (s0 : Int32)  (μ : JMem) : Option (Bool × JMem) :=
  obd (jaI μ.1 v4 v32) fun x1 =>
  if x1 = (5 : Int32) then (
    g_L_law_619 N M B SA k517 k553 v1 v2 v3 v4 v5 v6 v7 v8 v9 v11 v12 v13 v15 v17 v18 v19 v20 v21 v22 v23 v24 v25 v26 v27 v28 v30 v32 s0 (2 : Int32) μ)
  else
    obd (jaI μ.1 v4 v32) fun x2 =>
    if x2 = (6 : Int32) then (
      g_L_law_614 N M B SA k517 k553 v1 v2 v3 v4 v5 v6 v7 v8 v9 v11 v12 v13 v15 v17 v18 v19 v20 v21 v22 v23 v24 v25 v26 v27 v28 v30 v32 s0 μ)
    else
      obd (jaI μ.1 v4 v32) fun x3 =>
      if x3 = (9 : Int32) then (
        g_L_law_614 N M B SA k517 k553 v1 v2 v3 v4 v5 v6 v7 v8 v9 v11 v12 v13 v15 v17 v18 v19 v20 v21 v22 v23 v24 v25 v26 v27 v28 v30 v32 s0 μ)
      else
        obd (jaI μ.1 v4 v32) fun x4 =>
        if x4 = (10 : Int32) then (
          g_L_law_614 N M B SA k517 k553 v1 v2 v3 v4 v5 v6 v7 v8 v9 v11 v12 v13 v15 v17 v18 v19 v20 v21 v22 v23 v24 v25 v26 v27 v28 v30 v32 s0 μ)
        else
          g_L_law_619 N M B SA k517 k553 v1 v2 v3 v4 v5 v6 v7 v8 v9 v11 v12 v13 v15 v17 v18 v19 v20 v21 v22 v23 v24 v25 v26 v27 v28 v30 v32 s0 (1 : Int32) μ
set_option maxRecDepth 10000 in
def g_L_law_1549 (N : Nat) (M : Nat) (B : Nat) (SA : Nat → Nat) (k517 : Nat → Nat → Int32 → Nat → Nat → Nat → Nat → Nat → Nat → Bool → Int32 → Int32 → Int64 → Int64 → Nat → Nat → Nat → Nat → Nat → Nat → Nat → Int32 → Int32 → Nat → Int32 → JMem → Option (Bool × JMem)) (k1485 : Nat → Nat → Int32 → Nat → Nat → Nat → Nat → Nat → Nat → Bool → Int32 → Int32 → Int64 → Int64 → Nat → Nat → Nat → Nat → Nat → Nat → Nat → Int32 → Int32 → Nat → Int32 → Int32 → JMem → Option (Bool × JMem)) (v1 : Nat) (v2 : Nat) (v3 : Int32) (v4 : Nat) (v5 : Nat) (v6 : Nat) (v7 : Nat) (v8 : Nat) (v9 : Nat) (v11 : Int32) (v12 : Int32) (v13 : Int64) (v15 : Int64) (v17 : Nat) (v18 : Nat) (v19 : Nat) (v20 : Nat) (v21 : Nat) (v22 : Nat) (v23 : Nat) (v24 : Int32) (v25 : Int32) (v26 : Nat) (v27 : Int32) (v32 : Int32) (s0 : Bool)  (μ : JMem) : Option (Bool × JMem) :=
  k1485 v1 v2 v3 v4 v5 v6 v7 v8 v9 s0 v11 v12 v13 v15 v17 v18 v19 v20 v21 v22 v23 v24 v25 v26 v27 (v32 + 1) μ
set_option maxRecDepth 10000 in
def g_L_law_1548 (N : Nat) (M : Nat) (B : Nat) (SA : Nat → Nat) (k517 : Nat → Nat → Int32 → Nat → Nat → Nat → Nat → Nat → Nat → Bool → Int32 → Int32 → Int64 → Int64 → Nat → Nat → Nat → Nat → Nat → Nat → Nat → Int32 → Int32 → Nat → Int32 → JMem → Option (Bool × JMem)) (k1485 : Nat → Nat → Int32 → Nat → Nat → Nat → Nat → Nat → Nat → Bool → Int32 → Int32 → Int64 → Int64 → Nat → Nat → Nat → Nat → Nat → Nat → Nat → Int32 → Int32 → Nat → Int32 → Int32 → JMem → Option (Bool × JMem)) (v1 : Nat) (v2 : Nat) (v3 : Int32) (v4 : Nat) (v5 : Nat) (v6 : Nat) (v7 : Nat) (v8 : Nat) (v9 : Nat) (v11 : Int32) (v12 : Int32) (v13 : Int64) (v15 : Int64) (v17 : Nat) (v18 : Nat) (v19 : Nat) (v20 : Nat) (v21 : Nat) (v22 : Nat) (v23 : Nat) (v24 : Int32) (v25 : Int32) (v26 : Nat) (v27 : Int32) (v32 : Int32)  (μ : JMem) : Option (Bool × JMem) :=
  g_L_law_1549 N M B SA k517 k1485 v1 v2 v3 v4 v5 v6 v7 v8 v9 v11 v12 v13 v15 v17 v18 v19 v20 v21 v22 v23 v24 v25 v26 v27 v32 false μ
set_option maxRecDepth 10000 in
def g_L_law_1485 (N : Nat) (M : Nat) (B : Nat) (SA : Nat → Nat) (k517 : Nat → Nat → Int32 → Nat → Nat → Nat → Nat → Nat → Nat → Bool → Int32 → Int32 → Int64 → Int64 → Nat → Nat → Nat → Nat → Nat → Nat → Nat → Int32 → Int32 → Nat → Int32 → JMem → Option (Bool × JMem)) : Nat → Nat → Nat → Int32 → Nat → Nat → Nat → Nat → Nat → Nat → Bool → Int32 → Int32 → Int64 → Int64 → Nat → Nat → Nat → Nat → Nat → Nat → Nat → Int32 → Int32 → Nat → Int32 → Int32 → JMem → Option (Bool × JMem)
  | 0, _, _, _, _, _, _, _, _, _, _, _, _, _, _, _, _, _, _, _, _, _, _, _, _, _, _, _ => none
  | n + 1, v1, v2, v3, v4, v5, v6, v7, v8, v9, v10, v11, v12, v13, v15, v17, v18, v19, v20, v21, v22, v23, v24, v25, v26, v27, v32, μ =>
    if v3 ≤ v32 then (
      k517 v1 v2 v3 v4 v5 v6 v7 v8 v9 v10 v11 v12 v13 v15 v17 v18 v19 v20 v21 v22 v23 v24 v25 v26 (v27 + 1) μ)
    else
      if v10 = true then (
        jgd (jobC 0 (μ.1 v2)) <|
        obd (g_B_about v2 v32 (5 : Int32) μ.1) fun x2 =>
        obd (jaI μ.1 v21 v32) fun x3 =>
        if x2 = x3 then (
          jgd (jobC 0 (μ.1 v2)) <|
          obd (g_B_about v2 v32 (6 : Int32) μ.1) fun x5 =>
          obd (jaI μ.1 v22 v32) fun x6 =>
          if x5 = x6 then (
            jgd (jobC 0 (μ.1 v2)) <|
            obd (g_B_state v2 v32 (100 : Int32) μ.1) fun x8 =>
            obd (jaJ μ.1 v20 v32) fun x9 =>
            if x8 = x9 then (
              g_L_law_1549 N M B SA k517 (g_L_law_1485 N M B SA k517 n) v1 v2 v3 v4 v5 v6 v7 v8 v9 v11 v12 v13 v15 v17 v18 v19 v20 v21 v22 v23 v24 v25 v26 v27 v32 true μ)
            else
              g_L_law_1548 N M B SA k517 (g_L_law_1485 N M B SA k517 n) v1 v2 v3 v4 v5 v6 v7 v8 v9 v11 v12 v13 v15 v17 v18 v19 v20 v21 v22 v23 v24 v25 v26 v27 v32 μ)
          else
            g_L_law_1548 N M B SA k517 (g_L_law_1485 N M B SA k517 n) v1 v2 v3 v4 v5 v6 v7 v8 v9 v11 v12 v13 v15 v17 v18 v19 v20 v21 v22 v23 v24 v25 v26 v27 v32 μ)
        else
          g_L_law_1548 N M B SA k517 (g_L_law_1485 N M B SA k517 n) v1 v2 v3 v4 v5 v6 v7 v8 v9 v11 v12 v13 v15 v17 v18 v19 v20 v21 v22 v23 v24 v25 v26 v27 v32 μ)
      else
        g_L_law_1548 N M B SA k517 (g_L_law_1485 N M B SA k517 n) v1 v2 v3 v4 v5 v6 v7 v8 v9 v11 v12 v13 v15 v17 v18 v19 v20 v21 v22 v23 v24 v25 v26 v27 v32 μ
set_option maxRecDepth 10000 in
def g_L_law_1480 (N : Nat) (M : Nat) (B : Nat) (SA : Nat → Nat) (k517 : Nat → Nat → Int32 → Nat → Nat → Nat → Nat → Nat → Nat → Bool → Int32 → Int32 → Int64 → Int64 → Nat → Nat → Nat → Nat → Nat → Nat → Nat → Int32 → Int32 → Nat → Int32 → JMem → Option (Bool × JMem)) (v1 : Nat) (v2 : Nat) (v3 : Int32) (v4 : Nat) (v5 : Nat) (v6 : Nat) (v7 : Nat) (v8 : Nat) (v9 : Nat) (v11 : Int32) (v12 : Int32) (v13 : Int64) (v15 : Int64) (v17 : Nat) (v18 : Nat) (v19 : Nat) (v20 : Nat) (v21 : Nat) (v22 : Nat) (v23 : Nat) (v24 : Int32) (v25 : Int32) (v26 : Nat) (v27 : Int32) (s0 : Bool)  (μ : JMem) : Option (Bool × JMem) :=
  g_L_law_1485 N M B SA k517 N v1 v2 v3 v4 v5 v6 v7 v8 v9 s0 v11 v12 v13 v15 v17 v18 v19 v20 v21 v22 v23 v24 v25 v26 v27 (0 : Int32) μ
set_option maxRecDepth 10000 in
def g_L_law_1479 (N : Nat) (M : Nat) (B : Nat) (SA : Nat → Nat) (k517 : Nat → Nat → Int32 → Nat → Nat → Nat → Nat → Nat → Nat → Bool → Int32 → Int32 → Int64 → Int64 → Nat → Nat → Nat → Nat → Nat → Nat → Nat → Int32 → Int32 → Nat → Int32 → JMem → Option (Bool × JMem)) (v1 : Nat) (v2 : Nat) (v3 : Int32) (v4 : Nat) (v5 : Nat) (v6 : Nat) (v7 : Nat) (v8 : Nat) (v9 : Nat) (v11 : Int32) (v12 : Int32) (v13 : Int64) (v15 : Int64) (v17 : Nat) (v18 : Nat) (v19 : Nat) (v20 : Nat) (v21 : Nat) (v22 : Nat) (v23 : Nat) (v24 : Int32) (v25 : Int32) (v26 : Nat) (v27 : Int32)  (μ : JMem) : Option (Bool × JMem) :=
  g_L_law_1480 N M B SA k517 v1 v2 v3 v4 v5 v6 v7 v8 v9 v11 v12 v13 v15 v17 v18 v19 v20 v21 v22 v23 v24 v25 v26 v27 false μ
set_option maxRecDepth 10000 in
def g_L_law_553 (N : Nat) (M : Nat) (B : Nat) (SA : Nat → Nat) (k517 : Nat → Nat → Int32 → Nat → Nat → Nat → Nat → Nat → Nat → Bool → Int32 → Int32 → Int64 → Int64 → Nat → Nat → Nat → Nat → Nat → Nat → Nat → Int32 → Int32 → Nat → Int32 → JMem → Option (Bool × JMem)) : Nat → Nat → Nat → Int32 → Nat → Nat → Nat → Nat → Nat → Nat → Int32 → Int32 → Int64 → Int64 → Nat → Nat → Nat → Nat → Nat → Nat → Nat → Int32 → Int32 → Nat → Int32 → Int64 → Int64 → Int32 → JMem → Option (Bool × JMem)
  | 0, _, _, _, _, _, _, _, _, _, _, _, _, _, _, _, _, _, _, _, _, _, _, _, _, _, _, _, _ => none
  | n + 1, v1, v2, v3, v4, v5, v6, v7, v8, v9, v11, v12, v13, v15, v17, v18, v19, v20, v21, v22, v23, v24, v25, v26, v27, v28, v30, v32, μ =>
    if v3 ≤ v32 then (
      obd (jpA B .long v23 v24 (.long v28) μ) fun μ1 =>
      obd (jremI (v24 + (1 : Int32)) v11) fun x2 =>
      obd (jpA B .int v26 v27 (.int (Int64.toInt32 v28)) μ1) fun μ3 =>
      jgd (jobC 0 (μ3.1 v2)) <|
      jbd2 (g_B_feed N M B v2 (0 : Int32) v30 μ3) fun x5 μ6 =>
      if x5 = (1 : Int32) then (
        jgd (jobC 0 (μ6.1 v2)) <|
        obd (g_B_output v2 (0 : Int32) v27 μ6.1) fun x8 =>
        if x8 = v28 then (
          g_L_law_1480 N M B SA k517 v1 v2 v3 v4 v5 v6 v7 v8 v9 v11 v12 v13 v15 v17 v18 v19 v20 v21 v22 v23 x2 v25 v26 v27 true μ6)
        else
          g_L_law_1479 N M B SA k517 v1 v2 v3 v4 v5 v6 v7 v8 v9 v11 v12 v13 v15 v17 v18 v19 v20 v21 v22 v23 x2 v25 v26 v27 μ6)
      else
        g_L_law_1479 N M B SA k517 v1 v2 v3 v4 v5 v6 v7 v8 v9 v11 v12 v13 v15 v17 v18 v19 v20 v21 v22 v23 x2 v25 v26 v27 μ6)
    else
      if v32 = 0 then (
        g_L_law_569 N M B SA k517 (g_L_law_553 N M B SA k517 n) v1 v2 v3 v4 v5 v6 v7 v8 v9 v11 v12 v13 v15 v17 v18 v19 v20 v21 v22 v23 v24 v25 v26 v27 v28 v30 v32 (2 : Int32) μ)
      else
        g_L_law_569 N M B SA k517 (g_L_law_553 N M B SA k517 n) v1 v2 v3 v4 v5 v6 v7 v8 v9 v11 v12 v13 v15 v17 v18 v19 v20 v21 v22 v23 v24 v25 v26 v27 v28 v30 v32 (0 : Int32) μ
set_option maxRecDepth 10000 in
def g_L_law_1755 (N : Nat) (M : Nat) (B : Nat) (SA : Nat → Nat) (k1638 : Nat → Nat → Int32 → Nat → Nat → Nat → Bool → Nat → Int32 → JMem → Option (Bool × JMem)) (v1 : Nat) (v2 : Nat) (v3 : Int32) (v4 : Nat) (v5 : Nat) (v6 : Nat) (v26 : Nat) (v27 : Int32) (s0 : Bool)  (μ : JMem) : Option (Bool × JMem) :=
  k1638 v1 v2 v3 v4 v5 v6 s0 v26 (v27 + 1) μ
set_option maxRecDepth 10000 in
def g_L_law_1754 (N : Nat) (M : Nat) (B : Nat) (SA : Nat → Nat) (k1638 : Nat → Nat → Int32 → Nat → Nat → Nat → Bool → Nat → Int32 → JMem → Option (Bool × JMem)) (v1 : Nat) (v2 : Nat) (v3 : Int32) (v4 : Nat) (v5 : Nat) (v6 : Nat) (v26 : Nat) (v27 : Int32)  (μ : JMem) : Option (Bool × JMem) :=
  g_L_law_1755 N M B SA k1638 v1 v2 v3 v4 v5 v6 v26 v27 false μ
set_option maxRecDepth 10000 in
def g_L_law_1824 (N : Nat) (M : Nat) (B : Nat) (SA : Nat → Nat) (k1766 : Nat → Nat → Bool → Nat → Int32 → JMem → Option (Bool × JMem)) (v1 : Nat) (v2 : Nat) (v26 : Nat) (v27 : Int32) (s0 : Bool)  (μ : JMem) : Option (Bool × JMem) :=
  k1766 v1 v2 s0 v26 (v27 + 1) μ
set_option maxRecDepth 10000 in
def g_L_law_1823 (N : Nat) (M : Nat) (B : Nat) (SA : Nat → Nat) (k1766 : Nat → Nat → Bool → Nat → Int32 → JMem → Option (Bool × JMem)) (v1 : Nat) (v2 : Nat) (v26 : Nat) (v27 : Int32)  (μ : JMem) : Option (Bool × JMem) :=
  g_L_law_1824 N M B SA k1766 v1 v2 v26 v27 false μ
set_option maxRecDepth 10000 in
def g_L_law_1832 (N : Nat) (M : Nat) (B : Nat) (SA : Nat → Nat) (v2 : Nat) (v10 : Bool)  (μ : JMem) : Option (Bool × JMem) :=
  if v10 = true then (
    jgd (jobC 0 (μ.1 v2)) <|
    jbd2 (g_B_back N B v2 (0 : Int32) μ) fun x2 μ3 =>
    if x2 = true then (
      jgd (jobC 0 (μ3.1 v2)) <|
      jbd2 (g_B_same N B v2 (0 : Int32) μ3) fun x5 μ6 =>
      if x5 = true then (
        some (true, μ6))
      else
        some (false, μ6))
    else
      some (false, μ3))
  else
    some (false, μ)
set_option maxRecDepth 10000 in
def g_L_law_1766 (N : Nat) (M : Nat) (B : Nat) (SA : Nat → Nat) : Nat → Nat → Nat → Bool → Nat → Int32 → JMem → Option (Bool × JMem)
  | 0, _, _, _, _, _, _ => none
  | n + 1, v1, v2, v10, v26, v27, μ =>
    if (40 : Int32) ≤ v27 then (
      g_L_law_1832 N M B SA v2 v10 μ)
    else
      if v10 = true then (
        obd (jaI μ.1 v1 ((10 : Int32) + v27)) fun x1 =>
        jgd (jobC 0 (μ.1 v2)) <|
        jbd2 (g_B_feed N M B v2 (2 : Int32) (Int32.toInt64 (Int16.toInt32 (Int32.toInt16 (x1 >>> ((v27 &&& (7 : Int32)) &&& 31))))) μ) fun x3 μ4 =>
        if x3 = (1 : Int32) then (
          jgd (jobC 0 (μ4.1 v2)) <|
          obd (g_B_output v2 (2 : Int32) v27 μ4.1) fun x6 =>
          obd (jaI μ4.1 v26 v27) fun x7 =>
          if x6 = (Int32.toInt64 x7) then (
            g_L_law_1824 N M B SA (g_L_law_1766 N M B SA n) v1 v2 v26 v27 true μ4)
          else
            g_L_law_1823 N M B SA (g_L_law_1766 N M B SA n) v1 v2 v26 v27 μ4)
        else
          g_L_law_1823 N M B SA (g_L_law_1766 N M B SA n) v1 v2 v26 v27 μ4)
      else
        g_L_law_1832 N M B SA v2 v10 μ
set_option maxRecDepth 10000 in
def g_L_law_1763 (N : Nat) (M : Nat) (B : Nat) (SA : Nat → Nat) (v1 : Nat) (v2 : Nat) (v10 : Bool) (v26 : Nat)  (μ : JMem) : Option (Bool × JMem) :=
  g_L_law_1766 N M B SA N v1 v2 v10 v26 (0 : Int32) μ
set_option maxRecDepth 10000 in
def g_L_law_1638 (N : Nat) (M : Nat) (B : Nat) (SA : Nat → Nat) : Nat → Nat → Nat → Int32 → Nat → Nat → Nat → Bool → Nat → Int32 → JMem → Option (Bool × JMem)
  | 0, _, _, _, _, _, _, _, _, _, _ => none
  | n + 1, v1, v2, v3, v4, v5, v6, v10, v26, v27, μ =>
    if v3 ≤ v27 then (
      g_L_law_1763 N M B SA v1 v2 v10 v26 μ)
    else
      if v10 = true then (
        jgd (jobC 0 (μ.1 v2)) <|
        obd (g_B_told v2 (((2 : Int32) * v3) + v27) (0 : Int32) μ.1) fun x2 =>
        jgd (jobC 0 (μ.1 v2)) <|
        obd (g_B_told v2 v27 (0 : Int32) μ.1) fun x4 =>
        if x2 = x4 then (
          jgd (jobC 0 (μ.1 v2)) <|
          obd (g_B_told v2 (((2 : Int32) * v3) + v27) (1 : Int32) μ.1) fun x6 =>
          jgd (jobC 0 (μ.1 v2)) <|
          obd (g_B_told v2 v27 (1 : Int32) μ.1) fun x8 =>
          if x6 = x8 then (
            jgd (jobC 0 (μ.1 v2)) <|
            obd (g_B_about v2 (((2 : Int32) * v3) + v27) (0 : Int32) μ.1) fun x10 =>
            obd (jaI μ.1 v4 v27) fun x11 =>
            if x10 = x11 then (
              jgd (jobC 0 (μ.1 v2)) <|
              obd (g_B_about v2 (((2 : Int32) * v3) + v27) (8 : Int32) μ.1) fun x13 =>
              if x13 = 0 then (
                obd (jaI μ.1 v5 v27) fun x14 =>
                obd (jaI μ.1 v6 v27) fun x15 =>
                jgd (jobC 0 (μ.1 v2)) <|
                jbd2 (g_B_rule B v2 (((2 : Int32) * v3) + v27) x14 x15 μ) fun x17 μ18 =>
                if x17 = true then (
                  g_L_law_1755 N M B SA (g_L_law_1638 N M B SA n) v1 v2 v3 v4 v5 v6 v26 v27 true μ18)
                else
                  g_L_law_1754 N M B SA (g_L_law_1638 N M B SA n) v1 v2 v3 v4 v5 v6 v26 v27 μ18)
              else
                g_L_law_1754 N M B SA (g_L_law_1638 N M B SA n) v1 v2 v3 v4 v5 v6 v26 v27 μ)
            else
              g_L_law_1754 N M B SA (g_L_law_1638 N M B SA n) v1 v2 v3 v4 v5 v6 v26 v27 μ)
          else
            g_L_law_1754 N M B SA (g_L_law_1638 N M B SA n) v1 v2 v3 v4 v5 v6 v26 v27 μ)
        else
          g_L_law_1754 N M B SA (g_L_law_1638 N M B SA n) v1 v2 v3 v4 v5 v6 v26 v27 μ)
      else
        g_L_law_1763 N M B SA v1 v2 v10 v26 μ
set_option maxRecDepth 10000 in
def g_L_law_1633 (N : Nat) (M : Nat) (B : Nat) (SA : Nat → Nat) (v1 : Nat) (v2 : Nat) (v3 : Int32) (v4 : Nat) (v5 : Nat) (v6 : Nat) (v26 : Nat) (s0 : Bool)  (μ : JMem) : Option (Bool × JMem) :=
  g_L_law_1638 N M B SA N v1 v2 v3 v4 v5 v6 s0 v26 (0 : Int32) μ
set_option maxRecDepth 10000 in
def g_L_law_1632 (N : Nat) (M : Nat) (B : Nat) (SA : Nat → Nat) (v1 : Nat) (v2 : Nat) (v3 : Int32) (v4 : Nat) (v5 : Nat) (v6 : Nat) (v26 : Nat)  (μ : JMem) : Option (Bool × JMem) :=
  g_L_law_1633 N M B SA v1 v2 v3 v4 v5 v6 v26 false μ
set_option maxRecDepth 10000 in
def g_L_law_1563 (N : Nat) (M : Nat) (B : Nat) (SA : Nat → Nat) (v1 : Nat) (v2 : Nat) (v3 : Int32) (v4 : Nat) (v5 : Nat) (v6 : Nat) (v10 : Bool) (v26 : Nat)  (μ : JMem) : Option (Bool × JMem) :=
  if v10 = true then (
    jgd (jobC 0 (μ.1 v2)) <|
    jbd2 (g_B_convert N M B SA v2 (0 : Int32) (0 : Int32) μ) fun x2 μ3 =>
    if x2 = (1 : Int32) then (
      jgd (jobC 0 (μ3.1 v2)) <|
      jbd2 (g_B_convert N M B SA v2 (1 : Int32) (2 : Int32) μ3) fun x5 μ6 =>
      if x5 = (2 : Int32) then (
        jgd (jobC 0 (μ6.1 v2)) <|
        obd (g_B_count v2 (0 : Int32) μ6.1) fun x8 =>
        if x8 = ((3 : Int32) * v3) then (
          jgd (jobC 0 (μ6.1 v2)) <|
          obd (g_B_chain_2 v2 (2 : Int32) (1 : Int32) μ6.1) fun x10 =>
          if x10 = (2 : Int32) then (
            jgd (jobC 0 (μ6.1 v2)) <|
            obd (g_B_chain_2 v2 (1 : Int32) (4 : Int32) μ6.1) fun x12 =>
            if x12 = 0 then (
              jgd (jobC 0 (μ6.1 v2)) <|
              obd (g_B_chain_2 v2 (2 : Int32) (4 : Int32) μ6.1) fun x14 =>
              if x14 = (2 : Int32) then (
                g_L_law_1633 N M B SA v1 v2 v3 v4 v5 v6 v26 true μ6)
              else
                g_L_law_1632 N M B SA v1 v2 v3 v4 v5 v6 v26 μ6)
            else
              g_L_law_1632 N M B SA v1 v2 v3 v4 v5 v6 v26 μ6)
          else
            g_L_law_1632 N M B SA v1 v2 v3 v4 v5 v6 v26 μ6)
        else
          g_L_law_1632 N M B SA v1 v2 v3 v4 v5 v6 v26 μ6)
      else
        g_L_law_1632 N M B SA v1 v2 v3 v4 v5 v6 v26 μ6)
    else
      g_L_law_1632 N M B SA v1 v2 v3 v4 v5 v6 v26 μ3)
  else
    g_L_law_1632 N M B SA v1 v2 v3 v4 v5 v6 v26 μ
set_option maxRecDepth 10000 in
def g_L_law_517 (N : Nat) (M : Nat) (B : Nat) (SA : Nat → Nat) : Nat → Nat → Nat → Int32 → Nat → Nat → Nat → Nat → Nat → Nat → Bool → Int32 → Int32 → Int64 → Int64 → Nat → Nat → Nat → Nat → Nat → Nat → Nat → Int32 → Int32 → Nat → Int32 → JMem → Option (Bool × JMem)
  | 0, _, _, _, _, _, _, _, _, _, _, _, _, _, _, _, _, _, _, _, _, _, _, _, _, _, _ => none
  | n + 1, v1, v2, v3, v4, v5, v6, v7, v8, v9, v10, v11, v12, v13, v15, v17, v18, v19, v20, v21, v22, v23, v24, v25, v26, v27, μ =>
    if (40 : Int32) ≤ v27 then (
      g_L_law_1563 N M B SA v1 v2 v3 v4 v5 v6 v10 v26 μ)
    else
      if v10 = true then (
        obd (jaI μ.1 v1 ((10 : Int32) + v27)) fun x1 =>
        jlet (Int32.toInt64 (Int16.toInt32 (Int32.toInt16 (x1 >>> ((v27 &&& (7 : Int32)) &&& 31))))) fun (v28_2 : Int64) =>
        g_L_law_553 N M B SA (g_L_law_517 N M B SA n) N v1 v2 v3 v4 v5 v6 v7 v8 v9 v11 v12 v13 v15 v17 v18 v19 v20 v21 v22 v23 v24 v25 v26 v27 v28_2 v28_2 (0 : Int32) μ)
      else
        g_L_law_1563 N M B SA v1 v2 v3 v4 v5 v6 v10 v26 μ
set_option maxRecDepth 10000 in
def g_L_law_463 (N : Nat) (M : Nat) (B : Nat) (SA : Nat → Nat) (v1 : Nat) (v2 : Nat) (v3 : Int32) (v4 : Nat) (v5 : Nat) (v6 : Nat) (v7 : Nat) (v8 : Nat) (v9 : Nat) (v11 : Int32) (v12 : Int32) (v13 : Int64) (v15 : Int64) (s0 : Bool)  (μ : JMem) : Option (Bool × JMem) :=
  jbd2 (jnA .long (4 : Int32) μ) fun a1 μ2 =>
  jbd2 (jnA .long (16 : Int32) μ2) fun a3 μ4 =>
  jbd2 (jnA .int (4 : Int32) μ4) fun a5 μ6 =>
  jbd2 (jnA .long (4 : Int32) μ6) fun a7 μ8 =>
  jbd2 (jnA .int (4 : Int32) μ8) fun a9 μ10 =>
  jbd2 (jnA .int (4 : Int32) μ10) fun a11 μ12 =>
  jbd2 (jnA .long (8 : Int32) μ12) fun a13 μ14 =>
  jbd2 (jnA .int (40 : Int32) μ14) fun a15 μ16 =>
  g_L_law_517 N M B SA N v1 v2 v3 v4 v5 v6 v7 v8 v9 s0 v11 v12 v13 v15 a1 a3 a5 a7 a9 a11 a13 (0 : Int32) (0 : Int32) a15 (0 : Int32) μ16
set_option maxRecDepth 10000 in
def g_L_law_462 (N : Nat) (M : Nat) (B : Nat) (SA : Nat → Nat) (v1 : Nat) (v2 : Nat) (v3 : Int32) (v4 : Nat) (v5 : Nat) (v6 : Nat) (v7 : Nat) (v8 : Nat) (v9 : Nat) (v11 : Int32) (v12 : Int32) (v13 : Int64) (v15 : Int64)  (μ : JMem) : Option (Bool × JMem) :=
  g_L_law_463 N M B SA v1 v2 v3 v4 v5 v6 v7 v8 v9 v11 v12 v13 v15 false μ
set_option maxRecDepth 10000 in
def g_L_law_94 (N : Nat) (M : Nat) (B : Nat) (SA : Nat → Nat) : Nat → Nat → Nat → Int32 → Nat → Nat → Nat → Nat → Nat → Nat → Bool → Int32 → JMem → Option (Bool × JMem)
  | 0, _, _, _, _, _, _, _, _, _, _, _, _ => none
  | n + 1, v1, v2, v3, v4, v5, v6, v7, v8, v9, v10, v11, μ =>
    if v3 ≤ v11 then (
      obd (jaI μ.1 v1 (0 : Int32)) fun x1 =>
      jlet ((1 : Int32) + ((x1 >>> ((2 : Int32) &&& 31)) &&& (3 : Int32))) fun (v11_2 : Int32) =>
      obd (jaI μ.1 v1 (0 : Int32)) fun x3 =>
      jlet ((1 : Int32) + ((x3 >>> ((4 : Int32) &&& 31)) &&& (3 : Int32))) fun (v12_4 : Int32) =>
      obd (jaI μ.1 v1 (0 : Int32)) fun x5 =>
      jlet (Int32.toInt64 (Int16.toInt32 (Int32.toInt16 (x5 >>> ((6 : Int32) &&& 31))))) fun (v13_6 : Int64) =>
      obd (jaI μ.1 v1 (0 : Int32)) fun x7 =>
      jlet (Int32.toInt64 (Int16.toInt32 (Int32.toInt16 (x7 >>> ((12 : Int32) &&& 31))))) fun (v15_8 : Int64) =>
      if v10 = true then (
        jgd (jobC 0 (μ.1 v2)) <|
        jbd2 (g_B_loop N B v2 (0 : Int32) (0 : Int32) (v3 - (1 : Int32)) v11_2 v13_6 μ) fun x10 μ11 =>
        if x10 = (1 : Int32) then (
          jgd (jobC 0 (μ11.1 v2)) <|
          jbd2 (g_B_loop N B v2 (0 : Int32) (0 : Int32) (0 : Int32) v12_4 v15_8 μ11) fun x13 μ14 =>
          if x13 = (2 : Int32) then (
            jgd (jobC 0 (μ14.1 v2)) <|
            jbd2 (g_B_keep N B v2 (0 : Int32) μ14) fun x16 μ17 =>
            if x16 = 0 then (
              g_L_law_463 N M B SA v1 v2 v3 v4 v5 v6 v7 v8 v9 v11_2 v12_4 v13_6 v15_8 true μ17)
            else
              g_L_law_462 N M B SA v1 v2 v3 v4 v5 v6 v7 v8 v9 v11_2 v12_4 v13_6 v15_8 μ17)
          else
            g_L_law_462 N M B SA v1 v2 v3 v4 v5 v6 v7 v8 v9 v11_2 v12_4 v13_6 v15_8 μ14)
        else
          g_L_law_462 N M B SA v1 v2 v3 v4 v5 v6 v7 v8 v9 v11_2 v12_4 v13_6 v15_8 μ11)
      else
        g_L_law_462 N M B SA v1 v2 v3 v4 v5 v6 v7 v8 v9 v11_2 v12_4 v13_6 v15_8 μ)
    else
      obd (jaI μ.1 v1 (v11 + (1 : Int32))) fun x18 =>
      if (2 : Int32) ≤ (x18 &&& (7 : Int32)) then (
        if (x18 &&& (7 : Int32)) = (2 : Int32) then (
          g_L_law_166 N M B SA (g_L_law_94 N M B SA n) v1 v2 v3 v4 v5 v6 v7 v8 v9 v10 v11 x18 (5 : Int32) v11 v4 μ)
        else
          if (x18 &&& (7 : Int32)) = (3 : Int32) then (
            g_L_law_166 N M B SA (g_L_law_94 N M B SA n) v1 v2 v3 v4 v5 v6 v7 v8 v9 v10 v11 x18 (6 : Int32) v11 v4 μ)
          else
            if (x18 &&& (7 : Int32)) = (4 : Int32) then (
              g_L_law_166 N M B SA (g_L_law_94 N M B SA n) v1 v2 v3 v4 v5 v6 v7 v8 v9 v10 v11 x18 (8 : Int32) v11 v4 μ)
            else
              g_L_law_166 N M B SA (g_L_law_94 N M B SA n) v1 v2 v3 v4 v5 v6 v7 v8 v9 v10 v11 x18 ((4 : Int32) + (x18 &&& (7 : Int32))) v11 v4 μ)
      else
        g_L_law_166 N M B SA (g_L_law_94 N M B SA n) v1 v2 v3 v4 v5 v6 v7 v8 v9 v10 v11 x18 (x18 &&& (7 : Int32)) v11 v4 μ
set_option maxRecDepth 10000 in
def g_L_law_89 (N : Nat) (M : Nat) (B : Nat) (SA : Nat → Nat) (v1 : Nat) (v2 : Nat) (v3 : Int32) (v4 : Nat) (v5 : Nat) (v6 : Nat) (v7 : Nat) (v8 : Nat) (v9 : Nat) (s0 : Bool)  (μ : JMem) : Option (Bool × JMem) :=
  g_L_law_94 N M B SA N v1 v2 v3 v4 v5 v6 v7 v8 v9 s0 (0 : Int32) μ
set_option maxRecDepth 10000 in
def g_L_law_31 (N : Nat) (M : Nat) (B : Nat) (SA : Nat → Nat) (v1 : Nat)  (μ : JMem) : Option (Bool × JMem) :=
  jnew 0 μ fun a1 μ2 =>
  obd (g_B_init B a1 μ2) fun μ3 =>
  obd (jaI μ3.1 v1 (0 : Int32)) fun x4 =>
  jlet ((1 : Int32) + (x4 &&& (3 : Int32))) fun (v3_5 : Int32) =>
  jbd2 (jnA .int (4 : Int32) μ3) fun a6 μ7 =>
  jbd2 (jnA .int (4 : Int32) μ7) fun a8 μ9 =>
  jbd2 (jnA .int (4 : Int32) μ9) fun a10 μ11 =>
  jbd2 (jnA .int (4 : Int32) μ11) fun a12 μ13 =>
  jbd2 (jnA .long (4 : Int32) μ13) fun a14 μ15 =>
  jbd2 (jnA .long (4 : Int32) μ15) fun a16 μ17 =>
  jgd (jobC 0 (μ17.1 a1)) <|
  jbd2 (g_B_chain B a1 μ17) fun x19 μ20 =>
  if x19 = 0 then (
    g_L_law_89 N M B SA v1 a1 v3_5 a6 a8 a10 a12 a14 a16 true μ20)
  else
    g_L_law_89 N M B SA v1 a1 v3_5 a6 a8 a10 a12 a14 a16 false μ20
set_option maxRecDepth 10000 in
def g_L_law_7 (N : Nat) (M : Nat) (B : Nat) (SA : Nat → Nat) : Nat → Option Nat → Nat → Int32 → JMem → Option (Bool × JMem)
  | 0, _, _, _, _ => none
  | n + 1, v0, v1, v2, μ =>
    if (60 : Int32) ≤ v2 then (
      g_L_law_31 N M B SA v1 μ)
    else
      obd v0 fun a1 =>
      obd (jal μ.1 a1) fun x2 =>
      if x2 ≤ v2 then (
        g_L_law_31 N M B SA v1 μ)
      else
        obd (jaI μ.1 a1 v2) fun x3 =>
        obd (jpA B .int v1 v2 (.int x3) μ) fun μ4 =>
        g_L_law_7 N M B SA n (some a1) v1 (v2 + 1) μ4
set_option maxRecDepth 10000 in
def g_L_law (N : Nat) (M : Nat) (B : Nat) (SA : Nat → Nat) (v0 : Option Nat)  (μ : JMem) : Option (Bool × JMem) :=
  jbd2 (jnA .int (60 : Int32) μ) fun a1 μ2 =>
  g_L_law_7 N M B SA N v0 a1 (0 : Int32) μ2
