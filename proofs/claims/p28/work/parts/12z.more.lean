/-! functions without memory that whole's texts name (out of whole's part 12) -/
set_option maxRecDepth 10000 in
def g_JMath_floorDiv (v0 : Int64) (v2 : Int64)  : Option Int64 :=
  obd (jdivL v0 v2) fun x1 =>
  if (0 : Int64) ≤ (v0 ^^^ v2) then (
    some x1)
  else
    if (x1 * v2) = v0 then (
      some x1)
    else
      some (x1 - (1 : Int64))
set_option maxRecDepth 10000 in
def g_Shorts_quotient_93 (v9 : Int64)  : Option Int64 :=
  some (v9 + (1 : Int64))
set_option maxRecDepth 10000 in
def g_Shorts_quotient_30 (v5 : Int64) (s0 : Int32) (s1 : Int64)  : Option Int64 :=
  if v5 = (0 : Int64) then (
    some (1099511627776 : Int64))
  else
    obd (g_JMath_floorDiv (s1 * (Int32.toInt64 s0)) v5) fun x1 =>
    jlet (((s1 * (Int32.toInt64 s0)) - (x1 * v5)) * (2 : Int64)) fun (v11_2 : Int64) =>
    if v5 < v11_2 then (
      g_Shorts_quotient_93 x1)
    else
      if v11_2 = v5 then (
        if (x1 &&& (1 : Int64)) = (1 : Int64) then (
          g_Shorts_quotient_93 x1)
        else
          some x1)
      else
        some x1
set_option maxRecDepth 10000 in
def g_Shorts_quotient_19 (v3 : Bool) (v5 : Int64) (s0 : Int64)  : Option Int64 :=
  if v3 = true then (
    g_Shorts_quotient_30 v5 (1 : Int32) s0)
  else
    g_Shorts_quotient_30 v5 (16384 : Int32) s0
set_option maxRecDepth 10000 in
def g_Shorts_quotient_e (v1 : Int32) (v2 : Int32) (v3 : Bool)  : Option Int64 :=
  jlet (g_JMath_abs (Int32.toInt64 v2)) fun (v5_1 : Int64) =>
  if 0 ≤ v2 then (
    g_Shorts_quotient_19 v3 v5_1 (Int32.toInt64 v1))
  else
    g_Shorts_quotient_19 v3 v5_1 (-(Int32.toInt64 v1))
set_option maxRecDepth 10000 in
def g_Shorts_quotient (v0 : Nat) (v1 : Int32) (v2 : Int32) (v3 : Bool) (v4 : Option Nat)  : Option Int64 := g_Shorts_quotient_e  v1 v2 v3
set_option maxRecDepth 10000 in
def g_Shorts_sample_e (v1 : Int32)  : Int64 :=
  (Int32.toInt64 v1)
set_option maxRecDepth 10000 in
def g_Shorts_sample (v0 : Nat) (v1 : Int32)  : Int64 := g_Shorts_sample_e  v1
set_option maxRecDepth 10000 in
def g_JMath_max (v0 : Int32) (v1 : Int32)  : Int32 :=
  if v0 < v1 then (
    v1)
  else
    v0
set_option maxRecDepth 10000 in
def g_B_judged (v0 : Int32)  : Int32 :=
  if v0 ≤ 0 then (
    if v0 = 0 then (
      (2 : Int32))
    else
      (0 : Int32))
  else
    (1 : Int32)
set_option maxRecDepth 10000 in
def g_JMath_min (v0 : Int32) (v1 : Int32)  : Int32 :=
  if v1 < v0 then (
    v1)
  else
    v0
set_option maxRecDepth 10000 in
def g_R_in (v0 : Int32) (v1 : Int32) (v2 : Int32)  : Bool :=
  if v0 < v1 then (
    false)
  else
    if v2 < v0 then (
      false)
    else
      true
set_option maxRecDepth 10000 in
def g_R_isLength_12 (v1 : Int32)  : Bool :=
  (g_R_in v1 (1 : Int32) (64 : Int32))
set_option maxRecDepth 10000 in
def g_R_isLength_55  : Bool :=
  true
set_option maxRecDepth 10000 in
def g_R_isLength (v0 : Int32) (v1 : Int32)  : Bool :=
  if v0 = (6 : Int32) then (
    g_R_isLength_12 v1)
  else
    if v0 = (8 : Int32) then (
      g_R_isLength_12 v1)
    else
      if v0 = (7 : Int32) then (
        (g_R_in v1 (1 : Int32) (32 : Int32)))
      else
        if (g_R_in v0 (12 : Int32) (14 : Int32)) = true then (
          if (g_R_in v1 (2 : Int32) (8 : Int32)) = true then (
            g_R_isLength_55)
          else
            false)
        else
          g_R_isLength_55
set_option maxRecDepth 10000 in
def g_R_coefficientsOf (v0 : Int32)  : Int32 :=
  if v0 = 1 then (
    (2 : Int32))
  else
  if v0 = 2 then (
    (5 : Int32))
  else
  if v0 = 3 then (
    (5 : Int32))
  else
  if v0 = 4 then (
    (5 : Int32))
  else
  if v0 = 5 then (
    (1 : Int32))
  else
  if v0 = 6 then (
    (0 : Int32))
  else
  if v0 = 7 then (
    (1 : Int32))
  else
  if v0 = 8 then (
    (1 : Int32))
  else
  if v0 = 9 then (
    (1 : Int32))
  else
  if v0 = 10 then (
    (1 : Int32))
  else
  if v0 = 11 then (
    (1 : Int32))
  else
  if v0 = 12 then (
    (0 : Int32))
  else
  if v0 = 13 then (
    (0 : Int32))
  else
  if v0 = 14 then (
    (0 : Int32))
  else
  if v0 = 15 then (
    (2 : Int32))
  else
  (1 : Int32)
set_option maxRecDepth 10000 in
def g_R_isValue_47  : Bool :=
  true
set_option maxRecDepth 10000 in
def g_R_isValue (v0 : Int32) (v1 : Int64)  : Bool :=
  if v0 = (2 : Int32) then (
    if v1 < (-32768 : Int64) then (
      false)
    else
      if (32767 : Int64) < v1 then (
        false)
      else
        true)
  else
    if v0 = 0 then (
      g_R_isValue_47)
    else
      if v1 < (-2147483648 : Int64) then (
        false)
      else
        if (2147483647 : Int64) < v1 then (
          false)
        else
          g_R_isValue_47
set_option maxRecDepth 10000 in
def g_R_valueOf (v0 : Int32) (v1 : Int64)  : Option UInt64 :=
  if v0 = 0 then (
    if (v1 &&& (9223372036854775807 : Int64)) ≤ (9218868437227405312 : Int64) then (
      obd (jl2d v1) fun x1 =>
      some x1)
    else
      some (0x7ff8000000000000 : UInt64))
  else
    if v0 = (1 : Int32) then (
      if ((Int64.toInt32 v1) &&& (2147483647 : Int32)) ≤ (2139095040 : Int32) then (
        obd (ji2f (Int64.toInt32 v1)) fun x2 =>
        obd (jnD (FP.f2d x2)) fun x3 =>
        some x3)
      else
        some (0x7ff8000000000000 : UInt64))
    else
      some (FP.l2d v1)
set_option maxRecDepth 10000 in
def g_R_floor (v0 : Int64) (v2 : Int64)  : Option Int64 :=
  obd (jdivL v0 v2) fun x1 =>
  obd (jremL v0 v2) fun x2 =>
  if (0 : Int64) ≤ x2 then (
    some x1)
  else
    some (x1 - (1 : Int64))
set_option maxRecDepth 10000 in
def g_R_isPlain_12  : Bool :=
  true
set_option maxRecDepth 10000 in
def g_R_isPlain (v0 : Int32)  : Bool :=
  if v0 = (9 : Int32) then (
    g_R_isPlain_12)
  else
    if v0 = (10 : Int32) then (
      g_R_isPlain_12)
    else
      false
set_option maxRecDepth 10000 in
def g_R_cut (v0 : Int64) (v2 : Int32)  : UInt64 :=
  if v2 = (1 : Int32) then (
    (FP.i2d (Int16.toInt32 (Int32.toInt16 (Int64.toInt32 v0)))))
  else
    if v0 ≤ (32767 : Int64) then (
      if (-32768 : Int64) ≤ v0 then (
        (FP.l2d v0))
      else
        (0xc0e0000000000000 : UInt64))
    else
      (0x40dfffc000000000 : UInt64)
set_option maxRecDepth 10000 in
def g_R_isEndless_16  : Bool :=
  true
set_option maxRecDepth 10000 in
def g_R_isEndless (v0 : UInt64)  : Bool :=
  if (Op.cmpValue (FP.dcmp v0 (0x7ff0000000000000 : UInt64)) .l) = 0 then (
    g_R_isEndless_16)
  else
    if (Op.cmpValue (FP.dcmp v0 (0xfff0000000000000 : UInt64)) .l) = 0 then (
      g_R_isEndless_16)
    else
      false
set_option maxRecDepth 10000 in
def g_R_sizeOf_19 (s0 : Int64)  : Option UInt64 :=
  some (g_R_cut s0 (0 : Int32))
set_option maxRecDepth 10000 in
def g_R_sizeOf_e (v1 : Int32) (v2 : UInt64)  : Option UInt64 :=
  if v1 = (2 : Int32) then (
    if 0 ≤ (Op.cmpValue (FP.dcmp v2 (0 : UInt64)) .g) then (
      g_R_sizeOf_19 (FP.d2l v2))
    else
      g_R_sizeOf_19 (-(FP.d2l v2)))
  else
    if 0 < (Op.cmpValue (FP.dcmp v2 (0 : UInt64)) .g) then (
      some v2)
    else
      obd (jnD (FP.dsub (0 : UInt64) v2)) fun x1 =>
      some x1
set_option maxRecDepth 10000 in
def g_R_sizeOf (v0 : Nat) (v1 : Int32) (v2 : UInt64)  : Option UInt64 := g_R_sizeOf_e  v1 v2
set_option maxRecDepth 10000 in
def g_JDouble_isNaN (v0 : UInt64)  : Bool :=
  if (Op.cmpValue (FP.dcmp v0 v0) .l) = 0 then (
    false)
  else
    true
set_option maxRecDepth 10000 in
def g_JDouble_doubleToLongBits (v0 : UInt64)  : Int64 :=
  if (g_JDouble_isNaN v0) = true then (
    (9221120237041090560 : Int64))
  else
    (UInt64.toInt64 v0)
set_option maxRecDepth 10000 in
def g_JFloat_isNaN (v0 : UInt32)  : Bool :=
  if (Op.cmpValue (FP.fcmp v0 v0) .l) = 0 then (
    false)
  else
    true
set_option maxRecDepth 10000 in
def g_JFloat_floatToIntBits (v0 : UInt32)  : Int32 :=
  if (g_JFloat_isNaN v0) = true then (
    (2143289344 : Int32))
  else
    (UInt32.toInt32 v0)
set_option maxRecDepth 10000 in
def g_R_bitsOf (v0 : Int32) (v1 : UInt64)  : Option Int64 :=
  if (Op.cmpValue (FP.dcmp v1 v1) .l) = 0 then (
    if v0 = 0 then (
      some (g_JDouble_doubleToLongBits v1))
    else
      if v0 = (1 : Int32) then (
        obd (jnF (FP.d2f v1)) fun x1 =>
        some (Int32.toInt64 (g_JFloat_floatToIntBits x1)))
      else
        some (FP.d2l v1))
  else
    if v0 = 0 then (
      some (9221120237041090560 : Int64))
    else
      some (2143289344 : Int64)
set_option maxRecDepth 10000 in
def g_R_against (v0 : UInt64) (v2 : UInt64)  : Option Int32 :=
  obd (jnD (FP.dadd (0x3ff0000000000000 : UInt64) v2)) fun x1 =>
  if (Op.cmpValue (FP.dcmp v0 x1) .l) = 0 then (
    obd (jnD (FP.dsub x1 (0x3ff0000000000000 : UInt64))) fun x2 =>
    obd (jnD (FP.dsub x1 x2)) fun x3 =>
    obd (jnD (FP.dsub (0x3ff0000000000000 : UInt64) x3)) fun x4 =>
    obd (jnD (FP.dsub v2 x2)) fun x5 =>
    obd (jnD (FP.dadd x4 x5)) fun x6 =>
    if (Op.cmpValue (FP.dcmp x6 (0 : UInt64)) .l) ≤ 0 then (
      if 0 ≤ (Op.cmpValue (FP.dcmp x6 (0 : UInt64)) .g) then (
        some (0 : Int32))
      else
        some (1 : Int32))
    else
      some (-1 : Int32))
  else
    if 0 ≤ (Op.cmpValue (FP.dcmp v0 x1) .g) then (
      some (1 : Int32))
    else
      some (-1 : Int32)
set_option maxRecDepth 10000 in
def g_R_isFinite (v0 : UInt64)  : Bool :=
  if (Op.cmpValue (FP.dcmp v0 (0xfff0000000000000 : UInt64)) .l) ≤ 0 then (
    false)
  else
    if 0 ≤ (Op.cmpValue (FP.dcmp v0 (0x7ff0000000000000 : UInt64)) .g) then (
      false)
    else
      true
set_option maxRecDepth 10000 in
def g_R_turned_172 (v9 : UInt64)  : Option UInt64 :=
  if (Op.cmpValue (FP.dcmp v9 (0xc0e0000000000000 : UInt64)) .l) < 0 then (
    some (0x40e3880000000000 : UInt64))
  else
    if 0 < (Op.cmpValue (FP.dcmp v9 (0x40dfffc000000000 : UInt64)) .g) then (
      some (0x40e3880000000000 : UInt64))
    else
      obd (jnD (FP.dadd v9 (0 : UInt64))) fun x1 =>
      some x1
set_option maxRecDepth 10000 in
def g_R_turned_166 (v9 : UInt64)  : Option UInt64 :=
  obd (jnD (FP.dadd v9 (0x3ff0000000000000 : UInt64))) fun x1 =>
  g_R_turned_172 x1
set_option maxRecDepth 10000 in
def g_R_turned_141 (v9 : UInt64) (v11 : UInt64) (s0 : Bool)  : Option UInt64 :=
  if 0 < (Op.cmpValue (FP.dcmp v11 (0x3fe0000000000000 : UInt64)) .l) then (
    g_R_turned_166 v9)
  else
    if (Op.cmpValue (FP.dcmp v11 (0x3fe0000000000000 : UInt64)) .l) = 0 then (
      if s0 = true then (
        g_R_turned_166 v9)
      else
        g_R_turned_172 v9)
    else
      g_R_turned_172 v9
set_option maxRecDepth 10000 in
def g_R_turned_119 (v7 : UInt64) (v9 : UInt64)  : Option UInt64 :=
  obd (jnD (FP.dsub v7 v9)) fun x1 =>
  if ((FP.d2l v9) &&& (1 : Int64)) = (1 : Int64) then (
    g_R_turned_141 v9 x1 true)
  else
    g_R_turned_141 v9 x1 false
set_option maxRecDepth 10000 in
def g_R_turned_75 (s0 : UInt64)  : Option UInt64 :=
  if (Op.cmpValue (FP.dcmp s0 (0xc0e3880000000000 : UInt64)) .l) ≤ 0 then (
    some (0x40e3880000000000 : UInt64))
  else
    if (Op.cmpValue (FP.dcmp s0 (0x40e3880000000000 : UInt64)) .g) < 0 then (
      if (Op.cmpValue (FP.dcmp (FP.l2d (FP.d2l s0)) s0) .l) ≤ 0 then (
        g_R_turned_119 s0 (FP.l2d (FP.d2l s0)))
      else
        obd (jnD (FP.dsub (FP.l2d (FP.d2l s0)) (0x3ff0000000000000 : UInt64))) fun x1 =>
        g_R_turned_119 s0 x1)
    else
      some (0x40e3880000000000 : UInt64)
set_option maxRecDepth 10000 in
def g_R_turned_40 (v3 : Int32) (v4 : Bool) (s0 : UInt64)  : Option UInt64 :=
  if v3 = 0 then (
    some s0)
  else
    if v3 = (1 : Int32) then (
      obd (jnF (FP.d2f s0)) fun x1 =>
      obd (jnD (FP.f2d x1)) fun x2 =>
      some x2)
    else
      if v4 = true then (
        g_R_turned_75 s0)
      else
        obd (jnD (FP.dmul (0x40d0000000000000 : UInt64) s0)) fun x3 =>
        g_R_turned_75 x3
set_option maxRecDepth 10000 in
def g_R_turned_39 (v0 : UInt64) (v3 : Int32) (v4 : Bool)  : Option UInt64 :=
  g_R_turned_40 v3 v4 v0
set_option maxRecDepth 10000 in
def g_R_turned (v0 : UInt64) (v2 : Int32) (v3 : Int32) (v4 : Bool)  : Option UInt64 :=
  if (Op.cmpValue (FP.dcmp v0 v0) .l) = 0 then (
    if v2 = (2 : Int32) then (
      if v4 = true then (
        g_R_turned_39 v0 v3 v4)
      else
        obd (jnD (FP.ddiv v0 (0x40d0000000000000 : UInt64))) fun x1 =>
        g_R_turned_40 v3 v4 x1)
    else
      g_R_turned_39 v0 v3 v4)
  else
    if v3 = (2 : Int32) then (
      some (0x40e3880000000000 : UInt64))
    else
      some (0x7ff8000000000000 : UInt64)
