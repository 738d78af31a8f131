/-! the class's methods as functions of a typed heap (printed by wip/whole/cls.py) -/
set_option maxRecDepth 10000 in
def c_DeadCycles_init (v0 : Nat) (C : CT) : Option CT :=
  some C
set_option maxRecDepth 10000 in
def c_Numbers_init (v0 : Nat) (C : CT) : Option CT :=
  some C
set_option maxRecDepth 10000 in
def c_Real_init (v0 : Nat) (v1 : Int32) (v2 : Int32) (C : CT) : Option CT :=
  obd (c_Numbers_init v0 C) fun C1 =>
  obd (cpI C1 v0 5 0 v1) fun C2 =>
  obd (cpJ C2 v0 5 1 ((1 : Int64) <<< (Int32.toInt64 v1 &&& 63))) fun C3 =>
  obd (cpI C3 v0 5 2 (((1 : Int32) <<< (v2 &&& 31)) - (1 : Int32))) fun C4 =>
  obd (cgI C4 v0 5 2) fun x5 =>
  obd (cpI C4 v0 5 3 (x5 >>> ((1 : Int32) &&& 31))) fun C6 =>
  obd (cpJ C6 v0 5 4 ((-1 : Int64) <<< (Int32.toInt64 (v1 + v2) &&& 63))) fun C7 =>
  obd (cgI C7 v0 5 2) fun x8 =>
  obd (cpJ C7 v0 5 5 ((Int32.toInt64 x8) <<< (Int32.toInt64 v1 &&& 63))) fun C9 =>
  obd (cgJ C9 v0 5 5) fun x10 =>
  obd (cgJ C9 v0 5 1) fun x11 =>
  obd (cpJ C9 v0 5 6 (x10 ||| (x11 >>> (Int32.toInt64 (1 : Int32) &&& 63)))) fun C12 =>
  some C12
set_option maxRecDepth 10000 in
def c_Shorts_init (v0 : Nat) (C : CT) : Option CT :=
  obd (c_Numbers_init v0 C) fun C1 =>
  some C1
set_option maxRecDepth 10000 in
def c_B_init (v0 : Nat) (C : CT) : Option CT :=
  cnew 5 C fun a1 C2 =>
  obd (c_Real_init a1 (52 : Int32) (11 : Int32) C2) fun C3 =>
  obd (cpA C3 v0 0 0 (some a1)) fun C4 =>
  cnew 5 C4 fun a5 C6 =>
  obd (c_Real_init a5 (23 : Int32) (8 : Int32) C6) fun C7 =>
  obd (cpA C7 v0 0 1 (some a5)) fun C8 =>
  cnew 8 C8 fun a9 C10 =>
  obd (c_Shorts_init a9 C10) fun C11 =>
  obd (cpA C11 v0 0 2 (some a9)) fun C12 =>
  cbd2 (cnR 7 (60 : Int32) C12) fun a13 C14 =>
  obd (cpA C14 v0 0 3 (some a13)) fun C15 =>
  cbd2 (cnR 1 (20 : Int32) C15) fun a16 C17 =>
  obd (cpA C17 v0 0 5 (some a16)) fun C18 =>
  cbd2 (cnR 3 (8 : Int32) C18) fun a19 C20 =>
  obd (cpA C20 v0 0 7 (some a19)) fun C21 =>
  cbd2 (cnR 1 (20 : Int32) C21) fun a22 C23 =>
  obd (cpA C23 v0 0 9 (some a22)) fun C24 =>
  cnew 2 C24 fun a25 C26 =>
  obd (c_DeadCycles_init a25 C26) fun C27 =>
  obd (cpA C27 v0 0 10 (some a25)) fun C28 =>
  some C28
set_option maxRecDepth 10000 in
def c_B_fitsKind_48 (C : CT) : Option (Bool) :=
  some true
set_option maxRecDepth 10000 in
def c_B_fitsKind (v0 : Int32) (v1 : Int32) (C : CT) : Option (Bool) :=
  if v0 < 0 then (
    some false)
  else
    obd (jsl 3) fun x1 =>
    if x1 ≤ v0 then (
      some false)
    else
      obd (jsl 2) fun x2 =>
      if v0 < x2 then (
        obd (jsr 3 v0) fun x3 =>
        if x3 = 0 then (
          c_B_fitsKind_48 C)
        else
          obd (jsr 2 v0) fun x4 =>
          if v1 < x4 then (
            some false)
          else
            obd (jsr 3 v0) fun x5 =>
            if x5 < v1 then (
              some false)
            else
              c_B_fitsKind_48 C)
      else
        some false
set_option maxRecDepth 10000 in
def c_B_isKind (v0 : Int32) (C : CT) : Option (Bool) :=
  if v0 < 0 then (
    some false)
  else
    obd (jsl 0) fun x1 =>
    if x1 ≤ v0 then (
      some false)
    else
      some true
set_option maxRecDepth 10000 in
def c_Row_init_14 (s0 : Int32) (s1 : Nat) (C : CT) : Option CT :=
  cbd2 (cnJ s0 C) fun a1 C2 =>
  obd (cpA C2 s1 6 0 (some a1)) fun C3 =>
  some C3
set_option maxRecDepth 10000 in
def c_Row_init (v0 : Nat) (v1 : Int32) (C : CT) : Option CT :=
  if 0 ≤ v1 then (
    c_Row_init_14 v1 v0 C)
  else
    c_Row_init_14 (0 : Int32) v0 C
set_option maxRecDepth 10000 in
def c_Section_init_128 (s0 : Int32) (s1 : Nat) (s2 : Nat) (s3 : Nat) (C : CT) : Option CT :=
  obd (c_Row_init s1 s0 C) fun C1 =>
  obd (cpA C1 s3 7 6 (some s2)) fun C2 =>
  some C2
set_option maxRecDepth 10000 in
def c_Section_init_109 (v0 : Nat) (v4 : Int32) (s0 : Int32) (C : CT) : Option CT :=
  cnew 6 C fun a1 C2 =>
  if 0 ≤ s0 then (
    c_Section_init_128 s0 a1 a1 v0 C2)
  else
    c_Section_init_128 v4 a1 a1 v0 C2
set_option maxRecDepth 10000 in
def c_Section_init_100 (v0 : Nat) (v4 : Int32) (C : CT) : Option CT :=
  c_Section_init_109 v0 v4 (0 : Int32) C
set_option maxRecDepth 10000 in
def c_Section_init_83 (v0 : Nat) (v2 : Int32) (v4 : Int32) (s0 : Int32) (s1 : Nat) (C : CT) : Option CT :=
  cbd2 (cnJ s0 C) fun a1 C2 =>
  obd (cpA C2 s1 7 5 (some a1)) fun C3 =>
  if v2 < 0 then (
    c_Section_init_100 v0 v4 C3)
  else
    obd (jsl 1) fun x4 =>
    if v2 < x4 then (
      obd (jsr 1 v2) fun x5 =>
      c_Section_init_109 v0 v4 x5 C3)
    else
      c_Section_init_100 v0 v4 C3
set_option maxRecDepth 10000 in
def c_Section_init_69 (v0 : Nat) (v2 : Int32) (v4 : Int32) (s0 : Int32) (C : CT) : Option CT :=
  if 0 ≤ s0 then (
    c_Section_init_83 v0 v2 v4 s0 v0 C)
  else
    c_Section_init_83 v0 v2 v4 (0 : Int32) v0 C
set_option maxRecDepth 10000 in
def c_Section_init_60 (v0 : Nat) (v2 : Int32) (v4 : Int32) (C : CT) : Option CT :=
  c_Section_init_69 v0 v2 v4 (0 : Int32) C
set_option maxRecDepth 10000 in
def c_Section_init (v0 : Nat) (v1 : Int32) (v2 : Int32) (v3 : Int32) (v4 : Int32) (v5 : Option Nat) (C : CT) : Option CT :=
  cnew 6 C fun a1 C2 =>
  obd (c_Row_init a1 (1 : Int32) C2) fun C3 =>
  obd (cpA C3 v0 7 9 (some a1)) fun C4 =>
  obd (cpI C4 v0 7 13 (-1 : Int32)) fun C5 =>
  obd (cpI C5 v0 7 0 v1) fun C6 =>
  obd (cpI C6 v0 7 1 v2) fun C7 =>
  obd (cpI C7 v0 7 2 v3) fun C8 =>
  obd (cpI C8 v0 7 3 v4) fun C9 =>
  obd (cpA C9 v0 7 4 v5) fun C10 =>
  if v2 < 0 then (
    c_Section_init_60 v0 v2 v4 C10)
  else
    obd (jsl 0) fun x11 =>
    if v2 < x11 then (
      obd (jsr 0 v2) fun x12 =>
      c_Section_init_69 v0 v2 v4 x12 C10)
    else
      c_Section_init_60 v0 v2 v4 C10
set_option maxRecDepth 10000 in
def c_B_newSection (v0 : Nat) (v1 : Int32) (v2 : Int32) (v3 : Int32) (v4 : Option Nat) (C : CT) : Option (Option Nat × CT) :=
  obd (cgI C v0 0 4) fun x1 =>
  if x1 < 0 then (
    some (none, C))
  else
    obd (cgI C v0 0 4) fun x2 =>
    obd (cgA C v0 0 3) fun x3 =>
    obd x3 fun a4 =>
    obd (cal C a4) fun x5 =>
    if x2 < x5 then (
      cnew 7 C fun a6 C7 =>
      obd (cgI C7 v0 0 4) fun x8 =>
      obd (c_Section_init a6 x8 v1 v2 v3 v4 C7) fun C9 =>
      obd (cgA C9 v0 0 3) fun x10 =>
      obd (cgI C9 v0 0 4) fun x11 =>
      obd x10 fun a12 =>
      obd (cqA C9 a12 7 x11 a6) fun C13 =>
      obd (cgI C13 v0 0 4) fun x14 =>
      obd (cpI C13 v0 0 4 (x14 + (1 : Int32))) fun C15 =>
      some ((some a6), C15))
    else
      some (none, C)
set_option maxRecDepth 10000 in
def c_B_numbersOf (v0 : Nat) (v1 : Int32) (C : CT) : Option (Option Nat) :=
  if v1 = 0 then (
    obd (cgA C v0 0 0) fun x1 =>
    some x1)
  else
  if v1 = 1 then (
    obd (cgA C v0 0 1) fun x2 =>
    some x2)
  else
  if v1 = 2 then (
    obd (cgA C v0 0 2) fun x3 =>
    some x3)
  else
  some none
set_option maxRecDepth 10000 in
def c_B_section (v0 : Nat) (v1 : Int32) (v2 : Int32) (v3 : Int32) (C : CT) : Option (Int32 × CT) :=
  jgd (cob C v0 0) <|
  obd (c_B_numbersOf v0 v2 C) fun x1 =>
  jon x1 (
    some ((-1 : Int32), C))
  fun a2 =>
    obd (c_B_isKind v1 C) fun x3 =>
    if x3 = true then (
      obd (c_B_fitsKind v1 v3 C) fun x4 =>
      if x4 = true then (
        jgd (cob C v0 0) <|
        cbd2 (c_B_newSection v0 v1 v2 v3 (some a2) C) fun x5 C6 =>
        jon x5 (
          some ((-1 : Int32), C6))
        fun a7 =>
          obd (cgI C6 a7 7 0) fun x8 =>
          some (x8, C6))
      else
        some ((-1 : Int32), C))
    else
      some ((-1 : Int32), C)
set_option maxRecDepth 10000 in
def c_B_sectionAt_21 (C : CT) : Option (Option Nat) :=
  some none
set_option maxRecDepth 10000 in
def c_B_sectionAt (v0 : Nat) (v1 : Int32) (C : CT) : Option (Option Nat) :=
  if v1 < 0 then (
    c_B_sectionAt_21 C)
  else
    obd (cgI C v0 0 4) fun x1 =>
    if x1 ≤ v1 then (
      c_B_sectionAt_21 C)
    else
      obd (cgA C v0 0 3) fun x2 =>
      obd x2 fun a3 =>
      obd (cal C a3) fun x4 =>
      if v1 < x4 then (
        obd (cgA C v0 0 3) fun x5 =>
        obd x5 fun a6 =>
        obd (caA C a6 7 v1) fun x7 =>
        some x7)
      else
        c_B_sectionAt_21 C
set_option maxRecDepth 10000 in
def c_Real_isNumber (v0 : Nat) (v1 : Int64) (C : CT) : Option (Bool) :=
  obd (cgJ C v0 5 4) fun x1 =>
  obd (cgJ C v0 5 5) fun x2 =>
  if x2 < (v1 &&& (x1 ^^^ (-1 : Int64))) then (
    some false)
  else
    some true
set_option maxRecDepth 10000 in
def c_Real_clean (v0 : Nat) (v1 : Int64) (C : CT) : Option (Int64) :=
  jgd (cob C v0 5) <|
  obd (c_Real_isNumber v0 v1 C) fun x1 =>
  if x1 = true then (
    some v1)
  else
    obd (cgJ C v0 5 6) fun x2 =>
    some x2
set_option maxRecDepth 10000 in
def c_Real_holds_17 (C : CT) : Option (Bool) :=
  some true
set_option maxRecDepth 10000 in
def c_Real_holds (v0 : Nat) (v1 : Int64) (C : CT) : Option (Bool) :=
  obd (cgI C v0 5 0) fun x1 =>
  if x1 = (52 : Int32) then (
    c_Real_holds_17 C)
  else
    if v1 = (Int32.toInt64 (Int64.toInt32 v1)) then (
      c_Real_holds_17 C)
    else
      some false
set_option maxRecDepth 10000 in
def c_Section_hasFactor (v0 : Nat) (v1 : Int32) (C : CT) : Option (Bool) :=
  if v1 < 0 then (
    some false)
  else
    obd (cgA C v0 7 5) fun x1 =>
    obd x1 fun a2 =>
    obd (cal C a2) fun x3 =>
    if x3 ≤ v1 then (
      some false)
    else
      some true
set_option maxRecDepth 10000 in
def c_Section_setFactor (v0 : Nat) (v1 : Int32) (v2 : Int64) (C : CT) : Option CT :=
  if v1 < 0 then (
    some C)
  else
    obd (cgA C v0 7 5) fun x1 =>
    obd x1 fun a2 =>
    obd (cal C a2) fun x3 =>
    if x3 ≤ v1 then (
      some C)
    else
      obd (cgA C v0 7 5) fun x4 =>
      obd x4 fun a5 =>
      obd (cqJ C a5 v1 v2) fun C6 =>
      some C6
set_option maxRecDepth 10000 in
def c_B_coefficient (v0 : Nat) (v1 : Int32) (v2 : Int32) (v3 : Int64) (C : CT) : Option (Bool × CT) :=
  jgd (cob C v0 0) <|
  obd (c_B_sectionAt v0 v1 C) fun x1 =>
  jon x1 (
    some (false, C))
  fun a2 =>
    jgd (cob C a2 7) <|
    obd (c_Section_hasFactor a2 v2 C) fun x3 =>
    if x3 = true then (
      obd (cgA C a2 7 4) fun x4 =>
      obd x4 fun a5 =>
      obd (if cob C a5 5 = true then c_Real_holds a5 v3 C else jgd (cob C a5 8) (some (g_Shorts_holds a5 v3))) fun x6 =>
      if x6 = true then (
        obd (cgA C a2 7 4) fun x7 =>
        obd x7 fun a8 =>
        obd (if cob C a8 5 = true then c_Real_clean a8 v3 C else jgd (cob C a8 8) (some (g_Shorts_clean a8 v3))) fun x9 =>
        jgd (cob C a2 7) <|
        obd (c_Section_setFactor a2 v2 x9 C) fun C10 =>
        some (true, C10))
      else
        some (false, C))
    else
      some (false, C)
set_option maxRecDepth 10000 in
def c_Real_signed (v0 : Nat) (v1 : Bool) (v2 : Int64) (C : CT) : Option (Int64) :=
  if v1 = true then (
    obd (cgJ C v0 5 4) fun x1 =>
    some (v2 ||| x1))
  else
    some v2
set_option maxRecDepth 10000 in
def c_Real_packed_66 (v0 : Nat) (v1 : Bool) (v3 : Int64) (v5 : Int32) (v6 : Int32) (v7 : Int32) (C : CT) : Option (Int64) :=
  obd (cgI C v0 5 0) fun x1 =>
  jlet (((Int32.toInt64 (v6 - (1 : Int32))) <<< (Int32.toInt64 x1 &&& 63)) + (g_Numbers_halfEven (v3 <<< (Int32.toInt64 v5 &&& 63)) v7)) fun (v8_2 : Int64) =>
  jgd (cob C v0 5) <|
  obd (c_Real_signed v0 v1 v8_2 C) fun x3 =>
  some x3
set_option maxRecDepth 10000 in
def c_Real_packed (v0 : Nat) (v1 : Bool) (v2 : Int32) (v3 : Int64) (C : CT) : Option (Int64) :=
  obd (cgI C v0 5 3) fun x1 =>
  jlet (((v2 - (g_Real_lead v3)) + (62 : Int32)) + x1) fun (v6_2 : Int32) =>
  obd (cgI C v0 5 2) fun x3 =>
  if v6_2 < x3 then (
    obd (cgI C v0 5 0) fun x4 =>
    if (1 : Int32) ≤ v6_2 then (
      c_Real_packed_66 v0 v1 v3 (g_Real_lead v3) v6_2 ((62 : Int32) - x4) C)
    else
      jlet (((62 : Int32) - x4) + ((1 : Int32) - v6_2)) fun (v7_5 : Int32) =>
      c_Real_packed_66 v0 v1 v3 (g_Real_lead v3) (1 : Int32) v7_5 C)
  else
    obd (cgJ C v0 5 5) fun x6 =>
    jgd (cob C v0 5) <|
    obd (c_Real_signed v0 v1 x6 C) fun x7 =>
    some x7
set_option maxRecDepth 10000 in
def c_Real_divided_78 (v0 : Nat) (v3 : Bool) (C : CT) : Option (Int64) :=
  jgd (cob C v0 5) <|
  obd (c_Real_signed v0 v3 (0 : Int64) C) fun x1 =>
  some x1
set_option maxRecDepth 10000 in
def c_Real_divided_150 (s0 : Int64) (s1 : Int32) (s2 : Bool) (s3 : Nat) (C : CT) : Option (Int64) :=
  jgd (cob C s3 5) <|
  obd (c_Real_packed s3 s2 s1 s0 C) fun x1 =>
  some x1
set_option maxRecDepth 10000 in
def c_Real_divided_26 (v0 : Nat) (v1 : Int32) (v2 : Int32) (s0 : Bool) (C : CT) : Option (Int64) :=
  jlet (g_JMath_abs (Int32.toInt64 v1)) fun (v4_1 : Int64) =>
  jlet ((g_Real_lead (g_JMath_abs (Int32.toInt64 v2))) - (31 : Int32)) fun (v7_2 : Int32) =>
  jlet ((g_JMath_abs (Int32.toInt64 v2)) <<< (Int32.toInt64 v7_2 &&& 63)) fun (v8_3 : Int64) =>
  if v4_1 = (0 : Int64) then (
    c_Real_divided_78 v0 s0 C)
  else
    if v8_3 = (0 : Int64) then (
      c_Real_divided_78 v0 s0 C)
    else
      obd (jdivL (v4_1 <<< (Int32.toInt64 (g_Real_lead v4_1) &&& 63)) v8_3) fun x4 =>
      obd (jremL (v4_1 <<< (Int32.toInt64 (g_Real_lead v4_1) &&& 63)) v8_3) fun x5 =>
      jlet (x5 <<< (Int32.toInt64 (30 : Int32) &&& 63)) fun (v12_6 : Int64) =>
      obd (jdivL v12_6 v8_3) fun x7 =>
      jlet ((x4 <<< (Int32.toInt64 (30 : Int32) &&& 63)) ||| x7) fun (v14_8 : Int64) =>
      obd (jremL v12_6 v8_3) fun x9 =>
      if x9 = (0 : Int64) then (
        c_Real_divided_150 v14_8 ((v7_2 - (g_Real_lead v4_1)) - (30 : Int32)) s0 v0 C)
      else
        c_Real_divided_150 (v14_8 ||| (1 : Int64)) ((v7_2 - (g_Real_lead v4_1)) - (30 : Int32)) s0 v0 C
set_option maxRecDepth 10000 in
def c_Real_divided_18 (v0 : Nat) (v1 : Int32) (v2 : Int32) (s0 : Bool) (s1 : Bool) (C : CT) : Option (Int64) :=
  if s1 = s0 then (
    c_Real_divided_26 v0 v1 v2 false C)
  else
    c_Real_divided_26 v0 v1 v2 true C
set_option maxRecDepth 10000 in
def c_Real_divided_9 (v0 : Nat) (v1 : Int32) (v2 : Int32) (s0 : Bool) (C : CT) : Option (Int64) :=
  if 0 ≤ v2 then (
    c_Real_divided_18 v0 v1 v2 false s0 C)
  else
    c_Real_divided_18 v0 v1 v2 true s0 C
set_option maxRecDepth 10000 in
def c_Real_divided (v0 : Nat) (v1 : Int32) (v2 : Int32) (C : CT) : Option (Int64) :=
  if 0 ≤ v1 then (
    c_Real_divided_9 v0 v1 v2 false C)
  else
    c_Real_divided_9 v0 v1 v2 true C
set_option maxRecDepth 10000 in
def c_Real_exponent_17 (v0 : Nat) (s0 : Int32) (C : CT) : Option (Int32) :=
  obd (cgI C v0 5 3) fun x1 =>
  obd (cgI C v0 5 0) fun x2 =>
  some ((s0 - x1) - x2)
set_option maxRecDepth 10000 in
def c_Real_exponent (v0 : Nat) (v1 : Int64) (C : CT) : Option (Int32) :=
  obd (cgI C v0 5 0) fun x1 =>
  jlet (Int64.toInt32 ((v1).toUInt64 >>> ((x1).toInt64.toUInt64 &&& Int64.toUInt64 63)).toInt64) fun (v3_2 : Int32) =>
  if v3_2 = 0 then (
    c_Real_exponent_17 v0 (1 : Int32) C)
  else
    c_Real_exponent_17 v0 v3_2 C
set_option maxRecDepth 10000 in
def c_Real_mantissa (v0 : Nat) (v1 : Int64) (C : CT) : Option (Int64) :=
  obd (cgJ C v0 5 1) fun x1 =>
  if x1 ≤ v1 then (
    obd (cgJ C v0 5 1) fun x2 =>
    obd (cgJ C v0 5 1) fun x3 =>
    some ((v1 &&& (x2 - (1 : Int64))) ||| x3))
  else
    some v1
set_option maxRecDepth 10000 in
def c_Real_sizeOf (v0 : Nat) (v1 : Int64) (C : CT) : Option (Int64) :=
  obd (cgJ C v0 5 4) fun x1 =>
  some (v1 &&& (x1 ^^^ (-1 : Int64)))
set_option maxRecDepth 10000 in
def c_Real_taken_66 (s0 : Int64) (s1 : Bool) (s2 : Nat) (C : CT) : Option (Int64) :=
  jgd (cob C s2 5) <|
  obd (c_Real_signed s2 s1 s0 C) fun x1 =>
  some x1
set_option maxRecDepth 10000 in
def c_Real_taken_51 (v0 : Nat) (v4 : Int64) (s0 : Bool) (s1 : Nat) (C : CT) : Option (Int64) :=
  if v4 = (0 : Int64) then (
    c_Real_taken_66 (0 : Int64) s0 s1 C)
  else
    obd (cgJ C v0 5 5) fun x1 =>
    c_Real_taken_66 x1 s0 s1 C
set_option maxRecDepth 10000 in
def c_Real_taken_39 (v0 : Nat) (v2 : Int64) (v4 : Int64) (C : CT) : Option (Int64) :=
  if (0 : Int64) ≤ v2 then (
    c_Real_taken_51 v0 v4 false v0 C)
  else
    c_Real_taken_51 v0 v4 true v0 C
set_option maxRecDepth 10000 in
def c_Real_taken_82 (v1 : Nat) (v4 : Int64) (s0 : Bool) (s1 : Nat) (C : CT) : Option (Int64) :=
  jgd (cob C v1 5) <|
  obd (c_Real_exponent v1 v4 C) fun x1 =>
  jgd (cob C v1 5) <|
  obd (c_Real_mantissa v1 v4 C) fun x2 =>
  jgd (cob C s1 5) <|
  obd (c_Real_packed s1 s0 x1 x2 C) fun x3 =>
  some x3
set_option maxRecDepth 10000 in
def c_Real_taken (v0 : Nat) (v1 : Option Nat) (v2 : Int64) (C : CT) : Option (Int64) :=
  obd v1 fun a1 =>
  jgd (cob C a1 5) <|
  obd (c_Real_sizeOf a1 v2 C) fun x2 =>
  obd (cgJ C a1 5 5) fun x3 =>
  if x2 ≤ x3 then (
    if x2 = (0 : Int64) then (
      c_Real_taken_39 v0 v2 x2 C)
    else
      obd (cgJ C a1 5 5) fun x4 =>
      if x2 = x4 then (
        c_Real_taken_39 v0 v2 x2 C)
      else
        if (0 : Int64) ≤ v2 then (
          c_Real_taken_82 a1 x2 false v0 C)
        else
          c_Real_taken_82 a1 x2 true v0 C)
  else
    obd (cgJ C v0 5 6) fun x5 =>
    some x5
set_option maxRecDepth 10000 in
def c_Real_quotient_e (v0 : Nat) (v1 : Int32) (v2 : Int32) (v4 : Option Nat) (C : CT) : Option (Int64) :=
  obd v4 fun a1 =>
  jgd (cob C a1 5) <|
  obd (c_Real_divided a1 v1 v2 C) fun x2 =>
  jgd (cob C v0 5) <|
  obd (c_Real_taken v0 (some a1) x2 C) fun x3 =>
  some x3
set_option maxRecDepth 10000 in
def c_Real_quotient (v0 : Nat) (v1 : Int32) (v2 : Int32) (v3 : Bool) (v4 : Option Nat) (C : CT) : Option (Int64) := c_Real_quotient_e v0 v1 v2 v4 C
set_option maxRecDepth 10000 in
def c_Section_takesWhole_18 (C : CT) : Option (Bool) :=
  some true
set_option maxRecDepth 10000 in
def c_Section_takesWhole (v0 : Nat) (C : CT) : Option (Bool) :=
  obd (cgI C v0 7 1) fun x1 =>
  if x1 = (9 : Int32) then (
    c_Section_takesWhole_18 C)
  else
    obd (cgI C v0 7 1) fun x2 =>
    if x2 = (10 : Int32) then (
      c_Section_takesWhole_18 C)
    else
      some false
set_option maxRecDepth 10000 in
def c_B_ratio (v0 : Nat) (v1 : Int32) (v2 : Int32) (v3 : Int32) (v4 : Int32) (C : CT) : Option (Bool × CT) :=
  jgd (cob C v0 0) <|
  obd (c_B_sectionAt v0 v1 C) fun x1 =>
  jon x1 (
    some (false, C))
  fun a2 =>
    jgd (cob C a2 7) <|
    obd (c_Section_hasFactor a2 v2 C) fun x3 =>
    if x3 = true then (
      if v4 = 0 then (
        some (false, C))
      else
        obd (cgA C a2 7 4) fun x4 =>
        jgd (cob C a2 7) <|
        obd (c_Section_takesWhole a2 C) fun x5 =>
        obd (cgA C v0 0 0) fun x6 =>
        obd x4 fun a7 =>
        obd (if cob C a7 5 = true then c_Real_quotient a7 v3 v4 x5 x6 C else jgd (cob C a7 8) (g_Shorts_quotient a7 v3 v4 x5 x6)) fun x8 =>
        obd (cgA C a2 7 4) fun x9 =>
        obd x9 fun a10 =>
        obd (if cob C a10 5 = true then c_Real_holds a10 x8 C else jgd (cob C a10 8) (some (g_Shorts_holds a10 x8))) fun x11 =>
        if x11 = true then (
          jgd (cob C a2 7) <|
          obd (c_Section_setFactor a2 v2 x8 C) fun C12 =>
          some (true, C12))
        else
          some (false, C))
    else
      some (false, C)
set_option maxRecDepth 10000 in
def c_B_rule (v0 : Nat) (v1 : Int32) (v2 : Int32) (v3 : Int32) (C : CT) : Option (Bool × CT) :=
  jgd (cob C v0 0) <|
  obd (c_B_sectionAt v0 v1 C) fun x1 =>
  jon x1 (
    some (false, C))
  fun a2 =>
    obd (cgI C a2 7 2) fun x3 =>
    if x3 = (2 : Int32) then (
      if v2 < 0 then (
        some (false, C))
      else
        if (2 : Int32) < v2 then (
          some (false, C))
        else
          if v3 < 0 then (
            some (false, C))
          else
            if v3 ≤ (1 : Int32) then (
              obd (cpI C a2 7 7 v2) fun C4 =>
              obd (cpI C4 a2 7 8 v3) fun C5 =>
              some (true, C5))
            else
              some (false, C))
    else
      some (false, C)
set_option maxRecDepth 10000 in
def c_Row_index (v0 : Nat) (v1 : Int32) (C : CT) : Option (Int32) :=
  obd (cgI C v0 6 1) fun x1 =>
  obd (cgA C v0 6 0) fun x2 =>
  obd x2 fun a3 =>
  obd (cal C a3) fun x4 =>
  if (x1 + v1) < x4 then (
    some (x1 + v1))
  else
    obd (cgA C v0 6 0) fun x5 =>
    obd x5 fun a6 =>
    obd (cal C a6) fun x7 =>
    some ((x1 + v1) - x7)
set_option maxRecDepth 10000 in
def c_Row_at_13 (C : CT) : Option (Int64) :=
  some (0 : Int64)
set_option maxRecDepth 10000 in
def c_Row_at (v0 : Nat) (v1 : Int32) (C : CT) : Option (Int64) :=
  if v1 < 0 then (
    c_Row_at_13 C)
  else
    obd (cgA C v0 6 0) fun x1 =>
    obd x1 fun a2 =>
    obd (cal C a2) fun x3 =>
    if v1 < x3 then (
      obd (cgA C v0 6 0) fun x4 =>
      jgd (cob C v0 6) <|
      obd (c_Row_index v0 v1 C) fun x5 =>
      obd x4 fun a6 =>
      obd (caJ C a6 x5) fun x7 =>
      some x7)
    else
      c_Row_at_13 C
set_option maxRecDepth 10000 in
def c_B_state (v0 : Nat) (v1 : Int32) (v2 : Int32) (C : CT) : Option (Int64) :=
  jgd (cob C v0 0) <|
  obd (c_B_sectionAt v0 v1 C) fun x1 =>
  jon x1 (
    some (0 : Int64))
  fun a2 =>
    if v2 = (100 : Int32) then (
      obd (cgA C a2 7 9) fun x3 =>
      obd x3 fun a4 =>
      jgd (cob C a4 6) <|
      obd (c_Row_at a4 (0 : Int32) C) fun x5 =>
      some x5)
    else
      obd (cgA C a2 7 6) fun x6 =>
      obd x6 fun a7 =>
      jgd (cob C a7 6) <|
      obd (c_Row_at a7 v2 C) fun x8 =>
      some x8
set_option maxRecDepth 10000 in
def c_B_numberOf (v0 : Option Nat) (C : CT) : Option (Int32) :=
  jon v0 (
    some (-1 : Int32))
  fun a1 =>
    obd (cgI C a1 1 0) fun x2 =>
    some x2
set_option maxRecDepth 10000 in
def c_B_about (v0 : Nat) (v1 : Int32) (v2 : Int32) (C : CT) : Option (Int32) :=
  jgd (cob C v0 0) <|
  obd (c_B_sectionAt v0 v1 C) fun x1 =>
  jon x1 (
    some (-1 : Int32))
  fun a2 =>
    if v2 = 0 then (
      obd (cgI C a2 7 1) fun x3 =>
      some x3)
    else
    if v2 = 1 then (
      obd (cgI C a2 7 2) fun x4 =>
      some x4)
    else
    if v2 = 2 then (
      obd (cgI C a2 7 3) fun x5 =>
      some x5)
    else
    if v2 = 3 then (
      obd (cgA C a2 7 12) fun x6 =>
      obd (c_B_numberOf x6 C) fun x7 =>
      some x7)
    else
    if v2 = 4 then (
      obd (cgI C a2 7 13) fun x8 =>
      some x8)
    else
    if v2 = 5 then (
      obd (cgI C a2 7 10) fun x9 =>
      some x9)
    else
    if v2 = 6 then (
      obd (cgI C a2 7 11) fun x10 =>
      some x10)
    else
    if v2 = 7 then (
      obd (cgA C a2 7 14) fun x11 =>
      obd (c_B_numberOf x11 C) fun x12 =>
      some x12)
    else
    if v2 = 8 then (
      obd (cgI C a2 7 7) fun x13 =>
      some x13)
    else
    if v2 = 9 then (
      obd (cgI C a2 7 8) fun x14 =>
      some x14)
    else
    some (-1 : Int32)
set_option maxRecDepth 10000 in
def c_Section_factor_13 (C : CT) : Option (Int64) :=
  some (0 : Int64)
set_option maxRecDepth 10000 in
def c_Section_factor (v0 : Nat) (v1 : Int32) (C : CT) : Option (Int64) :=
  if v1 < 0 then (
    c_Section_factor_13 C)
  else
    obd (cgA C v0 7 5) fun x1 =>
    obd x1 fun a2 =>
    obd (cal C a2) fun x3 =>
    if v1 < x3 then (
      obd (cgA C v0 7 5) fun x4 =>
      obd x4 fun a5 =>
      obd (caJ C a5 v1) fun x6 =>
      some x6)
    else
      c_Section_factor_13 C
set_option maxRecDepth 10000 in
def c_B_told (v0 : Nat) (v1 : Int32) (v2 : Int32) (C : CT) : Option (Int64) :=
  jgd (cob C v0 0) <|
  obd (c_B_sectionAt v0 v1 C) fun x1 =>
  jon x1 (
    some (0 : Int64))
  fun a2 =>
    jgd (cob C a2 7) <|
    obd (c_Section_factor a2 v2 C) fun x3 =>
    some x3
set_option maxRecDepth 10000 in
def c_B_registered (v0 : Nat) (v1 : Option Nat) (C : CT) : Option (Int32 × CT) :=
  obd (cgI C v0 0 6) fun x1 =>
  if x1 < 0 then (
    some ((-1 : Int32), C))
  else
    obd (cgI C v0 0 6) fun x2 =>
    obd (cgA C v0 0 5) fun x3 =>
    obd x3 fun a4 =>
    obd (cal C a4) fun x5 =>
    if x2 < x5 then (
      obd (cgI C v0 0 6) fun x6 =>
      obd v1 fun a7 =>
      obd (cpI C a7 1 0 x6) fun C8 =>
      obd (cgA C8 v0 0 5) fun x9 =>
      obd (cgI C8 v0 0 6) fun x10 =>
      obd x9 fun a11 =>
      obd (cqA C8 a11 1 x10 a7) fun C12 =>
      obd (cgI C12 v0 0 6) fun x13 =>
      obd (cpI C12 v0 0 6 (x13 + (1 : Int32))) fun C14 =>
      obd (cgI C14 a7 1 0) fun x15 =>
      some (x15, C14))
    else
      some ((-1 : Int32), C)
set_option maxRecDepth 10000 in
def c_Chain_init (v0 : Nat) (C : CT) : Option CT :=
  obd (cpI C v0 1 0 (-1 : Int32)) fun C1 =>
  cbd2 (cnR 7 (10 : Int32) C1) fun a2 C3 =>
  obd (cpA C3 v0 1 1 (some a2)) fun C4 =>
  cbd2 (cnR 4 (3 : Int32) C4) fun a5 C6 =>
  obd (cpA C6 v0 1 3 (some a5)) fun C7 =>
  cbd2 (cnJ (400 : Int32) C7) fun a8 C9 =>
  obd (cpA C9 v0 1 5 (some a8)) fun C10 =>
  some C10
set_option maxRecDepth 10000 in
def c_B_chain (v0 : Nat) (C : CT) : Option (Int32 × CT) :=
  obd (cgI C v0 0 6) fun x1 =>
  obd (cgA C v0 0 5) fun x2 =>
  obd x2 fun a3 =>
  obd (cal C a3) fun x4 =>
  if x1 < x4 then (
    cnew 1 C fun a5 C6 =>
    obd (c_Chain_init a5 C6) fun C7 =>
    jgd (cob C7 v0 0) <|
    cbd2 (c_B_registered v0 (some a5) C7) fun x8 C9 =>
    some (x8, C9))
  else
    some ((-1 : Int32), C)
set_option maxRecDepth 10000 in
def c_B_chainAt_21 (C : CT) : Option (Option Nat) :=
  some none
set_option maxRecDepth 10000 in
def c_B_chainAt (v0 : Nat) (v1 : Int32) (C : CT) : Option (Option Nat) :=
  if v1 < 0 then (
    c_B_chainAt_21 C)
  else
    obd (cgI C v0 0 6) fun x1 =>
    if x1 ≤ v1 then (
      c_B_chainAt_21 C)
    else
      obd (cgA C v0 0 5) fun x2 =>
      obd x2 fun a3 =>
      obd (cal C a3) fun x4 =>
      if v1 < x4 then (
        obd (cgA C v0 0 5) fun x5 =>
        obd x5 fun a6 =>
        obd (caA C a6 1 v1) fun x7 =>
        some x7)
      else
        c_B_chainAt_21 C
set_option maxRecDepth 10000 in
def c_Chain_join (v0 : Nat) (v1 : Option Nat) (C : CT) : Option CT :=
  obd (cgI C v0 1 2) fun x1 =>
  if x1 < 0 then (
    some C)
  else
    obd (cgI C v0 1 2) fun x2 =>
    obd (cgA C v0 1 1) fun x3 =>
    obd x3 fun a4 =>
    obd (cal C a4) fun x5 =>
    if x5 ≤ x2 then (
      some C)
    else
      obd (cgA C v0 1 1) fun x6 =>
      obd (cgI C v0 1 2) fun x7 =>
      obd v1 fun a8 =>
      obd x6 fun a9 =>
      obd (cqA C a9 7 x7 a8) fun C10 =>
      obd (cpA C10 a8 7 12 (some v0)) fun C11 =>
      obd (cgI C11 v0 1 2) fun x12 =>
      obd (cpI C11 a8 7 13 x12) fun C13 =>
      obd (cgI C13 v0 1 2) fun x14 =>
      obd (cpI C13 v0 1 2 (x14 + (1 : Int32))) fun C15 =>
      some C15
set_option maxRecDepth 10000 in
def c_Chain_memberAt_21 (C : CT) : Option (Option Nat) :=
  some none
set_option maxRecDepth 10000 in
def c_Chain_memberAt (v0 : Nat) (v1 : Int32) (C : CT) : Option (Option Nat) :=
  if v1 < 0 then (
    c_Chain_memberAt_21 C)
  else
    obd (cgI C v0 1 2) fun x1 =>
    if x1 ≤ v1 then (
      c_Chain_memberAt_21 C)
    else
      obd (cgA C v0 1 1) fun x2 =>
      obd x2 fun a3 =>
      obd (cal C a3) fun x4 =>
      if v1 < x4 then (
        obd (cgA C v0 1 1) fun x5 =>
        obd x5 fun a6 =>
        obd (caA C a6 7 v1) fun x7 =>
        some x7)
      else
        c_Chain_memberAt_21 C
set_option maxRecDepth 10000 in
def c_Chain_sort (v0 : Nat) (C : CT) : Option (Int32) :=
  jgd (cob C v0 1) <|
  obd (c_Chain_memberAt v0 (0 : Int32) C) fun x1 =>
  jon x1 (
    some (-1 : Int32))
  fun a2 =>
    obd (cgI C a2 7 2) fun x3 =>
    some x3
set_option maxRecDepth 10000 in
def c_Section_spreads_18 (C : CT) : Option (Bool) :=
  some true
set_option maxRecDepth 10000 in
def c_Section_spreads (v0 : Nat) (C : CT) : Option (Bool) :=
  obd (cgI C v0 7 1) fun x1 =>
  if x1 = (13 : Int32) then (
    c_Section_spreads_18 C)
  else
    obd (cgI C v0 7 1) fun x2 =>
    if x2 = (14 : Int32) then (
      c_Section_spreads_18 C)
    else
      some false
set_option maxRecDepth 10000 in
def c_Chain_spreaders_35 (N : Nat) (k4 : Nat → Int32 → Int32 → CT → Option (Int32)) (v0 : Nat) (v2 : Int32) (s0 : Bool) (s1 : Int32) (C : CT) : Option (Int32) :=
  k4 v0 (s1 + (jb s0)) (v2 + 1) C
set_option maxRecDepth 10000 in
def c_Chain_spreaders_34 (N : Nat) (k4 : Nat → Int32 → Int32 → CT → Option (Int32)) (v0 : Nat) (v2 : Int32) (s0 : Int32) (C : CT) : Option (Int32) :=
  c_Chain_spreaders_35 N k4 v0 v2 false s0 C
set_option maxRecDepth 10000 in
def c_Chain_spreaders_4 (N : Nat) : Nat → Nat → Int32 → Int32 → CT → Option (Int32)
  | 0, _, _, _, _ => none
  | n + 1, v0, v1, v2, C =>
    obd (cgI C v0 1 2) fun x1 =>
    if x1 ≤ v2 then (
      some v1)
    else
      jgd (cob C v0 1) <|
      obd (c_Chain_memberAt v0 v2 C) fun x2 =>
      jon x2 (
        c_Chain_spreaders_34 N (c_Chain_spreaders_4 N n) v0 v2 v1 C)
      fun a3 =>
        jgd (cob C a3 7) <|
        obd (c_Section_spreads a3 C) fun x4 =>
        if x4 = true then (
          c_Chain_spreaders_35 N (c_Chain_spreaders_4 N n) v0 v2 true v1 C)
        else
          c_Chain_spreaders_34 N (c_Chain_spreaders_4 N n) v0 v2 v1 C
set_option maxRecDepth 10000 in
def c_Chain_spreaders (N : Nat) (v0 : Nat) (C : CT) : Option (Int32) :=
  c_Chain_spreaders_4 N N v0 (0 : Int32) (0 : Int32) C
set_option maxRecDepth 10000 in
def c_B_add_87 (N : Nat) (v3 : Nat) (v4 : Nat) (C : CT) : Option (Int32 × CT) :=
  jgd (cob C v3 1) <|
  obd (c_Chain_join v3 (some v4) C) fun C1 =>
  obd (cgI C1 v4 7 13) fun x2 =>
  some (x2, C1)
set_option maxRecDepth 10000 in
def c_B_add_69 (N : Nat) (v3 : Nat) (v4 : Nat) (C : CT) : Option (Int32 × CT) :=
  jgd (cob C v4 7) <|
  obd (c_Section_spreads v4 C) fun x1 =>
  if x1 = true then (
    jgd (cob C v3 1) <|
    obd (c_Chain_spreaders N v3 C) fun x2 =>
    if x2 < (2 : Int32) then (
      c_B_add_87 N v3 v4 C)
    else
      some ((-1 : Int32), C))
  else
    c_B_add_87 N v3 v4 C
set_option maxRecDepth 10000 in
def c_B_add (N : Nat) (v0 : Nat) (v1 : Int32) (v2 : Int32) (C : CT) : Option (Int32 × CT) :=
  jgd (cob C v0 0) <|
  obd (c_B_chainAt v0 v1 C) fun x1 =>
  jgd (cob C v0 0) <|
  obd (c_B_sectionAt v0 v2 C) fun x2 =>
  jon x1 (
    some ((-1 : Int32), C))
  fun a3 =>
    jon x2 (
      some ((-1 : Int32), C))
    fun a4 =>
      obd (cgA C a4 7 12) fun x5 =>
      jon x5 (
        obd (cgA C a3 1 9) fun x7 =>
        jon x7 (
          obd (cgI C a3 1 2) fun x9 =>
          if (10 : Int32) ≤ x9 then (
            some ((-1 : Int32), C))
          else
            obd (cgI C a3 1 2) fun x10 =>
            if x10 ≤ 0 then (
              c_B_add_69 N a3 a4 C)
            else
              jgd (cob C a3 1) <|
              obd (c_Chain_sort a3 C) fun x11 =>
              obd (cgI C a4 7 2) fun x12 =>
              if x11 = x12 then (
                c_B_add_69 N a3 a4 C)
              else
                some ((-1 : Int32), C))
        fun a8 =>
          some ((-1 : Int32), C))
      fun a6 =>
        some ((-1 : Int32), C)
set_option maxRecDepth 10000 in
def c_Section_changesRate_16 (C : CT) : Option (Bool) :=
  some true
set_option maxRecDepth 10000 in
def c_Section_changesRate (v0 : Nat) (C : CT) : Option (Bool) :=
  obd (cgI C v0 7 1) fun x1 =>
  if x1 = (12 : Int32) then (
    c_Section_changesRate_16 C)
  else
    jgd (cob C v0 7) <|
    obd (c_Section_spreads v0 C) fun x2 =>
    if x2 = true then (
      c_Section_changesRate_16 C)
    else
      some false
set_option maxRecDepth 10000 in
def c_Chain_changesRate_45 (N : Nat) (k10 : Nat → Int32 → Int32 → CT → Option (Bool)) (v0 : Nat) (v2 : Int32) (v3 : Int32) (C : CT) : Option (Bool) :=
  k10 v0 v2 (v3 + 1) C
set_option maxRecDepth 10000 in
def c_Chain_changesRate_10 (N : Nat) : Nat → Nat → Int32 → Int32 → CT → Option (Bool)
  | 0, _, _, _, _ => none
  | n + 1, v0, v2, v3, C =>
    if v2 < v3 then (
      some false)
    else
      obd (cgI C v0 1 2) fun x1 =>
      if x1 ≤ v3 then (
        some false)
      else
        jgd (cob C v0 1) <|
        obd (c_Chain_memberAt v0 v3 C) fun x2 =>
        jon x2 (
          c_Chain_changesRate_45 N (c_Chain_changesRate_10 N n) v0 v2 v3 C)
        fun a3 =>
          jgd (cob C a3 7) <|
          obd (c_Section_changesRate a3 C) fun x4 =>
          if x4 = true then (
            some true)
          else
            c_Chain_changesRate_45 N (c_Chain_changesRate_10 N n) v0 v2 v3 C
set_option maxRecDepth 10000 in
def c_Chain_changesRate_9 (N : Nat) (v0 : Nat) (v2 : Int32) (s0 : Int32) (C : CT) : Option (Bool) :=
  c_Chain_changesRate_10 N N v0 v2 s0 C
set_option maxRecDepth 10000 in
def c_Chain_changesRate (N : Nat) (v0 : Nat) (v1 : Int32) (v2 : Int32) (C : CT) : Option (Bool) :=
  if 0 ≤ v1 then (
    c_Chain_changesRate_9 N v0 v2 v1 C)
  else
    c_Chain_changesRate_9 N v0 v2 (0 : Int32) C
set_option maxRecDepth 10000 in
def c_Chain_tie (v0 : Nat) (v1 : Option Nat) (C : CT) : Option CT :=
  obd (cgI C v0 1 4) fun x1 =>
  if x1 < 0 then (
    some C)
  else
    obd (cgI C v0 1 4) fun x2 =>
    obd (cgA C v0 1 3) fun x3 =>
    obd x3 fun a4 =>
    obd (cal C a4) fun x5 =>
    if x5 ≤ x2 then (
      some C)
    else
      obd (cgA C v0 1 3) fun x6 =>
      obd (cgI C v0 1 4) fun x7 =>
      obd v1 fun a8 =>
      obd x6 fun a9 =>
      obd (cqA C a9 4 x7 a8) fun C10 =>
      obd (cgI C10 v0 1 4) fun x11 =>
      obd (cpI C10 v0 1 4 (x11 + (1 : Int32))) fun C12 =>
      some C12
set_option maxRecDepth 10000 in
def c_Loop_init (v0 : Nat) (v1 : Int32) (v2 : Int32) (v3 : Int32) (v4 : Int64) (C : CT) : Option CT :=
  obd (cpI C v0 4 0 v1) fun C1 =>
  obd (cpI C1 v0 4 1 v2) fun C2 =>
  obd (cpJ C2 v0 4 2 v4) fun C3 =>
  cnew 6 C3 fun a4 C5 =>
  obd (c_Row_init a4 v3 C5) fun C6 =>
  obd (cpA C6 v0 4 3 (some a4)) fun C7 =>
  some C7
set_option maxRecDepth 10000 in
def c_B_loop (N : Nat) (v0 : Nat) (v1 : Int32) (v2 : Int32) (v3 : Int32) (v4 : Int32) (v5 : Int64) (C : CT) : Option (Int32 × CT) :=
  jgd (cob C v0 0) <|
  obd (c_B_chainAt v0 v1 C) fun x1 =>
  jon x1 (
    some ((-1 : Int32), C))
  fun a2 =>
    obd (cgA C a2 1 9) fun x3 =>
    jon x3 (
      obd (cgI C a2 1 4) fun x5 =>
      if x5 < (3 : Int32) then (
        if v2 < 0 then (
          some ((-1 : Int32), C))
        else
          if v3 < v2 then (
            some ((-1 : Int32), C))
          else
            obd (cgI C a2 1 2) fun x6 =>
            if x6 ≤ v3 then (
              some ((-1 : Int32), C))
            else
              if v4 < (1 : Int32) then (
                some ((-1 : Int32), C))
              else
                if (64 : Int32) < v4 then (
                  some ((-1 : Int32), C))
                else
                  jgd (cob C a2 1) <|
                  obd (c_Chain_changesRate N a2 v2 v3 C) fun x7 =>
                  if x7 = true then (
                    some ((-1 : Int32), C))
                  else
                    jgd (cob C a2 1) <|
                    obd (c_Chain_sort a2 C) fun x8 =>
                    jgd (cob C v0 0) <|
                    obd (c_B_numbersOf v0 x8 C) fun x9 =>
                    jon x9 (
                      some ((-1 : Int32), C))
                    fun a10 =>
                      obd (if cob C a10 5 = true then c_Real_holds a10 v5 C else jgd (cob C a10 8) (some (g_Shorts_holds a10 v5))) fun x11 =>
                      if x11 = true then (
                        cnew 4 C fun a12 C13 =>
                        obd (if cob C13 a10 5 = true then c_Real_clean a10 v5 C13 else jgd (cob C13 a10 8) (some (g_Shorts_clean a10 v5))) fun x14 =>
                        obd (c_Loop_init a12 v2 v3 v4 x14 C13) fun C15 =>
                        jgd (cob C15 a2 1) <|
                        obd (c_Chain_tie a2 (some a12) C15) fun C16 =>
                        obd (cgI C16 a2 1 4) fun x17 =>
                        some (x17, C16))
                      else
                        some ((-1 : Int32), C))
      else
        some ((-1 : Int32), C))
    fun a4 =>
      some ((-1 : Int32), C)
set_option maxRecDepth 10000 in
def c_B_within (N : Nat) (v0 : Nat) (v1 : Int32) (v2 : Int32) (C : CT) : Option (Bool × CT) :=
  jgd (cob C v0 0) <|
  obd (c_B_sectionAt v0 v1 C) fun x1 =>
  jgd (cob C v0 0) <|
  obd (c_B_chainAt v0 v2 C) fun x2 =>
  jon x1 (
    some (false, C))
  fun a3 =>
    jon x2 (
      some (false, C))
    fun a4 =>
      obd (cgI C a3 7 1) fun x5 =>
      if x5 = (15 : Int32) then (
        obd (cgA C a3 7 14) fun x6 =>
        jon x6 (
          obd (cgA C a3 7 12) fun x8 =>
          jon x8 (
            some (false, C))
          fun a9 =>
            obd (cgA C a3 7 12) fun x10 =>
            obd x10 fun a11 =>
            obd (cgI C a11 1 0) fun x12 =>
            obd (cgI C a4 1 0) fun x13 =>
            if x12 ≤ x13 then (
              some (false, C))
            else
              obd (cgA C a4 1 9) fun x14 =>
              jon x14 (
                obd (cgI C a4 1 2) fun x16 =>
                if x16 = 0 then (
                  some (false, C))
                else
                  jgd (cob C a4 1) <|
                  obd (c_Chain_sort a4 C) fun x17 =>
                  obd (cgI C a3 7 2) fun x18 =>
                  if x17 = x18 then (
                    obd (cgI C a4 1 2) fun x19 =>
                    jgd (cob C a4 1) <|
                    obd (c_Chain_changesRate N a4 (0 : Int32) (x19 - (1 : Int32)) C) fun x20 =>
                    if x20 = true then (
                      some (false, C))
                    else
                      obd (cpA C a3 7 14 (some a4)) fun C21 =>
                      obd (cpA C21 a4 1 9 (some a3)) fun C22 =>
                      some (true, C22))
                  else
                    some (false, C))
              fun a15 =>
                some (false, C))
        fun a7 =>
          some (false, C))
      else
        some (false, C)
set_option maxRecDepth 10000 in
def c_B_chain_2 (v0 : Nat) (v1 : Int32) (v2 : Int32) (C : CT) : Option (Int32) :=
  jgd (cob C v0 0) <|
  obd (c_B_chainAt v0 v1 C) fun x1 =>
  jon x1 (
    some (-1 : Int32))
  fun a2 =>
    if v2 = 0 then (
      obd (cgI C a2 1 2) fun x3 =>
      some x3)
    else
    if v2 = 1 then (
      obd (cgI C a2 1 4) fun x4 =>
      some x4)
    else
    if v2 = 2 then (
      obd (cgI C a2 1 8) fun x5 =>
      some x5)
    else
    if v2 = 3 then (
      obd (cgA C a2 1 9) fun x6 =>
      jon x6 (
        some (-1 : Int32))
      fun a7 =>
        obd (cgA C a2 1 9) fun x8 =>
        obd x8 fun a9 =>
        obd (cgI C a9 7 0) fun x10 =>
        some x10)
    else
    if v2 = 4 then (
      jgd (cob C a2 1) <|
      obd (c_Chain_sort a2 C) fun x11 =>
      some x11)
    else
    some (-1 : Int32)
set_option maxRecDepth 10000 in
def c_B_count (v0 : Nat) (v1 : Int32) (C : CT) : Option (Int32) :=
  if v1 = 0 then (
    obd (cgI C v0 0 4) fun x1 =>
    some x1)
  else
  if v1 = 1 then (
    obd (cgI C v0 0 6) fun x2 =>
    some x2)
  else
  if v1 = 2 then (
    obd (cgI C v0 0 8) fun x3 =>
    some x3)
  else
  some (-1 : Int32)
set_option maxRecDepth 10000 in
def c_B_fedAlone_24 (C : CT) : Option (Option Nat) :=
  some none
set_option maxRecDepth 10000 in
def c_B_fedAlone (v0 : Nat) (v1 : Int32) (C : CT) : Option (Option Nat) :=
  jgd (cob C v0 0) <|
  obd (c_B_chainAt v0 v1 C) fun x1 =>
  jon x1 (
    c_B_fedAlone_24 C)
  fun a2 =>
    obd (cgI C a2 1 2) fun x3 =>
    if x3 = 0 then (
      c_B_fedAlone_24 C)
    else
      obd (cgA C a2 1 9) fun x4 =>
      jon x4 (
        some (some a2))
      fun a5 =>
        c_B_fedAlone_24 C
set_option maxRecDepth 10000 in
def c_Chain_emit_84 (v0 : Nat) (s0 : Int32) (s1 : Nat) (C : CT) : Option CT :=
  obd (cpI C s1 1 7 s0) fun C1 =>
  obd (cgI C1 v0 1 8) fun x2 =>
  obd (cpI C1 v0 1 8 (x2 + (1 : Int32))) fun C3 =>
  some C3
set_option maxRecDepth 10000 in
def c_Chain_emit_55 (v0 : Nat) (s0 : Int32) (s1 : Nat) (C : CT) : Option CT :=
  obd (cpI C s1 1 6 s0) fun C1 =>
  obd (cgI C1 v0 1 7) fun x2 =>
  obd (cgA C1 v0 1 5) fun x3 =>
  obd x3 fun a4 =>
  obd (cal C1 a4) fun x5 =>
  if x5 ≤ x2 then (
    obd (cgI C1 v0 1 7) fun x6 =>
    c_Chain_emit_84 v0 x6 v0 C1)
  else
    obd (cgI C1 v0 1 7) fun x7 =>
    c_Chain_emit_84 v0 (x7 + (1 : Int32)) v0 C1
set_option maxRecDepth 10000 in
def c_Chain_emit (v0 : Nat) (v1 : Int64) (C : CT) : Option CT :=
  obd (cgI C v0 1 6) fun x1 =>
  if x1 < 0 then (
    some C)
  else
    obd (cgI C v0 1 6) fun x2 =>
    obd (cgA C v0 1 5) fun x3 =>
    obd x3 fun a4 =>
    obd (cal C a4) fun x5 =>
    if x2 < x5 then (
      obd (cgA C v0 1 5) fun x6 =>
      obd (cgI C v0 1 6) fun x7 =>
      obd x6 fun a8 =>
      obd (cqJ C a8 x7 v1) fun C9 =>
      obd (cgI C9 v0 1 6) fun x10 =>
      obd (cgA C9 v0 1 5) fun x11 =>
      obd x11 fun a12 =>
      obd (cal C9 a12) fun x13 =>
      if (x10 + (1 : Int32)) < x13 then (
        obd (cgI C9 v0 1 6) fun x14 =>
        c_Chain_emit_55 v0 (x14 + (1 : Int32)) v0 C9)
      else
        c_Chain_emit_55 v0 (0 : Int32) v0 C9)
    else
      some C
set_option maxRecDepth 10000 in
def c_Chain_loopAt_21 (C : CT) : Option (Option Nat) :=
  some none
set_option maxRecDepth 10000 in
def c_Chain_loopAt (v0 : Nat) (v1 : Int32) (C : CT) : Option (Option Nat) :=
  if v1 < 0 then (
    c_Chain_loopAt_21 C)
  else
    obd (cgI C v0 1 4) fun x1 =>
    if x1 ≤ v1 then (
      c_Chain_loopAt_21 C)
    else
      obd (cgA C v0 1 3) fun x2 =>
      obd x2 fun a3 =>
      obd (cal C a3) fun x4 =>
      if v1 < x4 then (
        obd (cgA C v0 1 3) fun x5 =>
        obd x5 fun a6 =>
        obd (caA C a6 4 v1) fun x7 =>
        some x7)
      else
        c_Chain_loopAt_21 C
set_option maxRecDepth 10000 in
def c_Real_added_62 (v0 : Nat) (v1 : Bool) (v7 : Int32) (s0 : Int64) (C : CT) : Option (Int64) :=
  if s0 = (0 : Int64) then (
    some (0 : Int64))
  else
    jgd (cob C v0 5) <|
    obd (c_Real_packed v0 v1 (v7 - (9 : Int32)) s0 C) fun x1 =>
    some x1
set_option maxRecDepth 10000 in
def c_Real_added (v0 : Nat) (v1 : Bool) (v2 : Int64) (v4 : Bool) (v5 : Int64) (C : CT) : Option (Int64) :=
  jgd (cob C v0 5) <|
  obd (c_Real_exponent v0 v2 C) fun x1 =>
  jgd (cob C v0 5) <|
  obd (c_Real_exponent v0 v5 C) fun x2 =>
  jgd (cob C v0 5) <|
  obd (c_Real_mantissa v0 v2 C) fun x3 =>
  jlet (x3 <<< (Int32.toInt64 (9 : Int32) &&& 63)) fun (v9_4 : Int64) =>
  jgd (cob C v0 5) <|
  obd (c_Real_mantissa v0 v5 C) fun x5 =>
  jlet (g_Real_shifted (x5 <<< (Int32.toInt64 (9 : Int32) &&& 63)) (x1 - x2)) fun (v11_6 : Int64) =>
  if v4 = true then (
    c_Real_added_62 v0 v1 x1 (v9_4 + v11_6) C)
  else
    c_Real_added_62 v0 v1 x1 (v9_4 - v11_6) C
set_option maxRecDepth 10000 in
def c_Real_withInfinity_16 (v0 : Nat) (C : CT) : Option (Int64) :=
  obd (cgJ C v0 5 6) fun x1 =>
  some x1
set_option maxRecDepth 10000 in
def c_Real_withInfinity (v0 : Nat) (v1 : Int64) (v3 : Int64) (C : CT) : Option (Int64) :=
  jgd (cob C v0 5) <|
  obd (c_Real_isNumber v0 v1 C) fun x1 =>
  if x1 = true then (
    jgd (cob C v0 5) <|
    obd (c_Real_isNumber v0 v3 C) fun x2 =>
    if x2 = true then (
      jgd (cob C v0 5) <|
      obd (c_Real_sizeOf v0 v1 C) fun x3 =>
      obd (cgJ C v0 5 5) fun x4 =>
      if x3 = x4 then (
        jgd (cob C v0 5) <|
        obd (c_Real_sizeOf v0 v3 C) fun x5 =>
        obd (cgJ C v0 5 5) fun x6 =>
        if x5 = x6 then (
          if v1 = v3 then (
            some v1)
          else
            obd (cgJ C v0 5 6) fun x7 =>
            some x7)
        else
          some v1)
      else
        some v3)
    else
      c_Real_withInfinity_16 v0 C)
  else
    c_Real_withInfinity_16 v0 C
set_option maxRecDepth 10000 in
def c_Real_plus_34 (v0 : Nat) (v1 : Int64) (v3 : Int64) (C : CT) : Option (Int64) :=
  jgd (cob C v0 5) <|
  obd (c_Real_withInfinity v0 v1 v3 C) fun x1 =>
  some x1
set_option maxRecDepth 10000 in
def c_Real_plus_55 (v1 : Int64) (v3 : Int64) (v5 : Int64) (v7 : Int64) (C : CT) : Option (Int64) :=
  if v5 = (0 : Int64) then (
    if v7 = (0 : Int64) then (
      some (v1 &&& v3))
    else
      some v3)
  else
    some v1
set_option maxRecDepth 10000 in
def c_Real_plus_133 (v7 : Int64) (s0 : Bool) (s1 : Int64) (s2 : Bool) (s3 : Nat) (C : CT) : Option (Int64) :=
  jgd (cob C s3 5) <|
  obd (c_Real_added s3 s2 s1 s0 v7 C) fun x1 =>
  some x1
set_option maxRecDepth 10000 in
def c_Real_plus_125 (v7 : Int64) (s0 : Bool) (s1 : Bool) (s2 : Int64) (s3 : Bool) (s4 : Nat) (C : CT) : Option (Int64) :=
  if s1 = s0 then (
    c_Real_plus_133 v7 true s2 s3 s4 C)
  else
    c_Real_plus_133 v7 false s2 s3 s4 C
set_option maxRecDepth 10000 in
def c_Real_plus_114 (v3 : Int64) (v7 : Int64) (s0 : Bool) (s1 : Int64) (s2 : Bool) (s3 : Nat) (C : CT) : Option (Int64) :=
  if (0 : Int64) ≤ v3 then (
    c_Real_plus_125 v7 false s0 s1 s2 s3 C)
  else
    c_Real_plus_125 v7 true s0 s1 s2 s3 C
set_option maxRecDepth 10000 in
def c_Real_plus_101 (v1 : Int64) (v3 : Int64) (v5 : Int64) (v7 : Int64) (s0 : Bool) (s1 : Nat) (C : CT) : Option (Int64) :=
  if (0 : Int64) ≤ v1 then (
    c_Real_plus_114 v3 v7 false v5 s0 s1 C)
  else
    c_Real_plus_114 v3 v7 true v5 s0 s1 C
set_option maxRecDepth 10000 in
def c_Real_plus_185 (v5 : Int64) (s0 : Bool) (s1 : Int64) (s2 : Bool) (s3 : Nat) (C : CT) : Option (Int64) :=
  jgd (cob C s3 5) <|
  obd (c_Real_added s3 s2 s1 s0 v5 C) fun x1 =>
  some x1
set_option maxRecDepth 10000 in
def c_Real_plus_177 (v5 : Int64) (s0 : Bool) (s1 : Bool) (s2 : Int64) (s3 : Bool) (s4 : Nat) (C : CT) : Option (Int64) :=
  if s1 = s0 then (
    c_Real_plus_185 v5 true s2 s3 s4 C)
  else
    c_Real_plus_185 v5 false s2 s3 s4 C
set_option maxRecDepth 10000 in
def c_Real_plus_166 (v3 : Int64) (v5 : Int64) (s0 : Bool) (s1 : Int64) (s2 : Bool) (s3 : Nat) (C : CT) : Option (Int64) :=
  if (0 : Int64) ≤ v3 then (
    c_Real_plus_177 v5 false s0 s1 s2 s3 C)
  else
    c_Real_plus_177 v5 true s0 s1 s2 s3 C
set_option maxRecDepth 10000 in
def c_Real_plus_153 (v1 : Int64) (v3 : Int64) (v5 : Int64) (v7 : Int64) (s0 : Bool) (s1 : Nat) (C : CT) : Option (Int64) :=
  if (0 : Int64) ≤ v1 then (
    c_Real_plus_166 v3 v5 false v7 s0 s1 C)
  else
    c_Real_plus_166 v3 v5 true v7 s0 s1 C
set_option maxRecDepth 10000 in
def c_Real_plus (v0 : Nat) (v1 : Int64) (v3 : Int64) (C : CT) : Option (Int64) :=
  jgd (cob C v0 5) <|
  obd (c_Real_sizeOf v0 v1 C) fun x1 =>
  jgd (cob C v0 5) <|
  obd (c_Real_sizeOf v0 v3 C) fun x2 =>
  obd (cgJ C v0 5 5) fun x3 =>
  if x3 ≤ x1 then (
    c_Real_plus_34 v0 v1 v3 C)
  else
    obd (cgJ C v0 5 5) fun x4 =>
    if x2 < x4 then (
      if x1 = (0 : Int64) then (
        c_Real_plus_55 v1 v3 x1 x2 C)
      else
        if x2 = (0 : Int64) then (
          c_Real_plus_55 v1 v3 x1 x2 C)
        else
          if x1 < x2 then (
            if (0 : Int64) ≤ v3 then (
              c_Real_plus_153 v1 v3 x1 x2 false v0 C)
            else
              c_Real_plus_153 v1 v3 x1 x2 true v0 C)
          else
            if (0 : Int64) ≤ v1 then (
              c_Real_plus_101 v1 v3 x1 x2 false v0 C)
            else
              c_Real_plus_101 v1 v3 x1 x2 true v0 C)
    else
      c_Real_plus_34 v0 v1 v3 C
set_option maxRecDepth 10000 in
def c_Real_product_100 (v0 : Nat) (C : CT) : Option (Int64) :=
  obd (cgJ C v0 5 6) fun x1 =>
  some x1
set_option maxRecDepth 10000 in
def c_Real_product_66 (v0 : Nat) (v5 : Int64) (v7 : Int64) (v9 : Bool) (C : CT) : Option (Int64) :=
  obd (cgJ C v0 5 5) fun x1 =>
  if x1 < v5 then (
    c_Real_product_100 v0 C)
  else
    obd (cgJ C v0 5 5) fun x2 =>
    if x2 < v7 then (
      c_Real_product_100 v0 C)
    else
      if v5 = (0 : Int64) then (
        c_Real_product_100 v0 C)
      else
        if v7 = (0 : Int64) then (
          c_Real_product_100 v0 C)
        else
          obd (cgJ C v0 5 5) fun x3 =>
          jgd (cob C v0 5) <|
          obd (c_Real_signed v0 v9 x3 C) fun x4 =>
          some x4
set_option maxRecDepth 10000 in
def c_Real_product_132 (v0 : Nat) (v9 : Bool) (C : CT) : Option (Int64) :=
  jgd (cob C v0 5) <|
  obd (c_Real_signed v0 v9 (0 : Int64) C) fun x1 =>
  some x1
set_option maxRecDepth 10000 in
def c_Real_product_44 (v0 : Nat) (v5 : Int64) (v7 : Int64) (s0 : Bool) (C : CT) : Option (Int64) :=
  obd (cgJ C v0 5 5) fun x1 =>
  if x1 ≤ v5 then (
    c_Real_product_66 v0 v5 v7 s0 C)
  else
    obd (cgJ C v0 5 5) fun x2 =>
    if v7 < x2 then (
      if v5 = (0 : Int64) then (
        c_Real_product_132 v0 s0 C)
      else
        if v7 = (0 : Int64) then (
          c_Real_product_132 v0 s0 C)
        else
          jgd (cob C v0 5) <|
          obd (c_Real_mantissa v0 v5 C) fun x3 =>
          jgd (cob C v0 5) <|
          obd (c_Real_mantissa v0 v7 C) fun x4 =>
          jlet (((g_Real_lead x3) - (62 : Int32)) + (52 : Int32)) fun (v14_5 : Int32) =>
          jlet (((g_Real_lead x4) - (62 : Int32)) + (52 : Int32)) fun (v15_6 : Int32) =>
          jgd (cob C v0 5) <|
          obd (c_Real_exponent v0 v5 C) fun x7 =>
          jgd (cob C v0 5) <|
          obd (c_Real_exponent v0 v7 C) fun x8 =>
          jgd (cob C v0 5) <|
          obd (c_Real_packed v0 s0 ((((x7 - v14_5) + x8) - v15_6) + (44 : Int32)) (g_Real_highProduct (x3 <<< (Int32.toInt64 v14_5 &&& 63)) (x4 <<< (Int32.toInt64 v15_6 &&& 63))) C) fun x9 =>
          some x9)
    else
      c_Real_product_66 v0 v5 v7 s0 C
set_option maxRecDepth 10000 in
def c_Real_product_36 (v0 : Nat) (v5 : Int64) (v7 : Int64) (s0 : Bool) (s1 : Bool) (C : CT) : Option (Int64) :=
  if s1 = s0 then (
    c_Real_product_44 v0 v5 v7 false C)
  else
    c_Real_product_44 v0 v5 v7 true C
set_option maxRecDepth 10000 in
def c_Real_product_25 (v0 : Nat) (v3 : Int64) (v5 : Int64) (v7 : Int64) (s0 : Bool) (C : CT) : Option (Int64) :=
  if (0 : Int64) ≤ v3 then (
    c_Real_product_36 v0 v5 v7 false s0 C)
  else
    c_Real_product_36 v0 v5 v7 true s0 C
set_option maxRecDepth 10000 in
def c_Real_product (v0 : Nat) (v1 : Int64) (v3 : Int64) (C : CT) : Option (Int64) :=
  jgd (cob C v0 5) <|
  obd (c_Real_sizeOf v0 v1 C) fun x1 =>
  jgd (cob C v0 5) <|
  obd (c_Real_sizeOf v0 v3 C) fun x2 =>
  if (0 : Int64) ≤ v1 then (
    c_Real_product_25 v0 v3 x1 x2 false C)
  else
    c_Real_product_25 v0 v3 x1 x2 true C
set_option maxRecDepth 10000 in
def c_Row_put (v0 : Nat) (v1 : Int32) (v2 : Int64) (C : CT) : Option CT :=
  if v1 < 0 then (
    some C)
  else
    obd (cgA C v0 6 0) fun x1 =>
    obd x1 fun a2 =>
    obd (cal C a2) fun x3 =>
    if x3 ≤ v1 then (
      some C)
    else
      obd (cgA C v0 6 0) fun x4 =>
      jgd (cob C v0 6) <|
      obd (c_Row_index v0 v1 C) fun x5 =>
      obd x4 fun a6 =>
      obd (cqJ C a6 x5 v2) fun C7 =>
      some C7
set_option maxRecDepth 10000 in
def c_Section_settled_67 (v0 : Nat) (v5 : Int64) (C : CT) : Option (Int64 × CT) :=
  if (g_Shorts_isShort v5) = true then (
    some (v5, C))
  else
    obd (cgI C v0 7 10) fun x1 =>
    obd (cpI C v0 7 10 (x1 + (1 : Int32))) fun C2 =>
    obd (cgI C2 v0 7 8) fun x3 =>
    some ((g_Shorts_limited v5 x3), C2)
set_option maxRecDepth 10000 in
def c_Section_settled_32 (v0 : Nat) (s0 : Int64) (C : CT) : Option (Int64 × CT) :=
  obd (cgI C v0 7 7) fun x1 =>
  obd (cgI C v0 7 7) fun x2 =>
  if x2 = (2 : Int32) then (
    obd (cgA C v0 7 9) fun x3 =>
    obd x3 fun a4 =>
    jgd (cob C a4 6) <|
    obd (c_Row_put a4 (0 : Int32) (s0 - ((g_Shorts_rounded s0 x1) * (16384 : Int64))) C) fun C5 =>
    c_Section_settled_67 v0 (g_Shorts_rounded s0 x1) C5)
  else
    c_Section_settled_67 v0 (g_Shorts_rounded s0 x1) C
set_option maxRecDepth 10000 in
def c_Section_settled (v0 : Nat) (v1 : Int64) (C : CT) : Option (Int64 × CT) :=
  obd (cgI C v0 7 2) fun x1 =>
  if x1 = (2 : Int32) then (
    obd (cgI C v0 7 7) fun x2 =>
    if x2 = (2 : Int32) then (
      obd (cgA C v0 7 9) fun x3 =>
      obd x3 fun a4 =>
      jgd (cob C a4 6) <|
      obd (c_Row_at a4 (0 : Int32) C) fun x5 =>
      c_Section_settled_32 v0 (v1 + x5) C)
    else
      c_Section_settled_32 v0 v1 C)
  else
    some (v1, C)
set_option maxRecDepth 10000 in
def c_Chain_looped_84 (N : Nat) (k6 : Nat → Int32 → Option Nat → Int64 → Int32 → CT → Option (Int64 × CT)) (v0 : Nat) (v1 : Int32) (v2 : Option Nat) (v5 : Int64) (v7 : Int32) (C : CT) : Option (Int64 × CT) :=
  k6 v0 v1 v2 v5 (v7 + 1) C
set_option maxRecDepth 10000 in
def c_Chain_looped_6 (N : Nat) : Nat → Nat → Int32 → Option Nat → Int64 → Int32 → CT → Option (Int64 × CT)
  | 0, _, _, _, _, _, _ => none
  | n + 1, v0, v1, v2, v5, v7, C =>
    obd (cgI C v0 1 4) fun x1 =>
    if x1 ≤ v7 then (
      some (v5, C))
    else
      jgd (cob C v0 1) <|
      obd (c_Chain_loopAt v0 v7 C) fun x2 =>
      jon x2 (
        c_Chain_looped_84 N (c_Chain_looped_6 N n) v0 v1 v2 v5 v7 C)
      fun a3 =>
        obd (cgI C a3 4 0) fun x4 =>
        if x4 = v1 then (
          obd v2 fun a5 =>
          obd (cgA C a5 7 4) fun x6 =>
          obd (cgJ C a3 4 2) fun x7 =>
          obd (cgA C a3 4 3) fun x8 =>
          obd x8 fun a9 =>
          jgd (cob C a9 6) <|
          obd (c_Row_at a9 (0 : Int32) C) fun x10 =>
          obd x6 fun a11 =>
          obd (if cob C a11 5 = true then c_Real_product a11 x7 x10 C else jgd (cob C a11 8) (some (g_Shorts_product a11 x7 x10))) fun x12 =>
          obd (cgA C a5 7 4) fun x13 =>
          obd (cgA C a5 7 4) fun x14 =>
          obd x14 fun a15 =>
          obd (if cob C a15 5 = true then some (g_Real_term a15 v5) else jgd (cob C a15 8) (some (g_Shorts_term a15 v5))) fun x16 =>
          obd x13 fun a17 =>
          obd (if cob C a17 5 = true then c_Real_plus a17 x16 x12 C else jgd (cob C a17 8) (some (g_Shorts_plus a17 x16 x12))) fun x18 =>
          jgd (cob C a5 7) <|
          cbd2 (c_Section_settled a5 x18 C) fun x19 C20 =>
          c_Chain_looped_84 N (c_Chain_looped_6 N n) v0 v1 (some a5) x19 v7 C20)
        else
          c_Chain_looped_84 N (c_Chain_looped_6 N n) v0 v1 v2 v5 v7 C
set_option maxRecDepth 10000 in
def c_Chain_looped (N : Nat) (v0 : Nat) (v1 : Int32) (v2 : Option Nat) (v3 : Int64) (C : CT) : Option (Int64 × CT) :=
  c_Chain_looped_6 N N v0 v1 v2 v3 (0 : Int32) C
set_option maxRecDepth 10000 in
def c_Chain_madeBefore_52 (C : CT) : Option (Int64) :=
  some (0 : Int64)
set_option maxRecDepth 10000 in
def c_Chain_madeBefore_38 (v0 : Nat) (s0 : Int32) (C : CT) : Option (Int64) :=
  if s0 < 0 then (
    c_Chain_madeBefore_52 C)
  else
    obd (cgA C v0 1 5) fun x1 =>
    obd x1 fun a2 =>
    obd (cal C a2) fun x3 =>
    if s0 < x3 then (
      obd (cgA C v0 1 5) fun x4 =>
      obd x4 fun a5 =>
      obd (caJ C a5 s0) fun x6 =>
      some x6)
    else
      c_Chain_madeBefore_52 C
set_option maxRecDepth 10000 in
def c_Chain_madeBefore (v0 : Nat) (v1 : Int32) (C : CT) : Option (Int64) :=
  if v1 < 0 then (
    some (0 : Int64))
  else
    obd (cgI C v0 1 7) fun x1 =>
    if v1 < x1 then (
      obd (cgI C v0 1 6) fun x2 =>
      if 0 ≤ ((x2 - (1 : Int32)) - v1) then (
        c_Chain_madeBefore_38 v0 ((x2 - (1 : Int32)) - v1) C)
      else
        obd (cgA C v0 1 5) fun x3 =>
        obd x3 fun a4 =>
        obd (cal C a4) fun x5 =>
        c_Chain_madeBefore_38 v0 (((x2 - (1 : Int32)) - v1) + x5) C)
    else
      some (0 : Int64)
set_option maxRecDepth 10000 in
def c_Chain_madeLast (v0 : Nat) (C : CT) : Option (Int64) :=
  jgd (cob C v0 1) <|
  obd (c_Chain_madeBefore v0 (0 : Int32) C) fun x1 =>
  some x1
set_option maxRecDepth 10000 in
def c_Row_push_31 (s0 : Int32) (s1 : Nat) (C : CT) : Option CT :=
  obd (cpI C s1 6 1 s0) fun C1 =>
  some C1
set_option maxRecDepth 10000 in
def c_Row_push (v0 : Nat) (v1 : Int64) (C : CT) : Option CT :=
  jgd (cob C v0 6) <|
  obd (c_Row_put v0 (0 : Int32) v1 C) fun C1 =>
  obd (cgI C1 v0 6 1) fun x2 =>
  obd (cgA C1 v0 6 0) fun x3 =>
  obd x3 fun a4 =>
  obd (cal C1 a4) fun x5 =>
  if (x2 + (1 : Int32)) < x5 then (
    obd (cgI C1 v0 6 1) fun x6 =>
    c_Row_push_31 (x6 + (1 : Int32)) v0 C1)
  else
    c_Row_push_31 (0 : Int32) v0 C1
set_option maxRecDepth 10000 in
def c_Chain_note_43 (N : Nat) (k3 : Nat → Int32 → Int64 → Int32 → CT → Option CT) (v0 : Nat) (v1 : Int32) (v2 : Int64) (v4 : Int32) (C : CT) : Option CT :=
  k3 v0 v1 v2 (v4 + 1) C
set_option maxRecDepth 10000 in
def c_Chain_note_3 (N : Nat) : Nat → Nat → Int32 → Int64 → Int32 → CT → Option CT
  | 0, _, _, _, _, _ => none
  | n + 1, v0, v1, v2, v4, C =>
    obd (cgI C v0 1 4) fun x1 =>
    if x1 ≤ v4 then (
      some C)
    else
      jgd (cob C v0 1) <|
      obd (c_Chain_loopAt v0 v4 C) fun x2 =>
      jon x2 (
        c_Chain_note_43 N (c_Chain_note_3 N n) v0 v1 v2 v4 C)
      fun a3 =>
        obd (cgI C a3 4 1) fun x4 =>
        if x4 = v1 then (
          obd (cgA C a3 4 3) fun x5 =>
          obd x5 fun a6 =>
          jgd (cob C a6 6) <|
          obd (c_Row_push a6 v2 C) fun C7 =>
          c_Chain_note_43 N (c_Chain_note_3 N n) v0 v1 v2 v4 C7)
        else
          c_Chain_note_43 N (c_Chain_note_3 N n) v0 v1 v2 v4 C
set_option maxRecDepth 10000 in
def c_Chain_note (N : Nat) (v0 : Nat) (v1 : Int32) (v2 : Int64) (C : CT) : Option CT :=
  c_Chain_note_3 N N v0 v1 v2 (0 : Int32) C
set_option maxRecDepth 10000 in
def c_Section_letsThrough_33 (v1 : Int64) (s0 : Int64) (s2 : Option Nat) (C : CT) : Option (Bool × CT) :=
  obd s2 fun a1 =>
  jgd (cob C a1 6) <|
  obd (c_Row_put a1 (0 : Int32) s0 C) fun C2 =>
  if v1 = (0 : Int64) then (
    some (true, C2))
  else
    some (false, C2)
set_option maxRecDepth 10000 in
def c_Section_letsThrough (v0 : Nat) (C : CT) : Option (Bool × CT) :=
  obd (cgA C v0 7 6) fun x1 =>
  obd x1 fun a2 =>
  jgd (cob C a2 6) <|
  obd (c_Row_at a2 (0 : Int32) C) fun x3 =>
  obd (cgA C v0 7 6) fun x4 =>
  obd (cgI C v0 7 3) fun x5 =>
  if (x3 + (1 : Int64)) < (Int32.toInt64 x5) then (
    c_Section_letsThrough_33 x3 (x3 + (1 : Int64)) x4 C)
  else
    c_Section_letsThrough_33 x3 (0 : Int64) x4 C
set_option maxRecDepth 10000 in
def c_Real_compared_32 (s0 : Int64) (s1 : Int64) (C : CT) : Option (Int32) :=
  some (g_JLong_compare s1 s0)
set_option maxRecDepth 10000 in
def c_Real_compared_16 (v0 : Nat) (v3 : Int64) (s0 : Int64) (C : CT) : Option (Int32) :=
  if (0 : Int64) ≤ v3 then (
    c_Real_compared_32 v3 s0 C)
  else
    jgd (cob C v0 5) <|
    obd (c_Real_sizeOf v0 v3 C) fun x1 =>
    c_Real_compared_32 (-x1) s0 C
set_option maxRecDepth 10000 in
def c_Real_compared (v0 : Nat) (v1 : Int64) (v3 : Int64) (C : CT) : Option (Int32) :=
  if (0 : Int64) ≤ v1 then (
    c_Real_compared_16 v0 v3 v1 C)
  else
    jgd (cob C v0 5) <|
    obd (c_Real_sizeOf v0 v1 C) fun x1 =>
    c_Real_compared_16 v0 v3 (-x1) C
set_option maxRecDepth 10000 in
def c_Numbers_above (v0 : Nat) (v1 : Int64) (v3 : Int64) (C : CT) : Option (Bool) :=
  obd (if cob C v0 5 = true then c_Real_isNumber v0 v1 C else jgd (cob C v0 8) (some (g_Shorts_isNumber v0 v1))) fun x1 =>
  if x1 = true then (
    obd (if cob C v0 5 = true then c_Real_isNumber v0 v3 C else jgd (cob C v0 8) (some (g_Shorts_isNumber v0 v3))) fun x2 =>
    if x2 = true then (
      obd (if cob C v0 5 = true then c_Real_compared v0 v1 v3 C else jgd (cob C v0 8) (some (g_Shorts_compared v0 v1 v3))) fun x3 =>
      if x3 ≤ 0 then (
        some false)
      else
        some true)
    else
      some false)
  else
    some false
set_option maxRecDepth 10000 in
def c_Real_negative (v0 : Nat) (v1 : Int64) (C : CT) : Option (Int64) :=
  jgd (cob C v0 5) <|
  obd (c_Real_isNumber v0 v1 C) fun x1 =>
  if x1 = true then (
    obd (cgJ C v0 5 4) fun x2 =>
    some (v1 ^^^ x2))
  else
    obd (cgJ C v0 5 6) fun x3 =>
    some x3
set_option maxRecDepth 10000 in
def c_Section_clipped (v0 : Nat) (v1 : Int64) (C : CT) : Option (Int64 × CT) :=
  jgd (cob C v0 7) <|
  obd (c_Section_factor v0 (0 : Int32) C) fun x1 =>
  obd (cgA C v0 7 4) fun x2 =>
  obd x2 fun a3 =>
  obd (if cob C a3 5 = true then c_Numbers_above a3 v1 x1 C else jgd (cob C a3 8) (c_Numbers_above a3 v1 x1 C)) fun x4 =>
  if x4 = true then (
    obd (cgI C v0 7 11) fun x5 =>
    obd (cpI C v0 7 11 (x5 + (1 : Int32))) fun C6 =>
    some (x1, C6))
  else
    obd (cgA C v0 7 4) fun x7 =>
    obd x7 fun a8 =>
    obd (if cob C a8 5 = true then c_Real_negative a8 x1 C else jgd (cob C a8 8) (some (g_Shorts_negative a8 x1))) fun x9 =>
    obd (cgA C v0 7 4) fun x10 =>
    obd x10 fun a11 =>
    obd (if cob C a11 5 = true then c_Numbers_above a11 x9 v1 C else jgd (cob C a11 8) (c_Numbers_above a11 x9 v1 C)) fun x12 =>
    if x12 = true then (
      obd (cgI C v0 7 11) fun x13 =>
      obd (cpI C v0 7 11 (x13 + (1 : Int32))) fun C14 =>
      some (x9, C14))
    else
      some (v1, C)
set_option maxRecDepth 10000 in
def c_Section_times (v0 : Nat) (v1 : Int32) (v2 : Int64) (C : CT) : Option (Int64) :=
  obd (cgA C v0 7 4) fun x1 =>
  jgd (cob C v0 7) <|
  obd (c_Section_factor v0 v1 C) fun x2 =>
  obd x1 fun a3 =>
  obd (if cob C a3 5 = true then c_Real_product a3 x2 v2 C else jgd (cob C a3 8) (some (g_Shorts_product a3 x2 v2))) fun x4 =>
  some x4
set_option maxRecDepth 10000 in
def c_Section_comb (v0 : Nat) (v1 : Int64) (C : CT) : Option (Int64 × CT) :=
  obd (cgA C v0 7 4) fun x1 =>
  obd (cgA C v0 7 4) fun x2 =>
  obd x2 fun a3 =>
  obd (if cob C a3 5 = true then some (g_Real_term a3 v1) else jgd (cob C a3 8) (some (g_Shorts_term a3 v1))) fun x4 =>
  obd (cgA C v0 7 6) fun x5 =>
  obd x5 fun a6 =>
  jgd (cob C a6 6) <|
  obd (c_Row_at a6 (0 : Int32) C) fun x7 =>
  jgd (cob C v0 7) <|
  obd (c_Section_times v0 (0 : Int32) x7 C) fun x8 =>
  obd x1 fun a9 =>
  obd (if cob C a9 5 = true then c_Real_plus a9 x4 x8 C else jgd (cob C a9 8) (some (g_Shorts_plus a9 x4 x8))) fun x10 =>
  jgd (cob C v0 7) <|
  cbd2 (c_Section_settled v0 x10 C) fun x11 C12 =>
  obd (cgA C12 v0 7 6) fun x13 =>
  obd x13 fun a14 =>
  jgd (cob C12 a14 6) <|
  obd (c_Row_push a14 x11 C12) fun C15 =>
  some (x11, C15)
set_option maxRecDepth 10000 in
def c_Shorts_sizeOf (v0 : Nat) (v1 : Int64) (C : CT) : Option (Int64) :=
  if (0 : Int64) ≤ v1 then (
    some v1)
  else
    jgd (cob C v0 8) <|
    some (g_Shorts_negative v0 v1)
set_option maxRecDepth 10000 in
def c_Section_deadened (v0 : Nat) (v1 : Int64) (C : CT) : Option (Int64 × CT) :=
  jgd (cob C v0 7) <|
  obd (c_Section_factor v0 (0 : Int32) C) fun x1 =>
  obd (cgA C v0 7 4) fun x2 =>
  obd x2 fun a3 =>
  obd (if cob C a3 5 = true then c_Real_isNumber a3 v1 C else jgd (cob C a3 8) (some (g_Shorts_isNumber a3 v1))) fun x4 =>
  if x4 = true then (
    obd (cgA C v0 7 4) fun x5 =>
    obd x5 fun a6 =>
    obd (if cob C a6 5 = true then c_Real_isNumber a6 x1 C else jgd (cob C a6 8) (some (g_Shorts_isNumber a6 x1))) fun x7 =>
    if x7 = true then (
      obd (cgA C v0 7 4) fun x8 =>
      obd (cgA C v0 7 4) fun x9 =>
      obd x9 fun a10 =>
      obd (if cob C a10 5 = true then c_Real_sizeOf a10 v1 C else jgd (cob C a10 8) (c_Shorts_sizeOf a10 v1 C)) fun x11 =>
      obd x8 fun a12 =>
      obd (if cob C a12 5 = true then c_Numbers_above a12 x11 x1 C else jgd (cob C a12 8) (c_Numbers_above a12 x11 x1 C)) fun x13 =>
      if x13 = true then (
        some (v1, C))
      else
        obd (cgI C v0 7 11) fun x14 =>
        obd (cpI C v0 7 11 (x14 + (1 : Int32))) fun C15 =>
        some ((0 : Int64), C15))
    else
      some (v1, C))
  else
    some (v1, C)
set_option maxRecDepth 10000 in
def c_Section_delayed (v0 : Nat) (v1 : Int64) (C : CT) : Option (Int64 × CT) :=
  obd (cgA C v0 7 6) fun x1 =>
  obd x1 fun a2 =>
  jgd (cob C a2 6) <|
  obd (c_Row_at a2 (0 : Int32) C) fun x3 =>
  obd (cgA C v0 7 6) fun x4 =>
  obd x4 fun a5 =>
  jgd (cob C a5 6) <|
  obd (c_Row_push a5 v1 C) fun C6 =>
  some (x3, C6)
set_option maxRecDepth 10000 in
def c_Real_opposite (v0 : Nat) (v1 : Int64) (C : CT) : Option (Int64) :=
  jgd (cob C v0 5) <|
  obd (c_Real_negative v0 v1 C) fun x1 =>
  some x1
set_option maxRecDepth 10000 in
def c_Section_lessTimes (v0 : Nat) (v1 : Int32) (v2 : Int64) (C : CT) : Option (Int64) :=
  obd (cgA C v0 7 4) fun x1 =>
  obd (cgA C v0 7 4) fun x2 =>
  jgd (cob C v0 7) <|
  obd (c_Section_factor v0 v1 C) fun x3 =>
  obd x2 fun a4 =>
  obd (if cob C a4 5 = true then c_Real_product a4 x3 v2 C else jgd (cob C a4 8) (some (g_Shorts_product a4 x3 v2))) fun x5 =>
  obd x1 fun a6 =>
  obd (if cob C a6 5 = true then c_Real_opposite a6 x5 C else jgd (cob C a6 8) (some (g_Shorts_opposite a6 x5))) fun x7 =>
  some x7
set_option maxRecDepth 10000 in
def c_Section_direct (v0 : Nat) (v1 : Int64) (C : CT) : Option (Int64 × CT) :=
  obd (cgA C v0 7 4) fun x1 =>
  jgd (cob C v0 7) <|
  obd (c_Section_times v0 (0 : Int32) v1 C) fun x2 =>
  obd (cgA C v0 7 6) fun x3 =>
  obd x3 fun a4 =>
  jgd (cob C a4 6) <|
  obd (c_Row_at a4 (0 : Int32) C) fun x5 =>
  jgd (cob C v0 7) <|
  obd (c_Section_times v0 (1 : Int32) x5 C) fun x6 =>
  obd x1 fun a7 =>
  obd (if cob C a7 5 = true then c_Real_plus a7 x2 x6 C else jgd (cob C a7 8) (some (g_Shorts_plus a7 x2 x6))) fun x8 =>
  obd (cgA C v0 7 4) fun x9 =>
  obd (cgA C v0 7 6) fun x10 =>
  obd x10 fun a11 =>
  jgd (cob C a11 6) <|
  obd (c_Row_at a11 (1 : Int32) C) fun x12 =>
  jgd (cob C v0 7) <|
  obd (c_Section_times v0 (2 : Int32) x12 C) fun x13 =>
  obd x9 fun a14 =>
  obd (if cob C a14 5 = true then c_Real_plus a14 x8 x13 C else jgd (cob C a14 8) (some (g_Shorts_plus a14 x8 x13))) fun x15 =>
  obd (cgA C v0 7 4) fun x16 =>
  obd (cgA C v0 7 6) fun x17 =>
  obd x17 fun a18 =>
  jgd (cob C a18 6) <|
  obd (c_Row_at a18 (2 : Int32) C) fun x19 =>
  jgd (cob C v0 7) <|
  obd (c_Section_lessTimes v0 (3 : Int32) x19 C) fun x20 =>
  obd x16 fun a21 =>
  obd (if cob C a21 5 = true then c_Real_plus a21 x15 x20 C else jgd (cob C a21 8) (some (g_Shorts_plus a21 x15 x20))) fun x22 =>
  obd (cgA C v0 7 4) fun x23 =>
  obd (cgA C v0 7 6) fun x24 =>
  obd x24 fun a25 =>
  jgd (cob C a25 6) <|
  obd (c_Row_at a25 (3 : Int32) C) fun x26 =>
  jgd (cob C v0 7) <|
  obd (c_Section_lessTimes v0 (4 : Int32) x26 C) fun x27 =>
  obd x23 fun a28 =>
  obd (if cob C a28 5 = true then c_Real_plus a28 x22 x27 C else jgd (cob C a28 8) (some (g_Shorts_plus a28 x22 x27))) fun x29 =>
  jgd (cob C v0 7) <|
  cbd2 (c_Section_settled v0 x29 C) fun x30 C31 =>
  obd (cgA C31 v0 7 6) fun x32 =>
  obd (cgA C31 v0 7 6) fun x33 =>
  obd x33 fun a34 =>
  jgd (cob C31 a34 6) <|
  obd (c_Row_at a34 (0 : Int32) C31) fun x35 =>
  obd x32 fun a36 =>
  jgd (cob C31 a36 6) <|
  obd (c_Row_put a36 (1 : Int32) x35 C31) fun C37 =>
  obd (cgA C37 v0 7 6) fun x38 =>
  obd x38 fun a39 =>
  jgd (cob C37 a39 6) <|
  obd (c_Row_put a39 (0 : Int32) v1 C37) fun C40 =>
  obd (cgA C40 v0 7 6) fun x41 =>
  obd (cgA C40 v0 7 6) fun x42 =>
  obd x42 fun a43 =>
  jgd (cob C40 a43 6) <|
  obd (c_Row_at a43 (2 : Int32) C40) fun x44 =>
  obd x41 fun a45 =>
  jgd (cob C40 a45 6) <|
  obd (c_Row_put a45 (3 : Int32) x44 C40) fun C46 =>
  obd (cgA C46 v0 7 6) fun x47 =>
  obd x47 fun a48 =>
  jgd (cob C46 a48 6) <|
  obd (c_Row_put a48 (2 : Int32) x30 C46) fun C49 =>
  some (x30, C49)
set_option maxRecDepth 10000 in
def c_Row_size (v0 : Nat) (C : CT) : Option (Int32) :=
  obd (cgA C v0 6 0) fun x1 =>
  obd x1 fun a2 =>
  obd (cal C a2) fun x3 =>
  some x3
set_option maxRecDepth 10000 in
def c_Section_mean_27 (N : Nat) : Nat → Nat → Int64 → Int32 → CT → Option (Int64 × CT)
  | 0, _, _, _, _ => none
  | n + 1, v0, v3, v5, C =>
    obd (cgA C v0 7 6) fun x1 =>
    obd x1 fun a2 =>
    jgd (cob C a2 6) <|
    obd (c_Row_size a2 C) fun x3 =>
    if x3 ≤ v5 then (
      jgd (cob C v0 7) <|
      cbd2 (c_Section_settled v0 v3 C) fun x4 C5 =>
      jgd (cob C5 v0 7) <|
      obd (c_Section_times v0 (0 : Int32) x4 C5) fun x6 =>
      jgd (cob C5 v0 7) <|
      cbd2 (c_Section_settled v0 x6 C5) fun x7 C8 =>
      some (x7, C8))
    else
      obd (cgA C v0 7 4) fun x9 =>
      obd (cgA C v0 7 4) fun x10 =>
      obd (cgA C v0 7 6) fun x11 =>
      obd x11 fun a12 =>
      jgd (cob C a12 6) <|
      obd (c_Row_at a12 v5 C) fun x13 =>
      obd x10 fun a14 =>
      obd (if cob C a14 5 = true then some (g_Real_term a14 x13) else jgd (cob C a14 8) (some (g_Shorts_term a14 x13))) fun x15 =>
      obd x9 fun a16 =>
      obd (if cob C a16 5 = true then c_Real_plus a16 v3 x15 C else jgd (cob C a16 8) (some (g_Shorts_plus a16 v3 x15))) fun x17 =>
      c_Section_mean_27 N n v0 x17 (v5 + 1) C
set_option maxRecDepth 10000 in
def c_Section_mean (N : Nat) (v0 : Nat) (v1 : Int64) (C : CT) : Option (Int64 × CT) :=
  obd (cgA C v0 7 6) fun x1 =>
  obd x1 fun a2 =>
  jgd (cob C a2 6) <|
  obd (c_Row_push a2 v1 C) fun C3 =>
  obd (cgA C3 v0 7 4) fun x4 =>
  obd (cgA C3 v0 7 6) fun x5 =>
  obd x5 fun a6 =>
  jgd (cob C3 a6 6) <|
  obd (c_Row_at a6 (0 : Int32) C3) fun x7 =>
  obd x4 fun a8 =>
  obd (if cob C3 a8 5 = true then some (g_Real_term a8 x7) else jgd (cob C3 a8 8) (some (g_Shorts_term a8 x7))) fun x9 =>
  c_Section_mean_27 N N v0 x9 (1 : Int32) C3
set_option maxRecDepth 10000 in
def c_Section_pass (v0 : Nat) (v1 : Int64) (C : CT) : Option (Int64 × CT) :=
  obd (cgA C v0 7 6) fun x1 =>
  obd x1 fun a2 =>
  jgd (cob C a2 6) <|
  obd (c_Row_at a2 (0 : Int32) C) fun x3 =>
  obd (cgA C v0 7 4) fun x4 =>
  obd (cgA C v0 7 4) fun x5 =>
  obd x5 fun a6 =>
  obd (if cob C a6 5 = true then some (g_Real_term a6 v1) else jgd (cob C a6 8) (some (g_Shorts_term a6 v1))) fun x7 =>
  jgd (cob C v0 7) <|
  obd (c_Section_lessTimes v0 (0 : Int32) x3 C) fun x8 =>
  obd x4 fun a9 =>
  obd (if cob C a9 5 = true then c_Real_plus a9 x7 x8 C else jgd (cob C a9 8) (some (g_Shorts_plus a9 x7 x8))) fun x10 =>
  jgd (cob C v0 7) <|
  cbd2 (c_Section_settled v0 x10 C) fun x11 C12 =>
  obd (cgA C12 v0 7 4) fun x13 =>
  jgd (cob C12 v0 7) <|
  obd (c_Section_times v0 (0 : Int32) x11 C12) fun x14 =>
  obd (cgA C12 v0 7 4) fun x15 =>
  obd x15 fun a16 =>
  obd (if cob C12 a16 5 = true then some (g_Real_term a16 x3) else jgd (cob C12 a16 8) (some (g_Shorts_term a16 x3))) fun x17 =>
  obd x13 fun a18 =>
  obd (if cob C12 a18 5 = true then c_Real_plus a18 x14 x17 C12 else jgd (cob C12 a18 8) (some (g_Shorts_plus a18 x14 x17))) fun x19 =>
  jgd (cob C12 v0 7) <|
  cbd2 (c_Section_settled v0 x19 C12) fun x20 C21 =>
  obd (cgA C21 v0 7 6) fun x22 =>
  obd x22 fun a23 =>
  jgd (cob C21 a23 6) <|
  obd (c_Row_put a23 (0 : Int32) x11 C21) fun C24 =>
  some (x20, C24)
set_option maxRecDepth 10000 in
def c_Section_peak_47 (v0 : Nat) (s0 : Int64) (C : CT) : Option (Int64 × CT) :=
  obd (cgA C v0 7 6) fun x1 =>
  obd x1 fun a2 =>
  jgd (cob C a2 6) <|
  obd (c_Row_put a2 (0 : Int32) s0 C) fun C3 =>
  some (s0, C3)
set_option maxRecDepth 10000 in
def c_Section_peak (v0 : Nat) (v1 : Int64) (C : CT) : Option (Int64 × CT) :=
  obd (cgA C v0 7 4) fun x1 =>
  obd x1 fun a2 =>
  obd (if cob C a2 5 = true then c_Real_sizeOf a2 v1 C else jgd (cob C a2 8) (c_Shorts_sizeOf a2 v1 C)) fun x3 =>
  obd (cgA C v0 7 6) fun x4 =>
  obd x4 fun a5 =>
  jgd (cob C a5 6) <|
  obd (c_Row_at a5 (0 : Int32) C) fun x6 =>
  obd (cgA C v0 7 4) fun x7 =>
  obd x7 fun a8 =>
  obd (if cob C a8 5 = true then c_Numbers_above a8 x3 x6 C else jgd (cob C a8 8) (c_Numbers_above a8 x3 x6 C)) fun x9 =>
  if x9 = true then (
    c_Section_peak_47 v0 x3 C)
  else
    jgd (cob C v0 7) <|
    obd (c_Section_times v0 (0 : Int32) x6 C) fun x10 =>
    jgd (cob C v0 7) <|
    cbd2 (c_Section_settled v0 x10 C) fun x11 C12 =>
    c_Section_peak_47 v0 x11 C12
set_option maxRecDepth 10000 in
def c_Section_pole (v0 : Nat) (v1 : Int64) (C : CT) : Option (Int64 × CT) :=
  obd (cgA C v0 7 4) fun x1 =>
  jgd (cob C v0 7) <|
  obd (c_Section_times v0 (0 : Int32) v1 C) fun x2 =>
  obd (cgA C v0 7 6) fun x3 =>
  obd x3 fun a4 =>
  jgd (cob C a4 6) <|
  obd (c_Row_at a4 (0 : Int32) C) fun x5 =>
  jgd (cob C v0 7) <|
  obd (c_Section_times v0 (1 : Int32) x5 C) fun x6 =>
  obd x1 fun a7 =>
  obd (if cob C a7 5 = true then c_Real_plus a7 x2 x6 C else jgd (cob C a7 8) (some (g_Shorts_plus a7 x2 x6))) fun x8 =>
  jgd (cob C v0 7) <|
  cbd2 (c_Section_settled v0 x8 C) fun x9 C10 =>
  obd (cgA C10 v0 7 6) fun x11 =>
  obd x11 fun a12 =>
  jgd (cob C10 a12 6) <|
  obd (c_Row_put a12 (0 : Int32) x9 C10) fun C13 =>
  some (x9, C13)
set_option maxRecDepth 10000 in
def c_Section_second (v0 : Nat) (v1 : Int64) (C : CT) : Option (Int64 × CT) :=
  obd (cgA C v0 7 6) fun x1 =>
  obd x1 fun a2 =>
  jgd (cob C a2 6) <|
  obd (c_Row_at a2 (0 : Int32) C) fun x3 =>
  obd (cgA C v0 7 4) fun x4 =>
  obd (cgA C v0 7 4) fun x5 =>
  obd x5 fun a6 =>
  obd (if cob C a6 5 = true then some (g_Real_term a6 v1) else jgd (cob C a6 8) (some (g_Shorts_term a6 v1))) fun x7 =>
  jgd (cob C v0 7) <|
  obd (c_Section_lessTimes v0 (3 : Int32) x3 C) fun x8 =>
  obd x4 fun a9 =>
  obd (if cob C a9 5 = true then c_Real_plus a9 x7 x8 C else jgd (cob C a9 8) (some (g_Shorts_plus a9 x7 x8))) fun x10 =>
  obd (cgA C v0 7 4) fun x11 =>
  obd (cgA C v0 7 6) fun x12 =>
  obd x12 fun a13 =>
  jgd (cob C a13 6) <|
  obd (c_Row_at a13 (1 : Int32) C) fun x14 =>
  jgd (cob C v0 7) <|
  obd (c_Section_lessTimes v0 (4 : Int32) x14 C) fun x15 =>
  obd x11 fun a16 =>
  obd (if cob C a16 5 = true then c_Real_plus a16 x10 x15 C else jgd (cob C a16 8) (some (g_Shorts_plus a16 x10 x15))) fun x17 =>
  jgd (cob C v0 7) <|
  cbd2 (c_Section_settled v0 x17 C) fun x18 C19 =>
  obd (cgA C19 v0 7 4) fun x20 =>
  jgd (cob C19 v0 7) <|
  obd (c_Section_times v0 (0 : Int32) x18 C19) fun x21 =>
  jgd (cob C19 v0 7) <|
  obd (c_Section_times v0 (1 : Int32) x3 C19) fun x22 =>
  obd x20 fun a23 =>
  obd (if cob C19 a23 5 = true then c_Real_plus a23 x21 x22 C19 else jgd (cob C19 a23 8) (some (g_Shorts_plus a23 x21 x22))) fun x24 =>
  obd (cgA C19 v0 7 4) fun x25 =>
  obd (cgA C19 v0 7 6) fun x26 =>
  obd x26 fun a27 =>
  jgd (cob C19 a27 6) <|
  obd (c_Row_at a27 (1 : Int32) C19) fun x28 =>
  jgd (cob C19 v0 7) <|
  obd (c_Section_times v0 (2 : Int32) x28 C19) fun x29 =>
  obd x25 fun a30 =>
  obd (if cob C19 a30 5 = true then c_Real_plus a30 x24 x29 C19 else jgd (cob C19 a30 8) (some (g_Shorts_plus a30 x24 x29))) fun x31 =>
  jgd (cob C19 v0 7) <|
  cbd2 (c_Section_settled v0 x31 C19) fun x32 C33 =>
  obd (cgA C33 v0 7 6) fun x34 =>
  obd x34 fun a35 =>
  jgd (cob C33 a35 6) <|
  obd (c_Row_put a35 (1 : Int32) x3 C33) fun C36 =>
  obd (cgA C36 v0 7 6) fun x37 =>
  obd x37 fun a38 =>
  jgd (cob C36 a38 6) <|
  obd (c_Row_put a38 (0 : Int32) x18 C36) fun C39 =>
  some (x32, C39)
set_option maxRecDepth 10000 in
def c_Section_turned (v0 : Nat) (v1 : Int64) (C : CT) : Option (Int64 × CT) :=
  obd (cgA C v0 7 4) fun x1 =>
  jgd (cob C v0 7) <|
  obd (c_Section_times v0 (0 : Int32) v1 C) fun x2 =>
  obd (cgA C v0 7 4) fun x3 =>
  obd (cgA C v0 7 6) fun x4 =>
  obd x4 fun a5 =>
  jgd (cob C a5 6) <|
  obd (c_Row_at a5 (0 : Int32) C) fun x6 =>
  obd x3 fun a7 =>
  obd (if cob C a7 5 = true then some (g_Real_term a7 x6) else jgd (cob C a7 8) (some (g_Shorts_term a7 x6))) fun x8 =>
  obd x1 fun a9 =>
  obd (if cob C a9 5 = true then c_Real_plus a9 x2 x8 C else jgd (cob C a9 8) (some (g_Shorts_plus a9 x2 x8))) fun x10 =>
  jgd (cob C v0 7) <|
  cbd2 (c_Section_settled v0 x10 C) fun x11 C12 =>
  obd (cgA C12 v0 7 4) fun x13 =>
  jgd (cob C12 v0 7) <|
  obd (c_Section_times v0 (1 : Int32) v1 C12) fun x14 =>
  jgd (cob C12 v0 7) <|
  obd (c_Section_lessTimes v0 (3 : Int32) x11 C12) fun x15 =>
  obd x13 fun a16 =>
  obd (if cob C12 a16 5 = true then c_Real_plus a16 x14 x15 C12 else jgd (cob C12 a16 8) (some (g_Shorts_plus a16 x14 x15))) fun x17 =>
  obd (cgA C12 v0 7 6) fun x18 =>
  obd (cgA C12 v0 7 4) fun x19 =>
  obd (cgA C12 v0 7 4) fun x20 =>
  obd (cgA C12 v0 7 6) fun x21 =>
  obd x21 fun a22 =>
  jgd (cob C12 a22 6) <|
  obd (c_Row_at a22 (1 : Int32) C12) fun x23 =>
  obd x20 fun a24 =>
  obd (if cob C12 a24 5 = true then some (g_Real_term a24 x23) else jgd (cob C12 a24 8) (some (g_Shorts_term a24 x23))) fun x25 =>
  obd x19 fun a26 =>
  obd (if cob C12 a26 5 = true then c_Real_plus a26 x17 x25 C12 else jgd (cob C12 a26 8) (some (g_Shorts_plus a26 x17 x25))) fun x27 =>
  jgd (cob C12 v0 7) <|
  cbd2 (c_Section_settled v0 x27 C12) fun x28 C29 =>
  obd x18 fun a30 =>
  jgd (cob C29 a30 6) <|
  obd (c_Row_put a30 (0 : Int32) x28 C29) fun C31 =>
  obd (cgA C31 v0 7 6) fun x32 =>
  obd (cgA C31 v0 7 4) fun x33 =>
  jgd (cob C31 v0 7) <|
  obd (c_Section_times v0 (2 : Int32) v1 C31) fun x34 =>
  jgd (cob C31 v0 7) <|
  obd (c_Section_lessTimes v0 (4 : Int32) x11 C31) fun x35 =>
  obd x33 fun a36 =>
  obd (if cob C31 a36 5 = true then c_Real_plus a36 x34 x35 C31 else jgd (cob C31 a36 8) (some (g_Shorts_plus a36 x34 x35))) fun x37 =>
  jgd (cob C31 v0 7) <|
  cbd2 (c_Section_settled v0 x37 C31) fun x38 C39 =>
  obd x32 fun a40 =>
  jgd (cob C39 a40 6) <|
  obd (c_Row_put a40 (1 : Int32) x38 C39) fun C41 =>
  some (x11, C41)
set_option maxRecDepth 10000 in
def c_Section_step (N : Nat) (v0 : Nat) (v1 : Int64) (v3 : Int64) (C : CT) : Option (Int64 × CT) :=
  obd (cgI C v0 7 1) fun x1 =>
  if x1 = 0 then (
    jgd (cob C v0 7) <|
    obd (c_Section_times v0 (0 : Int32) v1 C) fun x2 =>
    jgd (cob C v0 7) <|
    cbd2 (c_Section_settled v0 x2 C) fun x3 C4 =>
    some (x3, C4))
  else
  if x1 = 1 then (
    jgd (cob C v0 7) <|
    cbd2 (c_Section_pole v0 v1 C) fun x5 C6 =>
    some (x5, C6))
  else
  if x1 = 2 then (
    jgd (cob C v0 7) <|
    cbd2 (c_Section_direct v0 v1 C) fun x7 C8 =>
    some (x7, C8))
  else
  if x1 = 3 then (
    jgd (cob C v0 7) <|
    cbd2 (c_Section_second v0 v1 C) fun x9 C10 =>
    some (x9, C10))
  else
  if x1 = 4 then (
    jgd (cob C v0 7) <|
    cbd2 (c_Section_turned v0 v1 C) fun x11 C12 =>
    some (x11, C12))
  else
  if x1 = 5 then (
    jgd (cob C v0 7) <|
    cbd2 (c_Section_pass v0 v1 C) fun x13 C14 =>
    some (x13, C14))
  else
  if x1 = 6 then (
    jgd (cob C v0 7) <|
    cbd2 (c_Section_delayed v0 v1 C) fun x15 C16 =>
    some (x15, C16))
  else
  if x1 = 7 then (
    jgd (cob C v0 7) <|
    cbd2 (c_Section_mean N v0 v1 C) fun x17 C18 =>
    some (x17, C18))
  else
  if x1 = 8 then (
    jgd (cob C v0 7) <|
    cbd2 (c_Section_comb v0 v1 C) fun x19 C20 =>
    some (x19, C20))
  else
  if x1 = 9 then (
    jgd (cob C v0 7) <|
    cbd2 (c_Section_clipped v0 v1 C) fun x21 C22 =>
    some (x21, C22))
  else
  if x1 = 10 then (
    jgd (cob C v0 7) <|
    cbd2 (c_Section_deadened v0 v1 C) fun x23 C24 =>
    some (x23, C24))
  else
  if x1 = 11 then (
    jgd (cob C v0 7) <|
    cbd2 (c_Section_peak v0 v1 C) fun x25 C26 =>
    some (x25, C26))
  else
  if x1 = 12 then (
    some (v1, C))
  else
  if x1 = 13 then (
    some (v1, C))
  else
  if x1 = 14 then (
    some (v1, C))
  else
  if x1 = 15 then (
    obd (cgA C v0 7 4) fun x27 =>
    jgd (cob C v0 7) <|
    obd (c_Section_times v0 (0 : Int32) v1 C) fun x28 =>
    jgd (cob C v0 7) <|
    obd (c_Section_times v0 (1 : Int32) v3 C) fun x29 =>
    obd x27 fun a30 =>
    obd (if cob C a30 5 = true then c_Real_plus a30 x28 x29 C else jgd (cob C a30 8) (some (g_Shorts_plus a30 x28 x29))) fun x31 =>
    jgd (cob C v0 7) <|
    cbd2 (c_Section_settled v0 x31 C) fun x32 C33 =>
    some (x32, C33))
  else
  some (v1, C)
set_option maxRecDepth 10000 in
def c_B_send_111 (N : Nat) (kS : Option Nat → Int32 → Int64 → Int32 → CT → Option (Int32 × CT)) (k73 : Nat → Int32 → Int64 → Int32 → Nat → Int32 → Int32 → CT → Option (Int32 × CT)) (v0 : Nat) (v4 : Int32) (v5 : Int64) (v7 : Int32) (v8 : Nat) (v10 : Int32) (s0 : Int64) (s1 : Int32) (s2 : Nat) (s3 : Int32) (C : CT) : Option (Int32 × CT) :=
  cbd2 (kS (some s2) s1 s0 (v4 + (1 : Int32)) C) fun x1 C2 =>
  k73 v0 v4 v5 v7 v8 (s3 + x1) (v10 + 1) C2
set_option maxRecDepth 10000 in
def c_B_send_105 (N : Nat) (kS : Option Nat → Int32 → Int64 → Int32 → CT → Option (Int32 × CT)) (k73 : Nat → Int32 → Int64 → Int32 → Nat → Int32 → Int32 → CT → Option (Int32 × CT)) (v0 : Nat) (v4 : Int32) (v5 : Int64) (v7 : Int32) (v8 : Nat) (v10 : Int32) (s0 : Int32) (s1 : Nat) (s2 : Int32) (C : CT) : Option (Int32 × CT) :=
  c_B_send_111 N kS k73 v0 v4 v5 v7 v8 v10 v5 s0 s1 s2 C
set_option maxRecDepth 10000 in
def c_B_send_73 (N : Nat) (kS : Option Nat → Int32 → Int64 → Int32 → CT → Option (Int32 × CT)) : Nat → Nat → Int32 → Int64 → Int32 → Nat → Int32 → Int32 → CT → Option (Int32 × CT)
  | 0, _, _, _, _, _, _, _, _ => none
  | n + 1, v0, v4, v5, v7, v8, v9, v10, C =>
    obd (cgI C v8 7 3) fun x1 =>
    if x1 ≤ v10 then (
      some (v9, C))
    else
      if v10 = 0 then (
        c_B_send_105 N kS (c_B_send_73 N kS n) v0 v4 v5 v7 v8 v10 (v7 + (1 : Int32)) v0 v9 C)
      else
        obd (cgI C v8 7 1) fun x2 =>
        if x2 = (14 : Int32) then (
          c_B_send_105 N kS (c_B_send_73 N kS n) v0 v4 v5 v7 v8 v10 (v7 + (1 : Int32)) v0 v9 C)
        else
          c_B_send_111 N kS (c_B_send_73 N kS n) v0 v4 v5 v7 v8 v10 (0 : Int64) (v7 + (1 : Int32)) v0 v9 C
set_option maxRecDepth 10000 in
def c_B_send_198 (N : Nat) (kS : Option Nat → Int32 → Int64 → Int32 → CT → Option (Int32 × CT)) (k15 : Option Nat → Int32 → Int64 → Int32 → CT → Option (Int32 × CT)) (v0 : Nat) (v4 : Int32) (v5 : Int64) (v7 : Int32) (C : CT) : Option (Int32 × CT) :=
  k15 (some v0) v4 v5 (v7 + 1) C
set_option maxRecDepth 10000 in
def c_B_send_179 (N : Nat) (kS : Option Nat → Int32 → Int64 → Int32 → CT → Option (Int32 × CT)) (k15 : Option Nat → Int32 → Int64 → Int32 → CT → Option (Int32 × CT)) (v0 : Nat) (v4 : Int32) (v5 : Int64) (v7 : Int32) (v8 : Nat) (v9 : Int64) (C : CT) : Option (Int32 × CT) :=
  jgd (cob C v8 7) <|
  cbd2 (c_Section_step N v8 v5 v9 C) fun x1 C2 =>
  jgd (cob C2 v0 1) <|
  obd (c_Chain_note N v0 v7 x1 C2) fun C3 =>
  c_B_send_198 N kS k15 v0 v4 x1 v7 C3
set_option maxRecDepth 10000 in
def c_B_send_15 (N : Nat) (kS : Option Nat → Int32 → Int64 → Int32 → CT → Option (Int32 × CT)) : Nat → Option Nat → Int32 → Int64 → Int32 → CT → Option (Int32 × CT)
  | 0, _, _, _, _, _ => none
  | n + 1, v0, v4, v5, v7, C =>
    obd v0 fun a1 =>
    obd (cgI C a1 1 2) fun x2 =>
    if x2 ≤ v7 then (
      jgd (cob C a1 1) <|
      obd (c_Chain_emit a1 v5 C) fun C3 =>
      some ((1 : Int32), C3))
    else
      jgd (cob C a1 1) <|
      obd (c_Chain_memberAt a1 v7 C) fun x4 =>
      jon x4 (
        some ((0 : Int32), C))
      fun a5 =>
        obd (cgI C a5 7 1) fun x6 =>
        if x6 = (12 : Int32) then (
          jgd (cob C a5 7) <|
          cbd2 (c_Section_letsThrough a5 C) fun x7 C8 =>
          if x7 = true then (
            c_B_send_198 N kS (c_B_send_15 N kS n) a1 v4 v5 v7 C8)
          else
            some ((0 : Int32), C8))
        else
          jgd (cob C a5 7) <|
          obd (c_Section_spreads a5 C) fun x9 =>
          if x9 = true then (
            c_B_send_73 N kS N a1 v4 v5 v7 a5 (0 : Int32) (0 : Int32) C)
          else
            jgd (cob C a1 1) <|
            cbd2 (c_Chain_looped N a1 v7 (some a5) v5 C) fun x10 C11 =>
            obd (cgA C11 a5 7 14) fun x12 =>
            jon x12 (
              c_B_send_179 N kS (c_B_send_15 N kS n) a1 v4 x10 v7 a5 (0 : Int64) C11)
            fun a13 =>
              obd (cgA C11 a5 7 14) fun x14 =>
              cbd2 (kS x14 (0 : Int32) x10 (v4 + (1 : Int32)) C11) fun x15 C16 =>
              obd (cgA C16 a5 7 14) fun x17 =>
              obd x17 fun a18 =>
              jgd (cob C16 a18 1) <|
              obd (c_Chain_madeLast a18 C16) fun x19 =>
              c_B_send_179 N kS (c_B_send_15 N kS n) a1 v4 x10 v7 a5 x19 C16
set_option maxRecDepth 10000 in
def c_B_send_b (N : Nat) (kS : Option Nat → Int32 → Int64 → Int32 → CT → Option (Int32 × CT)) (v0 : Option Nat) (v1 : Int32) (v2 : Int64) (v4 : Int32) (C : CT) : Option (Int32 × CT) :=
  if v4 ≤ (30 : Int32) then (
    c_B_send_15 N kS N v0 v4 v2 v1 C)
  else
    some ((0 : Int32), C)
set_option maxRecDepth 10000 in
def c_B_send (N : Nat) : Nat → Option Nat → Int32 → Int64 → Int32 → CT → Option (Int32 × CT)
  | 0, _, _, _, _, _ => none
  | n + 1, v0, v1, v2, v4, C => c_B_send_b N (c_B_send N n) v0 v1 v2 v4 C
set_option maxRecDepth 10000 in
def c_B_feed (N : Nat) (M : Nat) (v0 : Nat) (v1 : Int32) (v2 : Int64) (C : CT) : Option (Int32 × CT) :=
  jgd (cob C v0 0) <|
  obd (c_B_fedAlone v0 v1 C) fun x1 =>
  jon x1 (
    some ((-1 : Int32), C))
  fun a2 =>
    jgd (cob C a2 1) <|
    obd (c_Chain_sort a2 C) fun x3 =>
    jgd (cob C v0 0) <|
    obd (c_B_numbersOf v0 x3 C) fun x4 =>
    jon x4 (
      some ((-1 : Int32), C))
    fun a5 =>
      obd (if cob C a5 5 = true then c_Real_holds a5 v2 C else jgd (cob C a5 8) (some (g_Shorts_holds a5 v2))) fun x6 =>
      if x6 = true then (
        obd (if cob C a5 5 = true then c_Real_clean a5 v2 C else jgd (cob C a5 8) (some (g_Shorts_clean a5 v2))) fun x7 =>
        cbd2 (c_B_send N M (some a2) (0 : Int32) x7 (0 : Int32) C) fun x8 C9 =>
        some (x8, C9))
      else
        some ((-1 : Int32), C)
set_option maxRecDepth 10000 in
def c_Real_scaled_22 (v1 : Int64) (v3 : Int32) (s0 : Bool) (s1 : Nat) (C : CT) : Option (Int64) :=
  jgd (cob C s1 5) <|
  obd (c_Real_packed s1 s0 v3 (g_JMath_abs v1) C) fun x1 =>
  some x1
set_option maxRecDepth 10000 in
def c_Real_scaled (v0 : Nat) (v1 : Int64) (v3 : Int32) (C : CT) : Option (Int64) :=
  if v1 = (0 : Int64) then (
    some (0 : Int64))
  else
    if (0 : Int64) ≤ v1 then (
      c_Real_scaled_22 v1 v3 false v0 C)
    else
      c_Real_scaled_22 v1 v3 true v0 C
set_option maxRecDepth 10000 in
def c_Real_sample (v0 : Nat) (v1 : Int32) (C : CT) : Option (Int64) :=
  jgd (cob C v0 5) <|
  obd (c_Real_scaled v0 (Int32.toInt64 v1) (-8 : Int32) C) fun x1 =>
  some x1
set_option maxRecDepth 10000 in
def c_B_run_52 (N : Nat) (M : Nat) : Nat → Int32 → Nat → Nat → Int32 → Int32 → Int32 → CT → Option (Int32 × CT)
  | 0, _, _, _, _, _, _, _ => none
  | n + 1, v2, v4, v5, v6, v7, v8, C =>
    if v2 ≤ v8 then (
      some (v6, C))
    else
      obd (if cob C v5 5 = true then c_Real_sample v5 (Int16.toInt32 (Int32.toInt16 v7)) C else jgd (cob C v5 8) (some (g_Shorts_sample v5 (Int16.toInt32 (Int32.toInt16 v7))))) fun x1 =>
      cbd2 (c_B_send N M (some v4) (0 : Int32) x1 (0 : Int32) C) fun x2 C3 =>
      jlet ((v7 * (1103515245 : Int32)) + (12345 : Int32)) fun (v7_4 : Int32) =>
      c_B_run_52 N M n v2 v4 v5 (v6 + x2) v7_4 (v8 + 1) C3
set_option maxRecDepth 10000 in
def c_B_run (N : Nat) (M : Nat) (v0 : Nat) (v1 : Int32) (v2 : Int32) (v3 : Int32) (C : CT) : Option (Int32 × CT) :=
  jgd (cob C v0 0) <|
  obd (c_B_fedAlone v0 v1 C) fun x1 =>
  jon x1 (
    some ((-1 : Int32), C))
  fun a2 =>
    if v2 < (1 : Int32) then (
      some ((-1 : Int32), C))
    else
      if v2 ≤ (100 : Int32) then (
        jgd (cob C a2 1) <|
        obd (c_Chain_sort a2 C) fun x3 =>
        jgd (cob C v0 0) <|
        obd (c_B_numbersOf v0 x3 C) fun x4 =>
        jon x4 (
          some ((-1 : Int32), C))
        fun a5 =>
          c_B_run_52 N M N v2 a2 a5 (0 : Int32) v3 (0 : Int32) C)
      else
        some ((-1 : Int32), C)
set_option maxRecDepth 10000 in
def c_Chain_madeAs_12 (C : CT) : Option (Int64) :=
  some (0 : Int64)
set_option maxRecDepth 10000 in
def c_Chain_madeAs (v0 : Nat) (v1 : Int32) (C : CT) : Option (Int64) :=
  if v1 < 0 then (
    c_Chain_madeAs_12 C)
  else
    obd (cgI C v0 1 8) fun x1 =>
    if v1 < x1 then (
      obd (cgI C v0 1 8) fun x2 =>
      jgd (cob C v0 1) <|
      obd (c_Chain_madeBefore v0 ((x2 - (1 : Int32)) - v1) C) fun x3 =>
      some x3)
    else
      c_Chain_madeAs_12 C
set_option maxRecDepth 10000 in
def c_B_output (v0 : Nat) (v1 : Int32) (v2 : Int32) (C : CT) : Option (Int64) :=
  jgd (cob C v0 0) <|
  obd (c_B_chainAt v0 v1 C) fun x1 =>
  jon x1 (
    some (0 : Int64))
  fun a2 =>
    jgd (cob C a2 1) <|
    obd (c_Chain_madeAs a2 v2 C) fun x3 =>
    some x3
set_option maxRecDepth 10000 in
def c_Chain_greatestSize_43 (N : Nat) (k10 : Nat → Option Nat → Int64 → Int32 → CT → Option (Int64)) (v0 : Nat) (v1 : Nat) (v4 : Int32) (s0 : Int64) (C : CT) : Option (Int64) :=
  k10 v0 (some v1) s0 (v4 + (-1)) C
set_option maxRecDepth 10000 in
def c_Chain_greatestSize_10 (N : Nat) : Nat → Nat → Option Nat → Int64 → Int32 → CT → Option (Int64)
  | 0, _, _, _, _, _ => none
  | n + 1, v0, v1, v2, v4, C =>
    if v4 < 0 then (
      some v2)
    else
      jgd (cob C v0 1) <|
      obd (c_Chain_madeBefore v0 v4 C) fun x1 =>
      obd v1 fun a2 =>
      obd (if cob C a2 5 = true then c_Real_sizeOf a2 x1 C else jgd (cob C a2 8) (c_Shorts_sizeOf a2 x1 C)) fun x3 =>
      obd (if cob C a2 5 = true then c_Numbers_above a2 x3 v2 C else jgd (cob C a2 8) (c_Numbers_above a2 x3 v2 C)) fun x4 =>
      if x4 = true then (
        c_Chain_greatestSize_43 N (c_Chain_greatestSize_10 N n) v0 a2 v4 x3 C)
      else
        c_Chain_greatestSize_43 N (c_Chain_greatestSize_10 N n) v0 a2 v4 v2 C
set_option maxRecDepth 10000 in
def c_Chain_greatestSize (N : Nat) (v0 : Nat) (v1 : Option Nat) (C : CT) : Option (Int64) :=
  obd (cgI C v0 1 7) fun x1 =>
  c_Chain_greatestSize_10 N N v0 v1 (0 : Int64) (x1 - (1 : Int32)) C
set_option maxRecDepth 10000 in
def c_Chain_longestSilence_51 (N : Nat) (k12 : Nat → Option Nat → Int32 → Int32 → Int32 → CT → Option (Int32)) (v0 : Nat) (v1 : Nat) (v2 : Int32) (v4 : Int32) (s0 : Int32) (C : CT) : Option (Int32) :=
  k12 v0 (some v1) (g_JMath_max v2 s0) s0 (v4 + (-1)) C
set_option maxRecDepth 10000 in
def c_Chain_longestSilence_50 (N : Nat) (k12 : Nat → Option Nat → Int32 → Int32 → Int32 → CT → Option (Int32)) (v0 : Nat) (v1 : Nat) (v2 : Int32) (v4 : Int32) (C : CT) : Option (Int32) :=
  c_Chain_longestSilence_51 N k12 v0 v1 v2 v4 (0 : Int32) C
set_option maxRecDepth 10000 in
def c_Chain_longestSilence_12 (N : Nat) : Nat → Nat → Option Nat → Int32 → Int32 → Int32 → CT → Option (Int32)
  | 0, _, _, _, _, _, _ => none
  | n + 1, v0, v1, v2, v3, v4, C =>
    if v4 < 0 then (
      some v2)
    else
      jgd (cob C v0 1) <|
      obd (c_Chain_madeBefore v0 v4 C) fun x1 =>
      obd v1 fun a2 =>
      obd (if cob C a2 5 = true then c_Real_isNumber a2 x1 C else jgd (cob C a2 8) (some (g_Shorts_isNumber a2 x1))) fun x3 =>
      if x3 = true then (
        obd (if cob C a2 5 = true then c_Real_compared a2 x1 (0 : Int64) C else jgd (cob C a2 8) (some (g_Shorts_compared a2 x1 (0 : Int64)))) fun x4 =>
        if x4 = 0 then (
          c_Chain_longestSilence_51 N (c_Chain_longestSilence_12 N n) v0 a2 v2 v4 (v3 + (1 : Int32)) C)
        else
          c_Chain_longestSilence_50 N (c_Chain_longestSilence_12 N n) v0 a2 v2 v4 C)
      else
        c_Chain_longestSilence_50 N (c_Chain_longestSilence_12 N n) v0 a2 v2 v4 C
set_option maxRecDepth 10000 in
def c_Chain_longestSilence (N : Nat) (v0 : Nat) (v1 : Option Nat) (C : CT) : Option (Int32) :=
  obd (cgI C v0 1 7) fun x1 =>
  c_Chain_longestSilence_12 N N v0 v1 (0 : Int32) (0 : Int32) (x1 - (1 : Int32)) C
set_option maxRecDepth 10000 in
def c_Chain_signChanges_73 (N : Nat) (k12 : Nat → Option Nat → Int32 → Int32 → Int32 → CT → Option (Int32)) (v0 : Nat) (v1 : Nat) (v2 : Int32) (v4 : Int32) (s0 : Int32) (C : CT) : Option (Int32) :=
  k12 v0 (some v1) v2 s0 (v4 + (-1)) C
set_option maxRecDepth 10000 in
def c_Chain_signChanges_60 (N : Nat) (k12 : Nat → Option Nat → Int32 → Int32 → Int32 → CT → Option (Int32)) (v0 : Nat) (v1 : Nat) (v3 : Int32) (v4 : Int32) (v7 : Int32) (s0 : Bool) (s1 : Int32) (C : CT) : Option (Int32) :=
  if v7 = 0 then (
    c_Chain_signChanges_73 N k12 v0 v1 (s1 + (jb s0)) v4 v3 C)
  else
    c_Chain_signChanges_73 N k12 v0 v1 (s1 + (jb s0)) v4 v7 C
set_option maxRecDepth 10000 in
def c_Chain_signChanges_45 (N : Nat) (k12 : Nat → Option Nat → Int32 → Int32 → Int32 → CT → Option (Int32)) (v0 : Nat) (v1 : Nat) (v2 : Int32) (v3 : Int32) (v4 : Int32) (s0 : Int32) (C : CT) : Option (Int32) :=
  if 0 ≤ (s0 * v3) then (
    c_Chain_signChanges_60 N k12 v0 v1 v3 v4 s0 false v2 C)
  else
    c_Chain_signChanges_60 N k12 v0 v1 v3 v4 s0 true v2 C
set_option maxRecDepth 10000 in
def c_Chain_signChanges_12 (N : Nat) : Nat → Nat → Option Nat → Int32 → Int32 → Int32 → CT → Option (Int32)
  | 0, _, _, _, _, _, _ => none
  | n + 1, v0, v1, v2, v3, v4, C =>
    if v4 < 0 then (
      some v2)
    else
      jgd (cob C v0 1) <|
      obd (c_Chain_madeBefore v0 v4 C) fun x1 =>
      obd v1 fun a2 =>
      obd (if cob C a2 5 = true then c_Real_isNumber a2 x1 C else jgd (cob C a2 8) (some (g_Shorts_isNumber a2 x1))) fun x3 =>
      if x3 = true then (
        obd (if cob C a2 5 = true then c_Real_compared a2 x1 (0 : Int64) C else jgd (cob C a2 8) (some (g_Shorts_compared a2 x1 (0 : Int64)))) fun x4 =>
        c_Chain_signChanges_45 N (c_Chain_signChanges_12 N n) v0 a2 v2 v3 v4 x4 C)
      else
        c_Chain_signChanges_45 N (c_Chain_signChanges_12 N n) v0 a2 v2 v3 v4 (0 : Int32) C
set_option maxRecDepth 10000 in
def c_Chain_signChanges (N : Nat) (v0 : Nat) (v1 : Option Nat) (C : CT) : Option (Int32) :=
  obd (cgI C v0 1 7) fun x1 =>
  c_Chain_signChanges_12 N N v0 v1 (0 : Int32) (0 : Int32) (x1 - (1 : Int32)) C
set_option maxRecDepth 10000 in
def c_B_measure (N : Nat) (v0 : Nat) (v1 : Int32) (v2 : Int32) (C : CT) : Option (Int64) :=
  jgd (cob C v0 0) <|
  obd (c_B_chainAt v0 v1 C) fun x1 =>
  jon x1 (
    some (0 : Int64))
  fun a2 =>
    jgd (cob C a2 1) <|
    obd (c_Chain_sort a2 C) fun x3 =>
    jgd (cob C v0 0) <|
    obd (c_B_numbersOf v0 x3 C) fun x4 =>
    jon x4 (
      some (0 : Int64))
    fun a5 =>
      if v2 = 0 then (
        jgd (cob C a2 1) <|
        obd (c_Chain_greatestSize N a2 (some a5) C) fun x6 =>
        some x6)
      else
      if v2 = 1 then (
        jgd (cob C a2 1) <|
        obd (c_Chain_signChanges N a2 (some a5) C) fun x7 =>
        some (Int32.toInt64 x7))
      else
      if v2 = 2 then (
        jgd (cob C a2 1) <|
        obd (c_Chain_longestSilence N a2 (some a5) C) fun x8 =>
        some (Int32.toInt64 x8))
      else
      some (0 : Int64)
set_option maxRecDepth 10000 in
def c_B_gathered (v0 : Nat) (v1 : Option Nat) (v2 : Int32) (C : CT) : Option (Int32 × CT) :=
  jon v1 (
    some (v2, C))
  fun a1 =>
    if v2 < 0 then (
      some (v2, C))
    else
      obd (cgA C v0 0 9) fun x2 =>
      obd x2 fun a3 =>
      obd (cal C a3) fun x4 =>
      if v2 < x4 then (
        obd (cgA C v0 0 9) fun x5 =>
        obd x5 fun a6 =>
        obd (cqA C a6 1 v2 a1) fun C7 =>
        some ((v2 + (1 : Int32)), C7))
      else
        some (v2, C)
set_option maxRecDepth 10000 in
def c_B_gather_77 (N : Nat) (k9 : Nat → Int32 → Int32 → CT → Option (Int32 × CT)) (k34 : Nat → Int32 → Int32 → Option Nat → Int32 → CT → Option (Int32 × CT)) (v0 : Nat) (v3 : Int32) (v4 : Nat) (v5 : Int32) (s0 : Int32) (C : CT) : Option (Int32 × CT) :=
  k34 v0 s0 v3 (some v4) (v5 + 1) C
set_option maxRecDepth 10000 in
def c_B_gather_84 (N : Nat) (k9 : Nat → Int32 → Int32 → CT → Option (Int32 × CT)) (v0 : Nat) (v2 : Int32) (v3 : Int32) (C : CT) : Option (Int32 × CT) :=
  k9 v0 v2 (v3 + 1) C
set_option maxRecDepth 10000 in
def c_B_gather_34 (N : Nat) (k9 : Nat → Int32 → Int32 → CT → Option (Int32 × CT)) : Nat → Nat → Int32 → Int32 → Option Nat → Int32 → CT → Option (Int32 × CT)
  | 0, _, _, _, _, _, _ => none
  | n + 1, v0, v2, v3, v4, v5, C =>
    jon v4 (
      c_B_gather_84 N k9 v0 v2 v3 C)
    fun a1 =>
      obd (cgI C a1 1 2) fun x2 =>
      if x2 ≤ v5 then (
        c_B_gather_84 N k9 v0 v2 v3 C)
      else
        jgd (cob C a1 1) <|
        obd (c_Chain_memberAt a1 v5 C) fun x3 =>
        jon x3 (
          c_B_gather_77 N k9 (c_B_gather_34 N k9 n) v0 v3 a1 v5 v2 C)
        fun a4 =>
          obd (cgA C a4 7 14) fun x5 =>
          jgd (cob C v0 0) <|
          cbd2 (c_B_gathered v0 x5 v2 C) fun x6 C7 =>
          c_B_gather_77 N k9 (c_B_gather_34 N k9 n) v0 v3 a1 v5 x6 C7
set_option maxRecDepth 10000 in
def c_B_gather_9 (N : Nat) : Nat → Nat → Int32 → Int32 → CT → Option (Int32 × CT)
  | 0, _, _, _, _ => none
  | n + 1, v0, v2, v3, C =>
    if v2 ≤ v3 then (
      some (v2, C))
    else
      obd (cgA C v0 0 9) fun x1 =>
      obd x1 fun a2 =>
      obd (cal C a2) fun x3 =>
      if x3 ≤ v3 then (
        some (v2, C))
      else
        obd (cgA C v0 0 9) fun x4 =>
        obd x4 fun a5 =>
        obd (caA C a5 1 v3) fun x6 =>
        c_B_gather_34 N (c_B_gather_9 N n) N v0 v2 v3 x6 (0 : Int32) C
set_option maxRecDepth 10000 in
def c_B_gather (N : Nat) (v0 : Nat) (v1 : Option Nat) (C : CT) : Option (Int32 × CT) :=
  jgd (cob C v0 0) <|
  cbd2 (c_B_gathered v0 v1 (0 : Int32) C) fun x1 C2 =>
  c_B_gather_9 N N v0 x1 (0 : Int32) C2
set_option maxRecDepth 10000 in
def c_Chain_rowAt (v0 : Nat) (v1 : Int32) (C : CT) : Option (Option Nat) :=
  obd (cgI C v0 1 2) fun x1 =>
  if ((2 : Int32) * x1) ≤ v1 then (
    obd (cgI C v0 1 2) fun x2 =>
    jgd (cob C v0 1) <|
    obd (c_Chain_loopAt v0 (v1 - ((2 : Int32) * x2)) C) fun x3 =>
    jon x3 (
      some none)
    fun a4 =>
      obd (cgA C a4 4 3) fun x5 =>
      some x5)
  else
    jgd (cob C v0 1) <|
    obd (c_Chain_memberAt v0 (v1 >>> ((1 : Int32) &&& 31)) C) fun x6 =>
    jon x6 (
      some none)
    fun a7 =>
      if (v1 &&& (1 : Int32)) = 0 then (
        obd (cgA C a7 7 9) fun x8 =>
        some x8)
      else
        obd (cgA C a7 7 6) fun x9 =>
        some x9
set_option maxRecDepth 10000 in
def c_Chain_rowCount (v0 : Nat) (C : CT) : Option (Int32) :=
  obd (cgI C v0 1 2) fun x1 =>
  obd (cgI C v0 1 4) fun x2 =>
  some (((2 : Int32) * x1) + x2)
set_option maxRecDepth 10000 in
def c_JArrays_fill_6 (N : Nat) : Nat → Nat → Int64 → Int32 → Int32 → CT → Option CT
  | 0, _, _, _, _, _ => none
  | n + 1, v0, v1, v3, v4, C =>
    if v4 ≤ v3 then (
      some C)
    else
      obd (cqJ C v0 v3 v1) fun C1 =>
      c_JArrays_fill_6 N n v0 v1 (v3 + 1) v4 C1
set_option maxRecDepth 10000 in
def c_JArrays_fill (N : Nat) (v0 : Option Nat) (v1 : Int64) (C : CT) : Option CT :=
  obd v0 fun a1 =>
  obd (cal C a1) fun x2 =>
  c_JArrays_fill_6 N N a1 v1 (0 : Int32) x2 C
set_option maxRecDepth 10000 in
def c_Row_clear (N : Nat) (v0 : Nat) (C : CT) : Option CT :=
  obd (cgA C v0 6 0) fun x1 =>
  obd (c_JArrays_fill N x1 (0 : Int64) C) fun C2 =>
  some C2
set_option maxRecDepth 10000 in
def c_Chain_silence_24 (N : Nat) (k2 : Nat → Int32 → CT → Option CT) (v0 : Nat) (v1 : Int32) (C : CT) : Option CT :=
  k2 v0 (v1 + 1) C
set_option maxRecDepth 10000 in
def c_Chain_silence_2 (N : Nat) : Nat → Nat → Int32 → CT → Option CT
  | 0, _, _, _ => none
  | n + 1, v0, v1, C =>
    jgd (cob C v0 1) <|
    obd (c_Chain_rowCount v0 C) fun x1 =>
    if x1 ≤ v1 then (
      obd (cpI C v0 1 6 (0 : Int32)) fun C2 =>
      obd (cpI C2 v0 1 7 (0 : Int32)) fun C3 =>
      obd (cpI C3 v0 1 8 (0 : Int32)) fun C4 =>
      some C4)
    else
      jgd (cob C v0 1) <|
      obd (c_Chain_rowAt v0 v1 C) fun x5 =>
      jon x5 (
        c_Chain_silence_24 N (c_Chain_silence_2 N n) v0 v1 C)
      fun a6 =>
        jgd (cob C a6 6) <|
        obd (c_Row_clear N a6 C) fun C7 =>
        c_Chain_silence_24 N (c_Chain_silence_2 N n) v0 v1 C7
set_option maxRecDepth 10000 in
def c_Chain_silence (N : Nat) (v0 : Nat) (C : CT) : Option CT :=
  c_Chain_silence_2 N N v0 (0 : Int32) C
set_option maxRecDepth 10000 in
def c_B_reset_57 (N : Nat) (k21 : Nat → Int32 → Int32 → CT → Option (Bool × CT)) (v0 : Nat) (v3 : Int32) (v4 : Int32) (C : CT) : Option (Bool × CT) :=
  k21 v0 v3 (v4 + 1) C
set_option maxRecDepth 10000 in
def c_B_reset_21 (N : Nat) : Nat → Nat → Int32 → Int32 → CT → Option (Bool × CT)
  | 0, _, _, _, _ => none
  | n + 1, v0, v3, v4, C =>
    if v3 ≤ v4 then (
      some (true, C))
    else
      obd (cgA C v0 0 9) fun x1 =>
      obd x1 fun a2 =>
      obd (cal C a2) fun x3 =>
      if x3 ≤ v4 then (
        some (true, C))
      else
        obd (cgA C v0 0 9) fun x4 =>
        obd x4 fun a5 =>
        obd (caA C a5 1 v4) fun x6 =>
        jon x6 (
          c_B_reset_57 N (c_B_reset_21 N n) v0 v3 v4 C)
        fun a7 =>
          obd (cgA C v0 0 9) fun x8 =>
          obd x8 fun a9 =>
          obd (caA C a9 1 v4) fun x10 =>
          obd x10 fun a11 =>
          jgd (cob C a11 1) <|
          obd (c_Chain_silence N a11 C) fun C12 =>
          c_B_reset_57 N (c_B_reset_21 N n) v0 v3 v4 C12
set_option maxRecDepth 10000 in
def c_B_reset (N : Nat) (v0 : Nat) (v1 : Int32) (C : CT) : Option (Bool × CT) :=
  jgd (cob C v0 0) <|
  obd (c_B_chainAt v0 v1 C) fun x1 =>
  jon x1 (
    some (false, C))
  fun a2 =>
    jgd (cob C v0 0) <|
    cbd2 (c_B_gather N v0 (some a2) C) fun x3 C4 =>
    c_B_reset_21 N N v0 x3 (0 : Int32) C4
set_option maxRecDepth 10000 in
def c_Row_save_35 (N : Nat) (k2 : Nat → Option Nat → Int32 → Int32 → CT → Option (Int32 × CT)) (v0 : Nat) (v1 : Option Nat) (v2 : Int32) (v3 : Int32) (C : CT) : Option (Int32 × CT) :=
  k2 v0 v1 v2 (v3 + 1) C
set_option maxRecDepth 10000 in
def c_Row_save_2 (N : Nat) : Nat → Nat → Option Nat → Int32 → Int32 → CT → Option (Int32 × CT)
  | 0, _, _, _, _, _ => none
  | n + 1, v0, v1, v2, v3, C =>
    obd (cgA C v0 6 0) fun x1 =>
    obd x1 fun a2 =>
    obd (cal C a2) fun x3 =>
    if x3 ≤ v3 then (
      obd (cgA C v0 6 0) fun x4 =>
      obd x4 fun a5 =>
      obd (cal C a5) fun x6 =>
      some ((v2 + x6), C))
    else
      if (v2 + v3) < 0 then (
        c_Row_save_35 N (c_Row_save_2 N n) v0 v1 v2 v3 C)
      else
        obd v1 fun a7 =>
        obd (cal C a7) fun x8 =>
        if x8 ≤ (v2 + v3) then (
          c_Row_save_35 N (c_Row_save_2 N n) v0 (some a7) v2 v3 C)
        else
          jgd (cob C v0 6) <|
          obd (c_Row_at v0 v3 C) fun x9 =>
          obd (cqJ C a7 (v2 + v3) x9) fun C10 =>
          c_Row_save_35 N (c_Row_save_2 N n) v0 (some a7) v2 v3 C10
set_option maxRecDepth 10000 in
def c_Row_save (N : Nat) (v0 : Nat) (v1 : Option Nat) (v2 : Int32) (C : CT) : Option (Int32 × CT) :=
  c_Row_save_2 N N v0 v1 v2 (0 : Int32) C
set_option maxRecDepth 10000 in
def c_Chain_save_38 (N : Nat) (k5 : Nat → Option Nat → Int32 → Int32 → CT → Option (Int32 × CT)) (v0 : Nat) (v1 : Option Nat) (v4 : Int32) (s0 : Int32) (C : CT) : Option (Int32 × CT) :=
  k5 v0 v1 s0 (v4 + 1) C
set_option maxRecDepth 10000 in
def c_Chain_save_5 (N : Nat) : Nat → Nat → Option Nat → Int32 → Int32 → CT → Option (Int32 × CT)
  | 0, _, _, _, _, _ => none
  | n + 1, v0, v1, v3, v4, C =>
    jgd (cob C v0 1) <|
    obd (c_Chain_rowCount v0 C) fun x1 =>
    if x1 ≤ v4 then (
      some (v3, C))
    else
      jgd (cob C v0 1) <|
      obd (c_Chain_rowAt v0 v4 C) fun x2 =>
      jon x2 (
        c_Chain_save_38 N (c_Chain_save_5 N n) v0 v1 v4 v3 C)
      fun a3 =>
        jgd (cob C a3 6) <|
        cbd2 (c_Row_save N a3 v1 v3 C) fun x4 C5 =>
        c_Chain_save_38 N (c_Chain_save_5 N n) v0 v1 v4 x4 C5
set_option maxRecDepth 10000 in
def c_Chain_save (N : Nat) (v0 : Nat) (v1 : Option Nat) (v2 : Int32) (C : CT) : Option (Int32 × CT) :=
  c_Chain_save_5 N N v0 v1 v2 (0 : Int32) C
set_option maxRecDepth 10000 in
def c_Chain_valueCount_31 (N : Nat) (k4 : Nat → Int32 → Int32 → CT → Option (Int32)) (v0 : Nat) (v2 : Int32) (s0 : Int32) (s1 : Int32) (C : CT) : Option (Int32) :=
  k4 v0 (s1 + s0) (v2 + 1) C
set_option maxRecDepth 10000 in
def c_Chain_valueCount_4 (N : Nat) : Nat → Nat → Int32 → Int32 → CT → Option (Int32)
  | 0, _, _, _, _ => none
  | n + 1, v0, v1, v2, C =>
    jgd (cob C v0 1) <|
    obd (c_Chain_rowCount v0 C) fun x1 =>
    if x1 ≤ v2 then (
      some v1)
    else
      jgd (cob C v0 1) <|
      obd (c_Chain_rowAt v0 v2 C) fun x2 =>
      jon x2 (
        c_Chain_valueCount_31 N (c_Chain_valueCount_4 N n) v0 v2 (0 : Int32) v1 C)
      fun a3 =>
        jgd (cob C a3 6) <|
        obd (c_Row_size a3 C) fun x4 =>
        c_Chain_valueCount_31 N (c_Chain_valueCount_4 N n) v0 v2 x4 v1 C
set_option maxRecDepth 10000 in
def c_Chain_valueCount (N : Nat) (v0 : Nat) (C : CT) : Option (Int32) :=
  c_Chain_valueCount_4 N N v0 (0 : Int32) (0 : Int32) C
set_option maxRecDepth 10000 in
def c_Kept_init_36 (s0 : Int32) (s1 : Nat) (C : CT) : Option CT :=
  cbd2 (cnJ s0 C) fun a1 C2 =>
  obd (cpA C2 s1 3 2 (some a1)) fun C3 =>
  some C3
set_option maxRecDepth 10000 in
def c_Kept_init_21 (v0 : Nat) (v3 : Int32) (s0 : Int32) (s1 : Nat) (C : CT) : Option CT :=
  cbd2 (cnI s0 C) fun a1 C2 =>
  obd (cpA C2 s1 3 1 (some a1)) fun C3 =>
  if 0 ≤ v3 then (
    c_Kept_init_36 v3 v0 C3)
  else
    c_Kept_init_36 (0 : Int32) v0 C3
set_option maxRecDepth 10000 in
def c_Kept_init (v0 : Nat) (v1 : Option Nat) (v2 : Int32) (v3 : Int32) (C : CT) : Option CT :=
  obd (cpA C v0 3 0 v1) fun C1 =>
  if 0 ≤ v2 then (
    c_Kept_init_21 v0 v3 (v2 * (3 : Int32)) v0 C1)
  else
    c_Kept_init_21 v0 v3 (0 : Int32) v0 C1
set_option maxRecDepth 10000 in
def c_Kept_shape (v0 : Nat) (v1 : Int32) (v2 : Option Nat) (C : CT) : Option CT :=
  if (v1 * (3 : Int32)) < 0 then (
    some C)
  else
    obd (cgA C v0 3 1) fun x1 =>
    obd x1 fun a2 =>
    obd (cal C a2) fun x3 =>
    if x3 ≤ ((v1 * (3 : Int32)) + (2 : Int32)) then (
      some C)
    else
      obd (cgA C v0 3 1) fun x4 =>
      obd v2 fun a5 =>
      obd (cgI C a5 1 0) fun x6 =>
      obd x4 fun a7 =>
      obd (cqI C a7 (v1 * (3 : Int32)) x6) fun C8 =>
      obd (cgA C8 v0 3 1) fun x9 =>
      obd (cgI C8 a5 1 2) fun x10 =>
      obd x9 fun a11 =>
      obd (cqI C8 a11 ((v1 * (3 : Int32)) + (1 : Int32)) x10) fun C12 =>
      obd (cgA C12 v0 3 1) fun x13 =>
      obd (cgI C12 a5 1 4) fun x14 =>
      obd x13 fun a15 =>
      obd (cqI C12 a15 ((v1 * (3 : Int32)) + (2 : Int32)) x14) fun C16 =>
      some C16
set_option maxRecDepth 10000 in
def c_B_keep_85 (N : Nat) (k43 : Nat → Nat → Int32 → Int32 → Int32 → CT → Option (Int32 × CT)) (v0 : Nat) (v2 : Nat) (v3 : Int32) (v5 : Int32) (s0 : Int32) (s1 : Int32) (C : CT) : Option (Int32 × CT) :=
  k43 v0 v2 v3 (s1 + s0) (v5 + 1) C
set_option maxRecDepth 10000 in
def c_B_keep_172 (N : Nat) (k113 : Nat → Int32 → Nat → Int32 → Int32 → CT → Option (Int32 × CT)) (v0 : Nat) (v3 : Int32) (v5 : Nat) (v6 : Int32) (v7 : Int32) (C : CT) : Option (Int32 × CT) :=
  k113 v0 v3 v5 v6 (v7 + 1) C
set_option maxRecDepth 10000 in
def c_B_keep_178 (N : Nat) (v0 : Nat) (v5 : Nat) (C : CT) : Option (Int32 × CT) :=
  obd (cgA C v0 0 7) fun x1 =>
  obd (cgI C v0 0 8) fun x2 =>
  obd x1 fun a3 =>
  obd (cqA C a3 3 x2 v5) fun C4 =>
  obd (cgI C4 v0 0 8) fun x5 =>
  obd (cpI C4 v0 0 8 (x5 + (1 : Int32))) fun C6 =>
  obd (cgI C6 v0 0 8) fun x7 =>
  some ((x7 - (1 : Int32)), C6)
set_option maxRecDepth 10000 in
def c_B_keep_113 (N : Nat) : Nat → Nat → Int32 → Nat → Int32 → Int32 → CT → Option (Int32 × CT)
  | 0, _, _, _, _, _, _ => none
  | n + 1, v0, v3, v5, v6, v7, C =>
    if v3 ≤ v7 then (
      c_B_keep_178 N v0 v5 C)
    else
      obd (cgA C v0 0 9) fun x1 =>
      obd x1 fun a2 =>
      obd (cal C a2) fun x3 =>
      if x3 ≤ v7 then (
        c_B_keep_178 N v0 v5 C)
      else
        obd (cgA C v0 0 9) fun x4 =>
        obd x4 fun a5 =>
        obd (caA C a5 1 v7) fun x6 =>
        jon x6 (
          c_B_keep_172 N (c_B_keep_113 N n) v0 v3 v5 v6 v7 C)
        fun a7 =>
          obd (cgA C v0 0 9) fun x8 =>
          obd x8 fun a9 =>
          obd (caA C a9 1 v7) fun x10 =>
          jgd (cob C v5 3) <|
          obd (c_Kept_shape v5 v7 x10 C) fun C11 =>
          obd (cgA C11 v0 0 9) fun x12 =>
          obd x12 fun a13 =>
          obd (caA C11 a13 1 v7) fun x14 =>
          obd (cgA C11 v5 3 2) fun x15 =>
          obd x14 fun a16 =>
          jgd (cob C11 a16 1) <|
          cbd2 (c_Chain_save N a16 x15 v6 C11) fun x17 C18 =>
          c_B_keep_172 N (c_B_keep_113 N n) v0 v3 v5 x17 v7 C18
set_option maxRecDepth 10000 in
def c_B_keep_94 (N : Nat) (v0 : Nat) (v2 : Nat) (v3 : Int32) (v4 : Int32) (C : CT) : Option (Int32 × CT) :=
  cnew 3 C fun a1 C2 =>
  obd (c_Kept_init a1 (some v2) v3 v4 C2) fun C3 =>
  c_B_keep_113 N N v0 v3 a1 (0 : Int32) (0 : Int32) C3
set_option maxRecDepth 10000 in
def c_B_keep_43 (N : Nat) : Nat → Nat → Nat → Int32 → Int32 → Int32 → CT → Option (Int32 × CT)
  | 0, _, _, _, _, _, _ => none
  | n + 1, v0, v2, v3, v4, v5, C =>
    if v3 ≤ v5 then (
      c_B_keep_94 N v0 v2 v3 v4 C)
    else
      obd (cgA C v0 0 9) fun x1 =>
      obd x1 fun a2 =>
      obd (cal C a2) fun x3 =>
      if x3 ≤ v5 then (
        c_B_keep_94 N v0 v2 v3 v4 C)
      else
        obd (cgA C v0 0 9) fun x4 =>
        obd x4 fun a5 =>
        obd (caA C a5 1 v5) fun x6 =>
        jon x6 (
          c_B_keep_85 N (c_B_keep_43 N n) v0 v2 v3 v5 (0 : Int32) v4 C)
        fun a7 =>
          obd (cgA C v0 0 9) fun x8 =>
          obd x8 fun a9 =>
          obd (caA C a9 1 v5) fun x10 =>
          obd x10 fun a11 =>
          jgd (cob C a11 1) <|
          obd (c_Chain_valueCount N a11 C) fun x12 =>
          c_B_keep_85 N (c_B_keep_43 N n) v0 v2 v3 v5 x12 v4 C
set_option maxRecDepth 10000 in
def c_B_keep (N : Nat) (v0 : Nat) (v1 : Int32) (C : CT) : Option (Int32 × CT) :=
  jgd (cob C v0 0) <|
  obd (c_B_chainAt v0 v1 C) fun x1 =>
  jon x1 (
    some ((-1 : Int32), C))
  fun a2 =>
    obd (cgI C v0 0 8) fun x3 =>
    if x3 < 0 then (
      some ((-1 : Int32), C))
    else
      obd (cgI C v0 0 8) fun x4 =>
      obd (cgA C v0 0 7) fun x5 =>
      obd x5 fun a6 =>
      obd (cal C a6) fun x7 =>
      if x4 < x7 then (
        jgd (cob C v0 0) <|
        cbd2 (c_B_gather N v0 (some a2) C) fun x8 C9 =>
        c_B_keep_43 N N v0 a2 x8 (0 : Int32) (0 : Int32) C9)
      else
        some ((-1 : Int32), C)
set_option maxRecDepth 10000 in
def c_Kept_chainCount (v0 : Nat) (C : CT) : Option (Int32) :=
  obd (cgA C v0 3 1) fun x1 =>
  obd x1 fun a2 =>
  obd (cal C a2) fun x3 =>
  some (x3 / (3 : Int32))
set_option maxRecDepth 10000 in
def c_Kept_isShaped (v0 : Nat) (v1 : Int32) (v2 : Option Nat) (C : CT) : Option (Bool) :=
  if (v1 * (3 : Int32)) < 0 then (
    some false)
  else
    obd (cgA C v0 3 1) fun x1 =>
    obd x1 fun a2 =>
    obd (cal C a2) fun x3 =>
    if x3 ≤ ((v1 * (3 : Int32)) + (2 : Int32)) then (
      some false)
    else
      obd (cgA C v0 3 1) fun x4 =>
      obd x4 fun a5 =>
      obd (caI C a5 (v1 * (3 : Int32))) fun x6 =>
      obd v2 fun a7 =>
      obd (cgI C a7 1 0) fun x8 =>
      if x6 = x8 then (
        obd (cgA C v0 3 1) fun x9 =>
        obd x9 fun a10 =>
        obd (caI C a10 ((v1 * (3 : Int32)) + (1 : Int32))) fun x11 =>
        obd (cgI C a7 1 2) fun x12 =>
        if x11 = x12 then (
          obd (cgA C v0 3 1) fun x13 =>
          obd x13 fun a14 =>
          obd (caI C a14 ((v1 * (3 : Int32)) + (2 : Int32))) fun x15 =>
          obd (cgI C a7 1 4) fun x16 =>
          if x15 = x16 then (
            some true)
          else
            some false)
        else
          some false)
      else
        some false
set_option maxRecDepth 10000 in
def c_B_gatherAsKept_21 (N : Nat) : Nat → Nat → Nat → Int32 → Int32 → CT → Option (Bool × CT)
  | 0, _, _, _, _, _ => none
  | n + 1, v0, v1, v2, v3, C =>
    if v2 ≤ v3 then (
      some (true, C))
    else
      obd (cgA C v0 0 9) fun x1 =>
      obd x1 fun a2 =>
      obd (cal C a2) fun x3 =>
      if x3 ≤ v3 then (
        some (true, C))
      else
        obd (cgA C v0 0 9) fun x4 =>
        obd x4 fun a5 =>
        obd (caA C a5 1 v3) fun x6 =>
        jon x6 (
          some (false, C))
        fun a7 =>
          obd (cgA C v0 0 9) fun x8 =>
          obd x8 fun a9 =>
          obd (caA C a9 1 v3) fun x10 =>
          jgd (cob C v1 3) <|
          obd (c_Kept_isShaped v1 v3 x10 C) fun x11 =>
          if x11 = true then (
            c_B_gatherAsKept_21 N n v0 v1 v2 (v3 + 1) C)
          else
            some (false, C)
set_option maxRecDepth 10000 in
def c_B_gatherAsKept (N : Nat) (v0 : Nat) (v1 : Option Nat) (C : CT) : Option (Bool × CT) :=
  obd v1 fun a1 =>
  obd (cgA C a1 3 0) fun x2 =>
  jgd (cob C v0 0) <|
  cbd2 (c_B_gather N v0 x2 C) fun x3 C4 =>
  jgd (cob C4 a1 3) <|
  obd (c_Kept_chainCount a1 C4) fun x5 =>
  if x3 = x5 then (
    c_B_gatherAsKept_21 N N v0 a1 x3 (0 : Int32) C4)
  else
    some (false, C4)
set_option maxRecDepth 10000 in
def c_B_keptAt_21 (C : CT) : Option (Option Nat) :=
  some none
set_option maxRecDepth 10000 in
def c_B_keptAt (v0 : Nat) (v1 : Int32) (C : CT) : Option (Option Nat) :=
  if v1 < 0 then (
    c_B_keptAt_21 C)
  else
    obd (cgI C v0 0 8) fun x1 =>
    if x1 ≤ v1 then (
      c_B_keptAt_21 C)
    else
      obd (cgA C v0 0 7) fun x2 =>
      obd x2 fun a3 =>
      obd (cal C a3) fun x4 =>
      if v1 < x4 then (
        obd (cgA C v0 0 7) fun x5 =>
        obd x5 fun a6 =>
        obd (caA C a6 3 v1) fun x7 =>
        some x7)
      else
        c_B_keptAt_21 C
set_option maxRecDepth 10000 in
def c_Row_load_35 (N : Nat) (k2 : Nat → Option Nat → Int32 → Int32 → CT → Option (Int32 × CT)) (v0 : Nat) (v1 : Option Nat) (v2 : Int32) (v3 : Int32) (C : CT) : Option (Int32 × CT) :=
  k2 v0 v1 v2 (v3 + 1) C
set_option maxRecDepth 10000 in
def c_Row_load_2 (N : Nat) : Nat → Nat → Option Nat → Int32 → Int32 → CT → Option (Int32 × CT)
  | 0, _, _, _, _, _ => none
  | n + 1, v0, v1, v2, v3, C =>
    obd (cgA C v0 6 0) fun x1 =>
    obd x1 fun a2 =>
    obd (cal C a2) fun x3 =>
    if x3 ≤ v3 then (
      obd (cgA C v0 6 0) fun x4 =>
      obd x4 fun a5 =>
      obd (cal C a5) fun x6 =>
      some ((v2 + x6), C))
    else
      if (v2 + v3) < 0 then (
        c_Row_load_35 N (c_Row_load_2 N n) v0 v1 v2 v3 C)
      else
        obd v1 fun a7 =>
        obd (cal C a7) fun x8 =>
        if x8 ≤ (v2 + v3) then (
          c_Row_load_35 N (c_Row_load_2 N n) v0 (some a7) v2 v3 C)
        else
          obd (caJ C a7 (v2 + v3)) fun x9 =>
          jgd (cob C v0 6) <|
          obd (c_Row_put v0 v3 x9 C) fun C10 =>
          c_Row_load_35 N (c_Row_load_2 N n) v0 (some a7) v2 v3 C10
set_option maxRecDepth 10000 in
def c_Row_load (N : Nat) (v0 : Nat) (v1 : Option Nat) (v2 : Int32) (C : CT) : Option (Int32 × CT) :=
  c_Row_load_2 N N v0 v1 v2 (0 : Int32) C
set_option maxRecDepth 10000 in
def c_Chain_load_38 (N : Nat) (k5 : Nat → Option Nat → Int32 → Int32 → CT → Option (Int32 × CT)) (v0 : Nat) (v1 : Option Nat) (v4 : Int32) (s0 : Int32) (C : CT) : Option (Int32 × CT) :=
  k5 v0 v1 s0 (v4 + 1) C
set_option maxRecDepth 10000 in
def c_Chain_load_5 (N : Nat) : Nat → Nat → Option Nat → Int32 → Int32 → CT → Option (Int32 × CT)
  | 0, _, _, _, _, _ => none
  | n + 1, v0, v1, v3, v4, C =>
    jgd (cob C v0 1) <|
    obd (c_Chain_rowCount v0 C) fun x1 =>
    if x1 ≤ v4 then (
      some (v3, C))
    else
      jgd (cob C v0 1) <|
      obd (c_Chain_rowAt v0 v4 C) fun x2 =>
      jon x2 (
        c_Chain_load_38 N (c_Chain_load_5 N n) v0 v1 v4 v3 C)
      fun a3 =>
        jgd (cob C a3 6) <|
        cbd2 (c_Row_load N a3 v1 v3 C) fun x4 C5 =>
        c_Chain_load_38 N (c_Chain_load_5 N n) v0 v1 v4 x4 C5
set_option maxRecDepth 10000 in
def c_Chain_load (N : Nat) (v0 : Nat) (v1 : Option Nat) (v2 : Int32) (C : CT) : Option (Int32 × CT) :=
  c_Chain_load_5 N N v0 v1 v2 (0 : Int32) C
set_option maxRecDepth 10000 in
def c_B_back_70 (N : Nat) (k25 : Nat → Nat → Int32 → Int32 → CT → Option (Bool × CT)) (v0 : Nat) (v2 : Nat) (v3 : Int32) (v4 : Int32) (C : CT) : Option (Bool × CT) :=
  k25 v0 v2 v3 (v4 + 1) C
set_option maxRecDepth 10000 in
def c_B_back_25 (N : Nat) : Nat → Nat → Nat → Int32 → Int32 → CT → Option (Bool × CT)
  | 0, _, _, _, _, _ => none
  | n + 1, v0, v2, v3, v4, C =>
    jgd (cob C v2 3) <|
    obd (c_Kept_chainCount v2 C) fun x1 =>
    if x1 ≤ v4 then (
      some (true, C))
    else
      obd (cgA C v0 0 9) fun x2 =>
      obd x2 fun a3 =>
      obd (cal C a3) fun x4 =>
      if x4 ≤ v4 then (
        some (true, C))
      else
        obd (cgA C v0 0 9) fun x5 =>
        obd x5 fun a6 =>
        obd (caA C a6 1 v4) fun x7 =>
        jon x7 (
          c_B_back_70 N (c_B_back_25 N n) v0 v2 v3 v4 C)
        fun a8 =>
          obd (cgA C v0 0 9) fun x9 =>
          obd x9 fun a10 =>
          obd (caA C a10 1 v4) fun x11 =>
          obd (cgA C v2 3 2) fun x12 =>
          obd x11 fun a13 =>
          jgd (cob C a13 1) <|
          cbd2 (c_Chain_load N a13 x12 v3 C) fun x14 C15 =>
          c_B_back_70 N (c_B_back_25 N n) v0 v2 x14 v4 C15
set_option maxRecDepth 10000 in
def c_B_back (N : Nat) (v0 : Nat) (v1 : Int32) (C : CT) : Option (Bool × CT) :=
  jgd (cob C v0 0) <|
  obd (c_B_keptAt v0 v1 C) fun x1 =>
  jon x1 (
    some (false, C))
  fun a2 =>
    jgd (cob C v0 0) <|
    cbd2 (c_B_gatherAsKept N v0 (some a2) C) fun x3 C4 =>
    if x3 = true then (
      c_B_back_25 N N v0 a2 (0 : Int32) (0 : Int32) C4)
    else
      some (false, C4)
set_option maxRecDepth 10000 in
def c_Row_holdsValues_2 (N : Nat) : Nat → Nat → Option Nat → Int32 → Int32 → CT → Option (Bool)
  | 0, _, _, _, _, _ => none
  | n + 1, v0, v1, v2, v3, C =>
    obd (cgA C v0 6 0) fun x1 =>
    obd x1 fun a2 =>
    obd (cal C a2) fun x3 =>
    if x3 ≤ v3 then (
      some true)
    else
      if (v2 + v3) < 0 then (
        some false)
      else
        obd v1 fun a4 =>
        obd (cal C a4) fun x5 =>
        if x5 ≤ (v2 + v3) then (
          some false)
        else
          obd (caJ C a4 (v2 + v3)) fun x6 =>
          jgd (cob C v0 6) <|
          obd (c_Row_at v0 v3 C) fun x7 =>
          if x6 = x7 then (
            c_Row_holdsValues_2 N n v0 (some a4) v2 (v3 + 1) C)
          else
            some false
set_option maxRecDepth 10000 in
def c_Row_holdsValues (N : Nat) (v0 : Nat) (v1 : Option Nat) (v2 : Int32) (C : CT) : Option (Bool) :=
  c_Row_holdsValues_2 N N v0 v1 v2 (0 : Int32) C
set_option maxRecDepth 10000 in
def c_Chain_holdsValues_5 (N : Nat) : Nat → Nat → Option Nat → Int32 → Int32 → CT → Option (Bool)
  | 0, _, _, _, _, _ => none
  | n + 1, v0, v1, v3, v4, C =>
    jgd (cob C v0 1) <|
    obd (c_Chain_rowCount v0 C) fun x1 =>
    if x1 ≤ v4 then (
      some true)
    else
      jgd (cob C v0 1) <|
      obd (c_Chain_rowAt v0 v4 C) fun x2 =>
      jon x2 (
        some false)
      fun a3 =>
        jgd (cob C a3 6) <|
        obd (c_Row_holdsValues N a3 v1 v3 C) fun x4 =>
        if x4 = true then (
          jgd (cob C a3 6) <|
          obd (c_Row_size a3 C) fun x5 =>
          c_Chain_holdsValues_5 N n v0 v1 (v3 + x5) (v4 + 1) C)
        else
          some false
set_option maxRecDepth 10000 in
def c_Chain_holdsValues (N : Nat) (v0 : Nat) (v1 : Option Nat) (v2 : Int32) (C : CT) : Option (Bool) :=
  c_Chain_holdsValues_5 N N v0 v1 v2 (0 : Int32) C
set_option maxRecDepth 10000 in
def c_B_same_25 (N : Nat) : Nat → Nat → Nat → Int32 → Int32 → CT → Option (Bool × CT)
  | 0, _, _, _, _, _ => none
  | n + 1, v0, v2, v3, v4, C =>
    jgd (cob C v2 3) <|
    obd (c_Kept_chainCount v2 C) fun x1 =>
    if x1 ≤ v4 then (
      some (true, C))
    else
      obd (cgA C v0 0 9) fun x2 =>
      obd x2 fun a3 =>
      obd (cal C a3) fun x4 =>
      if x4 ≤ v4 then (
        some (true, C))
      else
        obd (cgA C v0 0 9) fun x5 =>
        obd x5 fun a6 =>
        obd (caA C a6 1 v4) fun x7 =>
        jon x7 (
          some (false, C))
        fun a8 =>
          obd (cgA C v0 0 9) fun x9 =>
          obd x9 fun a10 =>
          obd (caA C a10 1 v4) fun x11 =>
          obd (cgA C v2 3 2) fun x12 =>
          obd x11 fun a13 =>
          jgd (cob C a13 1) <|
          obd (c_Chain_holdsValues N a13 x12 v3 C) fun x14 =>
          if x14 = true then (
            obd (cgA C v0 0 9) fun x15 =>
            obd x15 fun a16 =>
            obd (caA C a16 1 v4) fun x17 =>
            obd x17 fun a18 =>
            jgd (cob C a18 1) <|
            obd (c_Chain_valueCount N a18 C) fun x19 =>
            c_B_same_25 N n v0 v2 (v3 + x19) (v4 + 1) C)
          else
            some (false, C)
set_option maxRecDepth 10000 in
def c_B_same (N : Nat) (v0 : Nat) (v1 : Int32) (C : CT) : Option (Bool × CT) :=
  jgd (cob C v0 0) <|
  obd (c_B_keptAt v0 v1 C) fun x1 =>
  jon x1 (
    some (false, C))
  fun a2 =>
    jgd (cob C v0 0) <|
    cbd2 (c_B_gatherAsKept N v0 (some a2) C) fun x3 C4 =>
    if x3 = true then (
      c_B_same_25 N N v0 a2 (0 : Int32) (0 : Int32) C4)
    else
      some (false, C4)
set_option maxRecDepth 10000 in
def c_B_comparedToOnePlus (v0 : Nat) (v1 : Int64) (v3 : Int64) (C : CT) : Option (Int32) :=
  obd (cgA C v0 0 0) fun x1 =>
  obd x1 fun a2 =>
  jgd (cob C a2 5) <|
  obd (c_Real_compared a2 v1 (4611686018427387904 : Int64) C) fun x3 =>
  if x3 ≤ 0 then (
    obd (cgA C v0 0 0) fun x4 =>
    obd x4 fun a5 =>
    jgd (cob C a5 5) <|
    obd (c_Real_compared a5 v1 (4602678819172646912 : Int64) C) fun x6 =>
    if x6 < 0 then (
      obd (cgA C v0 0 0) fun x7 =>
      obd (cgA C v0 0 0) fun x8 =>
      obd x8 fun a9 =>
      jgd (cob C a9 5) <|
      obd (c_Real_negative a9 (4602678819172646912 : Int64) C) fun x10 =>
      obd x7 fun a11 =>
      jgd (cob C a11 5) <|
      obd (c_Real_compared a11 v3 x10 C) fun x12 =>
      if x12 ≤ 0 then (
        obd (cgA C v0 0 0) fun x13 =>
        obd (cgA C v0 0 0) fun x14 =>
        obd x14 fun a15 =>
        jgd (cob C a15 5) <|
        obd (c_Real_plus a15 v3 (4607182418800017408 : Int64) C) fun x16 =>
        obd x13 fun a17 =>
        jgd (cob C a17 5) <|
        obd (c_Real_compared a17 x16 v1 C) fun x18 =>
        some x18)
      else
        some (1 : Int32))
    else
      obd (cgA C v0 0 0) fun x19 =>
      obd (cgA C v0 0 0) fun x20 =>
      obd (cgA C v0 0 0) fun x21 =>
      obd x21 fun a22 =>
      jgd (cob C a22 5) <|
      obd (c_Real_negative a22 (4607182418800017408 : Int64) C) fun x23 =>
      obd x20 fun a24 =>
      jgd (cob C a24 5) <|
      obd (c_Real_plus a24 v1 x23 C) fun x25 =>
      obd x19 fun a26 =>
      jgd (cob C a26 5) <|
      obd (c_Real_compared a26 v3 x25 C) fun x27 =>
      some x27)
  else
    some (-1 : Int32)
set_option maxRecDepth 10000 in
def c_Real_isFinite (v0 : Nat) (v1 : Int64) (C : CT) : Option (Bool) :=
  obd (cgJ C v0 5 4) fun x1 =>
  obd (cgJ C v0 5 5) fun x2 =>
  if x2 ≤ (v1 &&& (x1 ^^^ (-1 : Int64))) then (
    some false)
  else
    some true
set_option maxRecDepth 10000 in
def c_B_judgedPair_80 (s0 : Int32) (C : CT) : Option (Int32) :=
  some (g_B_judged s0)
set_option maxRecDepth 10000 in
def c_B_judgedPair (v0 : Nat) (v1 : Int64) (v3 : Int64) (C : CT) : Option (Int32) :=
  obd (cgA C v0 0 0) fun x1 =>
  obd x1 fun a2 =>
  jgd (cob C a2 5) <|
  obd (c_Real_isFinite a2 v1 C) fun x3 =>
  if x3 = true then (
    obd (cgA C v0 0 0) fun x4 =>
    obd x4 fun a5 =>
    jgd (cob C a5 5) <|
    obd (c_Real_isFinite a5 v3 C) fun x6 =>
    if x6 = true then (
      obd (cgA C v0 0 0) fun x7 =>
      obd (cgA C v0 0 0) fun x8 =>
      obd x8 fun a9 =>
      jgd (cob C a9 5) <|
      obd (c_Real_sizeOf a9 v3 C) fun x10 =>
      obd x7 fun a11 =>
      jgd (cob C a11 5) <|
      obd (c_Real_compared a11 (4607182418800017408 : Int64) x10 C) fun x12 =>
      if 0 ≤ x12 then (
        obd (cgA C v0 0 0) fun x13 =>
        obd x13 fun a14 =>
        jgd (cob C a14 5) <|
        obd (c_Real_sizeOf a14 v1 C) fun x15 =>
        jgd (cob C v0 0) <|
        obd (c_B_comparedToOnePlus v0 x15 v3 C) fun x16 =>
        if x12 ≤ x16 then (
          c_B_judgedPair_80 x12 C)
        else
          c_B_judgedPair_80 x16 C)
      else
        some (0 : Int32))
    else
      some (0 : Int32))
  else
    some (0 : Int32)
set_option maxRecDepth 10000 in
def c_B_judgedPole (v0 : Nat) (v1 : Int64) (C : CT) : Option (Int32) :=
  obd (cgA C v0 0 0) fun x1 =>
  obd x1 fun a2 =>
  jgd (cob C a2 5) <|
  obd (c_Real_isFinite a2 v1 C) fun x3 =>
  if x3 = true then (
    obd (cgA C v0 0 0) fun x4 =>
    obd (cgA C v0 0 0) fun x5 =>
    obd x5 fun a6 =>
    jgd (cob C a6 5) <|
    obd (c_Real_sizeOf a6 v1 C) fun x7 =>
    obd x4 fun a8 =>
    jgd (cob C a8 5) <|
    obd (c_Real_compared a8 (4607182418800017408 : Int64) x7 C) fun x9 =>
    some (g_B_judged x9))
  else
    some (0 : Int32)
set_option maxRecDepth 10000 in
def c_Real_meaning_e (v0 : Nat) (v1 : Int64) (v4 : Option Nat) (C : CT) : Option (Int64) :=
  obd v4 fun a1 =>
  jgd (cob C a1 5) <|
  obd (c_Real_taken a1 (some v0) v1 C) fun x2 =>
  some x2
set_option maxRecDepth 10000 in
def c_Real_meaning (v0 : Nat) (v1 : Int64) (v3 : Bool) (v4 : Option Nat) (C : CT) : Option (Int64) := c_Real_meaning_e v0 v1 v4 C
set_option maxRecDepth 10000 in
def c_Shorts_meaning_13 (s0 : Int32) (s1 : Int64) (s2 : Option Nat) (C : CT) : Option (Int64) :=
  obd s2 fun a1 =>
  jgd (cob C a1 5) <|
  obd (c_Real_scaled a1 s1 s0 C) fun x2 =>
  some x2
set_option maxRecDepth 10000 in
def c_Shorts_meaning_e (v1 : Int64) (v3 : Bool) (v4 : Option Nat) (C : CT) : Option (Int64) :=
  if v3 = true then (
    c_Shorts_meaning_13 (0 : Int32) v1 v4 C)
  else
    c_Shorts_meaning_13 (-14 : Int32) v1 v4 C
set_option maxRecDepth 10000 in
def c_Shorts_meaning (v0 : Nat) (v1 : Int64) (v3 : Bool) (v4 : Option Nat) (C : CT) : Option (Int64) := c_Shorts_meaning_e v1 v3 v4 C
set_option maxRecDepth 10000 in
def c_B_meaningOf (v0 : Nat) (v1 : Option Nat) (v2 : Int32) (C : CT) : Option (Int64) :=
  obd v1 fun a1 =>
  obd (cgA C a1 7 4) fun x2 =>
  jgd (cob C a1 7) <|
  obd (c_Section_factor a1 v2 C) fun x3 =>
  jgd (cob C a1 7) <|
  obd (c_Section_takesWhole a1 C) fun x4 =>
  obd (cgA C v0 0 0) fun x5 =>
  obd x2 fun a6 =>
  obd (if cob C a6 5 = true then c_Real_meaning a6 x3 x4 x5 C else jgd (cob C a6 8) (c_Shorts_meaning a6 x3 x4 x5 C)) fun x7 =>
  some x7
set_option maxRecDepth 10000 in
def c_B_poles_74 (v0 : Nat) (v2 : Nat) (C : CT) : Option (Int32) :=
  jgd (cob C v0 0) <|
  obd (c_B_meaningOf v0 (some v2) (3 : Int32) C) fun x1 =>
  jgd (cob C v0 0) <|
  obd (c_B_meaningOf v0 (some v2) (4 : Int32) C) fun x2 =>
  jgd (cob C v0 0) <|
  obd (c_B_judgedPair v0 x1 x2 C) fun x3 =>
  some x3
set_option maxRecDepth 10000 in
def c_B_poles (v0 : Nat) (v1 : Int32) (C : CT) : Option (Int32) :=
  jgd (cob C v0 0) <|
  obd (c_B_sectionAt v0 v1 C) fun x1 =>
  jon x1 (
    some (-1 : Int32))
  fun a2 =>
    obd (cgI C a2 7 1) fun x3 =>
    if x3 = 1 then (
      jgd (cob C v0 0) <|
      obd (c_B_meaningOf v0 (some a2) (1 : Int32) C) fun x4 =>
      jgd (cob C v0 0) <|
      obd (c_B_judgedPole v0 x4 C) fun x5 =>
      some x5)
    else
    if x3 = 2 then (
      c_B_poles_74 v0 a2 C)
    else
    if x3 = 3 then (
      c_B_poles_74 v0 a2 C)
    else
    if x3 = 4 then (
      c_B_poles_74 v0 a2 C)
    else
    if x3 = 5 then (
      jgd (cob C v0 0) <|
      obd (c_B_meaningOf v0 (some a2) (0 : Int32) C) fun x6 =>
      jgd (cob C v0 0) <|
      obd (c_B_judgedPole v0 x6 C) fun x7 =>
      some x7)
    else
    some (-1 : Int32)
set_option maxRecDepth 10000 in
def c_JArrays_fill_2_5 (N : Nat) : Nat → Nat → Int32 → Int32 → Int32 → CT → Option CT
  | 0, _, _, _, _, _ => none
  | n + 1, v0, v1, v2, v3, C =>
    if v3 ≤ v2 then (
      some C)
    else
      obd (cqI C v0 v2 v1) fun C1 =>
      c_JArrays_fill_2_5 N n v0 v1 (v2 + 1) v3 C1
set_option maxRecDepth 10000 in
def c_JArrays_fill_2 (N : Nat) (v0 : Option Nat) (v1 : Int32) (C : CT) : Option CT :=
  obd v0 fun a1 =>
  obd (cal C a1) fun x2 =>
  c_JArrays_fill_2_5 N N a1 v1 (0 : Int32) x2 C
set_option maxRecDepth 10000 in
def c_DeadCycles_begin_14 (N : Nat) (v0 : Nat) (C : CT) : Option CT :=
  cbd2 (cnI (65536 : Int32) C) fun a1 C2 =>
  obd (cpA C2 v0 2 5 (some a1)) fun C3 =>
  cbd2 (cnJ (65536 : Int32) C3) fun a4 C5 =>
  obd (cpA C5 v0 2 6 (some a4)) fun C6 =>
  some C6
set_option maxRecDepth 10000 in
def c_DeadCycles_begin (N : Nat) (v0 : Nat) (C : CT) : Option CT :=
  obd (cgA C v0 2 5) fun x1 =>
  jon x1 (
    c_DeadCycles_begin_14 N v0 C)
  fun a2 =>
    obd (cgA C v0 2 6) fun x3 =>
    jon x3 (
      c_DeadCycles_begin_14 N v0 C)
    fun a4 =>
      obd (cgA C v0 2 5) fun x5 =>
      obd (c_JArrays_fill_2 N x5 (0 : Int32) C) fun C6 =>
      obd (cgA C6 v0 2 6) fun x7 =>
      obd (c_JArrays_fill N x7 (0 : Int64) C6) fun C8 =>
      some C8
set_option maxRecDepth 10000 in
def c_DeadCycles_setOwner (v0 : Nat) (v1 : Int32) (v2 : Int32) (C : CT) : Option CT :=
  obd (cgA C v0 2 5) fun x1 =>
  jon x1 (
    some C)
  fun a2 =>
    if v1 < 0 then (
      some C)
    else
      obd (cgA C v0 2 5) fun x3 =>
      obd x3 fun a4 =>
      obd (cal C a4) fun x5 =>
      if x5 ≤ v1 then (
        some C)
      else
        obd (cgA C v0 2 5) fun x6 =>
        obd x6 fun a7 =>
        obd (cqI C a7 v1 v2) fun C8 =>
        some C8
set_option maxRecDepth 10000 in
def c_DeadCycles_setTally (v0 : Nat) (v1 : Int32) (v2 : Int64) (C : CT) : Option CT :=
  obd (cgA C v0 2 6) fun x1 =>
  jon x1 (
    some C)
  fun a2 =>
    if v1 < 0 then (
      some C)
    else
      obd (cgA C v0 2 6) fun x3 =>
      obd x3 fun a4 =>
      obd (cal C a4) fun x5 =>
      if x5 ≤ v1 then (
        some C)
      else
        obd (cgA C v0 2 6) fun x6 =>
        obd x6 fun a7 =>
        obd (cqJ C a7 v1 v2) fun C8 =>
        some C8
set_option maxRecDepth 10000 in
def c_DeadCycles_tallyOf_20 (C : CT) : Option (Int64) :=
  some (0 : Int64)
set_option maxRecDepth 10000 in
def c_DeadCycles_tallyOf (v0 : Nat) (v1 : Int32) (C : CT) : Option (Int64) :=
  obd (cgA C v0 2 6) fun x1 =>
  jon x1 (
    c_DeadCycles_tallyOf_20 C)
  fun a2 =>
    if v1 < 0 then (
      c_DeadCycles_tallyOf_20 C)
    else
      obd (cgA C v0 2 6) fun x3 =>
      obd x3 fun a4 =>
      obd (cal C a4) fun x5 =>
      if v1 < x5 then (
        obd (cgA C v0 2 6) fun x6 =>
        obd x6 fun a7 =>
        obd (caJ C a7 v1) fun x8 =>
        some x8)
      else
        c_DeadCycles_tallyOf_20 C
set_option maxRecDepth 10000 in
def c_DeadCycles_gatherFound_55 (N : Nat) (k7 : Nat → Int32 → CT → Option CT) (v0 : Nat) (v1 : Int32) (C : CT) : Option CT :=
  k7 v0 (v1 + 1) C
set_option maxRecDepth 10000 in
def c_DeadCycles_gatherFound_7 (N : Nat) : Nat → Nat → Int32 → CT → Option CT
  | 0, _, _, _ => none
  | n + 1, v0, v1, C =>
    if (65536 : Int32) ≤ v1 then (
      some C)
    else
      jgd (cob C v0 2) <|
      obd (c_DeadCycles_tallyOf v0 v1 C) fun x1 =>
      if x1 = (0 : Int64) then (
        c_DeadCycles_gatherFound_55 N (c_DeadCycles_gatherFound_7 N n) v0 v1 C)
      else
        obd (cgI C v0 2 4) fun x2 =>
        jgd (cob C v0 2) <|
        obd (c_DeadCycles_tallyOf v0 v1 C) fun x3 =>
        jgd (cob C v0 2) <|
        obd (c_DeadCycles_setTally v0 x2 x3 C) fun C4 =>
        obd (cgI C4 v0 2 4) fun x5 =>
        jgd (cob C4 v0 2) <|
        obd (c_DeadCycles_setOwner v0 x5 v1 C4) fun C6 =>
        obd (cgI C6 v0 2 4) fun x7 =>
        obd (cpI C6 v0 2 4 (x7 + (1 : Int32))) fun C8 =>
        c_DeadCycles_gatherFound_55 N (c_DeadCycles_gatherFound_7 N n) v0 v1 C8
set_option maxRecDepth 10000 in
def c_DeadCycles_gatherFound (N : Nat) (v0 : Nat) (C : CT) : Option CT :=
  obd (cpI C v0 2 4 (0 : Int32)) fun C1 =>
  c_DeadCycles_gatherFound_7 N N v0 (0 : Int32) C1
set_option maxRecDepth 10000 in
def c_DeadCycles_ownerOf_20 (C : CT) : Option (Int32) :=
  some (0 : Int32)
set_option maxRecDepth 10000 in
def c_DeadCycles_ownerOf (v0 : Nat) (v1 : Int32) (C : CT) : Option (Int32) :=
  obd (cgA C v0 2 5) fun x1 =>
  jon x1 (
    c_DeadCycles_ownerOf_20 C)
  fun a2 =>
    if v1 < 0 then (
      c_DeadCycles_ownerOf_20 C)
    else
      obd (cgA C v0 2 5) fun x3 =>
      obd x3 fun a4 =>
      obd (cal C a4) fun x5 =>
      if v1 < x5 then (
        obd (cgA C v0 2 5) fun x6 =>
        obd x6 fun a7 =>
        obd (caI C a7 v1) fun x8 =>
        some x8)
      else
        c_DeadCycles_ownerOf_20 C
set_option maxRecDepth 10000 in
def c_DeadCycles_next_38 (s0 : Int64) (C : CT) : Option (Int32) :=
  some ((Int64.toInt32 s0) - (-32768 : Int32))
set_option maxRecDepth 10000 in
def c_DeadCycles_next (v0 : Nat) (v1 : Int32) (C : CT) : Option (Int32) :=
  obd (cgJ C v0 2 1) fun x1 =>
  obd (cgI C v0 2 2) fun x2 =>
  jlet (g_Shorts_rounded (x1 * (Int32.toInt64 (v1 + (-32768 : Int32)))) x2) fun (v2_3 : Int64) =>
  if (g_Shorts_isShort v2_3) = true then (
    c_DeadCycles_next_38 v2_3 C)
  else
    obd (cgI C v0 2 3) fun x4 =>
    c_DeadCycles_next_38 (g_Shorts_limited v2_3 x4) C
set_option maxRecDepth 10000 in
def c_DeadCycles_newCycle_51 (N : Nat) (v0 : Nat) (v2 : Int32) (v3 : Int32) (C : CT) : Option (Int32 × CT) :=
  jgd (cob C v0 2) <|
  obd (c_DeadCycles_setTally v0 v2 (Int32.toInt64 v3) C) fun C1 =>
  some ((v2 + (1 : Int32)), C1)
set_option maxRecDepth 10000 in
def c_DeadCycles_newCycle_14 (N : Nat) : Nat → Nat → Int32 → Int32 → Int32 → Int32 → Int32 → CT → Option (Int32 × CT)
  | 0, _, _, _, _, _, _, _ => none
  | n + 1, v0, v1, v2, v3, v4, v5, C =>
    if (65536 : Int32) ≤ v5 then (
      c_DeadCycles_newCycle_51 N v0 v2 v3 C)
    else
      if v4 = v1 then (
        c_DeadCycles_newCycle_51 N v0 v2 v3 C)
      else
        jgd (cob C v0 2) <|
        obd (c_DeadCycles_next v0 v4 C) fun x1 =>
        c_DeadCycles_newCycle_14 N n v0 v1 (g_JMath_min v2 v4) (v3 + 1) x1 (v5 + 1) C
set_option maxRecDepth 10000 in
def c_DeadCycles_newCycle (N : Nat) (v0 : Nat) (v1 : Int32) (C : CT) : Option (Int32 × CT) :=
  jgd (cob C v0 2) <|
  obd (c_DeadCycles_next v0 v1 C) fun x1 =>
  c_DeadCycles_newCycle_14 N N v0 v1 v1 (1 : Int32) x1 (0 : Int32) C
set_option maxRecDepth 10000 in
def c_DeadCycles_walk_112 (N : Nat) (v0 : Nat) (v4 : Int32) (v5 : Int32) (C : CT) : Option CT :=
  jgd (cob C v0 2) <|
  obd (c_DeadCycles_tallyOf v0 (v4 - (1 : Int32)) C) fun x1 =>
  jgd (cob C v0 2) <|
  obd (c_DeadCycles_setTally v0 (v4 - (1 : Int32)) (x1 + ((Int32.toInt64 v5) <<< (Int32.toInt64 (32 : Int32) &&& 63))) C) fun C2 =>
  some C2
set_option maxRecDepth 10000 in
def c_DeadCycles_walk_74 (N : Nat) : Nat → Nat → Int32 → Int32 → Int32 → Int32 → Int32 → CT → Option CT
  | 0, _, _, _, _, _, _, _ => none
  | n + 1, v0, v2, v3, v4, v5, v6, C =>
    if (65536 : Int32) ≤ v6 then (
      c_DeadCycles_walk_112 N v0 v4 v5 C)
    else
      jgd (cob C v0 2) <|
      obd (c_DeadCycles_ownerOf v0 v3 C) fun x1 =>
      if x1 = v2 then (
        jgd (cob C v0 2) <|
        obd (c_DeadCycles_setOwner v0 v3 v4 C) fun C2 =>
        jgd (cob C2 v0 2) <|
        obd (c_DeadCycles_next v0 v3 C2) fun x3 =>
        c_DeadCycles_walk_74 N n v0 v2 x3 v4 (v5 + 1) (v6 + 1) C2)
      else
        c_DeadCycles_walk_112 N v0 v4 v5 C
set_option maxRecDepth 10000 in
def c_DeadCycles_walk_64 (N : Nat) (v0 : Nat) (v1 : Int32) (v2 : Int32) (s0 : Int32) (C : CT) : Option CT :=
  c_DeadCycles_walk_74 N N v0 v2 v1 s0 (0 : Int32) (0 : Int32) C
set_option maxRecDepth 10000 in
def c_DeadCycles_walk_42 (N : Nat) (v0 : Nat) (v1 : Int32) (v2 : Int32) (v3 : Int32) (C : CT) : Option CT :=
  jgd (cob C v0 2) <|
  obd (c_DeadCycles_ownerOf v0 v3 C) fun x1 =>
  if x1 = v2 then (
    jgd (cob C v0 2) <|
    cbd2 (c_DeadCycles_newCycle N v0 v3 C) fun x2 C3 =>
    c_DeadCycles_walk_64 N v0 v1 v2 x2 C3)
  else
    jgd (cob C v0 2) <|
    obd (c_DeadCycles_ownerOf v0 v3 C) fun x4 =>
    c_DeadCycles_walk_64 N v0 v1 v2 x4 C
set_option maxRecDepth 10000 in
def c_DeadCycles_walk_9 (N : Nat) : Nat → Nat → Int32 → Int32 → Int32 → Int32 → CT → Option CT
  | 0, _, _, _, _, _, _ => none
  | n + 1, v0, v1, v2, v3, v4, C =>
    if (65536 : Int32) ≤ v4 then (
      c_DeadCycles_walk_42 N v0 v1 v2 v3 C)
    else
      jgd (cob C v0 2) <|
      obd (c_DeadCycles_ownerOf v0 v3 C) fun x1 =>
      if x1 = 0 then (
        jgd (cob C v0 2) <|
        obd (c_DeadCycles_setOwner v0 v3 v2 C) fun C2 =>
        jgd (cob C2 v0 2) <|
        obd (c_DeadCycles_next v0 v3 C2) fun x3 =>
        c_DeadCycles_walk_9 N n v0 v1 v2 x3 (v4 + 1) C2)
      else
        c_DeadCycles_walk_42 N v0 v1 v2 v3 C
set_option maxRecDepth 10000 in
def c_DeadCycles_walk (N : Nat) (v0 : Nat) (v1 : Int32) (C : CT) : Option CT :=
  c_DeadCycles_walk_9 N N v0 v1 ((-1 : Int32) - v1) v1 (0 : Int32) C
set_option maxRecDepth 10000 in
def c_DeadCycles_look_129 (N : Nat) (k110 : Nat → Int32 → CT → Option (Bool × CT)) (v0 : Nat) (v2 : Int32) (C : CT) : Option (Bool × CT) :=
  k110 v0 (v2 + 1) C
set_option maxRecDepth 10000 in
def c_DeadCycles_look_110 (N : Nat) : Nat → Nat → Int32 → CT → Option (Bool × CT)
  | 0, _, _, _ => none
  | n + 1, v0, v2, C =>
    if (65536 : Int32) ≤ v2 then (
      jgd (cob C v0 2) <|
      obd (c_DeadCycles_gatherFound N v0 C) fun C1 =>
      some (true, C1))
    else
      jgd (cob C v0 2) <|
      obd (c_DeadCycles_ownerOf v0 v2 C) fun x2 =>
      if x2 = 0 then (
        jgd (cob C v0 2) <|
        obd (c_DeadCycles_walk N v0 v2 C) fun C3 =>
        c_DeadCycles_look_129 N (c_DeadCycles_look_110 N n) v0 v2 C3)
      else
        c_DeadCycles_look_129 N (c_DeadCycles_look_110 N n) v0 v2 C
set_option maxRecDepth 10000 in
def c_DeadCycles_look_74 (N : Nat) (v0 : Nat) (v1 : Nat) (C : CT) : Option (Bool × CT) :=
  obd (cpZ C v0 2 0 true) fun C1 =>
  jgd (cob C1 v1 7) <|
  obd (c_Section_factor v1 (1 : Int32) C1) fun x2 =>
  obd (cpJ C1 v0 2 1 x2) fun C3 =>
  obd (cgI C3 v1 7 7) fun x4 =>
  obd (cpI C3 v0 2 2 x4) fun C5 =>
  obd (cgI C5 v1 7 8) fun x6 =>
  obd (cpI C5 v0 2 3 x6) fun C7 =>
  jgd (cob C7 v0 2) <|
  obd (c_DeadCycles_begin N v0 C7) fun C8 =>
  c_DeadCycles_look_110 N N v0 (0 : Int32) C8
set_option maxRecDepth 10000 in
def c_DeadCycles_look (N : Nat) (v0 : Nat) (v1 : Option Nat) (C : CT) : Option (Bool × CT) :=
  jon v1 (
    some (false, C))
  fun a1 =>
    obd (cgI C a1 7 1) fun x2 =>
    if x2 = (1 : Int32) then (
      obd (cgI C a1 7 2) fun x3 =>
      if x3 = (2 : Int32) then (
        obd (cgI C a1 7 7) fun x4 =>
        if x4 = (2 : Int32) then (
          some (false, C))
        else
          obd (cgZ C v0 2 0) fun x5 =>
          if x5 = true then (
            obd (cgJ C v0 2 1) fun x6 =>
            jgd (cob C a1 7) <|
            obd (c_Section_factor a1 (1 : Int32) C) fun x7 =>
            if x6 = x7 then (
              obd (cgI C v0 2 2) fun x8 =>
              obd (cgI C a1 7 7) fun x9 =>
              if x8 = x9 then (
                obd (cgI C v0 2 3) fun x10 =>
                obd (cgI C a1 7 8) fun x11 =>
                if x10 = x11 then (
                  some (true, C))
                else
                  c_DeadCycles_look_74 N v0 a1 C)
              else
                c_DeadCycles_look_74 N v0 a1 C)
            else
              c_DeadCycles_look_74 N v0 a1 C)
          else
            c_DeadCycles_look_74 N v0 a1 C)
      else
        some (false, C))
    else
      some (false, C)
set_option maxRecDepth 10000 in
def c_B_cycles (N : Nat) (v0 : Nat) (v1 : Int32) (C : CT) : Option (Int32 × CT) :=
  obd (cgA C v0 0 10) fun x1 =>
  jgd (cob C v0 0) <|
  obd (c_B_sectionAt v0 v1 C) fun x2 =>
  obd x1 fun a3 =>
  jgd (cob C a3 2) <|
  cbd2 (c_DeadCycles_look N a3 x2 C) fun x4 C5 =>
  if x4 = true then (
    obd (cgA C5 v0 0 10) fun x6 =>
    obd x6 fun a7 =>
    obd (cgI C5 a7 2 4) fun x8 =>
    some (x8, C5))
  else
    some ((-1 : Int32), C5)
set_option maxRecDepth 10000 in
def c_DeadCycles_basinOf (v0 : Nat) (v1 : Int32) (C : CT) : Option (Int32) :=
  jgd (cob C v0 2) <|
  obd (c_DeadCycles_tallyOf v0 v1 C) fun x1 =>
  some (Int64.toInt32 ((x1).toUInt64 >>> (((32 : Int32)).toInt64.toUInt64 &&& Int64.toUInt64 63)).toInt64)
set_option maxRecDepth 10000 in
def c_DeadCycles_leastOf (v0 : Nat) (v1 : Int32) (C : CT) : Option (Int32) :=
  jgd (cob C v0 2) <|
  obd (c_DeadCycles_ownerOf v0 v1 C) fun x1 =>
  some (x1 + (-32768 : Int32))
set_option maxRecDepth 10000 in
def c_DeadCycles_lengthOf (v0 : Nat) (v1 : Int32) (C : CT) : Option (Int32) :=
  jgd (cob C v0 2) <|
  obd (c_DeadCycles_tallyOf v0 v1 C) fun x1 =>
  some (Int64.toInt32 x1)
set_option maxRecDepth 10000 in
def c_B_cycle (N : Nat) (v0 : Nat) (v1 : Int32) (v2 : Int32) (v3 : Int32) (C : CT) : Option (Int32 × CT) :=
  obd (cgA C v0 0 10) fun x1 =>
  jgd (cob C v0 0) <|
  obd (c_B_sectionAt v0 v1 C) fun x2 =>
  obd x1 fun a3 =>
  jgd (cob C a3 2) <|
  cbd2 (c_DeadCycles_look N a3 x2 C) fun x4 C5 =>
  if x4 = true then (
    if v2 < 0 then (
      some ((0 : Int32), C5))
    else
      obd (cgA C5 v0 0 10) fun x6 =>
      obd x6 fun a7 =>
      obd (cgI C5 a7 2 4) fun x8 =>
      if v2 < x8 then (
        if v3 = 0 then (
          obd (cgA C5 v0 0 10) fun x9 =>
          obd x9 fun a10 =>
          jgd (cob C5 a10 2) <|
          obd (c_DeadCycles_leastOf a10 v2 C5) fun x11 =>
          some (x11, C5))
        else
        if v3 = 1 then (
          obd (cgA C5 v0 0 10) fun x12 =>
          obd x12 fun a13 =>
          jgd (cob C5 a13 2) <|
          obd (c_DeadCycles_lengthOf a13 v2 C5) fun x14 =>
          some (x14, C5))
        else
        if v3 = 2 then (
          obd (cgA C5 v0 0 10) fun x15 =>
          obd x15 fun a16 =>
          jgd (cob C5 a16 2) <|
          obd (c_DeadCycles_basinOf a16 v2 C5) fun x17 =>
          some (x17, C5))
        else
        some ((0 : Int32), C5))
      else
        some ((0 : Int32), C5))
  else
    some ((0 : Int32), C5)
set_option maxRecDepth 10000 in
def c_Real_nearest_e (v0 : Nat) (v1 : Int64) (v4 : Option Nat) (C : CT) : Option (Int64) :=
  jgd (cob C v0 5) <|
  obd (c_Real_taken v0 v4 v1 C) fun x1 =>
  some x1
set_option maxRecDepth 10000 in
def c_Real_nearest (v0 : Nat) (v1 : Int64) (v3 : Bool) (v4 : Option Nat) (C : CT) : Option (Int64) := c_Real_nearest_e v0 v1 v4 C
set_option maxRecDepth 10000 in
def c_Shorts_nearest_25 (v1 : Int64) (v4 : Nat) (v5 : Int64) (s0 : Int32) (s1 : Int32) (C : CT) : Option (Int64) :=
  jgd (cob C v4 5) <|
  obd (c_Real_isFinite v4 v1 C) fun x1 =>
  if x1 = true then (
    if (s1 + s0) < 0 then (
      jgd (cob C v4 5) <|
      obd (c_Real_mantissa v4 v5 C) fun x2 =>
      jlet (g_Numbers_halfEven x2 (-(s1 + s0))) fun (v8_3 : Int64) =>
      if (0 : Int64) ≤ v1 then (
        some v8_3)
      else
        some (-v8_3))
    else
      some (1099511627776 : Int64))
  else
    some (1099511627776 : Int64)
set_option maxRecDepth 10000 in
def c_Shorts_nearest_e (v1 : Int64) (v3 : Bool) (v4 : Option Nat) (C : CT) : Option (Int64) :=
  obd v4 fun a1 =>
  jgd (cob C a1 5) <|
  obd (c_Real_sizeOf a1 v1 C) fun x2 =>
  jgd (cob C a1 5) <|
  obd (c_Real_exponent a1 x2 C) fun x3 =>
  if v3 = true then (
    c_Shorts_nearest_25 v1 a1 x2 (0 : Int32) x3 C)
  else
    c_Shorts_nearest_25 v1 a1 x2 (14 : Int32) x3 C
set_option maxRecDepth 10000 in
def c_Shorts_nearest (v0 : Nat) (v1 : Int64) (v3 : Bool) (v4 : Option Nat) (C : CT) : Option (Int64) := c_Shorts_nearest_e v1 v3 v4 C
set_option maxRecDepth 10000 in
def c_B_translated (v0 : Nat) (v1 : Option Nat) (v2 : Int64) (v4 : Bool) (v5 : Option Nat) (C : CT) : Option (Int64) :=
  obd (cgA C v0 0 0) fun x1 =>
  obd v1 fun a2 =>
  obd (if cob C a2 5 = true then c_Real_meaning a2 v2 v4 x1 C else jgd (cob C a2 8) (c_Shorts_meaning a2 v2 v4 x1 C)) fun x3 =>
  obd (cgA C v0 0 0) fun x4 =>
  obd v5 fun a5 =>
  obd (if cob C a5 5 = true then c_Real_nearest a5 x3 v4 x4 C else jgd (cob C a5 8) (c_Shorts_nearest a5 x3 v4 x4 C)) fun x6 =>
  some x6
set_option maxRecDepth 10000 in
def c_Section_factorCount (v0 : Nat) (C : CT) : Option (Int32) :=
  obd (cgA C v0 7 5) fun x1 =>
  obd x1 fun a2 =>
  obd (cal C a2) fun x3 =>
  some x3
set_option maxRecDepth 10000 in
def c_B_canTranslate_72 (N : Nat) (k2 : Nat → Option Nat → Option Nat → Int32 → CT → Option (Bool)) (v0 : Nat) (v1 : Nat) (v2 : Option Nat) (v3 : Int32) (C : CT) : Option (Bool) :=
  k2 v0 (some v1) v2 (v3 + 1) C
set_option maxRecDepth 10000 in
def c_B_canTranslate_20 (N : Nat) (k2 : Nat → Option Nat → Option Nat → Int32 → CT → Option (Bool)) : Nat → Nat → Nat → Option Nat → Int32 → Option Nat → Int32 → CT → Option (Bool)
  | 0, _, _, _, _, _, _, _ => none
  | n + 1, v0, v1, v2, v3, v4, v5, C =>
    jon v4 (
      c_B_canTranslate_72 N k2 v0 v1 v2 v3 C)
    fun a1 =>
      jgd (cob C a1 7) <|
      obd (c_Section_factorCount a1 C) fun x2 =>
      if x2 ≤ v5 then (
        c_B_canTranslate_72 N k2 v0 v1 v2 v3 C)
      else
        obd (cgA C a1 7 4) fun x3 =>
        jgd (cob C a1 7) <|
        obd (c_Section_factor a1 v5 C) fun x4 =>
        jgd (cob C a1 7) <|
        obd (c_Section_takesWhole a1 C) fun x5 =>
        jgd (cob C v0 0) <|
        obd (c_B_translated v0 x3 x4 x5 v2 C) fun x6 =>
        obd v2 fun a7 =>
        obd (if cob C a7 5 = true then c_Real_holds a7 x6 C else jgd (cob C a7 8) (some (g_Shorts_holds a7 x6))) fun x8 =>
        if x8 = true then (
          c_B_canTranslate_20 N k2 n v0 v1 (some a7) v3 (some a1) (v5 + 1) C)
        else
          some false
set_option maxRecDepth 10000 in
def c_B_canTranslate_90 (N : Nat) : Nat → Nat → Nat → Option Nat → Option Nat → Int32 → CT → Option (Bool)
  | 0, _, _, _, _, _, _ => none
  | n + 1, v0, v1, v2, v3, v4, C =>
    obd (cgI C v1 1 4) fun x1 =>
    if x1 ≤ v4 then (
      some true)
    else
      jgd (cob C v1 1) <|
      obd (c_Chain_loopAt v1 v4 C) fun x2 =>
      jon v3 (
        some false)
      fun a3 =>
        jon x2 (
          some false)
        fun a4 =>
          obd (cgJ C a4 4 2) fun x5 =>
          jgd (cob C v0 0) <|
          obd (c_B_translated v0 (some a3) x5 false v2 C) fun x6 =>
          obd v2 fun a7 =>
          obd (if cob C a7 5 = true then c_Real_holds a7 x6 C else jgd (cob C a7 8) (some (g_Shorts_holds a7 x6))) fun x8 =>
          if x8 = true then (
            c_B_canTranslate_90 N n v0 v1 (some a7) (some a3) (v4 + 1) C)
          else
            some false
set_option maxRecDepth 10000 in
def c_B_canTranslate_2 (N : Nat) : Nat → Nat → Option Nat → Option Nat → Int32 → CT → Option (Bool)
  | 0, _, _, _, _, _ => none
  | n + 1, v0, v1, v2, v3, C =>
    obd v1 fun a1 =>
    obd (cgI C a1 1 2) fun x2 =>
    if x2 ≤ v3 then (
      jgd (cob C a1 1) <|
      obd (c_Chain_sort a1 C) fun x3 =>
      jgd (cob C v0 0) <|
      obd (c_B_numbersOf v0 x3 C) fun x4 =>
      c_B_canTranslate_90 N N v0 a1 v2 x4 (0 : Int32) C)
    else
      jgd (cob C a1 1) <|
      obd (c_Chain_memberAt a1 v3 C) fun x5 =>
      c_B_canTranslate_20 N (c_B_canTranslate_2 N n) N v0 a1 v2 v3 x5 (0 : Int32) C
set_option maxRecDepth 10000 in
def c_B_canTranslate (N : Nat) (v0 : Nat) (v1 : Option Nat) (v2 : Option Nat) (C : CT) : Option (Bool) :=
  c_B_canTranslate_2 N N v0 v1 v2 (0 : Int32) C
set_option maxRecDepth 10000 in
def c_B_canRemake_76 (N : Nat) (v0 : Nat) (v3 : Int32) (v4 : Int32) (C : CT) : Option (Bool × CT) :=
  obd (cgI C v0 0 4) fun x1 =>
  if (60 : Int32) < (x1 + v4) then (
    some (false, C))
  else
    obd (cgI C v0 0 6) fun x2 =>
    if (20 : Int32) < (x2 + v3) then (
      some (false, C))
    else
      some (true, C)
set_option maxRecDepth 10000 in
def c_B_canRemake_12 (N : Nat) : Nat → Nat → Option Nat → Int32 → Int32 → Int32 → CT → Option (Bool × CT)
  | 0, _, _, _, _, _, _ => none
  | n + 1, v0, v2, v3, v4, v5, C =>
    if v3 ≤ v5 then (
      c_B_canRemake_76 N v0 v3 v4 C)
    else
      obd (cgA C v0 0 9) fun x1 =>
      obd x1 fun a2 =>
      obd (cal C a2) fun x3 =>
      if x3 ≤ v5 then (
        c_B_canRemake_76 N v0 v3 v4 C)
      else
        obd (cgA C v0 0 9) fun x4 =>
        obd x4 fun a5 =>
        obd (caA C a5 1 v5) fun x6 =>
        jon x6 (
          some (false, C))
        fun a7 =>
          obd (cgA C v0 0 9) fun x8 =>
          obd x8 fun a9 =>
          obd (caA C a9 1 v5) fun x10 =>
          jgd (cob C v0 0) <|
          obd (c_B_canTranslate N v0 x10 v2 C) fun x11 =>
          if x11 = true then (
            obd (cgA C v0 0 9) fun x12 =>
            obd x12 fun a13 =>
            obd (caA C a13 1 v5) fun x14 =>
            obd x14 fun a15 =>
            obd (cgI C a15 1 2) fun x16 =>
            c_B_canRemake_12 N n v0 v2 v3 (v4 + x16) (v5 + 1) C)
          else
            some (false, C)
set_option maxRecDepth 10000 in
def c_B_canRemake (N : Nat) (v0 : Nat) (v1 : Option Nat) (v2 : Option Nat) (C : CT) : Option (Bool × CT) :=
  jgd (cob C v0 0) <|
  cbd2 (c_B_gather N v0 v1 C) fun x1 C2 =>
  c_B_canRemake_12 N N v0 v2 x1 (0 : Int32) (0 : Int32) C2
set_option maxRecDepth 10000 in
def c_B_remadeSection_26 (N : Nat) : Nat → Nat → Nat → Int32 → Option Nat → Nat → Int32 → CT → Option (Option Nat × CT)
  | 0, _, _, _, _, _, _, _ => none
  | n + 1, v0, v1, v2, v3, v4, v5, C =>
    jgd (cob C v1 7) <|
    obd (c_Section_factorCount v1 C) fun x1 =>
    if x1 ≤ v5 then (
      obd (cgI C v1 7 2) fun x2 =>
      if x2 = (2 : Int32) then (
        if v2 = (2 : Int32) then (
          obd (cgI C v1 7 7) fun x3 =>
          obd (cpI C v4 7 7 x3) fun C4 =>
          obd (cgI C4 v1 7 8) fun x5 =>
          obd (cpI C4 v4 7 8 x5) fun C6 =>
          some ((some v4), C6))
        else
          some ((some v4), C))
      else
        some ((some v4), C))
    else
      obd (cgA C v1 7 4) fun x7 =>
      jgd (cob C v1 7) <|
      obd (c_Section_factor v1 v5 C) fun x8 =>
      jgd (cob C v1 7) <|
      obd (c_Section_takesWhole v1 C) fun x9 =>
      jgd (cob C v0 0) <|
      obd (c_B_translated v0 x7 x8 x9 v3 C) fun x10 =>
      jgd (cob C v4 7) <|
      obd (c_Section_setFactor v4 v5 x10 C) fun C11 =>
      c_B_remadeSection_26 N n v0 v1 v2 v3 v4 (v5 + 1) C11
set_option maxRecDepth 10000 in
def c_B_remadeSection (N : Nat) (v0 : Nat) (v1 : Option Nat) (v2 : Int32) (v3 : Option Nat) (C : CT) : Option (Option Nat × CT) :=
  obd v1 fun a1 =>
  obd (cgI C a1 7 1) fun x2 =>
  obd (cgI C a1 7 3) fun x3 =>
  jgd (cob C v0 0) <|
  cbd2 (c_B_newSection v0 x2 v2 x3 v3 C) fun x4 C5 =>
  jon x4 (
    some (none, C5))
  fun a6 =>
    c_B_remadeSection_26 N N v0 a1 v2 v3 a6 (0 : Int32) C5
set_option maxRecDepth 10000 in
def c_B_remakeLoops_82 (N : Nat) (k13 : Nat → Nat → Option Nat → Option Nat → Option Nat → Int32 → CT → Option CT) (v0 : Nat) (v1 : Nat) (v2 : Option Nat) (v3 : Option Nat) (v4 : Option Nat) (v5 : Int32) (C : CT) : Option CT :=
  k13 v0 v1 v2 v3 v4 (v5 + 1) C
set_option maxRecDepth 10000 in
def c_B_remakeLoops_13 (N : Nat) : Nat → Nat → Nat → Option Nat → Option Nat → Option Nat → Int32 → CT → Option CT
  | 0, _, _, _, _, _, _, _ => none
  | n + 1, v0, v1, v2, v3, v4, v5, C =>
    obd (cgI C v1 1 4) fun x1 =>
    if x1 ≤ v5 then (
      some C)
    else
      jgd (cob C v1 1) <|
      obd (c_Chain_loopAt v1 v5 C) fun x2 =>
      jon v4 (
        c_B_remakeLoops_82 N (c_B_remakeLoops_13 N n) v0 v1 v2 v3 none v5 C)
      fun a3 =>
        jon x2 (
          c_B_remakeLoops_82 N (c_B_remakeLoops_13 N n) v0 v1 v2 v3 (some a3) v5 C)
        fun a4 =>
          cnew 4 C fun a5 C6 =>
          obd (cgI C6 a4 4 0) fun x7 =>
          obd (cgI C6 a4 4 1) fun x8 =>
          obd (cgA C6 a4 4 3) fun x9 =>
          obd x9 fun a10 =>
          jgd (cob C6 a10 6) <|
          obd (c_Row_size a10 C6) fun x11 =>
          obd (cgJ C6 a4 4 2) fun x12 =>
          jgd (cob C6 v0 0) <|
          obd (c_B_translated v0 (some a3) x12 false v3 C6) fun x13 =>
          obd (c_Loop_init a5 x7 x8 x11 x13 C6) fun C14 =>
          obd v2 fun a15 =>
          jgd (cob C14 a15 1) <|
          obd (c_Chain_tie a15 (some a5) C14) fun C16 =>
          c_B_remakeLoops_82 N (c_B_remakeLoops_13 N n) v0 v1 (some a15) v3 (some a3) v5 C16
set_option maxRecDepth 10000 in
def c_B_remakeLoops (N : Nat) (v0 : Nat) (v1 : Option Nat) (v2 : Option Nat) (v3 : Option Nat) (C : CT) : Option CT :=
  obd v1 fun a1 =>
  jgd (cob C a1 1) <|
  obd (c_Chain_sort a1 C) fun x2 =>
  jgd (cob C v0 0) <|
  obd (c_B_numbersOf v0 x2 C) fun x3 =>
  c_B_remakeLoops_13 N N v0 a1 v2 v3 x3 (0 : Int32) C
set_option maxRecDepth 10000 in
def c_B_remade_117 (N : Nat) (kS : Nat → Option Nat → Int32 → Option Nat → Int32 → CT → Option (Option Nat × CT)) (k21 : Nat → Option Nat → Int32 → Option Nat → Int32 → Nat → Int32 → CT → Option (Option Nat × CT)) (v0 : Nat) (v1 : Nat) (v2 : Int32) (v3 : Option Nat) (v4 : Int32) (v5 : Nat) (v6 : Int32) (C : CT) : Option (Option Nat × CT) :=
  k21 v0 (some v1) v2 v3 v4 v5 (v6 + 1) C
set_option maxRecDepth 10000 in
def c_B_remade_72 (N : Nat) (kS : Nat → Option Nat → Int32 → Option Nat → Int32 → CT → Option (Option Nat × CT)) (k21 : Nat → Option Nat → Int32 → Option Nat → Int32 → Nat → Int32 → CT → Option (Option Nat × CT)) (v0 : Nat) (v1 : Nat) (v2 : Int32) (v3 : Option Nat) (v4 : Int32) (v5 : Nat) (v6 : Int32) (v7 : Nat) (s0 : Option Nat) (C : CT) : Option (Option Nat × CT) :=
  jgd (cob C v0 0) <|
  cbd2 (c_B_remadeSection N v0 (some v7) v2 v3 C) fun x1 C2 =>
  jon x1 (
    some (none, C2))
  fun a3 =>
    jgd (cob C2 v5 1) <|
    obd (c_Chain_join v5 (some a3) C2) fun C4 =>
    jon s0 (
      c_B_remade_117 N kS k21 v0 v1 v2 v3 v4 v5 v6 C4)
    fun a5 =>
      obd (cpA C4 a3 7 14 (some a5)) fun C6 =>
      obd (cpA C6 a5 1 9 (some a3)) fun C7 =>
      c_B_remade_117 N kS k21 v0 v1 v2 v3 v4 v5 v6 C7
set_option maxRecDepth 10000 in
def c_B_remade_21 (N : Nat) (kS : Nat → Option Nat → Int32 → Option Nat → Int32 → CT → Option (Option Nat × CT)) : Nat → Nat → Option Nat → Int32 → Option Nat → Int32 → Nat → Int32 → CT → Option (Option Nat × CT)
  | 0, _, _, _, _, _, _, _, _ => none
  | n + 1, v0, v1, v2, v3, v4, v5, v6, C =>
    obd v1 fun a1 =>
    obd (cgI C a1 1 2) fun x2 =>
    if x2 ≤ v6 then (
      jgd (cob C v0 0) <|
      obd (c_B_remakeLoops N v0 (some a1) (some v5) v3 C) fun C3 =>
      jgd (cob C3 v0 0) <|
      cbd2 (c_B_registered v0 (some v5) C3) fun x4 C5 =>
      some ((some v5), C5))
    else
      jgd (cob C a1 1) <|
      obd (c_Chain_memberAt a1 v6 C) fun x6 =>
      jon x6 (
        some (none, C))
      fun a7 =>
        obd (cgA C a7 7 14) fun x8 =>
        jon x8 (
          c_B_remade_72 N kS (c_B_remade_21 N kS n) v0 a1 v2 v3 v4 v5 v6 a7 none C)
        fun a9 =>
          obd (cgA C a7 7 14) fun x10 =>
          jgd (cob C v0 0) <|
          cbd2 (kS v0 x10 v2 v3 (v4 + (1 : Int32)) C) fun x11 C12 =>
          c_B_remade_72 N kS (c_B_remade_21 N kS n) v0 a1 v2 v3 v4 v5 v6 a7 x11 C12
set_option maxRecDepth 10000 in
def c_B_remade_b (N : Nat) (kS : Nat → Option Nat → Int32 → Option Nat → Int32 → CT → Option (Option Nat × CT)) (v0 : Nat) (v1 : Option Nat) (v2 : Int32) (v3 : Option Nat) (v4 : Int32) (C : CT) : Option (Option Nat × CT) :=
  if v4 ≤ (30 : Int32) then (
    cnew 1 C fun a1 C2 =>
    obd (c_Chain_init a1 C2) fun C3 =>
    c_B_remade_21 N kS N v0 v1 v2 v3 v4 a1 (0 : Int32) C3)
  else
    some (none, C)
set_option maxRecDepth 10000 in
def c_B_remade (N : Nat) : Nat → Nat → Option Nat → Int32 → Option Nat → Int32 → CT → Option (Option Nat × CT)
  | 0, _, _, _, _, _, _ => none
  | n + 1, v0, v1, v2, v3, v4, C => c_B_remade_b N (c_B_remade N n) v0 v1 v2 v3 v4 C
set_option maxRecDepth 10000 in
def c_B_convert (N : Nat) (M : Nat) (v0 : Nat) (v1 : Int32) (v2 : Int32) (C : CT) : Option (Int32 × CT) :=
  jgd (cob C v0 0) <|
  obd (c_B_fedAlone v0 v1 C) fun x1 =>
  jgd (cob C v0 0) <|
  obd (c_B_numbersOf v0 v2 C) fun x2 =>
  jon x1 (
    some ((-1 : Int32), C))
  fun a3 =>
    jon x2 (
      some ((-1 : Int32), C))
    fun a4 =>
      jgd (cob C v0 0) <|
      cbd2 (c_B_canRemake N v0 (some a3) (some a4) C) fun x5 C6 =>
      if x5 = true then (
        jgd (cob C6 v0 0) <|
        cbd2 (c_B_remade N M v0 (some a3) v2 (some a4) (0 : Int32) C6) fun x7 C8 =>
        obd (c_B_numberOf x7 C8) fun x9 =>
        some (x9, C8))
      else
        some ((-1 : Int32), C6)
