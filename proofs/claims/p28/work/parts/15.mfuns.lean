/-! the reference's methods as functions of its state (printed by wip/whole/mod.py) -/
set_option maxRecDepth 10000 in
def h_R_clears_2 (N : Nat) : Nat → Int32 → Int32 → MT → Option MT
  | 0, _, _, _ => none
  | n + 1, v1, v2, T =>
    if (64 : Int32) ≤ v2 then (
      obd (jrg 60 v1) fun n1 =>
      jlet (tsI T 14 n1 (0 : Int32)) fun (T2 : MT) =>
      obd (jrg 60 v1) fun n3 =>
      jlet (tsJ T2 15 n3 (0 : Int64)) fun (T4 : MT) =>
      some T4)
    else
      obd (jrg 3840 (((64 : Int32) * v1) + v2)) fun n5 =>
      jlet (tsD T 13 n5 (0 : UInt64)) fun (T6 : MT) =>
      h_R_clears_2 N n v1 (v2 + 1) T6
set_option maxRecDepth 10000 in
def h_R_clears (N : Nat) (v1 : Int32) (T : MT) : Option MT :=
  h_R_clears_2 N N v1 (0 : Int32) T
set_option maxRecDepth 10000 in
def h_R_newSection_49 (N : Nat) : Nat → Int32 → Int32 → MT → Option (Int32 × MT)
  | 0, _, _, _ => none
  | n + 1, v4, v5, T =>
    if (5 : Int32) ≤ v5 then (
      obd (jrg 60 v4) fun n1 =>
      jlet (tsI T 8 n1 (-1 : Int32)) fun (T2 : MT) =>
      obd (jrg 60 v4) fun n3 =>
      jlet (tsI T2 9 n3 (-1 : Int32)) fun (T4 : MT) =>
      obd (jrg 60 v4) fun n5 =>
      jlet (tsI T4 10 n5 (-1 : Int32)) fun (T6 : MT) =>
      obd (jrg 60 v4) fun n7 =>
      jlet (tsI T6 11 n7 (0 : Int32)) fun (T8 : MT) =>
      obd (jrg 60 v4) fun n9 =>
      jlet (tsI T8 12 n9 (0 : Int32)) fun (T10 : MT) =>
      obd (h_R_clears N v4 T10) fun (T11 : MT) =>
      jlet (tsI T11 1 0 ((T11.1 1 0) + (1 : Int32))) fun (T12 : MT) =>
      some (v4, T12))
    else
      obd (jrg 300 (((5 : Int32) * v4) + v5)) fun n13 =>
      jlet (tsD T 7 n13 (0 : UInt64)) fun (T14 : MT) =>
      h_R_newSection_49 N n v4 (v5 + 1) T14
set_option maxRecDepth 10000 in
def h_R_newSection (N : Nat) (v1 : Int32) (v2 : Int32) (v3 : Int32) (T : MT) : Option (Int32 × MT) :=
  obd (jrg 60 (T.1 1 0)) fun n1 =>
  jlet (tsI T 2 n1 v1) fun (T2 : MT) =>
  obd (jrg 60 (T.1 1 0)) fun n3 =>
  jlet (tsI T2 3 n3 v2) fun (T4 : MT) =>
  obd (jrg 60 (T.1 1 0)) fun n5 =>
  jlet (tsI T4 4 n5 v3) fun (T6 : MT) =>
  obd (jrg 60 (T.1 1 0)) fun n7 =>
  jlet (tsI T6 5 n7 (0 : Int32)) fun (T8 : MT) =>
  obd (jrg 60 (T.1 1 0)) fun n9 =>
  jlet (tsI T8 6 n9 (0 : Int32)) fun (T10 : MT) =>
  h_R_newSection_49 N N (T.1 1 0) (0 : Int32) T10
set_option maxRecDepth 10000 in
def h_R_section (N : Nat) (v1 : Int32) (v2 : Int32) (v3 : Int32) (T : MT) : Option (Int32 × MT) :=
  if (T.1 1 0) = (60 : Int32) then (
    some ((-1 : Int32), T))
  else
    if (g_R_in v1 (0 : Int32) (15 : Int32)) = true then (
      if (g_R_in v2 (0 : Int32) (2 : Int32)) = true then (
        if (g_R_isLength v1 v3) = true then (
          tbd2 (h_R_newSection N v1 v2 v3 T) fun x1 T2 =>
          some (x1, T2))
        else
          some ((-1 : Int32), T))
      else
        some ((-1 : Int32), T))
    else
      some ((-1 : Int32), T)
set_option maxRecDepth 10000 in
def h_R_isSection (v1 : Int32) (T : MT) : Option Bool :=
  some (g_R_in v1 (0 : Int32) ((T.1 1 0) - (1 : Int32)))
set_option maxRecDepth 10000 in
def h_R_isCoefficient (v1 : Int32) (v2 : Int32) (T : MT) : Option Bool :=
  obd (h_R_isSection v1 T) fun x1 =>
  if x1 = true then (
    obd (jrg 60 v1) fun n2 =>
    if (g_R_in v2 (0 : Int32) ((g_R_coefficientsOf (T.1 2 n2)) - (1 : Int32))) = true then (
      some true)
    else
      some false)
  else
    some false
set_option maxRecDepth 10000 in
def h_R_coefficient (v1 : Int32) (v2 : Int32) (v3 : Int64) (T : MT) : Option (Bool × MT) :=
  obd (h_R_isCoefficient v1 v2 T) fun x1 =>
  if x1 = true then (
    obd (jrg 60 v1) fun n2 =>
    if (g_R_isValue (T.1 3 n2) v3) = true then (
      obd (jrg 60 v1) fun n3 =>
      obd (g_R_valueOf (T.1 3 n3) v3) fun x4 =>
      obd (jrg 300 (((5 : Int32) * v1) + v2)) fun n5 =>
      jlet (tsD T 7 n5 x4) fun (T6 : MT) =>
      some (true, T6))
    else
      some (false, T))
  else
    some (false, T)
set_option maxRecDepth 10000 in
def h_R_ratio_167 (v1 : Int32) (v2 : Int32) (v5 : UInt64) (T : MT) : Option (Bool × MT) :=
  obd (jrg 300 (((5 : Int32) * v1) + v2)) fun n1 =>
  jlet (tsD T 7 n1 v5) fun (T2 : MT) =>
  some (true, T2)
set_option maxRecDepth 10000 in
def h_R_ratio_151 (v1 : Int32) (v2 : Int32) (v11 : Int64) (T : MT) : Option (Bool × MT) :=
  if (g_R_isValue (2 : Int32) v11) = true then (
    h_R_ratio_167 v1 v2 (FP.l2d v11) T)
  else
    some (false, T)
set_option maxRecDepth 10000 in
def h_R_ratio_145 (v1 : Int32) (v2 : Int32) (v11 : Int64) (T : MT) : Option (Bool × MT) :=
  h_R_ratio_151 v1 v2 (v11 + (1 : Int64)) T
set_option maxRecDepth 10000 in
def h_R_ratio_97 (v1 : Int32) (v2 : Int32) (v7 : Int64) (v9 : Int64) (T : MT) : Option (Bool × MT) :=
  obd (g_R_floor v7 v9) fun x1 =>
  jlet ((2 : Int64) * (v7 - (x1 * v9))) fun (v13_2 : Int64) =>
  if v9 < v13_2 then (
    h_R_ratio_145 v1 v2 x1 T)
  else
    if v13_2 = v9 then (
      if (x1 &&& (1 : Int64)) = (1 : Int64) then (
        h_R_ratio_145 v1 v2 x1 T)
      else
        h_R_ratio_151 v1 v2 x1 T)
    else
      h_R_ratio_151 v1 v2 x1 T
set_option maxRecDepth 10000 in
def h_R_ratio_73 (v1 : Int32) (v2 : Int32) (v4 : Int32) (s0 : Int64) (T : MT) : Option (Bool × MT) :=
  if (0 : Int64) ≤ (Int32.toInt64 v4) then (
    h_R_ratio_97 v1 v2 s0 (Int32.toInt64 v4) T)
  else
    h_R_ratio_97 v1 v2 (-s0) (-(Int32.toInt64 v4)) T
set_option maxRecDepth 10000 in
def h_R_ratio_40 (v1 : Int32) (v2 : Int32) (v3 : Int32) (v4 : Int32) (v5 : UInt64) (T : MT) : Option (Bool × MT) :=
  obd (jrg 60 v1) fun n1 =>
  if (T.1 3 n1) = (2 : Int32) then (
    obd (jrg 60 v1) fun n2 =>
    if (g_R_isPlain (T.1 2 n2)) = true then (
      h_R_ratio_73 v1 v2 v4 (Int32.toInt64 v3) T)
    else
      h_R_ratio_73 v1 v2 v4 ((16384 : Int64) * (Int32.toInt64 v3)) T)
  else
    h_R_ratio_167 v1 v2 v5 T
set_option maxRecDepth 10000 in
def h_R_ratio (v1 : Int32) (v2 : Int32) (v3 : Int32) (v4 : Int32) (T : MT) : Option (Bool × MT) :=
  obd (h_R_isCoefficient v1 v2 T) fun x1 =>
  if x1 = true then (
    if v4 = 0 then (
      some (false, T))
    else
      obd (jnD (FP.ddiv (FP.i2d v3) (FP.i2d v4))) fun x2 =>
      obd (jrg 60 v1) fun n3 =>
      if (T.1 3 n3) = (1 : Int32) then (
        obd (jnF (FP.d2f x2)) fun x4 =>
        obd (jnD (FP.f2d x4)) fun x5 =>
        h_R_ratio_40 v1 v2 v3 v4 x5 T)
      else
        h_R_ratio_40 v1 v2 v3 v4 x2 T)
  else
    some (false, T)
set_option maxRecDepth 10000 in
def h_R_rule (v1 : Int32) (v2 : Int32) (v3 : Int32) (T : MT) : Option (Bool × MT) :=
  obd (h_R_isSection v1 T) fun x1 =>
  if x1 = true then (
    obd (jrg 60 v1) fun n2 =>
    if (T.1 3 n2) = (2 : Int32) then (
      if (g_R_in v2 (0 : Int32) (2 : Int32)) = true then (
        if (g_R_in v3 (0 : Int32) (1 : Int32)) = true then (
          obd (jrg 60 v1) fun n3 =>
          jlet (tsI T 5 n3 v2) fun (T4 : MT) =>
          obd (jrg 60 v1) fun n5 =>
          jlet (tsI T4 6 n5 v3) fun (T6 : MT) =>
          some (true, T6))
        else
          some (false, T))
      else
        some (false, T))
    else
      some (false, T))
  else
    some (false, T)
set_option maxRecDepth 10000 in
def h_R_newChain (T : MT) : Option (Int32 × MT) :=
  obd (jrg 20 (T.1 16 0)) fun n1 =>
  jlet (tsI T 17 n1 (0 : Int32)) fun (T2 : MT) =>
  obd (jrg 20 (T.1 16 0)) fun n3 =>
  jlet (tsI T2 19 n3 (-1 : Int32)) fun (T4 : MT) =>
  obd (jrg 20 (T.1 16 0)) fun n5 =>
  jlet (tsI T4 20 n5 (0 : Int32)) fun (T6 : MT) =>
  obd (jrg 20 (T.1 16 0)) fun n7 =>
  jlet (tsI T6 28 n7 (0 : Int32)) fun (T8 : MT) =>
  jlet (tsI T8 16 0 ((T8.1 16 0) + (1 : Int32))) fun (T9 : MT) =>
  some ((T.1 16 0), T9)
set_option maxRecDepth 10000 in
def h_R_chain (T : MT) : Option (Int32 × MT) :=
  if (T.1 16 0) = (20 : Int32) then (
    some ((-1 : Int32), T))
  else
    tbd2 (h_R_newChain T) fun x1 T2 =>
    some (x1, T2)
set_option maxRecDepth 10000 in
def h_R_countOf_45 (N : Nat) (k6 : Int32 → Int32 → Int32 → Int32 → Int32 → MT → Option Int32) (v1 : Int32) (v2 : Int32) (v3 : Int32) (v4 : Int32) (v5 : Int32) (T : MT) : Option Int32 :=
  k6 v1 v2 v3 v4 (v5 + 1) T
set_option maxRecDepth 10000 in
def h_R_countOf_6 (N : Nat) : Nat → Int32 → Int32 → Int32 → Int32 → Int32 → MT → Option Int32
  | 0, _, _, _, _, _, _ => none
  | n + 1, v1, v2, v3, v4, v5, T =>
    obd (jrg 20 v1) fun n1 =>
    if (T.1 17 n1) ≤ v5 then (
      some v4)
    else
      obd (jrg 200 (((10 : Int32) * v1) + v5)) fun n2 =>
      obd (jrg 60 (T.1 18 n2)) fun n3 =>
      if (g_R_in (T.1 2 n3) v2 v3) = true then (
        h_R_countOf_45 N (h_R_countOf_6 N n) v1 v2 v3 (v4 + 1) v5 T)
      else
        h_R_countOf_45 N (h_R_countOf_6 N n) v1 v2 v3 v4 v5 T
set_option maxRecDepth 10000 in
def h_R_countOf (N : Nat) (v1 : Int32) (v2 : Int32) (v3 : Int32) (T : MT) : Option Int32 :=
  h_R_countOf_6 N N v1 v2 v3 (0 : Int32) (0 : Int32) T
set_option maxRecDepth 10000 in
def h_R_isChain (v1 : Int32) (T : MT) : Option Bool :=
  some (g_R_in v1 (0 : Int32) ((T.1 16 0) - (1 : Int32)))
set_option maxRecDepth 10000 in
def h_R_join (v1 : Int32) (v2 : Int32) (T : MT) : Option (Int32 × MT) :=
  obd (jrg 20 v1) fun n1 =>
  obd (jrg 200 (((10 : Int32) * v1) + (T.1 17 n1))) fun n2 =>
  jlet (tsI T 18 n2 v2) fun (T3 : MT) =>
  obd (jrg 60 v2) fun n4 =>
  jlet (tsI T3 8 n4 v1) fun (T5 : MT) =>
  obd (jrg 60 v2) fun n6 =>
  jlet (tsI T5 9 n6 (T.1 17 n1)) fun (T7 : MT) =>
  obd (jrg 20 v1) fun n8 =>
  obd (jrg 20 v1) fun n9 =>
  jlet (tsI T7 17 n9 ((T7.1 17 n8) + (1 : Int32))) fun (T10 : MT) =>
  some ((T.1 17 n1), T10)
set_option maxRecDepth 10000 in
def h_R_sortOf (v1 : Int32) (T : MT) : Option Int32 :=
  obd (jrg 20 v1) fun n1 =>
  if (T.1 17 n1) = 0 then (
    some (-1 : Int32))
  else
    obd (jrg 200 ((10 : Int32) * v1)) fun n2 =>
    obd (jrg 60 (T.1 18 n2)) fun n3 =>
    some (T.1 3 n3)
set_option maxRecDepth 10000 in
def h_R_add_105 (N : Nat) (v1 : Int32) (v2 : Int32) (T : MT) : Option (Int32 × MT) :=
  tbd2 (h_R_join v1 v2 T) fun x1 T2 =>
  some (x1, T2)
set_option maxRecDepth 10000 in
def h_R_add_74 (N : Nat) (v1 : Int32) (v2 : Int32) (T : MT) : Option (Int32 × MT) :=
  obd (jrg 60 v2) fun n1 =>
  if (g_R_in (T.1 2 n1) (13 : Int32) (14 : Int32)) = true then (
    obd (h_R_countOf N v1 (13 : Int32) (14 : Int32) T) fun x2 =>
    if x2 = (2 : Int32) then (
      some ((-1 : Int32), T))
    else
      h_R_add_105 N v1 v2 T)
  else
    h_R_add_105 N v1 v2 T
set_option maxRecDepth 10000 in
def h_R_add (N : Nat) (v1 : Int32) (v2 : Int32) (T : MT) : Option (Int32 × MT) :=
  obd (h_R_isChain v1 T) fun x1 =>
  if x1 = true then (
    obd (h_R_isSection v2 T) fun x2 =>
    if x2 = true then (
      obd (jrg 60 v2) fun n3 =>
      if (T.1 8 n3) = (-1 : Int32) then (
        obd (jrg 20 v1) fun n4 =>
        if (T.1 19 n4) = (-1 : Int32) then (
          obd (jrg 20 v1) fun n5 =>
          if (T.1 17 n5) = (10 : Int32) then (
            some ((-1 : Int32), T))
          else
            obd (jrg 20 v1) fun n6 =>
            if (T.1 17 n6) ≤ 0 then (
              h_R_add_74 N v1 v2 T)
            else
              obd (jrg 60 v2) fun n7 =>
              obd (h_R_sortOf v1 T) fun x8 =>
              if (T.1 3 n7) = x8 then (
                h_R_add_74 N v1 v2 T)
              else
                some ((-1 : Int32), T))
        else
          some ((-1 : Int32), T))
      else
        some ((-1 : Int32), T))
    else
      some ((-1 : Int32), T))
  else
    some ((-1 : Int32), T)
set_option maxRecDepth 10000 in
def h_R_newLoop_49 (N : Nat) : Nat → Int32 → Int32 → Int32 → MT → Option (Int32 × MT)
  | 0, _, _, _, _ => none
  | n + 1, v1, v7, v8, T =>
    if (64 : Int32) ≤ v8 then (
      obd (jrg 60 v7) fun n1 =>
      jlet (tsI T 26 n1 (0 : Int32)) fun (T2 : MT) =>
      obd (jrg 20 v1) fun n3 =>
      obd (jrg 20 v1) fun n4 =>
      jlet (tsI T2 20 n4 ((T2.1 20 n3) + (1 : Int32))) fun (T5 : MT) =>
      obd (jrg 20 v1) fun n6 =>
      some ((T5.1 20 n6), T5))
    else
      obd (jrg 3840 (((64 : Int32) * v7) + v8)) fun n7 =>
      jlet (tsD T 25 n7 (0 : UInt64)) fun (T8 : MT) =>
      h_R_newLoop_49 N n v1 v7 (v8 + 1) T8
set_option maxRecDepth 10000 in
def h_R_newLoop (N : Nat) (v1 : Int32) (v2 : Int32) (v3 : Int32) (v4 : Int32) (v5 : UInt64) (T : MT) : Option (Int32 × MT) :=
  obd (jrg 20 v1) fun n1 =>
  jlet (((3 : Int32) * v1) + (T.1 20 n1)) fun (v7_2 : Int32) =>
  obd (jrg 60 v7_2) fun n3 =>
  jlet (tsI T 21 n3 v3) fun (T4 : MT) =>
  obd (jrg 60 v7_2) fun n5 =>
  jlet (tsI T4 22 n5 v2) fun (T6 : MT) =>
  obd (jrg 60 v7_2) fun n7 =>
  jlet (tsI T6 23 n7 v4) fun (T8 : MT) =>
  obd (jrg 60 v7_2) fun n9 =>
  jlet (tsD T8 24 n9 v5) fun (T10 : MT) =>
  h_R_newLoop_49 N N v1 v7_2 (0 : Int32) T10
set_option maxRecDepth 10000 in
def h_R_loop_63 (N : Nat) : Nat → Int32 → Int32 → Int32 → Int32 → Int64 → Int32 → MT → Option (Int32 × MT)
  | 0, _, _, _, _, _, _, _ => none
  | n + 1, v1, v2, v3, v4, v5, v7, T =>
    if v3 < v7 then (
      obd (h_R_sortOf v1 T) fun x1 =>
      if (g_R_isValue x1 v5) = true then (
        obd (h_R_sortOf v1 T) fun x2 =>
        obd (g_R_valueOf x2 v5) fun x3 =>
        tbd2 (h_R_newLoop N v1 v2 v3 v4 x3 T) fun x4 T5 =>
        some (x4, T5))
      else
        some ((-1 : Int32), T))
    else
      obd (jrg 200 (((10 : Int32) * v1) + v7)) fun n6 =>
      obd (jrg 60 (T.1 18 n6)) fun n7 =>
      if (g_R_in (T.1 2 n7) (12 : Int32) (14 : Int32)) = true then (
        some ((-1 : Int32), T))
      else
        h_R_loop_63 N n v1 v2 v3 v4 v5 (v7 + 1) T
set_option maxRecDepth 10000 in
def h_R_loop (N : Nat) (v1 : Int32) (v2 : Int32) (v3 : Int32) (v4 : Int32) (v5 : Int64) (T : MT) : Option (Int32 × MT) :=
  obd (h_R_isChain v1 T) fun x1 =>
  if x1 = true then (
    obd (jrg 20 v1) fun n2 =>
    if (T.1 19 n2) = (-1 : Int32) then (
      obd (jrg 20 v1) fun n3 =>
      if (T.1 20 n3) = (3 : Int32) then (
        some ((-1 : Int32), T))
      else
        if v2 < 0 then (
          some ((-1 : Int32), T))
        else
          if v3 < v2 then (
            some ((-1 : Int32), T))
          else
            obd (jrg 20 v1) fun n4 =>
            if (T.1 17 n4) ≤ v3 then (
              some ((-1 : Int32), T))
            else
              if (g_R_in v4 (1 : Int32) (64 : Int32)) = true then (
                h_R_loop_63 N N v1 v2 v3 v4 v5 v2 T)
              else
                some ((-1 : Int32), T))
    else
      some ((-1 : Int32), T))
  else
    some ((-1 : Int32), T)
set_option maxRecDepth 10000 in
def h_R_within (N : Nat) (v1 : Int32) (v2 : Int32) (T : MT) : Option (Bool × MT) :=
  obd (h_R_isSection v1 T) fun x1 =>
  if x1 = true then (
    obd (h_R_isChain v2 T) fun x2 =>
    if x2 = true then (
      obd (jrg 60 v1) fun n3 =>
      if (T.1 2 n3) = (15 : Int32) then (
        obd (jrg 60 v1) fun n4 =>
        if (T.1 8 n4) ≤ v2 then (
          some (false, T))
        else
          obd (jrg 60 v1) fun n5 =>
          if (T.1 10 n5) = (-1 : Int32) then (
            obd (jrg 20 v2) fun n6 =>
            if (T.1 19 n6) = (-1 : Int32) then (
              obd (jrg 20 v2) fun n7 =>
              if (T.1 17 n7) = 0 then (
                some (false, T))
              else
                obd (h_R_sortOf v2 T) fun x8 =>
                obd (jrg 60 v1) fun n9 =>
                if x8 = (T.1 3 n9) then (
                  obd (h_R_countOf N v2 (12 : Int32) (14 : Int32) T) fun x10 =>
                  if x10 ≤ 0 then (
                    obd (jrg 60 v1) fun n11 =>
                    jlet (tsI T 10 n11 v2) fun (T12 : MT) =>
                    obd (jrg 20 v2) fun n13 =>
                    jlet (tsI T12 19 n13 v1) fun (T14 : MT) =>
                    some (true, T14))
                  else
                    some (false, T))
                else
                  some (false, T))
            else
              some (false, T))
          else
            some (false, T))
      else
        some (false, T))
    else
      some (false, T))
  else
    some (false, T)
set_option maxRecDepth 10000 in
def h_R_begins (v1 : Int32) (T : MT) : Option MT :=
  jlet (tsI T 29 0 v1) fun (T1 : MT) =>
  jlet (tsI T1 30 0 (0 : Int32)) fun (T2 : MT) =>
  jlet (tsD T2 31 0 (0 : UInt64)) fun (T3 : MT) =>
  jlet (tsJ T3 32 0 (0 : Int64)) fun (T4 : MT) =>
  some T4
set_option maxRecDepth 10000 in
def h_R_comes_105 (v1 : Int32) (v2 : Int64) (T : MT) : Option (UInt64 × MT) :=
  if (g_R_isValue (2 : Int32) v2) = true then (
    some ((FP.l2d v2), T))
  else
    obd (jrg 60 v1) fun n1 =>
    obd (jrg 60 v1) fun n2 =>
    jlet (tsI T 11 n2 ((T.1 11 n1) + (1 : Int32))) fun (T3 : MT) =>
    obd (jrg 60 v1) fun n4 =>
    some ((g_R_cut v2 (T3.1 6 n4)), T3)
set_option maxRecDepth 10000 in
def h_R_comes (T : MT) : Option (UInt64 × MT) :=
  obd (jrg 60 (T.1 29 0)) fun n1 =>
  if (T.1 3 n1) = (2 : Int32) then (
    obd (jrg 60 (T.1 29 0)) fun n2 =>
    if (T.1 5 n2) = 0 then (
      obd (g_R_floor ((T.2.1 32 0) + (8192 : Int64)) (16384 : Int64)) fun x3 =>
      h_R_comes_105 (T.1 29 0) x3 T)
    else
      obd (jrg 60 (T.1 29 0)) fun n4 =>
      if (T.1 5 n4) = (1 : Int32) then (
        jlet ((T.2.1 32 0) / (16384 : Int64)) fun (v2_5 : Int64) =>
        h_R_comes_105 (T.1 29 0) v2_5 T)
      else
        obd (jrg 60 (T.1 29 0)) fun n6 =>
        jlet (((T.2.1 32 0) + (T.2.1 15 n6)) / (16384 : Int64)) fun (v2_7 : Int64) =>
        obd (jrg 60 (T.1 29 0)) fun n8 =>
        jlet (tsJ T 15 n8 (((T.2.1 32 0) + (T.2.1 15 n6)) - ((16384 : Int64) * v2_7))) fun (T9 : MT) =>
        h_R_comes_105 (T.1 29 0) v2_7 T9)
  else
    some ((T.2.2.1 31 0), T)
set_option maxRecDepth 10000 in
def h_R_c (v1 : Int32) (v2 : Int32) (T : MT) : Option UInt64 :=
  obd (jrg 300 (((5 : Int32) * v1) + v2)) fun n1 =>
  some (T.2.2.1 7 n1)
set_option maxRecDepth 10000 in
def h_R_leaves_84 (N : Nat) (k7 : Int32 → MT → Option MT) (v1 : Int32) (T : MT) : Option MT :=
  k7 (v1 + 1) T
set_option maxRecDepth 10000 in
def h_R_leaves_7 (N : Nat) : Nat → Int32 → MT → Option MT
  | 0, _, _ => none
  | n + 1, v1, T =>
    obd (jrg 20 (T.1 39 0)) fun n1 =>
    if (((3 : Int32) * (T.1 39 0)) + (T.1 20 n1)) ≤ v1 then (
      jlet (tsI T 40 0 ((T.1 40 0) + (1 : Int32))) fun (T2 : MT) =>
      some T2)
    else
      obd (jrg 60 v1) fun n3 =>
      if (T.1 21 n3) = (T.1 40 0) then (
        obd (jrg 60 v1) fun n4 =>
        obd (jrg 3840 (((64 : Int32) * v1) + (T.1 26 n4))) fun n5 =>
        jlet (tsD T 25 n5 (T.2.2.1 41 0)) fun (T6 : MT) =>
        obd (jrg 60 v1) fun n7 =>
        obd (jrg 60 v1) fun n8 =>
        obd (jremI ((T6.1 26 n7) + (1 : Int32)) (T6.1 23 n8)) fun x9 =>
        obd (jrg 60 v1) fun n10 =>
        jlet (tsI T6 26 n10 x9) fun (T11 : MT) =>
        h_R_leaves_84 N (h_R_leaves_7 N n) v1 T11)
      else
        h_R_leaves_84 N (h_R_leaves_7 N n) v1 T
set_option maxRecDepth 10000 in
def h_R_leaves (N : Nat) (T : MT) : Option MT :=
  h_R_leaves_7 N N ((3 : Int32) * (T.1 39 0)) T
set_option maxRecDepth 10000 in
def h_R_joins_156 (T : MT) : Option MT :=
  jlet (tsI T 30 0 ((T.1 30 0) + (1 : Int32))) fun (T1 : MT) =>
  some T1
set_option maxRecDepth 10000 in
def h_R_joins_33 (T : MT) : Option MT :=
  jlet (tsD T 31 0 (0x7ff8000000000000 : UInt64)) fun (T1 : MT) =>
  h_R_joins_156 T1
set_option maxRecDepth 10000 in
def h_R_joins_127 (s0 : UInt64) (T : MT) : Option MT :=
  jlet (tsD T 31 0 s0) fun (T1 : MT) =>
  h_R_joins_156 T1
set_option maxRecDepth 10000 in
def h_R_joins_153 (s0 : UInt64) (T : MT) : Option MT :=
  jlet (tsD T 31 0 s0) fun (T1 : MT) =>
  h_R_joins_156 T1
set_option maxRecDepth 10000 in
def h_R_joins_88 (v1 : UInt64) (v3 : Bool) (T : MT) : Option MT :=
  obd (jrg 60 (T.1 29 0)) fun n1 =>
  if (T.1 3 n1) = (1 : Int32) then (
    if v3 = true then (
      obd (jnF (FP.d2f (T.2.2.1 31 0))) fun x2 =>
      obd (jnF (FP.d2f v1)) fun x3 =>
      obd (jnF (FP.fsub x2 x3)) fun x4 =>
      obd (jnD (FP.f2d x4)) fun x5 =>
      h_R_joins_127 x5 T)
    else
      obd (jnF (FP.d2f (T.2.2.1 31 0))) fun x6 =>
      obd (jnF (FP.d2f v1)) fun x7 =>
      obd (jnF (FP.fadd x6 x7)) fun x8 =>
      obd (jnD (FP.f2d x8)) fun x9 =>
      h_R_joins_127 x9 T)
  else
    if v3 = true then (
      obd (jnD (FP.dsub (T.2.2.1 31 0) v1)) fun x10 =>
      h_R_joins_153 x10 T)
    else
      obd (jnD (FP.dadd (T.2.2.1 31 0) v1)) fun x11 =>
      h_R_joins_153 x11 T
set_option maxRecDepth 10000 in
def h_R_joins_74 (v1 : UInt64) (v3 : Bool) (s0 : Bool) (T : MT) : Option MT :=
  if s0 = v3 then (
    jlet (tsD T 31 0 (0x7ff8000000000000 : UInt64)) fun (T1 : MT) =>
    h_R_joins_156 T1)
  else
    h_R_joins_88 v1 v3 T
set_option maxRecDepth 10000 in
def h_R_joins (v1 : UInt64) (v3 : Bool) (T : MT) : Option MT :=
  if (T.1 30 0) = 0 then (
    jlet (tsD T 31 0 v1) fun (T1 : MT) =>
    h_R_joins_156 T1)
  else
    if (Op.cmpValue (FP.dcmp (T.2.2.1 31 0) (T.2.2.1 31 0)) .l) = 0 then (
      if (Op.cmpValue (FP.dcmp v1 v1) .l) = 0 then (
        if (g_R_isEndless (T.2.2.1 31 0)) = true then (
          if (g_R_isEndless v1) = true then (
            if (Op.cmpValue (FP.dcmp (T.2.2.1 31 0) v1) .l) = 0 then (
              h_R_joins_74 v1 v3 true T)
            else
              h_R_joins_74 v1 v3 false T)
          else
            h_R_joins_88 v1 v3 T)
        else
          h_R_joins_88 v1 v3 T)
      else
        h_R_joins_33 T)
    else
      h_R_joins_33 T
set_option maxRecDepth 10000 in
def h_R_product_46 (v1 : UInt64) (v3 : UInt64) (T : MT) : Option UInt64 :=
  obd (jrg 60 (T.1 29 0)) fun n1 =>
  if (T.1 3 n1) = (1 : Int32) then (
    obd (jnF (FP.d2f v1)) fun x2 =>
    obd (jnF (FP.d2f v3)) fun x3 =>
    obd (jnF (FP.fmul x2 x3)) fun x4 =>
    obd (jnD (FP.f2d x4)) fun x5 =>
    some x5)
  else
    obd (jnD (FP.dmul v1 v3)) fun x6 =>
    some x6
set_option maxRecDepth 10000 in
def h_R_product_29 (v1 : UInt64) (v3 : UInt64) (T : MT) : Option UInt64 :=
  if (Op.cmpValue (FP.dcmp v1 (0 : UInt64)) .l) = 0 then (
    if (g_R_isEndless v3) = true then (
      some (0x7ff8000000000000 : UInt64))
    else
      h_R_product_46 v1 v3 T)
  else
    h_R_product_46 v1 v3 T
set_option maxRecDepth 10000 in
def h_R_product (v1 : UInt64) (v3 : UInt64) (T : MT) : Option UInt64 :=
  if (Op.cmpValue (FP.dcmp v1 v1) .l) = 0 then (
    if (Op.cmpValue (FP.dcmp v3 v3) .l) = 0 then (
      if (g_R_isEndless v1) = true then (
        if (Op.cmpValue (FP.dcmp v3 (0 : UInt64)) .l) = 0 then (
          some (0x7ff8000000000000 : UInt64))
        else
          h_R_product_29 v1 v3 T)
      else
        h_R_product_29 v1 v3 T)
    else
      some (0x7ff8000000000000 : UInt64))
  else
    some (0x7ff8000000000000 : UInt64)
set_option maxRecDepth 10000 in
def h_R_term_38 (s0 : Int64) (s1 : Int64) (T : MT) : Option MT :=
  jlet (tsJ T 32 0 (s1 + s0)) fun (T1 : MT) =>
  some T1
set_option maxRecDepth 10000 in
def h_R_term (v1 : UInt64) (v3 : UInt64) (v5 : Bool) (T : MT) : Option MT :=
  obd (jrg 60 (T.1 29 0)) fun n1 =>
  if (T.1 3 n1) = (2 : Int32) then (
    if v5 = true then (
      h_R_term_38 (-((FP.d2l v1) * (FP.d2l v3))) (T.2.1 32 0) T)
    else
      h_R_term_38 ((FP.d2l v1) * (FP.d2l v3)) (T.2.1 32 0) T)
  else
    obd (h_R_product v1 v3 T) fun x2 =>
    obd (h_R_joins x2 v5 T) fun (T3 : MT) =>
    some T3
set_option maxRecDepth 10000 in
def h_R_goesOn_175 (N : Nat) (s0 : UInt64) (T : MT) : Option (Bool × MT) :=
  jlet (tsD T 41 0 s0) fun (T1 : MT) =>
  jlet (tsI T1 40 0 ((T1.1 40 0) + (1 : Int32))) fun (T2 : MT) =>
  some (true, T2)
set_option maxRecDepth 10000 in
def h_R_goesOn_153 (N : Nat) (v1 : Int32) (v2 : Int32) (T : MT) : Option (Bool × MT) :=
  obd (jrg 60 v2) fun n1 =>
  if (T.1 2 n1) = (14 : Int32) then (
    obd (jrg 40 v1) fun n2 =>
    h_R_goesOn_175 N (T.2.2.1 38 n2) T)
  else
    h_R_goesOn_175 N (0 : UInt64) T
set_option maxRecDepth 10000 in
def h_R_goesOn (N : Nat) (T : MT) : Option (Bool × MT) :=
  if (T.1 34 0) = 0 then (
    some (false, T))
  else
    obd (jrg 40 ((T.1 34 0) - (1 : Int32))) fun n1 =>
    jlet (tsI T 39 0 (T.1 35 n1)) fun (T2 : MT) =>
    obd (jrg 40 ((T.1 34 0) - (1 : Int32))) fun n3 =>
    jlet (tsI T2 40 0 (T2.1 36 n3)) fun (T4 : MT) =>
    obd (jrg 200 (((10 : Int32) * (T4.1 39 0)) + (T4.1 40 0))) fun n5 =>
    obd (jrg 40 ((T.1 34 0) - (1 : Int32))) fun n6 =>
    if 0 ≤ (T4.1 37 n6) then (
      obd (jrg 40 ((T.1 34 0) - (1 : Int32))) fun n7 =>
      obd (jrg 40 ((T.1 34 0) - (1 : Int32))) fun n8 =>
      jlet (tsI T4 37 n8 ((T4.1 37 n7) - (1 : Int32))) fun (T9 : MT) =>
      obd (jrg 40 ((T.1 34 0) - (1 : Int32))) fun n10 =>
      if (T9.1 37 n10) = 0 then (
        jlet (tsI T9 34 0 ((T9.1 34 0) - (1 : Int32))) fun (T11 : MT) =>
        h_R_goesOn_153 N ((T.1 34 0) - (1 : Int32)) (T4.1 18 n5) T11)
      else
        h_R_goesOn_153 N ((T.1 34 0) - (1 : Int32)) (T4.1 18 n5) T9)
    else
      jlet (tsI T4 34 0 ((T4.1 34 0) - (1 : Int32))) fun (T12 : MT) =>
      obd (h_R_begins (T4.1 18 n5) T12) fun (T13 : MT) =>
      obd (h_R_c (T4.1 18 n5) (0 : Int32) T13) fun x14 =>
      obd (jrg 40 ((T.1 34 0) - (1 : Int32))) fun n15 =>
      obd (h_R_term x14 (T13.2.2.1 38 n15) false T13) fun (T16 : MT) =>
      obd (h_R_c (T4.1 18 n5) (1 : Int32) T16) fun x17 =>
      obd (h_R_term x17 (T16.2.2.1 33 0) false T16) fun (T18 : MT) =>
      tbd2 (h_R_comes T18) fun x19 T20 =>
      jlet (tsD T20 41 0 x19) fun (T21 : MT) =>
      obd (h_R_leaves N T21) fun (T22 : MT) =>
      some (true, T22)
set_option maxRecDepth 10000 in
def h_R_st (v1 : Int32) (v2 : Int32) (T : MT) : Option UInt64 :=
  obd (jrg 3840 (((64 : Int32) * v1) + v2)) fun n1 =>
  some (T.2.2.1 13 n1)
set_option maxRecDepth 10000 in
def h_R_st_2 (v1 : Int32) (v2 : Int32) (v3 : UInt64) (T : MT) : Option MT :=
  obd (jrg 3840 (((64 : Int32) * v1) + v2)) fun n1 =>
  jlet (tsD T 13 n1 v3) fun (T2 : MT) =>
  some T2
set_option maxRecDepth 10000 in
def h_R_term_2_38 (s0 : Int64) (s1 : Int64) (T : MT) : Option MT :=
  jlet (tsJ T 32 0 (s1 + s0)) fun (T1 : MT) =>
  some T1
set_option maxRecDepth 10000 in
def h_R_term_2 (v1 : UInt64) (v3 : Bool) (T : MT) : Option MT :=
  obd (jrg 60 (T.1 29 0)) fun n1 =>
  if (T.1 3 n1) = (2 : Int32) then (
    jlet ((16384 : Int64) * (FP.d2l v1)) fun (v4_2 : Int64) =>
    if v3 = true then (
      h_R_term_2_38 (-v4_2) (T.2.1 32 0) T)
    else
      h_R_term_2_38 v4_2 (T.2.1 32 0) T)
  else
    obd (h_R_joins v1 v3 T) fun (T3 : MT) =>
    some T3
set_option maxRecDepth 10000 in
def h_R_waits (v1 : Int32) (T : MT) : Option MT :=
  obd (jrg 40 (T.1 34 0)) fun n1 =>
  jlet (tsI T 35 n1 (T.1 39 0)) fun (T2 : MT) =>
  obd (jrg 40 (T2.1 34 0)) fun n3 =>
  jlet (tsI T2 36 n3 (T2.1 40 0)) fun (T4 : MT) =>
  obd (jrg 40 (T4.1 34 0)) fun n5 =>
  jlet (tsI T4 37 n5 v1) fun (T6 : MT) =>
  obd (jrg 40 (T6.1 34 0)) fun n7 =>
  jlet (tsD T6 38 n7 (T6.2.2.1 41 0)) fun (T8 : MT) =>
  jlet (tsI T8 34 0 ((T8.1 34 0) + (1 : Int32))) fun (T9 : MT) =>
  some T9
set_option maxRecDepth 10000 in
def h_R_rings (v1 : Int32) (v2 : UInt64) (T : MT) : Option (UInt64 × MT) :=
  obd (jrg 60 v1) fun n1 =>
  obd (jrg 60 v1) fun n2 =>
  jlet (((64 : Int32) * v1) + (T.1 14 n2)) fun (v5_3 : Int32) =>
  obd (jrg 3840 v5_3) fun n4 =>
  obd (jrg 3840 v5_3) fun n5 =>
  jlet (tsD T 13 n5 v2) fun (T6 : MT) =>
  obd (jrg 60 v1) fun n7 =>
  obd (jremI ((T6.1 14 n7) + (1 : Int32)) (T.1 4 n1)) fun x8 =>
  obd (jrg 60 v1) fun n9 =>
  jlet (tsI T6 14 n9 x8) fun (T10 : MT) =>
  some ((T.2.2.1 13 n4), T10)
set_option maxRecDepth 10000 in
def h_R_shapes_78 (v1 : Int32) (v2 : UInt64) (v4 : UInt64) (s0 : UInt64) (T : MT) : Option (UInt64 × MT) :=
  if (Op.cmpValue (FP.dcmp v2 v4) .l) ≤ 0 then (
    if 0 ≤ (Op.cmpValue (FP.dcmp v2 s0) .g) then (
      some (v2, T))
    else
      obd (jrg 60 v1) fun n1 =>
      obd (jrg 60 v1) fun n2 =>
      jlet (tsI T 12 n2 ((T.1 12 n1) + (1 : Int32))) fun (T3 : MT) =>
      some (s0, T3))
  else
    obd (jrg 60 v1) fun n4 =>
    obd (jrg 60 v1) fun n5 =>
    jlet (tsI T 12 n5 ((T.1 12 n4) + (1 : Int32))) fun (T6 : MT) =>
    some (v4, T6)
set_option maxRecDepth 10000 in
def h_R_shapes_202 (v1 : Int32) (v6 : UInt64) (T : MT) : Option (UInt64 × MT) :=
  obd (h_R_st_2 v1 (0 : Int32) v6 T) fun (T1 : MT) =>
  some (v6, T1)
set_option maxRecDepth 10000 in
def h_R_shapes (v1 : Int32) (v2 : UInt64) (T : MT) : Option (UInt64 × MT) :=
  obd (h_R_c v1 (0 : Int32) T) fun x1 =>
  obd (jrg 60 v1) fun n2 =>
  if (T.1 2 n2) = 9 then (
    obd (jrg 60 v1) fun n3 =>
    if (T.1 3 n3) = (2 : Int32) then (
      h_R_shapes_78 v1 v2 x1 (g_R_cut (-(FP.d2l x1)) (0 : Int32)) T)
    else
      if (Op.cmpValue (FP.dcmp x1 x1) .l) = 0 then (
        h_R_shapes_78 v1 v2 x1 (FP.dneg x1) T)
      else
        h_R_shapes_78 v1 v2 x1 (0x7ff8000000000000 : UInt64) T)
  else
  if (T.1 2 n2) = 10 then (
    obd (jrg 60 v1) fun n4 =>
    obd (g_R_sizeOf 0 (T.1 3 n4) v2) fun x5 =>
    if (Op.cmpValue (FP.dcmp x5 x1) .g) ≤ 0 then (
      obd (jrg 60 v1) fun n6 =>
      obd (jrg 60 v1) fun n7 =>
      jlet (tsI T 12 n7 ((T.1 12 n6) + (1 : Int32))) fun (T8 : MT) =>
      some ((0 : UInt64), T8))
    else
      some (v2, T))
  else
  if (T.1 2 n2) = 11 then (
    obd (jrg 60 v1) fun n9 =>
    obd (g_R_sizeOf 0 (T.1 3 n9) v2) fun x10 =>
    obd (h_R_st v1 (0 : Int32) T) fun x11 =>
    if 0 < (Op.cmpValue (FP.dcmp x10 x11) .l) then (
      h_R_shapes_202 v1 x10 T)
    else
      obd (h_R_begins v1 T) fun (T12 : MT) =>
      obd (h_R_st v1 (0 : Int32) T12) fun x13 =>
      obd (h_R_term x1 x13 false T12) fun (T14 : MT) =>
      tbd2 (h_R_comes T14) fun x15 T16 =>
      h_R_shapes_202 v1 x15 T16)
  else
  obd (h_R_begins v1 T) fun (T17 : MT) =>
  obd (h_R_term x1 v2 false T17) fun (T18 : MT) =>
  obd (h_R_c v1 (1 : Int32) T18) fun x19 =>
  obd (h_R_term x19 (0 : UInt64) false T18) fun (T20 : MT) =>
  tbd2 (h_R_comes T20) fun x21 T22 =>
  some (x21, T22)
set_option maxRecDepth 10000 in
def h_R_works_620 (N : Nat) : Nat → Int32 → Int32 → MT → Option (UInt64 × MT)
  | 0, _, _, _ => none
  | n + 1, v1, v4, T =>
    obd (jrg 60 v1) fun n1 =>
    if (T.1 4 n1) ≤ v4 then (
      tbd2 (h_R_comes T) fun x2 T3 =>
      obd (h_R_begins v1 T3) fun (T4 : MT) =>
      obd (h_R_c v1 (0 : Int32) T4) fun x5 =>
      obd (h_R_term x5 x2 false T4) fun (T6 : MT) =>
      tbd2 (h_R_comes T6) fun x7 T8 =>
      some (x7, T8))
    else
      obd (jrg 60 v1) fun n9 =>
      obd (jrg 60 v1) fun n10 =>
      obd (jremI ((T.1 14 n9) + v4) (T.1 4 n10)) fun x11 =>
      obd (h_R_st v1 x11 T) fun x12 =>
      obd (h_R_term_2 x12 false T) fun (T13 : MT) =>
      h_R_works_620 N n v1 (v4 + 1) T13
set_option maxRecDepth 10000 in
def h_R_works (N : Nat) (v1 : Int32) (v2 : UInt64) (T : MT) : Option (UInt64 × MT) :=
  obd (jrg 60 v1) fun n1 =>
  if (T.1 2 n1) = 0 then (
    obd (h_R_begins v1 T) fun (T2 : MT) =>
    obd (h_R_c v1 (0 : Int32) T2) fun x3 =>
    obd (h_R_term x3 v2 false T2) fun (T4 : MT) =>
    tbd2 (h_R_comes T4) fun x5 T6 =>
    some (x5, T6))
  else
  if (T.1 2 n1) = 1 then (
    obd (h_R_begins v1 T) fun (T7 : MT) =>
    obd (h_R_c v1 (0 : Int32) T7) fun x8 =>
    obd (h_R_term x8 v2 false T7) fun (T9 : MT) =>
    obd (h_R_c v1 (1 : Int32) T9) fun x10 =>
    obd (h_R_st v1 (0 : Int32) T9) fun x11 =>
    obd (h_R_term x10 x11 false T9) fun (T12 : MT) =>
    tbd2 (h_R_comes T12) fun x13 T14 =>
    obd (h_R_st_2 v1 (0 : Int32) x13 T14) fun (T15 : MT) =>
    some (x13, T15))
  else
  if (T.1 2 n1) = 2 then (
    obd (h_R_begins v1 T) fun (T16 : MT) =>
    obd (h_R_c v1 (0 : Int32) T16) fun x17 =>
    obd (h_R_term x17 v2 false T16) fun (T18 : MT) =>
    obd (h_R_c v1 (1 : Int32) T18) fun x19 =>
    obd (h_R_st v1 (0 : Int32) T18) fun x20 =>
    obd (h_R_term x19 x20 false T18) fun (T21 : MT) =>
    obd (h_R_c v1 (2 : Int32) T21) fun x22 =>
    obd (h_R_st v1 (1 : Int32) T21) fun x23 =>
    obd (h_R_term x22 x23 false T21) fun (T24 : MT) =>
    obd (h_R_c v1 (3 : Int32) T24) fun x25 =>
    obd (h_R_st v1 (2 : Int32) T24) fun x26 =>
    obd (h_R_term x25 x26 true T24) fun (T27 : MT) =>
    obd (h_R_c v1 (4 : Int32) T27) fun x28 =>
    obd (h_R_st v1 (3 : Int32) T27) fun x29 =>
    obd (h_R_term x28 x29 true T27) fun (T30 : MT) =>
    tbd2 (h_R_comes T30) fun x31 T32 =>
    obd (h_R_st v1 (0 : Int32) T32) fun x33 =>
    obd (h_R_st_2 v1 (1 : Int32) x33 T32) fun (T34 : MT) =>
    obd (h_R_st_2 v1 (0 : Int32) v2 T34) fun (T35 : MT) =>
    obd (h_R_st v1 (2 : Int32) T35) fun x36 =>
    obd (h_R_st_2 v1 (3 : Int32) x36 T35) fun (T37 : MT) =>
    obd (h_R_st_2 v1 (2 : Int32) x31 T37) fun (T38 : MT) =>
    some (x31, T38))
  else
  if (T.1 2 n1) = 3 then (
    obd (h_R_begins v1 T) fun (T39 : MT) =>
    obd (h_R_term_2 v2 false T39) fun (T40 : MT) =>
    obd (h_R_c v1 (3 : Int32) T40) fun x41 =>
    obd (h_R_st v1 (0 : Int32) T40) fun x42 =>
    obd (h_R_term x41 x42 true T40) fun (T43 : MT) =>
    obd (h_R_c v1 (4 : Int32) T43) fun x44 =>
    obd (h_R_st v1 (1 : Int32) T43) fun x45 =>
    obd (h_R_term x44 x45 true T43) fun (T46 : MT) =>
    tbd2 (h_R_comes T46) fun x47 T48 =>
    obd (h_R_begins v1 T48) fun (T49 : MT) =>
    obd (h_R_c v1 (0 : Int32) T49) fun x50 =>
    obd (h_R_term x50 x47 false T49) fun (T51 : MT) =>
    obd (h_R_c v1 (1 : Int32) T51) fun x52 =>
    obd (h_R_st v1 (0 : Int32) T51) fun x53 =>
    obd (h_R_term x52 x53 false T51) fun (T54 : MT) =>
    obd (h_R_c v1 (2 : Int32) T54) fun x55 =>
    obd (h_R_st v1 (1 : Int32) T54) fun x56 =>
    obd (h_R_term x55 x56 false T54) fun (T57 : MT) =>
    tbd2 (h_R_comes T57) fun x58 T59 =>
    obd (h_R_st v1 (0 : Int32) T59) fun x60 =>
    obd (h_R_st_2 v1 (1 : Int32) x60 T59) fun (T61 : MT) =>
    obd (h_R_st_2 v1 (0 : Int32) x47 T61) fun (T62 : MT) =>
    some (x58, T62))
  else
  if (T.1 2 n1) = 4 then (
    obd (h_R_begins v1 T) fun (T63 : MT) =>
    obd (h_R_c v1 (0 : Int32) T63) fun x64 =>
    obd (h_R_term x64 v2 false T63) fun (T65 : MT) =>
    obd (h_R_st v1 (0 : Int32) T65) fun x66 =>
    obd (h_R_term_2 x66 false T65) fun (T67 : MT) =>
    tbd2 (h_R_comes T67) fun x68 T69 =>
    obd (h_R_begins v1 T69) fun (T70 : MT) =>
    obd (h_R_c v1 (1 : Int32) T70) fun x71 =>
    obd (h_R_term x71 v2 false T70) fun (T72 : MT) =>
    obd (h_R_c v1 (3 : Int32) T72) fun x73 =>
    obd (h_R_term x73 x68 true T72) fun (T74 : MT) =>
    obd (h_R_st v1 (1 : Int32) T74) fun x75 =>
    obd (h_R_term_2 x75 false T74) fun (T76 : MT) =>
    tbd2 (h_R_comes T76) fun x77 T78 =>
    obd (h_R_st_2 v1 (0 : Int32) x77 T78) fun (T79 : MT) =>
    obd (h_R_begins v1 T79) fun (T80 : MT) =>
    obd (h_R_c v1 (2 : Int32) T80) fun x81 =>
    obd (h_R_term x81 v2 false T80) fun (T82 : MT) =>
    obd (h_R_c v1 (4 : Int32) T82) fun x83 =>
    obd (h_R_term x83 x68 true T82) fun (T84 : MT) =>
    tbd2 (h_R_comes T84) fun x85 T86 =>
    obd (h_R_st_2 v1 (1 : Int32) x85 T86) fun (T87 : MT) =>
    some (x68, T87))
  else
  if (T.1 2 n1) = 5 then (
    obd (h_R_begins v1 T) fun (T88 : MT) =>
    obd (h_R_term_2 v2 false T88) fun (T89 : MT) =>
    obd (h_R_c v1 (0 : Int32) T89) fun x90 =>
    obd (h_R_st v1 (0 : Int32) T89) fun x91 =>
    obd (h_R_term x90 x91 true T89) fun (T92 : MT) =>
    tbd2 (h_R_comes T92) fun x93 T94 =>
    obd (h_R_begins v1 T94) fun (T95 : MT) =>
    obd (h_R_c v1 (0 : Int32) T95) fun x96 =>
    obd (h_R_term x96 x93 false T95) fun (T97 : MT) =>
    obd (h_R_st v1 (0 : Int32) T97) fun x98 =>
    obd (h_R_term_2 x98 false T97) fun (T99 : MT) =>
    obd (h_R_st_2 v1 (0 : Int32) x93 T99) fun (T100 : MT) =>
    tbd2 (h_R_comes T100) fun x101 T102 =>
    some (x101, T102))
  else
  if (T.1 2 n1) = 6 then (
    tbd2 (h_R_rings v1 v2 T) fun x103 T104 =>
    some (x103, T104))
  else
  if (T.1 2 n1) = 7 then (
    tbd2 (h_R_rings v1 v2 T) fun x105 T106 =>
    obd (h_R_begins v1 T106) fun (T107 : MT) =>
    h_R_works_620 N N v1 (0 : Int32) T107)
  else
  if (T.1 2 n1) = 8 then (
    obd (h_R_begins v1 T) fun (T108 : MT) =>
    obd (h_R_term_2 v2 false T108) fun (T109 : MT) =>
    obd (h_R_c v1 (0 : Int32) T109) fun x110 =>
    obd (jrg 60 v1) fun n111 =>
    obd (h_R_st v1 (T109.1 14 n111) T109) fun x112 =>
    obd (h_R_term x110 x112 false T109) fun (T113 : MT) =>
    tbd2 (h_R_comes T113) fun x114 T115 =>
    tbd2 (h_R_rings v1 x114 T115) fun x116 T117 =>
    some (x114, T117))
  else
  tbd2 (h_R_shapes v1 v2 T) fun x118 T119 =>
  some (x118, T119)
set_option maxRecDepth 10000 in
def h_R_goes_113 (N : Nat) (k26 : Int32 → Int32 → Bool → MT → Option (Int32 × MT)) (v1 : Int32) (v4 : Int32) (T : MT) : Option (Int32 × MT) :=
  tbd2 (h_R_goesOn N T) fun x1 T2 =>
  k26 v1 v4 x1 T2
set_option maxRecDepth 10000 in
def h_R_goes_240 (N : Nat) (k26 : Int32 → Int32 → Bool → MT → Option (Int32 × MT)) (k149 : Int32 → Int32 → Bool → Int32 → Int32 → MT → Option (Int32 × MT)) (v1 : Int32) (v4 : Int32) (v5 : Bool) (v6 : Int32) (v7 : Int32) (T : MT) : Option (Int32 × MT) :=
  k149 v1 v4 v5 v6 (v7 + 1) T
set_option maxRecDepth 10000 in
def h_R_goes_430 (N : Nat) (k26 : Int32 → Int32 → Bool → MT → Option (Int32 × MT)) (v1 : Int32) (v4 : Int32) (v5 : Bool) (T : MT) : Option (Int32 × MT) :=
  k26 v1 v4 v5 T
set_option maxRecDepth 10000 in
def h_R_goes_312 (N : Nat) (k26 : Int32 → Int32 → Bool → MT → Option (Int32 × MT)) (v1 : Int32) (v4 : Int32) (v5 : Bool) (T : MT) : Option (Int32 × MT) :=
  h_R_goes_430 N k26 v1 v4 v5 T
set_option maxRecDepth 10000 in
def h_R_goes_339 (N : Nat) (k26 : Int32 → Int32 → Bool → MT → Option (Int32 × MT)) (v1 : Int32) (v4 : Int32) (v5 : Bool) (v6 : Int32) (T : MT) : Option (Int32 × MT) :=
  obd (jrg 60 v6) fun n1 =>
  obd (h_R_waits ((T.1 4 n1) - (1 : Int32)) T) fun (T2 : MT) =>
  jlet (tsI T2 40 0 ((T2.1 40 0) + (1 : Int32))) fun (T3 : MT) =>
  h_R_goes_430 N k26 v1 v4 v5 T3
set_option maxRecDepth 10000 in
def h_R_goes_412 (N : Nat) (k26 : Int32 → Int32 → Bool → MT → Option (Int32 × MT)) (v1 : Int32) (v4 : Int32) (v5 : Bool) (v6 : Int32) (T : MT) : Option (Int32 × MT) :=
  tbd2 (h_R_works N v6 (T.2.2.1 41 0) T) fun x1 T2 =>
  jlet (tsD T2 41 0 x1) fun (T3 : MT) =>
  obd (h_R_leaves N T3) fun (T4 : MT) =>
  h_R_goes_430 N k26 v1 v4 v5 T4
set_option maxRecDepth 10000 in
def h_R_goes_149 (N : Nat) (k26 : Int32 → Int32 → Bool → MT → Option (Int32 × MT)) : Nat → Int32 → Int32 → Bool → Int32 → Int32 → MT → Option (Int32 × MT)
  | 0, _, _, _, _, _, _ => none
  | n + 1, v1, v4, v5, v6, v7, T =>
    obd (jrg 20 (T.1 39 0)) fun n1 =>
    if (((3 : Int32) * (T.1 39 0)) + (T.1 20 n1)) ≤ v7 then (
      obd (jrg 60 v6) fun n2 =>
      if (T.1 2 n2) = (12 : Int32) then (
        obd (h_R_st v6 (0 : Int32) T) fun x3 =>
        obd (jrg 60 v6) fun n4 =>
        obd (jremI ((FP.d2i x3) + (1 : Int32)) (T.1 4 n4)) fun x5 =>
        obd (h_R_st_2 v6 (0 : Int32) (FP.i2d x5) T) fun (T6 : MT) =>
        if (FP.d2i x3) ≤ 0 then (
          jlet (tsI T6 40 0 ((T6.1 40 0) + (1 : Int32))) fun (T7 : MT) =>
          h_R_goes_312 N k26 v1 v4 v5 T7)
        else
          tbd2 (h_R_goesOn N T6) fun x8 T9 =>
          h_R_goes_312 N k26 v1 v4 x8 T9)
      else
        obd (jrg 60 v6) fun n10 =>
        if (T.1 2 n10) = (13 : Int32) then (
          h_R_goes_339 N k26 v1 v4 v5 v6 T)
        else
          obd (jrg 60 v6) fun n11 =>
          if (T.1 2 n11) = (14 : Int32) then (
            h_R_goes_339 N k26 v1 v4 v5 v6 T)
          else
            obd (jrg 60 v6) fun n12 =>
            if (T.1 2 n12) = (15 : Int32) then (
              obd (jrg 60 v6) fun n13 =>
              if (T.1 10 n13) = (-1 : Int32) then (
                h_R_goes_412 N k26 v1 v4 v5 v6 T)
              else
                obd (h_R_waits (-1 : Int32) T) fun (T14 : MT) =>
                obd (jrg 60 v6) fun n15 =>
                jlet (tsI T14 39 0 (T14.1 10 n15)) fun (T16 : MT) =>
                jlet (tsI T16 40 0 (0 : Int32)) fun (T17 : MT) =>
                h_R_goes_430 N k26 v1 v4 v5 T17)
            else
              h_R_goes_412 N k26 v1 v4 v5 v6 T)
    else
      obd (jrg 60 v7) fun n18 =>
      if (T.1 22 n18) = (T.1 40 0) then (
        obd (h_R_begins v6 T) fun (T19 : MT) =>
        obd (h_R_term_2 (T19.2.2.1 41 0) false T19) fun (T20 : MT) =>
        obd (jrg 60 v7) fun n21 =>
        obd (jrg 60 v7) fun n22 =>
        obd (jrg 3840 (((64 : Int32) * v7) + (T20.1 26 n22))) fun n23 =>
        obd (h_R_term (T20.2.2.1 24 n21) (T20.2.2.1 25 n23) false T20) fun (T24 : MT) =>
        tbd2 (h_R_comes T24) fun x25 T26 =>
        jlet (tsD T26 41 0 x25) fun (T27 : MT) =>
        h_R_goes_240 N k26 (h_R_goes_149 N k26 n) v1 v4 v5 v6 v7 T27)
      else
        h_R_goes_240 N k26 (h_R_goes_149 N k26 n) v1 v4 v5 v6 v7 T
set_option maxRecDepth 10000 in
def h_R_goes_26 (N : Nat) : Nat → Int32 → Int32 → Bool → MT → Option (Int32 × MT)
  | 0, _, _, _, _ => none
  | n + 1, v1, v4, v5, T =>
    if v5 = true then (
      obd (jrg 20 (T.1 39 0)) fun n1 =>
      if (T.1 40 0) = (T.1 17 n1) then (
        obd (jrg 20 (T.1 39 0)) fun n2 =>
        obd (jrg 8000 (((400 : Int32) * (T.1 39 0)) + (((T.1 28 n2) &&& (2147483647 : Int32)) - ((T.1 28 n2) &&& (2147483647 : Int32)) / (400 : Int32) * (400 : Int32)))) fun n3 =>
        jlet (tsD T 27 n3 (T.2.2.1 41 0)) fun (T4 : MT) =>
        obd (jrg 20 (T4.1 39 0)) fun n5 =>
        obd (jrg 20 (T4.1 39 0)) fun n6 =>
        jlet (tsI T4 28 n6 ((T4.1 28 n5) + (1 : Int32))) fun (T7 : MT) =>
        jlet (tsD T7 33 0 (T7.2.2.1 41 0)) fun (T8 : MT) =>
        if (T8.1 39 0) = v1 then (
          h_R_goes_113 N (h_R_goes_26 N n) v1 (v4 + 1) T8)
        else
          h_R_goes_113 N (h_R_goes_26 N n) v1 v4 T8)
      else
        obd (jrg 200 (((10 : Int32) * (T.1 39 0)) + (T.1 40 0))) fun n9 =>
        h_R_goes_149 N (h_R_goes_26 N n) N v1 v4 v5 (T.1 18 n9) ((3 : Int32) * (T.1 39 0)) T)
    else
      some (v4, T)
set_option maxRecDepth 10000 in
def h_R_goes (N : Nat) (v1 : Int32) (v2 : UInt64) (T : MT) : Option (Int32 × MT) :=
  jlet (tsI T 34 0 (0 : Int32)) fun (T1 : MT) =>
  jlet (tsI T1 39 0 v1) fun (T2 : MT) =>
  jlet (tsI T2 40 0 (0 : Int32)) fun (T3 : MT) =>
  jlet (tsD T3 41 0 v2) fun (T4 : MT) =>
  h_R_goes_26 N N v1 (0 : Int32) true T4
set_option maxRecDepth 10000 in
def h_R_isFed (v1 : Int32) (T : MT) : Option Bool :=
  obd (h_R_isChain v1 T) fun x1 =>
  if x1 = true then (
    obd (jrg 20 v1) fun n2 =>
    if (T.1 17 n2) ≤ 0 then (
      some false)
    else
      obd (jrg 20 v1) fun n3 =>
      if (T.1 19 n3) = (-1 : Int32) then (
        some true)
      else
        some false)
  else
    some false
set_option maxRecDepth 10000 in
def h_R_feed (N : Nat) (v1 : Int32) (v2 : Int64) (T : MT) : Option (Int32 × MT) :=
  obd (h_R_isFed v1 T) fun x1 =>
  if x1 = true then (
    obd (h_R_sortOf v1 T) fun x2 =>
    if (g_R_isValue x2 v2) = true then (
      obd (h_R_sortOf v1 T) fun x3 =>
      obd (g_R_valueOf x3 v2) fun x4 =>
      tbd2 (h_R_goes N v1 x4 T) fun x5 T6 =>
      some (x5, T6))
    else
      some ((-1 : Int32), T))
  else
    some ((-1 : Int32), T)
set_option maxRecDepth 10000 in
def h_R_run_65 (N : Nat) (k29 : Int32 → Int32 → Int32 → Int32 → Int32 → MT → Option (Int32 × MT)) (v1 : Int32) (v2 : Int32) (v5 : Int32) (v6 : Int32) (s0 : UInt64) (s1 : Int32) (s3 : Int32) (T : MT) : Option (Int32 × MT) :=
  tbd2 (h_R_goes N s1 s0 T) fun x1 T2 =>
  jlet ((v5 * (1103515245 : Int32)) + (12345 : Int32)) fun (v5_3 : Int32) =>
  k29 v1 v2 (s3 + x1) v5_3 (v6 + 1) T2
set_option maxRecDepth 10000 in
def h_R_run_29 (N : Nat) : Nat → Int32 → Int32 → Int32 → Int32 → Int32 → MT → Option (Int32 × MT)
  | 0, _, _, _, _, _, _ => none
  | n + 1, v1, v2, v4, v5, v6, T =>
    if v2 ≤ v6 then (
      some (v4, T))
    else
      jlet (FP.i2d (Int16.toInt32 (Int32.toInt16 v5))) fun (v7_1 : UInt64) =>
      obd (h_R_sortOf v1 T) fun x2 =>
      if x2 = (2 : Int32) then (
        h_R_run_65 N (h_R_run_29 N n) v1 v2 v5 v6 v7_1 v1 v4 T)
      else
        obd (jnD (FP.ddiv v7_1 (0x4070000000000000 : UInt64))) fun x3 =>
        h_R_run_65 N (h_R_run_29 N n) v1 v2 v5 v6 x3 v1 v4 T
set_option maxRecDepth 10000 in
def h_R_run (N : Nat) (v1 : Int32) (v2 : Int32) (v3 : Int32) (T : MT) : Option (Int32 × MT) :=
  obd (h_R_isFed v1 T) fun x1 =>
  if x1 = true then (
    if (g_R_in v2 (1 : Int32) (100 : Int32)) = true then (
      h_R_run_29 N N v1 v2 (0 : Int32) v3 (0 : Int32) T)
    else
      some ((-1 : Int32), T))
  else
    some ((-1 : Int32), T)
set_option maxRecDepth 10000 in
def h_R_isKeptOut (v1 : Int32) (v2 : Int32) (T : MT) : Option Bool :=
  if v2 < 0 then (
    some false)
  else
    obd (jrg 20 v1) fun n1 =>
    if (T.1 28 n1) ≤ v2 then (
      some false)
    else
      obd (jrg 20 v1) fun n2 =>
      if v2 < ((T.1 28 n2) - (400 : Int32)) then (
        some false)
      else
        some true
set_option maxRecDepth 10000 in
def h_R_output (v1 : Int32) (v2 : Int32) (T : MT) : Option Int64 :=
  obd (h_R_isChain v1 T) fun x1 =>
  if x1 = true then (
    obd (h_R_isKeptOut v1 v2 T) fun x2 =>
    if x2 = true then (
      obd (h_R_sortOf v1 T) fun x3 =>
      obd (jrg 8000 (((400 : Int32) * v1) + (v2 - v2 / (400 : Int32) * (400 : Int32)))) fun n4 =>
      obd (g_R_bitsOf x3 (T.2.2.1 27 n4)) fun x5 =>
      some x5)
    else
      some (0 : Int64))
  else
    some (0 : Int64)
set_option maxRecDepth 10000 in
def h_R_state_175 (v1 : Int32) (v2 : Int32) (v3 : Int32) (T : MT) : Option Int64 :=
  if (g_R_in v2 (0 : Int32) (v3 - (1 : Int32))) = true then (
    obd (jrg 60 v1) fun n1 =>
    obd (h_R_st v1 v2 T) fun x2 =>
    obd (g_R_bitsOf (T.1 3 n1) x2) fun x3 =>
    some x3)
  else
    some (0 : Int64)
set_option maxRecDepth 10000 in
def h_R_state_92 (v1 : Int32) (v2 : Int32) (T : MT) : Option Int64 :=
  h_R_state_175 v1 v2 (1 : Int32) T
set_option maxRecDepth 10000 in
def h_R_state_102 (v1 : Int32) (v2 : Int32) (T : MT) : Option Int64 :=
  h_R_state_175 v1 v2 (2 : Int32) T
set_option maxRecDepth 10000 in
def h_R_state_107 (v1 : Int32) (v2 : Int32) (T : MT) : Option Int64 :=
  obd (jrg 60 v1) fun n1 =>
  if (g_R_in v2 (0 : Int32) ((T.1 4 n1) - (1 : Int32))) = true then (
    obd (jrg 60 v1) fun n2 =>
    obd (jrg 60 v1) fun n3 =>
    obd (jrg 60 v1) fun n4 =>
    obd (jremI ((T.1 14 n3) + v2) (T.1 4 n4)) fun x5 =>
    obd (h_R_st v1 x5 T) fun x6 =>
    obd (g_R_bitsOf (T.1 3 n2) x6) fun x7 =>
    some x7)
  else
    some (0 : Int64)
set_option maxRecDepth 10000 in
def h_R_state_173 (v1 : Int32) (v2 : Int32) (T : MT) : Option Int64 :=
  h_R_state_175 v1 v2 (0 : Int32) T
set_option maxRecDepth 10000 in
def h_R_state (v1 : Int32) (v2 : Int32) (T : MT) : Option Int64 :=
  obd (h_R_isSection v1 T) fun x1 =>
  if x1 = true then (
    if v2 = (100 : Int32) then (
      obd (jrg 60 v1) fun n2 =>
      some (T.2.1 15 n2))
    else
      obd (jrg 60 v1) fun n3 =>
      if (T.1 2 n3) = 1 then (
        h_R_state_92 v1 v2 T)
      else
      if (T.1 2 n3) = 2 then (
        h_R_state_175 v1 v2 (4 : Int32) T)
      else
      if (T.1 2 n3) = 3 then (
        h_R_state_102 v1 v2 T)
      else
      if (T.1 2 n3) = 4 then (
        h_R_state_102 v1 v2 T)
      else
      if (T.1 2 n3) = 5 then (
        h_R_state_92 v1 v2 T)
      else
      if (T.1 2 n3) = 6 then (
        h_R_state_107 v1 v2 T)
      else
      if (T.1 2 n3) = 7 then (
        h_R_state_107 v1 v2 T)
      else
      if (T.1 2 n3) = 8 then (
        h_R_state_107 v1 v2 T)
      else
      if (T.1 2 n3) = 9 then (
        h_R_state_173 v1 v2 T)
      else
      if (T.1 2 n3) = 10 then (
        h_R_state_173 v1 v2 T)
      else
      if (T.1 2 n3) = 11 then (
        h_R_state_92 v1 v2 T)
      else
      if (T.1 2 n3) = 12 then (
        if v2 = 0 then (
          obd (h_R_st v1 (0 : Int32) T) fun x4 =>
          some (FP.d2l x4))
        else
          some (0 : Int64))
      else
      h_R_state_173 v1 v2 T)
  else
    some (0 : Int64)
set_option maxRecDepth 10000 in
def h_R_about (v1 : Int32) (v2 : Int32) (T : MT) : Option Int32 :=
  obd (h_R_isSection v1 T) fun x1 =>
  if x1 = true then (
    if v2 = 0 then (
      obd (jrg 60 v1) fun n2 =>
      some (T.1 2 n2))
    else
    if v2 = 1 then (
      obd (jrg 60 v1) fun n3 =>
      some (T.1 3 n3))
    else
    if v2 = 2 then (
      obd (jrg 60 v1) fun n4 =>
      some (T.1 4 n4))
    else
    if v2 = 3 then (
      obd (jrg 60 v1) fun n5 =>
      some (T.1 8 n5))
    else
    if v2 = 4 then (
      obd (jrg 60 v1) fun n6 =>
      some (T.1 9 n6))
    else
    if v2 = 5 then (
      obd (jrg 60 v1) fun n7 =>
      some (T.1 11 n7))
    else
    if v2 = 6 then (
      obd (jrg 60 v1) fun n8 =>
      some (T.1 12 n8))
    else
    if v2 = 7 then (
      obd (jrg 60 v1) fun n9 =>
      some (T.1 10 n9))
    else
    if v2 = 8 then (
      obd (jrg 60 v1) fun n10 =>
      some (T.1 5 n10))
    else
    if v2 = 9 then (
      obd (jrg 60 v1) fun n11 =>
      some (T.1 6 n11))
    else
    some (-1 : Int32))
  else
    some (-1 : Int32)
set_option maxRecDepth 10000 in
def h_R_told (v1 : Int32) (v2 : Int32) (T : MT) : Option Int64 :=
  obd (h_R_isCoefficient v1 v2 T) fun x1 =>
  if x1 = true then (
    obd (jrg 60 v1) fun n2 =>
    obd (h_R_c v1 v2 T) fun x3 =>
    obd (g_R_bitsOf (T.1 3 n2) x3) fun x4 =>
    some x4)
  else
    some (0 : Int64)
set_option maxRecDepth 10000 in
def h_R_empties_27 (N : Nat) (k11 : Int32 → Int32 → MT → Option MT) : Nat → Int32 → Int32 → Int32 → MT → Option MT
  | 0, _, _, _, _ => none
  | n + 1, v1, v2, v3, T =>
    if (64 : Int32) ≤ v3 then (
      obd (jrg 60 v2) fun n1 =>
      jlet (tsI T 26 n1 (0 : Int32)) fun (T2 : MT) =>
      k11 v1 (v2 + 1) T2)
    else
      obd (jrg 3840 (((64 : Int32) * v2) + v3)) fun n3 =>
      jlet (tsD T 25 n3 (0 : UInt64)) fun (T4 : MT) =>
      h_R_empties_27 N k11 n v1 v2 (v3 + 1) T4
set_option maxRecDepth 10000 in
def h_R_empties_66 (N : Nat) : Nat → Int32 → Int32 → MT → Option MT
  | 0, _, _, _ => none
  | n + 1, v1, v2, T =>
    obd (jrg 20 v1) fun n1 =>
    if (T.1 17 n1) ≤ v2 then (
      some T)
    else
      obd (jrg 200 (((10 : Int32) * v1) + v2)) fun n2 =>
      obd (h_R_clears N (T.1 18 n2) T) fun (T3 : MT) =>
      h_R_empties_66 N n v1 (v2 + 1) T3
set_option maxRecDepth 10000 in
def h_R_empties_11 (N : Nat) : Nat → Int32 → Int32 → MT → Option MT
  | 0, _, _, _ => none
  | n + 1, v1, v2, T =>
    obd (jrg 20 v1) fun n1 =>
    if (((3 : Int32) * v1) + (T.1 20 n1)) ≤ v2 then (
      h_R_empties_66 N N v1 (0 : Int32) T)
    else
      h_R_empties_27 N (h_R_empties_11 N n) N v1 v2 (0 : Int32) T
set_option maxRecDepth 10000 in
def h_R_empties (N : Nat) (v1 : Int32) (T : MT) : Option MT :=
  obd (jrg 20 v1) fun n1 =>
  jlet (tsI T 28 n1 (0 : Int32)) fun (T2 : MT) =>
  h_R_empties_11 N N v1 ((3 : Int32) * v1) T2
set_option maxRecDepth 10000 in
def h_R_trees_97 (N : Nat) (k14 : Int32 → MT → Option MT) (k24 : Int32 → Int32 → MT → Option MT) (v2 : Int32) (v3 : Int32) (T : MT) : Option MT :=
  k24 v2 (v3 + 1) T
set_option maxRecDepth 10000 in
def h_R_trees_24 (N : Nat) (k14 : Int32 → MT → Option MT) : Nat → Int32 → Int32 → MT → Option MT
  | 0, _, _, _ => none
  | n + 1, v2, v3, T =>
    obd (jrg 20 v2) fun n1 =>
    obd (jrg 20 (T.1 43 n1)) fun n2 =>
    if (T.1 17 n2) ≤ v3 then (
      k14 (v2 + 1) T)
    else
      obd (jrg 20 v2) fun n3 =>
      obd (jrg 200 (((10 : Int32) * (T.1 43 n3)) + v3)) fun n4 =>
      obd (jrg 60 (T.1 18 n4)) fun n5 =>
      if (T.1 10 n5) = (-1 : Int32) then (
        h_R_trees_97 N k14 (h_R_trees_24 N k14 n) v2 v3 T)
      else
        obd (jrg 60 (T.1 18 n4)) fun n6 =>
        obd (jrg 20 (T.1 42 0)) fun n7 =>
        jlet (tsI T 43 n7 (T.1 10 n6)) fun (T8 : MT) =>
        jlet (tsI T8 42 0 ((T8.1 42 0) + (1 : Int32))) fun (T9 : MT) =>
        h_R_trees_97 N k14 (h_R_trees_24 N k14 n) v2 v3 T9
set_option maxRecDepth 10000 in
def h_R_trees_14 (N : Nat) : Nat → Int32 → MT → Option MT
  | 0, _, _ => none
  | n + 1, v2, T =>
    if (T.1 42 0) ≤ v2 then (
      some T)
    else
      h_R_trees_24 N (h_R_trees_14 N n) N v2 (0 : Int32) T
set_option maxRecDepth 10000 in
def h_R_trees (N : Nat) (v1 : Int32) (T : MT) : Option MT :=
  jlet (tsI T 42 0 (1 : Int32)) fun (T1 : MT) =>
  obd (jrg 20 (0 : Int32)) fun n2 =>
  jlet (tsI T1 43 n2 v1) fun (T3 : MT) =>
  h_R_trees_14 N N (0 : Int32) T3
set_option maxRecDepth 10000 in
def h_R_reset_17 (N : Nat) : Nat → Int32 → MT → Option (Bool × MT)
  | 0, _, _ => none
  | n + 1, v2, T =>
    if (T.1 42 0) ≤ v2 then (
      some (true, T))
    else
      obd (jrg 20 v2) fun n1 =>
      obd (h_R_empties N (T.1 43 n1) T) fun (T2 : MT) =>
      h_R_reset_17 N n (v2 + 1) T2
set_option maxRecDepth 10000 in
def h_R_reset (N : Nat) (v1 : Int32) (T : MT) : Option (Bool × MT) :=
  obd (h_R_isChain v1 T) fun x1 =>
  if x1 = true then (
    obd (h_R_trees N v1 T) fun (T2 : MT) =>
    h_R_reset_17 N N (0 : Int32) T2)
  else
    some (false, T)
set_option maxRecDepth 10000 in
def h_R_keeps_63 (N : Nat) (k38 : Int32 → Int32 → Int32 → MT → Option MT) : Nat → Int32 → Int32 → Int32 → Int32 → Int32 → MT → Option MT
  | 0, _, _, _, _, _, _ => none
  | n + 1, v1, v2, v3, v4, v5, T =>
    if (64 : Int32) ≤ v5 then (
      obd (jrg 60 v3) fun n1 =>
      obd (jrg 480 v4) fun n2 =>
      jlet (tsI T 50 n2 (T.1 26 n1)) fun (T3 : MT) =>
      k38 v1 v2 (v3 + 1) T3)
    else
      obd (jrg 3840 (((64 : Int32) * v3) + v5)) fun n4 =>
      obd (jrg 30720 (((64 : Int32) * v4) + v5)) fun n5 =>
      jlet (tsD T 49 n5 (T.2.2.1 25 n4)) fun (T6 : MT) =>
      h_R_keeps_63 N k38 n v1 v2 v3 v4 (v5 + 1) T6
set_option maxRecDepth 10000 in
def h_R_keeps_157 (N : Nat) (k122 : Int32 → Int32 → Int32 → MT → Option MT) : Nat → Int32 → Int32 → Int32 → Int32 → Int32 → Int32 → MT → Option MT
  | 0, _, _, _, _, _, _, _ => none
  | n + 1, v1, v2, v3, v4, v5, v6, T =>
    if (64 : Int32) ≤ v6 then (
      obd (jrg 60 v4) fun n1 =>
      obd (jrg 480 v5) fun n2 =>
      jlet (tsI T 47 n2 (T.1 14 n1)) fun (T3 : MT) =>
      obd (jrg 60 v4) fun n4 =>
      obd (jrg 480 v5) fun n5 =>
      jlet (tsJ T3 48 n5 (T3.2.1 15 n4)) fun (T6 : MT) =>
      obd (jrg 60 v4) fun n7 =>
      obd (jrg 480 v5) fun n8 =>
      jlet (tsI T6 53 n8 (T6.1 10 n7)) fun (T9 : MT) =>
      k122 v1 v2 (v3 + 1) T9)
    else
      obd (jrg 3840 (((64 : Int32) * v4) + v6)) fun n10 =>
      obd (jrg 30720 (((64 : Int32) * v5) + v6)) fun n11 =>
      jlet (tsD T 46 n11 (T.2.2.1 13 n10)) fun (T12 : MT) =>
      h_R_keeps_157 N k122 n v1 v2 v3 v4 v5 (v6 + 1) T12
set_option maxRecDepth 10000 in
def h_R_keeps_122 (N : Nat) : Nat → Int32 → Int32 → Int32 → MT → Option MT
  | 0, _, _, _, _ => none
  | n + 1, v1, v2, v3, T =>
    obd (jrg 20 v2) fun n1 =>
    if (T.1 17 n1) ≤ v3 then (
      some T)
    else
      obd (jrg 200 (((10 : Int32) * v2) + v3)) fun n2 =>
      jlet (((60 : Int32) * v1) + (T.1 18 n2)) fun (v5_3 : Int32) =>
      h_R_keeps_157 N (h_R_keeps_122 N n) N v1 v2 v3 (T.1 18 n2) v5_3 (0 : Int32) T
set_option maxRecDepth 10000 in
def h_R_keeps_38 (N : Nat) : Nat → Int32 → Int32 → Int32 → MT → Option MT
  | 0, _, _, _, _ => none
  | n + 1, v1, v2, v3, T =>
    obd (jrg 20 v2) fun n1 =>
    if (((3 : Int32) * v2) + (T.1 20 n1)) ≤ v3 then (
      h_R_keeps_122 N N v1 v2 (0 : Int32) T)
    else
      h_R_keeps_63 N (h_R_keeps_38 N n) N v1 v2 v3 (((60 : Int32) * v1) + v3) (0 : Int32) T
set_option maxRecDepth 10000 in
def h_R_keeps (N : Nat) (v1 : Int32) (v2 : Int32) (T : MT) : Option MT :=
  obd (jrg 20 v2) fun n1 =>
  obd (jrg 160 (((20 : Int32) * v1) + v2)) fun n2 =>
  jlet (tsI T 51 n2 (T.1 17 n1)) fun (T3 : MT) =>
  obd (jrg 20 v2) fun n4 =>
  obd (jrg 160 (((20 : Int32) * v1) + v2)) fun n5 =>
  jlet (tsI T3 52 n5 (T3.1 20 n4)) fun (T6 : MT) =>
  h_R_keeps_38 N N v1 v2 ((3 : Int32) * v2) T6
set_option maxRecDepth 10000 in
def h_R_keep_36 (N : Nat) : Nat → Int32 → MT → Option (Int32 × MT)
  | 0, _, _ => none
  | n + 1, v2, T =>
    if (T.1 42 0) ≤ v2 then (
      jlet (tsI T 44 0 ((T.1 44 0) + (1 : Int32))) fun (T1 : MT) =>
      some (((T1.1 44 0) - (1 : Int32)), T1))
    else
      obd (jrg 20 v2) fun n2 =>
      obd (h_R_keeps N (T.1 44 0) (T.1 43 n2) T) fun (T3 : MT) =>
      h_R_keep_36 N n (v2 + 1) T3
set_option maxRecDepth 10000 in
def h_R_keep (N : Nat) (v1 : Int32) (T : MT) : Option (Int32 × MT) :=
  obd (h_R_isChain v1 T) fun x1 =>
  if x1 = true then (
    if (T.1 44 0) = (8 : Int32) then (
      some ((-1 : Int32), T))
    else
      obd (jrg 8 (T.1 44 0)) fun n2 =>
      jlet (tsI T 45 n2 v1) fun (T3 : MT) =>
      obd (h_R_trees N v1 T3) fun (T4 : MT) =>
      h_R_keep_36 N N (0 : Int32) T4)
  else
    some ((-1 : Int32), T)
set_option maxRecDepth 10000 in
def h_R_backs_29 (N : Nat) (k4 : Int32 → Int32 → Int32 → MT → Option MT) : Nat → Int32 → Int32 → Int32 → Int32 → Int32 → MT → Option MT
  | 0, _, _, _, _, _, _ => none
  | n + 1, v1, v2, v3, v4, v5, T =>
    if (64 : Int32) ≤ v5 then (
      obd (jrg 480 v4) fun n1 =>
      obd (jrg 60 v3) fun n2 =>
      jlet (tsI T 26 n2 (T.1 50 n1)) fun (T3 : MT) =>
      k4 v1 v2 (v3 + 1) T3)
    else
      obd (jrg 30720 (((64 : Int32) * v4) + v5)) fun n4 =>
      obd (jrg 3840 (((64 : Int32) * v3) + v5)) fun n5 =>
      jlet (tsD T 25 n5 (T.2.2.1 49 n4)) fun (T6 : MT) =>
      h_R_backs_29 N k4 n v1 v2 v3 v4 (v5 + 1) T6
set_option maxRecDepth 10000 in
def h_R_backs_123 (N : Nat) (k88 : Int32 → Int32 → Int32 → MT → Option MT) : Nat → Int32 → Int32 → Int32 → Int32 → Int32 → Int32 → MT → Option MT
  | 0, _, _, _, _, _, _, _ => none
  | n + 1, v1, v2, v3, v4, v5, v6, T =>
    if (64 : Int32) ≤ v6 then (
      obd (jrg 480 v5) fun n1 =>
      obd (jrg 60 v4) fun n2 =>
      jlet (tsI T 14 n2 (T.1 47 n1)) fun (T3 : MT) =>
      obd (jrg 480 v5) fun n4 =>
      obd (jrg 60 v4) fun n5 =>
      jlet (tsJ T3 15 n5 (T3.2.1 48 n4)) fun (T6 : MT) =>
      k88 v1 v2 (v3 + 1) T6)
    else
      obd (jrg 30720 (((64 : Int32) * v5) + v6)) fun n7 =>
      obd (jrg 3840 (((64 : Int32) * v4) + v6)) fun n8 =>
      jlet (tsD T 13 n8 (T.2.2.1 46 n7)) fun (T9 : MT) =>
      h_R_backs_123 N k88 n v1 v2 v3 v4 v5 (v6 + 1) T9
set_option maxRecDepth 10000 in
def h_R_backs_88 (N : Nat) : Nat → Int32 → Int32 → Int32 → MT → Option MT
  | 0, _, _, _, _ => none
  | n + 1, v1, v2, v3, T =>
    obd (jrg 20 v2) fun n1 =>
    if (T.1 17 n1) ≤ v3 then (
      some T)
    else
      obd (jrg 200 (((10 : Int32) * v2) + v3)) fun n2 =>
      jlet (((60 : Int32) * v1) + (T.1 18 n2)) fun (v5_3 : Int32) =>
      h_R_backs_123 N (h_R_backs_88 N n) N v1 v2 v3 (T.1 18 n2) v5_3 (0 : Int32) T
set_option maxRecDepth 10000 in
def h_R_backs_4 (N : Nat) : Nat → Int32 → Int32 → Int32 → MT → Option MT
  | 0, _, _, _, _ => none
  | n + 1, v1, v2, v3, T =>
    obd (jrg 20 v2) fun n1 =>
    if (((3 : Int32) * v2) + (T.1 20 n1)) ≤ v3 then (
      h_R_backs_88 N N v1 v2 (0 : Int32) T)
    else
      h_R_backs_29 N (h_R_backs_4 N n) N v1 v2 v3 (((60 : Int32) * v1) + v3) (0 : Int32) T
set_option maxRecDepth 10000 in
def h_R_backs (N : Nat) (v1 : Int32) (v2 : Int32) (T : MT) : Option MT :=
  h_R_backs_4 N N v1 v2 ((3 : Int32) * v2) T
set_option maxRecDepth 10000 in
def h_R_fits_44 (N : Nat) : Nat → Int32 → Int32 → Int32 → MT → Option Bool
  | 0, _, _, _, _ => none
  | n + 1, v1, v2, v3, T =>
    obd (jrg 20 v2) fun n1 =>
    if (T.1 17 n1) ≤ v3 then (
      some true)
    else
      obd (jrg 200 (((10 : Int32) * v2) + v3)) fun n2 =>
      obd (jrg 480 (((60 : Int32) * v1) + (T.1 18 n2))) fun n3 =>
      obd (jrg 60 (T.1 18 n2)) fun n4 =>
      if (T.1 53 n3) = (T.1 10 n4) then (
        h_R_fits_44 N n v1 v2 (v3 + 1) T)
      else
        some false
set_option maxRecDepth 10000 in
def h_R_fits (N : Nat) (v1 : Int32) (v2 : Int32) (T : MT) : Option Bool :=
  obd (jrg 160 (((20 : Int32) * v1) + v2)) fun n1 =>
  obd (jrg 20 v2) fun n2 =>
  if (T.1 51 n1) = (T.1 17 n2) then (
    obd (jrg 160 (((20 : Int32) * v1) + v2)) fun n3 =>
    obd (jrg 20 v2) fun n4 =>
    if (T.1 52 n3) = (T.1 20 n4) then (
      h_R_fits_44 N N v1 v2 (0 : Int32) T)
    else
      some false)
  else
    some false
set_option maxRecDepth 10000 in
def h_R_isKept_28 (N : Nat) : Nat → Int32 → Int32 → MT → Option (Bool × MT)
  | 0, _, _, _ => none
  | n + 1, v1, v2, T =>
    if (T.1 42 0) ≤ v2 then (
      some (true, T))
    else
      obd (jrg 20 v2) fun n1 =>
      obd (h_R_fits N v1 (T.1 43 n1) T) fun x2 =>
      if x2 = true then (
        h_R_isKept_28 N n v1 (v2 + 1) T)
      else
        some (false, T)
set_option maxRecDepth 10000 in
def h_R_isKept (N : Nat) (v1 : Int32) (T : MT) : Option (Bool × MT) :=
  if (g_R_in v1 (0 : Int32) ((T.1 44 0) - (1 : Int32))) = true then (
    obd (jrg 8 v1) fun n1 =>
    obd (h_R_trees N (T.1 45 n1) T) fun (T2 : MT) =>
    h_R_isKept_28 N N v1 (0 : Int32) T2)
  else
    some (false, T)
set_option maxRecDepth 10000 in
def h_R_back_12 (N : Nat) : Nat → Int32 → Int32 → MT → Option (Bool × MT)
  | 0, _, _, _ => none
  | n + 1, v1, v2, T =>
    if (T.1 42 0) ≤ v2 then (
      some (true, T))
    else
      obd (jrg 20 v2) fun n1 =>
      obd (h_R_backs N v1 (T.1 43 n1) T) fun (T2 : MT) =>
      h_R_back_12 N n v1 (v2 + 1) T2
set_option maxRecDepth 10000 in
def h_R_back (N : Nat) (v1 : Int32) (T : MT) : Option (Bool × MT) :=
  tbd2 (h_R_isKept N v1 T) fun x1 T2 =>
  if x1 = true then (
    h_R_back_12 N N v1 (0 : Int32) T2)
  else
    some (false, T2)
set_option maxRecDepth 10000 in
def h_R_alike_37 (N : Nat) (k4 : Int32 → Int32 → Int32 → MT → Option Bool) : Nat → Int32 → Int32 → Int32 → Int32 → Int32 → Int32 → MT → Option Bool
  | 0, _, _, _, _, _, _, _ => none
  | n + 1, v1, v2, v3, v4, v5, v6, T =>
    if v5 ≤ v6 then (
      k4 v1 v2 (v3 + 1) T)
    else
      obd (jrg 60 v3) fun n1 =>
      obd (jremI ((T.1 26 n1) + v6) v5) fun x2 =>
      obd (jrg 3840 (((64 : Int32) * v3) + x2)) fun n3 =>
      obd (g_R_bitsOf (0 : Int32) (T.2.2.1 25 n3)) fun x4 =>
      obd (jrg 480 v4) fun n5 =>
      obd (jremI ((T.1 50 n5) + v6) v5) fun x6 =>
      obd (jrg 30720 (((64 : Int32) * v4) + x6)) fun n7 =>
      obd (g_R_bitsOf (0 : Int32) (T.2.2.1 49 n7)) fun x8 =>
      if x4 = x8 then (
        h_R_alike_37 N k4 n v1 v2 v3 v4 v5 (v6 + 1) T)
      else
        some false
set_option maxRecDepth 10000 in
def h_R_alike_277 (N : Nat) (k118 : Int32 → Int32 → Int32 → MT → Option Bool) (k207 : Int32 → Int32 → Int32 → Int32 → Int32 → Bool → Int32 → Int32 → MT → Option Bool) (v1 : Int32) (v2 : Int32) (v3 : Int32) (v4 : Int32) (v5 : Int32) (v6 : Bool) (v7 : Int32) (v8 : Int32) (v9 : UInt64) (s0 : Int32) (s1 : Int32) (T : MT) : Option Bool :=
  obd (jrg 30720 (s1 + s0)) fun n1 =>
  obd (g_R_bitsOf (0 : Int32) v9) fun x2 =>
  obd (g_R_bitsOf (0 : Int32) (T.2.2.1 46 n1)) fun x3 =>
  if x2 = x3 then (
    k207 v1 v2 v3 v4 v5 v6 v7 (v8 + 1) T)
  else
    some false
set_option maxRecDepth 10000 in
def h_R_alike_240 (N : Nat) (k118 : Int32 → Int32 → Int32 → MT → Option Bool) (k207 : Int32 → Int32 → Int32 → Int32 → Int32 → Bool → Int32 → Int32 → MT → Option Bool) (v1 : Int32) (v2 : Int32) (v3 : Int32) (v4 : Int32) (v5 : Int32) (v6 : Bool) (v7 : Int32) (v8 : Int32) (s0 : Int32) (s1 : Int32) (T : MT) : Option Bool :=
  obd (h_R_st s1 s0 T) fun x1 =>
  if v6 = true then (
    obd (jrg 480 v5) fun n2 =>
    obd (jremI ((T.1 47 n2) + v8) v7) fun x3 =>
    h_R_alike_277 N k118 k207 v1 v2 v3 v4 v5 v6 v7 v8 x1 x3 ((64 : Int32) * v5) T)
  else
    h_R_alike_277 N k118 k207 v1 v2 v3 v4 v5 v6 v7 v8 x1 v8 ((64 : Int32) * v5) T
set_option maxRecDepth 10000 in
def h_R_alike_207 (N : Nat) (k118 : Int32 → Int32 → Int32 → MT → Option Bool) : Nat → Int32 → Int32 → Int32 → Int32 → Int32 → Bool → Int32 → Int32 → MT → Option Bool
  | 0, _, _, _, _, _, _, _, _, _ => none
  | n + 1, v1, v2, v3, v4, v5, v6, v7, v8, T =>
    if v7 ≤ v8 then (
      k118 v1 v2 (v3 + 1) T)
    else
      if v6 = true then (
        obd (jrg 60 v4) fun n1 =>
        obd (jremI ((T.1 14 n1) + v8) v7) fun x2 =>
        h_R_alike_240 N k118 (h_R_alike_207 N k118 n) v1 v2 v3 v4 v5 v6 v7 v8 x2 v4 T)
      else
        h_R_alike_240 N k118 (h_R_alike_207 N k118 n) v1 v2 v3 v4 v5 v6 v7 v8 v8 v4 T
set_option maxRecDepth 10000 in
def h_R_alike_202 (N : Nat) (k118 : Int32 → Int32 → Int32 → MT → Option Bool) (v1 : Int32) (v2 : Int32) (v3 : Int32) (v4 : Int32) (v5 : Int32) (v6 : Bool) (s0 : Int32) (T : MT) : Option Bool :=
  h_R_alike_207 N k118 N v1 v2 v3 v4 v5 v6 s0 (0 : Int32) T
set_option maxRecDepth 10000 in
def h_R_alike_118 (N : Nat) : Nat → Int32 → Int32 → Int32 → MT → Option Bool
  | 0, _, _, _, _ => none
  | n + 1, v1, v2, v3, T =>
    obd (jrg 20 v2) fun n1 =>
    if (T.1 17 n1) ≤ v3 then (
      some true)
    else
      obd (jrg 200 (((10 : Int32) * v2) + v3)) fun n2 =>
      jlet (((60 : Int32) * v1) + (T.1 18 n2)) fun (v5_3 : Int32) =>
      obd (jrg 60 (T.1 18 n2)) fun n4 =>
      obd (jrg 480 v5_3) fun n5 =>
      if (T.2.1 15 n4) = (T.2.1 48 n5) then (
        obd (jrg 60 (T.1 18 n2)) fun n6 =>
        jlet (g_R_in (T.1 2 n6) (6 : Int32) (8 : Int32)) fun (v6_7 : Bool) =>
        if v6_7 = true then (
          obd (jrg 60 (T.1 18 n2)) fun n8 =>
          h_R_alike_202 N (h_R_alike_118 N n) v1 v2 v3 (T.1 18 n2) v5_3 v6_7 (T.1 4 n8) T)
        else
          h_R_alike_202 N (h_R_alike_118 N n) v1 v2 v3 (T.1 18 n2) v5_3 v6_7 (4 : Int32) T)
      else
        some false
set_option maxRecDepth 10000 in
def h_R_alike_4 (N : Nat) : Nat → Int32 → Int32 → Int32 → MT → Option Bool
  | 0, _, _, _, _ => none
  | n + 1, v1, v2, v3, T =>
    obd (jrg 20 v2) fun n1 =>
    if (((3 : Int32) * v2) + (T.1 20 n1)) ≤ v3 then (
      h_R_alike_118 N N v1 v2 (0 : Int32) T)
    else
      obd (jrg 60 v3) fun n2 =>
      h_R_alike_37 N (h_R_alike_4 N n) N v1 v2 v3 (((60 : Int32) * v1) + v3) (T.1 23 n2) (0 : Int32) T
set_option maxRecDepth 10000 in
def h_R_alike (N : Nat) (v1 : Int32) (v2 : Int32) (T : MT) : Option Bool :=
  h_R_alike_4 N N v1 v2 ((3 : Int32) * v2) T
set_option maxRecDepth 10000 in
def h_R_same_12 (N : Nat) : Nat → Int32 → Int32 → MT → Option (Bool × MT)
  | 0, _, _, _ => none
  | n + 1, v1, v2, T =>
    if (T.1 42 0) ≤ v2 then (
      some (true, T))
    else
      obd (jrg 20 v2) fun n1 =>
      obd (h_R_alike N v1 (T.1 43 n1) T) fun x2 =>
      if x2 = true then (
        h_R_same_12 N n v1 (v2 + 1) T)
      else
        some (false, T)
set_option maxRecDepth 10000 in
def h_R_same (N : Nat) (v1 : Int32) (T : MT) : Option (Bool × MT) :=
  tbd2 (h_R_isKept N v1 T) fun x1 T2 =>
  if x1 = true then (
    h_R_same_12 N N v1 (0 : Int32) T2)
  else
    some (false, T2)
set_option maxRecDepth 10000 in
def h_R_poles_112 (v2 : UInt64) (v4 : UInt64) (s0 : UInt64) (T : MT) : Option Int32 :=
  if (g_R_isFinite v4) = true then (
    if (g_R_isFinite s0) = true then (
      obd (g_R_sizeOf 0 (0 : Int32) v4) fun x1 =>
      obd (jnD (FP.ddiv x1 v2)) fun x2 =>
      obd (jnD (FP.ddiv s0 v2)) fun x3 =>
      if 0 < (Op.cmpValue (FP.dcmp x3 (0x3ff0000000000000 : UInt64)) .l) then (
        some (0 : Int32))
      else
        if 0 ≤ (Op.cmpValue (FP.dcmp x3 (0xbff0000000000000 : UInt64)) .g) then (
          obd (g_R_against x2 x3) fun x4 =>
          if x4 ≤ 0 then (
            if 0 ≤ x4 then (
              some (2 : Int32))
            else
              if 0 ≤ (Op.cmpValue (FP.dcmp x3 (0x3ff0000000000000 : UInt64)) .g) then (
                some (2 : Int32))
              else
                if (Op.cmpValue (FP.dcmp x3 (0xbff0000000000000 : UInt64)) .l) ≤ 0 then (
                  some (2 : Int32))
                else
                  some (1 : Int32))
          else
            some (0 : Int32))
        else
          some (0 : Int32))
    else
      some (0 : Int32))
  else
    some (0 : Int32)
set_option maxRecDepth 10000 in
def h_R_poles_86 (v1 : Int32) (v2 : UInt64) (s0 : UInt64) (T : MT) : Option Int32 :=
  obd (jrg 60 v1) fun n1 =>
  if (g_R_in (T.1 2 n1) (2 : Int32) (4 : Int32)) = true then (
    obd (h_R_c v1 (4 : Int32) T) fun x2 =>
    h_R_poles_112 v2 s0 x2 T)
  else
    h_R_poles_112 v2 s0 (0 : UInt64) T
set_option maxRecDepth 10000 in
def h_R_poles_41 (v1 : Int32) (s0 : UInt64) (T : MT) : Option Int32 :=
  obd (jrg 60 v1) fun n1 =>
  if (T.1 2 n1) = (1 : Int32) then (
    obd (h_R_c v1 (1 : Int32) T) fun x2 =>
    h_R_poles_86 v1 s0 x2 T)
  else
    obd (jrg 60 v1) fun n3 =>
    if (T.1 2 n3) = (5 : Int32) then (
      obd (h_R_c v1 (0 : Int32) T) fun x4 =>
      h_R_poles_86 v1 s0 x4 T)
    else
      obd (h_R_c v1 (3 : Int32) T) fun x5 =>
      h_R_poles_86 v1 s0 x5 T
set_option maxRecDepth 10000 in
def h_R_poles (v1 : Int32) (T : MT) : Option Int32 :=
  obd (h_R_isSection v1 T) fun x1 =>
  if x1 = true then (
    obd (jrg 60 v1) fun n2 =>
    if (g_R_in (T.1 2 n2) (1 : Int32) (5 : Int32)) = true then (
      obd (jrg 60 v1) fun n3 =>
      if (T.1 3 n3) = (2 : Int32) then (
        h_R_poles_41 v1 (0x40d0000000000000 : UInt64) T)
      else
        h_R_poles_41 v1 (0x3ff0000000000000 : UInt64) T)
    else
      some (-1 : Int32))
  else
    some (-1 : Int32)
set_option maxRecDepth 10000 in
def h_R_finds_98 (N : Nat) (k7 : Int32 → Int32 → MT → Option MT) (v1 : Int32) (v2 : Int32) (s0 : Int32) (s1 : Int32) (T : MT) : Option MT :=
  obd (jrg 65536 s1) fun n1 =>
  jlet (tsI T 56 n1 s0) fun (T2 : MT) =>
  obd (jrg 65536 v2) fun n3 =>
  jlet (tsI T2 57 n3 (0 : Int32)) fun (T4 : MT) =>
  k7 v1 (v2 + 1) T4
set_option maxRecDepth 10000 in
def h_R_finds_56 (N : Nat) (k7 : Int32 → Int32 → MT → Option MT) (v1 : Int32) (v2 : Int32) (s0 : Int64) (T : MT) : Option MT :=
  if (g_R_isValue (2 : Int32) s0) = true then (
    h_R_finds_98 N k7 v1 v2 ((Int64.toInt32 s0) + (32768 : Int32)) v2 T)
  else
    obd (jrg 60 v1) fun n1 =>
    h_R_finds_98 N k7 v1 v2 ((FP.d2i (g_R_cut s0 (T.1 6 n1))) + (32768 : Int32)) v2 T
set_option maxRecDepth 10000 in
def h_R_finds_238 (N : Nat) (k114 : Int32 → MT → Option MT) (k194 : Int32 → Int32 → Int32 → Int32 → Int32 → Int32 → Bool → MT → Option MT) (v2 : Int32) (v3 : Int32) (v4 : Int32) (v5 : Int32) (v6 : Int32) (v7 : Int32) (s0 : Bool) (T : MT) : Option MT :=
  k194 v2 v3 v4 v5 v6 v7 s0 T
set_option maxRecDepth 10000 in
def h_R_finds_213 (N : Nat) (k114 : Int32 → MT → Option MT) (k194 : Int32 → Int32 → Int32 → Int32 → Int32 → Int32 → Bool → MT → Option MT) (v2 : Int32) (v3 : Int32) (v4 : Int32) (v5 : Int32) (v7 : Int32) (s0 : Int32) (T : MT) : Option MT :=
  obd (jrg 65536 v7) fun n1 =>
  if (T.1 56 n1) = v3 then (
    h_R_finds_238 N k114 k194 v2 v3 v4 (v5 + 1) s0 (T.1 56 n1) false T)
  else
    h_R_finds_238 N k114 k194 v2 v3 v4 (v5 + 1) s0 (T.1 56 n1) true T
set_option maxRecDepth 10000 in
def h_R_finds_277 (N : Nat) (k114 : Int32 → MT → Option MT) : Nat → Int32 → Int32 → Int32 → MT → Option MT
  | 0, _, _, _, _ => none
  | n + 1, v2, v3, v4, T =>
    obd (jrg 65536 v3) fun n1 =>
    if (T.1 57 n1) = ((-1 : Int32) - v2) then (
      obd (jrg 65536 v3) fun n2 =>
      jlet (tsI T 57 n2 v4) fun (T3 : MT) =>
      obd (jrg 65536 (v4 - (1 : Int32))) fun n4 =>
      obd (jrg 65536 (v4 - (1 : Int32))) fun n5 =>
      jlet (tsI T3 60 n5 ((T3.1 60 n4) + (1 : Int32))) fun (T6 : MT) =>
      obd (jrg 65536 v3) fun n7 =>
      h_R_finds_277 N k114 n v2 (T6.1 56 n7) v4 T6)
    else
      k114 (v2 + 1) T
set_option maxRecDepth 10000 in
def h_R_finds_275 (N : Nat) (k114 : Int32 → MT → Option MT) (v2 : Int32) (v4 : Int32) (T : MT) : Option MT :=
  h_R_finds_277 N k114 N v2 v2 v4 T
set_option maxRecDepth 10000 in
def h_R_finds_194 (N : Nat) (k114 : Int32 → MT → Option MT) : Nat → Int32 → Int32 → Int32 → Int32 → Int32 → Int32 → Bool → MT → Option MT
  | 0, _, _, _, _, _, _, _, _ => none
  | n + 1, v2, v3, v4, v5, v6, v7, v8, T =>
    if v8 = true then (
      if v6 ≤ v7 then (
        h_R_finds_213 N k114 (h_R_finds_194 N k114 n) v2 v3 v4 v5 v7 v6 T)
      else
        h_R_finds_213 N k114 (h_R_finds_194 N k114 n) v2 v3 v4 v5 v7 v7 T)
    else
      obd (jrg 65536 (v4 - (1 : Int32))) fun n1 =>
      jlet (tsI T 58 n1 v6) fun (T2 : MT) =>
      obd (jrg 65536 (v4 - (1 : Int32))) fun n3 =>
      jlet (tsI T2 59 n3 v5) fun (T4 : MT) =>
      obd (jrg 65536 (v4 - (1 : Int32))) fun n5 =>
      jlet (tsI T4 60 n5 (0 : Int32)) fun (T6 : MT) =>
      h_R_finds_275 N k114 v2 v4 T6
set_option maxRecDepth 10000 in
def h_R_finds_122 (N : Nat) (k114 : Int32 → MT → Option MT) : Nat → Int32 → Int32 → MT → Option MT
  | 0, _, _, _ => none
  | n + 1, v2, v3, T =>
    obd (jrg 65536 v3) fun n1 =>
    if (T.1 57 n1) = 0 then (
      obd (jrg 65536 v3) fun n2 =>
      jlet (tsI T 57 n2 ((-1 : Int32) - v2)) fun (T3 : MT) =>
      obd (jrg 65536 v3) fun n4 =>
      h_R_finds_122 N k114 n v2 (T3.1 56 n4) T3)
    else
      obd (jrg 65536 v3) fun n5 =>
      if (T.1 57 n5) = ((-1 : Int32) - v2) then (
        jlet (tsI T 55 0 ((T.1 55 0) + (1 : Int32))) fun (T6 : MT) =>
        h_R_finds_194 N k114 N v2 v3 (T6.1 55 0) (0 : Int32) v3 v3 true T6)
      else
        h_R_finds_275 N k114 v2 (T.1 57 n5) T
set_option maxRecDepth 10000 in
def h_R_finds_114 (N : Nat) : Nat → Int32 → MT → Option MT
  | 0, _, _ => none
  | n + 1, v2, T =>
    if (65536 : Int32) ≤ v2 then (
      some T)
    else
      h_R_finds_122 N (h_R_finds_114 N n) N v2 v2 T
set_option maxRecDepth 10000 in
def h_R_finds_7 (N : Nat) : Nat → Int32 → Int32 → MT → Option MT
  | 0, _, _, _ => none
  | n + 1, v1, v2, T =>
    if (65536 : Int32) ≤ v2 then (
      h_R_finds_114 N N (0 : Int32) T)
    else
      obd (h_R_c v1 (1 : Int32) T) fun x1 =>
      jlet ((FP.d2l x1) * (Int32.toInt64 (v2 - (32768 : Int32)))) fun (v3_2 : Int64) =>
      obd (jrg 60 v1) fun n3 =>
      if (T.1 5 n3) = 0 then (
        obd (g_R_floor (v3_2 + (8192 : Int64)) (16384 : Int64)) fun x4 =>
        h_R_finds_56 N (h_R_finds_7 N n) v1 v2 x4 T)
      else
        h_R_finds_56 N (h_R_finds_7 N n) v1 v2 (v3_2 / (16384 : Int64)) T
set_option maxRecDepth 10000 in
def h_R_finds (N : Nat) (v1 : Int32) (T : MT) : Option MT :=
  jlet (tsI T 55 0 (0 : Int32)) fun (T1 : MT) =>
  h_R_finds_7 N N v1 (0 : Int32) T1
set_option maxRecDepth 10000 in
def h_R_isDead (v1 : Int32) (T : MT) : Option Bool :=
  obd (h_R_isSection v1 T) fun x1 =>
  if x1 = true then (
    obd (jrg 60 v1) fun n2 =>
    if (T.1 2 n2) = (1 : Int32) then (
      obd (jrg 60 v1) fun n3 =>
      if (T.1 3 n3) = (2 : Int32) then (
        obd (jrg 60 v1) fun n4 =>
        if (2 : Int32) ≤ (T.1 5 n4) then (
          some false)
        else
          some true)
      else
        some false)
    else
      some false)
  else
    some false
set_option maxRecDepth 10000 in
def h_R_cycles (N : Nat) (v1 : Int32) (T : MT) : Option (Int32 × MT) :=
  obd (h_R_isDead v1 T) fun x1 =>
  if x1 = true then (
    obd (h_R_finds N v1 T) fun (T2 : MT) =>
    some ((T2.1 55 0), T2))
  else
    some ((-1 : Int32), T)
set_option maxRecDepth 10000 in
def h_R_cycle_94 (N : Nat) (k40 : Int32 → Int32 → Int32 → Int32 → MT → Option (Int32 × MT)) (v3 : Int32) (v4 : Int32) (v5 : Int32) (v6 : Int32) (T : MT) : Option (Int32 × MT) :=
  k40 v3 v4 v5 (v6 + 1) T
set_option maxRecDepth 10000 in
def h_R_cycle_91 (N : Nat) (k40 : Int32 → Int32 → Int32 → Int32 → MT → Option (Int32 × MT)) (v3 : Int32) (v4 : Int32) (v5 : Int32) (v6 : Int32) (T : MT) : Option (Int32 × MT) :=
  h_R_cycle_94 N k40 v3 v4 (v5 + (-1)) v6 T
set_option maxRecDepth 10000 in
def h_R_cycle_100 (N : Nat) (v3 : Int32) (v4 : Int32) (T : MT) : Option (Int32 × MT) :=
  if v3 = 0 then (
    obd (jrg 65536 v4) fun n1 =>
    some (((T.1 58 n1) - (32768 : Int32)), T))
  else
    if v3 = (1 : Int32) then (
      obd (jrg 65536 v4) fun n2 =>
      some ((T.1 59 n2), T))
    else
      if v3 = (2 : Int32) then (
        obd (jrg 65536 v4) fun n3 =>
        some ((T.1 60 n3), T))
      else
        some ((0 : Int32), T)
set_option maxRecDepth 10000 in
def h_R_cycle_40 (N : Nat) : Nat → Int32 → Int32 → Int32 → Int32 → MT → Option (Int32 × MT)
  | 0, _, _, _, _, _ => none
  | n + 1, v3, v4, v5, v6, T =>
    if (65536 : Int32) ≤ v6 then (
      h_R_cycle_100 N v3 v4 T)
    else
      if v4 = (-1 : Int32) then (
        obd (jrg 65536 v6) fun n1 =>
        obd (jrg 65536 ((T.1 57 n1) - (1 : Int32))) fun n2 =>
        if (T.1 58 n2) = v6 then (
          if v5 = 0 then (
            obd (jrg 65536 v6) fun n3 =>
            h_R_cycle_91 N (h_R_cycle_40 N n) v3 ((T.1 57 n3) - (1 : Int32)) v5 v6 T)
          else
            h_R_cycle_91 N (h_R_cycle_40 N n) v3 v4 v5 v6 T)
        else
          h_R_cycle_94 N (h_R_cycle_40 N n) v3 v4 v5 v6 T)
      else
        h_R_cycle_100 N v3 v4 T
set_option maxRecDepth 10000 in
def h_R_cycle (N : Nat) (v1 : Int32) (v2 : Int32) (v3 : Int32) (T : MT) : Option (Int32 × MT) :=
  obd (h_R_isDead v1 T) fun x1 =>
  if x1 = true then (
    obd (h_R_finds N v1 T) fun (T2 : MT) =>
    if (g_R_in v2 (0 : Int32) ((T2.1 55 0) - (1 : Int32))) = true then (
      h_R_cycle_40 N N v3 (-1 : Int32) v2 (0 : Int32) T2)
    else
      some ((0 : Int32), T2))
  else
    some ((0 : Int32), T)
set_option maxRecDepth 10000 in
def h_R_gathers_55 (N : Nat) : Nat → Int32 → Int32 → Int32 → Int32 → Int32 → MT → Option (Int32 × MT)
  | 0, _, _, _, _, _, _ => none
  | n + 1, v1, v2, v3, v4, v5, T =>
    obd (jrg 20 v1) fun n1 =>
    if (((3 : Int32) * v1) + (T.1 20 n1)) ≤ v5 then (
      some (v4, T))
    else
      obd (jrg 60 v5) fun n2 =>
      obd (jrg 60 v5) fun n3 =>
      obd (jrg 60 v5) fun n4 =>
      obd (jrg 60 v5) fun n5 =>
      obd (g_R_turned (T.2.2.1 24 n5) v2 v3 false) fun x6 =>
      tbd2 (h_R_newLoop N v4 (T.1 22 n2) (T.1 21 n3) (T.1 23 n4) x6 T) fun x7 T8 =>
      h_R_gathers_55 N n v1 v2 v3 v4 (v5 + 1) T8
set_option maxRecDepth 10000 in
def h_R_gathers_9 (N : Nat) : Nat → Int32 → Int32 → Int32 → Int32 → Int32 → MT → Option (Int32 × MT)
  | 0, _, _, _, _, _, _ => none
  | n + 1, v1, v2, v3, v4, v5, T =>
    obd (jrg 20 v1) fun n1 =>
    if (T.1 17 n1) ≤ v5 then (
      h_R_gathers_55 N N v1 v2 v3 v4 ((3 : Int32) * v1) T)
    else
      obd (jrg 200 (((10 : Int32) * v1) + v5)) fun n2 =>
      obd (jrg 60 (T.1 18 n2)) fun n3 =>
      tbd2 (h_R_join v4 (T.1 64 n3) T) fun x4 T5 =>
      h_R_gathers_9 N n v1 v2 v3 v4 (v5 + 1) T5
set_option maxRecDepth 10000 in
def h_R_gathers (N : Nat) (v1 : Int32) (v2 : Int32) (v3 : Int32) (T : MT) : Option (Int32 × MT) :=
  tbd2 (h_R_newChain T) fun x1 T2 =>
  h_R_gathers_9 N N v1 v2 v3 x1 (0 : Int32) T2
set_option maxRecDepth 10000 in
def h_R_anew_295 (N : Nat) (k47 : Int32 → Int32 → Int32 → Int32 → MT → Option (Int32 × MT)) (v1 : Int32) (v2 : Int32) (v3 : Int32) (v4 : Int32) (v7 : Int32) (v8 : Int32) (T : MT) : Option (Int32 × MT) :=
  obd (jrg 60 v7) fun n1 =>
  jlet (tsI T 64 n1 v8) fun (T2 : MT) =>
  obd (jrg 20 (v4 - (1 : Int32))) fun n3 =>
  obd (jrg 20 (v4 - (1 : Int32))) fun n4 =>
  jlet (tsI T2 67 n4 ((T2.1 67 n3) + (1 : Int32))) fun (T5 : MT) =>
  obd (jrg 60 v7) fun n6 =>
  if (T5.1 10 n6) = (-1 : Int32) then (
    k47 v1 v2 v3 v4 T5)
  else
    obd (jrg 60 v7) fun n7 =>
    obd (jrg 20 (T5.1 10 n7)) fun n8 =>
    obd (jrg 60 v8) fun n9 =>
    jlet (tsI T5 10 n9 (T5.1 65 n8)) fun (T10 : MT) =>
    obd (jrg 60 v8) fun n11 =>
    obd (jrg 20 (T10.1 10 n11)) fun n12 =>
    jlet (tsI T10 19 n12 v8) fun (T13 : MT) =>
    k47 v1 v2 v3 v4 T13
set_option maxRecDepth 10000 in
def h_R_anew_201 (N : Nat) (k47 : Int32 → Int32 → Int32 → Int32 → MT → Option (Int32 × MT)) : Nat → Int32 → Int32 → Int32 → Int32 → Int32 → Int32 → Int32 → MT → Option (Int32 × MT)
  | 0, _, _, _, _, _, _, _, _ => none
  | n + 1, v1, v2, v3, v4, v7, v8, v9, T =>
    obd (jrg 60 v7) fun n1 =>
    if (g_R_coefficientsOf (T.1 2 n1)) ≤ v9 then (
      if v3 = (2 : Int32) then (
        if v2 = (2 : Int32) then (
          obd (jrg 60 v7) fun n2 =>
          obd (jrg 60 v8) fun n3 =>
          jlet (tsI T 5 n3 (T.1 5 n2)) fun (T4 : MT) =>
          obd (jrg 60 v7) fun n5 =>
          obd (jrg 60 v8) fun n6 =>
          jlet (tsI T4 6 n6 (T4.1 6 n5)) fun (T7 : MT) =>
          h_R_anew_295 N k47 v1 v2 v3 v4 v7 v8 T7)
        else
          h_R_anew_295 N k47 v1 v2 v3 v4 v7 v8 T)
      else
        h_R_anew_295 N k47 v1 v2 v3 v4 v7 v8 T)
    else
      obd (h_R_c v7 v9 T) fun x8 =>
      obd (jrg 60 v7) fun n9 =>
      obd (g_R_turned x8 v3 v2 (g_R_isPlain (T.1 2 n9))) fun x10 =>
      obd (jrg 300 (((5 : Int32) * v8) + v9)) fun n11 =>
      jlet (tsD T 7 n11 x10) fun (T12 : MT) =>
      h_R_anew_201 N k47 n v1 v2 v3 v4 v7 v8 (v9 + 1) T12
set_option maxRecDepth 10000 in
def h_R_anew_177 (N : Nat) (k47 : Int32 → Int32 → Int32 → Int32 → MT → Option (Int32 × MT)) (v1 : Int32) (v2 : Int32) (v3 : Int32) (v4 : Int32) (v7 : Int32) (T : MT) : Option (Int32 × MT) :=
  obd (jrg 60 v7) fun n1 =>
  obd (jrg 60 v7) fun n2 =>
  tbd2 (h_R_newSection N (T.1 2 n1) v2 (T.1 4 n2) T) fun x3 T4 =>
  h_R_anew_201 N k47 N v1 v2 v3 v4 v7 x3 (0 : Int32) T4
set_option maxRecDepth 10000 in
def h_R_anew_47 (N : Nat) : Nat → Int32 → Int32 → Int32 → Int32 → MT → Option (Int32 × MT)
  | 0, _, _, _, _, _ => none
  | n + 1, v1, v2, v3, v4, T =>
    if v4 ≤ 0 then (
      obd (jrg 20 v1) fun n1 =>
      some ((T.1 65 n1), T))
    else
      obd (jrg 20 (v4 - (1 : Int32))) fun n2 =>
      obd (jrg 20 (v4 - (1 : Int32))) fun n3 =>
      obd (jrg 20 (T.1 66 n2)) fun n4 =>
      if (T.1 67 n3) = (T.1 17 n4) then (
        tbd2 (h_R_gathers N (T.1 66 n2) v3 v2 T) fun x5 T6 =>
        obd (jrg 20 (T.1 66 n2)) fun n7 =>
        jlet (tsI T6 65 n7 x5) fun (T8 : MT) =>
        h_R_anew_47 N n v1 v2 v3 (v4 + (-1)) T8)
      else
        obd (jrg 200 (((10 : Int32) * (T.1 66 n2)) + (T.1 67 n3))) fun n9 =>
        obd (jrg 60 (T.1 18 n9)) fun n10 =>
        if (T.1 10 n10) = (-1 : Int32) then (
          h_R_anew_177 N (h_R_anew_47 N n) v1 v2 v3 v4 (T.1 18 n9) T)
        else
          obd (jrg 60 (T.1 18 n9)) fun n11 =>
          obd (jrg 20 (T.1 10 n11)) fun n12 =>
          if (T.1 65 n12) = (-1 : Int32) then (
            obd (jrg 60 (T.1 18 n9)) fun n13 =>
            obd (jrg 20 v4) fun n14 =>
            jlet (tsI T 66 n14 (T.1 10 n13)) fun (T15 : MT) =>
            obd (jrg 20 v4) fun n16 =>
            jlet (tsI T15 67 n16 (0 : Int32)) fun (T17 : MT) =>
            h_R_anew_47 N n v1 v2 v3 (v4 + 1) T17)
          else
            h_R_anew_177 N (h_R_anew_47 N n) v1 v2 v3 v4 (T.1 18 n9) T
set_option maxRecDepth 10000 in
def h_R_anew_9 (N : Nat) : Nat → Int32 → Int32 → Int32 → Int32 → MT → Option (Int32 × MT)
  | 0, _, _, _, _, _ => none
  | n + 1, v1, v2, v3, v4, T =>
    if (20 : Int32) ≤ v4 then (
      obd (jrg 20 (0 : Int32)) fun n1 =>
      jlet (tsI T 66 n1 v1) fun (T2 : MT) =>
      obd (jrg 20 (0 : Int32)) fun n3 =>
      jlet (tsI T2 67 n3 (0 : Int32)) fun (T4 : MT) =>
      h_R_anew_47 N N v1 v2 v3 (1 : Int32) T4)
    else
      obd (jrg 20 v4) fun n5 =>
      jlet (tsI T 65 n5 (-1 : Int32)) fun (T6 : MT) =>
      h_R_anew_9 N n v1 v2 v3 (v4 + 1) T6
set_option maxRecDepth 10000 in
def h_R_anew (N : Nat) (v1 : Int32) (v2 : Int32) (T : MT) : Option (Int32 × MT) :=
  obd (h_R_sortOf v1 T) fun x1 =>
  h_R_anew_9 N N v1 v2 x1 (0 : Int32) T
set_option maxRecDepth 10000 in
def h_R_asks_74 (N : Nat) (k21 : Int32 → Int32 → Int32 → Int32 → MT → Option MT) (v1 : Int32) (v2 : Int32) (v3 : Int32) (v4 : Int32) (s0 : Bool) (T : MT) : Option MT :=
  jlet (tsZ T 63 s0) fun (T1 : MT) =>
  k21 v1 v2 v3 (v4 + 1) T1
set_option maxRecDepth 10000 in
def h_R_asks_69 (N : Nat) (k21 : Int32 → Int32 → Int32 → Int32 → MT → Option MT) (v1 : Int32) (v2 : Int32) (v3 : Int32) (v4 : Int32) (T : MT) : Option MT :=
  h_R_asks_74 N k21 v1 v2 v3 v4 true T
set_option maxRecDepth 10000 in
def h_R_asks_73 (N : Nat) (k21 : Int32 → Int32 → Int32 → Int32 → MT → Option MT) (v1 : Int32) (v2 : Int32) (v3 : Int32) (v4 : Int32) (T : MT) : Option MT :=
  h_R_asks_74 N k21 v1 v2 v3 v4 false T
set_option maxRecDepth 10000 in
def h_R_asks_187 (N : Nat) (k86 : Int32 → Int32 → Int32 → Int32 → MT → Option MT) (k124 : Int32 → Int32 → Int32 → Int32 → Int32 → Int32 → MT → Option MT) (v1 : Int32) (v2 : Int32) (v3 : Int32) (v4 : Int32) (v5 : Int32) (v6 : Int32) (s0 : Bool) (T : MT) : Option MT :=
  jlet (tsZ T 63 s0) fun (T1 : MT) =>
  k124 v1 v2 v3 v4 v5 (v6 + 1) T1
set_option maxRecDepth 10000 in
def h_R_asks_182 (N : Nat) (k86 : Int32 → Int32 → Int32 → Int32 → MT → Option MT) (k124 : Int32 → Int32 → Int32 → Int32 → Int32 → Int32 → MT → Option MT) (v1 : Int32) (v2 : Int32) (v3 : Int32) (v4 : Int32) (v5 : Int32) (v6 : Int32) (T : MT) : Option MT :=
  h_R_asks_187 N k86 k124 v1 v2 v3 v4 v5 v6 true T
set_option maxRecDepth 10000 in
def h_R_asks_186 (N : Nat) (k86 : Int32 → Int32 → Int32 → Int32 → MT → Option MT) (k124 : Int32 → Int32 → Int32 → Int32 → Int32 → Int32 → MT → Option MT) (v1 : Int32) (v2 : Int32) (v3 : Int32) (v4 : Int32) (v5 : Int32) (v6 : Int32) (T : MT) : Option MT :=
  h_R_asks_187 N k86 k124 v1 v2 v3 v4 v5 v6 false T
set_option maxRecDepth 10000 in
def h_R_asks_124 (N : Nat) (k86 : Int32 → Int32 → Int32 → Int32 → MT → Option MT) : Nat → Int32 → Int32 → Int32 → Int32 → Int32 → Int32 → MT → Option MT
  | 0, _, _, _, _, _, _, _ => none
  | n + 1, v1, v2, v3, v4, v5, v6, T =>
    obd (jrg 60 v5) fun n1 =>
    if (g_R_coefficientsOf (T.1 2 n1)) ≤ v6 then (
      k86 v1 v2 v3 (v4 + 1) T)
    else
      if (T.2.2.2 63) = true then (
        if v2 = (2 : Int32) then (
          obd (h_R_c v5 v6 T) fun x2 =>
          obd (jrg 60 v5) fun n3 =>
          obd (g_R_turned x2 v3 v2 (g_R_isPlain (T.1 2 n3))) fun x4 =>
          if (Op.cmpValue (FP.dcmp x4 (0x40e3880000000000 : UInt64)) .l) = 0 then (
            h_R_asks_186 N k86 (h_R_asks_124 N k86 n) v1 v2 v3 v4 v5 v6 T)
          else
            h_R_asks_182 N k86 (h_R_asks_124 N k86 n) v1 v2 v3 v4 v5 v6 T)
        else
          h_R_asks_182 N k86 (h_R_asks_124 N k86 n) v1 v2 v3 v4 v5 v6 T)
      else
        h_R_asks_186 N k86 (h_R_asks_124 N k86 n) v1 v2 v3 v4 v5 v6 T
set_option maxRecDepth 10000 in
def h_R_asks_86 (N : Nat) : Nat → Int32 → Int32 → Int32 → Int32 → MT → Option MT
  | 0, _, _, _, _, _ => none
  | n + 1, v1, v2, v3, v4, T =>
    obd (jrg 20 v1) fun n1 =>
    if (T.1 17 n1) ≤ v4 then (
      some T)
    else
      obd (jrg 200 (((10 : Int32) * v1) + v4)) fun n2 =>
      jlet (tsI T 61 0 ((T.1 61 0) + (1 : Int32))) fun (T3 : MT) =>
      h_R_asks_124 N (h_R_asks_86 N n) N v1 v2 v3 v4 (T.1 18 n2) (0 : Int32) T3
set_option maxRecDepth 10000 in
def h_R_asks_21 (N : Nat) : Nat → Int32 → Int32 → Int32 → Int32 → MT → Option MT
  | 0, _, _, _, _, _ => none
  | n + 1, v1, v2, v3, v4, T =>
    obd (jrg 20 v1) fun n1 =>
    if (((3 : Int32) * v1) + (T.1 20 n1)) ≤ v4 then (
      h_R_asks_86 N N v1 v2 v3 (0 : Int32) T)
    else
      if (T.2.2.2 63) = true then (
        if v2 = (2 : Int32) then (
          obd (jrg 60 v4) fun n2 =>
          obd (g_R_turned (T.2.2.1 24 n2) v3 v2 false) fun x3 =>
          if (Op.cmpValue (FP.dcmp x3 (0x40e3880000000000 : UInt64)) .l) = 0 then (
            h_R_asks_73 N (h_R_asks_21 N n) v1 v2 v3 v4 T)
          else
            h_R_asks_69 N (h_R_asks_21 N n) v1 v2 v3 v4 T)
        else
          h_R_asks_69 N (h_R_asks_21 N n) v1 v2 v3 v4 T)
      else
        h_R_asks_73 N (h_R_asks_21 N n) v1 v2 v3 v4 T
set_option maxRecDepth 10000 in
def h_R_asks (N : Nat) (v1 : Int32) (v2 : Int32) (T : MT) : Option MT :=
  jlet (tsI T 62 0 ((T.1 62 0) + (1 : Int32))) fun (T1 : MT) =>
  obd (h_R_sortOf v1 T1) fun x2 =>
  h_R_asks_21 N N v1 v2 x2 ((3 : Int32) * v1) T1
set_option maxRecDepth 10000 in
def h_R_convert_41 (N : Nat) : Nat → Int32 → Int32 → Int32 → MT → Option (Int32 × MT)
  | 0, _, _, _, _ => none
  | n + 1, v1, v2, v3, T =>
    if (T.1 42 0) ≤ v3 then (
      if (T.2.2.2 63) = true then (
        if (60 : Int32) < ((T.1 1 0) + (T.1 61 0)) then (
          some ((-1 : Int32), T))
        else
          if ((T.1 16 0) + (T.1 62 0)) ≤ (20 : Int32) then (
            tbd2 (h_R_anew N v1 v2 T) fun x1 T2 =>
            some (x1, T2))
          else
            some ((-1 : Int32), T))
      else
        some ((-1 : Int32), T))
    else
      obd (jrg 20 v3) fun n3 =>
      obd (h_R_asks N (T.1 43 n3) v2 T) fun (T4 : MT) =>
      h_R_convert_41 N n v1 v2 (v3 + 1) T4
set_option maxRecDepth 10000 in
def h_R_convert (N : Nat) (v1 : Int32) (v2 : Int32) (T : MT) : Option (Int32 × MT) :=
  obd (h_R_isFed v1 T) fun x1 =>
  if x1 = true then (
    if (g_R_in v2 (0 : Int32) (2 : Int32)) = true then (
      jlet (tsI T 61 0 (0 : Int32)) fun (T2 : MT) =>
      jlet (tsI T2 62 0 (0 : Int32)) fun (T3 : MT) =>
      jlet (tsZ T3 63 true) fun (T4 : MT) =>
      obd (h_R_trees N v1 T4) fun (T5 : MT) =>
      h_R_convert_41 N N v1 v2 (0 : Int32) T5)
    else
      some ((-1 : Int32), T))
  else
    some ((-1 : Int32), T)
set_option maxRecDepth 10000 in
def h_R_measure_204 (N : Nat) (k64 : Int32 → Int32 → UInt64 → Int64 → Int32 → Int64 → Int64 → Int32 → MT → Option Int64) (v1 : Int32) (v2 : Int32) (v4 : UInt64) (v6 : Int64) (v8 : Int32) (v9 : Int64) (v11 : Int64) (v13 : Int32) (T : MT) : Option Int64 :=
  k64 v1 v2 v4 v6 v8 v9 v11 (v13 + 1) T
set_option maxRecDepth 10000 in
def h_R_measure_200 (N : Nat) (k64 : Int32 → Int32 → UInt64 → Int64 → Int32 → Int64 → Int64 → Int32 → MT → Option Int64) (v1 : Int32) (v2 : Int32) (v4 : UInt64) (v6 : Int64) (v9 : Int64) (v11 : Int64) (v13 : Int32) (v18 : Int32) (T : MT) : Option Int64 :=
  h_R_measure_204 N k64 v1 v2 v4 v6 v18 v9 v11 v13 T
set_option maxRecDepth 10000 in
def h_R_measure_176 (N : Nat) (k64 : Int32 → Int32 → UInt64 → Int64 → Int32 → Int64 → Int64 → Int32 → MT → Option Int64) (v1 : Int32) (v2 : Int32) (v4 : UInt64) (v6 : Int64) (v8 : Int32) (v9 : Int64) (v11 : Int64) (v13 : Int32) (s0 : Int32) (T : MT) : Option Int64 :=
  if s0 = 0 then (
    h_R_measure_204 N k64 v1 v2 v4 v6 v8 v9 v11 v13 T)
  else
    if v8 = (-s0) then (
      h_R_measure_200 N k64 v1 v2 v4 (v6 + (1 : Int64)) v9 v11 v13 s0 T)
    else
      h_R_measure_200 N k64 v1 v2 v4 v6 v9 v11 v13 s0 T
set_option maxRecDepth 10000 in
def h_R_measure_151 (N : Nat) (k64 : Int32 → Int32 → UInt64 → Int64 → Int32 → Int64 → Int64 → Int32 → MT → Option Int64) (v1 : Int32) (v2 : Int32) (v4 : UInt64) (v6 : Int64) (v8 : Int32) (v9 : Int64) (v13 : Int32) (v14 : UInt64) (s0 : Int64) (T : MT) : Option Int64 :=
  if (Op.cmpValue (FP.dcmp v14 (0 : UInt64)) .l) ≤ 0 then (
    if 0 ≤ (Op.cmpValue (FP.dcmp v14 (0 : UInt64)) .g) then (
      h_R_measure_176 N k64 v1 v2 v4 v6 v8 v9 s0 v13 (0 : Int32) T)
    else
      h_R_measure_176 N k64 v1 v2 v4 v6 v8 v9 s0 v13 (-1 : Int32) T)
  else
    h_R_measure_176 N k64 v1 v2 v4 v6 v8 v9 s0 v13 (1 : Int32) T
set_option maxRecDepth 10000 in
def h_R_measure_134 (N : Nat) (k64 : Int32 → Int32 → UInt64 → Int64 → Int32 → Int64 → Int64 → Int32 → MT → Option Int64) (v1 : Int32) (v2 : Int32) (v4 : UInt64) (v6 : Int64) (v8 : Int32) (v11 : Int64) (v13 : Int32) (v14 : UInt64) (s0 : Int64) (T : MT) : Option Int64 :=
  if s0 ≤ v11 then (
    h_R_measure_151 N k64 v1 v2 v4 v6 v8 s0 v13 v14 v11 T)
  else
    h_R_measure_151 N k64 v1 v2 v4 v6 v8 s0 v13 v14 s0 T
set_option maxRecDepth 10000 in
def h_R_measure_119 (N : Nat) (k64 : Int32 → Int32 → UInt64 → Int64 → Int32 → Int64 → Int64 → Int32 → MT → Option Int64) (v1 : Int32) (v2 : Int32) (v4 : UInt64) (v6 : Int64) (v8 : Int32) (v9 : Int64) (v11 : Int64) (v13 : Int32) (v14 : UInt64) (T : MT) : Option Int64 :=
  if (Op.cmpValue (FP.dcmp v14 (0 : UInt64)) .l) = 0 then (
    h_R_measure_134 N k64 v1 v2 v4 v6 v8 v11 v13 v14 (v9 + (1 : Int64)) T)
  else
    h_R_measure_134 N k64 v1 v2 v4 v6 v8 v11 v13 v14 (0 : Int64) T
set_option maxRecDepth 10000 in
def h_R_measure_64 (N : Nat) : Nat → Int32 → Int32 → UInt64 → Int64 → Int32 → Int64 → Int64 → Int32 → MT → Option Int64
  | 0, _, _, _, _, _, _, _, _, _ => none
  | n + 1, v1, v2, v4, v6, v8, v9, v11, v13, T =>
    obd (jrg 20 v1) fun n1 =>
    if (T.1 28 n1) ≤ v13 then (
      if v2 = 0 then (
        obd (jrg 20 v1) fun n2 =>
        if (T.1 17 n2) = 0 then (
          some (0 : Int64))
        else
          obd (h_R_sortOf v1 T) fun x3 =>
          obd (g_R_bitsOf x3 v4) fun x4 =>
          some x4)
      else
        if v2 = (1 : Int32) then (
          some v6)
        else
          some v11)
    else
      obd (jrg 8000 (((400 : Int32) * v1) + (v13 - v13 / (400 : Int32) * (400 : Int32)))) fun n5 =>
      obd (h_R_sortOf v1 T) fun x6 =>
      obd (g_R_sizeOf 0 x6 (T.2.2.1 27 n5)) fun x7 =>
      if (Op.cmpValue (FP.dcmp x7 v4) .l) ≤ 0 then (
        h_R_measure_119 N (h_R_measure_64 N n) v1 v2 v4 v6 v8 v9 v11 v13 (T.2.2.1 27 n5) T)
      else
        h_R_measure_119 N (h_R_measure_64 N n) v1 v2 x7 v6 v8 v9 v11 v13 (T.2.2.1 27 n5) T
set_option maxRecDepth 10000 in
def h_R_measure_45 (N : Nat) (v1 : Int32) (v2 : Int32) (s0 : Int32) (T : MT) : Option Int64 :=
  h_R_measure_64 N N v1 v2 (0 : UInt64) (0 : Int64) (0 : Int32) (0 : Int64) (0 : Int64) s0 T
set_option maxRecDepth 10000 in
def h_R_measure (N : Nat) (v1 : Int32) (v2 : Int32) (T : MT) : Option Int64 :=
  obd (h_R_isChain v1 T) fun x1 =>
  if x1 = true then (
    if (g_R_in v2 (0 : Int32) (2 : Int32)) = true then (
      obd (jrg 20 v1) fun n2 =>
      if (T.1 28 n2) ≤ (400 : Int32) then (
        h_R_measure_45 N v1 v2 (0 : Int32) T)
      else
        obd (jrg 20 v1) fun n3 =>
        h_R_measure_45 N v1 v2 ((T.1 28 n3) - (400 : Int32)) T)
    else
      some (0 : Int64))
  else
    some (0 : Int64)
set_option maxRecDepth 10000 in
def h_R_count (v1 : Int32) (T : MT) : Option Int32 :=
  if v1 = 0 then (
    some (T.1 1 0))
  else
    if v1 = (1 : Int32) then (
      some (T.1 16 0))
    else
      if v1 = (2 : Int32) then (
        some (T.1 44 0))
      else
        some (-1 : Int32)
set_option maxRecDepth 10000 in
def h_R_chain_2 (v1 : Int32) (v2 : Int32) (T : MT) : Option Int32 :=
  obd (h_R_isChain v1 T) fun x1 =>
  if x1 = true then (
    if v2 = 0 then (
      obd (jrg 20 v1) fun n2 =>
      some (T.1 17 n2))
    else
    if v2 = 1 then (
      obd (jrg 20 v1) fun n3 =>
      some (T.1 20 n3))
    else
    if v2 = 2 then (
      obd (jrg 20 v1) fun n4 =>
      some (T.1 28 n4))
    else
    if v2 = 3 then (
      obd (jrg 20 v1) fun n5 =>
      some (T.1 19 n5))
    else
    if v2 = 4 then (
      obd (h_R_sortOf v1 T) fun x6 =>
      some x6)
    else
    some (-1 : Int32))
  else
    some (-1 : Int32)
