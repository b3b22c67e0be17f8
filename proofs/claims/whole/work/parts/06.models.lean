/-! what each method does to the memory, as its bytecode has it: none stands for all that the machine itself would throw at, and for a loop that does not end in fp_fu turns -/
def fp_fu : Nat := 10000
theorem fp_pr1 {α β : Type} {a c : α} {b d : β} (h : some (a, b) = some (c, d)) : a = c := congrArg Prod.fst (Option.some.inj h)
theorem fp_pr2 {α β : Type} {a c : α} {b d : β} (h : some (a, b) = some (c, d)) : b = d := congrArg Prod.snd (Option.some.inj h)
-- X7
def m_X7_forget (M : fp_Mem) (k : Nat) : Option (fp_Mem) :=
  fp_lt (fp_set M k 0 (nI 0)) fun M_1 =>
  fp_lt (fp_set M_1 k 1 (nI 0)) fun M_2 =>
  fp_lt (fp_set M_2 k 2 (nI 0)) fun M_3 =>
  fp_lt (fp_set M_3 k 3 (nI 0)) fun M_4 =>
  fp_lt (fp_set M_4 k 4 (nI 0)) fun M_5 =>
  some M_5
def m_X7_becomes_80 (k : Nat) (k1 : Nat) : Nat → Int32 → fp_Mem → Option (fp_Mem)
  | 0, _, _ => none
  | n + 1, v2, M =>
    if (nI 14) ≤ v2 then
      some M
    else
      fp_gd (fp_in v2 14) <|
      fp_gd (fp_in v2 14) <|
      fp_lt (fp_set M (k + 3) (Int32.toNatClampNeg v2) (M (k1 + 3) (Int32.toNatClampNeg v2))) fun M_3 =>
      fp_gd (fp_in v2 14) <|
      fp_gd (fp_in v2 14) <|
      fp_lt (fp_set M_3 (k + 4) (Int32.toNatClampNeg v2) (M_3 (k1 + 4) (Int32.toNatClampNeg v2))) fun M_6 =>
      fp_lt (v2 + (nI 1)) fun x_7 =>
      m_X7_becomes_80 k k1 n x_7 M_6
def m_X7_becomes_42 (k : Nat) (k1 : Nat) : Nat → Int32 → fp_Mem → Option (fp_Mem)
  | 0, _, _ => none
  | n + 1, v2, M =>
    if (nI 9) ≤ v2 then
      m_X7_becomes_80 k k1 fp_fu (nI 0) M
    else
      fp_gd (fp_in v2 9) <|
      fp_gd (fp_in v2 9) <|
      fp_lt (fp_set M (k + 1) (Int32.toNatClampNeg v2) (M (k1 + 1) (Int32.toNatClampNeg v2))) fun M_10 =>
      fp_gd (fp_in v2 9) <|
      fp_gd (fp_in v2 9) <|
      fp_lt (fp_set M_10 (k + 2) (Int32.toNatClampNeg v2) (M_10 (k1 + 2) (Int32.toNatClampNeg v2))) fun M_13 =>
      fp_lt (v2 + (nI 1)) fun x_14 =>
      m_X7_becomes_42 k k1 n x_14 M_13
def m_X7_becomes (M : fp_Mem) (k : Nat) (k1 : Nat) : Option (fp_Mem) :=
  fp_gd (fp_zb (M k1 0)) <|
  fp_lt (fp_set M k 0 (M k1 0)) fun M_16 =>
  fp_lt (fp_set M_16 k 1 (M_16 k1 1)) fun M_17 =>
  fp_lt (fp_set M_17 k 2 (M_17 k1 2)) fun M_18 =>
  fp_lt (fp_set M_18 k 3 (M_18 k1 3)) fun M_19 =>
  fp_lt (fp_set M_19 k 4 (M_19 k1 4)) fun M_20 =>
  m_X7_becomes_42 k k1 fp_fu (nI 0) M_20
def m_X7_hasTable_17 (M : fp_Mem) (k : Nat) (p1 : Int32) (s0 : Int32) : Option (Int32) :=
  fp_gd (fp_zb s0) <|
  some s0
def m_X7_hasTable_16 (M : fp_Mem) (k : Nat) (p1 : Int32) : Option (Int32) :=
  m_X7_hasTable_17 M k p1 (nI 0)
def m_X7_hasTable (M : fp_Mem) (k : Nat) (p1 : Int32) : Option (Int32) :=
  if p1 < 0 then
    m_X7_hasTable_16 M k p1
  else
    if (M k 3) ≤ p1 then
      m_X7_hasTable_16 M k p1
    else
      m_X7_hasTable_17 M k p1 (nI 1)
def m_X7_hasWay_17 (M : fp_Mem) (k : Nat) (p1 : Int32) (s0 : Int32) : Option (Int32) :=
  fp_gd (fp_zb s0) <|
  some s0
def m_X7_hasWay_16 (M : fp_Mem) (k : Nat) (p1 : Int32) : Option (Int32) :=
  m_X7_hasWay_17 M k p1 (nI 0)
def m_X7_hasWay (M : fp_Mem) (k : Nat) (p1 : Int32) : Option (Int32) :=
  if p1 < 0 then
    m_X7_hasWay_16 M k p1
  else
    if (M k 4) ≤ p1 then
      m_X7_hasWay_16 M k p1
    else
      m_X7_hasWay_17 M k p1 (nI 1)
def m_X7_allTables (M : fp_Mem) (k : Nat) : Option (Int32) :=
  some (((nI 1) <<< ((M k 3) &&& 31)) - (nI 1))
def m_X7_hasAll_16 (M : fp_Mem) (k : Nat) (p1 : Int32) (s0 : Int32) : Option (Int32) :=
  fp_gd (fp_zb s0) <|
  some s0
def m_X7_hasAll (M : fp_Mem) (k : Nat) (p1 : Int32) : Option (Int32) :=
  fp_b1 (m_X7_allTables M k) fun r_2 =>
  if (p1 &&& (r_2 ^^^ (-1 : Int32))) = 0 then
    m_X7_hasAll_16 M k p1 (nI 1)
  else
    m_X7_hasAll_16 M k p1 (nI 0)
def m_X7_joins_52 (M : fp_Mem) (k : Nat) (p1 : Int32) (p2 : Int32) (K2 : Int32 → Option (Int32)) (v3 : Int32) : Option (Int32) :=
  fp_lt (v3 + (nI 1)) fun x_1 =>
  K2 x_1
def m_X7_joins_50 (M : fp_Mem) (k : Nat) (p1 : Int32) (p2 : Int32) : Option (Int32) :=
  some (nI 1)
def m_X7_joins_30 (M : fp_Mem) (k : Nat) (p1 : Int32) (p2 : Int32) (K2 : Int32 → Option (Int32)) (v3 : Int32) : Option (Int32) :=
  fp_gd (fp_in v3 14) <|
  if (M (k + 3) (Int32.toNatClampNeg v3)) = p2 then
    fp_gd (fp_in v3 14) <|
    if (M (k + 4) (Int32.toNatClampNeg v3)) = p1 then
      m_X7_joins_50 M k p1 p2
    else
      m_X7_joins_52 M k p1 p2 K2 v3
  else
    m_X7_joins_52 M k p1 p2 K2 v3
def m_X7_joins_2 (M : fp_Mem) (k : Nat) (p1 : Int32) (p2 : Int32) : Nat → Int32 → Option (Int32)
  | 0, _ => none
  | n + 1, v3 =>
    if (M k 4) ≤ v3 then
      some (nI 0)
    else
      fp_gd (fp_in v3 14) <|
      if (M (k + 3) (Int32.toNatClampNeg v3)) = p1 then
        fp_gd (fp_in v3 14) <|
        if (M (k + 4) (Int32.toNatClampNeg v3)) = p2 then
          m_X7_joins_50 M k p1 p2
        else
          m_X7_joins_30 M k p1 p2 (m_X7_joins_2 M k p1 p2 n) v3
      else
        m_X7_joins_30 M k p1 p2 (m_X7_joins_2 M k p1 p2 n) v3
def m_X7_joins (M : fp_Mem) (k : Nat) (p1 : Int32) (p2 : Int32) : Option (Int32) :=
  m_X7_joins_2 M k p1 p2 fp_fu (nI 0)
def m_X7_addTable_39 (k : Nat) (p1 : Int32) (p2 : Int32) (M : fp_Mem) : Option (fp_Mem) :=
  some M
def m_X7_addTable (M : fp_Mem) (k : Nat) (p1 : Int32) (p2 : Int32) : Option (fp_Mem) :=
  if (nI 9) ≤ (M k 3) then
    m_X7_addTable_39 k p1 p2 M
  else
    fp_gd (fp_in (M k 3) 9) <|
    fp_lt (fp_set M (k + 1) (Int32.toNatClampNeg (M k 3)) p1) fun M_2 =>
    fp_gd (fp_in (M_2 k 3) 9) <|
    fp_lt (fp_set M_2 (k + 2) (Int32.toNatClampNeg (M_2 k 3)) p2) fun M_4 =>
    fp_lt (fp_set M_4 k 3 ((M_4 k 3) + (nI 1))) fun M_5 =>
    m_X7_addTable_39 k p1 p2 M_5
def m_X7_addWay_39 (k : Nat) (p1 : Int32) (p2 : Int32) (M : fp_Mem) : Option (fp_Mem) :=
  some M
def m_X7_addWay (M : fp_Mem) (k : Nat) (p1 : Int32) (p2 : Int32) : Option (fp_Mem) :=
  if (nI 14) ≤ (M k 4) then
    m_X7_addWay_39 k p1 p2 M
  else
    fp_gd (fp_in (M k 4) 14) <|
    fp_lt (fp_set M (k + 3) (Int32.toNatClampNeg (M k 4)) p1) fun M_2 =>
    fp_gd (fp_in (M_2 k 4) 14) <|
    fp_lt (fp_set M_2 (k + 4) (Int32.toNatClampNeg (M_2 k 4)) p2) fun M_4 =>
    fp_lt (fp_set M_4 k 4 ((M_4 k 4) + (nI 1))) fun M_5 =>
    m_X7_addWay_39 k p1 p2 M_5
-- X9
def m_X9_begins_53 (k : Nat) (k1 : Nat) (K2 : Int32 → fp_Mem → Option (fp_Mem)) (v2 : Int32) (s1 : Int32) (s2 : Int32) (M : fp_Mem) : Option (fp_Mem) :=
  fp_gd (fp_in s1 9) <|
  fp_lt (fp_set M (k + 2) (Int32.toNatClampNeg s1) s2) fun M_2 =>
  fp_lt (v2 + (nI 1)) fun x_3 =>
  K2 x_3 M_2
def m_X9_begins_33 (k : Nat) (k1 : Nat) (K2 : Int32 → fp_Mem → Option (fp_Mem)) (v2 : Int32) (v3 : Int32) (s1 : Int32) (s2 : Int32) (M : fp_Mem) : Option (fp_Mem) :=
  fp_gd (fp_in s1 9) <|
  fp_lt (fp_set M (k + 1) (Int32.toNatClampNeg s1) s2) fun M_5 =>
  if v3 = 0 then
    m_X9_begins_53 k k1 K2 v2 v2 (nI 0) M_5
  else
    fp_gd (fp_in v2 9) <|
    m_X9_begins_53 k k1 K2 v2 v2 (M_5 (k1 + 2) (Int32.toNatClampNeg v2)) M_5
def m_X9_begins_2 (k : Nat) (k1 : Nat) : Nat → Int32 → fp_Mem → Option (fp_Mem)
  | 0, _, _ => none
  | n + 1, v2, M =>
    if (nI 9) ≤ v2 then
      fp_lt (fp_set M k 2 (M k1 2)) fun M_7 =>
      fp_lt (fp_set M_7 k 3 (nI 0)) fun M_8 =>
      fp_lt (fp_set M_8 k 4 (nI 0)) fun M_9 =>
      fp_lt (fp_set M_9 k 5 (nI 0)) fun M_10 =>
      fp_lt (fp_set M_10 k 6 (nI 0)) fun M_11 =>
      fp_lt (fp_set M_11 k 7 (nI 0)) fun M_12 =>
      fp_lt (fp_set M_12 k 8 (nI 0)) fun M_13 =>
      some M_13
    else
      fp_b1 (m_X7_hasTable M k1 v2) fun r_14 =>
      if r_14 = 0 then
        m_X9_begins_33 k k1 (m_X9_begins_2 k k1 n) v2 r_14 v2 (nI 0) M
      else
        fp_gd (fp_in v2 9) <|
        m_X9_begins_33 k k1 (m_X9_begins_2 k k1 n) v2 r_14 v2 (M (k1 + 1) (Int32.toNatClampNeg v2)) M
def m_X9_begins (M : fp_Mem) (k : Nat) (k1 : Nat) : Option (fp_Mem) :=
  m_X9_begins_2 k k1 fp_fu (nI 0) M
def m_X9_becomes_2 (k : Nat) (k1 : Nat) : Nat → Int32 → fp_Mem → Option (fp_Mem)
  | 0, _, _ => none
  | n + 1, v2, M =>
    if (nI 9) ≤ v2 then
      fp_lt (fp_set M k 2 (M k1 2)) fun M_1 =>
      fp_lt (fp_set M_1 k 3 (M_1 k1 3)) fun M_2 =>
      fp_lt (fp_set M_2 k 4 (M_2 k1 4)) fun M_3 =>
      fp_lt (fp_set M_3 k 5 (M_3 k1 5)) fun M_4 =>
      fp_lt (fp_set M_4 k 6 (M_4 k1 6)) fun M_5 =>
      fp_lt (fp_set M_5 k 7 (M_5 k1 7)) fun M_6 =>
      fp_lt (fp_set M_6 k 8 (M_6 k1 8)) fun M_7 =>
      some M_7
    else
      fp_gd (fp_in v2 9) <|
      fp_gd (fp_in v2 9) <|
      fp_lt (fp_set M (k + 1) (Int32.toNatClampNeg v2) (M (k1 + 1) (Int32.toNatClampNeg v2))) fun M_10 =>
      fp_gd (fp_in v2 9) <|
      fp_gd (fp_in v2 9) <|
      fp_lt (fp_set M_10 (k + 2) (Int32.toNatClampNeg v2) (M_10 (k1 + 2) (Int32.toNatClampNeg v2))) fun M_13 =>
      fp_lt (v2 + (nI 1)) fun x_14 =>
      m_X9_becomes_2 k k1 n x_14 M_13
def m_X9_becomes (M : fp_Mem) (k : Nat) (k1 : Nat) : Option (fp_Mem) :=
  m_X9_becomes_2 k k1 fp_fu (nI 0) M
def m_X9_free_27 (M : fp_Mem) (k : Nat) (p1 : Int32) (s0 : Int32) : Option (Int32) :=
  some s0
def m_X9_free_26 (M : fp_Mem) (k : Nat) (p1 : Int32) : Option (Int32) :=
  m_X9_free_27 M k p1 (nI 0)
def m_X9_free (M : fp_Mem) (k : Nat) (p1 : Int32) : Option (Int32) :=
  if p1 < 0 then
    m_X9_free_26 M k p1
  else
    if (nI 9) ≤ p1 then
      m_X9_free_26 M k p1
    else
      fp_gd (fp_in p1 9) <|
      fp_gd (fp_in p1 9) <|
      m_X9_free_27 M k p1 ((M (k + 1) (Int32.toNatClampNeg p1)) - (M (k + 2) (Int32.toNatClampNeg p1)))
def m_X9_sitting_4 (M : fp_Mem) (k : Nat) : Nat → Int32 → Int32 → Option (Int32)
  | 0, _, _ => none
  | n + 1, v1, v2 =>
    if (nI 9) ≤ v2 then
      some v1
    else
      fp_gd (fp_in v2 9) <|
      fp_lt (v1 + (M (k + 2) (Int32.toNatClampNeg v2))) fun x_2 =>
      fp_lt (v2 + (nI 1)) fun x_3 =>
      m_X9_sitting_4 M k n x_2 x_3
def m_X9_sitting (M : fp_Mem) (k : Nat) : Option (Int32) :=
  m_X9_sitting_4 M k fp_fu (nI 0) (nI 0)
def m_X9_withFreeBelow_28 (M : fp_Mem) (k : Nat) (p1 : Int32) (p2 : Int32) (K5 : Int32 → Int32 → Option (Int32)) (v3 : Int32) (v4 : Int32) : Option (Int32) :=
  fp_lt (v4 + (nI 1)) fun x_1 =>
  K5 v3 x_1
def m_X9_withFreeBelow_5 (M : fp_Mem) (k : Nat) (p1 : Int32) (p2 : Int32) : Nat → Int32 → Int32 → Option (Int32)
  | 0, _, _ => none
  | n + 1, v3, v4 =>
    if p2 ≤ v4 then
      some v3
    else
      fp_b1 (m_X9_free M k v4) fun r_2 =>
      if p1 ≤ r_2 then
        m_X9_withFreeBelow_28 M k p1 p2 (m_X9_withFreeBelow_5 M k p1 p2 n) v3 v4
      else
        fp_lt (v3 ||| ((nI 1) <<< (v4 &&& 31))) fun x_4 =>
        m_X9_withFreeBelow_28 M k p1 p2 (m_X9_withFreeBelow_5 M k p1 p2 n) x_4 v4
def m_X9_withFreeBelow (M : fp_Mem) (k : Nat) (p1 : Int32) (p2 : Int32) : Option (Int32) :=
  m_X9_withFreeBelow_5 M k p1 p2 fp_fu (nI 0) (nI 0)
def m_X9_isShut_16 (M : fp_Mem) (k : Nat) (p1 : Int32) (s0 : Int32) : Option (Int32) :=
  fp_gd (fp_zb s0) <|
  some s0
def m_X9_isShut (M : fp_Mem) (k : Nat) (p1 : Int32) : Option (Int32) :=
  if (((M k 3) >>> (p1 &&& 31)) &&& (nI 1)) = 0 then
    m_X9_isShut_16 M k p1 (nI 0)
  else
    m_X9_isShut_16 M k p1 (nI 1)
def m_X9_setShut_26 (k : Nat) (p1 : Int32) (p2 : Int32) (s1 : Int32) (M : fp_Mem) : Option (fp_Mem) :=
  fp_lt (fp_set M k 3 s1) fun M_1 =>
  some M_1
def m_X9_setShut (M : fp_Mem) (k : Nat) (p1 : Int32) (p2 : Int32) : Option (fp_Mem) :=
  if p2 = 0 then
    m_X9_setShut_26 k p1 p2 ((M k 3) &&& (((nI 1) <<< (p1 &&& 31)) ^^^ (-1 : Int32))) M
  else
    m_X9_setShut_26 k p1 p2 ((M k 3) ||| ((nI 1) <<< (p1 &&& 31))) M
def m_X9_chairsFor_54 (M : fp_Mem) (k : Nat) (p1 : Int32) (K4 : Int32 → Int32 → Option (Int32)) (v2 : Int32) (v3 : Int32) : Option (Int32) :=
  fp_lt (v3 + (nI 1)) fun x_1 =>
  K4 v2 x_1
def m_X9_chairsFor_52 (M : fp_Mem) (k : Nat) (p1 : Int32) (K4 : Int32 → Int32 → Option (Int32)) (v3 : Int32) (s0 : Int32) (s1 : Int32) : Option (Int32) :=
  fp_lt (s0 + s1) fun x_2 =>
  m_X9_chairsFor_54 M k p1 K4 x_2 v3
def m_X9_chairsFor_4 (M : fp_Mem) (k : Nat) (p1 : Int32) : Nat → Int32 → Int32 → Option (Int32)
  | 0, _, _ => none
  | n + 1, v2, v3 =>
    if (nI 9) ≤ v3 then
      some v2
    else
      fp_b1 (m_X9_free M k v3) fun r_3 =>
      fp_lt (if (nI 0) < ((nI 2) - r_3) then ((nI 2) - r_3) else (nI 0)) fun x_5 =>
      if ((p1 >>> (v3 &&& 31)) &&& (nI 1)) = 0 then
        m_X9_chairsFor_54 M k p1 (m_X9_chairsFor_4 M k p1 n) v2 v3
      else
        fp_gd (fp_in v3 9) <|
        if ((M (k + 1) (Int32.toNatClampNeg v3)) + x_5) ≤ (nI 20) then
          m_X9_chairsFor_52 M k p1 (m_X9_chairsFor_4 M k p1 n) v3 v2 x_5
        else
          m_X9_chairsFor_52 M k p1 (m_X9_chairsFor_4 M k p1 n) v3 v2 (nI 5)
def m_X9_chairsFor (M : fp_Mem) (k : Nat) (p1 : Int32) : Option (Int32) :=
  m_X9_chairsFor_4 M k p1 fp_fu (nI 0) (nI 0)
-- J6
def m_J6_numberOfTrailingZeros_0f7a4_74 (M : fp_Mem) (v0 : Int32) (v1 : Int32) : Option (Int32) :=
  some (v1 + ((Int32.toUInt32 v0 >>> (Int32.toUInt32 (nI 1) &&& Int32.toUInt32 31)).toInt32))
def m_J6_numberOfTrailingZeros_0f7a4_62 (M : fp_Mem) (v0 : Int32) (v1 : Int32) : Option (Int32) :=
  if v0 ≤ (nI 4) then
    m_J6_numberOfTrailingZeros_0f7a4_74 M v0 v1
  else
    fp_lt (v1 + (nI 2)) fun x_1 =>
    fp_lt ((Int32.toUInt32 v0 >>> (Int32.toUInt32 (nI 2) &&& Int32.toUInt32 31)).toInt32) fun x_2 =>
    m_J6_numberOfTrailingZeros_0f7a4_74 M x_2 x_1
def m_J6_numberOfTrailingZeros_0f7a4_49 (M : fp_Mem) (v0 : Int32) (v1 : Int32) : Option (Int32) :=
  if v0 ≤ (nI 16) then
    m_J6_numberOfTrailingZeros_0f7a4_62 M v0 v1
  else
    fp_lt (v1 + (nI 4)) fun x_3 =>
    fp_lt ((Int32.toUInt32 v0 >>> (Int32.toUInt32 (nI 4) &&& Int32.toUInt32 31)).toInt32) fun x_4 =>
    m_J6_numberOfTrailingZeros_0f7a4_62 M x_4 x_3
def m_J6_numberOfTrailingZeros_0f7a4_34 (M : fp_Mem) (v0 : Int32) (v1 : Int32) : Option (Int32) :=
  if v0 ≤ (nI 256) then
    m_J6_numberOfTrailingZeros_0f7a4_49 M v0 v1
  else
    fp_lt (v1 + (nI 8)) fun x_5 =>
    fp_lt ((Int32.toUInt32 v0 >>> (Int32.toUInt32 (nI 8) &&& Int32.toUInt32 31)).toInt32) fun x_6 =>
    m_J6_numberOfTrailingZeros_0f7a4_49 M x_6 x_5
def m_J6_numberOfTrailingZeros_0f7a4 (M : fp_Mem) (p0 : Int32) : Option (Int32) :=
  fp_lt ((p0 ^^^ (-1 : Int32)) &&& (p0 - (nI 1))) fun x_7 =>
  if 0 < x_7 then
    if x_7 ≤ (nI 65536) then
      m_J6_numberOfTrailingZeros_0f7a4_34 M x_7 (nI 1)
    else
      fp_lt ((nI 1) + (nI 16)) fun x_8 =>
      fp_lt ((Int32.toUInt32 x_7 >>> (Int32.toUInt32 (nI 16) &&& Int32.toUInt32 31)).toInt32) fun x_9 =>
      m_J6_numberOfTrailingZeros_0f7a4_34 M x_9 x_8
  else
    some (x_7 &&& (nI 32))
def m_J6_bitCount_0f7a4 (M : fp_Mem) (p0 : Int32) : Option (Int32) :=
  fp_lt (p0 - (((Int32.toUInt32 p0 >>> (Int32.toUInt32 (nI 1) &&& Int32.toUInt32 31)).toInt32) &&& (nI 1431655765))) fun x_1 =>
  fp_lt ((x_1 &&& (nI 858993459)) + (((Int32.toUInt32 x_1 >>> (Int32.toUInt32 (nI 2) &&& Int32.toUInt32 31)).toInt32) &&& (nI 858993459))) fun x_2 =>
  fp_lt ((x_2 + ((Int32.toUInt32 x_2 >>> (Int32.toUInt32 (nI 4) &&& Int32.toUInt32 31)).toInt32)) &&& (nI 252645135)) fun x_3 =>
  fp_lt (x_3 + ((Int32.toUInt32 x_3 >>> (Int32.toUInt32 (nI 8) &&& Int32.toUInt32 31)).toInt32)) fun x_4 =>
  fp_lt (x_4 + ((Int32.toUInt32 x_4 >>> (Int32.toUInt32 (nI 16) &&& Int32.toUInt32 31)).toInt32)) fun x_5 =>
  some (x_5 &&& (nI 63))
-- X2
def m_X2_join_109 (k : Nat) (k1 : Nat) (p2 : Int32) (K31 : Int32 → fp_Mem → Option (fp_Mem)) (v3 : Int32) (M : fp_Mem) : Option (fp_Mem) :=
  fp_lt (v3 + (nI 1)) fun x_1 =>
  K31 x_1 M
def m_X2_join_31 (k : Nat) (k1 : Nat) (p2 : Int32) : Nat → Int32 → fp_Mem → Option (fp_Mem)
  | 0, _, _ => none
  | n + 1, v3, M =>
    if (M k1 4) ≤ v3 then
      some M
    else
      fp_gd (fp_in v3 14) <|
      fp_lt (M (k1 + 3) (Int32.toNatClampNeg v3)) fun x_3 =>
      fp_gd (fp_in v3 14) <|
      fp_lt (M (k1 + 4) (Int32.toNatClampNeg v3)) fun x_5 =>
      if ((p2 >>> (v3 &&& 31)) &&& (nI 1)) = 0 then
        fp_b1 (m_X7_hasTable M k1 x_3) fun r_6 =>
        if r_6 = 0 then
          m_X2_join_109 k k1 p2 (m_X2_join_31 k k1 p2 n) v3 M
        else
          fp_b1 (m_X7_hasTable M k1 x_5) fun r_8 =>
          if r_8 = 0 then
            m_X2_join_109 k k1 p2 (m_X2_join_31 k k1 p2 n) v3 M
          else
            fp_gd (fp_in x_3 9) <|
            fp_gd (fp_in x_3 9) <|
            fp_lt (fp_set M (k + 1) (Int32.toNatClampNeg x_3) ((M (k + 1) (Int32.toNatClampNeg x_3)) ||| ((nI 1) <<< (x_5 &&& 31)))) fun M_12 =>
            fp_gd (fp_in x_5 9) <|
            fp_gd (fp_in x_5 9) <|
            fp_lt (fp_set M_12 (k + 1) (Int32.toNatClampNeg x_5) ((M_12 (k + 1) (Int32.toNatClampNeg x_5)) ||| ((nI 1) <<< (x_3 &&& 31)))) fun M_15 =>
            m_X2_join_109 k k1 p2 (m_X2_join_31 k k1 p2 n) v3 M_15
      else
        m_X2_join_109 k k1 p2 (m_X2_join_31 k k1 p2 n) v3 M
def m_X2_join_10 (k : Nat) (k1 : Nat) (p2 : Int32) : Nat → Int32 → fp_Mem → Option (fp_Mem)
  | 0, _, _ => none
  | n + 1, v3, M =>
    if (nI 9) ≤ v3 then
      m_X2_join_31 k k1 p2 fp_fu (nI 0) M
    else
      fp_gd (fp_in v3 9) <|
      fp_lt (fp_set M (k + 1) (Int32.toNatClampNeg v3) (nI 0)) fun M_17 =>
      fp_lt (v3 + (nI 1)) fun x_18 =>
      m_X2_join_10 k k1 p2 n x_18 M_17
def m_X2_join (M : fp_Mem) (k : Nat) (k1 : Nat) (p2 : Int32) : Option (fp_Mem) :=
  fp_lt (fp_set M k 0 (M k1 3)) fun M_19 =>
  m_X2_join_10 k k1 p2 fp_fu (nI 0) M_19
def m_X2_link_83 (k : Nat) (p1 : Int32) (p2 : Int32) (p3 : Int32) (K3 : Int32 → fp_Mem → Option (fp_Mem)) (v4 : Int32) (M : fp_Mem) : Option (fp_Mem) :=
  fp_lt (v4 + (nI 1)) fun x_1 =>
  K3 x_1 M
def m_X2_link_3 (k : Nat) (p1 : Int32) (p2 : Int32) (p3 : Int32) : Nat → Int32 → fp_Mem → Option (fp_Mem)
  | 0, _, _ => none
  | n + 1, v4, M =>
    if (M k 0) ≤ v4 then
      some M
    else
      if ((p1 >>> (v4 &&& 31)) &&& (nI 1)) = 0 then
        m_X2_link_83 k p1 p2 p3 (m_X2_link_3 k p1 p2 p3 n) v4 M
      else
        fp_gd (fp_in v4 9) <|
        fp_lt (fp_set M (k + 2) (Int32.toNatClampNeg v4) p2) fun M_3 =>
        fp_gd (fp_in v4 9) <|
        fp_b1 (m_J6_numberOfTrailingZeros_0f7a4 M_3 ((M_3 (k + 1) (Int32.toNatClampNeg v4)) &&& p3)) fun r_5 =>
        if (M_3 k 0) ≤ r_5 then
          m_X2_link_83 k p1 p2 p3 (m_X2_link_3 k p1 p2 p3 n) v4 M_3
        else
          fp_gd (fp_in v4 9) <|
          fp_lt (fp_set M_3 (k + 3) (Int32.toNatClampNeg v4) r_5) fun M_8 =>
          fp_gd (fp_in r_5 9) <|
          fp_gd (fp_in v4 9) <|
          fp_lt (fp_set M_8 (k + 4) (Int32.toNatClampNeg v4) ((M_8 (k + 4) (Int32.toNatClampNeg r_5)) ||| ((nI 1) <<< (v4 &&& 31)))) fun M_11 =>
          m_X2_link_83 k p1 p2 p3 (m_X2_link_3 k p1 p2 p3 n) v4 M_11
def m_X2_link (M : fp_Mem) (k : Nat) (p1 : Int32) (p2 : Int32) (p3 : Int32) : Option (fp_Mem) :=
  m_X2_link_3 k p1 p2 p3 fp_fu (nI 0) M
def m_X2_around_29 (M : fp_Mem) (k : Nat) (p1 : Int32) (K4 : Int32 → Int32 → Option (Int32)) (v2 : Int32) (v3 : Int32) : Option (Int32) :=
  fp_lt (v3 + (nI 1)) fun x_1 =>
  K4 v2 x_1
def m_X2_around_4 (M : fp_Mem) (k : Nat) (p1 : Int32) : Nat → Int32 → Int32 → Option (Int32)
  | 0, _, _ => none
  | n + 1, v2, v3 =>
    if (M k 0) ≤ v3 then
      some v2
    else
      if ((p1 >>> (v3 &&& 31)) &&& (nI 1)) = 0 then
        m_X2_around_29 M k p1 (m_X2_around_4 M k p1 n) v2 v3
      else
        fp_gd (fp_in v3 9) <|
        fp_lt (v2 ||| (M (k + 1) (Int32.toNatClampNeg v3))) fun x_3 =>
        m_X2_around_29 M k p1 (m_X2_around_4 M k p1 n) x_3 v3
def m_X2_around (M : fp_Mem) (k : Nat) (p1 : Int32) : Option (Int32) :=
  m_X2_around_4 M k p1 fp_fu (nI 0) (nI 0)
def m_X2_measure_120 (k : Nat) (k1 : Nat) (k2 : Nat) (M : fp_Mem) : Option (fp_Mem) :=
  some M
def m_X2_measure_70 (k : Nat) (k1 : Nat) (k2 : Nat) : Nat → Int32 → Int32 → Int32 → Int32 → fp_Mem → Option (fp_Mem)
  | 0, _, _, _, _, _ => none
  | n + 1, v3, v4, v5, v6, M =>
    if (nI 9) ≤ v6 then
      m_X2_measure_120 k k1 k2 M
    else
      if v5 = 0 then
        m_X2_measure_120 k k1 k2 M
      else
        fp_b1 (m_X2_link M k v5 v6 v3) fun M_1 =>
        fp_lt (v4 ||| v5) fun x_3 =>
        fp_b1 (m_X2_around M_1 k v5) fun r_4 =>
        fp_lt (r_4 &&& (x_3 ^^^ (-1 : Int32))) fun x_6 =>
        fp_lt (v6 + (nI 1)) fun x_7 =>
        m_X2_measure_70 k k1 k2 n v5 x_3 x_6 x_7 M_1
def m_X2_measure_11 (k : Nat) (k1 : Nat) (k2 : Nat) : Nat → Int32 → fp_Mem → Option (fp_Mem)
  | 0, _, _ => none
  | n + 1, v3, M =>
    if (nI 9) ≤ v3 then
      fp_b1 (m_X7_allTables M k1) fun r_8 =>
      fp_b1 (m_X9_withFreeBelow M k2 (nI 2) (M k 0)) fun r_10 =>
      fp_lt (r_8 &&& (r_10 ^^^ (-1 : Int32))) fun x_12 =>
      m_X2_measure_70 k k1 k2 fp_fu (nI 0) (nI 0) x_12 (nI 0) M
    else
      fp_gd (fp_in v3 9) <|
      fp_lt (fp_set M (k + 2) (Int32.toNatClampNeg v3) (-1 : Int32)) fun M_14 =>
      fp_gd (fp_in v3 9) <|
      fp_lt (fp_set M_14 (k + 3) (Int32.toNatClampNeg v3) (-1 : Int32)) fun M_16 =>
      fp_gd (fp_in v3 9) <|
      fp_lt (fp_set M_16 (k + 4) (Int32.toNatClampNeg v3) (nI 0)) fun M_18 =>
      fp_lt (v3 + (nI 1)) fun x_19 =>
      m_X2_measure_11 k k1 k2 n x_19 M_18
def m_X2_measure (M : fp_Mem) (k : Nat) (k1 : Nat) (k2 : Nat) : Option (fp_Mem) :=
  fp_b1 (m_X2_join M k k1 (M k2 3)) fun M_20 =>
  m_X2_measure_11 k k1 k2 fp_fu (nI 0) M_20
def m_X2_within_7 (M : fp_Mem) (k : Nat) (p1 : Int32) (p2 : Int32) : Nat → Int32 → Int32 → Option (Int32)
  | 0, _, _ => none
  | n + 1, v3, v4 =>
    if p2 ≤ v4 then
      some v3
    else
      fp_b1 (m_X2_around M k v3) fun r_1 =>
      fp_lt (v3 ||| r_1) fun x_3 =>
      fp_lt (v4 + (nI 1)) fun x_4 =>
      m_X2_within_7 M k p1 p2 n x_3 x_4
def m_X2_within (M : fp_Mem) (k : Nat) (p1 : Int32) (p2 : Int32) : Option (Int32) :=
  fp_lt ((nI 1) <<< (p1 &&& 31)) fun x_5 =>
  m_X2_within_7 M k p1 p2 fp_fu x_5 (nI 0)
def m_X2_hangingTogether (M : fp_Mem) (k : Nat) (p1 : Int32) : Option (Int32) :=
  fp_b1 (m_X2_within M k p1 (nI 8)) fun r_1 =>
  some r_1
def m_X2_movesFrom_22 (M : fp_Mem) (k : Nat) (p1 : Int32) (s0 : Int32) : Option (Int32) :=
  some s0
def m_X2_movesFrom_21 (M : fp_Mem) (k : Nat) (p1 : Int32) : Option (Int32) :=
  m_X2_movesFrom_22 M k p1 (-1 : Int32)
def m_X2_movesFrom (M : fp_Mem) (k : Nat) (p1 : Int32) : Option (Int32) :=
  if p1 < 0 then
    m_X2_movesFrom_21 M k p1
  else
    if (M k 0) ≤ p1 then
      m_X2_movesFrom_21 M k p1
    else
      fp_gd (fp_in p1 9) <|
      m_X2_movesFrom_22 M k p1 (M (k + 2) (Int32.toNatClampNeg p1))
def m_X2_moversFrom_22 (M : fp_Mem) (k : Nat) (p1 : Int32) (s0 : Int32) : Option (Int32) :=
  some s0
def m_X2_moversFrom_21 (M : fp_Mem) (k : Nat) (p1 : Int32) : Option (Int32) :=
  m_X2_moversFrom_22 M k p1 (nI 0)
def m_X2_moversFrom (M : fp_Mem) (k : Nat) (p1 : Int32) : Option (Int32) :=
  if p1 < 0 then
    m_X2_moversFrom_21 M k p1
  else
    if (M k 0) ≤ p1 then
      m_X2_moversFrom_21 M k p1
    else
      fp_gd (fp_in p1 9) <|
      m_X2_moversFrom_22 M k p1 (M (k + 4) (Int32.toNatClampNeg p1))
def m_X2_tableOf_13 (M : fp_Mem) (k : Nat) (p1 : Int32) (p2 : Int32) : Option (Int32) :=
  some (-1 : Int32)
def m_X2_tableOf_51 (M : fp_Mem) (k : Nat) (p1 : Int32) (p2 : Int32) (v3 : Int32) : Option (Int32) :=
  some v3
def m_X2_tableOf_20 (M : fp_Mem) (k : Nat) (p1 : Int32) (p2 : Int32) : Nat → Int32 → Int32 → Option (Int32)
  | 0, _, _ => none
  | n + 1, v3, v4 =>
    if p2 ≤ v4 then
      m_X2_tableOf_51 M k p1 p2 v3
    else
      if v3 < 0 then
        m_X2_tableOf_51 M k p1 p2 v3
      else
        if (M k 0) ≤ v3 then
          m_X2_tableOf_51 M k p1 p2 v3
        else
          fp_gd (fp_in v3 9) <|
          fp_lt (M (k + 3) (Int32.toNatClampNeg v3)) fun x_2 =>
          fp_lt (v4 + (nI 1)) fun x_3 =>
          m_X2_tableOf_20 M k p1 p2 n x_2 x_3
def m_X2_tableOf (M : fp_Mem) (k : Nat) (p1 : Int32) (p2 : Int32) : Option (Int32) :=
  if p2 < 0 then
    m_X2_tableOf_13 M k p1 p2
  else
    fp_b1 (m_X2_movesFrom M k p1) fun r_4 =>
    if p2 ≤ r_4 then
      m_X2_tableOf_20 M k p1 p2 fp_fu p1 (nI 0)
    else
      m_X2_tableOf_13 M k p1 p2
def m_X2_withoutChain_28 (M : fp_Mem) (k : Nat) (K4 : Int32 → Int32 → Option (Int32)) (v1 : Int32) (v2 : Int32) : Option (Int32) :=
  fp_lt (v2 + (nI 1)) fun x_1 =>
  K4 v1 x_1
def m_X2_withoutChain_4 (M : fp_Mem) (k : Nat) : Nat → Int32 → Int32 → Option (Int32)
  | 0, _, _ => none
  | n + 1, v1, v2 =>
    if (M k 0) ≤ v2 then
      some v1
    else
      fp_gd (fp_in v2 9) <|
      if (M (k + 2) (Int32.toNatClampNeg v2)) = (-1 : Int32) then
        fp_lt (v1 ||| ((nI 1) <<< (v2 &&& 31))) fun x_3 =>
        m_X2_withoutChain_28 M k (m_X2_withoutChain_4 M k n) x_3 v2
      else
        m_X2_withoutChain_28 M k (m_X2_withoutChain_4 M k n) v1 v2
def m_X2_withoutChain (M : fp_Mem) (k : Nat) : Option (Int32) :=
  m_X2_withoutChain_4 M k fp_fu (nI 0) (nI 0)
def m_X2_farthest_40 (M : fp_Mem) (k : Nat) (K4 : Int32 → Int32 → Option (Int32)) (v1 : Int32) (v2 : Int32) : Option (Int32) :=
  fp_lt (v2 + (nI 1)) fun x_1 =>
  K4 v1 x_1
def m_X2_farthest_4 (M : fp_Mem) (k : Nat) : Nat → Int32 → Int32 → Option (Int32)
  | 0, _, _ => none
  | n + 1, v1, v2 =>
    if (M k 0) ≤ v2 then
      some v1
    else
      fp_gd (fp_in v2 9) <|
      if (M (k + 2) (Int32.toNatClampNeg v2)) = (-1 : Int32) then
        some v2
      else
        fp_gd (fp_in v2 9) <|
        fp_b1 (m_X2_movesFrom M k v1) fun r_4 =>
        if (M (k + 2) (Int32.toNatClampNeg v2)) ≤ r_4 then
          m_X2_farthest_40 M k (m_X2_farthest_4 M k n) v1 v2
        else
          m_X2_farthest_40 M k (m_X2_farthest_4 M k n) v2 v2
def m_X2_farthest (M : fp_Mem) (k : Nat) : Option (Int32) :=
  m_X2_farthest_4 M k fp_fu (-1 : Int32) (nI 0)
-- X3
def m_X3_draw_39 (p1 : Int32) (s0 : Int32) (M : fp_Mem) : Option (Int32 × fp_Mem) :=
  some (s0, M)
def m_X3_draw (M : fp_Mem) (p1 : Int32) : Option (Int32 × fp_Mem) :=
  fp_lt (fp_set M 47 0 (Int64.toInt32 ((((Int32.toInt64 (M 47 0)) * (lN 1103515245)) + (lN 12345)) &&& (lN 2147483647)))) fun M_1 =>
  if p1 ≤ 0 then
    m_X3_draw_39 p1 (nI 0) M_1
  else
    fp_gd (fp_nz p1) <|
    m_X3_draw_39 p1 (((M_1 47 0) / (nI 65536)) - ((M_1 47 0) / (nI 65536)) / p1 * p1) M_1
-- X0
def m_X0_comesWithoutChain (M : fp_Mem) (k : Nat) (k1 : Nat) (k2 : Nat) (p3 : Int32) : Option (Int32 × fp_Mem) :=
  fp_b1 (m_X9_free M k2 p3) fun r_1 =>
  if (nI 1) ≤ r_1 then
    fp_gd (fp_in p3 9) <|
    fp_gd (fp_in p3 9) <|
    fp_lt (fp_set M (k2 + 2) (Int32.toNatClampNeg p3) ((M (k2 + 2) (Int32.toNatClampNeg p3)) + (nI 1))) fun M_5 =>
    fp_lt (fp_set M_5 k2 6 ((M_5 k2 6) + (nI 1))) fun M_6 =>
    fp_lt (fp_set M_6 k2 7 (if ((M_6 k2 7) + (M_6 k1 1)) < (nI 999999) then ((M_6 k2 7) + (M_6 k1 1)) else (nI 999999))) fun M_7 =>
    some ((-2 : Int32), M_7)
  else
    fp_lt (fp_set M k2 4 ((M k2 4) + (nI 1))) fun M_8 =>
    some ((-3 : Int32), M_8)
def m_X0_guestComes (M : fp_Mem) (k : Nat) (k1 : Nat) (k2 : Nat) (p3 : Int32) : Option (Int32 × fp_Mem) :=
  fp_b1 (m_X2_measure M (k + 1) k1 k2) fun M_1 =>
  fp_lt (fp_set M_1 k2 8 ((M_1 k2 8) + (nI 1))) fun M_3 =>
  fp_b1 (m_X2_movesFrom M_3 (k + 1) p3) fun r_4 =>
  fp_b1 (m_X2_tableOf M_3 (k + 1) p3 r_4) fun r_6 =>
  fp_b1 (m_X7_hasTable M_3 k1 r_6) fun r_8 =>
  if r_8 = 0 then
    fp_b2 (m_X0_comesWithoutChain M_3 k k1 k2 p3) fun r_14 M_15 =>
    some (r_14, M_15)
  else
    fp_gd (fp_in r_6 9) <|
    fp_gd (fp_in r_6 9) <|
    fp_lt (fp_set M_3 (k2 + 2) (Int32.toNatClampNeg r_6) ((M_3 (k2 + 2) (Int32.toNatClampNeg r_6)) + (nI 1))) fun M_12 =>
    fp_lt (fp_set M_12 k2 5 ((M_12 k2 5) + r_4)) fun M_13 =>
    some (r_4, M_13)
def m_X0_drifts_78 (k : Nat) (k1 : Nat) (k2 : Nat) (p4 : Int32) (K11 : Int32 → fp_Mem → Option (fp_Mem)) (v5 : Int32) (M : fp_Mem) : Option (fp_Mem) :=
  fp_lt (v5 + (nI 1)) fun x_1 =>
  K11 x_1 M
def m_X0_drifts_11 (k : Nat) (k1 : Nat) (k2 : Nat) (p4 : Int32) : Nat → Int32 → fp_Mem → Option (fp_Mem)
  | 0, _, _ => none
  | n + 1, v5, M =>
    if p4 ≤ v5 then
      some M
    else
      fp_b2 (m_X3_draw M (M k1 3)) fun r_2 M_3 =>
      fp_b2 (m_X3_draw M_3 (nI 3)) fun r_5 M_6 =>
      if r_5 = 0 then
        fp_b1 (m_X7_hasTable M_6 k1 r_2) fun r_8 =>
        if r_8 = 0 then
          m_X0_drifts_78 k k1 k2 p4 (m_X0_drifts_11 k k1 k2 p4 n) v5 M_6
        else
          fp_gd (fp_in r_2 9) <|
          if (M_6 (k2 + 2) (Int32.toNatClampNeg r_2)) ≤ 0 then
            m_X0_drifts_78 k k1 k2 p4 (m_X0_drifts_11 k k1 k2 p4 n) v5 M_6
          else
            fp_gd (fp_in r_2 9) <|
            fp_gd (fp_in r_2 9) <|
            fp_lt (fp_set M_6 (k2 + 2) (Int32.toNatClampNeg r_2) ((M_6 (k2 + 2) (Int32.toNatClampNeg r_2)) - (nI 1))) fun M_13 =>
            m_X0_drifts_78 k k1 k2 p4 (m_X0_drifts_11 k k1 k2 p4 n) v5 M_13
      else
        fp_b2 (m_X0_guestComes M_6 k k1 k2 r_2) fun r_14 M_15 =>
        m_X0_drifts_78 k k1 k2 p4 (m_X0_drifts_11 k k1 k2 p4 n) v5 M_15
def m_X0_drifts (M : fp_Mem) (k : Nat) (k1 : Nat) (k2 : Nat) (p4 : Int32) : Option (fp_Mem) :=
  if 0 < (M k1 3) then
    m_X0_drifts_11 k k1 k2 p4 fp_fu (nI 0) M
  else
    some M
-- X10
def m_X10_moreGuests_64 (k1 : Nat) (k2 : Nat) (p3 : Int32) (K28 : Int32 → Int32 → Int32 → fp_Mem → Option (Int32 × fp_Mem)) (v4 : Int32) (v5 : Int32) (v6 : Int32) (M : fp_Mem) : Option (Int32 × fp_Mem) :=
  fp_lt (v6 + (nI 1)) fun x_1 =>
  K28 v4 v5 x_1 M
def m_X10_moreGuests_28 (k1 : Nat) (k2 : Nat) (p3 : Int32) : Nat → Int32 → Int32 → Int32 → fp_Mem → Option (Int32 × fp_Mem)
  | 0, _, _, _, _ => none
  | n + 1, v4, v5, v6, M =>
    if (M k1 3) ≤ v6 then
      some (v5, M)
    else
      if ((v4 >>> (v6 &&& 31)) &&& (nI 1)) = 0 then
        m_X10_moreGuests_64 k1 k2 p3 (m_X10_moreGuests_28 k1 k2 p3 n) v4 v5 v6 M
      else
        fp_b1 (m_X9_free M k2 v6) fun r_2 =>
        fp_lt (v5 + (if (nI 0) < (r_2 - (nI 1)) then (r_2 - (nI 1)) else (nI 0))) fun x_4 =>
        m_X10_moreGuests_64 k1 k2 p3 (m_X10_moreGuests_28 k1 k2 p3 n) v4 x_4 v6 M
def m_X10_moreGuests (M : fp_Mem) (k1 : Nat) (k2 : Nat) (p3 : Int32) : Option (Int32 × fp_Mem) :=
  fp_b1 (m_X2_join M 28 k1 (M k2 3)) fun M_5 =>
  fp_b1 (m_X2_hangingTogether M_5 28 p3) fun r_7 =>
  m_X10_moreGuests_28 k1 k2 p3 fp_fu r_7 (nI 0) (nI 0) M_5
def m_X10_leastFree_107 (k1 : Nat) (k2 : Nat) (p3 : Int32) (s0 : Int32) (M : fp_Mem) : Option (Int32 × fp_Mem) :=
  some (s0, M)
def m_X10_leastFree_82 (k1 : Nat) (k2 : Nat) (p3 : Int32) (K35 : Int32 → Int32 → Int32 → Int32 → Int32 → fp_Mem → Option (Int32 × fp_Mem)) (v4 : Int32) (v5 : Int32) (v6 : Int32) (v7 : Int32) (v8 : Int32) (M : fp_Mem) : Option (Int32 × fp_Mem) :=
  fp_lt (v8 + (nI 1)) fun x_1 =>
  K35 v4 v5 v6 v7 x_1 M
def m_X10_leastFree_35 (k1 : Nat) (k2 : Nat) (p3 : Int32) : Nat → Int32 → Int32 → Int32 → Int32 → Int32 → fp_Mem → Option (Int32 × fp_Mem)
  | 0, _, _, _, _, _, _ => none
  | n + 1, v4, v5, v6, v7, v8, M =>
    if (M k1 3) ≤ v8 then
      if v6 ≤ 0 then
        m_X10_leastFree_107 k1 k2 p3 (nI 0) M
      else
        fp_gd (fp_nz v6) <|
        m_X10_leastFree_107 k1 k2 p3 (if (v5 / v6) < v7 then (v5 / v6) else v7) M
    else
      if ((v4 >>> (v8 &&& 31)) &&& (nI 1)) = 0 then
        m_X10_leastFree_82 k1 k2 p3 (m_X10_leastFree_35 k1 k2 p3 n) v4 v5 v6 v7 v8 M
      else
        fp_b1 (m_X9_free M k2 v8) fun r_3 =>
        fp_lt (v5 + r_3) fun x_5 =>
        fp_lt (v6 + (nI 1)) fun x_6 =>
        fp_gd (fp_in v8 9) <|
        fp_lt (if (M (k2 + 1) (Int32.toNatClampNeg v8)) < v7 then (M (k2 + 1) (Int32.toNatClampNeg v8)) else v7) fun x_8 =>
        m_X10_leastFree_82 k1 k2 p3 (m_X10_leastFree_35 k1 k2 p3 n) v4 x_5 x_6 x_8 v8 M
def m_X10_leastFree (M : fp_Mem) (k1 : Nat) (k2 : Nat) (p3 : Int32) : Option (Int32 × fp_Mem) :=
  fp_b1 (m_X2_join M 28 k1 (M k2 3)) fun M_9 =>
  fp_b1 (m_X2_hangingTogether M_9 28 p3) fun r_11 =>
  m_X10_leastFree_35 k1 k2 p3 fp_fu r_11 (nI 0) (nI 0) (nI 20) (nI 0) M_9
def m_X10_movesCounted_25 (k1 : Nat) (p2 : Int32) (s0 : Int32) (M : fp_Mem) : Option (Int32 × fp_Mem) :=
  some (s0, M)
def m_X10_movesCounted (M : fp_Mem) (k1 : Nat) (p2 : Int32) : Option (Int32 × fp_Mem) :=
  fp_b2 (m_X0_guestComes M 33 k1 39 p2) fun r_1 M_2 =>
  if 0 ≤ r_1 then
    m_X10_movesCounted_25 k1 p2 r_1 M_2
  else
    m_X10_movesCounted_25 k1 p2 (nI 1000) M_2
def m_X10_movesOfTwo (M : fp_Mem) (k1 : Nat) (k2 : Nat) (p3 : Int32) (p4 : Int32) : Option (Int32 × fp_Mem) :=
  fp_b1 (m_X9_becomes M 39 k2) fun M_1 =>
  fp_b2 (m_X10_movesCounted M_1 k1 p3) fun r_3 M_4 =>
  fp_b2 (m_X10_movesCounted M_4 k1 p4) fun r_6 M_7 =>
  some ((r_3 + r_6), M_7)
def m_X10_reachesAll_35 (M : fp_Mem) (k1 : Nat) (p2 : Int32) (p3 : Int32) (K3 : Int32 → Option (Int32)) (v4 : Int32) : Option (Int32) :=
  fp_lt (v4 + (nI 1)) fun x_1 =>
  K3 x_1
def m_X10_reachesAll_3 (M : fp_Mem) (k1 : Nat) (p2 : Int32) (p3 : Int32) : Nat → Int32 → Option (Int32)
  | 0, _ => none
  | n + 1, v4 =>
    if (M k1 3) ≤ v4 then
      some (nI 1)
    else
      if ((p2 >>> (v4 &&& 31)) &&& (nI 1)) = 0 then
        m_X10_reachesAll_35 M k1 p2 p3 (m_X10_reachesAll_3 M k1 p2 p3 n) v4
      else
        fp_gd (fp_in v4 9) <|
        if ((M 42 (Int32.toNatClampNeg v4)) &&& p3) = 0 then
          some (nI 0)
        else
          m_X10_reachesAll_35 M k1 p2 p3 (m_X10_reachesAll_3 M k1 p2 p3 n) v4
def m_X10_reachesAll (M : fp_Mem) (k1 : Nat) (p2 : Int32) (p3 : Int32) : Option (Int32) :=
  m_X10_reachesAll_3 M k1 p2 p3 fp_fu (nI 0)
def m_X10_isAhead_25 (M : fp_Mem) (p0 : Int32) (p1 : Int32) (s0 : Int32) : Option (Int32) :=
  fp_gd (fp_zb s0) <|
  some s0
def m_X10_isAhead_24 (M : fp_Mem) (p0 : Int32) (p1 : Int32) : Option (Int32) :=
  m_X10_isAhead_25 M p0 p1 (nI 0)
def m_X10_isAhead (M : fp_Mem) (p0 : Int32) (p1 : Int32) : Option (Int32) :=
  fp_lt (p0 ^^^ p1) fun x_2 =>
  fp_lt (x_2 &&& (-x_2)) fun x_3 =>
  if p1 = (-1 : Int32) then
    m_X10_isAhead_24 M p0 p1
  else
    if (p0 &&& x_3) = 0 then
      m_X10_isAhead_24 M p0 p1
    else
      m_X10_isAhead_25 M p0 p1 (nI 1)
def m_X10_opened_176 (k1 : Nat) (k2 : Nat) (p3 : Int32) (p4 : Int32) (v7 : Int32) (M : fp_Mem) : Option (Int32 × fp_Mem) :=
  some (v7, M)
def m_X10_opened_170 (k1 : Nat) (k2 : Nat) (p3 : Int32) (p4 : Int32) (K79 : Int32 → Int32 → Int32 → Int32 → Int32 → fp_Mem → Option (Int32 × fp_Mem)) (v5 : Int32) (v6 : Int32) (v7 : Int32) (v8 : Int32) (v9 : Int32) (M : fp_Mem) : Option (Int32 × fp_Mem) :=
  fp_lt (v9 + (nI 1)) fun x_1 =>
  K79 v5 v6 v7 v8 x_1 M
def m_X10_opened_162 (k1 : Nat) (k2 : Nat) (p3 : Int32) (p4 : Int32) (K79 : Int32 → Int32 → Int32 → Int32 → Int32 → fp_Mem → Option (Int32 × fp_Mem)) (v5 : Int32) (v6 : Int32) (v9 : Int32) (v10 : Int32) (M : fp_Mem) : Option (Int32 × fp_Mem) :=
  m_X10_opened_170 k1 k2 p3 p4 K79 v5 v6 v9 v10 v9 M
def m_X10_opened_79 (k1 : Nat) (k2 : Nat) (p3 : Int32) (p4 : Int32) : Nat → Int32 → Int32 → Int32 → Int32 → Int32 → fp_Mem → Option (Int32 × fp_Mem)
  | 0, _, _, _, _, _, _ => none
  | n + 1, v5, v6, v7, v8, v9, M =>
    if v5 < v9 then
      m_X10_opened_176 k1 k2 p3 p4 v7 M
    else
      if v8 ≤ 0 then
        m_X10_opened_176 k1 k2 p3 p4 v7 M
      else
        if (v9 &&& (v5 ^^^ (-1 : Int32))) = 0 then
          fp_b1 (m_J6_bitCount_0f7a4 M v9) fun r_2 =>
          if r_2 ≤ (nI 4) then
            fp_b1 (m_X10_reachesAll M k1 p3 (v6 ||| v9)) fun r_4 =>
            if r_4 = 0 then
              m_X10_opened_170 k1 k2 p3 p4 (m_X10_opened_79 k1 k2 p3 p4 n) v5 v6 v7 v8 v9 M
            else
              fp_b1 (m_X9_chairsFor M k2 v9) fun r_6 =>
              if r_6 < v8 then
                m_X10_opened_162 k1 k2 p3 p4 (m_X10_opened_79 k1 k2 p3 p4 n) v5 v6 v9 r_6 M
              else
                if r_6 = v8 then
                  fp_b1 (m_X10_isAhead M v9 v7) fun r_8 =>
                  if r_8 = 0 then
                    m_X10_opened_170 k1 k2 p3 p4 (m_X10_opened_79 k1 k2 p3 p4 n) v5 v6 v7 v8 v9 M
                  else
                    m_X10_opened_162 k1 k2 p3 p4 (m_X10_opened_79 k1 k2 p3 p4 n) v5 v6 v9 r_6 M
                else
                  m_X10_opened_170 k1 k2 p3 p4 (m_X10_opened_79 k1 k2 p3 p4 n) v5 v6 v7 v8 v9 M
          else
            m_X10_opened_170 k1 k2 p3 p4 (m_X10_opened_79 k1 k2 p3 p4 n) v5 v6 v7 v8 v9 M
        else
          m_X10_opened_170 k1 k2 p3 p4 (m_X10_opened_79 k1 k2 p3 p4 n) v5 v6 v7 v8 v9 M
def m_X10_opened_15 (k1 : Nat) (k2 : Nat) (p3 : Int32) (p4 : Int32) : Nat → Int32 → fp_Mem → Option (Int32 × fp_Mem)
  | 0, _, _ => none
  | n + 1, v5, M =>
    if (M k1 3) ≤ v5 then
      fp_b1 (m_X9_withFreeBelow M k2 (nI 2) (M k1 3)) fun r_10 =>
      fp_b1 (m_X7_allTables M k1) fun r_12 =>
      fp_lt (r_12 &&& (r_10 ^^^ (-1 : Int32))) fun x_14 =>
      m_X10_opened_79 k1 k2 p3 p4 fp_fu r_10 x_14 (-1 : Int32) (nI 5) (nI 0) M
    else
      fp_b1 (m_X2_within M 28 v5 p4) fun r_15 =>
      fp_gd (fp_in v5 9) <|
      fp_lt (fp_set M 42 (Int32.toNatClampNeg v5) r_15) fun M_18 =>
      fp_lt (v5 + (nI 1)) fun x_19 =>
      m_X10_opened_15 k1 k2 p3 p4 n x_19 M_18
def m_X10_opened (M : fp_Mem) (k1 : Nat) (k2 : Nat) (p3 : Int32) (p4 : Int32) : Option (Int32 × fp_Mem) :=
  fp_b1 (m_X2_join M 28 k1 (M k2 3)) fun M_20 =>
  m_X10_opened_15 k1 k2 p3 p4 fp_fu (nI 0) M_20
-- X8
def m_X8_forget (M : fp_Mem) : Option (fp_Mem) :=
  fp_lt (fp_set M 43 0 (nI 0)) fun M_1 =>
  fp_lt (fp_set M_1 43 1 (nI 0)) fun M_2 =>
  fp_lt (fp_set M_2 43 2 (nI 0)) fun M_3 =>
  some M_3
def m_X8_add_31 (p1 : Int32) (p2 : Int32) (M : fp_Mem) : Option (fp_Mem) :=
  fp_lt (fp_set M 43 0 ((M 43 0) + (nI 1))) fun M_1 =>
  some M_1
def m_X8_add (M : fp_Mem) (p1 : Int32) (p2 : Int32) : Option (fp_Mem) :=
  if p2 = 0 then
    fp_lt (fp_set M 43 2 ((M 43 2) ||| ((nI 1) <<< (p1 &&& 31)))) fun M_2 =>
    m_X8_add_31 p1 p2 M_2
  else
    fp_lt (fp_set M 43 1 ((M 43 1) ||| ((nI 1) <<< (p1 &&& 31)))) fun M_3 =>
    m_X8_add_31 p1 p2 M_3
def m_X8_fitting_56 (M : fp_Mem) (k1 : Nat) (K4 : Int32 → Int32 → Option (Int32)) (v2 : Int32) (v3 : Int32) : Option (Int32) :=
  fp_lt (v3 + (nI 1)) fun x_1 =>
  K4 v2 x_1
def m_X8_fitting_4 (M : fp_Mem) (k1 : Nat) : Nat → Int32 → Int32 → Option (Int32)
  | 0, _, _ => none
  | n + 1, v2, v3 =>
    if (M k1 0) ≤ v3 then
      some v2
    else
      fp_b1 (m_X2_moversFrom M k1 v3) fun r_2 =>
      fp_b1 (m_X2_movesFrom M k1 v3) fun r_4 =>
      if r_4 = (-1 : Int32) then
        m_X8_fitting_56 M k1 (m_X8_fitting_4 M k1 n) v2 v3
      else
        if ((M 43 1) &&& (r_2 ^^^ (-1 : Int32))) = 0 then
          if ((M 43 2) &&& r_2) = 0 then
            fp_lt (v2 ||| ((nI 1) <<< (v3 &&& 31))) fun x_6 =>
            m_X8_fitting_56 M k1 (m_X8_fitting_4 M k1 n) x_6 v3
          else
            m_X8_fitting_56 M k1 (m_X8_fitting_4 M k1 n) v2 v3
        else
          m_X8_fitting_56 M k1 (m_X8_fitting_4 M k1 n) v2 v3
def m_X8_fitting (M : fp_Mem) (k1 : Nat) : Option (Int32) :=
  m_X8_fitting_4 M k1 fp_fu (nI 0) (nI 0)
def m_X8_greatestPart_42 (M : fp_Mem) (k0 : Nat) (p1 : Int32) (p2 : Int32) (K8 : Int32 → Int32 → Int32 → Option (Int32)) (v3 : Int32) (v4 : Int32) (v5 : Int32) : Option (Int32) :=
  fp_lt (v5 + (nI 1)) fun x_1 =>
  K8 v3 v4 x_1
def m_X8_greatestPart_8 (M : fp_Mem) (k0 : Nat) (p1 : Int32) (p2 : Int32) : Nat → Int32 → Int32 → Int32 → Option (Int32)
  | 0, _, _, _ => none
  | n + 1, v3, v4, v5 =>
    if (M k0 0) ≤ v5 then
      some (if v3 < (v4 - v3) then (v4 - v3) else v3)
    else
      if ((p1 >>> (v5 &&& 31)) &&& (nI 1)) = 0 then
        m_X8_greatestPart_42 M k0 p1 p2 (m_X8_greatestPart_8 M k0 p1 p2 n) v3 v4 v5
      else
        fp_lt (v4 + (nI 1)) fun x_2 =>
        fp_b1 (m_X2_moversFrom M k0 v5) fun r_3 =>
        fp_lt (v3 + ((r_3 >>> (p2 &&& 31)) &&& (nI 1))) fun x_5 =>
        m_X8_greatestPart_42 M k0 p1 p2 (m_X8_greatestPart_8 M k0 p1 p2 n) x_5 x_2 v5
def m_X8_greatestPart (M : fp_Mem) (k0 : Nat) (p1 : Int32) (p2 : Int32) : Option (Int32) :=
  m_X8_greatestPart_8 M k0 p1 p2 fp_fu (nI 0) (nI 0) (nI 0)
def m_X8_best_49 (M : fp_Mem) (k1 : Nat) (K17 : Int32 → Int32 → Int32 → Int32 → Option (Int32)) (v2 : Int32) (v3 : Int32) (v4 : Int32) (v5 : Int32) : Option (Int32) :=
  fp_lt (v5 + (nI 1)) fun x_1 =>
  K17 v2 v3 v4 x_1
def m_X8_best_17 (M : fp_Mem) (k1 : Nat) : Nat → Int32 → Int32 → Int32 → Int32 → Option (Int32)
  | 0, _, _, _, _ => none
  | n + 1, v2, v3, v4, v5 =>
    if (M k1 0) ≤ v5 then
      some v3
    else
      fp_b1 (m_X8_greatestPart M k1 v2 v5) fun r_2 =>
      if v4 ≤ r_2 then
        m_X8_best_49 M k1 (m_X8_best_17 M k1 n) v2 v3 v4 v5
      else
        m_X8_best_49 M k1 (m_X8_best_17 M k1 n) v2 v5 r_2 v5
def m_X8_best (M : fp_Mem) (k1 : Nat) : Option (Int32) :=
  fp_b1 (m_X8_fitting M k1) fun r_4 =>
  fp_b1 (m_J6_bitCount_0f7a4 M r_4) fun r_6 =>
  m_X8_best_17 M k1 fp_fu r_4 (-1 : Int32) r_6 (nI 0)
-- X1
def m_X1_forget (M : fp_Mem) : Option (fp_Mem) :=
  fp_lt (fp_set M 44 0 (nI 0)) fun M_1 =>
  some M_1
def m_X1_add_16 (p1 : Int32) (p2 : Int32) (M : fp_Mem) : Option (Int32 × fp_Mem) :=
  some ((nI 0), M)
def m_X1_add (M : fp_Mem) (p1 : Int32) (p2 : Int32) : Option (Int32 × fp_Mem) :=
  if (M 44 0) < 0 then
    m_X1_add_16 p1 p2 M
  else
    if (M 44 0) < (nI 15) then
      fp_gd (fp_in (M 44 0) 15) <|
      fp_lt (fp_set M 45 (Int32.toNatClampNeg (M 44 0)) p1) fun M_2 =>
      fp_gd (fp_in (M_2 44 0) 15) <|
      fp_lt (fp_set M_2 46 (Int32.toNatClampNeg (M_2 44 0)) p2) fun M_4 =>
      fp_lt (fp_set M_4 44 0 ((M_4 44 0) + (nI 1))) fun M_5 =>
      some ((nI 1), M_5)
    else
      m_X1_add_16 p1 p2 M
def m_X1_firstWrong_44 (M : fp_Mem) (k1 : Nat) (K2 : Int32 → Option (Int32)) (v2 : Int32) : Option (Int32) :=
  fp_lt (v2 + (nI 1)) fun x_1 =>
  K2 x_1
def m_X1_firstWrong_2 (M : fp_Mem) (k1 : Nat) : Nat → Int32 → Option (Int32)
  | 0, _ => none
  | n + 1, v2 =>
    if (M 44 0) ≤ v2 then
      some (-1 : Int32)
    else
      fp_gd (fp_in v2 15) <|
      fp_lt (M 45 (Int32.toNatClampNeg v2)) fun x_3 =>
      if x_3 < 0 then
        m_X1_firstWrong_44 M k1 (m_X1_firstWrong_2 M k1 n) v2
      else
        if (nI 9) ≤ x_3 then
          m_X1_firstWrong_44 M k1 (m_X1_firstWrong_2 M k1 n) v2
        else
          fp_gd (fp_in x_3 9) <|
          fp_gd (fp_in v2 15) <|
          if (M (k1 + 2) (Int32.toNatClampNeg x_3)) = (M 46 (Int32.toNatClampNeg v2)) then
            m_X1_firstWrong_44 M k1 (m_X1_firstWrong_2 M k1 n) v2
          else
            some v2
def m_X1_firstWrong (M : fp_Mem) (k1 : Nat) : Option (Int32) :=
  m_X1_firstWrong_2 M k1 fp_fu (nI 0)
-- X4
def m_X4_forget (M : fp_Mem) : Option (fp_Mem) :=
  fp_lt (fp_set M 48 0 (nI 0)) fun M_1 =>
  some M_1
def m_X4_push_16 (k1 : Nat) (M : fp_Mem) : Option (fp_Mem) :=
  some M
def m_X4_push (M : fp_Mem) (k1 : Nat) : Option (fp_Mem) :=
  if (M 48 1) < 0 then
    m_X4_push_16 k1 M
  else
    if (M 48 1) < (nI 20) then
      fp_gd (fp_in (M 48 1) 20) <|
      fp_b1 (m_X9_becomes M (50 + 3 * Int32.toNatClampNeg (M 48 1)) k1) fun M_2 =>
      fp_lt (fp_set M_2 48 1 (((M_2 48 1) + (nI 1)) - ((M_2 48 1) + (nI 1)) / (nI 20) * (nI 20))) fun M_4 =>
      fp_lt (fp_set M_4 48 0 (if ((M_4 48 0) + (nI 1)) < (nI 20) then ((M_4 48 0) + (nI 1)) else (nI 20))) fun M_5 =>
      some M_5
    else
      m_X4_push_16 k1 M
def m_X4_pop_30 (k1 : Nat) (M : fp_Mem) : Option (Int32 × fp_Mem) :=
  some ((nI 0), M)
def m_X4_pop (M : fp_Mem) (k1 : Nat) : Option (Int32 × fp_Mem) :=
  fp_lt ((((M 48 1) + (nI 20)) - (nI 1)) - (((M 48 1) + (nI 20)) - (nI 1)) / (nI 20) * (nI 20)) fun x_1 =>
  if (M 48 0) ≤ 0 then
    m_X4_pop_30 k1 M
  else
    if x_1 < 0 then
      m_X4_pop_30 k1 M
    else
      if x_1 < (nI 20) then
        fp_gd (fp_in x_1 20) <|
        fp_b1 (m_X9_becomes M k1 (50 + 3 * Int32.toNatClampNeg x_1)) fun M_3 =>
        fp_lt (fp_set M_3 48 1 x_1) fun M_5 =>
        fp_lt (fp_set M_5 48 0 ((M_5 48 0) - (nI 1))) fun M_6 =>
        some ((nI 1), M_6)
      else
        m_X4_pop_30 k1 M
-- X5
def m_X5_has_14 (M : fp_Mem) (p1 : Int32) (s0 : Int32) : Option (Int32) :=
  fp_gd (fp_zb s0) <|
  some s0
def m_X5_has_13 (M : fp_Mem) (p1 : Int32) : Option (Int32) :=
  m_X5_has_14 M p1 (nI 0)
def m_X5_has (M : fp_Mem) (p1 : Int32) : Option (Int32) :=
  if p1 < 0 then
    m_X5_has_13 M p1
  else
    if (nI 2) ≤ p1 then
      m_X5_has_13 M p1
    else
      m_X5_has_14 M p1 (nI 1)
def m_X5_forget_2  : Nat → Int32 → fp_Mem → Option (fp_Mem)
  | 0, _, _ => none
  | n + 1, v1, M =>
    if (nI 2) ≤ v1 then
      some M
    else
      fp_gd (fp_in v1 2) <|
      fp_lt (fp_set M 113 (Int32.toNatClampNeg v1) (vp_nar .boolean (nI 0))) fun M_2 =>
      fp_lt (v1 + (nI 1)) fun x_3 =>
      m_X5_forget_2  n x_3 M_2
def m_X5_forget (M : fp_Mem) : Option (fp_Mem) :=
  m_X5_forget_2 fp_fu (nI 0) M
def m_X5_take_35 (k2 : Nat) (p1 : Int32) (M : fp_Mem) : Option (fp_Mem) :=
  some M
def m_X5_take (M : fp_Mem) (k2 : Nat) (p1 : Int32) : Option (fp_Mem) :=
  fp_b1 (m_X5_has M p1) fun r_1 =>
  if r_1 = 0 then
    m_X5_take_35 k2 p1 M
  else
    fp_gd (fp_in p1 2) <|
    fp_b1 (m_X9_becomes M (114 + 3 * Int32.toNatClampNeg p1) k2) fun M_4 =>
    fp_gd (fp_in p1 2) <|
    fp_lt (fp_set M_4 112 (Int32.toNatClampNeg p1) (M_4 47 0)) fun M_7 =>
    fp_gd (fp_in p1 2) <|
    fp_lt (fp_set M_7 113 (Int32.toNatClampNeg p1) (vp_nar .boolean (nI 1))) fun M_9 =>
    m_X5_take_35 k2 p1 M_9
def m_X5_give_17 (k2 : Nat) (p1 : Int32) (M : fp_Mem) : Option (Int32 × fp_Mem) :=
  some ((nI 0), M)
def m_X5_give (M : fp_Mem) (k2 : Nat) (p1 : Int32) : Option (Int32 × fp_Mem) :=
  fp_b1 (m_X5_has M p1) fun r_1 =>
  if r_1 = 0 then
    m_X5_give_17 k2 p1 M
  else
    fp_gd (fp_in p1 2) <|
    if (M 113 (Int32.toNatClampNeg p1)) = 0 then
      m_X5_give_17 k2 p1 M
    else
      fp_gd (fp_in p1 2) <|
      fp_b1 (m_X9_becomes M k2 (114 + 3 * Int32.toNatClampNeg p1)) fun M_5 =>
      fp_gd (fp_in p1 2) <|
      fp_lt (fp_set M_5 47 0 (M_5 112 (Int32.toNatClampNeg p1))) fun M_8 =>
      some ((nI 1), M_8)
-- X6
def m_X6_add_17 (p1 : Int32) (M : fp_Mem) : Option (Int32 × fp_Mem) :=
  some ((nI 0), M)
def m_X6_add (M : fp_Mem) (p1 : Int32) : Option (Int32 × fp_Mem) :=
  if (M 1 2) < 0 then
    m_X6_add_17 p1 M
  else
    if (M 1 2) < (nI 240) then
      fp_gd (fp_in (M 1 2) 240) <|
      fp_lt (fp_set M 7 (Int32.toNatClampNeg (M 1 2)) (vp_nar .char ((Int32.toUInt32 p1 % 65536).toInt32))) fun M_2 =>
      fp_lt (fp_set M_2 1 2 ((M_2 1 2) + (nI 1))) fun M_3 =>
      some ((nI 1), M_3)
    else
      m_X6_add_17 p1 M
def m_X6_letterHere_41 (M : fp_Mem) (s0 : Int32) : Option (Int32) :=
  some s0
def m_X6_letterHere_40 (M : fp_Mem) : Option (Int32) :=
  m_X6_letterHere_41 M (-1 : Int32)
def m_X6_letterHere (M : fp_Mem) : Option (Int32) :=
  if (M 1 3) < 0 then
    m_X6_letterHere_40 M
  else
    if (M 1 2) ≤ (M 1 3) then
      m_X6_letterHere_40 M
    else
      if (nI 240) ≤ (M 1 3) then
        m_X6_letterHere_40 M
      else
        fp_gd (fp_in (M 1 3) 240) <|
        m_X6_letterHere_41 M (M 7 (Int32.toNatClampNeg (M 1 3)))
def m_X6_skipBlanks_33  (M : fp_Mem) : Option (fp_Mem) :=
  some M
def m_X6_skipBlanks_0  : Nat → fp_Mem → Option (fp_Mem)
  | 0, _ => none
  | n + 1, M =>
    if (M 1 2) ≤ (M 1 3) then
      m_X6_skipBlanks_33 M
    else
      fp_b1 (m_X6_letterHere M) fun r_1 =>
      if r_1 = (nI 32) then
        fp_lt (fp_set M 1 3 ((M 1 3) + (nI 1))) fun M_3 =>
        m_X6_skipBlanks_0  n M_3
      else
        m_X6_skipBlanks_33 M
def m_X6_skipBlanks (M : fp_Mem) : Option (fp_Mem) := m_X6_skipBlanks_0 fp_fu M
def m_X6_faultOfLater_21 (M : fp_Mem) (p1 : Int32) (s0 : Int32) : Option (Int32) :=
  some s0
def m_X6_faultOfLater (M : fp_Mem) (p1 : Int32) : Option (Int32) :=
  if (M 2 0) = 0 then
    some (nI 1)
  else
    if p1 = 0 then
      m_X6_faultOfLater_21 M p1 (nI 0)
    else
      m_X6_faultOfLater_21 M p1 (nI 3)
def m_X6_faultOfWord_51 (M : fp_Mem) (p1 : Int32) (s0 : Int32) : Option (Int32) :=
  some s0
def m_X6_faultOfWord_70 (M : fp_Mem) (p1 : Int32) (s1 : Int32) : Option (Int32) :=
  fp_b1 (m_X6_faultOfLater M s1) fun r_1 =>
  some r_1
def m_X6_faultOfWord_92 (M : fp_Mem) (p1 : Int32) (s1 : Int32) : Option (Int32) :=
  fp_b1 (m_X6_faultOfLater M s1) fun r_3 =>
  some r_3
def m_X6_faultOfWord (M : fp_Mem) (p1 : Int32) : Option (Int32) :=
  if p1 = (nI 114) then
    if (M 2 0) = 0 then
      m_X6_faultOfWord_51 M p1 (nI 0)
    else
      m_X6_faultOfWord_51 M p1 (nI 3)
  else
  if p1 = (nI 116) then
    if (M 2 3) < (nI 9) then
      m_X6_faultOfWord_70 M p1 (nI 0)
    else
      m_X6_faultOfWord_70 M p1 (nI 1)
  else
  if p1 = (nI 119) then
    if (M 2 4) < (nI 14) then
      m_X6_faultOfWord_92 M p1 (nI 0)
    else
      m_X6_faultOfWord_92 M p1 (nI 1)
  else
  some (nI 1)
def m_X6_fails_17 (p1 : Int32) (p2 : Int32) (M : fp_Mem) : Option (fp_Mem) :=
  some M
def m_X6_fails (M : fp_Mem) (p1 : Int32) (p2 : Int32) : Option (fp_Mem) :=
  if (M 1 5) = 0 then
    fp_lt (fp_set M 1 5 p1) fun M_1 =>
    fp_lt (fp_set M_1 1 6 p2) fun M_2 =>
    m_X6_fails_17 p1 p2 M_2
  else
    m_X6_fails_17 p1 p2 M
def m_X6_isFigure_17 (M : fp_Mem) (p0 : Int32) (s0 : Int32) : Option (Int32) :=
  fp_gd (fp_zb s0) <|
  some s0
def m_X6_isFigure_16 (M : fp_Mem) (p0 : Int32) : Option (Int32) :=
  m_X6_isFigure_17 M p0 (nI 0)
def m_X6_isFigure (M : fp_Mem) (p0 : Int32) : Option (Int32) :=
  if p0 < (nI 48) then
    m_X6_isFigure_16 M p0
  else
    if (nI 57) < p0 then
      m_X6_isFigure_16 M p0
    else
      m_X6_isFigure_17 M p0 (nI 1)
def m_X6_number_123 (p1 : Int32) (p2 : Int32) (v3 : Int32) (M : fp_Mem) : Option (Int32 × fp_Mem) :=
  some (v3, M)
def m_X6_number_114 (p1 : Int32) (p2 : Int32) (v3 : Int32) (M : fp_Mem) : Option (Int32 × fp_Mem) :=
  fp_b1 (m_X6_fails M (nI 2) (M 1 4)) fun M_1 =>
  m_X6_number_123 p1 p2 v3 M_1
def m_X6_number_98 (p1 : Int32) (p2 : Int32) (v3 : Int32) (v4 : Int32) (M : fp_Mem) : Option (Int32 × fp_Mem) :=
  if (nI 3) < v4 then
    m_X6_number_114 p1 p2 v3 M
  else
    if v3 < p1 then
      m_X6_number_114 p1 p2 v3 M
    else
      if v3 ≤ p2 then
        m_X6_number_123 p1 p2 v3 M
      else
        m_X6_number_114 p1 p2 v3 M
def m_X6_number_84 (p1 : Int32) (p2 : Int32) (K38 : Int32 → Int32 → fp_Mem → Option (Int32 × fp_Mem)) (v4 : Int32) (s0 : Int32) (M : fp_Mem) : Option (Int32 × fp_Mem) :=
  fp_lt (fp_set M 1 3 ((M 1 3) + (nI 1))) fun M_3 =>
  K38 s0 v4 M_3
def m_X6_number_38 (p1 : Int32) (p2 : Int32) : Nat → Int32 → Int32 → fp_Mem → Option (Int32 × fp_Mem)
  | 0, _, _, _ => none
  | n + 1, v3, v4, M =>
    if (M 1 2) ≤ (M 1 3) then
      m_X6_number_98 p1 p2 v3 v4 M
    else
      fp_b1 (m_X6_letterHere M) fun r_4 =>
      fp_b1 (m_X6_isFigure M r_4) fun r_6 =>
      if r_6 = 0 then
        m_X6_number_98 p1 p2 v3 v4 M
      else
        fp_lt (v4 + (nI 1)) fun x_8 =>
        if x_8 ≤ (nI 3) then
          fp_b1 (m_X6_letterHere M) fun r_9 =>
          m_X6_number_84 p1 p2 (m_X6_number_38 p1 p2 n) x_8 ((v3 * (nI 10)) + (r_9 - (nI 48))) M
        else
          m_X6_number_84 p1 p2 (m_X6_number_38 p1 p2 n) x_8 (nI 0) M
def m_X6_number (M : fp_Mem) (p1 : Int32) (p2 : Int32) : Option (Int32 × fp_Mem) :=
  fp_b1 (m_X6_skipBlanks M) fun M_11 =>
  fp_lt (fp_set M_11 1 4 (M_11 1 3)) fun M_13 =>
  fp_b1 (m_X6_letterHere M_13) fun r_14 =>
  fp_b1 (m_X6_isFigure M_13 r_14) fun r_16 =>
  if r_16 = 0 then
    fp_b1 (m_X6_fails M_13 (nI 1) (M_13 1 3)) fun M_18 =>
    some (p1, M_18)
  else
    m_X6_number_38 p1 p2 fp_fu (nI 0) (nI 0) M_13
def m_X6_readFineAndWood (M : fp_Mem) : Option (fp_Mem) :=
  fp_lt (fp_set M 2 0 (nI 1)) fun M_1 =>
  fp_b2 (m_X6_number M_1 (nI 0) (nI 99)) fun r_2 M_3 =>
  fp_lt (fp_set M_3 2 1 r_2) fun M_5 =>
  fp_b2 (m_X6_number M_5 (nI 0) (nI 99)) fun r_6 M_7 =>
  fp_lt (fp_set M_7 2 2 r_6) fun M_9 =>
  some M_9
def m_X6_readTable_31  (M : fp_Mem) : Option (fp_Mem) :=
  some M
def m_X6_readTable (M : fp_Mem) : Option (fp_Mem) :=
  fp_b2 (m_X6_number M (nI 1) (nI 12)) fun r_1 M_2 =>
  fp_b2 (m_X6_number M_2 (nI 0) r_1) fun r_4 M_5 =>
  if (M_5 1 5) = 0 then
    fp_b1 (m_X7_addTable M_5 2 r_1 r_4) fun M_7 =>
    m_X6_readTable_31 M_7
  else
    m_X6_readTable_31 M_5
def m_X6_readWay_79  (M : fp_Mem) : Option (fp_Mem) :=
  some M
def m_X6_readWay_63  (v1 : Int32) (v2 : Int32) (M : fp_Mem) : Option (fp_Mem) :=
  if (M 1 5) = 0 then
    fp_b1 (m_X7_addWay M 2 v1 v2) fun M_1 =>
    m_X6_readWay_79 M_1
  else
    m_X6_readWay_79 M
def m_X6_readWay_54  (v1 : Int32) (v2 : Int32) (M : fp_Mem) : Option (fp_Mem) :=
  fp_b1 (m_X6_fails M (nI 4) (M 1 4)) fun M_3 =>
  m_X6_readWay_63 v1 v2 M_3
def m_X6_readWay (M : fp_Mem) : Option (fp_Mem) :=
  fp_b2 (m_X6_number M (nI 0) ((M 2 3) - (nI 1))) fun r_5 M_6 =>
  fp_b2 (m_X6_number M_6 (nI 0) ((M_6 2 3) - (nI 1))) fun r_8 M_9 =>
  if (M_9 1 5) = 0 then
    if r_5 = r_8 then
      m_X6_readWay_54 r_5 r_8 M_9
    else
      fp_b1 (m_X7_joins M_9 2 r_5 r_8) fun r_11 =>
      if r_11 = 0 then
        m_X6_readWay_63 r_5 r_8 M_9
      else
        m_X6_readWay_54 r_5 r_8 M_9
  else
    m_X6_readWay_63 r_5 r_8 M_9
def m_X6_readEnd_22  (M : fp_Mem) : Option (fp_Mem) :=
  fp_lt (fp_set M 1 3 ((M 1 3) + (nI 1))) fun M_1 =>
  some M_1
def m_X6_readEnd (M : fp_Mem) : Option (fp_Mem) :=
  fp_b1 (m_X6_skipBlanks M) fun M_2 =>
  fp_b1 (m_X6_letterHere M_2) fun r_4 =>
  if r_4 = (nI 59) then
    m_X6_readEnd_22 M_2
  else
    fp_b1 (m_X6_fails M_2 (nI 1) (M_2 1 3)) fun M_6 =>
    m_X6_readEnd_22 M_6
def m_X6_readClause_65  (M : fp_Mem) : Option (fp_Mem) :=
  fp_b1 (m_X6_readEnd M) fun M_1 =>
  some M_1
def m_X6_readClause (M : fp_Mem) : Option (fp_Mem) :=
  fp_b1 (m_X6_letterHere M) fun r_3 =>
  fp_b1 (m_X6_faultOfWord M r_3) fun r_5 =>
  if r_5 = 0 then
    fp_lt (fp_set M 1 3 ((M 1 3) + (nI 1))) fun M_7 =>
    if r_3 = (nI 114) then
      fp_b1 (m_X6_readFineAndWood M_7) fun M_12 =>
      m_X6_readClause_65 M_12
    else
      if r_3 = (nI 116) then
        fp_b1 (m_X6_readTable M_7) fun M_10 =>
        m_X6_readClause_65 M_10
      else
        fp_b1 (m_X6_readWay M_7) fun M_8 =>
        m_X6_readClause_65 M_8
  else
    fp_b1 (m_X6_fails M r_5 (M 1 3)) fun M_14 =>
    some M_14
def m_X6_reads_85  (s0 : Int32) (M : fp_Mem) : Option (Int32 × fp_Mem) :=
  fp_gd (fp_zb s0) <|
  some (s0, M)
def m_X6_reads_68  (M : fp_Mem) : Option (Int32 × fp_Mem) :=
  fp_lt (fp_set M 1 2 (nI 0)) fun M_2 =>
  if (M_2 1 5) = 0 then
    m_X6_reads_85 (nI 1) M_2
  else
    m_X6_reads_85 (nI 0) M_2
def m_X6_reads_62 (K29 : Int32 → fp_Mem → Option (Int32 × fp_Mem)) (v1 : Int32) (M : fp_Mem) : Option (Int32 × fp_Mem) :=
  fp_lt (v1 + (nI 1)) fun x_3 =>
  K29 x_3 M
def m_X6_reads_29  : Nat → Int32 → fp_Mem → Option (Int32 × fp_Mem)
  | 0, _, _ => none
  | n + 1, v1, M =>
    if (nI 240) < v1 then
      m_X6_reads_68 M
    else
      if (M 1 5) = 0 then
        fp_b1 (m_X6_skipBlanks M) fun M_4 =>
        if (M_4 1 2) ≤ (M_4 1 3) then
          m_X6_reads_62 (m_X6_reads_29 n) v1 M_4
        else
          fp_b1 (m_X6_readClause M_4) fun M_6 =>
          m_X6_reads_62 (m_X6_reads_29 n) v1 M_6
      else
        m_X6_reads_68 M
def m_X6_reads (M : fp_Mem) : Option (Int32 × fp_Mem) :=
  fp_lt (fp_set M 1 3 (nI 0)) fun M_8 =>
  fp_lt (fp_set M_8 1 4 (nI 0)) fun M_9 =>
  fp_lt (fp_set M_9 1 5 (nI 0)) fun M_10 =>
  fp_lt (fp_set M_10 1 6 (-1 : Int32)) fun M_11 =>
  fp_b1 (m_X7_forget M_11 2) fun M_12 =>
  m_X6_reads_29 fp_fu (nI 0) M_12
-- X11
def m_X11_feed_11 (p1 : Int32) (M : fp_Mem) : Option (Int32 × fp_Mem) :=
  some ((-1000000002 : Int32), M)
def m_X11_feed (M : fp_Mem) (p1 : Int32) : Option (Int32 × fp_Mem) :=
  if p1 < 0 then
    m_X11_feed_11 p1 M
  else
    if p1 ≤ (nI 255) then
      fp_b2 (m_X6_add M p1) fun r_1 M_2 =>
      if r_1 = 0 then
        some ((-1000000004 : Int32), M_2)
      else
        some ((M_2 1 2), M_2)
    else
      m_X11_feed_11 p1 M
def m_X11_realm (M : fp_Mem) : Option (Int32 × fp_Mem) :=
  fp_b2 (m_X6_reads M) fun r_1 M_2 =>
  if r_1 = 0 then
    some (((-10 : Int32) - (M_2 1 5)), M_2)
  else
    fp_b1 (m_X7_becomes M_2 8 2) fun M_4 =>
    fp_b1 (m_X9_begins M_4 13 8) fun M_6 =>
    fp_b1 (m_X8_forget M_6) fun M_8 =>
    fp_b1 (m_X1_forget M_8) fun M_10 =>
    fp_b1 (m_X4_forget M_10) fun M_12 =>
    fp_b1 (m_X5_forget M_12) fun M_14 =>
    some ((M_14 8 3), M_14)
def m_X11_fault (M : fp_Mem) : Option (Int32) :=
  some (M 1 6)
def m_X11_emergencyNow (M : fp_Mem) : Option (Int32 × fp_Mem) :=
  fp_b1 (m_X2_measure M 16 8 13) fun M_1 =>
  fp_b1 (m_X2_withoutChain M_1 16) fun r_3 =>
  some (r_3, M_1)
def m_X11_told (M : fp_Mem) (p1 : Int32) : Option (Int32 × fp_Mem) :=
  if p1 = (nI 0) then
    some ((M 8 1), M)
  else
  if p1 = (nI 1) then
    some ((M 13 2), M)
  else
  if p1 = (nI 2) then
    some ((M 8 3), M)
  else
  if p1 = (nI 3) then
    some ((M 8 4), M)
  else
  if p1 = (nI 4) then
    some ((M 1 2), M)
  else
  if p1 = (nI 5) then
    fp_b1 (m_X9_sitting M 13) fun r_1 =>
    some (r_1, M)
  else
  if p1 = (nI 6) then
    some ((M 13 4), M)
  else
  if p1 = (nI 7) then
    some ((M 13 5), M)
  else
  if p1 = (nI 8) then
    some ((M 13 6), M)
  else
  if p1 = (nI 9) then
    some ((M 13 7), M)
  else
  if p1 = (nI 10) then
    some ((M 13 8), M)
  else
  if p1 = (nI 11) then
    fp_b1 (m_X9_withFreeBelow M 13 (nI 1) (M 8 3)) fun r_3 =>
    some (r_3, M)
  else
  if p1 = (nI 12) then
    fp_b2 (m_X11_emergencyNow M) fun r_5 M_6 =>
    some (r_5, M_6)
  else
  if p1 = (nI 13) then
    some ((M 13 3), M)
  else
  if p1 = (nI 14) then
    some ((M 43 0), M)
  else
  if p1 = (nI 15) then
    some ((M 44 0), M)
  else
  if p1 = (nI 16) then
    some ((M 48 0), M)
  else
  some ((-1000000002 : Int32), M)
def m_X11_joinedNow (M : fp_Mem) (p1 : Int32) : Option (Int32 × fp_Mem) :=
  fp_b1 (m_X2_join M 16 8 (M 13 3)) fun M_1 =>
  fp_b1 (m_X2_around M_1 16 ((nI 1) <<< (p1 &&& 31))) fun r_3 =>
  some (r_3, M_1)
def m_X11_table (M : fp_Mem) (p1 : Int32) (p2 : Int32) : Option (Int32 × fp_Mem) :=
  fp_b1 (m_X7_hasTable M 8 p1) fun r_1 =>
  if r_1 = 0 then
    some ((-1000000001 : Int32), M)
  else
    if p2 = (nI 0) then
      fp_gd (fp_in p1 9) <|
      some ((M 14 (Int32.toNatClampNeg p1)), M)
    else
    if p2 = (nI 1) then
      fp_gd (fp_in p1 9) <|
      some ((M 15 (Int32.toNatClampNeg p1)), M)
    else
    if p2 = (nI 2) then
      fp_b1 (m_X9_free M 13 p1) fun r_5 =>
      some (r_5, M)
    else
    if p2 = (nI 3) then
      fp_b2 (m_X11_joinedNow M p1) fun r_7 M_8 =>
      some (r_7, M_8)
    else
    some ((-1000000002 : Int32), M)
def m_X11_way_76 (M : fp_Mem) (p1 : Int32) (p2 : Int32) (s0 : Int32) : Option (Int32) :=
  some s0
def m_X11_way (M : fp_Mem) (p1 : Int32) (p2 : Int32) : Option (Int32) :=
  fp_b1 (m_X7_hasWay M 8 p1) fun r_1 =>
  if r_1 = 0 then
    some (-1000000001 : Int32)
  else
    if p2 = (nI 0) then
      fp_gd (fp_in p1 14) <|
      some (M 11 (Int32.toNatClampNeg p1))
    else
    if p2 = (nI 1) then
      fp_gd (fp_in p1 14) <|
      some (M 12 (Int32.toNatClampNeg p1))
    else
    if p2 = (nI 2) then
      fp_b1 (m_X9_isShut M 13 p1) fun r_5 =>
      if r_5 = 0 then
        m_X11_way_76 M p1 p2 (nI 0)
      else
        m_X11_way_76 M p1 p2 (nI 1)
    else
    some (-1000000002 : Int32)
def m_X11_come (M : fp_Mem) (p1 : Int32) : Option (Int32 × fp_Mem) :=
  fp_b1 (m_X7_hasTable M 8 p1) fun r_1 =>
  if r_1 = 0 then
    some ((-1000000001 : Int32), M)
  else
    if (M 13 8) ≤ (nI 9000) then
      fp_b1 (m_X4_push M 13) fun M_3 =>
      fp_b2 (m_X0_guestComes M_3 21 8 13 p1) fun r_5 M_6 =>
      some (r_5, M_6)
    else
      some ((-1000000004 : Int32), M)
def m_X11_go (M : fp_Mem) (p1 : Int32) : Option (Int32 × fp_Mem) :=
  fp_b1 (m_X7_hasTable M 8 p1) fun r_1 =>
  if r_1 = 0 then
    some ((-1000000001 : Int32), M)
  else
    fp_gd (fp_in p1 9) <|
    if 0 < (M 15 (Int32.toNatClampNeg p1)) then
      fp_b1 (m_X4_push M 13) fun M_4 =>
      fp_gd (fp_in p1 9) <|
      fp_gd (fp_in p1 9) <|
      fp_lt (fp_set M_4 15 (Int32.toNatClampNeg p1) ((M_4 15 (Int32.toNatClampNeg p1)) - (nI 1))) fun M_8 =>
      fp_gd (fp_in p1 9) <|
      some ((M_8 15 (Int32.toNatClampNeg p1)), M_8)
    else
      some ((-1000000003 : Int32), M)
def m_X11_build_38 (p1 : Int32) (M : fp_Mem) : Option (Int32 × fp_Mem) :=
  some ((-1000000003 : Int32), M)
def m_X11_build (M : fp_Mem) (p1 : Int32) : Option (Int32 × fp_Mem) :=
  fp_b1 (m_X7_hasTable M 8 p1) fun r_1 =>
  if r_1 = 0 then
    some ((-1000000001 : Int32), M)
  else
    if (M 13 2) ≤ 0 then
      m_X11_build_38 p1 M
    else
      fp_gd (fp_in p1 9) <|
      if (M 14 (Int32.toNatClampNeg p1)) < (nI 20) then
        fp_b1 (m_X4_push M 13) fun M_4 =>
        fp_lt (fp_set M_4 13 2 ((M_4 13 2) - (nI 1))) fun M_6 =>
        fp_gd (fp_in p1 9) <|
        fp_gd (fp_in p1 9) <|
        fp_lt (fp_set M_6 14 (Int32.toNatClampNeg p1) ((M_6 14 (Int32.toNatClampNeg p1)) + (nI 1))) fun M_9 =>
        fp_gd (fp_in p1 9) <|
        some ((M_9 14 (Int32.toNatClampNeg p1)), M_9)
      else
        m_X11_build_38 p1 M
def m_X11_breakOne (M : fp_Mem) (p1 : Int32) : Option (Int32 × fp_Mem) :=
  fp_b1 (m_X7_hasTable M 8 p1) fun r_1 =>
  if r_1 = 0 then
    some ((-1000000001 : Int32), M)
  else
    fp_b1 (m_X9_free M 13 p1) fun r_3 =>
    if 0 < r_3 then
      fp_b1 (m_X4_push M 13) fun M_5 =>
      fp_gd (fp_in p1 9) <|
      fp_gd (fp_in p1 9) <|
      fp_lt (fp_set M_5 14 (Int32.toNatClampNeg p1) ((M_5 14 (Int32.toNatClampNeg p1)) - (nI 1))) fun M_9 =>
      fp_gd (fp_in p1 9) <|
      some ((M_9 14 (Int32.toNatClampNeg p1)), M_9)
    else
      some ((-1000000003 : Int32), M)
def m_X11_shut_30 (p1 : Int32) (p2 : Int32) (s0 : Int32) (M : fp_Mem) : Option (Int32 × fp_Mem) :=
  fp_b1 (m_X4_push M 13) fun M_1 =>
  fp_b1 (m_X9_setShut M_1 13 p1 p2) fun M_3 =>
  some (s0, M_3)
def m_X11_shut (M : fp_Mem) (p1 : Int32) (p2 : Int32) : Option (Int32 × fp_Mem) :=
  fp_b1 (m_X7_hasWay M 8 p1) fun r_5 =>
  if r_5 = 0 then
    some ((-1000000001 : Int32), M)
  else
    fp_b1 (m_X9_isShut M 13 p1) fun r_7 =>
    if r_7 = 0 then
      m_X11_shut_30 p1 p2 (nI 0) M
    else
      m_X11_shut_30 p1 p2 (nI 1) M
def m_X11_drift_11 (p1 : Int32) (M : fp_Mem) : Option (Int32 × fp_Mem) :=
  some ((-1000000002 : Int32), M)
def m_X11_drift (M : fp_Mem) (p1 : Int32) : Option (Int32 × fp_Mem) :=
  if p1 < (nI 1) then
    m_X11_drift_11 p1 M
  else
    if p1 ≤ (nI 60) then
      if (M 8 0) = 0 then
        some ((-1000000003 : Int32), M)
      else
        if (M 13 8) ≤ (nI 9000) then
          fp_b1 (m_X4_push M 13) fun M_1 =>
          fp_b1 (m_X0_drifts M_1 21 8 13 p1) fun M_3 =>
          fp_b1 (m_X9_sitting M_3 13) fun r_5 =>
          some (r_5, M_3)
        else
          some ((-1000000004 : Int32), M)
    else
      m_X11_drift_11 p1 M
def m_X11_undo (M : fp_Mem) : Option (Int32 × fp_Mem) :=
  fp_b2 (m_X4_pop M 13) fun r_1 M_2 =>
  if r_1 = 0 then
    some ((-1000000003 : Int32), M_2)
  else
    some ((M_2 48 0), M_2)
def m_X11_chain_54 (p1 : Int32) (p2 : Int32) (s0 : Int32) (M : fp_Mem) : Option (Int32 × fp_Mem) :=
  some (s0, M)
def m_X11_chain (M : fp_Mem) (p1 : Int32) (p2 : Int32) : Option (Int32 × fp_Mem) :=
  fp_b1 (m_X7_hasTable M 8 p1) fun r_1 =>
  if r_1 = 0 then
    some ((-1000000001 : Int32), M)
  else
    fp_b1 (m_X2_measure M 16 8 13) fun M_3 =>
    if p2 = (-1 : Int32) then
      fp_b1 (m_X2_movesFrom M_3 16 p1) fun r_7 =>
      m_X11_chain_54 p1 p2 r_7 M_3
    else
      fp_b1 (m_X2_tableOf M_3 16 p1 p2) fun r_5 =>
      m_X11_chain_54 p1 p2 r_5 M_3
def m_X11_more (M : fp_Mem) (p1 : Int32) : Option (Int32 × fp_Mem) :=
  fp_b1 (m_X7_hasTable M 8 p1) fun r_1 =>
  if r_1 = 0 then
    some ((-1000000001 : Int32), M)
  else
    fp_b2 (m_X10_moreGuests M 8 13 p1) fun r_3 M_4 =>
    some (r_3, M_4)
def m_X11_far_9 (p1 : Int32) (M : fp_Mem) : Option (Int32 × fp_Mem) :=
  some ((-1000000002 : Int32), M)
def m_X11_far_51 (p1 : Int32) (s0 : Int32) (M : fp_Mem) : Option (Int32 × fp_Mem) :=
  some (s0, M)
def m_X11_far (M : fp_Mem) (p1 : Int32) : Option (Int32 × fp_Mem) :=
  if p1 < 0 then
    m_X11_far_9 p1 M
  else
    if p1 ≤ (nI 1) then
      fp_b1 (m_X2_measure M 16 8 13) fun M_1 =>
      fp_b1 (m_X2_farthest M_1 16) fun r_3 =>
      if p1 = 0 then
        fp_b1 (m_X2_movesFrom M_1 16 r_3) fun r_5 =>
        m_X11_far_51 p1 r_5 M_1
      else
        m_X11_far_51 p1 r_3 M_1
    else
      m_X11_far_9 p1 M
def m_X11_two_22 (p1 : Int32) (p2 : Int32) (p3 : Int32) (M : fp_Mem) : Option (Int32 × fp_Mem) :=
  some ((-1000000001 : Int32), M)
def m_X11_two_34 (p1 : Int32) (p2 : Int32) (p3 : Int32) (M : fp_Mem) : Option (Int32 × fp_Mem) :=
  some ((-1000000002 : Int32), M)
def m_X11_two_91 (p1 : Int32) (p2 : Int32) (p3 : Int32) (s0 : Int32) (M : fp_Mem) : Option (Int32 × fp_Mem) :=
  some (s0, M)
def m_X11_two (M : fp_Mem) (p1 : Int32) (p2 : Int32) (p3 : Int32) : Option (Int32 × fp_Mem) :=
  fp_b1 (m_X7_hasTable M 8 p1) fun r_1 =>
  if r_1 = 0 then
    m_X11_two_22 p1 p2 p3 M
  else
    fp_b1 (m_X7_hasTable M 8 p2) fun r_3 =>
    if r_3 = 0 then
      m_X11_two_22 p1 p2 p3 M
    else
      if p3 < 0 then
        m_X11_two_34 p1 p2 p3 M
      else
        if p3 ≤ (nI 1) then
          fp_b2 (m_X10_movesOfTwo M 8 13 p1 p2) fun r_5 M_6 =>
          fp_b2 (m_X10_movesOfTwo M_6 8 13 p2 p1) fun r_8 M_9 =>
          if p3 = 0 then
            if r_5 ≤ r_8 then
              m_X11_two_91 p1 p2 p3 (nI 0) M_9
            else
              m_X11_two_91 p1 p2 p3 (nI 1) M_9
          else
            some ((if r_8 < r_5 then r_8 else r_5), M_9)
        else
          m_X11_two_34 p1 p2 p3 M
def m_X11_chairs_27 (p1 : Int32) (p2 : Int32) (p3 : Int32) (M : fp_Mem) : Option (Int32 × fp_Mem) :=
  some ((-1000000001 : Int32), M)
def m_X11_chairs_40 (p1 : Int32) (p2 : Int32) (p3 : Int32) (M : fp_Mem) : Option (Int32 × fp_Mem) :=
  some ((-1000000002 : Int32), M)
def m_X11_chairs_100 (p1 : Int32) (p2 : Int32) (p3 : Int32) (s0 : Int32) (M : fp_Mem) : Option (Int32 × fp_Mem) :=
  some (s0, M)
def m_X11_chairs_30 (p1 : Int32) (p2 : Int32) (p3 : Int32) (M : fp_Mem) : Option (Int32 × fp_Mem) :=
  if p2 < 0 then
    m_X11_chairs_40 p1 p2 p3 M
  else
    if p2 ≤ (nI 8) then
      fp_b2 (m_X10_opened M 8 13 p1 p2) fun r_1 M_2 =>
      if r_1 = (-1 : Int32) then
        some ((-1 : Int32), M_2)
      else
        if p3 = (-1 : Int32) then
          fp_b1 (m_X9_chairsFor M_2 13 r_1) fun r_6 =>
          m_X11_chairs_100 p1 p2 p3 r_6 M_2
        else
          fp_b1 (m_X9_chairsFor M_2 13 (r_1 &&& ((nI 1) <<< (p3 &&& 31)))) fun r_4 =>
          m_X11_chairs_100 p1 p2 p3 r_4 M_2
    else
      m_X11_chairs_40 p1 p2 p3 M
def m_X11_chairs (M : fp_Mem) (p1 : Int32) (p2 : Int32) (p3 : Int32) : Option (Int32 × fp_Mem) :=
  fp_b1 (m_X7_hasAll M 8 p1) fun r_8 =>
  if r_8 = 0 then
    m_X11_chairs_27 p1 p2 p3 M
  else
    if p3 = (-1 : Int32) then
      m_X11_chairs_30 p1 p2 p3 M
    else
      fp_b1 (m_X7_hasTable M 8 p3) fun r_10 =>
      if r_10 = 0 then
        m_X11_chairs_27 p1 p2 p3 M
      else
        m_X11_chairs_30 p1 p2 p3 M
def m_X11_spread (M : fp_Mem) (p1 : Int32) : Option (Int32 × fp_Mem) :=
  fp_b1 (m_X7_hasTable M 8 p1) fun r_1 =>
  if r_1 = 0 then
    some ((-1000000001 : Int32), M)
  else
    fp_b2 (m_X10_leastFree M 8 13 p1) fun r_3 M_4 =>
    some (r_3, M_4)
def m_X11_quiet_20 (M : fp_Mem) (p1 : Int32) (p2 : Int32) : Option (Int32) :=
  some (-1000000002 : Int32)
def m_X11_quiet_30 (M : fp_Mem) (p1 : Int32) (p2 : Int32) : Nat → Int64 → Int32 → Option (Int32)
  | 0, _, _ => none
  | n + 1, v3, v5 =>
    if p1 ≤ v5 then
      some (Int64.toInt32 v3)
    else
      fp_lt ((v3 * (Int32.toInt64 ((nI 100) - p2))) / (lN 100)) fun x_1 =>
      fp_lt (v5 + (nI 1)) fun x_2 =>
      m_X11_quiet_30 M p1 p2 n x_1 x_2
def m_X11_quiet (M : fp_Mem) (p1 : Int32) (p2 : Int32) : Option (Int32) :=
  if p1 < 0 then
    m_X11_quiet_20 M p1 p2
  else
    if (nI 60) < p1 then
      m_X11_quiet_20 M p1 p2
    else
      if p2 < 0 then
        m_X11_quiet_20 M p1 p2
      else
        if p2 ≤ (nI 100) then
          m_X11_quiet_30 M p1 p2 fp_fu (lN 1000000000) (nI 0)
        else
          m_X11_quiet_20 M p1 p2
def m_X11_see (M : fp_Mem) (p1 : Int32) (p2 : Int32) : Option (Int32 × fp_Mem) :=
  fp_b1 (m_X7_hasTable M 8 p1) fun r_1 =>
  if r_1 = 0 then
    some ((-1000000001 : Int32), M)
  else
    if (M 43 0) < (nI 6) then
      fp_b1 (m_X8_add M p1 p2) fun M_3 =>
      some ((M_3 43 0), M_3)
    else
      some ((-1000000004 : Int32), M)
def m_X11_came (M : fp_Mem) : Option (Int32 × fp_Mem) :=
  fp_b1 (m_X2_measure M 16 8 13) fun M_1 =>
  fp_b1 (m_X8_fitting M_1 16) fun r_3 =>
  some (r_3, M_1)
def m_X11_look (M : fp_Mem) : Option (Int32 × fp_Mem) :=
  fp_b1 (m_X2_measure M 16 8 13) fun M_1 =>
  fp_b1 (m_X8_best M_1 16) fun r_3 =>
  some (r_3, M_1)
def m_X11_write_24 (p1 : Int32) (p2 : Int32) (M : fp_Mem) : Option (Int32 × fp_Mem) :=
  some ((-1000000002 : Int32), M)
def m_X11_write (M : fp_Mem) (p1 : Int32) (p2 : Int32) : Option (Int32 × fp_Mem) :=
  fp_b1 (m_X7_hasTable M 8 p1) fun r_1 =>
  if r_1 = 0 then
    some ((-1000000001 : Int32), M)
  else
    if p2 < 0 then
      m_X11_write_24 p1 p2 M
    else
      if p2 ≤ (nI 20) then
        fp_b2 (m_X1_add M p1 p2) fun r_3 M_4 =>
        if r_3 = 0 then
          some ((-1000000004 : Int32), M_4)
        else
          some ((M_4 44 0), M_4)
      else
        m_X11_write_24 p1 p2 M
def m_X11_tear (M : fp_Mem) : Option (Int32 × fp_Mem) :=
  fp_lt ((M 43 0) + (M 44 0)) fun x_1 =>
  fp_b1 (m_X8_forget M) fun M_2 =>
  fp_b1 (m_X1_forget M_2) fun M_4 =>
  some (x_1, M_4)
def m_X11_judge (M : fp_Mem) : Option (Int32) :=
  fp_b1 (m_X1_firstWrong M 13) fun r_1 =>
  some r_1
def m_X11_seed (M : fp_Mem) (p1 : Int32) : Option (Int32 × fp_Mem) :=
  if 0 ≤ p1 then
    fp_lt (M 47 0) fun x_1 =>
    fp_lt (fp_set M 47 0 p1) fun M_2 =>
    some (x_1, M_2)
  else
    some ((-1000000002 : Int32), M)
def m_X11_keep (M : fp_Mem) (p1 : Int32) : Option (Int32 × fp_Mem) :=
  fp_b1 (m_X5_has M p1) fun r_1 =>
  if r_1 = 0 then
    some ((-1000000001 : Int32), M)
  else
    fp_b1 (m_X5_take M 13 p1) fun M_3 =>
    fp_b1 (m_X4_forget M_3) fun M_5 =>
    some ((nI 1), M_5)
def m_X11_goBack (M : fp_Mem) (p1 : Int32) : Option (Int32 × fp_Mem) :=
  fp_b1 (m_X5_has M p1) fun r_1 =>
  if r_1 = 0 then
    some ((-1000000001 : Int32), M)
  else
    fp_b2 (m_X5_give M 13 p1) fun r_3 M_4 =>
    if r_3 = 0 then
      some ((-1000000003 : Int32), M_4)
    else
      fp_b1 (m_X4_forget M_4) fun M_6 =>
      some ((nI 1), M_6)
-- X12
def m_X12_in_18 (M : fp_Mem) (p0 : Int64) (p2 : Int64) (p4 : Int64) (s0 : Int32) : Option (Int32) :=
  fp_gd (fp_zb s0) <|
  some s0
def m_X12_in_17 (M : fp_Mem) (p0 : Int64) (p2 : Int64) (p4 : Int64) : Option (Int32) :=
  m_X12_in_18 M p0 p2 p4 (nI 0)
def m_X12_in (M : fp_Mem) (p0 : Int64) (p2 : Int64) (p4 : Int64) : Option (Int32) :=
  if (lg_cmp p0 p2) < 0 then
    m_X12_in_17 M p0 p2 p4
  else
    if 0 < (lg_cmp p0 p4) then
      m_X12_in_17 M p0 p2 p4
    else
      m_X12_in_18 M p0 p2 p4 (nI 1)
def m_X12_has_14 (M : fp_Mem) (p0 : Int32) (p1 : Int32) (s0 : Int32) : Option (Int32) :=
  fp_gd (fp_zb s0) <|
  some s0
def m_X12_has (M : fp_Mem) (p0 : Int32) (p1 : Int32) : Option (Int32) :=
  if ((p0 >>> (p1 &&& 31)) &&& (nI 1)) = (nI 1) then
    m_X12_has_14 M p0 p1 (nI 1)
  else
    m_X12_has_14 M p0 p1 (nI 0)
def m_X12_bits_4 (M : fp_Mem) (p0 : Int32) : Nat → Int32 → Int32 → Option (Int32)
  | 0, _, _ => none
  | n + 1, v1, v2 =>
    if (nI 9) ≤ v2 then
      some v1
    else
      fp_lt (v1 + ((p0 >>> (v2 &&& 31)) &&& (nI 1))) fun x_1 =>
      fp_lt (v2 + (nI 1)) fun x_2 =>
      m_X12_bits_4 M p0 n x_1 x_2
def m_X12_bits (M : fp_Mem) (p0 : Int32) : Option (Int32) :=
  m_X12_bits_4 M p0 fp_fu (nI 0) (nI 0)
def m_X12_isTable (M : fp_Mem) (p1 : Int32) : Option (Int32) :=
  fp_b1 (m_X12_in M (Int32.toInt64 p1) (lN 0) (Int32.toInt64 ((M 120 1) - (nI 1)))) fun r_1 =>
  fp_gd (fp_zb r_1) <|
  some r_1
def m_X12_feed (M : fp_Mem) (p1 : Int32) : Option (Int32 × fp_Mem) :=
  fp_b1 (m_X12_in M (Int32.toInt64 p1) (lN 0) (lN 255)) fun r_1 =>
  if r_1 = 0 then
    some ((-1000000002 : Int32), M)
  else
    if (M 120 9) = (nI 240) then
      some ((-1000000004 : Int32), M)
    else
      fp_gd (fp_in (M 120 9) 240) <|
      fp_lt (fp_set M 124 (Int32.toNatClampNeg (M 120 9)) p1) fun M_4 =>
      fp_lt (fp_set M_4 120 9 ((M_4 120 9) + (nI 1))) fun M_5 =>
      some ((M_5 120 9), M_5)
def m_X12_here_62  (s0 : Int32) (M : fp_Mem) : Option (Int32 × fp_Mem) :=
  some (s0, M)
def m_X12_here_38  (M : fp_Mem) : Option (Int32 × fp_Mem) :=
  if (M 120 9) ≤ (M 120 11) then
    m_X12_here_62 (-1 : Int32) M
  else
    fp_gd (fp_in (M 120 11) 240) <|
    m_X12_here_62 (M 124 (Int32.toNatClampNeg (M 120 11))) M
def m_X12_here_0  : Nat → fp_Mem → Option (Int32 × fp_Mem)
  | 0, _ => none
  | n + 1, M =>
    if (M 120 9) ≤ (M 120 11) then
      m_X12_here_38 M
    else
      fp_gd (fp_in (M 120 11) 240) <|
      if (M 124 (Int32.toNatClampNeg (M 120 11))) = (nI 32) then
        fp_lt (fp_set M 120 11 ((M 120 11) + (nI 1))) fun M_3 =>
        m_X12_here_0  n M_3
      else
        m_X12_here_38 M
def m_X12_here (M : fp_Mem) : Option (Int32 × fp_Mem) := m_X12_here_0 fp_fu M
def m_X12_fails (M : fp_Mem) (p1 : Int32) (p2 : Int32) : Option (Int32 × fp_Mem) :=
  fp_lt (fp_set M 120 10 p2) fun M_1 =>
  some (p1, M_1)
def m_X12_takeNumber_170 (p1 : Int32) (p2 : Int32) (s0 : Int32) (M : fp_Mem) : Option (Int32 × fp_Mem) :=
  some (s0, M)
def m_X12_takeNumber_157 (p1 : Int32) (p2 : Int32) (M : fp_Mem) : Option (Int32 × fp_Mem) :=
  fp_b2 (m_X12_fails M (nI 2) (M 120 13)) fun r_1 M_2 =>
  m_X12_takeNumber_170 p1 p2 r_1 M_2
def m_X12_takeNumber_129 (p1 : Int32) (p2 : Int32) (M : fp_Mem) : Option (Int32 × fp_Mem) :=
  if (nI 3) < ((M 120 11) - (M 120 13)) then
    m_X12_takeNumber_157 p1 p2 M
  else
    fp_b1 (m_X12_in M (Int32.toInt64 (M 120 12)) (Int32.toInt64 p1) (Int32.toInt64 p2)) fun r_4 =>
    if r_4 = 0 then
      m_X12_takeNumber_157 p1 p2 M
    else
      m_X12_takeNumber_170 p1 p2 (nI 0) M
def m_X12_takeNumber_113 (p1 : Int32) (p2 : Int32) (K42 : fp_Mem → Option (Int32 × fp_Mem)) (s1 : Int32) (M : fp_Mem) : Option (Int32 × fp_Mem) :=
  fp_lt (fp_set M 120 12 s1) fun M_6 =>
  fp_lt (fp_set M_6 120 11 ((M_6 120 11) + (nI 1))) fun M_7 =>
  K42 M_7
def m_X12_takeNumber_42 (p1 : Int32) (p2 : Int32) : Nat → fp_Mem → Option (Int32 × fp_Mem)
  | 0, _ => none
  | n + 1, M =>
    if (M 120 9) ≤ (M 120 11) then
      m_X12_takeNumber_129 p1 p2 M
    else
      fp_gd (fp_in (M 120 11) 240) <|
      fp_b1 (m_X12_in M (Int32.toInt64 (M 124 (Int32.toNatClampNeg (M 120 11)))) (lN 48) (lN 57)) fun r_9 =>
      if r_9 = 0 then
        m_X12_takeNumber_129 p1 p2 M
      else
        if (M 120 12) ≤ (nI 10000) then
          fp_gd (fp_in (M 120 11) 240) <|
          m_X12_takeNumber_113 p1 p2 (m_X12_takeNumber_42 p1 p2 n) ((((nI 10) * (M 120 12)) + (M 124 (Int32.toNatClampNeg (M 120 11)))) - (nI 48)) M
        else
          m_X12_takeNumber_113 p1 p2 (m_X12_takeNumber_42 p1 p2 n) (M 120 12) M
def m_X12_takeNumber (M : fp_Mem) (p1 : Int32) (p2 : Int32) : Option (Int32 × fp_Mem) :=
  fp_b2 (m_X12_here M) fun r_12 M_13 =>
  fp_b1 (m_X12_in M_13 (Int32.toInt64 r_12) (lN 48) (lN 57)) fun r_15 =>
  if r_15 = 0 then
    fp_b2 (m_X12_fails M_13 (nI 1) (M_13 120 11)) fun r_19 M_20 =>
    some (r_19, M_20)
  else
    fp_lt (fp_set M_13 120 13 (M_13 120 11)) fun M_17 =>
    fp_lt (fp_set M_17 120 12 (nI 0)) fun M_18 =>
    m_X12_takeNumber_42 p1 p2 fp_fu M_18
def m_X12_into (M : fp_Mem) (k1 : Nat) (n1 : Nat) (p2 : Int32) (p3 : Int32) (p4 : Int32) : Option (Int32 × fp_Mem) :=
  fp_b2 (m_X12_takeNumber M p3 p4) fun r_1 M_2 =>
  fp_gd (fp_in p2 n1) <|
  fp_lt (fp_set M_2 k1 (Int32.toNatClampNeg p2) (M_2 120 12)) fun M_5 =>
  some (r_1, M_5)
def m_X12_takeLaw_38  (s0 : Int32) (M : fp_Mem) : Option (Int32 × fp_Mem) :=
  some (s0, M)
def m_X12_takeLaw (M : fp_Mem) : Option (Int32 × fp_Mem) :=
  fp_lt (fp_set M 120 14 (nI 1)) fun M_1 =>
  fp_b2 (m_X12_into M_1 125 2 (nI 0) (nI 0) (nI 99)) fun r_2 M_3 =>
  if r_2 ≤ 0 then
    fp_b2 (m_X12_into M_3 125 2 (nI 1) (nI 0) (nI 99)) fun r_5 M_6 =>
    m_X12_takeLaw_38 r_5 M_6
  else
    m_X12_takeLaw_38 r_2 M_3
def m_X12_takeTable_52  (s0 : Int32) (M : fp_Mem) : Option (Int32 × fp_Mem) :=
  some (s0, M)
def m_X12_takeTable (M : fp_Mem) : Option (Int32 × fp_Mem) :=
  fp_lt (M 120 16) fun x_1 =>
  fp_lt (fp_set M 120 16 ((M 120 16) + (nI 1))) fun M_2 =>
  fp_b2 (m_X12_into M_2 126 9 x_1 (nI 1) (nI 12)) fun r_3 M_4 =>
  if r_3 ≤ 0 then
    fp_gd (fp_in x_1 9) <|
    fp_b2 (m_X12_into M_4 127 9 x_1 (nI 0) (M_4 126 (Int32.toNatClampNeg x_1))) fun r_7 M_8 =>
    m_X12_takeTable_52 r_7 M_8
  else
    m_X12_takeTable_52 r_3 M_4
def m_X12_isWayAlready_121 (M : fp_Mem) (p1 : Int32) (K23 : Int32 → Int32 → Option (Int32)) (v3 : Int32) (s0 : Int32) : Option (Int32) :=
  fp_lt (v3 + (nI 1)) fun x_1 =>
  K23 s0 x_1
def m_X12_isWayAlready_116 (M : fp_Mem) (p1 : Int32) (K23 : Int32 → Int32 → Option (Int32)) (v3 : Int32) : Option (Int32) :=
  m_X12_isWayAlready_121 M p1 K23 v3 (nI 1)
def m_X12_isWayAlready_100 (M : fp_Mem) (p1 : Int32) (K23 : Int32 → Int32 → Option (Int32)) (v2 : Int32) (v3 : Int32) (v4 : Int32) (s0 : Int32) : Option (Int32) :=
  if v2 = 0 then
    if v4 = 0 then
      if s0 = 0 then
        m_X12_isWayAlready_121 M p1 K23 v3 (nI 0)
      else
        m_X12_isWayAlready_116 M p1 K23 v3
    else
      m_X12_isWayAlready_116 M p1 K23 v3
  else
    m_X12_isWayAlready_116 M p1 K23 v3
def m_X12_isWayAlready_99 (M : fp_Mem) (p1 : Int32) (K23 : Int32 → Int32 → Option (Int32)) (v2 : Int32) (v3 : Int32) (v4 : Int32) : Option (Int32) :=
  m_X12_isWayAlready_100 M p1 K23 v2 v3 v4 (nI 0)
def m_X12_isWayAlready_63 (M : fp_Mem) (p1 : Int32) (K23 : Int32 → Int32 → Option (Int32)) (v2 : Int32) (v3 : Int32) (s0 : Int32) : Option (Int32) :=
  fp_gd (fp_in v3 14) <|
  fp_gd (fp_in p1 14) <|
  if (M 128 (Int32.toNatClampNeg v3)) = (M 129 (Int32.toNatClampNeg p1)) then
    fp_gd (fp_in v3 14) <|
    fp_gd (fp_in p1 14) <|
    if (M 129 (Int32.toNatClampNeg v3)) = (M 128 (Int32.toNatClampNeg p1)) then
      m_X12_isWayAlready_100 M p1 K23 v2 v3 s0 (nI 1)
    else
      m_X12_isWayAlready_99 M p1 K23 v2 v3 s0
  else
    m_X12_isWayAlready_99 M p1 K23 v2 v3 s0
def m_X12_isWayAlready_62 (M : fp_Mem) (p1 : Int32) (K23 : Int32 → Int32 → Option (Int32)) (v2 : Int32) (v3 : Int32) : Option (Int32) :=
  m_X12_isWayAlready_63 M p1 K23 v2 v3 (nI 0)
def m_X12_isWayAlready_23 (M : fp_Mem) (p1 : Int32) : Nat → Int32 → Int32 → Option (Int32)
  | 0, _, _ => none
  | n + 1, v2, v3 =>
    if p1 ≤ v3 then
      fp_gd (fp_zb v2) <|
      some v2
    else
      fp_gd (fp_in v3 14) <|
      fp_gd (fp_in p1 14) <|
      if (M 128 (Int32.toNatClampNeg v3)) = (M 128 (Int32.toNatClampNeg p1)) then
        fp_gd (fp_in v3 14) <|
        fp_gd (fp_in p1 14) <|
        if (M 129 (Int32.toNatClampNeg v3)) = (M 129 (Int32.toNatClampNeg p1)) then
          m_X12_isWayAlready_63 M p1 (m_X12_isWayAlready_23 M p1 n) v2 v3 (nI 1)
        else
          m_X12_isWayAlready_62 M p1 (m_X12_isWayAlready_23 M p1 n) v2 v3
      else
        m_X12_isWayAlready_62 M p1 (m_X12_isWayAlready_23 M p1 n) v2 v3
def m_X12_isWayAlready_20 (M : fp_Mem) (p1 : Int32) (s0 : Int32) : Option (Int32) :=
  m_X12_isWayAlready_23 M p1 fp_fu s0 (nI 0)
def m_X12_isWayAlready (M : fp_Mem) (p1 : Int32) : Option (Int32) :=
  fp_gd (fp_in p1 14) <|
  fp_gd (fp_in p1 14) <|
  if (M 128 (Int32.toNatClampNeg p1)) = (M 129 (Int32.toNatClampNeg p1)) then
    m_X12_isWayAlready_20 M p1 (nI 1)
  else
    m_X12_isWayAlready_20 M p1 (nI 0)
def m_X12_takeWay_82  (s0 : Int32) (M : fp_Mem) : Option (Int32 × fp_Mem) :=
  some (s0, M)
def m_X12_takeWay_81  (v2 : Int32) (M : fp_Mem) : Option (Int32 × fp_Mem) :=
  m_X12_takeWay_82 v2 M
def m_X12_takeWay_56  (v1 : Int32) (s0 : Int32) (M : fp_Mem) : Option (Int32 × fp_Mem) :=
  if s0 = 0 then
    fp_b1 (m_X12_isWayAlready M v1) fun r_1 =>
    if r_1 = 0 then
      m_X12_takeWay_81 s0 M
    else
      fp_b2 (m_X12_fails M (nI 4) (M 120 13)) fun r_3 M_4 =>
      m_X12_takeWay_82 r_3 M_4
  else
    m_X12_takeWay_81 s0 M
def m_X12_takeWay (M : fp_Mem) : Option (Int32 × fp_Mem) :=
  fp_lt (M 120 19) fun x_6 =>
  fp_lt (fp_set M 120 19 ((M 120 19) + (nI 1))) fun M_7 =>
  fp_b2 (m_X12_into M_7 128 14 x_6 (nI 0) ((M_7 120 16) - (nI 1))) fun r_8 M_9 =>
  if r_8 ≤ 0 then
    fp_b2 (m_X12_into M_9 129 14 x_6 (nI 0) ((M_9 120 16) - (nI 1))) fun r_11 M_12 =>
    m_X12_takeWay_56 x_6 r_11 M_12
  else
    m_X12_takeWay_56 x_6 r_8 M_9
def m_X12_takeClause_52  (M : fp_Mem) : Option (Int32 × fp_Mem) :=
  fp_b2 (m_X12_fails M (nI 1) (M 120 11)) fun r_1 M_2 =>
  some (r_1, M_2)
def m_X12_takeClause_187  (v4 : Int32) (M : fp_Mem) : Option (Int32 × fp_Mem) :=
  fp_lt (fp_set M 120 11 ((M 120 11) + (nI 1))) fun M_4 =>
  some (v4, M_4)
def m_X12_takeClause_161  (s0 : Int32) (M : fp_Mem) : Option (Int32 × fp_Mem) :=
  if s0 = 0 then
    fp_b2 (m_X12_here M) fun r_5 M_6 =>
    if r_5 = (nI 59) then
      m_X12_takeClause_187 s0 M_6
    else
      fp_b2 (m_X12_fails M_6 (nI 1) (M_6 120 11)) fun r_8 M_9 =>
      some (r_8, M_9)
  else
    m_X12_takeClause_187 s0 M
def m_X12_takeClause_109  (v2 : Int32) (s0 : Int32) (M : fp_Mem) : Option (Int32 × fp_Mem) :=
  if s0 = 0 then
    fp_lt (fp_set M 120 11 ((M 120 11) + (nI 1))) fun M_11 =>
    if v2 = 0 then
      fp_b2 (m_X12_takeLaw M_11) fun r_18 M_19 =>
      m_X12_takeClause_161 r_18 M_19
    else
      if v2 = (nI 1) then
        fp_b2 (m_X12_takeTable M_11) fun r_15 M_16 =>
        m_X12_takeClause_161 r_15 M_16
      else
        fp_b2 (m_X12_takeWay M_11) fun r_12 M_13 =>
        m_X12_takeClause_161 r_12 M_13
  else
    fp_b2 (m_X12_fails M (nI 3) (M 120 11)) fun r_21 M_22 =>
    some (r_21, M_22)
def m_X12_takeClause_62  (v2 : Int32) (M : fp_Mem) : Option (Int32 × fp_Mem) :=
  if v2 = 0 then
    m_X12_takeClause_109 v2 (M 120 14) M
  else
    if v2 = (nI 1) then
      if (M 120 16) = (nI 9) then
        m_X12_takeClause_109 v2 (nI 1) M
      else
        m_X12_takeClause_109 v2 (nI 0) M
    else
      if (M 120 19) = (nI 14) then
        m_X12_takeClause_109 v2 (nI 1) M
      else
        m_X12_takeClause_109 v2 (nI 0) M
def m_X12_takeClause_36  (s0 : Int32) (M : fp_Mem) : Option (Int32 × fp_Mem) :=
  if s0 < 0 then
    m_X12_takeClause_52 M
  else
    if s0 ≤ 0 then
      m_X12_takeClause_62 s0 M
    else
      if (M 120 14) = 0 then
        m_X12_takeClause_52 M
      else
        m_X12_takeClause_62 s0 M
def m_X12_takeClause (M : fp_Mem) : Option (Int32 × fp_Mem) :=
  fp_b2 (m_X12_here M) fun r_24 M_25 =>
  if r_24 = (nI 114) then
    m_X12_takeClause_36 (nI 0) M_25
  else
    if r_24 = (nI 116) then
      m_X12_takeClause_36 (nI 1) M_25
    else
      if r_24 = (nI 119) then
        m_X12_takeClause_36 (nI 2) M_25
      else
        m_X12_takeClause_36 (-1 : Int32) M_25
def m_X12_takeRead_172  (s1 : Int32) (s2 : Int32) (M : fp_Mem) : Option (fp_Mem) :=
  fp_gd (fp_in s1 25) <|
  fp_lt (fp_set M 123 (Int32.toNatClampNeg s1) s2) fun M_2 =>
  some M_2
def m_X12_takeRead_108  : Nat → Int32 → fp_Mem → Option (fp_Mem)
  | 0, _, _ => none
  | n + 1, v1, M =>
    if (M 120 1) ≤ v1 then
      if (M 120 14) = 0 then
        m_X12_takeRead_172 (nI 18) (nI 0) M
      else
        fp_gd (fp_in (nI 1) 2) <|
        m_X12_takeRead_172 (nI 18) (M 125 (Int32.toNatClampNeg (nI 1))) M
    else
      fp_gd (fp_in v1 9) <|
      fp_gd (fp_in v1 25) <|
      fp_lt (fp_set M 123 (Int32.toNatClampNeg v1) (M 126 (Int32.toNatClampNeg v1))) fun M_6 =>
      fp_gd (fp_in v1 9) <|
      fp_gd (fp_in ((nI 9) + v1) 25) <|
      fp_lt (fp_set M_6 123 (Int32.toNatClampNeg ((nI 9) + v1)) (M_6 127 (Int32.toNatClampNeg v1))) fun M_9 =>
      fp_lt (v1 + (nI 1)) fun x_10 =>
      m_X12_takeRead_108  n x_10 M_9
def m_X12_takeRead_87  : Nat → Int32 → fp_Mem → Option (fp_Mem)
  | 0, _, _ => none
  | n + 1, v1, M =>
    if (nI 25) ≤ v1 then
      m_X12_takeRead_108 fp_fu (nI 0) M
    else
      fp_gd (fp_in v1 25) <|
      fp_lt (fp_set M 123 (Int32.toNatClampNeg v1) (nI 0)) fun M_12 =>
      fp_lt (v1 + (nI 1)) fun x_13 =>
      m_X12_takeRead_87  n x_13 M_12
def m_X12_takeRead_47  : Nat → Int32 → fp_Mem → Option (fp_Mem)
  | 0, _, _ => none
  | n + 1, v1, M =>
    if (M 120 2) ≤ v1 then
      m_X12_takeRead_87 fp_fu (nI 0) M
    else
      fp_gd (fp_in v1 14) <|
      fp_gd (fp_in v1 14) <|
      fp_lt (fp_set M 121 (Int32.toNatClampNeg v1) (M 128 (Int32.toNatClampNeg v1))) fun M_16 =>
      fp_gd (fp_in v1 14) <|
      fp_gd (fp_in v1 14) <|
      fp_lt (fp_set M_16 122 (Int32.toNatClampNeg v1) (M_16 129 (Int32.toNatClampNeg v1))) fun M_19 =>
      fp_lt (v1 + (nI 1)) fun x_20 =>
      m_X12_takeRead_47  n x_20 M_19
def m_X12_takeRead_26  (s1 : Int32) (M : fp_Mem) : Option (fp_Mem) :=
  fp_lt (fp_set M 120 0 s1) fun M_21 =>
  fp_lt (fp_set M_21 120 1 (M_21 120 16)) fun M_22 =>
  fp_lt (fp_set M_22 120 2 (M_22 120 19)) fun M_23 =>
  m_X12_takeRead_47 fp_fu (nI 0) M_23
def m_X12_takeRead (M : fp_Mem) : Option (fp_Mem) :=
  fp_gd (fp_zb (M 120 14)) <|
  fp_lt (fp_set M 120 7 (M 120 14)) fun M_25 =>
  if (M_25 120 14) = 0 then
    m_X12_takeRead_26 (nI 0) M_25
  else
    fp_gd (fp_in (nI 0) 2) <|
    m_X12_takeRead_26 (M_25 125 (Int32.toNatClampNeg (nI 0))) M_25
def m_X12_realm_46  (v1 : Int32) (M : fp_Mem) : Option (Int32 × fp_Mem) :=
  fp_lt (fp_set M 120 9 (nI 0)) fun M_1 =>
  if v1 ≤ 0 then
    fp_b1 (m_X12_takeRead M_1) fun M_2 =>
    fp_lt (fp_set M_2 120 27 (nI 0)) fun M_4 =>
    fp_lt (fp_set M_4 120 30 (nI 0)) fun M_5 =>
    fp_lt (fp_set M_5 120 23 (nI 0)) fun M_6 =>
    fp_gd (fp_in (nI 0) 2) <|
    fp_lt (fp_set M_6 139 (Int32.toNatClampNeg (nI 0)) (vp_nar .boolean (nI 0))) fun M_8 =>
    fp_gd (fp_in (nI 1) 2) <|
    fp_lt (fp_set M_8 139 (Int32.toNatClampNeg (nI 1)) (vp_nar .boolean (nI 0))) fun M_10 =>
    some ((M_10 120 1), M_10)
  else
    some (((-10 : Int32) - v1), M_1)
def m_X12_realm_27  : Nat → Int32 → fp_Mem → Option (Int32 × fp_Mem)
  | 0, _, _ => none
  | n + 1, v1, M =>
    if v1 = 0 then
      fp_b2 (m_X12_here M) fun r_11 M_12 =>
      if r_11 < 0 then
        m_X12_realm_46 v1 M_12
      else
        fp_b2 (m_X12_takeClause M_12) fun r_14 M_15 =>
        m_X12_realm_27  n r_14 M_15
    else
      m_X12_realm_46 v1 M
def m_X12_realm (M : fp_Mem) : Option (Int32 × fp_Mem) :=
  fp_lt (fp_set M 120 10 (-1 : Int32)) fun M_17 =>
  fp_lt (fp_set M_17 120 11 (nI 0)) fun M_18 =>
  fp_lt (fp_set M_18 120 14 (nI 0)) fun M_19 =>
  fp_lt (fp_set M_19 120 16 (nI 0)) fun M_20 =>
  fp_lt (fp_set M_20 120 19 (nI 0)) fun M_21 =>
  m_X12_realm_27 fp_fu (nI 0) M_21
def m_X12_fault (M : fp_Mem) : Option (Int32) :=
  some (M 120 10)
def m_X12_free (M : fp_Mem) (p1 : Int32) : Option (Int32) :=
  fp_gd (fp_in p1 25) <|
  fp_gd (fp_in ((nI 9) + p1) 25) <|
  some ((M 123 (Int32.toNatClampNeg p1)) - (M 123 (Int32.toNatClampNeg ((nI 9) + p1))))
def m_X12_joined_91 (M : fp_Mem) (p1 : Int32) (K4 : Int32 → Int32 → Option (Int32)) (v3 : Int32) (s0 : Int32) (s1 : Int32) : Option (Int32) :=
  fp_lt (s0 ||| s1) fun x_1 =>
  fp_lt (v3 + (nI 1)) fun x_2 =>
  K4 x_1 x_2
def m_X12_joined_90 (M : fp_Mem) (p1 : Int32) (K4 : Int32 → Int32 → Option (Int32)) (v3 : Int32) (s0 : Int32) : Option (Int32) :=
  m_X12_joined_91 M p1 K4 v3 s0 (nI 0)
def m_X12_joined_61 (M : fp_Mem) (p1 : Int32) (K4 : Int32 → Int32 → Option (Int32)) (v3 : Int32) (v4 : Int32) (s0 : Int32) (s1 : Int32) : Option (Int32) :=
  fp_lt (s0 ||| s1) fun x_3 =>
  if v4 = 0 then
    m_X12_joined_90 M p1 K4 v3 x_3
  else
    fp_gd (fp_in v3 14) <|
    if (M 122 (Int32.toNatClampNeg v3)) = p1 then
      fp_gd (fp_in v3 14) <|
      m_X12_joined_91 M p1 K4 v3 x_3 ((nI 1) <<< ((M 121 (Int32.toNatClampNeg v3)) &&& 31))
    else
      m_X12_joined_90 M p1 K4 v3 x_3
def m_X12_joined_60 (M : fp_Mem) (p1 : Int32) (K4 : Int32 → Int32 → Option (Int32)) (v3 : Int32) (v4 : Int32) (s0 : Int32) : Option (Int32) :=
  m_X12_joined_61 M p1 K4 v3 v4 s0 (nI 0)
def m_X12_joined_31 (M : fp_Mem) (p1 : Int32) (K4 : Int32 → Int32 → Option (Int32)) (v2 : Int32) (v3 : Int32) (s0 : Int32) : Option (Int32) :=
  if s0 = 0 then
    m_X12_joined_60 M p1 K4 v3 s0 v2
  else
    fp_gd (fp_in v3 14) <|
    if (M 121 (Int32.toNatClampNeg v3)) = p1 then
      fp_gd (fp_in v3 14) <|
      m_X12_joined_61 M p1 K4 v3 s0 v2 ((nI 1) <<< ((M 122 (Int32.toNatClampNeg v3)) &&& 31))
    else
      m_X12_joined_60 M p1 K4 v3 s0 v2
def m_X12_joined_4 (M : fp_Mem) (p1 : Int32) : Nat → Int32 → Int32 → Option (Int32)
  | 0, _, _ => none
  | n + 1, v2, v3 =>
    if (M 120 2) ≤ v3 then
      some v2
    else
      fp_gd (fp_in (nI 19) 25) <|
      fp_b1 (m_X12_has M (M 123 (Int32.toNatClampNeg (nI 19))) v3) fun r_9 =>
      if r_9 = 0 then
        m_X12_joined_31 M p1 (m_X12_joined_4 M p1 n) v2 v3 (nI 1)
      else
        m_X12_joined_31 M p1 (m_X12_joined_4 M p1 n) v2 v3 (nI 0)
def m_X12_joined (M : fp_Mem) (p1 : Int32) : Option (Int32) :=
  m_X12_joined_4 M p1 fp_fu (nI 0) (nI 0)
def m_X12_findAway_127 (K46 : Int32 → fp_Mem → Option (fp_Mem)) (K54 : Int32 → Int32 → fp_Mem → Option (fp_Mem)) (K71 : Int32 → Int32 → Int32 → Int32 → fp_Mem → Option (fp_Mem)) (v1 : Int32) (v2 : Int32) (v3 : Int32) (v4 : Int32) (s1 : Int32) (s2 : Int32) (M : fp_Mem) : Option (fp_Mem) :=
  fp_gd (fp_in s1 9) <|
  fp_lt (fp_set M 130 (Int32.toNatClampNeg s1) s2) fun M_2 =>
  fp_lt (v4 + (nI 1)) fun x_3 =>
  K71 v1 v2 v3 x_3 M_2
def m_X12_findAway_121 (K46 : Int32 → fp_Mem → Option (fp_Mem)) (K54 : Int32 → Int32 → fp_Mem → Option (fp_Mem)) (K71 : Int32 → Int32 → Int32 → Int32 → fp_Mem → Option (fp_Mem)) (v1 : Int32) (v2 : Int32) (v3 : Int32) (v4 : Int32) (s1 : Int32) (M : fp_Mem) : Option (fp_Mem) :=
  fp_gd (fp_in v2 9) <|
  m_X12_findAway_127 K46 K54 K71 v1 v2 v3 v4 s1 (M 130 (Int32.toNatClampNeg v2)) M
def m_X12_findAway_71 (K46 : Int32 → fp_Mem → Option (fp_Mem)) (K54 : Int32 → Int32 → fp_Mem → Option (fp_Mem)) : Nat → Int32 → Int32 → Int32 → Int32 → fp_Mem → Option (fp_Mem)
  | 0, _, _, _, _, _ => none
  | n + 1, v1, v2, v3, v4, M =>
    if (M 120 1) ≤ v4 then
      fp_lt (v2 + (nI 1)) fun x_5 =>
      K54 v1 x_5 M
    else
      fp_gd (fp_in v2 9) <|
      if (M 130 (Int32.toNatClampNeg v2)) ≤ v1 then
        m_X12_findAway_121 K46 K54 (m_X12_findAway_71 K46 K54 n) v1 v2 v3 v4 v2 M
      else
        fp_b1 (m_X12_has M v3 v4) fun r_7 =>
        if r_7 = 0 then
          m_X12_findAway_121 K46 K54 (m_X12_findAway_71 K46 K54 n) v1 v2 v3 v4 v2 M
        else
          fp_gd (fp_in v4 9) <|
          if (M 130 (Int32.toNatClampNeg v4)) = (v1 - (nI 1)) then
            m_X12_findAway_127 K46 K54 (m_X12_findAway_71 K46 K54 n) v1 v2 v3 v4 v2 v1 M
          else
            m_X12_findAway_121 K46 K54 (m_X12_findAway_71 K46 K54 n) v1 v2 v3 v4 v2 M
def m_X12_findAway_54 (K46 : Int32 → fp_Mem → Option (fp_Mem)) : Nat → Int32 → Int32 → fp_Mem → Option (fp_Mem)
  | 0, _, _, _ => none
  | n + 1, v1, v2, M =>
    if (M 120 1) ≤ v2 then
      fp_lt (v1 + (nI 1)) fun x_10 =>
      K46 x_10 M
    else
      fp_b1 (m_X12_joined M v2) fun r_11 =>
      m_X12_findAway_71 K46 (m_X12_findAway_54 K46 n) fp_fu v1 v2 r_11 (nI 0) M
def m_X12_findAway_46  : Nat → Int32 → fp_Mem → Option (fp_Mem)
  | 0, _, _ => none
  | n + 1, v1, M =>
    if (nI 9) ≤ v1 then
      some M
    else
      m_X12_findAway_54 (m_X12_findAway_46 n) fp_fu v1 (nI 0) M
def m_X12_findAway_37 (K2 : Int32 → fp_Mem → Option (fp_Mem)) (v1 : Int32) (s1 : Int32) (s2 : Int32) (M : fp_Mem) : Option (fp_Mem) :=
  fp_gd (fp_in s1 9) <|
  fp_lt (fp_set M 130 (Int32.toNatClampNeg s1) s2) fun M_14 =>
  fp_lt (v1 + (nI 1)) fun x_15 =>
  K2 x_15 M_14
def m_X12_findAway_34 (K2 : Int32 → fp_Mem → Option (fp_Mem)) (v1 : Int32) (s1 : Int32) (M : fp_Mem) : Option (fp_Mem) :=
  m_X12_findAway_37 K2 v1 s1 (nI 1000) M
def m_X12_findAway_2  : Nat → Int32 → fp_Mem → Option (fp_Mem)
  | 0, _, _ => none
  | n + 1, v1, M =>
    if (nI 9) ≤ v1 then
      m_X12_findAway_46 fp_fu (nI 1) M
    else
      if (M 120 1) ≤ v1 then
        m_X12_findAway_34 (m_X12_findAway_2 n) v1 v1 M
      else
        fp_b1 (m_X12_free M v1) fun r_16 =>
        if r_16 ≤ (nI 1) then
          m_X12_findAway_34 (m_X12_findAway_2 n) v1 v1 M
        else
          m_X12_findAway_37 (m_X12_findAway_2 n) v1 v1 (nI 0) M
def m_X12_findAway (M : fp_Mem) : Option (fp_Mem) :=
  m_X12_findAway_2 fp_fu (nI 0) M
def m_X12_nextOf_43 (M : fp_Mem) (p1 : Int32) (K8 : Int32 → Int32 → Option (Int32)) (v2 : Int32) (v3 : Int32) : Option (Int32) :=
  fp_lt (v3 + (nI 1)) fun x_1 =>
  K8 v2 x_1
def m_X12_nextOf_8 (M : fp_Mem) (p1 : Int32) : Nat → Int32 → Int32 → Option (Int32)
  | 0, _, _ => none
  | n + 1, v2, v3 =>
    if (M 120 1) ≤ v3 then
      some (-1 : Int32)
    else
      fp_b1 (m_X12_has M v2 v3) fun r_2 =>
      if r_2 = 0 then
        m_X12_nextOf_43 M p1 (m_X12_nextOf_8 M p1 n) v2 v3
      else
        fp_gd (fp_in v3 9) <|
        fp_gd (fp_in p1 9) <|
        if (M 130 (Int32.toNatClampNeg v3)) = ((M 130 (Int32.toNatClampNeg p1)) - (nI 1)) then
          some v3
        else
          m_X12_nextOf_43 M p1 (m_X12_nextOf_8 M p1 n) v2 v3
def m_X12_nextOf (M : fp_Mem) (p1 : Int32) : Option (Int32) :=
  fp_b1 (m_X12_joined M p1) fun r_6 =>
  m_X12_nextOf_8 M p1 fp_fu r_6 (nI 0)
def m_X12_lastOf_2 (M : fp_Mem) (p1 : Int32) : Nat → Int32 → Option (Int32)
  | 0, _ => none
  | n + 1, v2 =>
    fp_gd (fp_in v2 9) <|
    if (M 130 (Int32.toNatClampNeg v2)) ≤ 0 then
      some v2
    else
      fp_b1 (m_X12_nextOf M v2) fun r_2 =>
      m_X12_lastOf_2 M p1 n r_2
def m_X12_lastOf (M : fp_Mem) (p1 : Int32) : Option (Int32) :=
  m_X12_lastOf_2 M p1 fp_fu p1
def m_X12_allSit_4 (M : fp_Mem) : Nat → Int32 → Int32 → Option (Int32)
  | 0, _, _ => none
  | n + 1, v1, v2 =>
    if (M 120 1) ≤ v2 then
      some v1
    else
      fp_gd (fp_in ((nI 9) + v2) 25) <|
      fp_lt (v1 + (M 123 (Int32.toNatClampNeg ((nI 9) + v2)))) fun x_2 =>
      fp_lt (v2 + (nI 1)) fun x_3 =>
      m_X12_allSit_4 M n x_2 x_3
def m_X12_allSit (M : fp_Mem) : Option (Int32) :=
  m_X12_allSit_4 M fp_fu (nI 0) (nI 0)
def m_X12_inspected_29 (M : fp_Mem) (K4 : Int32 → Int32 → Option (Int32)) (v2 : Int32) (s0 : Int32) (s1 : Int32) : Option (Int32) :=
  fp_lt (s0 ||| s1) fun x_1 =>
  fp_lt (v2 + (nI 1)) fun x_2 =>
  K4 x_1 x_2
def m_X12_inspected_4 (M : fp_Mem) : Nat → Int32 → Int32 → Option (Int32)
  | 0, _, _ => none
  | n + 1, v1, v2 =>
    if (M 120 1) ≤ v2 then
      some v1
    else
      fp_b1 (m_X12_free M v2) fun r_3 =>
      if (nI 1) ≤ r_3 then
        m_X12_inspected_29 M (m_X12_inspected_4 M n) v2 v1 (nI 0)
      else
        m_X12_inspected_29 M (m_X12_inspected_4 M n) v2 v1 ((nI 1) <<< (v2 &&& 31))
def m_X12_inspected (M : fp_Mem) : Option (Int32) :=
  m_X12_inspected_4 M fp_fu (nI 0) (nI 0)
def m_X12_emergency_36 (K8 : Int32 → Int32 → fp_Mem → Option (Int32 × fp_Mem)) (v2 : Int32) (s0 : Int32) (s1 : Int32) (M : fp_Mem) : Option (Int32 × fp_Mem) :=
  fp_lt (s0 ||| s1) fun x_1 =>
  fp_lt (v2 + (nI 1)) fun x_2 =>
  K8 x_1 x_2 M
def m_X12_emergency_8  : Nat → Int32 → Int32 → fp_Mem → Option (Int32 × fp_Mem)
  | 0, _, _, _ => none
  | n + 1, v1, v2, M =>
    if (M 120 1) ≤ v2 then
      some (v1, M)
    else
      fp_gd (fp_in v2 9) <|
      if (M 130 (Int32.toNatClampNeg v2)) = (nI 1000) then
        m_X12_emergency_36 (m_X12_emergency_8 n) v2 v1 ((nI 1) <<< (v2 &&& 31)) M
      else
        m_X12_emergency_36 (m_X12_emergency_8 n) v2 v1 (nI 0) M
def m_X12_emergency (M : fp_Mem) : Option (Int32 × fp_Mem) :=
  fp_b1 (m_X12_findAway M) fun M_4 =>
  m_X12_emergency_8 fp_fu (nI 0) (nI 0) M_4
def m_X12_told (M : fp_Mem) (p1 : Int32) : Option (Int32 × fp_Mem) :=
  if p1 = (nI 0) then
    some ((M 120 0), M)
  else
  if p1 = (nI 1) then
    fp_gd (fp_in (nI 18) 25) <|
    some ((M 123 (Int32.toNatClampNeg (nI 18))), M)
  else
  if p1 = (nI 2) then
    some ((M 120 1), M)
  else
  if p1 = (nI 3) then
    some ((M 120 2), M)
  else
  if p1 = (nI 4) then
    some ((M 120 9), M)
  else
  if p1 = (nI 5) then
    fp_b1 (m_X12_allSit M) fun r_2 =>
    some (r_2, M)
  else
  if p1 = (nI 6) then
    fp_gd (fp_in (nI 20) 25) <|
    some ((M 123 (Int32.toNatClampNeg (nI 20))), M)
  else
  if p1 = (nI 7) then
    fp_gd (fp_in (nI 21) 25) <|
    some ((M 123 (Int32.toNatClampNeg (nI 21))), M)
  else
  if p1 = (nI 8) then
    fp_gd (fp_in (nI 22) 25) <|
    some ((M 123 (Int32.toNatClampNeg (nI 22))), M)
  else
  if p1 = (nI 9) then
    fp_gd (fp_in (nI 23) 25) <|
    some ((M 123 (Int32.toNatClampNeg (nI 23))), M)
  else
  if p1 = (nI 10) then
    fp_gd (fp_in (nI 24) 25) <|
    some ((M 123 (Int32.toNatClampNeg (nI 24))), M)
  else
  if p1 = (nI 11) then
    fp_b1 (m_X12_inspected M) fun r_9 =>
    some (r_9, M)
  else
  if p1 = (nI 12) then
    fp_b2 (m_X12_emergency M) fun r_11 M_12 =>
    some (r_11, M_12)
  else
  if p1 = (nI 13) then
    fp_gd (fp_in (nI 19) 25) <|
    some ((M 123 (Int32.toNatClampNeg (nI 19))), M)
  else
  if p1 = (nI 14) then
    some ((M 120 27), M)
  else
  if p1 = (nI 15) then
    some ((M 120 30), M)
  else
  if p1 = (nI 16) then
    some ((M 120 23), M)
  else
  some ((-1000000002 : Int32), M)
def m_X12_table (M : fp_Mem) (p1 : Int32) (p2 : Int32) : Option (Int32) :=
  fp_b1 (m_X12_isTable M p1) fun r_1 =>
  if r_1 = 0 then
    some (-1000000001 : Int32)
  else
    if p2 = (nI 0) then
      fp_gd (fp_in p1 25) <|
      some (M 123 (Int32.toNatClampNeg p1))
    else
    if p2 = (nI 1) then
      fp_gd (fp_in ((nI 9) + p1) 25) <|
      some (M 123 (Int32.toNatClampNeg ((nI 9) + p1)))
    else
    if p2 = (nI 2) then
      fp_b1 (m_X12_free M p1) fun r_5 =>
      some r_5
    else
    if p2 = (nI 3) then
      fp_b1 (m_X12_joined M p1) fun r_7 =>
      some r_7
    else
    some (-1000000002 : Int32)
def m_X12_way (M : fp_Mem) (p1 : Int32) (p2 : Int32) : Option (Int32) :=
  fp_b1 (m_X12_in M (Int32.toInt64 p1) (lN 0) (Int32.toInt64 ((M 120 2) - (nI 1)))) fun r_1 =>
  if r_1 = 0 then
    some (-1000000001 : Int32)
  else
    if p2 = (nI 0) then
      fp_gd (fp_in p1 14) <|
      some (M 121 (Int32.toNatClampNeg p1))
    else
    if p2 = (nI 1) then
      fp_gd (fp_in p1 14) <|
      some (M 122 (Int32.toNatClampNeg p1))
    else
    if p2 = (nI 2) then
      fp_gd (fp_in (nI 19) 25) <|
      some (((M 123 (Int32.toNatClampNeg (nI 19))) >>> (p1 &&& 31)) &&& (nI 1))
    else
    some (-1000000002 : Int32)
def m_X12_remember_52  : Nat → Int32 → fp_Mem → Option (fp_Mem)
  | 0, _, _ => none
  | n + 1, v1, M =>
    if (nI 25) ≤ v1 then
      fp_lt (fp_set M 120 23 ((M 120 23) + (nI 1))) fun M_1 =>
      some M_1
    else
      fp_gd (fp_in v1 25) <|
      fp_gd (fp_in (((nI 25) * (M 120 23)) + v1) 500) <|
      fp_lt (fp_set M 131 (Int32.toNatClampNeg (((nI 25) * (M 120 23)) + v1)) (M 123 (Int32.toNatClampNeg v1))) fun M_4 =>
      fp_lt (v1 + (nI 1)) fun x_5 =>
      m_X12_remember_52  n x_5 M_4
def m_X12_remember_50  (M : fp_Mem) : Option (fp_Mem) :=
  m_X12_remember_52 fp_fu (nI 0) M
def m_X12_remember_12  : Nat → Int32 → fp_Mem → Option (fp_Mem)
  | 0, _, _ => none
  | n + 1, v1, M =>
    if (nI 500) ≤ v1 then
      fp_lt (fp_set M 120 23 ((M 120 23) - (nI 1))) fun M_6 =>
      m_X12_remember_50 M_6
    else
      fp_gd (fp_in v1 500) <|
      fp_gd (fp_in (v1 - (nI 25)) 500) <|
      fp_lt (fp_set M 131 (Int32.toNatClampNeg (v1 - (nI 25))) (M 131 (Int32.toNatClampNeg v1))) fun M_9 =>
      fp_lt (v1 + (nI 1)) fun x_10 =>
      m_X12_remember_12  n x_10 M_9
def m_X12_remember (M : fp_Mem) : Option (fp_Mem) :=
  if (M 120 23) = (nI 20) then
    m_X12_remember_12 fp_fu (nI 25) M
  else
    m_X12_remember_50 M
def m_X12_guest_136 (p1 : Int32) (s1 : Int32) (s2 : Int32) (M : fp_Mem) : Option (Int32 × fp_Mem) :=
  fp_gd (fp_in s1 25) <|
  fp_lt (fp_set M 123 (Int32.toNatClampNeg s1) s2) fun M_2 =>
  some ((-2 : Int32), M_2)
def m_X12_guest (M : fp_Mem) (p1 : Int32) : Option (Int32 × fp_Mem) :=
  fp_b1 (m_X12_findAway M) fun M_3 =>
  fp_gd (fp_in (nI 24) 25) <|
  fp_gd (fp_in (nI 24) 25) <|
  fp_lt (fp_set M_3 123 (Int32.toNatClampNeg (nI 24)) ((M_3 123 (Int32.toNatClampNeg (nI 24))) + (nI 1))) fun M_7 =>
  fp_gd (fp_in p1 9) <|
  if (nI 1000) ≤ (M_7 130 (Int32.toNatClampNeg p1)) then
    fp_b1 (m_X12_free M_7 p1) fun r_9 =>
    if r_9 ≤ 0 then
      fp_gd (fp_in (nI 20) 25) <|
      fp_gd (fp_in (nI 20) 25) <|
      fp_lt (fp_set M_7 123 (Int32.toNatClampNeg (nI 20)) ((M_7 123 (Int32.toNatClampNeg (nI 20))) + (nI 1))) fun M_13 =>
      some ((-3 : Int32), M_13)
    else
      fp_gd (fp_in ((nI 9) + p1) 25) <|
      fp_gd (fp_in ((nI 9) + p1) 25) <|
      fp_lt (fp_set M_7 123 (Int32.toNatClampNeg ((nI 9) + p1)) ((M_7 123 (Int32.toNatClampNeg ((nI 9) + p1))) + (nI 1))) fun M_16 =>
      fp_gd (fp_in (nI 22) 25) <|
      fp_gd (fp_in (nI 22) 25) <|
      fp_lt (fp_set M_16 123 (Int32.toNatClampNeg (nI 22)) ((M_16 123 (Int32.toNatClampNeg (nI 22))) + (nI 1))) fun M_19 =>
      fp_gd (fp_in (nI 23) 25) <|
      if (nI 999999) ≤ ((M_19 123 (Int32.toNatClampNeg (nI 23))) + (M_19 120 0)) then
        m_X12_guest_136 p1 (nI 23) (nI 999999) M_19
      else
        fp_gd (fp_in (nI 23) 25) <|
        m_X12_guest_136 p1 (nI 23) ((M_19 123 (Int32.toNatClampNeg (nI 23))) + (M_19 120 0)) M_19
  else
    fp_gd (fp_in p1 9) <|
    fp_lt (M_7 130 (Int32.toNatClampNeg p1)) fun x_23 =>
    fp_b1 (m_X12_lastOf M_7 p1) fun r_24 =>
    fp_gd (fp_in ((nI 9) + r_24) 25) <|
    fp_gd (fp_in ((nI 9) + r_24) 25) <|
    fp_lt (fp_set M_7 123 (Int32.toNatClampNeg ((nI 9) + r_24)) ((M_7 123 (Int32.toNatClampNeg ((nI 9) + r_24))) + (nI 1))) fun M_28 =>
    fp_gd (fp_in (nI 21) 25) <|
    fp_gd (fp_in (nI 21) 25) <|
    fp_lt (fp_set M_28 123 (Int32.toNatClampNeg (nI 21)) ((M_28 123 (Int32.toNatClampNeg (nI 21))) + x_23)) fun M_31 =>
    some (x_23, M_31)
def m_X12_come (M : fp_Mem) (p1 : Int32) : Option (Int32 × fp_Mem) :=
  fp_b1 (m_X12_isTable M p1) fun r_1 =>
  if r_1 = 0 then
    some ((-1000000001 : Int32), M)
  else
    fp_gd (fp_in (nI 24) 25) <|
    if (M 123 (Int32.toNatClampNeg (nI 24))) ≤ (nI 9000) then
      fp_b1 (m_X12_remember M) fun M_4 =>
      fp_b2 (m_X12_guest M_4 p1) fun r_6 M_7 =>
      some (r_6, M_7)
    else
      some ((-1000000004 : Int32), M)
def m_X12_go (M : fp_Mem) (p1 : Int32) : Option (Int32 × fp_Mem) :=
  fp_b1 (m_X12_isTable M p1) fun r_1 =>
  if r_1 = 0 then
    some ((-1000000001 : Int32), M)
  else
    fp_gd (fp_in ((nI 9) + p1) 25) <|
    if (M 123 (Int32.toNatClampNeg ((nI 9) + p1))) = 0 then
      some ((-1000000003 : Int32), M)
    else
      fp_b1 (m_X12_remember M) fun M_4 =>
      fp_gd (fp_in ((nI 9) + p1) 25) <|
      fp_gd (fp_in ((nI 9) + p1) 25) <|
      fp_lt (fp_set M_4 123 (Int32.toNatClampNeg ((nI 9) + p1)) ((M_4 123 (Int32.toNatClampNeg ((nI 9) + p1))) - (nI 1))) fun M_8 =>
      fp_gd (fp_in ((nI 9) + p1) 25) <|
      some ((M_8 123 (Int32.toNatClampNeg ((nI 9) + p1))), M_8)
def m_X12_build_32 (p1 : Int32) (M : fp_Mem) : Option (Int32 × fp_Mem) :=
  some ((-1000000003 : Int32), M)
def m_X12_build (M : fp_Mem) (p1 : Int32) : Option (Int32 × fp_Mem) :=
  fp_b1 (m_X12_isTable M p1) fun r_1 =>
  if r_1 = 0 then
    some ((-1000000001 : Int32), M)
  else
    fp_gd (fp_in (nI 18) 25) <|
    if (M 123 (Int32.toNatClampNeg (nI 18))) = 0 then
      m_X12_build_32 p1 M
    else
      fp_gd (fp_in p1 25) <|
      if (M 123 (Int32.toNatClampNeg p1)) = (nI 20) then
        m_X12_build_32 p1 M
      else
        fp_b1 (m_X12_remember M) fun M_5 =>
        fp_gd (fp_in (nI 18) 25) <|
        fp_gd (fp_in (nI 18) 25) <|
        fp_lt (fp_set M_5 123 (Int32.toNatClampNeg (nI 18)) ((M_5 123 (Int32.toNatClampNeg (nI 18))) - (nI 1))) fun M_9 =>
        fp_gd (fp_in p1 25) <|
        fp_gd (fp_in p1 25) <|
        fp_lt (fp_set M_9 123 (Int32.toNatClampNeg p1) ((M_9 123 (Int32.toNatClampNeg p1)) + (nI 1))) fun M_12 =>
        fp_gd (fp_in p1 25) <|
        some ((M_12 123 (Int32.toNatClampNeg p1)), M_12)
def m_X12_breakOne (M : fp_Mem) (p1 : Int32) : Option (Int32 × fp_Mem) :=
  fp_b1 (m_X12_isTable M p1) fun r_1 =>
  if r_1 = 0 then
    some ((-1000000001 : Int32), M)
  else
    fp_b1 (m_X12_free M p1) fun r_3 =>
    if (nI 1) ≤ r_3 then
      fp_b1 (m_X12_remember M) fun M_5 =>
      fp_gd (fp_in p1 25) <|
      fp_gd (fp_in p1 25) <|
      fp_lt (fp_set M_5 123 (Int32.toNatClampNeg p1) ((M_5 123 (Int32.toNatClampNeg p1)) - (nI 1))) fun M_9 =>
      fp_gd (fp_in p1 25) <|
      some ((M_9 123 (Int32.toNatClampNeg p1)), M_9)
    else
      some ((-1000000003 : Int32), M)
def m_X12_shut_72 (p1 : Int32) (p2 : Int32) (v3 : Int32) (s1 : Int32) (s2 : Int32) (M : fp_Mem) : Option (Int32 × fp_Mem) :=
  fp_gd (fp_in s1 25) <|
  fp_lt (fp_set M 123 (Int32.toNatClampNeg s1) s2) fun M_2 =>
  some (v3, M_2)
def m_X12_shut (M : fp_Mem) (p1 : Int32) (p2 : Int32) : Option (Int32 × fp_Mem) :=
  fp_b1 (m_X12_in M (Int32.toInt64 p1) (lN 0) (Int32.toInt64 ((M 120 2) - (nI 1)))) fun r_3 =>
  if r_3 = 0 then
    some ((-1000000001 : Int32), M)
  else
    fp_b1 (m_X12_remember M) fun M_5 =>
    fp_gd (fp_in (nI 19) 25) <|
    fp_lt (((M_5 123 (Int32.toNatClampNeg (nI 19))) >>> (p1 &&& 31)) &&& (nI 1)) fun x_8 =>
    if p2 = 0 then
      fp_gd (fp_in (nI 19) 25) <|
      m_X12_shut_72 p1 p2 x_8 (nI 19) ((M_5 123 (Int32.toNatClampNeg (nI 19))) &&& (((nI 1) <<< (p1 &&& 31)) ^^^ (-1 : Int32))) M_5
    else
      fp_gd (fp_in (nI 19) 25) <|
      m_X12_shut_72 p1 p2 x_8 (nI 19) ((M_5 123 (Int32.toNatClampNeg (nI 19))) ||| ((nI 1) <<< (p1 &&& 31))) M_5
def m_X12_draw (M : fp_Mem) (p1 : Int32) : Option (Int32 × fp_Mem) :=
  fp_lt (fp_set M 120 6 (Int64.toInt32 ((((Int32.toInt64 (M 120 6)) * (lN 1103515245)) + (lN 12345)) - (((Int32.toInt64 (M 120 6)) * (lN 1103515245)) + (lN 12345)) / (lN 2147483648) * (lN 2147483648)))) fun M_1 =>
  fp_gd (fp_nz p1) <|
  some ((((M_1 120 6) / (nI 65536)) - ((M_1 120 6) / (nI 65536)) / p1 * p1), M_1)
def m_X12_chance_57  (M : fp_Mem) : Option (fp_Mem) :=
  some M
def m_X12_chance_46  (s1 : Int32) (s2 : Int32) (s3 : Int32) (M : fp_Mem) : Option (fp_Mem) :=
  fp_gd (fp_in s1 25) <|
  fp_lt (fp_set M 123 (Int32.toNatClampNeg s1) (s2 - s3)) fun M_2 =>
  m_X12_chance_57 M_2
def m_X12_chance (M : fp_Mem) : Option (fp_Mem) :=
  fp_b2 (m_X12_draw M (M 120 1)) fun r_3 M_4 =>
  fp_b2 (m_X12_draw M_4 (nI 3)) fun r_6 M_7 =>
  if r_6 = 0 then
    fp_gd (fp_in ((nI 9) + r_3) 25) <|
    fp_gd (fp_in ((nI 9) + r_3) 25) <|
    if (M_7 123 (Int32.toNatClampNeg ((nI 9) + r_3))) ≤ 0 then
      m_X12_chance_46 ((nI 9) + r_3) (M_7 123 (Int32.toNatClampNeg ((nI 9) + r_3))) (nI 0) M_7
    else
      m_X12_chance_46 ((nI 9) + r_3) (M_7 123 (Int32.toNatClampNeg ((nI 9) + r_3))) (nI 1) M_7
  else
    fp_b2 (m_X12_guest M_7 r_3) fun r_9 M_10 =>
    m_X12_chance_57 M_10
def m_X12_drift_69 (p1 : Int32) (M : fp_Mem) : Option (Int32 × fp_Mem) :=
  fp_b1 (m_X12_allSit M) fun r_1 =>
  some (r_1, M)
def m_X12_drift_47 (p1 : Int32) : Nat → Int32 → fp_Mem → Option (Int32 × fp_Mem)
  | 0, _, _ => none
  | n + 1, v2, M =>
    if p1 ≤ v2 then
      m_X12_drift_69 p1 M
    else
      if (M 120 1) ≤ 0 then
        m_X12_drift_69 p1 M
      else
        fp_b1 (m_X12_chance M) fun M_3 =>
        fp_lt (v2 + (nI 1)) fun x_5 =>
        m_X12_drift_47 p1 n x_5 M_3
def m_X12_drift (M : fp_Mem) (p1 : Int32) : Option (Int32 × fp_Mem) :=
  fp_b1 (m_X12_in M (Int32.toInt64 p1) (lN 1) (lN 60)) fun r_6 =>
  if r_6 = 0 then
    some ((-1000000002 : Int32), M)
  else
    if (M 120 7) = 0 then
      some ((-1000000003 : Int32), M)
    else
      fp_gd (fp_in (nI 24) 25) <|
      if (M 123 (Int32.toNatClampNeg (nI 24))) ≤ (nI 9000) then
        fp_b1 (m_X12_remember M) fun M_9 =>
        m_X12_drift_47 p1 fp_fu (nI 0) M_9
      else
        some ((-1000000004 : Int32), M)
def m_X12_undo_22  : Nat → Int32 → fp_Mem → Option (Int32 × fp_Mem)
  | 0, _, _ => none
  | n + 1, v1, M =>
    if (nI 25) ≤ v1 then
      some ((M 120 23), M)
    else
      fp_gd (fp_in (((nI 25) * (M 120 23)) + v1) 500) <|
      fp_gd (fp_in v1 25) <|
      fp_lt (fp_set M 123 (Int32.toNatClampNeg v1) (M 131 (Int32.toNatClampNeg (((nI 25) * (M 120 23)) + v1)))) fun M_3 =>
      fp_lt (v1 + (nI 1)) fun x_4 =>
      m_X12_undo_22  n x_4 M_3
def m_X12_undo (M : fp_Mem) : Option (Int32 × fp_Mem) :=
  if (M 120 23) = 0 then
    some ((-1000000003 : Int32), M)
  else
    fp_lt (fp_set M 120 23 ((M 120 23) - (nI 1))) fun M_5 =>
    m_X12_undo_22 fp_fu (nI 0) M_5
def m_X12_chain_64 (p1 : Int32) (p2 : Int32) : Nat → Int32 → Int32 → fp_Mem → Option (Int32 × fp_Mem)
  | 0, _, _, _ => none
  | n + 1, v3, v4, M =>
    if p2 ≤ v4 then
      some (v3, M)
    else
      fp_b1 (m_X12_nextOf M v3) fun r_1 =>
      fp_lt (v4 + (nI 1)) fun x_3 =>
      m_X12_chain_64 p1 p2 n r_1 x_3 M
def m_X12_chain (M : fp_Mem) (p1 : Int32) (p2 : Int32) : Option (Int32 × fp_Mem) :=
  fp_b1 (m_X12_isTable M p1) fun r_4 =>
  if r_4 = 0 then
    some ((-1000000001 : Int32), M)
  else
    fp_b1 (m_X12_findAway M) fun M_6 =>
    fp_gd (fp_in p1 9) <|
    if (M_6 130 (Int32.toNatClampNeg p1)) = (nI 1000) then
      some ((-1 : Int32), M_6)
    else
      if p2 = (-1 : Int32) then
        fp_gd (fp_in p1 9) <|
        some ((M_6 130 (Int32.toNatClampNeg p1)), M_6)
      else
        fp_gd (fp_in p1 9) <|
        fp_b1 (m_X12_in M_6 (Int32.toInt64 p2) (lN 0) (Int32.toInt64 (M_6 130 (Int32.toNatClampNeg p1)))) fun r_10 =>
        if r_10 = 0 then
          some ((-1 : Int32), M_6)
        else
          m_X12_chain_64 p1 p2 fp_fu p1 (nI 0) M_6
def m_X12_together_44 (M : fp_Mem) (p1 : Int32) (K6 : Int32 → Int32 → Option (Int32)) (K15 : Int32 → Int32 → Int32 → Option (Int32)) (v3 : Int32) (v4 : Int32) (s0 : Int32) (s1 : Int32) : Option (Int32) :=
  fp_lt (s0 ||| s1) fun x_1 =>
  fp_lt (v4 + (nI 1)) fun x_2 =>
  K15 x_1 v3 x_2
def m_X12_together_15 (M : fp_Mem) (p1 : Int32) (K6 : Int32 → Int32 → Option (Int32)) : Nat → Int32 → Int32 → Int32 → Option (Int32)
  | 0, _, _, _ => none
  | n + 1, v2, v3, v4 =>
    if (M 120 1) ≤ v4 then
      fp_lt (v3 + (nI 1)) fun x_3 =>
      K6 v2 x_3
    else
      fp_b1 (m_X12_has M v2 v4) fun r_4 =>
      if r_4 = 0 then
        m_X12_together_44 M p1 K6 (m_X12_together_15 M p1 K6 n) v3 v4 v2 (nI 0)
      else
        fp_b1 (m_X12_joined M v4) fun r_6 =>
        m_X12_together_44 M p1 K6 (m_X12_together_15 M p1 K6 n) v3 v4 v2 r_6
def m_X12_together_6 (M : fp_Mem) (p1 : Int32) : Nat → Int32 → Int32 → Option (Int32)
  | 0, _, _ => none
  | n + 1, v2, v3 =>
    if (nI 9) ≤ v3 then
      some v2
    else
      m_X12_together_15 M p1 (m_X12_together_6 M p1 n) fp_fu v2 v3 (nI 0)
def m_X12_together (M : fp_Mem) (p1 : Int32) : Option (Int32) :=
  fp_lt ((nI 1) <<< (p1 &&& 31)) fun x_8 =>
  m_X12_together_6 M p1 fp_fu x_8 (nI 0)
def m_X12_more_63 (M : fp_Mem) (p1 : Int32) (K22 : Int32 → Int32 → Int32 → Option (Int32)) (v2 : Int32) (v4 : Int32) (s0 : Int32) (s1 : Int32) : Option (Int32) :=
  fp_lt (s0 + s1) fun x_1 =>
  fp_lt (v4 + (nI 1)) fun x_2 =>
  K22 v2 x_1 x_2
def m_X12_more_62 (M : fp_Mem) (p1 : Int32) (K22 : Int32 → Int32 → Int32 → Option (Int32)) (v2 : Int32) (v4 : Int32) (s0 : Int32) : Option (Int32) :=
  m_X12_more_63 M p1 K22 v2 v4 s0 (nI 0)
def m_X12_more_22 (M : fp_Mem) (p1 : Int32) : Nat → Int32 → Int32 → Int32 → Option (Int32)
  | 0, _, _, _ => none
  | n + 1, v2, v3, v4 =>
    if (M 120 1) ≤ v4 then
      some v3
    else
      fp_b1 (m_X12_has M v2 v4) fun r_3 =>
      if r_3 = 0 then
        m_X12_more_62 M p1 (m_X12_more_22 M p1 n) v2 v4 v3
      else
        fp_b1 (m_X12_free M v4) fun r_5 =>
        if r_5 ≤ (nI 1) then
          m_X12_more_62 M p1 (m_X12_more_22 M p1 n) v2 v4 v3
        else
          fp_b1 (m_X12_free M v4) fun r_7 =>
          m_X12_more_63 M p1 (m_X12_more_22 M p1 n) v2 v4 v3 (r_7 - (nI 1))
def m_X12_more (M : fp_Mem) (p1 : Int32) : Option (Int32) :=
  fp_b1 (m_X12_isTable M p1) fun r_9 =>
  if r_9 = 0 then
    some (-1000000001 : Int32)
  else
    fp_b1 (m_X12_together M p1) fun r_11 =>
    m_X12_more_22 M p1 fp_fu r_11 (nI 0) (nI 0)
def m_X12_far_101 (p1 : Int32) (s0 : Int32) (M : fp_Mem) : Option (Int32 × fp_Mem) :=
  some (s0, M)
def m_X12_far_73 (p1 : Int32) (K24 : Int32 → Int32 → Int32 → fp_Mem → Option (Int32 × fp_Mem)) (v2 : Int32) (v4 : Int32) (s0 : Int32) (M : fp_Mem) : Option (Int32 × fp_Mem) :=
  fp_lt (v4 + (nI 1)) fun x_1 =>
  K24 v2 s0 x_1 M
def m_X12_far_50 (p1 : Int32) (K24 : Int32 → Int32 → Int32 → fp_Mem → Option (Int32 × fp_Mem)) (v3 : Int32) (v4 : Int32) (s0 : Int32) (M : fp_Mem) : Option (Int32 × fp_Mem) :=
  fp_gd (fp_in v4 9) <|
  if (M 130 (Int32.toNatClampNeg v4)) ≤ v3 then
    m_X12_far_73 p1 K24 s0 v4 v3 M
  else
    fp_gd (fp_in v4 9) <|
    m_X12_far_73 p1 K24 s0 v4 (M 130 (Int32.toNatClampNeg v4)) M
def m_X12_far_24 (p1 : Int32) : Nat → Int32 → Int32 → Int32 → fp_Mem → Option (Int32 × fp_Mem)
  | 0, _, _, _, _ => none
  | n + 1, v2, v3, v4, M =>
    if (M 120 1) ≤ v4 then
      if p1 = (nI 1) then
        m_X12_far_101 p1 v2 M
      else
        if v3 = (nI 1000) then
          m_X12_far_101 p1 (-1 : Int32) M
        else
          m_X12_far_101 p1 v3 M
    else
      fp_gd (fp_in v4 9) <|
      if (M 130 (Int32.toNatClampNeg v4)) ≤ v3 then
        m_X12_far_50 p1 (m_X12_far_24 p1 n) v3 v4 v2 M
      else
        m_X12_far_50 p1 (m_X12_far_24 p1 n) v3 v4 v4 M
def m_X12_far (M : fp_Mem) (p1 : Int32) : Option (Int32 × fp_Mem) :=
  fp_b1 (m_X12_in M (Int32.toInt64 p1) (lN 0) (lN 1)) fun r_5 =>
  if r_5 = 0 then
    some ((-1000000002 : Int32), M)
  else
    fp_b1 (m_X12_findAway M) fun M_7 =>
    m_X12_far_24 p1 fp_fu (-1 : Int32) (-1 : Int32) (nI 0) M_7
def m_X12_save_2  : Nat → Int32 → fp_Mem → Option (fp_Mem)
  | 0, _, _ => none
  | n + 1, v1, M =>
    if (nI 25) ≤ v1 then
      some M
    else
      fp_gd (fp_in v1 25) <|
      fp_gd (fp_in v1 25) <|
      fp_lt (fp_set M 132 (Int32.toNatClampNeg v1) (M 123 (Int32.toNatClampNeg v1))) fun M_3 =>
      fp_lt (v1 + (nI 1)) fun x_4 =>
      m_X12_save_2  n x_4 M_3
def m_X12_save (M : fp_Mem) : Option (fp_Mem) :=
  m_X12_save_2 fp_fu (nI 0) M
def m_X12_putBack_2  : Nat → Int32 → fp_Mem → Option (fp_Mem)
  | 0, _, _ => none
  | n + 1, v1, M =>
    if (nI 25) ≤ v1 then
      some M
    else
      fp_gd (fp_in v1 25) <|
      fp_gd (fp_in v1 25) <|
      fp_lt (fp_set M 123 (Int32.toNatClampNeg v1) (M 132 (Int32.toNatClampNeg v1))) fun M_3 =>
      fp_lt (v1 + (nI 1)) fun x_4 =>
      m_X12_putBack_2  n x_4 M_3
def m_X12_putBack (M : fp_Mem) : Option (fp_Mem) :=
  m_X12_putBack_2 fp_fu (nI 0) M
def m_X12_bothMoves_41 (p1 : Int32) (p2 : Int32) (s0 : Int32) (s1 : Int32) (M : fp_Mem) : Option (Int32 × fp_Mem) :=
  some ((s0 + s1), M)
def m_X12_bothMoves_28 (p1 : Int32) (p2 : Int32) (v4 : Int32) (s0 : Int32) (M : fp_Mem) : Option (Int32 × fp_Mem) :=
  if 0 ≤ v4 then
    m_X12_bothMoves_41 p1 p2 s0 v4 M
  else
    m_X12_bothMoves_41 p1 p2 s0 (nI 1000) M
def m_X12_bothMoves (M : fp_Mem) (p1 : Int32) (p2 : Int32) : Option (Int32 × fp_Mem) :=
  fp_b2 (m_X12_guest M p1) fun r_1 M_2 =>
  fp_b2 (m_X12_guest M_2 p2) fun r_4 M_5 =>
  fp_b1 (m_X12_putBack M_5) fun M_7 =>
  if 0 ≤ r_1 then
    m_X12_bothMoves_28 p1 p2 r_4 r_1 M_7
  else
    m_X12_bothMoves_28 p1 p2 r_4 (nI 1000) M_7
def m_X12_two_16 (p1 : Int32) (p2 : Int32) (p3 : Int32) (M : fp_Mem) : Option (Int32 × fp_Mem) :=
  some ((-1000000001 : Int32), M)
def m_X12_two_83 (p1 : Int32) (p2 : Int32) (p3 : Int32) (s0 : Int32) (M : fp_Mem) : Option (Int32 × fp_Mem) :=
  some (s0, M)
def m_X12_two_68 (p1 : Int32) (p2 : Int32) (p3 : Int32) (s0 : Int32) (M : fp_Mem) : Option (Int32 × fp_Mem) :=
  some (s0, M)
def m_X12_two (M : fp_Mem) (p1 : Int32) (p2 : Int32) (p3 : Int32) : Option (Int32 × fp_Mem) :=
  fp_b1 (m_X12_isTable M p1) fun r_1 =>
  if r_1 = 0 then
    m_X12_two_16 p1 p2 p3 M
  else
    fp_b1 (m_X12_isTable M p2) fun r_3 =>
    if r_3 = 0 then
      m_X12_two_16 p1 p2 p3 M
    else
      fp_b1 (m_X12_in M (Int32.toInt64 p3) (lN 0) (lN 1)) fun r_5 =>
      if r_5 = 0 then
        some ((-1000000002 : Int32), M)
      else
        fp_b1 (m_X12_save M) fun M_7 =>
        fp_b2 (m_X12_bothMoves M_7 p1 p2) fun r_9 M_10 =>
        fp_b2 (m_X12_bothMoves M_10 p2 p1) fun r_12 M_13 =>
        if p3 = 0 then
          if r_9 ≤ r_12 then
            m_X12_two_68 p1 p2 p3 (nI 0) M_13
          else
            m_X12_two_68 p1 p2 p3 (nI 1) M_13
        else
          if r_9 ≤ r_12 then
            m_X12_two_83 p1 p2 p3 r_9 M_13
          else
            m_X12_two_83 p1 p2 p3 r_12 M_13
def m_X12_allNear_47 (p1 : Int32) (p2 : Int32) (K9 : Int32 → Int32 → fp_Mem → Option (Int32 × fp_Mem)) (v4 : Int32) (s0 : Int32) (M : fp_Mem) : Option (Int32 × fp_Mem) :=
  fp_lt (v4 + (nI 1)) fun x_1 =>
  K9 s0 x_1 M
def m_X12_allNear_46 (p1 : Int32) (p2 : Int32) (K9 : Int32 → Int32 → fp_Mem → Option (Int32 × fp_Mem)) (v4 : Int32) (M : fp_Mem) : Option (Int32 × fp_Mem) :=
  m_X12_allNear_47 p1 p2 K9 v4 (nI 0) M
def m_X12_allNear_42 (p1 : Int32) (p2 : Int32) (K9 : Int32 → Int32 → fp_Mem → Option (Int32 × fp_Mem)) (v4 : Int32) (M : fp_Mem) : Option (Int32 × fp_Mem) :=
  m_X12_allNear_47 p1 p2 K9 v4 (nI 1) M
def m_X12_allNear_9 (p1 : Int32) (p2 : Int32) : Nat → Int32 → Int32 → fp_Mem → Option (Int32 × fp_Mem)
  | 0, _, _, _ => none
  | n + 1, v3, v4, M =>
    if (M 120 1) ≤ v4 then
      fp_gd (fp_zb v3) <|
      some (v3, M)
    else
      if v3 = 0 then
        m_X12_allNear_46 p1 p2 (m_X12_allNear_9 p1 p2 n) v4 M
      else
        fp_b1 (m_X12_has M p1 v4) fun r_3 =>
        if r_3 = 0 then
          m_X12_allNear_42 p1 p2 (m_X12_allNear_9 p1 p2 n) v4 M
        else
          fp_gd (fp_in v4 9) <|
          if p2 < (M 130 (Int32.toNatClampNeg v4)) then
            m_X12_allNear_46 p1 p2 (m_X12_allNear_9 p1 p2 n) v4 M
          else
            m_X12_allNear_42 p1 p2 (m_X12_allNear_9 p1 p2 n) v4 M
def m_X12_allNear (M : fp_Mem) (p1 : Int32) (p2 : Int32) : Option (Int32 × fp_Mem) :=
  fp_b1 (m_X12_findAway M) fun M_6 =>
  m_X12_allNear_9 p1 p2 fp_fu (nI 1) (nI 0) M_6
def m_X12_buildBy_103 (p1 : Int32) (p2 : Int32) (K12 : Int32 → Int32 → Int32 → Int32 → fp_Mem → Option (Int32 × fp_Mem)) (v3 : Int32) (v4 : Int32) (v6 : Int32) (s0 : Int32) (M : fp_Mem) : Option (Int32 × fp_Mem) :=
  fp_lt (v6 + (nI 1)) fun x_1 =>
  K12 v3 v4 s0 x_1 M
def m_X12_buildBy_102 (p1 : Int32) (p2 : Int32) (K12 : Int32 → Int32 → Int32 → Int32 → fp_Mem → Option (Int32 × fp_Mem)) (v3 : Int32) (v4 : Int32) (v6 : Int32) (M : fp_Mem) : Option (Int32 × fp_Mem) :=
  m_X12_buildBy_103 p1 p2 K12 v3 v4 v6 (nI 0) M
def m_X12_buildBy_79 (p1 : Int32) (p2 : Int32) (K12 : Int32 → Int32 → Int32 → Int32 → fp_Mem → Option (Int32 × fp_Mem)) (v3 : Int32) (v4 : Int32) (v5 : Int32) (v6 : Int32) (v7 : Int32) (s1 : Int32) (s2 : Int32) (s3 : Int32) (M : fp_Mem) : Option (Int32 × fp_Mem) :=
  fp_gd (fp_in s1 25) <|
  fp_lt (fp_set M 123 (Int32.toNatClampNeg s1) (s2 + s3)) fun M_3 =>
  if v5 = 0 then
    m_X12_buildBy_102 p1 p2 K12 v3 v4 v6 M_3
  else
    fp_gd (fp_in v7 25) <|
    if (nI 20) < (M_3 123 (Int32.toNatClampNeg v7)) then
      m_X12_buildBy_102 p1 p2 K12 v3 v4 v6 M_3
    else
      m_X12_buildBy_103 p1 p2 K12 v3 v4 v6 (nI 1) M_3
def m_X12_buildBy_55 (p1 : Int32) (p2 : Int32) (K12 : Int32 → Int32 → Int32 → Int32 → fp_Mem → Option (Int32 × fp_Mem)) (v3 : Int32) (v6 : Int32) (v7 : Int32) (s0 : Int32) (M : fp_Mem) : Option (Int32 × fp_Mem) :=
  fp_gd (fp_in v7 25) <|
  if s0 = 0 then
    m_X12_buildBy_79 p1 p2 K12 v3 v7 s0 v6 v7 v7 (M 123 (Int32.toNatClampNeg v7)) (nI 0) M
  else
    m_X12_buildBy_79 p1 p2 K12 v3 v7 s0 v6 v7 v7 (M 123 (Int32.toNatClampNeg v7)) (nI 1) M
def m_X12_buildBy_54 (p1 : Int32) (p2 : Int32) (K12 : Int32 → Int32 → Int32 → Int32 → fp_Mem → Option (Int32 × fp_Mem)) (v3 : Int32) (v6 : Int32) (v7 : Int32) (M : fp_Mem) : Option (Int32 × fp_Mem) :=
  m_X12_buildBy_55 p1 p2 K12 v3 v6 v7 (nI 0) M
def m_X12_buildBy_12 (p1 : Int32) (p2 : Int32) : Nat → Int32 → Int32 → Int32 → Int32 → fp_Mem → Option (Int32 × fp_Mem)
  | 0, _, _, _, _, _ => none
  | n + 1, v3, v4, v5, v6, M =>
    if p2 ≤ v6 then
      fp_gd (fp_zb v5) <|
      some (v5, M)
    else
      fp_lt (v3 - v3 / (nI 9) * (nI 9)) fun x_7 =>
      fp_lt (v3 / (nI 9)) fun x_8 =>
      if v5 = 0 then
        m_X12_buildBy_54 p1 p2 (m_X12_buildBy_12 p1 p2 n) x_8 v6 x_7 M
      else
        if v4 < x_7 then
          m_X12_buildBy_54 p1 p2 (m_X12_buildBy_12 p1 p2 n) x_8 v6 x_7 M
        else
          if (M 120 1) ≤ x_7 then
            m_X12_buildBy_54 p1 p2 (m_X12_buildBy_12 p1 p2 n) x_8 v6 x_7 M
          else
            m_X12_buildBy_55 p1 p2 (m_X12_buildBy_12 p1 p2 n) x_8 v6 x_7 (nI 1) M
def m_X12_buildBy (M : fp_Mem) (p1 : Int32) (p2 : Int32) : Option (Int32 × fp_Mem) :=
  m_X12_buildBy_12 p1 p2 fp_fu p1 (nI 9) (nI 1) (nI 0) M
def m_X12_findChairs_54 (p1 : Int32) (p2 : Int32) (K9 : Int32 → Int32 → fp_Mem → Option (Int32 × fp_Mem)) (K18 : Int32 → Int32 → Int32 → fp_Mem → Option (Int32 × fp_Mem)) : Nat → Int32 → Int32 → Int32 → Int32 → Int32 → fp_Mem → Option (Int32 × fp_Mem)
  | 0, _, _, _, _, _, _ => none
  | n + 1, v3, v4, v5, v6, v7, M =>
    if (nI 9) ≤ v7 then
      fp_b1 (m_X12_putBack M) fun M_1 =>
      if v6 = 0 then
        fp_lt (v5 + (nI 1)) fun x_3 =>
        K18 v3 v4 x_3 M_1
      else
        some (v4, M_1)
    else
      fp_gd (fp_in v7 25) <|
      fp_gd (fp_in v7 25) <|
      fp_gd (fp_in v7 9) <|
      fp_lt (fp_set M 133 (Int32.toNatClampNeg v7) ((M 123 (Int32.toNatClampNeg v7)) - (M 132 (Int32.toNatClampNeg v7)))) fun M_7 =>
      fp_lt (v7 + (nI 1)) fun x_8 =>
      m_X12_findChairs_54 p1 p2 K9 K18 n v3 v4 v5 v6 x_8 M_7
def m_X12_findChairs_49 (p1 : Int32) (p2 : Int32) (K9 : Int32 → Int32 → fp_Mem → Option (Int32 × fp_Mem)) (K18 : Int32 → Int32 → Int32 → fp_Mem → Option (Int32 × fp_Mem)) (v3 : Int32) (v4 : Int32) (v5 : Int32) (s0 : Int32) (M : fp_Mem) : Option (Int32 × fp_Mem) :=
  m_X12_findChairs_54 p1 p2 K9 K18 fp_fu v3 v4 v5 s0 (nI 0) M
def m_X12_findChairs_48 (p1 : Int32) (p2 : Int32) (K9 : Int32 → Int32 → fp_Mem → Option (Int32 × fp_Mem)) (K18 : Int32 → Int32 → Int32 → fp_Mem → Option (Int32 × fp_Mem)) (v3 : Int32) (v4 : Int32) (v5 : Int32) (M : fp_Mem) : Option (Int32 × fp_Mem) :=
  m_X12_findChairs_49 p1 p2 K9 K18 v3 v4 v5 (nI 0) M
def m_X12_findChairs_18 (p1 : Int32) (p2 : Int32) (K9 : Int32 → Int32 → fp_Mem → Option (Int32 × fp_Mem)) : Nat → Int32 → Int32 → Int32 → fp_Mem → Option (Int32 × fp_Mem)
  | 0, _, _, _, _ => none
  | n + 1, v3, v4, v5, M =>
    if v3 ≤ v5 then
      fp_lt (v3 * (nI 9)) fun x_9 =>
      fp_lt (v4 + (nI 1)) fun x_10 =>
      K9 x_9 x_10 M
    else
      fp_b2 (m_X12_buildBy M v5 v4) fun r_11 M_12 =>
      if r_11 = 0 then
        m_X12_findChairs_48 p1 p2 K9 (m_X12_findChairs_18 p1 p2 K9 n) v3 v4 v5 M_12
      else
        fp_b2 (m_X12_allNear M_12 p1 p2) fun r_14 M_15 =>
        if r_14 = 0 then
          m_X12_findChairs_48 p1 p2 K9 (m_X12_findChairs_18 p1 p2 K9 n) v3 v4 v5 M_15
        else
          m_X12_findChairs_49 p1 p2 K9 (m_X12_findChairs_18 p1 p2 K9 n) v3 v4 v5 (nI 1) M_15
def m_X12_findChairs_9 (p1 : Int32) (p2 : Int32) : Nat → Int32 → Int32 → fp_Mem → Option (Int32 × fp_Mem)
  | 0, _, _, _ => none
  | n + 1, v3, v4, M =>
    if (nI 5) ≤ v4 then
      some ((-1 : Int32), M)
    else
      m_X12_findChairs_18 p1 p2 (m_X12_findChairs_9 p1 p2 n) fp_fu v3 v4 (nI 0) M
def m_X12_findChairs (M : fp_Mem) (p1 : Int32) (p2 : Int32) : Option (Int32 × fp_Mem) :=
  fp_b1 (m_X12_save M) fun M_17 =>
  m_X12_findChairs_9 p1 p2 fp_fu (nI 1) (nI 0) M_17
def m_X12_chairs_31 (p1 : Int32) (p2 : Int32) (p3 : Int32) (M : fp_Mem) : Option (Int32 × fp_Mem) :=
  some ((-1000000001 : Int32), M)
def m_X12_chairs_78 (p1 : Int32) (p2 : Int32) (p3 : Int32) (s0 : Int32) (M : fp_Mem) : Option (Int32 × fp_Mem) :=
  some (s0, M)
def m_X12_chairs_67 (p1 : Int32) (p2 : Int32) (p3 : Int32) (v4 : Int32) (M : fp_Mem) : Option (Int32 × fp_Mem) :=
  m_X12_chairs_78 p1 p2 p3 v4 M
def m_X12_chairs_34 (p1 : Int32) (p2 : Int32) (p3 : Int32) (M : fp_Mem) : Option (Int32 × fp_Mem) :=
  fp_b1 (m_X12_in M (Int32.toInt64 p2) (lN 0) (lN 8)) fun r_1 =>
  if r_1 = 0 then
    some ((-1000000002 : Int32), M)
  else
    fp_b2 (m_X12_findChairs M p1 p2) fun r_3 M_4 =>
    if r_3 < 0 then
      m_X12_chairs_67 p1 p2 p3 r_3 M_4
    else
      if p3 = (-1 : Int32) then
        m_X12_chairs_67 p1 p2 p3 r_3 M_4
      else
        fp_gd (fp_in p3 9) <|
        m_X12_chairs_78 p1 p2 p3 (M_4 133 (Int32.toNatClampNeg p3)) M_4
def m_X12_chairs (M : fp_Mem) (p1 : Int32) (p2 : Int32) (p3 : Int32) : Option (Int32 × fp_Mem) :=
  fp_b1 (m_X12_in M (Int32.toInt64 p1) (lN 0) (Int32.toInt64 (((nI 1) <<< ((M 120 1) &&& 31)) - (nI 1)))) fun r_7 =>
  if r_7 = 0 then
    m_X12_chairs_31 p1 p2 p3 M
  else
    if p3 = (-1 : Int32) then
      m_X12_chairs_34 p1 p2 p3 M
    else
      fp_b1 (m_X12_isTable M p3) fun r_9 =>
      if r_9 = 0 then
        m_X12_chairs_31 p1 p2 p3 M
      else
        m_X12_chairs_34 p1 p2 p3 M
def m_X12_canSpread_101 (M : fp_Mem) (p1 : Int32) (p2 : Int32) (s0 : Int32) : Option (Int32) :=
  fp_gd (fp_zb s0) <|
  some s0
def m_X12_canSpread_100 (M : fp_Mem) (p1 : Int32) (p2 : Int32) : Option (Int32) :=
  m_X12_canSpread_101 M p1 p2 (nI 0)
def m_X12_canSpread_79 (M : fp_Mem) (p1 : Int32) (p2 : Int32) (K11 : Int32 → Int32 → Int32 → Int32 → Option (Int32)) (v3 : Int32) (v4 : Int32) (v5 : Int32) (v6 : Int32) : Option (Int32) :=
  fp_lt (v6 + (nI 1)) fun x_2 =>
  K11 v3 v4 v5 x_2
def m_X12_canSpread_50 (M : fp_Mem) (p1 : Int32) (p2 : Int32) (K11 : Int32 → Int32 → Int32 → Int32 → Option (Int32)) (v3 : Int32) (v4 : Int32) (v6 : Int32) (s0 : Int32) : Option (Int32) :=
  fp_gd (fp_in v6 25) <|
  fp_lt (v3 + ((M 123 (Int32.toNatClampNeg v6)) - p2)) fun x_4 =>
  fp_gd (fp_in ((nI 9) + v6) 25) <|
  fp_lt (v4 + (M 123 (Int32.toNatClampNeg ((nI 9) + v6)))) fun x_6 =>
  m_X12_canSpread_79 M p1 p2 K11 x_4 x_6 s0 v6
def m_X12_canSpread_49 (M : fp_Mem) (p1 : Int32) (p2 : Int32) (K11 : Int32 → Int32 → Int32 → Int32 → Option (Int32)) (v3 : Int32) (v4 : Int32) (v6 : Int32) : Option (Int32) :=
  m_X12_canSpread_50 M p1 p2 K11 v3 v4 v6 (nI 0)
def m_X12_canSpread_11 (M : fp_Mem) (p1 : Int32) (p2 : Int32) : Nat → Int32 → Int32 → Int32 → Int32 → Option (Int32)
  | 0, _, _, _, _ => none
  | n + 1, v3, v4, v5, v6 =>
    if (M 120 1) ≤ v6 then
      if v5 = 0 then
        m_X12_canSpread_100 M p1 p2
      else
        if v3 < v4 then
          m_X12_canSpread_100 M p1 p2
        else
          m_X12_canSpread_101 M p1 p2 (nI 1)
    else
      fp_b1 (m_X12_has M p1 v6) fun r_7 =>
      if r_7 = 0 then
        m_X12_canSpread_79 M p1 p2 (m_X12_canSpread_11 M p1 p2 n) v3 v4 v5 v6
      else
        if v5 = 0 then
          m_X12_canSpread_49 M p1 p2 (m_X12_canSpread_11 M p1 p2 n) v3 v4 v6
        else
          fp_gd (fp_in v6 25) <|
          if (M 123 (Int32.toNatClampNeg v6)) < p2 then
            m_X12_canSpread_49 M p1 p2 (m_X12_canSpread_11 M p1 p2 n) v3 v4 v6
          else
            m_X12_canSpread_50 M p1 p2 (m_X12_canSpread_11 M p1 p2 n) v3 v4 v6 (nI 1)
def m_X12_canSpread (M : fp_Mem) (p1 : Int32) (p2 : Int32) : Option (Int32) :=
  m_X12_canSpread_11 M p1 p2 fp_fu (nI 0) (nI 0) (nI 1) (nI 0)
def m_X12_spread_19 (M : fp_Mem) (p1 : Int32) : Nat → Int32 → Int32 → Option (Int32)
  | 0, _, _ => none
  | n + 1, v2, v3 =>
    fp_b1 (m_X12_canSpread M v2 (v3 + (nI 1))) fun r_1 =>
    if r_1 = 0 then
      some v3
    else
      fp_lt (v3 + (nI 1)) fun x_3 =>
      m_X12_spread_19 M p1 n v2 x_3
def m_X12_spread (M : fp_Mem) (p1 : Int32) : Option (Int32) :=
  fp_b1 (m_X12_isTable M p1) fun r_4 =>
  if r_4 = 0 then
    some (-1000000001 : Int32)
  else
    fp_b1 (m_X12_together M p1) fun r_6 =>
    m_X12_spread_19 M p1 fp_fu r_6 (nI 0)
def m_X12_quiet_24 (M : fp_Mem) (p1 : Int32) (p2 : Int32) : Option (Int32) :=
  some (-1000000002 : Int32)
def m_X12_quiet_34 (M : fp_Mem) (p1 : Int32) (p2 : Int32) : Nat → Int64 → Int32 → Option (Int32)
  | 0, _, _ => none
  | n + 1, v3, v5 =>
    if p1 ≤ v5 then
      some (Int64.toInt32 v3)
    else
      fp_lt ((v3 * (Int32.toInt64 ((nI 100) - p2))) / (lN 100)) fun x_1 =>
      fp_lt (v5 + (nI 1)) fun x_2 =>
      m_X12_quiet_34 M p1 p2 n x_1 x_2
def m_X12_quiet (M : fp_Mem) (p1 : Int32) (p2 : Int32) : Option (Int32) :=
  fp_b1 (m_X12_in M (Int32.toInt64 p1) (lN 0) (lN 60)) fun r_3 =>
  if r_3 = 0 then
    m_X12_quiet_24 M p1 p2
  else
    fp_b1 (m_X12_in M (Int32.toInt64 p2) (lN 0) (lN 100)) fun r_5 =>
    if r_5 = 0 then
      m_X12_quiet_24 M p1 p2
    else
      m_X12_quiet_34 M p1 p2 fp_fu (lN 1000000000) (nI 0)
def m_X12_see (M : fp_Mem) (p1 : Int32) (p2 : Int32) : Option (Int32 × fp_Mem) :=
  fp_b1 (m_X12_isTable M p1) fun r_1 =>
  if r_1 = 0 then
    some ((-1000000001 : Int32), M)
  else
    if (M 120 27) = (nI 6) then
      some ((-1000000004 : Int32), M)
    else
      fp_gd (fp_in (M 120 27) 6) <|
      fp_lt (fp_set M 134 (Int32.toNatClampNeg (M 120 27)) p1) fun M_4 =>
      fp_gd (fp_in (M_4 120 27) 6) <|
      fp_lt (fp_set M_4 135 (Int32.toNatClampNeg (M_4 120 27)) (vp_nar .boolean p2)) fun M_6 =>
      fp_lt (fp_set M_6 120 27 ((M_6 120 27) + (nI 1))) fun M_7 =>
      some ((M_7 120 27), M_7)
def m_X12_movers_4 (M : fp_Mem) (p1 : Int32) : Nat → Int32 → Int32 → Option (Int32)
  | 0, _, _ => none
  | n + 1, v2, v3 =>
    fp_gd (fp_in v3 9) <|
    if (M 130 (Int32.toNatClampNeg v3)) ≤ 0 then
      some v2
    else
      fp_lt (v2 ||| ((nI 1) <<< (v3 &&& 31))) fun x_2 =>
      fp_b1 (m_X12_nextOf M v3) fun r_3 =>
      m_X12_movers_4 M p1 n x_2 r_3
def m_X12_movers (M : fp_Mem) (p1 : Int32) : Option (Int32) :=
  m_X12_movers_4 M p1 fp_fu (nI 0) p1
def m_X12_couldCome_99 (K8 : Int32 → Int32 → fp_Mem → Option (Int32 × fp_Mem)) (v2 : Int32) (s0 : Int32) (s1 : Int32) (M : fp_Mem) : Option (Int32 × fp_Mem) :=
  fp_lt (s0 ||| s1) fun x_1 =>
  fp_lt (v2 + (nI 1)) fun x_2 =>
  K8 x_1 x_2 M
def m_X12_couldCome_87 (K8 : Int32 → Int32 → fp_Mem → Option (Int32 × fp_Mem)) (v1 : Int32) (v2 : Int32) (v3 : Int32) (M : fp_Mem) : Option (Int32 × fp_Mem) :=
  if v3 = 0 then
    m_X12_couldCome_99 K8 v2 v1 (nI 0) M
  else
    m_X12_couldCome_99 K8 v2 v1 ((nI 1) <<< (v2 &&& 31)) M
def m_X12_couldCome_80 (K8 : Int32 → Int32 → fp_Mem → Option (Int32 × fp_Mem)) (K37 : Int32 → Int32 → Int32 → Int32 → fp_Mem → Option (Int32 × fp_Mem)) (v1 : Int32) (v2 : Int32) (v4 : Int32) (s0 : Int32) (M : fp_Mem) : Option (Int32 × fp_Mem) :=
  fp_lt (v4 + (nI 1)) fun x_3 =>
  K37 v1 v2 s0 x_3 M
def m_X12_couldCome_37 (K8 : Int32 → Int32 → fp_Mem → Option (Int32 × fp_Mem)) : Nat → Int32 → Int32 → Int32 → Int32 → fp_Mem → Option (Int32 × fp_Mem)
  | 0, _, _, _, _, _ => none
  | n + 1, v1, v2, v3, v4, M =>
    if (M 120 27) ≤ v4 then
      m_X12_couldCome_87 K8 v1 v2 v3 M
    else
      if v3 = 0 then
        m_X12_couldCome_87 K8 v1 v2 v3 M
      else
        fp_b1 (m_X12_movers M v2) fun r_4 =>
        fp_gd (fp_in v4 6) <|
        fp_b1 (m_X12_has M r_4 (M 134 (Int32.toNatClampNeg v4))) fun r_7 =>
        fp_gd (fp_in v4 6) <|
        if r_7 = (M 135 (Int32.toNatClampNeg v4)) then
          m_X12_couldCome_80 K8 (m_X12_couldCome_37 K8 n) v1 v2 v4 (nI 1) M
        else
          m_X12_couldCome_80 K8 (m_X12_couldCome_37 K8 n) v1 v2 v4 (nI 0) M
def m_X12_couldCome_33 (K8 : Int32 → Int32 → fp_Mem → Option (Int32 × fp_Mem)) (v1 : Int32) (v2 : Int32) (s0 : Int32) (M : fp_Mem) : Option (Int32 × fp_Mem) :=
  m_X12_couldCome_37 K8 fp_fu v1 v2 s0 (nI 0) M
def m_X12_couldCome_8  : Nat → Int32 → Int32 → fp_Mem → Option (Int32 × fp_Mem)
  | 0, _, _, _ => none
  | n + 1, v1, v2, M =>
    if (M 120 1) ≤ v2 then
      some (v1, M)
    else
      fp_gd (fp_in v2 9) <|
      if (nI 1000) ≤ (M 130 (Int32.toNatClampNeg v2)) then
        m_X12_couldCome_33 (m_X12_couldCome_8 n) v1 v2 (nI 0) M
      else
        m_X12_couldCome_33 (m_X12_couldCome_8 n) v1 v2 (nI 1) M
def m_X12_couldCome (M : fp_Mem) : Option (Int32 × fp_Mem) :=
  fp_b1 (m_X12_findAway M) fun M_11 =>
  m_X12_couldCome_8 fp_fu (nI 0) (nI 0) M_11
def m_X12_came (M : fp_Mem) : Option (Int32 × fp_Mem) :=
  fp_b2 (m_X12_couldCome M) fun r_1 M_2 =>
  some (r_1, M_2)
def m_X12_look_129 (K18 : Int32 → Int32 → Int32 → Int32 → Int32 → fp_Mem → Option (Int32 × fp_Mem)) (v1 : Int32) (v2 : Int32) (v3 : Int32) (v5 : Int32) (s0 : Int32) (M : fp_Mem) : Option (Int32 × fp_Mem) :=
  fp_lt (v5 + (nI 1)) fun x_1 =>
  K18 v1 v2 v3 s0 x_1 M
def m_X12_look_114 (K18 : Int32 → Int32 → Int32 → Int32 → Int32 → fp_Mem → Option (Int32 × fp_Mem)) (v1 : Int32) (v2 : Int32) (v4 : Int32) (v5 : Int32) (v7 : Int32) (s0 : Int32) (M : fp_Mem) : Option (Int32 × fp_Mem) :=
  if v4 ≤ v7 then
    m_X12_look_129 K18 v1 v2 s0 v5 v4 M
  else
    m_X12_look_129 K18 v1 v2 s0 v5 v7 M
def m_X12_look_99 (K18 : Int32 → Int32 → Int32 → Int32 → Int32 → fp_Mem → Option (Int32 × fp_Mem)) (v1 : Int32) (v2 : Int32) (v3 : Int32) (v4 : Int32) (v5 : Int32) (s0 : Int32) (M : fp_Mem) : Option (Int32 × fp_Mem) :=
  if v4 ≤ s0 then
    m_X12_look_114 K18 v1 v2 v4 v5 s0 v3 M
  else
    m_X12_look_114 K18 v1 v2 v4 v5 s0 v5 M
def m_X12_look_72 (K18 : Int32 → Int32 → Int32 → Int32 → Int32 → fp_Mem → Option (Int32 × fp_Mem)) (K33 : Int32 → Int32 → Int32 → Int32 → Int32 → Int32 → Int32 → fp_Mem → Option (Int32 × fp_Mem)) (v1 : Int32) (v2 : Int32) (v3 : Int32) (v4 : Int32) (v5 : Int32) (v7 : Int32) (s0 : Int32) (s1 : Int32) (M : fp_Mem) : Option (Int32 × fp_Mem) :=
  fp_lt (s0 + s1) fun x_2 =>
  fp_lt (v7 + (nI 1)) fun x_3 =>
  K33 v1 v2 v3 v4 v5 x_2 x_3 M
def m_X12_look_71 (K18 : Int32 → Int32 → Int32 → Int32 → Int32 → fp_Mem → Option (Int32 × fp_Mem)) (K33 : Int32 → Int32 → Int32 → Int32 → Int32 → Int32 → Int32 → fp_Mem → Option (Int32 × fp_Mem)) (v1 : Int32) (v2 : Int32) (v3 : Int32) (v4 : Int32) (v5 : Int32) (v7 : Int32) (s0 : Int32) (M : fp_Mem) : Option (Int32 × fp_Mem) :=
  m_X12_look_72 K18 K33 v1 v2 v3 v4 v5 v7 s0 (nI 0) M
def m_X12_look_33 (K18 : Int32 → Int32 → Int32 → Int32 → Int32 → fp_Mem → Option (Int32 × fp_Mem)) : Nat → Int32 → Int32 → Int32 → Int32 → Int32 → Int32 → Int32 → fp_Mem → Option (Int32 × fp_Mem)
  | 0, _, _, _, _, _, _, _, _ => none
  | n + 1, v1, v2, v3, v4, v5, v6, v7, M =>
    if (M 120 1) ≤ v7 then
      if v6 ≤ (v2 - v6) then
        m_X12_look_99 K18 v1 v2 v3 v4 v5 (v2 - v6) M
      else
        m_X12_look_99 K18 v1 v2 v3 v4 v5 v6 M
    else
      fp_b1 (m_X12_has M v1 v7) fun r_4 =>
      if r_4 = 0 then
        m_X12_look_71 K18 (m_X12_look_33 K18 n) v1 v2 v3 v4 v5 v7 v6 M
      else
        fp_b1 (m_X12_movers M v7) fun r_6 =>
        fp_b1 (m_X12_has M r_6 v5) fun r_8 =>
        if r_8 = 0 then
          m_X12_look_71 K18 (m_X12_look_33 K18 n) v1 v2 v3 v4 v5 v7 v6 M
        else
          m_X12_look_72 K18 (m_X12_look_33 K18 n) v1 v2 v3 v4 v5 v7 v6 (nI 1) M
def m_X12_look_18  : Nat → Int32 → Int32 → Int32 → Int32 → Int32 → fp_Mem → Option (Int32 × fp_Mem)
  | 0, _, _, _, _, _, _ => none
  | n + 1, v1, v2, v3, v4, v5, M =>
    if (M 120 1) ≤ v5 then
      some (v3, M)
    else
      m_X12_look_33 (m_X12_look_18 n) fp_fu v1 v2 v3 v4 v5 (nI 0) (nI 0) M
def m_X12_look (M : fp_Mem) : Option (Int32 × fp_Mem) :=
  fp_b2 (m_X12_couldCome M) fun r_10 M_11 =>
  fp_b1 (m_X12_bits M_11 r_10) fun r_13 =>
  m_X12_look_18 fp_fu r_10 r_13 (-1 : Int32) r_13 (nI 0) M_11
def m_X12_write (M : fp_Mem) (p1 : Int32) (p2 : Int32) : Option (Int32 × fp_Mem) :=
  fp_b1 (m_X12_isTable M p1) fun r_1 =>
  if r_1 = 0 then
    some ((-1000000001 : Int32), M)
  else
    fp_b1 (m_X12_in M (Int32.toInt64 p2) (lN 0) (lN 20)) fun r_3 =>
    if r_3 = 0 then
      some ((-1000000002 : Int32), M)
    else
      if (M 120 30) = (nI 15) then
        some ((-1000000004 : Int32), M)
      else
        fp_gd (fp_in (M 120 30) 15) <|
        fp_lt (fp_set M 136 (Int32.toNatClampNeg (M 120 30)) p1) fun M_6 =>
        fp_gd (fp_in (M_6 120 30) 15) <|
        fp_lt (fp_set M_6 137 (Int32.toNatClampNeg (M_6 120 30)) p2) fun M_8 =>
        fp_lt (fp_set M_8 120 30 ((M_8 120 30) + (nI 1))) fun M_9 =>
        some ((M_9 120 30), M_9)
def m_X12_tear (M : fp_Mem) : Option (Int32 × fp_Mem) :=
  fp_lt ((M 120 27) + (M 120 30)) fun x_1 =>
  fp_lt (fp_set M 120 27 (nI 0)) fun M_2 =>
  fp_lt (fp_set M_2 120 30 (nI 0)) fun M_3 =>
  some (x_1, M_3)
def m_X12_judge_2 (M : fp_Mem) : Nat → Int32 → Option (Int32)
  | 0, _ => none
  | n + 1, v1 =>
    if (M 120 30) ≤ v1 then
      some (-1 : Int32)
    else
      fp_gd (fp_in v1 15) <|
      fp_gd (fp_in ((nI 9) + (M 136 (Int32.toNatClampNeg v1))) 25) <|
      fp_gd (fp_in v1 15) <|
      if (M 123 (Int32.toNatClampNeg ((nI 9) + (M 136 (Int32.toNatClampNeg v1))))) = (M 137 (Int32.toNatClampNeg v1)) then
        fp_lt (v1 + (nI 1)) fun x_4 =>
        m_X12_judge_2 M n x_4
      else
        some v1
def m_X12_judge (M : fp_Mem) : Option (Int32) :=
  m_X12_judge_2 M fp_fu (nI 0)
def m_X12_seed (M : fp_Mem) (p1 : Int32) : Option (Int32 × fp_Mem) :=
  if 0 ≤ p1 then
    fp_lt (M 120 6) fun x_1 =>
    fp_lt (fp_set M 120 6 p1) fun M_2 =>
    some (x_1, M_2)
  else
    some ((-1000000002 : Int32), M)
def m_X12_keep_15 (p1 : Int32) : Nat → Int32 → fp_Mem → Option (Int32 × fp_Mem)
  | 0, _, _ => none
  | n + 1, v2, M =>
    if (nI 25) ≤ v2 then
      fp_gd (fp_in (((nI 26) * p1) + (nI 25)) 52) <|
      fp_lt (fp_set M 138 (Int32.toNatClampNeg (((nI 26) * p1) + (nI 25))) (M 120 6)) fun M_2 =>
      fp_gd (fp_in p1 2) <|
      fp_lt (fp_set M_2 139 (Int32.toNatClampNeg p1) (vp_nar .boolean (nI 1))) fun M_4 =>
      fp_lt (fp_set M_4 120 23 (nI 0)) fun M_5 =>
      some ((nI 1), M_5)
    else
      fp_gd (fp_in v2 25) <|
      fp_gd (fp_in (((nI 26) * p1) + v2) 52) <|
      fp_lt (fp_set M 138 (Int32.toNatClampNeg (((nI 26) * p1) + v2)) (M 123 (Int32.toNatClampNeg v2))) fun M_8 =>
      fp_lt (v2 + (nI 1)) fun x_9 =>
      m_X12_keep_15 p1 n x_9 M_8
def m_X12_keep (M : fp_Mem) (p1 : Int32) : Option (Int32 × fp_Mem) :=
  fp_b1 (m_X12_in M (Int32.toInt64 p1) (lN 0) (lN 1)) fun r_10 =>
  if r_10 = 0 then
    some ((-1000000001 : Int32), M)
  else
    m_X12_keep_15 p1 fp_fu (nI 0) M
def m_X12_goBack_27 (p1 : Int32) : Nat → Int32 → fp_Mem → Option (Int32 × fp_Mem)
  | 0, _, _ => none
  | n + 1, v2, M =>
    if (nI 25) ≤ v2 then
      fp_gd (fp_in (((nI 26) * p1) + (nI 25)) 52) <|
      fp_lt (fp_set M 120 6 (M 138 (Int32.toNatClampNeg (((nI 26) * p1) + (nI 25))))) fun M_2 =>
      fp_lt (fp_set M_2 120 23 (nI 0)) fun M_3 =>
      some ((nI 1), M_3)
    else
      fp_gd (fp_in (((nI 26) * p1) + v2) 52) <|
      fp_gd (fp_in v2 25) <|
      fp_lt (fp_set M 123 (Int32.toNatClampNeg v2) (M 138 (Int32.toNatClampNeg (((nI 26) * p1) + v2)))) fun M_6 =>
      fp_lt (v2 + (nI 1)) fun x_7 =>
      m_X12_goBack_27 p1 n x_7 M_6
def m_X12_goBack (M : fp_Mem) (p1 : Int32) : Option (Int32 × fp_Mem) :=
  fp_b1 (m_X12_in M (Int32.toInt64 p1) (lN 0) (lN 1)) fun r_8 =>
  if r_8 = 0 then
    some ((-1000000001 : Int32), M)
  else
    fp_gd (fp_in p1 2) <|
    if (M 139 (Int32.toNatClampNeg p1)) = 0 then
      some ((-1000000003 : Int32), M)
    else
      m_X12_goBack_27 p1 fp_fu (nI 0) M
