/-! ===== which numbers of cells are what ===== -/
abbrev Ar6 (k : Nat) : Prop := k < 80 ∧ kd k = 8 ∧ ln k = 6
abbrev Arr (k : Nat) : Prop := k < 80 ∧ kd k = 8
abbrev Scn (k : Nat) : Prop := k < 80 ∧ kd k = 3 ∧ Ar6 (k + 1) ∧ Ar6 (k + 2)
abbrev Frm (k : Nat) : Prop := k < 80 ∧ kd k = 1 ∧ Ar6 (k + 1) ∧ Ar6 (k + 2) ∧ Ar6 (k + 3) ∧ Ar6 (k + 4) ∧ Ar6 (k + 5)
theorem scn_15 : Scn 15 := by decide +kernel
theorem scn_18 : Scn 18 := by decide +kernel
theorem frm_3 : Frm 3 := by decide +kernel
theorem frm_9 : Frm 9 := by decide +kernel
theorem arr_68 : Arr 68 := by decide +kernel
theorem arr_69 : Arr 69 := by decide +kernel
theorem arr_70 : Arr 70 := by decide +kernel
theorem arr_71 : Arr 71 := by decide +kernel
theorem arr_72 : Arr 72 := by decide +kernel
theorem arr_73 : Arr 73 := by decide +kernel
theorem arr_78 : Arr 78 := by decide +kernel
theorem arr_79 : Arr 79 := by decide +kernel
theorem sc22 : ∀ j, j < 10 → Scn (22 + 1 + 3 * j) := by decide +kernel
theorem sc53 : ∀ j, j < 2 → Scn (53 + 1 + 3 * j) := by decide +kernel
/-! ===== the methods as functions over the store (printed by wip/gen/p05.py out of the decoded instructions) ===== -/
def M_X0_hangFrom_L50 (x1 : Int32) (x2 : Int32) (x3 : Int32) (rec : Int32 → Int32 → Int32 → St → Option (Int32 × St)) (kk : St → Option (Int32 × St)) : Nat → Int32 → St → Option (Int32 × St)
  | 0, _, _ => none
  | fu + 1, x4, s =>
    if (s.1 9 0) ≤ x4 then (
      kk s) else (
      jn (κ := St → Option (Int32 × St)) (fun s6 =>
        M_X0_hangFrom_L50 x1 x2 x3 rec kk fu (x4 + (1)) s6) fun kj5 =>
        if x4 = x1 then (
          kj5 s) else (
          if ((x2 >>> (x4 &&& 31)) &&& (1)) = 0 then (
            wr s 63 6 x1 x4 fun s7 =>
            rd s7 10 6 x1 fun v8 =>
            rd s7 10 6 x4 fun v9 =>
            cl (rec (x1 + (1)) (x2 ||| ((1) <<< (x4 &&& 31))) (x3 + (if 0 ≤ (v8 - v9) then (v8 - v9) else 0 - (v8 - v9))) s7) fun r10 s11 =>
            kj5 s11) else (
            kj5 s)))
def M_X0_hangFrom : Nat → Int32 → Int32 → Int32 → St → Option (Int32 × St)
  | 0, _, _, _, _ => none
  | fu + 1, a1, a2, a3, s =>
    if a3 < (s.1 61 1) then (
      jn (κ := St → Option (Int32 × St)) (fun s2 =>
        pu s2 61 1 a3 fun s3 =>
        cp s3 63 62 6 fun s4 =>
        some (0, s4)) fun kj1 =>
        if (s.1 9 0) ≤ a1 then (
          kj1 s) else (
          if a1 < (6) then (
            M_X0_hangFrom_L50 a1 a2 a3 (M_X0_hangFrom fu) (fun s12 =>
              some (0, s12)) 400 (0) s) else (
            kj1 s))) else (
      some (0, s))
def M_X0_search (s : St) : Option (Int32 × St) :=
  pu s 61 1 (181) fun s1 =>
  cl (M_X0_hangFrom 9 (0) (0) (0) s1) fun r2 s3 =>
  some (0, s3)
def M_X1_has (k : Nat) (a1 : Int32) (s : St) : Option (Int32 × St) :=
  if a1 < 0 then (
    some (0, s)) else (
    if (s.1 k 0) ≤ a1 then (
      some (0, s)) else (
      some (1, s)))
def M_X1_everyone (k : Nat) (s : St) : Option (Int32 × St) :=
  some ((((1) <<< ((s.1 k 0) &&& 31)) - (1)), s)
def M_X1_copyFrom_L10 (k : Nat) (k1 : Nat) (kk : St → Option (Int32 × St)) : Nat → Int32 → St → Option (Int32 × St)
  | 0, _, _ => none
  | fu + 1, x2, s =>
    if (6) ≤ x2 then (
      kk s) else (
      rd s (k1 + 1) 6 x2 fun v2 =>
      wr s (k + 1) 6 x2 v2 fun s3 =>
      rd s3 (k1 + 2) 6 x2 fun v4 =>
      wr s3 (k + 2) 6 x2 v4 fun s5 =>
      rd s5 (k1 + 3) 6 x2 fun v6 =>
      wr s5 (k + 3) 6 x2 v6 fun s7 =>
      rd s7 (k1 + 4) 6 x2 fun v8 =>
      wr s7 (k + 4) 6 x2 v8 fun s9 =>
      rd s9 (k1 + 5) 6 x2 fun v10 =>
      wr s9 (k + 5) 6 x2 v10 fun s11 =>
      M_X1_copyFrom_L10 k k1 kk fu (x2 + (1)) s11)
def M_X1_copyFrom (k : Nat) (k1 : Nat) (s : St) : Option (Int32 × St) :=
  pu s k 0 (s.1 k1 0) fun s1 =>
  M_X1_copyFrom_L10 k k1 (fun s12 =>
    some (0, s12)) 400 (0) s1
def M_X1_keepersAreThere_L2 (k : Nat) (kk : St → Option (Int32 × St)) : Nat → Int32 → St → Option (Int32 × St)
  | 0, _, _ => none
  | fu + 1, x1, s =>
    if (s.1 k 0) ≤ x1 then (
      kk s) else (
      rd s (k + 5) 6 x1 fun v1 =>
      cl (M_X1_has k v1 s) fun r2 s3 =>
      if r2 = 0 then (
        some (0, s3)) else (
        M_X1_keepersAreThere_L2 k kk fu (x1 + (1)) s3))
def M_X1_keepersAreThere (k : Nat) (s : St) : Option (Int32 × St) :=
  M_X1_keepersAreThere_L2 k (fun s4 =>
    some (1, s4)) 400 (0) s
def M_J6_bitCount_0f7a4 (a0 : Int32) (s : St) : Option (Int32 × St) :=
  some (((((((((a0 - (((a0).toUInt32 >>> (((1) : Int32).toUInt32 &&& Int32.toUInt32 31)).toInt32 &&& (1431655765))) &&& (858993459)) + ((((a0 - (((a0).toUInt32 >>> (((1) : Int32).toUInt32 &&& Int32.toUInt32 31)).toInt32 &&& (1431655765)))).toUInt32 >>> (((2) : Int32).toUInt32 &&& Int32.toUInt32 31)).toInt32 &&& (858993459))) + (((((a0 - (((a0).toUInt32 >>> (((1) : Int32).toUInt32 &&& Int32.toUInt32 31)).toInt32 &&& (1431655765))) &&& (858993459)) + ((((a0 - (((a0).toUInt32 >>> (((1) : Int32).toUInt32 &&& Int32.toUInt32 31)).toInt32 &&& (1431655765)))).toUInt32 >>> (((2) : Int32).toUInt32 &&& Int32.toUInt32 31)).toInt32 &&& (858993459)))).toUInt32 >>> (((4) : Int32).toUInt32 &&& Int32.toUInt32 31)).toInt32) &&& (252645135)) + (((((((a0 - (((a0).toUInt32 >>> (((1) : Int32).toUInt32 &&& Int32.toUInt32 31)).toInt32 &&& (1431655765))) &&& (858993459)) + ((((a0 - (((a0).toUInt32 >>> (((1) : Int32).toUInt32 &&& Int32.toUInt32 31)).toInt32 &&& (1431655765)))).toUInt32 >>> (((2) : Int32).toUInt32 &&& Int32.toUInt32 31)).toInt32 &&& (858993459))) + (((((a0 - (((a0).toUInt32 >>> (((1) : Int32).toUInt32 &&& Int32.toUInt32 31)).toInt32 &&& (1431655765))) &&& (858993459)) + ((((a0 - (((a0).toUInt32 >>> (((1) : Int32).toUInt32 &&& Int32.toUInt32 31)).toInt32 &&& (1431655765)))).toUInt32 >>> (((2) : Int32).toUInt32 &&& Int32.toUInt32 31)).toInt32 &&& (858993459)))).toUInt32 >>> (((4) : Int32).toUInt32 &&& Int32.toUInt32 31)).toInt32) &&& (252645135))).toUInt32 >>> (((8) : Int32).toUInt32 &&& Int32.toUInt32 31)).toInt32) + ((((((((a0 - (((a0).toUInt32 >>> (((1) : Int32).toUInt32 &&& Int32.toUInt32 31)).toInt32 &&& (1431655765))) &&& (858993459)) + ((((a0 - (((a0).toUInt32 >>> (((1) : Int32).toUInt32 &&& Int32.toUInt32 31)).toInt32 &&& (1431655765)))).toUInt32 >>> (((2) : Int32).toUInt32 &&& Int32.toUInt32 31)).toInt32 &&& (858993459))) + (((((a0 - (((a0).toUInt32 >>> (((1) : Int32).toUInt32 &&& Int32.toUInt32 31)).toInt32 &&& (1431655765))) &&& (858993459)) + ((((a0 - (((a0).toUInt32 >>> (((1) : Int32).toUInt32 &&& Int32.toUInt32 31)).toInt32 &&& (1431655765)))).toUInt32 >>> (((2) : Int32).toUInt32 &&& Int32.toUInt32 31)).toInt32 &&& (858993459)))).toUInt32 >>> (((4) : Int32).toUInt32 &&& Int32.toUInt32 31)).toInt32) &&& (252645135)) + (((((((a0 - (((a0).toUInt32 >>> (((1) : Int32).toUInt32 &&& Int32.toUInt32 31)).toInt32 &&& (1431655765))) &&& (858993459)) + ((((a0 - (((a0).toUInt32 >>> (((1) : Int32).toUInt32 &&& Int32.toUInt32 31)).toInt32 &&& (1431655765)))).toUInt32 >>> (((2) : Int32).toUInt32 &&& Int32.toUInt32 31)).toInt32 &&& (858993459))) + (((((a0 - (((a0).toUInt32 >>> (((1) : Int32).toUInt32 &&& Int32.toUInt32 31)).toInt32 &&& (1431655765))) &&& (858993459)) + ((((a0 - (((a0).toUInt32 >>> (((1) : Int32).toUInt32 &&& Int32.toUInt32 31)).toInt32 &&& (1431655765)))).toUInt32 >>> (((2) : Int32).toUInt32 &&& Int32.toUInt32 31)).toInt32 &&& (858993459)))).toUInt32 >>> (((4) : Int32).toUInt32 &&& Int32.toUInt32 31)).toInt32) &&& (252645135))).toUInt32 >>> (((8) : Int32).toUInt32 &&& Int32.toUInt32 31)).toInt32)).toUInt32 >>> (((16) : Int32).toUInt32 &&& Int32.toUInt32 31)).toInt32) &&& (63)), s)
def M_X1_askedBehind_L11 (k : Nat) (x2 : Int32) (x3 : Int32) (kk : Int32 → St → Option (Int32 × St)) : Nat → Int32 → Int32 → St → Option (Int32 × St)
  | 0, _, _, _ => none
  | fu + 1, x4, x5, s =>
    if (s.1 k 0) ≤ x5 then (
      kk x4 s) else (
      rd s (k + 3) 6 x5 fun v3 =>
      jn (κ := Int32 → St → Option (Int32 × St)) (fun v5 s6 =>
        M_X1_askedBehind_L11 k x2 x3 kk fu v5 (x5 + (1)) s6) fun kj4 =>
        jn (κ := St → Option (Int32 × St)) (fun s8 =>
          kj4 (x4 ||| ((1) <<< (x5 &&& 31))) s8) fun kj7 =>
          if v3 ≤ x2 then (
            kj7 s) else (
            rd s (k + 4) 6 x5 fun v9 =>
            if x3 < v9 then (
              kj4 x4 s) else (
              kj7 s)))
def M_X1_askedBehind (k : Nat) (a1 : Int32) (a2 : Int32) (s : St) : Option (Int32 × St) :=
  cl (M_J6_bitCount_0f7a4 a1 s) fun r1 s2 =>
  M_X1_askedBehind_L11 k a2 r1 (fun v10 s11 =>
    some (v10, s11)) 400 a1 (0) s2
def M_X3_copyFrom_L18 (k : Nat) (k1 : Nat) (kk : St → Option (Int32 × St)) : Nat → Int32 → St → Option (Int32 × St)
  | 0, _, _ => none
  | fu + 1, x2, s =>
    if (6) ≤ x2 then (
      kk s) else (
      rd s (k1 + 1) 6 x2 fun v3 =>
      wr s (k + 1) 6 x2 v3 fun s4 =>
      rd s4 (k1 + 2) 6 x2 fun v5 =>
      wr s4 (k + 2) 6 x2 v5 fun s6 =>
      M_X3_copyFrom_L18 k k1 kk fu (x2 + (1)) s6)
def M_X3_copyFrom (k : Nat) (k1 : Nat) (s : St) : Option (Int32 × St) :=
  pu s k 1 (s.1 k1 1) fun s1 =>
  pu s1 k 2 (s1.1 k1 2) fun s2 =>
  M_X3_copyFrom_L18 k k1 (fun s7 =>
    some (0, s7)) 400 (0) s2
def M_X2_push (k1 : Nat) (s : St) : Option (Int32 × St) :=
  ra 22 10 (s.1 21 1) fun j1 =>
  cl (M_X3_copyFrom j1 k1 s) fun r2 s3 =>
  jn (κ := Int32 → St → Option (Int32 × St)) (fun v5 s6 =>
    pu s6 21 1 v5 fun s7 =>
    pu s7 21 2 (if (10) < ((s7.1 21 2) + (1)) then (10) else ((s7.1 21 2) + (1))) fun s8 =>
    some (0, s8)) fun kj4 =>
    if (s3.1 21 1) = (9) then (
      kj4 (0) s3) else (
      kj4 ((s3.1 21 1) + (1)) s3)
def M_X2_pop (k1 : Nat) (s : St) : Option (Int32 × St) :=
  jn (κ := Int32 → St → Option (Int32 × St)) (fun v2 s3 =>
    pu s3 21 1 v2 fun s4 =>
    pu s4 21 2 ((s4.1 21 2) - (1)) fun s5 =>
    ra 22 10 (s5.1 21 1) fun j6 =>
    cl (M_X3_copyFrom k1 j6 s5) fun r7 s8 =>
    some (0, s8)) fun kj1 =>
    if (s.1 21 1) = 0 then (
      kj1 (9) s) else (
      kj1 ((s.1 21 1) - (1)) s)
def M_X3_begin_L12 (k : Nat) (kk : St → Option (Int32 × St)) : Nat → Int32 → St → Option (Int32 × St)
  | 0, _, _ => none
  | fu + 1, x1, s =>
    if (6) ≤ x1 then (
      kk s) else (
      rd s 11 6 x1 fun v3 =>
      wr s (k + 1) 6 x1 v3 fun s4 =>
      rd s4 14 6 x1 fun v5 =>
      wr s4 (k + 2) 6 x1 v5 fun s6 =>
      M_X3_begin_L12 k kk fu (x1 + (1)) s6)
def M_X3_begin (k : Nat) (s : St) : Option (Int32 × St) :=
  pu s k 1 (0) fun s1 =>
  pu s1 k 2 (0) fun s2 =>
  M_X3_begin_L12 k (fun s7 =>
    some (0, s7)) 400 (0) s2
def M_X3_hasAsked (k : Nat) (a1 : Int32) (s : St) : Option (Int32 × St) :=
  if (((s.1 k 2) >>> (a1 &&& 31)) &&& (1)) = (1) then (
    some (1, s)) else (
    some (0, s))
def M_X3_hungWith_L4 (k : Nat) (x1 : Int32) (kk : Int32 → St → Option (Int32 × St)) : Nat → Int32 → Int32 → St → Option (Int32 × St)
  | 0, _, _, _ => none
  | fu + 1, x2, x3, s =>
    if (s.1 9 0) ≤ x3 then (
      kk x2 s) else (
      rd s (k + 2) 6 x3 fun v1 =>
      jn (κ := Int32 → St → Option (Int32 × St)) (fun v3 s4 =>
        M_X3_hungWith_L4 k x1 kk fu v3 (x3 + (1)) s4) fun kj2 =>
        if v1 = x1 then (
          kj2 (x2 ||| ((1) <<< (x3 &&& 31))) s) else (
          kj2 x2 s))
def M_X3_hungWith (k : Nat) (a1 : Int32) (s : St) : Option (Int32 × St) :=
  M_X3_hungWith_L4 k a1 (fun v5 s6 =>
    some (v5, s6)) 400 (0) (0) s
def M_X3_ringOf_L9 (k : Nat) (x1 : Int32) (kk : St → Option (Int32 × St)) : Nat → Int32 → Int32 → St → Option (Int32 × St)
  | 0, _, _, _ => none
  | fu + 1, x2, x3, s =>
    if (s.1 9 0) < x3 then (
      kk s) else (
      cl (M_X1_has 9 x2 s) fun r2 s3 =>
      if r2 = 0 then (
        kk s3) else (
        if x2 = x1 then (
          some (x3, s3)) else (
          rd s3 (k + 2) 6 x2 fun v4 =>
          M_X3_ringOf_L9 k x1 kk fu v4 (x3 + (1)) s3)))
def M_X3_ringOf (k : Nat) (a1 : Int32) (s : St) : Option (Int32 × St) :=
  rd s (k + 2) 6 a1 fun v1 =>
  M_X3_ringOf_L9 k a1 (fun s5 =>
    some ((0), s5)) 400 v1 (1) s
def M_X3_leftTogether_L4 (k : Nat) (kk : Int32 → St → Option (Int32 × St)) : Nat → Int32 → Int32 → St → Option (Int32 × St)
  | 0, _, _, _ => none
  | fu + 1, x1, x2, s =>
    if (s.1 9 0) ≤ x2 then (
      kk x1 s) else (
      rd s (k + 1) 6 x2 fun v1 =>
      M_X3_leftTogether_L4 k kk fu (x1 + v1) (x2 + (1)) s)
def M_X3_leftTogether (k : Nat) (s : St) : Option (Int32 × St) :=
  M_X3_leftTogether_L4 k (fun v2 s3 =>
    some (v2, s3)) 400 (0) (0) s
def M_X3_allMown_L2 (k : Nat) (x1 : Int32) (kk : St → Option (Int32 × St)) : Nat → Int32 → St → Option (Int32 × St)
  | 0, _, _ => none
  | fu + 1, x2, s =>
    if (s.1 9 0) ≤ x2 then (
      kk s) else (
      jn (κ := St → Option (Int32 × St)) (fun s2 =>
        M_X3_allMown_L2 k x1 kk fu (x2 + (1)) s2) fun kj1 =>
        if ((x1 >>> (x2 &&& 31)) &&& (1)) = (1) then (
          rd s (k + 1) 6 x2 fun v3 =>
          if v3 ≤ 0 then (
            kj1 s) else (
            some (0, s))) else (
          kj1 s))
def M_X3_allMown (k : Nat) (a1 : Int32) (s : St) : Option (Int32 × St) :=
  M_X3_allMown_L2 k a1 (fun s4 =>
    some (1, s4)) 400 (0) s
def M_X3_mowsForAnother_L2 (k : Nat) (x1 : Int32) (kk : St → Option (Int32 × St)) : Nat → Int32 → St → Option (Int32 × St)
  | 0, _, _ => none
  | fu + 1, x2, s =>
    if (s.1 9 0) ≤ x2 then (
      kk s) else (
      rd s (k + 2) 6 x2 fun v1 =>
      jn (κ := St → Option (Int32 × St)) (fun s3 =>
        M_X3_mowsForAnother_L2 k x1 kk fu (x2 + (1)) s3) fun kj2 =>
        if v1 = x1 then (
          cl (M_X3_hasAsked k x2 s) fun r4 s5 =>
          if r4 = 0 then (
            kj2 s5) else (
            rd s5 (k + 1) 6 x2 fun v6 =>
            if v6 ≤ 0 then (
              kj2 s5) else (
              rd s5 (k + 1) 6 x2 fun v7 =>
              wr s5 (k + 1) 6 x2 (v7 - (1)) fun s8 =>
              some (1, s8)))) else (
          kj2 s))
def M_X3_mowsForAnother (k : Nat) (a1 : Int32) (s : St) : Option (Int32 × St) :=
  M_X3_mowsForAnother_L2 k a1 (fun s9 =>
    some (0, s9)) 400 (0) s
def M_X3_mowAll_L6 (k : Nat) (kk : Int32 → Int32 → St → Option (Int32 × St)) : Nat → Int32 → Int32 → Int32 → St → Option (Int32 × St)
  | 0, _, _, _, _ => none
  | fu + 1, x1, x2, x3, s =>
    if (s.1 9 0) ≤ x3 then (
      kk x1 x2 s) else (
      cl (M_X3_hasAsked k x3 s) fun r1 s2 =>
      jn (κ := Int32 → Int32 → St → Option (Int32 × St)) (fun v4 v5 s6 =>
        M_X3_mowAll_L6 k kk fu v4 v5 (x3 + (1)) s6) fun kj3 =>
        if r1 = 0 then (
          kj3 x1 x2 s2) else (
          rd s2 (k + 1) 6 x3 fun v7 =>
          if v7 ≤ 0 then (
            kj3 (x1 ||| ((1) <<< (x3 &&& 31))) x2 s2) else (
            rd s2 (k + 1) 6 x3 fun v8 =>
            wr s2 (k + 1) 6 x3 (v8 - (1)) fun s9 =>
            kj3 x1 (x2 + (1)) s9)))
def M_X3_mowAll_L64 (k : Nat) (x1 : Int32) (kk : Int32 → St → Option (Int32 × St)) : Nat → Int32 → Int32 → St → Option (Int32 × St)
  | 0, _, _, _ => none
  | fu + 1, x2, x3, s =>
    if (s.1 9 0) ≤ x3 then (
      kk x2 s) else (
      jn (κ := Int32 → St → Option (Int32 × St)) (fun v14 s15 =>
        M_X3_mowAll_L64 k x1 kk fu v14 (x3 + (1)) s15) fun kj13 =>
        if ((x1 >>> (x3 &&& 31)) &&& (1)) = (1) then (
          cl (M_X3_mowsForAnother k x3 s) fun r16 s17 =>
          if r16 = 0 then (
            kj13 x2 s17) else (
            kj13 (x2 + (1)) s17)) else (
          kj13 x2 s))
def M_X3_mowAll (k : Nat) (s : St) : Option (Int32 × St) :=
  M_X3_mowAll_L6 k (fun v10 v11 s12 =>
    M_X3_mowAll_L64 k v10 (fun v18 s19 =>
      some (v18, s19)) 400 v11 (0) s12) 400 (0) (0) (0) s
def M_X3_pass (k : Nat) (a1 : Int32) (s : St) : Option (Int32 × St) :=
  cl (M_X1_askedBehind 9 (s.1 k 2) (s.1 k 1) s) fun r1 s2 =>
  pu s2 k 2 r1 fun s3 =>
  pu s3 k 1 ((s3.1 k 1) + (1)) fun s4 =>
  if a1 = 0 then (
    some ((0), s4)) else (
    cl (M_X3_mowAll k s4) fun r5 s6 =>
    some (r5, s6))
def M_X4_begin_L7 (kk : St → Option (Int32 × St)) : Nat → Int32 → St → Option (Int32 × St)
  | 0, _, _ => none
  | fu + 1, x1, s =>
    if (147) ≤ x1 then (
      kk s) else (
      wr s 65 147 x1 (vp_nar .boolean (0)) fun s2 =>
      M_X4_begin_L7 kk fu (x1 + (1)) s2)
def M_X4_begin (s : St) : Option (Int32 × St) :=
  pu s 64 0 (0) fun s1 =>
  M_X4_begin_L7  (fun s3 =>
    some (0, s3)) 400 (0) s1
def M_X4_learn_L23 (x1 : Int32) (x2 : Int32) (x3 : Int32) (x4 : Int32) (kk : St → Option (Int32 × St)) : Nat → Int32 → St → Option (Int32 × St)
  | 0, _, _ => none
  | fu + 1, x5, s =>
    if (6) < x5 then (
      kk s) else (
      jn (κ := Int32 → St → Option (Int32 × St)) (fun v3 s4 =>
        jn (κ := St → Option (Int32 × St)) (fun s6 =>
          M_X4_learn_L23 x1 x2 x3 x4 kk fu (x5 + (1)) s6) fun kj5 =>
          if v3 = x3 then (
            kj5 s4) else (
            wr s4 65 147 ((x4 * (7)) + x5) (vp_nar .boolean (1)) fun s7 =>
            kj5 s7)) fun kj2 =>
        if x4 ≤ x1 then (
          kj2 (1) s) else (
          if x2 < x5 then (
            kj2 (0) s) else (
            kj2 (1) s)))
def M_X4_learn_L13 (x1 : Int32) (x2 : Int32) (x3 : Int32) (kk : St → Option (Int32 × St)) : Nat → Int32 → St → Option (Int32 × St)
  | 0, _, _ => none
  | fu + 1, x4, s =>
    if (20) < x4 then (
      kk s) else (
      M_X4_learn_L23 x1 x2 x3 x4 (fun s8 =>
        M_X4_learn_L13 x1 x2 x3 kk fu (x4 + (1)) s8) 400 (0) s)
def M_X4_learn (a1 : Int32) (a2 : Int32) (a3 : Int32) (s : St) : Option (Int32 × St) :=
  pu s 64 0 ((s.1 64 0) + (1)) fun s1 =>
  M_X4_learn_L13 a1 a2 a3 (fun s9 =>
    some (0, s9)) 400 (0) s1
def M_X4_numberOfNerve_L6 (x1 : Int32) (x3 : Int32) (kk : Int32 → St → Option (Int32 × St)) : Nat → Int32 → Int32 → St → Option (Int32 × St)
  | 0, _, _, _ => none
  | fu + 1, x4, x5, s =>
    if x3 < x5 then (
      kk x4 s) else (
      rd s 65 147 ((x5 * (7)) + x1) fun v1 =>
      jn (κ := Int32 → St → Option (Int32 × St)) (fun v3 s4 =>
        M_X4_numberOfNerve_L6 x1 x3 kk fu v3 (x5 + (1)) s4) fun kj2 =>
        if v1 = 0 then (
          kj2 (x4 + (1)) s) else (
          kj2 x4 s))
def M_X4_numberOfNerve (a1 : Int32) (a2 : Int32) (a3 : Int32) (s : St) : Option (Int32 × St) :=
  M_X4_numberOfNerve_L6 a1 a3 (fun v5 s6 =>
    some (v5, s6)) 400 (0) a2 s
def M_X4_number_L5 (x1 : Int32) (x2 : Int32) (kk : Int32 → St → Option (Int32 × St)) : Nat → Int32 → Int32 → St → Option (Int32 × St)
  | 0, _, _, _ => none
  | fu + 1, x3, x4, s =>
    if (6) < x4 then (
      kk x3 s) else (
      cl (M_X4_numberOfNerve x4 x1 x2 s) fun r1 s2 =>
      M_X4_number_L5 x1 x2 kk fu (x3 + r1) (x4 + (1)) s2)
def M_X4_number (a1 : Int32) (a2 : Int32) (s : St) : Option (Int32 × St) :=
  M_X4_number_L5 a1 a2 (fun v3 s4 =>
    some (v3, s4)) 400 (0) (0) s
def M_X4_leastShame_L2 (kk : St → Option (Int32 × St)) : Nat → Int32 → St → Option (Int32 × St)
  | 0, _, _ => none
  | fu + 1, x1, s =>
    if (20) < x1 then (
      kk s) else (
      cl (M_X4_number x1 x1 s) fun r1 s2 =>
      if r1 ≤ 0 then (
        M_X4_leastShame_L2 kk fu (x1 + (1)) s2) else (
        some (x1, s2)))
def M_X4_leastShame (s : St) : Option (Int32 × St) :=
  M_X4_leastShame_L2  (fun s3 =>
    some ((-9), s3)) 400 (0) s
def M_X4_greatestShame_L3 (kk : St → Option (Int32 × St)) : Nat → Int32 → St → Option (Int32 × St)
  | 0, _, _ => none
  | fu + 1, x1, s =>
    if x1 < 0 then (
      kk s) else (
      cl (M_X4_number x1 x1 s) fun r1 s2 =>
      if r1 ≤ 0 then (
        M_X4_greatestShame_L3 kk fu (x1 + (-1)) s2) else (
        some (x1, s2)))
def M_X4_greatestShame (s : St) : Option (Int32 × St) :=
  M_X4_greatestShame_L3  (fun s3 =>
    some ((-9), s3)) 400 (20) s
def M_X4_bestOthers_L34 (x1 : Int32) (x2 : Int32) (kk : Int32 → St → Option (Int32 × St)) : Nat → Int32 → Int32 → Int32 → Int32 → St → Option (Int32 × St)
  | 0, _, _, _, _, _ => none
  | fu + 1, x3, x4, x5, x6, s =>
    if (6) < x6 then (
      kk x3 s) else (
      cl (M_X4_numberOfNerve x6 (x1 + (1)) (20) s) fun r5 s6 =>
      jn (κ := Int32 → Int32 → St → Option (Int32 × St)) (fun v8 v9 s10 =>
        M_X4_bestOthers_L34 x1 x2 kk fu v8 v9 (x5 + r5) (x6 + (1)) s10) fun kj7 =>
        if x4 ≤ (if (x5 + r5) < (x2 - (x5 + r5)) then (x2 - (x5 + r5)) else (x5 + r5)) then (
          kj7 x3 x4 s6) else (
          kj7 x6 (if (x5 + r5) < (x2 - (x5 + r5)) then (x2 - (x5 + r5)) else (x5 + r5)) s6))
def M_X4_bestOthers (a1 : Int32) (s : St) : Option (Int32 × St) :=
  cl (M_X4_number (0) (20) s) fun r1 s2 =>
  if (1) < r1 then (
    cl (M_X4_number (0) a1 s2) fun r3 s4 =>
    M_X4_bestOthers_L34 a1 r1 (fun v11 s12 =>
      some (v11, s12)) 400 (0) (r1 + (1)) r3 (0) s4) else (
    some ((-9), s2))
def M_X5_add (a1 : Int32) (s : St) : Option (Int32 × St) :=
  if (s.1 1 1) < (140) then (
    wr s 2 140 (s.1 1 1) (vp_nar .char (((a1).toUInt32 % 65536).toInt32)) fun s1 =>
    pu s1 1 1 ((s1.1 1 1) + (1)) fun s2 =>
    some (1, s2)) else (
    some (0, s))
def M_X5_isDigit (a0 : Int32) (s : St) : Option (Int32 × St) :=
  if a0 < (48) then (
    some (0, s)) else (
    if (57) < a0 then (
      some (0, s)) else (
      some (1, s)))
def M_X5_stepOverNumber_L5 (kk : St → Option (Int32 × St)) : Nat → St → Option (Int32 × St)
  | 0, _ => none
  | fu + 1, s =>
    if (s.1 1 1) ≤ (s.1 1 2) then (
      kk s) else (
      rd s 2 140 (s.1 1 2) fun v2 =>
      cl (M_X5_isDigit v2 s) fun r3 s4 =>
      if r3 = 0 then (
        kk s4) else (
        rd s4 2 140 (s4.1 1 2) fun v5 =>
        pu s4 1 5 (if (100) < (((s4.1 1 5) * (10)) + (v5 - (48))) then (100) else (((s4.1 1 5) * (10)) + (v5 - (48)))) fun s6 =>
        pu s6 1 2 ((s6.1 1 2) + (1)) fun s7 =>
        M_X5_stepOverNumber_L5 kk fu s7))
def M_X5_stepOverNumber (s : St) : Option (Int32 × St) :=
  pu s 1 5 (0) fun s1 =>
  M_X5_stepOverNumber_L5  (fun s8 =>
    rd s8 2 140 (s8.1 1 3) fun v9 =>
    jn (κ := Int32 → St → Option (Int32 × St)) (fun v11 s12 =>
      jn (κ := Int32 → St → Option (Int32 × St)) (fun v14 s15 =>
        pu s15 1 4 v14 fun s16 =>
        some (0, s16)) fun kj13 =>
        if v11 = 0 then (
          if (s12.1 1 5) ≤ (99) then (
            kj13 (2) s12) else (
            kj13 (4) s12)) else (
          kj13 (4) s12)) fun kj10 =>
      if v9 = (48) then (
        if ((s8.1 1 2) - (s8.1 1 3)) ≤ (1) then (
          kj10 (0) s8) else (
          kj10 (1) s8)) else (
        kj10 (0) s8)) 400  s1
def M_X5_step_L0 (kk : St → Option (Int32 × St)) : Nat → St → Option (Int32 × St)
  | 0, _ => none
  | fu + 1, s =>
    if (s.1 1 1) ≤ (s.1 1 2) then (
      kk s) else (
      rd s 2 140 (s.1 1 2) fun v1 =>
      if v1 = (32) then (
        pu s 1 2 ((s.1 1 2) + (1)) fun s2 =>
        M_X5_step_L0 kk fu s2) else (
        kk s))
def M_X5_step (s : St) : Option (Int32 × St) :=
  M_X5_step_L0  (fun s3 =>
    pu s3 1 3 (s3.1 1 2) fun s4 =>
    if (s4.1 1 2) < (s4.1 1 1) then (
      rd s4 2 140 (s4.1 1 2) fun v5 =>
      cl (M_X5_isDigit v5 s4) fun r6 s7 =>
      if r6 = 0 then (
        rd s7 2 140 (s7.1 1 2) fun v8 =>
        jn (κ := Int32 → St → Option (Int32 × St)) (fun v10 s11 =>
          pu s11 1 4 v10 fun s12 =>
          pu s12 1 2 ((s12.1 1 2) + (1)) fun s13 =>
          some (0, s13)) fun kj9 =>
          if v8 = (102) then (
            kj9 (1) s7) else (
            rd s7 2 140 (s7.1 1 2) fun v14 =>
            if v14 = (59) then (
              kj9 (3) s7) else (
              kj9 (4) s7))) else (
        cl (M_X5_stepOverNumber s7) fun r15 s16 =>
        some (0, s16))) else (
      pu s4 1 4 (0) fun s17 =>
      some (0, s17))) 400  s
def M_X5_tellsNumber (k1 : Nat) (a2 : Int32) (a3 : Int32) (a4 : Int32) (s : St) : Option (Int32 × St) :=
  cl (M_X5_step s) fun r1 s2 =>
  if (s2.1 1 4) = (2) then (
    if (s2.1 1 5) < a3 then (
      some (0, s2)) else (
      if (s2.1 1 5) ≤ a4 then (
        wr s2 k1 6 a2 (s2.1 1 5) fun s3 =>
        some (1, s3)) else (
        some (0, s2)))) else (
    some (0, s2))
def M_X5_tellsOne (k1 : Nat) (a2 : Int32) (s : St) : Option (Int32 × St) :=
  jn (κ := Int32 → St → Option (Int32 × St)) (fun v2 s3 =>
    if v2 = 0 then (
      some (0, s3)) else (
      cl (M_X5_step s3) fun r4 s5 =>
      if (s5.1 1 4) = (3) then (
        some (1, s5)) else (
        some (0, s5)))) fun kj1 =>
    if (s.1 1 4) = (1) then (
      cl (M_X5_tellsNumber (k1 + 1) a2 (0) (30) s) fun r6 s7 =>
      if r6 = 0 then (
        kj1 (0) s7) else (
        cl (M_X5_tellsNumber (k1 + 2) a2 (1) (9) s7) fun r8 s9 =>
        if r8 = 0 then (
          kj1 (0) s9) else (
          cl (M_X5_tellsNumber (k1 + 3) a2 (0) (20) s9) fun r10 s11 =>
          if r10 = 0 then (
            kj1 (0) s11) else (
            cl (M_X5_tellsNumber (k1 + 4) a2 (0) (6) s11) fun r12 s13 =>
            if r12 = 0 then (
              kj1 (0) s13) else (
              cl (M_X5_tellsNumber (k1 + 5) a2 (0) (5) s13) fun r14 s15 =>
              if r14 = 0 then (
                kj1 (0) s15) else (
                rd s15 (k1 + 5) 6 a2 fun v16 =>
                if v16 = a2 then (
                  kj1 (0) s15) else (
                  kj1 (1) s15))))))) else (
      kj1 (0) s)
def M_X5_tells_L16 (k1 : Nat) (kk : St → Option (Int32 × St)) : Nat → Int32 → St → Option (Int32 × St)
  | 0, _, _ => none
  | fu + 1, x2, s =>
    if (140) ≤ x2 then (
      kk s) else (
      if (s.1 1 4) = 0 then (
        kk s) else (
        if (6) ≤ x2 then (
          some (0, s)) else (
          cl (M_X5_tellsOne k1 x2 s) fun r5 s6 =>
          if r5 = 0 then (
            some (0, s6)) else (
            pu s6 k1 0 (x2 + (1)) fun s7 =>
            cl (M_X5_step s7) fun r8 s9 =>
            M_X5_tells_L16 k1 kk fu (x2 + (1)) s9))))
def M_X5_tells (k1 : Nat) (s : St) : Option (Int32 × St) :=
  pu s 1 2 (0) fun s1 =>
  pu s1 k1 0 (0) fun s2 =>
  cl (M_X5_step s2) fun r3 s4 =>
  M_X5_tells_L16 k1 (fun s10 =>
    cl (M_X1_keepersAreThere k1 s10) fun r11 s12 =>
    rz r11 s12) 400 (0) s4
def M_X6_within (a0 : Int32) (a1 : Int32) (a2 : Int32) (s : St) : Option (Int32 × St) :=
  if a0 < a1 then (
    some (0, s)) else (
    if a2 < a0 then (
      some (0, s)) else (
      some (1, s)))
def M_X6_type (a1 : Int32) (s : St) : Option (Int32 × St) :=
  cl (M_X6_within a1 (0) (255) s) fun r1 s2 =>
  if r1 = 0 then (
    some ((-1), s2)) else (
    cl (M_X5_add a1 s2) fun r3 s4 =>
    if r3 = 0 then (
      some ((-3), s4)) else (
      some ((s4.1 1 1), s4)))
def M_X6_clear (s : St) : Option (Int32 × St) :=
  pu s 1 1 (0) fun s1 =>
  some ((s.1 1 1), s1)
def M_X6_valley_L68 (kk : St → Option (Int32 × St)) : Nat → Int32 → St → Option (Int32 × St)
  | 0, _, _ => none
  | fu + 1, x1, s =>
    if (2) ≤ x1 then (
      kk s) else (
      wr s 60 2 x1 (vp_nar .boolean (0)) fun s11 =>
      M_X6_valley_L68 kk fu (x1 + (1)) s11)
def M_X6_valley (s : St) : Option (Int32 × St) :=
  cl (M_X5_tells 3 s) fun r1 s2 =>
  if r1 = 0 then (
    some (((-10) - (s2.1 1 3)), s2)) else (
    pu s2 1 1 (0) fun s3 =>
    cl (M_X1_copyFrom 9 3 s3) fun r4 s5 =>
    cl (M_X3_begin 15 s5) fun r6 s7 =>
    pu s7 21 2 (0) fun s8 =>
    cl (M_X4_begin s8) fun r9 s10 =>
    M_X6_valley_L68  (fun s12 =>
      some ((s12.1 9 0), s12)) 400 (0) s10)
def M_X6_daysTillAsked_L10 (x1 : Int32) (kk : St → Option (Int32 × St)) : Nat → Int32 → Int32 → St → Option (Int32 × St)
  | 0, _, _, _ => none
  | fu + 1, x2, x3, s =>
    if (60) < x3 then (
      kk s) else (
      if ((x2 >>> (x1 &&& 31)) &&& (1)) = (1) then (
        some (x3, s)) else (
        cl (M_X1_askedBehind 9 x2 ((s.1 15 1) + x3) s) fun r1 s2 =>
        M_X6_daysTillAsked_L10 x1 kk fu r1 (x3 + (1)) s2))
def M_X6_daysTillAsked (a1 : Int32) (s : St) : Option (Int32 × St) :=
  M_X6_daysTillAsked_L10 a1 (fun s3 =>
    some ((-9), s3)) 400 (s.1 15 2) (0) s
def M_X6_daysTillMown_L13 (x1 : Int32) (kk : St → Option (Int32 × St)) : Nat → Int32 → St → Option (Int32 × St)
  | 0, _, _ => none
  | fu + 1, x2, s =>
    if (60) < x2 then (
      kk s) else (
      cl (M_X3_allMown 18 x1 s) fun r3 s4 =>
      if r3 = 0 then (
        cl (M_X3_pass 18 (1) s4) fun r5 s6 =>
        M_X6_daysTillMown_L13 x1 kk fu (x2 + (1)) s6) else (
        some (x2, s4)))
def M_X6_daysTillMown (a1 : Int32) (s : St) : Option (Int32 × St) :=
  cl (M_X3_copyFrom 18 15 s) fun r1 s2 =>
  M_X6_daysTillMown_L13 a1 (fun s7 =>
    some ((-9), s7)) 400 (0) s2
def M_X6_farmer (a1 : Int32) (a2 : Int32) (s : St) : Option (Int32 × St) :=
  cl (M_X1_has 9 a1 s) fun r1 s2 =>
  if r1 = 0 then (
    some ((-1), s2)) else (
    if a2 = 0 then (
      rd s2 10 6 a1 fun v3 =>
      some (v3, s2)) else if a2 = 1 then (
      rd s2 16 6 a1 fun v5 =>
      some (v5, s2)) else if a2 = 2 then (
      rd s2 12 6 a1 fun v7 =>
      some (v7, s2)) else if a2 = 3 then (
      rd s2 13 6 a1 fun v9 =>
      some (v9, s2)) else if a2 = 4 then (
      rd s2 17 6 a1 fun v11 =>
      some (v11, s2)) else if a2 = 5 then (
      cl (M_X3_hasAsked 15 a1 s2) fun r13 s14 =>
      if r13 = 0 then (
        some ((0), s14)) else (
        some ((1), s14))) else if a2 = 6 then (
      cl (M_X3_hungWith 15 a1 s2) fun r16 s17 =>
      some (r16, s17)) else if a2 = 7 then (
      cl (M_X3_ringOf 15 a1 s2) fun r19 s20 =>
      some (r19, s20)) else if a2 = 8 then (
      cl (M_X6_daysTillAsked a1 s2) fun r22 s23 =>
      some (r22, s23)) else if a2 = 9 then (
      cl (M_X6_daysTillMown ((1) <<< (a1 &&& 31)) s2) fun r25 s26 =>
      some (r25, s26)) else (
      some ((-1), s2)))
def M_X6_now (a1 : Int32) (s : St) : Option (Int32 × St) :=
  if a1 = 0 then (
    some ((s.1 15 1), s)) else if a1 = 1 then (
    some ((s.1 15 2), s)) else if a1 = 2 then (
    cl (M_X3_leftTogether 15 s) fun r3 s4 =>
    some (r3, s4)) else if a1 = 3 then (
    cl (M_X1_everyone 9 s) fun r6 s7 =>
    cl (M_X6_daysTillMown r6 s7) fun r8 s9 =>
    some (r8, s9)) else if a1 = 4 then (
    some ((s.1 21 2), s)) else (
    some ((-1), s))
def M_X6_day (a1 : Int32) (s : St) : Option (Int32 × St) :=
  cl (M_X6_within a1 (0) (1) s) fun r1 s2 =>
  if r1 = 0 then (
    some ((-1), s2)) else (
    if (s2.1 15 1) < (999) then (
      cl (M_X2_push 15 s2) fun r3 s4 =>
      jn (κ := Int32 → St → Option (Int32 × St)) (fun v6 s7 =>
        cl (M_X3_pass 15 v6 s7) fun r8 s9 =>
        some (r8, s9)) fun kj5 =>
        if a1 = (1) then (
          kj5 (1) s4) else (
          kj5 (0) s4)) else (
      some ((-2), s2)))
def M_X6_brings (a1 : Int32) (s : St) : Option (Int32 × St) :=
  cl (M_X1_has 9 a1 s) fun r1 s2 =>
  if r1 = 0 then (
    some ((-1), s2)) else (
    cl (M_X3_hasAsked 15 a1 s2) fun r3 s4 =>
    if r3 = 0 then (
      cl (M_X2_push 15 s4) fun r5 s6 =>
      pu s6 15 2 ((s6.1 15 2) ||| ((1) <<< (a1 &&& 31))) fun s7 =>
      cl (M_J6_bitCount_0f7a4 (s7.1 15 2) s7) fun r8 s9 =>
      some (r8, s9)) else (
      some ((-2), s4)))
def M_X6_hangs (a1 : Int32) (a2 : Int32) (s : St) : Option (Int32 × St) :=
  cl (M_X1_has 9 a1 s) fun r1 s2 =>
  if r1 = 0 then (
    some ((-1), s2)) else (
    cl (M_X1_has 9 a2 s2) fun r3 s4 =>
    if r3 = 0 then (
      some ((-1), s4)) else (
      if a1 = a2 then (
        some ((-1), s4)) else (
        rd s4 17 6 a1 fun v5 =>
        cl (M_X3_hasAsked 15 a1 s4) fun r6 s7 =>
        if r6 = 0 then (
          if v5 = a2 then (
            some ((-2), s7)) else (
            cl (M_X2_push 15 s7) fun r8 s9 =>
            wr s9 17 6 a1 a2 fun s10 =>
            some (v5, s10))) else (
          some ((-2), s7)))))
def M_X6_undo (s : St) : Option (Int32 × St) :=
  if (s.1 21 2) = 0 then (
    some ((-2), s)) else (
    cl (M_X2_pop 15 s) fun r1 s2 =>
    some ((s2.1 21 2), s2))
def M_X6_allAskBehind_L13 (x1 : Int32) (kk : Int32 → St → Option (Int32 × St)) : Nat → Int32 → Int32 → St → Option (Int32 × St)
  | 0, _, _, _ => none
  | fu + 1, x3, x4, s =>
    if x1 ≤ x4 then (
      kk x3 s) else (
      cl (M_X1_askedBehind 9 x3 ((s.1 15 1) + x4) s) fun r1 s2 =>
      M_X6_allAskBehind_L13 x1 kk fu r1 (x4 + (1)) s2)
def M_X6_allAskBehind (a1 : Int32) (a2 : Int32) (s : St) : Option (Int32 × St) :=
  M_X6_allAskBehind_L13 a1 (fun v3 s4 =>
    cl (M_X1_everyone 9 s4) fun r5 s6 =>
    if v3 = r5 then (
      some (1, s6)) else (
      some (0, s6))) 400 ((s.1 15 2) ||| a2) (0) s
def M_X6_start_L35 (x1 : Int32) (x2 : Int32) (kk : Int32 → St → Option (Int32 × St)) : Nat → Int32 → Int32 → St → Option (Int32 × St)
  | 0, _, _, _ => none
  | fu + 1, x3, x4, s =>
    if x2 < x4 then (
      kk x3 s) else (
      cl (M_J6_bitCount_0f7a4 x4 s) fun r5 s6 =>
      cl (M_J6_bitCount_0f7a4 x3 s6) fun r7 s8 =>
      jn (κ := Int32 → St → Option (Int32 × St)) (fun v10 s11 =>
        jn (κ := Int32 → St → Option (Int32 × St)) (fun v13 s14 =>
          M_X6_start_L35 x1 x2 kk fu v13 (x4 + (1)) s14) fun kj12 =>
          if v10 = 0 then (
            kj12 x3 s11) else (
            if (x4 &&& (s11.1 15 2)) = 0 then (
              cl (M_X6_allAskBehind x1 x4 s11) fun r15 s16 =>
              if r15 = 0 then (
                kj12 x3 s16) else (
                kj12 x4 s16)) else (
              kj12 x3 s11))) fun kj9 =>
        if r7 ≤ r5 then (
          kj9 (0) s8) else (
          kj9 (1) s8))
def M_X6_start (a1 : Int32) (s : St) : Option (Int32 × St) :=
  cl (M_X6_within a1 (0) (20) s) fun r1 s2 =>
  if r1 = 0 then (
    some ((-1), s2)) else (
    cl (M_X1_everyone 9 s2) fun r3 s4 =>
    M_X6_start_L35 a1 r3 (fun v17 s18 =>
      some (v17, s18)) 400 (r3 &&& ((s4.1 15 2) ^^^ (-1))) (0) s4)
def M_X6_hang (a1 : Int32) (s : St) : Option (Int32 × St) :=
  jn (κ := St → Option (Int32 × St)) (fun s2 =>
    if (s2.1 9 0) = 0 then (
      some ((-9), s2)) else (
      cl (M_X0_search s2) fun r3 s4 =>
      if a1 = (-1) then (
        some ((s4.1 61 1), s4)) else (
        rd s4 62 6 a1 fun v5 =>
        some (v5, s4)))) fun kj1 =>
    if a1 = (-1) then (
      kj1 s) else (
      cl (M_X1_has 9 a1 s) fun r6 s7 =>
      if r6 = 0 then (
        some ((-1), s7)) else (
        kj1 s7))
def M_X6_commonDivisor_L7 (kk : Int32 → St → Option (Int32 × St)) : Nat → Int32 → Int32 → Int32 → St → Option (Int32 × St)
  | 0, _, _, _, _ => none
  | fu + 1, x2, x3, x4, s =>
    if (64) ≤ x4 then (
      kk x2 s) else (
      if x3 = 0 then (
        kk x2 s) else (
        dv x3 <|
        M_X6_commonDivisor_L7 kk fu x3 (x2 - x2 / x3 * x3) (x4 + (1)) s))
def M_X6_commonDivisor (a0 : Int32) (a1 : Int32) (s : St) : Option (Int32 × St) :=
  M_X6_commonDivisor_L7  (fun v1 s2 =>
    if v1 = 0 then (
      some ((1), s2)) else (
      some (v1, s2))) 400 a0 a1 (0) s
def M_X6_weigh_L9 (x1 : Int32) (x2 : Int32) (kk : St → Option (Int32 × St)) : Nat → Int32 → St → Option (Int32 × St)
  | 0, _, _ => none
  | fu + 1, x3, s =>
    if (8) < x3 then (
      kk s) else (
      wr s 66 9 x3 (0) fun s2 =>
      M_X6_weigh_L9 x1 x2 kk fu (x3 + (1)) s2)
def M_X6_weigh_L39 (x1 : Int32) (x2 : Int32) (x3 : Int32) (kk : St → Option (Int32 × St)) : Nat → Int32 → St → Option (Int32 × St)
  | 0, _, _ => none
  | fu + 1, x4, s =>
    if x4 < (1) then (
      kk s) else (
      rd s 66 9 (x4 - (1)) fun v4 =>
      rd s 66 9 x4 fun v5 =>
      wr s 66 9 x4 ((x1 * v4) + (((10) - x1) * v5)) fun s6 =>
      M_X6_weigh_L39 x1 x2 x3 kk fu (x4 + (-1)) s6)
def M_X6_weigh_L30 (x1 : Int32) (x2 : Int32) (kk : St → Option (Int32 × St)) : Nat → Int32 → St → Option (Int32 × St)
  | 0, _, _ => none
  | fu + 1, x3, s =>
    if x2 ≤ x3 then (
      kk s) else (
      M_X6_weigh_L39 x1 x2 x3 (fun s7 =>
        rd s7 66 9 (0) fun v8 =>
        wr s7 66 9 (0) ((10) * v8) fun s9 =>
        M_X6_weigh_L30 x1 x2 kk fu (x3 + (1)) s9) 400 (8) s)
def M_X6_weigh (a1 : Int32) (a2 : Int32) (s : St) : Option (Int32 × St) :=
  wr s 66 9 (0) (1) fun s1 =>
  M_X6_weigh_L9 a1 a2 (fun s3 =>
    M_X6_weigh_L30 a1 a2 (fun s10 =>
      some (0, s10)) 400 (0) s3) 400 (1) s1
def M_X6_odds (a1 : Int32) (a2 : Int32) (a3 : Int32) (a4 : Int32) (s : St) : Option (Int32 × St) :=
  cl (M_X1_has 9 a1 s) fun r1 s2 =>
  if r1 = 0 then (
    some ((-1), s2)) else (
    cl (M_X6_within a2 (0) (10) s2) fun r3 s4 =>
    if r3 = 0 then (
      some ((-1), s4)) else (
      cl (M_X6_within a3 (0) (8) s4) fun r5 s6 =>
      if r5 = 0 then (
        some ((-1), s6)) else (
        cl (M_X6_within a4 (0) (1) s6) fun r7 s8 =>
        if r7 = 0 then (
          some ((-1), s8)) else (
          cl (M_X6_weigh a2 a3 s8) fun r9 s10 =>
          rd s10 16 6 a1 fun v11 =>
          jn (κ := Int32 → St → Option (Int32 × St)) (fun v13 s14 =>
            rd s14 66 9 (0) fun v15 =>
            cl (M_X6_commonDivisor v15 v13 s14) fun r16 s17 =>
            if a4 = 0 then (
              dv r16 <|
              some ((v13 / r16), s17)) else (
              dv r16 <|
              some ((v15 / r16), s17))) fun kj12 =>
            if v11 ≤ a3 then (
              rd s10 66 9 v11 fun v18 =>
              kj12 v18 s10) else (
              kj12 (0) s10)))))
def M_X6_sees (a1 : Int32) (a2 : Int32) (a3 : Int32) (s : St) : Option (Int32 × St) :=
  cl (M_X6_within a1 (0) (20) s) fun r1 s2 =>
  if r1 = 0 then (
    some ((-1), s2)) else (
    cl (M_X6_within a2 (0) (6) s2) fun r3 s4 =>
    if r3 = 0 then (
      some ((-1), s4)) else (
      cl (M_X6_within a3 (0) (1) s4) fun r5 s6 =>
      if r5 = 0 then (
        some ((-1), s6)) else (
        if (s6.1 64 0) < (6) then (
          jn (κ := Int32 → St → Option (Int32 × St)) (fun v8 s9 =>
            cl (M_X4_learn a1 a2 v8 s9) fun r10 s11 =>
            some ((s11.1 64 0), s11)) fun kj7 =>
            if a3 = (1) then (
              kj7 (1) s6) else (
              kj7 (0) s6)) else (
          some ((-3), s6)))))
def M_X6_forget (s : St) : Option (Int32 × St) :=
  cl (M_X4_begin s) fun r1 s2 =>
  some ((s.1 64 0), s2)
def M_X6_ones (a1 : Int32) (s : St) : Option (Int32 × St) :=
  if a1 = 0 then (
    cl (M_X4_number (0) (20) s) fun r1 s2 =>
    some (r1, s2)) else if a1 = 1 then (
    cl (M_X4_leastShame s) fun r4 s5 =>
    some (r4, s5)) else if a1 = 2 then (
    cl (M_X4_greatestShame s) fun r7 s8 =>
    some (r7, s8)) else (
    some ((-1), s))
def M_X6_look (a1 : Int32) (s : St) : Option (Int32 × St) :=
  cl (M_X6_within a1 (0) (20) s) fun r1 s2 =>
  if r1 = 0 then (
    some ((-1), s2)) else (
    cl (M_X4_bestOthers a1 s2) fun r3 s4 =>
    some (r3, s4))
def M_X6_asFarmer (a1 : Int32) (s : St) : Option (Int32 × St) :=
  puL s 0 ((s.2 0) + (1)) fun s1 =>
  rd s1 16 6 a1 fun v2 =>
  some (v2, s1)
def M_X6_asLate (a1 : Int32) (s : St) : Option (Int32 × St) :=
  puL s 0 ((s.2 0) + (100)) fun s1 =>
  cl (M_X6_asFarmer a1 s1) fun r2 s3 =>
  rd s3 12 6 a1 fun v4 =>
  some ((r2 - v4), s3)
def M_X6_asCousin (a1 : Int32) (s : St) : Option (Int32 × St) :=
  puL s 0 ((s.2 0) + (10000)) fun s1 =>
  cl (M_X6_asLate a1 s1) fun r2 s3 =>
  some ((r2 + a1), s3)
def M_X6_asMower (a1 : Int32) (s : St) : Option (Int32 × St) :=
  puL s 0 ((s.2 0) + (10)) fun s1 =>
  cl (M_X6_asFarmer a1 s1) fun r2 s3 =>
  cl (M_X3_hungWith 15 a1 s3) fun r4 s5 =>
  cl (M_J6_bitCount_0f7a4 r4 s5) fun r6 s7 =>
  some ((r2 + r6), s7)
def M_X6_asSnow (a1 : Int32) (s : St) : Option (Int32 × St) :=
  puL s 0 ((s.2 0) + (100000)) fun s1 =>
  cl (M_X6_asFarmer a1 s1) fun r2 s3 =>
  some ((r2 + (s3.1 15 1)), s3)
def M_X6_asSon (a1 : Int32) (s : St) : Option (Int32 × St) :=
  puL s 0 ((s.2 0) + (1000)) fun s1 =>
  cl (M_X6_asMower a1 s1) fun r2 s3 =>
  some (((2) * r2), s3)
def M_X6_rate (a1 : Int32) (a2 : Int32) (s : St) : Option (Int32 × St) :=
  cl (M_X1_has 9 a2 s) fun r1 s2 =>
  if r1 = 0 then (
    some ((-1000000), s2)) else (
    if a1 = 0 then (
      cl (M_X6_asFarmer a2 s2) fun r3 s4 =>
      some (r3, s4)) else if a1 = 1 then (
      cl (M_X6_asMower a2 s2) fun r6 s7 =>
      some (r6, s7)) else if a1 = 2 then (
      cl (M_X6_asLate a2 s2) fun r9 s10 =>
      some (r9, s10)) else if a1 = 3 then (
      cl (M_X6_asSon a2 s2) fun r12 s13 =>
      some (r12, s13)) else if a1 = 4 then (
      cl (M_X6_asCousin a2 s2) fun r15 s16 =>
      some (r15, s16)) else if a1 = 5 then (
      cl (M_X6_asSnow a2 s2) fun r18 s19 =>
      some (r18, s19)) else (
      some ((-1000000), s2)))
def M_X6_keep (a1 : Int32) (s : St) : Option (Int32 × St) :=
  cl (M_X6_within a1 (0) (1) s) fun r1 s2 =>
  if r1 = 0 then (
    some ((-1), s2)) else (
    ra 53 2 a1 fun j3 =>
    cl (M_X3_copyFrom j3 15 s2) fun r4 s5 =>
    wr s5 60 2 a1 (vp_nar .boolean (1)) fun s6 =>
    some ((s6.1 15 1), s6))
def M_X6_back (a1 : Int32) (s : St) : Option (Int32 × St) :=
  cl (M_X6_within a1 (0) (1) s) fun r1 s2 =>
  if r1 = 0 then (
    some ((-1), s2)) else (
    rd s2 60 2 a1 fun v3 =>
    if v3 = 0 then (
      some ((-2), s2)) else (
      ra 53 2 a1 fun j4 =>
      cl (M_X3_copyFrom 15 j4 s2) fun r5 s6 =>
      pu s6 21 2 (0) fun s7 =>
      some ((s7.1 15 1), s7)))
def M_X6_count (a1 : Int32) (s : St) : Option (Int32 × St) :=
  if a1 = 0 then (
    some ((s.1 9 0), s)) else if a1 = 1 then (
    some ((s.1 64 0), s)) else if a1 = 2 then (
    some ((s.1 1 1), s)) else (
    some ((-1), s))
def M_X7_in (a0 : Int32) (a1 : Int32) (a2 : Int32) (s : St) : Option (Int32 × St) :=
  if a0 < a1 then (
    some (0, s)) else (
    if a2 < a0 then (
      some (0, s)) else (
      some (1, s)))
def M_X7_has (a0 : Int32) (a1 : Int32) (s : St) : Option (Int32 × St) :=
  if ((a0 >>> (a1 &&& 31)) &&& (1)) = (1) then (
    some (1, s)) else (
    some (0, s))
def M_X7_bits_L4 (x0 : Int32) (kk : Int32 → St → Option (Int32 × St)) : Nat → Int32 → Int32 → St → Option (Int32 × St)
  | 0, _, _, _ => none
  | fu + 1, x1, x2, s =>
    if (8) ≤ x2 then (
      kk x1 s) else (
      M_X7_bits_L4 x0 kk fu (x1 + ((x0 >>> (x2 &&& 31)) &&& (1))) (x2 + (1)) s)
def M_X7_bits (a0 : Int32) (s : St) : Option (Int32 × St) :=
  M_X7_bits_L4 a0 (fun v1 s2 =>
    some (v1, s2)) 400 (0) (0) s
def M_X7_isFarmer (a1 : Int32) (s : St) : Option (Int32 × St) :=
  cl (M_X7_in a1 (0) ((s.1 67 0) - (1)) s) fun r1 s2 =>
  rz r1 s2
def M_X7_copy_L3 (k0 : Nat) (k2 : Nat) (x1 : Int32) (x3 : Int32) (kk : St → Option (Int32 × St)) : Nat → Int32 → St → Option (Int32 × St)
  | 0, _, _ => none
  | fu + 1, x4, s =>
    if (14) ≤ x4 then (
      kk s) else (
      rd s k2 (ln k2) (x3 + x4) fun v1 =>
      wr s k0 (ln k0) (x1 + x4) v1 fun s2 =>
      M_X7_copy_L3 k0 k2 x1 x3 kk fu (x4 + (1)) s2)
def M_X7_copy (k0 : Nat) (k2 : Nat) (a1 : Int32) (a3 : Int32) (s : St) : Option (Int32 × St) :=
  M_X7_copy_L3 k0 k2 a1 a3 (fun s3 =>
    some (0, s3)) 400 (0) s
def M_X7_type (a1 : Int32) (s : St) : Option (Int32 × St) :=
  cl (M_X7_in a1 (0) (255) s) fun r1 s2 =>
  if r1 = 0 then (
    some ((-1), s2)) else (
    if (s2.1 67 13) = (140) then (
      some ((-3), s2)) else (
      wr s2 76 140 (s2.1 67 13) a1 fun s3 =>
      pu s3 67 13 ((s3.1 67 13) + (1)) fun s4 =>
      some ((s4.1 67 13), s4)))
def M_X7_clear (s : St) : Option (Int32 × St) :=
  pu s 67 13 (0) fun s1 =>
  some ((s.1 67 13), s1)
def M_X7_letterAt (a1 : Int32) (s : St) : Option (Int32 × St) :=
  if (s.1 67 13) ≤ a1 then (
    some ((-1), s)) else (
    rd s 76 140 a1 fun v1 =>
    some (v1, s))
def M_X7_isFigure (a0 : Int32) (s : St) : Option (Int32 × St) :=
  cl (M_X7_in a0 (48) (57) s) fun r1 s2 =>
  rz r1 s2
def M_X7_next_L0 (kk : St → Option (Int32 × St)) : Nat → St → Option (Int32 × St)
  | 0, _ => none
  | fu + 1, s =>
    cl (M_X7_letterAt (s.1 67 14) s) fun r1 s2 =>
    if r1 = (32) then (
      pu s2 67 14 ((s2.1 67 14) + (1)) fun s3 =>
      M_X7_next_L0 kk fu s3) else (
      kk s2)
def M_X7_next_L67 (x1 : Int32) (kk : St → Option (Int32 × St)) : Nat → St → Option (Int32 × St)
  | 0, _ => none
  | fu + 1, s =>
    cl (M_X7_letterAt (s.1 67 14) s) fun r17 s18 =>
    cl (M_X7_isFigure r17 s18) fun r19 s20 =>
    if r19 = 0 then (
      kk s20) else (
      jn (κ := Int32 → St → Option (Int32 × St)) (fun v22 s23 =>
        pu s23 67 17 v22 fun s24 =>
        pu s24 67 14 ((s24.1 67 14) + (1)) fun s25 =>
        M_X7_next_L67 x1 kk fu s25) fun kj21 =>
        if (s20.1 67 17) ≤ (99) then (
          cl (M_X7_letterAt (s20.1 67 14) s20) fun r26 s27 =>
          kj21 ((((10) * (s20.1 67 17)) + r26) - (48)) s27) else (
          kj21 (s20.1 67 17) s20))
def M_X7_next (s : St) : Option (Int32 × St) :=
  M_X7_next_L0  (fun s4 =>
    pu s4 67 15 (s4.1 67 14) fun s5 =>
    cl (M_X7_letterAt (s5.1 67 14) s5) fun r6 s7 =>
    pu s7 67 17 (0) fun s8 =>
    if 0 ≤ r6 then (
      cl (M_X7_isFigure r6 s8) fun r9 s10 =>
      if r9 = 0 then (
        jn (κ := Int32 → St → Option (Int32 × St)) (fun v12 s13 =>
          pu s13 67 16 v12 fun s14 =>
          pu s14 67 17 r6 fun s15 =>
          pu s15 67 14 ((s15.1 67 14) + (1)) fun s16 =>
          some (0, s16)) fun kj11 =>
          if r6 = (102) then (
            kj11 (1) s10) else (
            if r6 = (59) then (
              kj11 (3) s10) else (
              kj11 (4) s10))) else (
        M_X7_next_L67 r6 (fun s28 =>
          jn (κ := Int32 → St → Option (Int32 × St)) (fun v30 s31 =>
            pu s31 67 16 v30 fun s32 =>
            some (0, s32)) fun kj29 =>
            if (99) < (s28.1 67 17) then (
              kj29 (4) s28) else (
              if r6 = (48) then (
                if ((s28.1 67 14) - (s28.1 67 15)) ≤ (1) then (
                  kj29 (2) s28) else (
                  kj29 (4) s28)) else (
                kj29 (2) s28))) 400  s10)) else (
      pu s8 67 16 (0) fun s33 =>
      some (0, s33))) 400  s
def M_X7_takesNumber (a1 : Int32) (a2 : Int32) (s : St) : Option (Int32 × St) :=
  jn (κ := Int32 → St → Option (Int32 × St)) (fun v2 s3 =>
    jn (κ := Int32 → St → Option (Int32 × St)) (fun v5 s6 =>
      puZ s6 67 18 v5 fun s7 =>
      jn (κ := St → Option (Int32 × St)) (fun s9 =>
        if v2 = 0 then (
          some ((0), s9)) else (
          some ((s7.1 67 17), s9))) fun kj8 =>
        if v2 = 0 then (
          kj8 s7) else (
          cl (M_X7_next s7) fun r10 s11 =>
          kj8 s11)) fun kj4 =>
      if v2 = 0 then (
        kj4 (1) s3) else (
        kj4 (0) s3)) fun kj1 =>
    if (s.1 67 18) = 0 then (
      if (s.1 67 16) = (2) then (
        cl (M_X7_in (s.1 67 17) a1 a2 s) fun r12 s13 =>
        if r12 = 0 then (
          kj1 (0) s13) else (
          kj1 (1) s13)) else (
        kj1 (0) s)) else (
      kj1 (0) s)
def M_X7_readFarmer (s : St) : Option (Int32 × St) :=
  cl (M_X7_takesNumber (0) (30) s) fun r1 s2 =>
  wr s2 77 30 ((5) * (s.1 67 20)) r1 fun s3 =>
  cl (M_X7_takesNumber (1) (9) s3) fun r4 s5 =>
  wr s5 77 30 (((5) * (s.1 67 20)) + (1)) r4 fun s6 =>
  cl (M_X7_takesNumber (0) (20) s6) fun r7 s8 =>
  wr s8 77 30 (((5) * (s.1 67 20)) + (2)) r7 fun s9 =>
  cl (M_X7_takesNumber (0) (6) s9) fun r10 s11 =>
  wr s11 77 30 (((5) * (s.1 67 20)) + (3)) r10 fun s12 =>
  jn (κ := Int32 → St → Option (Int32 × St)) (fun v14 s15 =>
    puZ s15 67 18 v14 fun s16 =>
    cl (M_X7_takesNumber (0) (5) s16) fun r17 s18 =>
    wr s18 77 30 (((5) * (s.1 67 20)) + (4)) r17 fun s19 =>
    pu s19 67 20 ((s19.1 67 20) + (1)) fun s20 =>
    some (0, s20)) fun kj13 =>
    if (s12.1 67 18) = 0 then (
      if (s12.1 67 16) = (2) then (
        if (s12.1 67 17) = (s12.1 67 20) then (
          kj13 (1) s12) else (
          kj13 (0) s12)) else (
        kj13 (0) s12)) else (
      kj13 (1) s12)
def M_X7_readItem (s : St) : Option (Int32 × St) :=
  jn (κ := St → Option (Int32 × St)) (fun s2 =>
    puZ s2 67 18 (1) fun s3 =>
    some (0, s3)) fun kj1 =>
    if (s.1 67 16) = (1) then (
      if (s.1 67 20) = (6) then (
        kj1 s) else (
        cl (M_X7_next s) fun r4 s5 =>
        cl (M_X7_readFarmer s5) fun r6 s7 =>
        jn (κ := Int32 → St → Option (Int32 × St)) (fun v9 s10 =>
          puZ s10 67 18 v9 fun s11 =>
          if (s11.1 67 18) = 0 then (
            cl (M_X7_next s11) fun r12 s13 =>
            some (0, s13)) else (
            some (0, s11))) fun kj8 =>
          if (s7.1 67 18) = 0 then (
            if (s7.1 67 16) = (3) then (
              kj8 (0) s7) else (
              kj8 (1) s7)) else (
            kj8 (1) s7))) else (
      kj1 s)
def M_X7_settles_L10 (kk : St → Option (Int32 × St)) : Nat → Int32 → St → Option (Int32 × St)
  | 0, _, _ => none
  | fu + 1, x1, s =>
    if (14) ≤ x1 then (
      kk s) else (
      wr s 71 14 x1 (0) fun s2 =>
      M_X7_settles_L10 kk fu (x1 + (1)) s2)
def M_X7_settles_L31 (kk : St → Option (Int32 × St)) : Nat → Int32 → St → Option (Int32 × St)
  | 0, _, _ => none
  | fu + 1, x1, s =>
    if (s.1 67 0) ≤ x1 then (
      kk s) else (
      rd s 77 30 ((5) * x1) fun v4 =>
      wr s 68 6 x1 v4 fun s5 =>
      rd s5 77 30 (((5) * x1) + (2)) fun v6 =>
      wr s5 69 6 x1 v6 fun s7 =>
      rd s7 77 30 (((5) * x1) + (3)) fun v8 =>
      wr s7 70 6 x1 v8 fun s9 =>
      rd s9 77 30 (((5) * x1) + (1)) fun v10 =>
      wr s9 71 14 ((2) + x1) v10 fun s11 =>
      rd s11 77 30 (((5) * x1) + (4)) fun v12 =>
      wr s11 71 14 ((8) + x1) v12 fun s13 =>
      M_X7_settles_L31 kk fu (x1 + (1)) s13)
def M_X7_settles (s : St) : Option (Int32 × St) :=
  pu s 67 0 (s.1 67 20) fun s1 =>
  M_X7_settles_L10  (fun s3 =>
    M_X7_settles_L31  (fun s14 =>
      pu s14 67 6 (0) fun s15 =>
      pu s15 67 9 (0) fun s16 =>
      wr s16 74 2 (0) (vp_nar .boolean (0)) fun s17 =>
      wr s17 74 2 (1) (vp_nar .boolean (0)) fun s18 =>
      pu s18 67 13 (0) fun s19 =>
      some (0, s19)) 400 (0) s3) 400 (0) s1
def M_X7_valley_L24 (kk : St → Option (Int32 × St)) : Nat → St → Option (Int32 × St)
  | 0, _ => none
  | fu + 1, s =>
    if (s.1 67 16) = 0 then (
      kk s) else (
      if (s.1 67 18) = 0 then (
        cl (M_X7_readItem s) fun r7 s8 =>
        pu s8 67 19 ((s8.1 67 19) + (1)) fun s9 =>
        M_X7_valley_L24 kk fu s9) else (
        kk s))
def M_X7_valley_L57 (kk : St → Option (Int32 × St)) : Nat → Int32 → St → Option (Int32 × St)
  | 0, _, _ => none
  | fu + 1, x1, s =>
    if (s.1 67 20) ≤ x1 then (
      kk s) else (
      if (s.1 67 18) = 0 then (
        rd s 77 30 (((5) * x1) + (4)) fun v11 =>
        jn (κ := Int32 → St → Option (Int32 × St)) (fun v13 s14 =>
          puZ s14 67 18 v13 fun s15 =>
          M_X7_valley_L57 kk fu (x1 + (1)) s15) fun kj12 =>
          if v11 < (s.1 67 20) then (
            kj12 (0) s) else (
            kj12 (1) s)) else (
        kk s))
def M_X7_valley (s : St) : Option (Int32 × St) :=
  pu s 67 14 (0) fun s1 =>
  puZ s1 67 18 (0) fun s2 =>
  pu s2 67 19 (0) fun s3 =>
  pu s3 67 20 (0) fun s4 =>
  cl (M_X7_next s4) fun r5 s6 =>
  M_X7_valley_L24  (fun s10 =>
    M_X7_valley_L57  (fun s16 =>
      if (s16.1 67 18) = 0 then (
        cl (M_X7_settles s16) fun r17 s18 =>
        some ((s18.1 67 19), s18)) else (
        some (((-10) - (s16.1 67 15)), s16))) 400 (0) s10) 400  s6
def M_X7_asItIs (s : St) : Option (Int32 × St) :=
  cl (M_X7_copy 78 71 (0) (0) s) fun r1 s2 =>
  some (0, s2)
def M_X7_asks_L9 (x1 : Int32) (kk : St → Option (Int32 × St)) : Nat → Int32 → St → Option (Int32 × St)
  | 0, _, _ => none
  | fu + 1, x2, s =>
    if (s.1 67 0) ≤ x2 then (
      kk s) else (
      rd s 69 6 x2 fun v2 =>
      rd s 78 14 (0) fun v3 =>
      jn (κ := Int32 → St → Option (Int32 × St)) (fun v5 s6 =>
        rd s6 78 14 (1) fun v7 =>
        jn (κ := Int32 → St → Option (Int32 × St)) (fun v9 s10 =>
          wr s10 78 14 (1) (v7 ||| v9) fun s11 =>
          M_X7_asks_L9 x1 kk fu (x2 + (1)) s11) fun kj8 =>
          if v5 = 0 then (
            kj8 (0) s6) else (
            kj8 ((1) <<< (x2 &&& 31)) s6)) fun kj4 =>
        if v2 ≤ v3 then (
          kj4 (1) s) else (
          cl (M_X7_bits x1 s) fun r12 s13 =>
          rd s13 70 6 x2 fun v14 =>
          if r12 < v14 then (
            kj4 (0) s13) else (
            kj4 (1) s13)))
def M_X7_asks (s : St) : Option (Int32 × St) :=
  rd s 78 14 (1) fun v1 =>
  M_X7_asks_L9 v1 (fun s15 =>
    some (0, s15)) 400 (0) s
def M_X7_mowsOwn (a1 : Int32) (s : St) : Option (Int32 × St) :=
  rd s 78 14 (1) fun v1 =>
  cl (M_X7_has v1 a1 s) fun r2 s3 =>
  if r2 = 0 then (
    some ((0), s3)) else (
    rd s3 78 14 ((2) + a1) fun v4 =>
    if v4 = 0 then (
      some ((0), s3)) else (
      rd s3 78 14 ((2) + a1) fun v5 =>
      wr s3 78 14 ((2) + a1) (v5 - (1)) fun s6 =>
      some ((1), s6)))
def M_X7_mowsOther_L28 (x1 : Int32) (kk : St → Option (Int32 × St)) : Nat → Int32 → St → Option (Int32 × St)
  | 0, _, _ => none
  | fu + 1, x2, s =>
    if (s.1 67 0) ≤ x2 then (
      kk s) else (
      rd s 78 14 ((8) + x2) fun v6 =>
      jn (κ := St → Option (Int32 × St)) (fun s8 =>
        M_X7_mowsOther_L28 x1 kk fu (x2 + (1)) s8) fun kj7 =>
        if v6 = x1 then (
          rd s 78 14 (1) fun v9 =>
          cl (M_X7_has v9 x2 s) fun r10 s11 =>
          if r10 = 0 then (
            kj7 s11) else (
            rd s11 78 14 ((2) + x2) fun v12 =>
            if v12 ≤ 0 then (
              kj7 s11) else (
              rd s11 78 14 ((2) + x2) fun v13 =>
              wr s11 78 14 ((2) + x2) (v13 - (1)) fun s14 =>
              some ((1), s14)))) else (
          kj7 s))
def M_X7_mowsOther (a1 : Int32) (s : St) : Option (Int32 × St) :=
  rd s 78 14 (1) fun v1 =>
  cl (M_X7_has v1 a1 s) fun r2 s3 =>
  if r2 = 0 then (
    some ((0), s3)) else (
    cl (M_X7_has (s3.1 67 23) a1 s3) fun r4 s5 =>
    if r4 = 0 then (
      some ((0), s5)) else (
      M_X7_mowsOther_L28 a1 (fun s15 =>
        some ((0), s15)) 400 (0) s5))
def M_X7_goesBy_L18 (x2 : Int32) (kk : St → Option (Int32 × St)) : Nat → Int32 → St → Option (Int32 × St)
  | 0, _, _ => none
  | fu + 1, x3, s =>
    if (s.1 67 0) ≤ x3 then (
      kk s) else (
      rd s 78 14 ((2) + x3) fun v9 =>
      jn (κ := Int32 → St → Option (Int32 × St)) (fun v11 s12 =>
        pu s12 67 23 ((s.1 67 23) ||| v11) fun s13 =>
        M_X7_goesBy_L18 x2 kk fu (x3 + (1)) s13) fun kj10 =>
        if v9 = 0 then (
          kj10 ((1) <<< (x3 &&& 31)) s) else (
          kj10 (0) s))
def M_X7_goesBy_L61 (kk : Int32 → St → Option (Int32 × St)) : Nat → Int32 → Int32 → St → Option (Int32 × St)
  | 0, _, _, _ => none
  | fu + 1, x2, x3, s =>
    if (s.1 67 0) ≤ x3 then (
      kk x2 s) else (
      cl (M_X7_mowsOwn x3 s) fun r15 s16 =>
      M_X7_goesBy_L61 kk fu (x2 + r15) (x3 + (1)) s16)
def M_X7_goesBy_L85 (kk : Int32 → St → Option (Int32 × St)) : Nat → Int32 → Int32 → St → Option (Int32 × St)
  | 0, _, _, _ => none
  | fu + 1, x2, x3, s =>
    if (s.1 67 0) ≤ x3 then (
      kk x2 s) else (
      cl (M_X7_mowsOther x3 s) fun r19 s20 =>
      M_X7_goesBy_L85 kk fu (x2 + r19) (x3 + (1)) s20)
def M_X7_goesBy (a1 : Int32) (s : St) : Option (Int32 × St) :=
  cl (M_X7_asks s) fun r1 s2 =>
  jn (κ := Int32 → St → Option (Int32 × St)) (fun v4 s5 =>
    rd s5 78 14 (0) fun v6 =>
    wr s5 78 14 (0) (v6 + (1)) fun s7 =>
    some (v4, s7)) fun kj3 =>
    if a1 = (1) then (
      pu s2 67 23 (0) fun s8 =>
      M_X7_goesBy_L18 (0) (fun s14 =>
        M_X7_goesBy_L61  (fun v17 s18 =>
          M_X7_goesBy_L85  (fun v21 s22 =>
            kj3 v21 s22) 400 v17 (0) s18) 400 (0) (0) s14) 400 (0) s8) else (
      kj3 (0) s2)
def M_X7_leftAll_L4 (kk : Int32 → St → Option (Int32 × St)) : Nat → Int32 → Int32 → St → Option (Int32 × St)
  | 0, _, _, _ => none
  | fu + 1, x1, x2, s =>
    if (s.1 67 0) ≤ x2 then (
      kk x1 s) else (
      rd s 78 14 ((2) + x2) fun v1 =>
      M_X7_leftAll_L4 kk fu (x1 + v1) (x2 + (1)) s)
def M_X7_leftAll (s : St) : Option (Int32 × St) :=
  M_X7_leftAll_L4  (fun v2 s3 =>
    some (v2, s3)) 400 (0) (0) s
def M_X7_daysTillAsked_L6 (x1 : Int32) (kk : St → Option (Int32 × St)) : Nat → Int32 → St → Option (Int32 × St)
  | 0, _, _ => none
  | fu + 1, x2, s =>
    if (60) < x2 then (
      kk s) else (
      rd s 78 14 (1) fun v3 =>
      cl (M_X7_has v3 x1 s) fun r4 s5 =>
      if r4 = 0 then (
        cl (M_X7_goesBy (1) s5) fun r6 s7 =>
        M_X7_daysTillAsked_L6 x1 kk fu (x2 + (1)) s7) else (
        some (x2, s5)))
def M_X7_daysTillAsked (a1 : Int32) (s : St) : Option (Int32 × St) :=
  cl (M_X7_asItIs s) fun r1 s2 =>
  M_X7_daysTillAsked_L6 a1 (fun s8 =>
    some ((-9), s8)) 400 (0) s2
def M_X7_daysTillDone_L6 (x1 : Int32) (kk : St → Option (Int32 × St)) : Nat → Int32 → St → Option (Int32 × St)
  | 0, _, _ => none
  | fu + 1, x2, s =>
    if (60) < x2 then (
      kk s) else (
      jn (κ := Int32 → St → Option (Int32 × St)) (fun v4 s5 =>
        if v4 = 0 then (
          some (x2, s5)) else (
          cl (M_X7_goesBy (1) s5) fun r6 s7 =>
          M_X7_daysTillDone_L6 x1 kk fu (x2 + (1)) s7)) fun kj3 =>
        if 0 ≤ x1 then (
          rd s 78 14 ((2) + x1) fun v8 =>
          kj3 v8 s) else (
          cl (M_X7_leftAll s) fun r9 s10 =>
          kj3 r9 s10))
def M_X7_daysTillDone (a1 : Int32) (s : St) : Option (Int32 × St) :=
  cl (M_X7_asItIs s) fun r1 s2 =>
  M_X7_daysTillDone_L6 a1 (fun s11 =>
    some ((-9), s11)) 400 (0) s2
def M_X7_hangWith_L4 (x1 : Int32) (kk : Int32 → St → Option (Int32 × St)) : Nat → Int32 → Int32 → St → Option (Int32 × St)
  | 0, _, _, _ => none
  | fu + 1, x2, x3, s =>
    if (s.1 67 0) ≤ x3 then (
      kk x2 s) else (
      rd s 71 14 ((8) + x3) fun v1 =>
      jn (κ := Int32 → St → Option (Int32 × St)) (fun v3 s4 =>
        M_X7_hangWith_L4 x1 kk fu (x2 ||| v3) (x3 + (1)) s4) fun kj2 =>
        if v1 = x1 then (
          kj2 ((1) <<< (x3 &&& 31)) s) else (
          kj2 (0) s))
def M_X7_hangWith (a1 : Int32) (s : St) : Option (Int32 × St) :=
  M_X7_hangWith_L4 a1 (fun v5 s6 =>
    some (v5, s6)) 400 (0) (0) s
def M_X7_ring_L4 (x1 : Int32) (kk : St → Option (Int32 × St)) : Nat → Int32 → Int32 → St → Option (Int32 × St)
  | 0, _, _, _ => none
  | fu + 1, x2, x3, s =>
    if (s.1 67 0) < x3 then (
      kk s) else (
      rd s 71 14 ((8) + x2) fun v1 =>
      if v1 = x1 then (
        some (x3, s)) else (
        M_X7_ring_L4 x1 kk fu v1 (x3 + (1)) s))
def M_X7_ring (a1 : Int32) (s : St) : Option (Int32 × St) :=
  M_X7_ring_L4 a1 (fun s2 =>
    some ((0), s2)) 400 a1 (1) s
def M_X7_farmer (a1 : Int32) (a2 : Int32) (s : St) : Option (Int32 × St) :=
  cl (M_X7_isFarmer a1 s) fun r1 s2 =>
  if r1 = 0 then (
    some ((-1), s2)) else (
    if a2 = 0 then (
      rd s2 68 6 a1 fun v3 =>
      some (v3, s2)) else if a2 = 1 then (
      rd s2 71 14 ((2) + a1) fun v5 =>
      some (v5, s2)) else if a2 = 2 then (
      rd s2 69 6 a1 fun v7 =>
      some (v7, s2)) else if a2 = 3 then (
      rd s2 70 6 a1 fun v9 =>
      some (v9, s2)) else if a2 = 4 then (
      rd s2 71 14 ((8) + a1) fun v11 =>
      some (v11, s2)) else if a2 = 5 then (
      rd s2 71 14 (1) fun v13 =>
      some (((v13 >>> (a1 &&& 31)) &&& (1)), s2)) else if a2 = 6 then (
      cl (M_X7_hangWith a1 s2) fun r15 s16 =>
      some (r15, s16)) else if a2 = 7 then (
      cl (M_X7_ring a1 s2) fun r18 s19 =>
      some (r18, s19)) else if a2 = 8 then (
      cl (M_X7_daysTillAsked a1 s2) fun r21 s22 =>
      some (r21, s22)) else if a2 = 9 then (
      cl (M_X7_daysTillDone a1 s2) fun r24 s25 =>
      some (r24, s25)) else (
      some ((-1), s2)))
def M_X7_now (a1 : Int32) (s : St) : Option (Int32 × St) :=
  cl (M_X7_asItIs s) fun r1 s2 =>
  if a1 = 0 then (
    rd s2 71 14 (0) fun v3 =>
    some (v3, s2)) else if a1 = 1 then (
    rd s2 71 14 (1) fun v5 =>
    some (v5, s2)) else if a1 = 2 then (
    cl (M_X7_leftAll s2) fun r7 s8 =>
    some (r7, s8)) else if a1 = 3 then (
    cl (M_X7_daysTillDone (-1) s2) fun r10 s11 =>
    some (r10, s11)) else if a1 = 4 then (
    some ((s2.1 67 6), s2)) else (
    some ((-1), s2))
def M_X7_remembers_L11 (kk : St → Option (Int32 × St)) : Nat → Int32 → St → Option (Int32 × St)
  | 0, _, _ => none
  | fu + 1, x1, s =>
    if (126) ≤ x1 then (
      kk s) else (
      rd s 72 140 (x1 + (14)) fun v6 =>
      wr s 72 140 x1 v6 fun s7 =>
      M_X7_remembers_L11 kk fu (x1 + (1)) s7)
def M_X7_remembers (s : St) : Option (Int32 × St) :=
  jn (κ := St → Option (Int32 × St)) (fun s2 =>
    cl (M_X7_copy 72 71 ((14) * (s2.1 67 6)) (0) s2) fun r3 s4 =>
    pu s4 67 6 ((s4.1 67 6) + (1)) fun s5 =>
    some (0, s5)) fun kj1 =>
    if (s.1 67 6) = (10) then (
      M_X7_remembers_L11  (fun s8 =>
        pu s8 67 6 ((s8.1 67 6) - (1)) fun s9 =>
        kj1 s9) 400 (0) s) else (
      kj1 s)
def M_X7_day (a1 : Int32) (s : St) : Option (Int32 × St) :=
  cl (M_X7_in a1 (0) (1) s) fun r1 s2 =>
  if r1 = 0 then (
    some ((-1), s2)) else (
    rd s2 71 14 (0) fun v3 =>
    if v3 = (999) then (
      some ((-2), s2)) else (
      cl (M_X7_remembers s2) fun r4 s5 =>
      cl (M_X7_asItIs s5) fun r6 s7 =>
      cl (M_X7_goesBy a1 s7) fun r8 s9 =>
      cl (M_X7_copy 71 78 (0) (0) s9) fun r10 s11 =>
      some (r8, s11)))
def M_X7_brings (a1 : Int32) (s : St) : Option (Int32 × St) :=
  cl (M_X7_isFarmer a1 s) fun r1 s2 =>
  if r1 = 0 then (
    some ((-1), s2)) else (
    rd s2 71 14 (1) fun v3 =>
    cl (M_X7_has v3 a1 s2) fun r4 s5 =>
    if r4 = 0 then (
      cl (M_X7_remembers s5) fun r6 s7 =>
      rd s7 71 14 (1) fun v8 =>
      wr s7 71 14 (1) (v8 ||| ((1) <<< (a1 &&& 31))) fun s9 =>
      rd s9 71 14 (1) fun v10 =>
      cl (M_X7_bits v10 s9) fun r11 s12 =>
      some (r11, s12)) else (
      some ((-2), s5)))
def M_X7_hangs (a1 : Int32) (a2 : Int32) (s : St) : Option (Int32 × St) :=
  cl (M_X7_isFarmer a1 s) fun r1 s2 =>
  if r1 = 0 then (
    some ((-1), s2)) else (
    cl (M_X7_isFarmer a2 s2) fun r3 s4 =>
    if r3 = 0 then (
      some ((-1), s4)) else (
      if a1 = a2 then (
        some ((-1), s4)) else (
        rd s4 71 14 ((8) + a1) fun v5 =>
        rd s4 71 14 (1) fun v6 =>
        cl (M_X7_has v6 a1 s4) fun r7 s8 =>
        if r7 = 0 then (
          if v5 = a2 then (
            some ((-2), s8)) else (
            cl (M_X7_remembers s8) fun r9 s10 =>
            wr s10 71 14 ((8) + a1) a2 fun s11 =>
            some (v5, s11))) else (
          some ((-2), s8)))))
def M_X7_undo (s : St) : Option (Int32 × St) :=
  if (s.1 67 6) = 0 then (
    some ((-2), s)) else (
    pu s 67 6 ((s.1 67 6) - (1)) fun s1 =>
    cl (M_X7_copy 71 72 (0) ((14) * (s1.1 67 6)) s1) fun r2 s3 =>
    some ((s3.1 67 6), s3))
def M_X7_allAskedBy_L16 (x2 : Int32) (kk : St → Option (Int32 × St)) : Nat → Int32 → St → Option (Int32 × St)
  | 0, _, _ => none
  | fu + 1, x3, s =>
    if x2 ≤ x3 then (
      kk s) else (
      cl (M_X7_goesBy (1) s) fun r5 s6 =>
      M_X7_allAskedBy_L16 x2 kk fu (x3 + (1)) s6)
def M_X7_allAskedBy (a1 : Int32) (a2 : Int32) (s : St) : Option (Int32 × St) :=
  cl (M_X7_asItIs s) fun r1 s2 =>
  rd s2 78 14 (1) fun v3 =>
  wr s2 78 14 (1) (v3 ||| a1) fun s4 =>
  M_X7_allAskedBy_L16 a2 (fun s7 =>
    rd s7 78 14 (1) fun v8 =>
    if v8 = (((1) <<< ((s7.1 67 0) &&& 31)) - (1)) then (
      some (1, s7)) else (
      some (0, s7))) 400 (0) s4
def M_X7_start_L32 (x1 : Int32) (kk : Int32 → St → Option (Int32 × St)) : Nat → Int32 → Int32 → St → Option (Int32 × St)
  | 0, _, _, _ => none
  | fu + 1, x2, x3, s =>
    if ((1) <<< ((s.1 67 0) &&& 31)) ≤ x3 then (
      kk x2 s) else (
      cl (M_X7_bits x3 s) fun r4 s5 =>
      cl (M_X7_bits x2 s5) fun r6 s7 =>
      jn (κ := Int32 → St → Option (Int32 × St)) (fun v9 s10 =>
        jn (κ := Int32 → St → Option (Int32 × St)) (fun v12 s13 =>
          M_X7_start_L32 x1 kk fu v12 (x3 + (1)) s13) fun kj11 =>
          if v9 = 0 then (
            kj11 x2 s10) else (
            rd s10 71 14 (1) fun v14 =>
            if (x3 &&& v14) = 0 then (
              cl (M_X7_allAskedBy x3 x1 s10) fun r15 s16 =>
              if r15 = 0 then (
                kj11 x2 s16) else (
                kj11 x3 s16)) else (
              kj11 x2 s10))) fun kj8 =>
        if (r4 - r6) < 0 then (
          kj8 (1) s7) else (
          if (r4 - r6) = 0 then (
            if x2 ≤ x3 then (
              kj8 (0) s7) else (
              kj8 (1) s7)) else (
            kj8 (0) s7)))
def M_X7_start (a1 : Int32) (s : St) : Option (Int32 × St) :=
  cl (M_X7_in a1 (0) (20) s) fun r1 s2 =>
  if r1 = 0 then (
    some ((-1), s2)) else (
    rd s2 71 14 (1) fun v3 =>
    M_X7_start_L32 a1 (fun v17 s18 =>
      some (v17, s18)) 400 ((((1) <<< ((s2.1 67 0) &&& 31)) - (1)) &&& (v3 ^^^ (-1))) (0) s2)
def M_X7_far (a0 : Int32) (a1 : Int32) (s : St) : Option (Int32 × St) :=
  if a1 ≤ a0 then (
    some ((a0 - a1), s)) else (
    some ((a1 - a0), s))
def M_X7_farBy_L18 (kk : Int32 → Int32 → St → Option (Int32 × St)) : Nat → Int32 → Int32 → Int32 → Int32 → Int32 → St → Option (Int32 × St)
  | 0, _, _, _, _, _, _ => none
  | fu + 1, x2, x3, x4, x5, x6, s =>
    if x6 < 0 then (
      kk x4 x5 s) else (
      dv (6) <|
      dv (6) <|
      wr s 79 6 x6 (x2 - x2 / (6) * (6)) fun s1 =>
      jn (κ := Int32 → St → Option (Int32 × St)) (fun v3 s4 =>
        jn (κ := Int32 → St → Option (Int32 × St)) (fun v6 s7 =>
          M_X7_farBy_L18 kk fu (x2 / (6)) (x3 ||| ((1) <<< ((x2 - x2 / (6) * (6)) &&& 31))) (x4 + v6) v3 (x6 + (-1)) s7) fun kj5 =>
          if v3 = 0 then (
            kj5 (0) s4) else (
            rd s4 68 6 x6 fun v8 =>
            rd s4 68 6 (x2 - x2 / (6) * (6)) fun v9 =>
            cl (M_X7_far v8 v9 s4) fun r10 s11 =>
            kj5 r10 s11)) fun kj2 =>
        if x5 = 0 then (
          kj2 (0) s1) else (
          cl (M_X7_isFarmer (x2 - x2 / (6) * (6)) s1) fun r12 s13 =>
          if r12 = 0 then (
            kj2 (0) s13) else (
            if (x2 - x2 / (6) * (6)) = x6 then (
              kj2 (0) s13) else (
              cl (M_X7_has x3 (x2 - x2 / (6) * (6)) s13) fun r14 s15 =>
              if r14 = 0 then (
                kj2 (1) s15) else (
                kj2 (0) s15)))))
def M_X7_farBy (a1 : Int32) (s : St) : Option (Int32 × St) :=
  M_X7_farBy_L18  (fun v16 v17 s18 =>
    if v17 = 0 then (
      some ((-1), s18)) else (
      some (v16, s18))) 400 a1 (0) (0) (1) ((s.1 67 0) - (1)) s
def M_X7_hang_L20 (x1 : Int32) (kk : Int32 → St → Option (Int32 × St)) : Nat → Int32 → Int32 → St → Option (Int32 × St)
  | 0, _, _, _ => none
  | fu + 1, x2, x3, s =>
    if (s.1 67 0) ≤ x3 then (
      kk x2 s) else (
      M_X7_hang_L20 x1 kk fu (x2 * (6)) (x3 + (1)) s)
def M_X7_hang_L48 (x1 : Int32) (x2 : Int32) (kk : Int32 → Int32 → St → Option (Int32 × St)) : Nat → Int32 → Int32 → Int32 → St → Option (Int32 × St)
  | 0, _, _, _, _ => none
  | fu + 1, x3, x4, x5, s =>
    if x2 ≤ x5 then (
      kk x3 x4 s) else (
      if (s.1 67 0) ≤ 0 then (
        kk x3 x4 s) else (
        cl (M_X7_farBy x5 s) fun r5 s6 =>
        jn (κ := Int32 → St → Option (Int32 × St)) (fun v8 s9 =>
          jn (κ := Int32 → St → Option (Int32 × St)) (fun v11 s12 =>
            jn (κ := Int32 → St → Option (Int32 × St)) (fun v14 s15 =>
              M_X7_hang_L48 x1 x2 kk fu v14 v11 (x5 + (1)) s15) fun kj13 =>
              if v8 = 0 then (
                kj13 x3 s12) else (
                kj13 r5 s12)) fun kj10 =>
            if v8 = 0 then (
              kj10 x4 s9) else (
              kj10 x5 s9)) fun kj7 =>
          if r5 < 0 then (
            kj7 (0) s6) else (
            if x3 < 0 then (
              kj7 (1) s6) else (
              if x3 ≤ r5 then (
                kj7 (0) s6) else (
                kj7 (1) s6)))))
def M_X7_hang (a1 : Int32) (s : St) : Option (Int32 × St) :=
  cl (M_X7_in a1 (-1) ((s.1 67 0) - (1)) s) fun r1 s2 =>
  if r1 = 0 then (
    some ((-1), s2)) else (
    M_X7_hang_L20 a1 (fun v3 s4 =>
      M_X7_hang_L48 a1 v3 (fun v16 v17 s18 =>
        if 0 ≤ a1 then (
          cl (M_X7_farBy v17 s18) fun r19 s20 =>
          rd s20 79 6 a1 fun v21 =>
          some (v21, s20)) else (
          some (v16, s18))) 50000 (-9) (0) (0) s4) 400 (1) (0) s2)
def M_X7_lowest_L5 (x0 : Int32) (x1 : Int32) (x2 : Int32) (kk : Int32 → St → Option (Int32 × St)) : Nat → Int32 → Int32 → St → Option (Int32 × St)
  | 0, _, _, _ => none
  | fu + 1, x3, x4, s =>
    if x4 ≤ 0 then (
      kk x3 s) else (
      dv x4 <|
      M_X7_lowest_L5 x0 x1 x2 kk fu x4 (x3 - x3 / x4 * x4) s)
def M_X7_lowest (a0 : Int32) (a1 : Int32) (a2 : Int32) (s : St) : Option (Int32 × St) :=
  M_X7_lowest_L5 a0 a1 a2 (fun v1 s2 =>
    if a2 = 0 then (
      dv v1 <|
      some ((a0 / v1), s2)) else (
      dv v1 <|
      some ((a1 / v1), s2))) 400 a0 a1 s
def M_X7_odds_L49 (x1 : Int32) (x2 : Int32) (x3 : Int32) (x4 : Int32) (x5 : Int32) (kk : Int32 → St → Option (Int32 × St)) : Nat → Int32 → Int32 → St → Option (Int32 × St)
  | 0, _, _, _ => none
  | fu + 1, x6, x7, s =>
    if x3 ≤ x7 then (
      kk x6 s) else (
      M_X7_odds_L49 x1 x2 x3 x4 x5 kk fu (x6 * (10)) (x7 + (1)) s)
def M_X7_odds_L85 (x1 : Int32) (x2 : Int32) (x3 : Int32) (x4 : Int32) (x5 : Int32) (x6 : Int32) (x7 : Int32) (kk : Int32 → St → Option (Int32 × St)) : Nat → Int32 → Int32 → St → Option (Int32 × St)
  | 0, _, _, _ => none
  | fu + 1, x8, x9, s =>
    if x3 ≤ x9 then (
      kk x8 s) else (
      cl (M_X7_has x7 x9 s) fun r11 s12 =>
      jn (κ := Int32 → St → Option (Int32 × St)) (fun v14 s15 =>
        M_X7_odds_L85 x1 x2 x3 x4 x5 x6 x7 kk fu (x8 * v14) (x9 + (1)) s15) fun kj13 =>
        if r11 = 0 then (
          kj13 ((10) - x2) s12) else (
          kj13 x2 s12))
def M_X7_odds_L71 (x1 : Int32) (x2 : Int32) (x3 : Int32) (x4 : Int32) (x6 : Int32) (kk : Int32 → St → Option (Int32 × St)) : Nat → Int32 → Int32 → St → Option (Int32 × St)
  | 0, _, _, _ => none
  | fu + 1, x5, x7, s =>
    if ((1) <<< (x3 &&& 31)) ≤ x7 then (
      kk x5 s) else (
      M_X7_odds_L85 x1 x2 x3 x4 x5 x6 x7 (fun v16 s17 =>
        cl (M_X7_bits x7 s17) fun r18 s19 =>
        rd s19 71 14 ((2) + x1) fun v20 =>
        jn (κ := Int32 → St → Option (Int32 × St)) (fun v22 s23 =>
          M_X7_odds_L71 x1 x2 x3 x4 x6 kk fu (x5 + v22) (x7 + (1)) s23) fun kj21 =>
          if r18 < v20 then (
            kj21 (0) s19) else (
            kj21 v16 s19)) 400 (1) (0) s)
def M_X7_odds (a1 : Int32) (a2 : Int32) (a3 : Int32) (a4 : Int32) (s : St) : Option (Int32 × St) :=
  cl (M_X7_isFarmer a1 s) fun r1 s2 =>
  if r1 = 0 then (
    some ((-1), s2)) else (
    cl (M_X7_in a2 (0) (10) s2) fun r3 s4 =>
    if r3 = 0 then (
      some ((-1), s4)) else (
      cl (M_X7_in a3 (0) (8) s4) fun r5 s6 =>
      if r5 = 0 then (
        some ((-1), s6)) else (
        cl (M_X7_in a4 (0) (1) s6) fun r7 s8 =>
        if r7 = 0 then (
          some ((-1), s8)) else (
          M_X7_odds_L49 a1 a2 a3 a4 (0) (fun v9 s10 =>
            M_X7_odds_L71 a1 a2 a3 a4 v9 (fun v24 s25 =>
              cl (M_X7_lowest v24 v9 a4 s25) fun r26 s27 =>
              some (r26, s27)) 400 (0) (0) s10) 400 (1) (0) s8))))
def M_X7_sees (a1 : Int32) (a2 : Int32) (a3 : Int32) (s : St) : Option (Int32 × St) :=
  cl (M_X7_in a1 (0) (20) s) fun r1 s2 =>
  if r1 = 0 then (
    some ((-1), s2)) else (
    cl (M_X7_in a2 (0) (6) s2) fun r3 s4 =>
    if r3 = 0 then (
      some ((-1), s4)) else (
      cl (M_X7_in a3 (0) (1) s4) fun r5 s6 =>
      if r5 = 0 then (
        some ((-1), s6)) else (
        if (s6.1 67 9) = (6) then (
          some ((-3), s6)) else (
          wr s6 75 18 ((3) * (s6.1 67 9)) a1 fun s7 =>
          wr s7 75 18 (((3) * (s7.1 67 9)) + (1)) a2 fun s8 =>
          wr s8 75 18 (((3) * (s8.1 67 9)) + (2)) a3 fun s9 =>
          pu s9 67 9 ((s9.1 67 9) + (1)) fun s10 =>
          some ((s10.1 67 9), s10)))))
def M_X7_forget (s : St) : Option (Int32 × St) :=
  pu s 67 9 (0) fun s1 =>
  some ((s.1 67 9), s1)
def M_X7_hadAsked (a0 : Int32) (a1 : Int32) (a2 : Int32) (a3 : Int32) (s : St) : Option (Int32 × St) :=
  if a0 ≤ a2 then (
    some (1, s)) else (
    if a3 < a1 then (
      some (0, s)) else (
      some (1, s)))
def M_X7_isSo_L5 (x1 : Int32) (x2 : Int32) (kk : Int32 → St → Option (Int32 × St)) : Nat → Int32 → Int32 → St → Option (Int32 × St)
  | 0, _, _, _ => none
  | fu + 1, x3, x4, s =>
    if (s.1 67 9) ≤ x4 then (
      kk x3 s) else (
      jn (κ := Int32 → St → Option (Int32 × St)) (fun v2 s3 =>
        M_X7_isSo_L5 x1 x2 kk fu v2 (x4 + (1)) s3) fun kj1 =>
        if x3 = 0 then (
          kj1 (0) s) else (
          rd s 75 18 ((3) * x4) fun v4 =>
          rd s 75 18 (((3) * x4) + (1)) fun v5 =>
          cl (M_X7_hadAsked x1 x2 v4 v5 s) fun r6 s7 =>
          rd s7 75 18 (((3) * x4) + (2)) fun v8 =>
          jn (κ := Int32 → St → Option (Int32 × St)) (fun v10 s11 =>
            if r6 = v10 then (
              kj1 (1) s11) else (
              kj1 (0) s11)) fun kj9 =>
            if v8 = (1) then (
              kj9 (1) s7) else (
              kj9 (0) s7)))
def M_X7_isSo (a1 : Int32) (a2 : Int32) (s : St) : Option (Int32 × St) :=
  M_X7_isSo_L5 a1 a2 (fun v12 s13 =>
    rz v12 s13) 400 (1) (0) s
def M_X7_ones_L33 (x1 : Int32) (x5 : Int32) (kk : Int32 → Int32 → Int32 → St → Option (Int32 × St)) : Nat → Int32 → Int32 → Int32 → Int32 → St → Option (Int32 × St)
  | 0, _, _, _, _, _ => none
  | fu + 1, x2, x3, x4, x6, s =>
    if (6) < x6 then (
      kk x2 x3 x4 s) else (
      cl (M_X7_isSo x5 x6 s) fun r3 s4 =>
      jn (κ := Int32 → Int32 → Int32 → St → Option (Int32 × St)) (fun v6 v7 v8 s9 =>
        M_X7_ones_L33 x1 x5 kk fu v6 v7 v8 (x6 + (1)) s9) fun kj5 =>
        if r3 = 0 then (
          kj5 x2 x3 x4 s4) else (
          jn (κ := Int32 → St → Option (Int32 × St)) (fun v11 s12 =>
            kj5 (x2 + (1)) v11 x5 s12) fun kj10 =>
            if x2 = 0 then (
              kj10 x5 s4) else (
              kj10 x3 s4)))
def M_X7_ones_L23 (x1 : Int32) (kk : Int32 → Int32 → Int32 → St → Option (Int32 × St)) : Nat → Int32 → Int32 → Int32 → Int32 → St → Option (Int32 × St)
  | 0, _, _, _, _, _ => none
  | fu + 1, x2, x3, x4, x5, s =>
    if (20) < x5 then (
      kk x2 x3 x4 s) else (
      M_X7_ones_L33 x1 x5 (fun v13 v14 v15 s16 =>
        M_X7_ones_L23 x1 kk fu v13 v14 v15 (x5 + (1)) s16) 400 x2 x3 x4 (0) s)
def M_X7_ones (a1 : Int32) (s : St) : Option (Int32 × St) :=
  cl (M_X7_in a1 (0) (2) s) fun r1 s2 =>
  if r1 = 0 then (
    some ((-1), s2)) else (
    M_X7_ones_L23 a1 (fun v17 v18 v19 s20 =>
      if a1 = 0 then (
        some (v17, s20)) else (
        if a1 = (1) then (
          some (v18, s20)) else (
          some (v19, s20)))) 400 (0) (-9) (-9) (0) s2)
def M_X7_look_L57 (x1 : Int32) (x2 : Int32) (x3 : Int32) (x4 : Int32) (x5 : Int32) (x7 : Int32) (kk : Int32 → St → Option (Int32 × St)) : Nat → Int32 → Int32 → St → Option (Int32 × St)
  | 0, _, _, _ => none
  | fu + 1, x6, x8, s =>
    if (6) < x8 then (
      kk x6 s) else (
      cl (M_X7_isSo x7 x8 s) fun r5 s6 =>
      jn (κ := Int32 → St → Option (Int32 × St)) (fun v8 s9 =>
        M_X7_look_L57 x1 x2 x3 x4 x5 x7 kk fu (x6 + v8) (x8 + (1)) s9) fun kj7 =>
        if r5 = 0 then (
          kj7 (0) s6) else (
          cl (M_X7_hadAsked x7 x8 x1 x5 s6) fun r10 s11 =>
          if r10 = 0 then (
            kj7 (0) s11) else (
            kj7 (1) s11)))
def M_X7_look_L47 (x1 : Int32) (x2 : Int32) (x3 : Int32) (x4 : Int32) (x5 : Int32) (kk : Int32 → St → Option (Int32 × St)) : Nat → Int32 → Int32 → St → Option (Int32 × St)
  | 0, _, _, _ => none
  | fu + 1, x6, x7, s =>
    if (20) < x7 then (
      kk x6 s) else (
      M_X7_look_L57 x1 x2 x3 x4 x5 x7 (fun v12 s13 =>
        M_X7_look_L47 x1 x2 x3 x4 x5 kk fu v12 (x7 + (1)) s13) 400 x6 (0) s)
def M_X7_look_L29 (x1 : Int32) (x2 : Int32) (kk : Int32 → St → Option (Int32 × St)) : Nat → Int32 → Int32 → Int32 → St → Option (Int32 × St)
  | 0, _, _, _, _ => none
  | fu + 1, x3, x4, x5, s =>
    if (6) < x5 then (
      kk x3 s) else (
      if x2 ≤ (1) then (
        kk x3 s) else (
        M_X7_look_L47 x1 x2 x3 x4 x5 (fun v14 s15 =>
          jn (κ := Int32 → St → Option (Int32 × St)) (fun v17 s18 =>
            jn (κ := Int32 → St → Option (Int32 × St)) (fun v20 s21 =>
              jn (κ := Int32 → St → Option (Int32 × St)) (fun v23 s24 =>
                M_X7_look_L29 x1 x2 kk fu v20 v23 (x5 + (1)) s24) fun kj22 =>
                if x4 ≤ v17 then (
                  kj22 x4 s21) else (
                  kj22 v17 s21)) fun kj19 =>
              if x4 ≤ v17 then (
                kj19 x3 s18) else (
                kj19 x5 s18)) fun kj16 =>
            if v14 ≤ (x2 - v14) then (
              kj16 (x2 - v14) s15) else (
              kj16 v14 s15)) 400 (0) (0) s))
def M_X7_look (a1 : Int32) (s : St) : Option (Int32 × St) :=
  cl (M_X7_in a1 (0) (20) s) fun r1 s2 =>
  if r1 = 0 then (
    some ((-1), s2)) else (
    cl (M_X7_ones (0) s2) fun r3 s4 =>
    M_X7_look_L29 a1 r3 (fun v25 s26 =>
      some (v25, s26)) 400 (-9) (r3 + (1)) (0) s4)
def M_X7_rate (a1 : Int32) (a2 : Int32) (s : St) : Option (Int32 × St) :=
  cl (M_X7_in a1 (0) (5) s) fun r1 s2 =>
  if r1 = 0 then (
    some ((-1000000), s2)) else (
    cl (M_X7_isFarmer a2 s2) fun r3 s4 =>
    if r3 = 0 then (
      some ((-1000000), s4)) else (
      rd s4 71 14 ((2) + a2) fun v5 =>
      cl (M_X7_hangWith a2 s4) fun r6 s7 =>
      cl (M_X7_bits r6 s7) fun r8 s9 =>
      rd s9 69 6 a2 fun v10 =>
      if a1 = 1 then (
        puL s9 67 ((s9.2 67) + (11)) fun s11 =>
        some ((v5 + r8), s11)) else if a1 = 2 then (
        puL s9 67 ((s9.2 67) + (101)) fun s13 =>
        some ((v5 - v10), s13)) else if a1 = 3 then (
        puL s9 67 ((s9.2 67) + (1011)) fun s15 =>
        some (((2) * (v5 + r8)), s15)) else if a1 = 4 then (
        puL s9 67 ((s9.2 67) + (10101)) fun s17 =>
        some (((v5 - v10) + a2), s17)) else if a1 = 5 then (
        puL s9 67 ((s9.2 67) + (100001)) fun s19 =>
        rd s19 71 14 (0) fun v20 =>
        some ((v5 + v20), s19)) else (
        puL s9 67 ((s9.2 67) + (1)) fun s22 =>
        some (v5, s22))))
def M_X7_keep (a1 : Int32) (s : St) : Option (Int32 × St) :=
  cl (M_X7_in a1 (0) (1) s) fun r1 s2 =>
  if r1 = 0 then (
    some ((-1), s2)) else (
    cl (M_X7_copy 73 71 ((14) * a1) (0) s2) fun r3 s4 =>
    wr s4 74 2 a1 (vp_nar .boolean (1)) fun s5 =>
    rd s5 71 14 (0) fun v6 =>
    some (v6, s5))
def M_X7_back (a1 : Int32) (s : St) : Option (Int32 × St) :=
  cl (M_X7_in a1 (0) (1) s) fun r1 s2 =>
  if r1 = 0 then (
    some ((-1), s2)) else (
    rd s2 74 2 a1 fun v3 =>
    if v3 = 0 then (
      some ((-2), s2)) else (
      cl (M_X7_copy 71 73 (0) ((14) * a1) s2) fun r4 s5 =>
      pu s5 67 6 (0) fun s6 =>
      rd s6 71 14 (0) fun v7 =>
      some (v7, s6)))
def M_X7_count (a1 : Int32) (s : St) : Option (Int32 × St) :=
  if a1 = 0 then (
    some ((s.1 67 0), s)) else (
    if a1 = (1) then (
      some ((s.1 67 9), s)) else (
      if a1 = (2) then (
        some ((s.1 67 13), s)) else (
        some ((-1), s))))
