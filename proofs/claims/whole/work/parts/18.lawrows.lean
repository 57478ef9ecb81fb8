/-! ===== rows of the law ===== -/
set_option maxRecDepth 100000 in
theorem cukL (F : Nat → List Value → MS → Option MR) (L : Nat) (xs : Nat → Int32) : mcuts (kL F L xs) [(18, [0, 1, 2, 3]), (196, [0, 1, 2, 3]), (229, [0, 1, 2, 3]), (262, [0, 1, 2, 3]), (295, [0, 1, 2, 3]), (328, [0, 1, 2, 3]), (361, [0, 1, 2, 3]), (394, [0, 1, 2, 3]), (437, [0, 1, 2, 3]), (470, [0, 1, 2, 3]), (503, [0, 1, 2, 3]), (526, [0, 1, 2, 3]), (589, [0, 1, 2, 3]), (612, [0, 1, 2, 3]), (635, [0, 1, 2, 3]), (688, [0, 1, 2, 3]), (721, [0, 1, 2, 3]), (774, [0, 1, 2, 3]), (807, [0, 1, 2, 3]), (830, [0, 1, 2, 3]), (853, [0, 1, 2, 3]), (876, [0, 1, 2, 3]), (929, [0, 1, 2, 3]), (992, [0, 1, 2, 3]), (1035, [0, 1, 2, 3]), (1068, [0, 1, 2, 3]), (1111, [0, 1, 2, 3]), (1134, [0, 1, 2, 3]), (1177, [0, 1, 2, 3]), (1220, [0, 1, 2, 3]), (1283, [0, 1, 2, 3]), (1306, [0, 1, 2, 3]), (1329, [0, 1, 2, 3]), (1342, [0, 1, 2, 3]), (1355, [0, 1, 2, 3]), (1378, [0, 1, 2, 3]), (1391, [0, 1, 2, 3]), (1414, [0, 1, 2, 3]), (1437, [0, 1, 2, 3])] := List.forall_mem_cons.mpr ⟨⟨oIload 3 19, rfl⟩, List.forall_mem_cons.mpr ⟨⟨oAload 1 197, rfl⟩, List.forall_mem_cons.mpr ⟨⟨oAload 1 230, rfl⟩, List.forall_mem_cons.mpr ⟨⟨oAload 1 263, rfl⟩, List.forall_mem_cons.mpr ⟨⟨oAload 1 296, rfl⟩, List.forall_mem_cons.mpr ⟨⟨oAload 1 329, rfl⟩, List.forall_mem_cons.mpr ⟨⟨oAload 1 362, rfl⟩, List.forall_mem_cons.mpr ⟨⟨oAload 1 395, rfl⟩, List.forall_mem_cons.mpr ⟨⟨oAload 1 438, rfl⟩, List.forall_mem_cons.mpr ⟨⟨oAload 1 471, rfl⟩, List.forall_mem_cons.mpr ⟨⟨oAload 1 504, rfl⟩, List.forall_mem_cons.mpr ⟨⟨oAload 1 527, rfl⟩, List.forall_mem_cons.mpr ⟨⟨oAload 1 590, rfl⟩, List.forall_mem_cons.mpr ⟨⟨oAload 1 613, rfl⟩, List.forall_mem_cons.mpr ⟨⟨oAload 1 636, rfl⟩, List.forall_mem_cons.mpr ⟨⟨oAload 1 689, rfl⟩, List.forall_mem_cons.mpr ⟨⟨oAload 1 722, rfl⟩, List.forall_mem_cons.mpr ⟨⟨oAload 1 775, rfl⟩, List.forall_mem_cons.mpr ⟨⟨oAload 1 808, rfl⟩, List.forall_mem_cons.mpr ⟨⟨oAload 1 831, rfl⟩, List.forall_mem_cons.mpr ⟨⟨oAload 1 854, rfl⟩, List.forall_mem_cons.mpr ⟨⟨oAload 1 877, rfl⟩, List.forall_mem_cons.mpr ⟨⟨oAload 1 930, rfl⟩, List.forall_mem_cons.mpr ⟨⟨oAload 1 993, rfl⟩, List.forall_mem_cons.mpr ⟨⟨oAload 1 1036, rfl⟩, List.forall_mem_cons.mpr ⟨⟨oAload 1 1069, rfl⟩, List.forall_mem_cons.mpr ⟨⟨oAload 1 1112, rfl⟩, List.forall_mem_cons.mpr ⟨⟨oAload 1 1135, rfl⟩, List.forall_mem_cons.mpr ⟨⟨oAload 1 1178, rfl⟩, List.forall_mem_cons.mpr ⟨⟨oAload 1 1221, rfl⟩, List.forall_mem_cons.mpr ⟨⟨oAload 1 1284, rfl⟩, List.forall_mem_cons.mpr ⟨⟨oAload 1 1307, rfl⟩, List.forall_mem_cons.mpr ⟨⟨oAload 1 1330, rfl⟩, List.forall_mem_cons.mpr ⟨⟨oAload 1 1343, rfl⟩, List.forall_mem_cons.mpr ⟨⟨oAload 1 1356, rfl⟩, List.forall_mem_cons.mpr ⟨⟨oAload 1 1379, rfl⟩, List.forall_mem_cons.mpr ⟨⟨oAload 1 1392, rfl⟩, List.forall_mem_cons.mpr ⟨⟨oAload 1 1415, rfl⟩, List.forall_mem_cons.mpr ⟨⟨oIinc 3 6 1440, rfl⟩, fun _ h => absurd h List.not_mem_nil⟩⟩⟩⟩⟩⟩⟩⟩⟩⟩⟩⟩⟩⟩⟩⟩⟩⟩⟩⟩⟩⟩⟩⟩⟩⟩⟩⟩⟩⟩⟩⟩⟩⟩⟩⟩⟩⟩⟩
set_option maxRecDepth 100000 in
theorem lL_18 (d L : Nat) (xs : Nat → Int32) (x3 : Int32) (S : MS) : mv (kL (mFn d) L xs) 18 [(0, .ref 1002), (1, .ref 0), (2, .ref 54), (3, .int x3)] [] S =
  if (fSub (Int32.ofNat L) 6) < x3 then
    some (some (.int 1), S)
  else
    if x3 < 0 ∨ L ≤ (x3).toNatClampNeg then none else
    if (fAnd (xs (x3).toNatClampNeg) 63) = 0 then
      mv (kL (mFn d) L xs) 196 [(0, .ref 1002), (1, .ref 0), (2, .ref 54), (3, .int x3)] [] S
    else if (fAnd (xs (x3).toNatClampNeg) 63) = 1 then
      mv (kL (mFn d) L xs) 229 [(0, .ref 1002), (1, .ref 0), (2, .ref 54), (3, .int x3)] [] S
    else if (fAnd (xs (x3).toNatClampNeg) 63) = 2 then
      mv (kL (mFn d) L xs) 262 [(0, .ref 1002), (1, .ref 0), (2, .ref 54), (3, .int x3)] [] S
    else if (fAnd (xs (x3).toNatClampNeg) 63) = 3 then
      mv (kL (mFn d) L xs) 295 [(0, .ref 1002), (1, .ref 0), (2, .ref 54), (3, .int x3)] [] S
    else if (fAnd (xs (x3).toNatClampNeg) 63) = 4 then
      mv (kL (mFn d) L xs) 328 [(0, .ref 1002), (1, .ref 0), (2, .ref 54), (3, .int x3)] [] S
    else if (fAnd (xs (x3).toNatClampNeg) 63) = 5 then
      mv (kL (mFn d) L xs) 361 [(0, .ref 1002), (1, .ref 0), (2, .ref 54), (3, .int x3)] [] S
    else if (fAnd (xs (x3).toNatClampNeg) 63) = 6 then
      mv (kL (mFn d) L xs) 394 [(0, .ref 1002), (1, .ref 0), (2, .ref 54), (3, .int x3)] [] S
    else if (fAnd (xs (x3).toNatClampNeg) 63) = 7 then
      mv (kL (mFn d) L xs) 437 [(0, .ref 1002), (1, .ref 0), (2, .ref 54), (3, .int x3)] [] S
    else if (fAnd (xs (x3).toNatClampNeg) 63) = 8 then
      mv (kL (mFn d) L xs) 470 [(0, .ref 1002), (1, .ref 0), (2, .ref 54), (3, .int x3)] [] S
    else if (fAnd (xs (x3).toNatClampNeg) 63) = 9 then
      mv (kL (mFn d) L xs) 503 [(0, .ref 1002), (1, .ref 0), (2, .ref 54), (3, .int x3)] [] S
    else if (fAnd (xs (x3).toNatClampNeg) 63) = 10 then
      mv (kL (mFn d) L xs) 526 [(0, .ref 1002), (1, .ref 0), (2, .ref 54), (3, .int x3)] [] S
    else if (fAnd (xs (x3).toNatClampNeg) 63) = 11 then
      mv (kL (mFn d) L xs) 589 [(0, .ref 1002), (1, .ref 0), (2, .ref 54), (3, .int x3)] [] S
    else if (fAnd (xs (x3).toNatClampNeg) 63) = 12 then
      mv (kL (mFn d) L xs) 612 [(0, .ref 1002), (1, .ref 0), (2, .ref 54), (3, .int x3)] [] S
    else if (fAnd (xs (x3).toNatClampNeg) 63) = 13 then
      mv (kL (mFn d) L xs) 635 [(0, .ref 1002), (1, .ref 0), (2, .ref 54), (3, .int x3)] [] S
    else if (fAnd (xs (x3).toNatClampNeg) 63) = 14 then
      mv (kL (mFn d) L xs) 688 [(0, .ref 1002), (1, .ref 0), (2, .ref 54), (3, .int x3)] [] S
    else if (fAnd (xs (x3).toNatClampNeg) 63) = 15 then
      mv (kL (mFn d) L xs) 721 [(0, .ref 1002), (1, .ref 0), (2, .ref 54), (3, .int x3)] [] S
    else if (fAnd (xs (x3).toNatClampNeg) 63) = 16 then
      mv (kL (mFn d) L xs) 774 [(0, .ref 1002), (1, .ref 0), (2, .ref 54), (3, .int x3)] [] S
    else if (fAnd (xs (x3).toNatClampNeg) 63) = 17 then
      mv (kL (mFn d) L xs) 807 [(0, .ref 1002), (1, .ref 0), (2, .ref 54), (3, .int x3)] [] S
    else if (fAnd (xs (x3).toNatClampNeg) 63) = 18 then
      mv (kL (mFn d) L xs) 830 [(0, .ref 1002), (1, .ref 0), (2, .ref 54), (3, .int x3)] [] S
    else if (fAnd (xs (x3).toNatClampNeg) 63) = 19 then
      mv (kL (mFn d) L xs) 853 [(0, .ref 1002), (1, .ref 0), (2, .ref 54), (3, .int x3)] [] S
    else if (fAnd (xs (x3).toNatClampNeg) 63) = 20 then
      mv (kL (mFn d) L xs) 876 [(0, .ref 1002), (1, .ref 0), (2, .ref 54), (3, .int x3)] [] S
    else if (fAnd (xs (x3).toNatClampNeg) 63) = 21 then
      mv (kL (mFn d) L xs) 929 [(0, .ref 1002), (1, .ref 0), (2, .ref 54), (3, .int x3)] [] S
    else if (fAnd (xs (x3).toNatClampNeg) 63) = 22 then
      mv (kL (mFn d) L xs) 992 [(0, .ref 1002), (1, .ref 0), (2, .ref 54), (3, .int x3)] [] S
    else if (fAnd (xs (x3).toNatClampNeg) 63) = 23 then
      mv (kL (mFn d) L xs) 1035 [(0, .ref 1002), (1, .ref 0), (2, .ref 54), (3, .int x3)] [] S
    else if (fAnd (xs (x3).toNatClampNeg) 63) = 24 then
      mv (kL (mFn d) L xs) 1068 [(0, .ref 1002), (1, .ref 0), (2, .ref 54), (3, .int x3)] [] S
    else if (fAnd (xs (x3).toNatClampNeg) 63) = 25 then
      mv (kL (mFn d) L xs) 1111 [(0, .ref 1002), (1, .ref 0), (2, .ref 54), (3, .int x3)] [] S
    else if (fAnd (xs (x3).toNatClampNeg) 63) = 26 then
      mv (kL (mFn d) L xs) 1134 [(0, .ref 1002), (1, .ref 0), (2, .ref 54), (3, .int x3)] [] S
    else if (fAnd (xs (x3).toNatClampNeg) 63) = 27 then
      mv (kL (mFn d) L xs) 1177 [(0, .ref 1002), (1, .ref 0), (2, .ref 54), (3, .int x3)] [] S
    else if (fAnd (xs (x3).toNatClampNeg) 63) = 28 then
      mv (kL (mFn d) L xs) 1220 [(0, .ref 1002), (1, .ref 0), (2, .ref 54), (3, .int x3)] [] S
    else if (fAnd (xs (x3).toNatClampNeg) 63) = 29 then
      mv (kL (mFn d) L xs) 1283 [(0, .ref 1002), (1, .ref 0), (2, .ref 54), (3, .int x3)] [] S
    else if (fAnd (xs (x3).toNatClampNeg) 63) = 30 then
      mv (kL (mFn d) L xs) 1306 [(0, .ref 1002), (1, .ref 0), (2, .ref 54), (3, .int x3)] [] S
    else if (fAnd (xs (x3).toNatClampNeg) 63) = 31 then
      mv (kL (mFn d) L xs) 1329 [(0, .ref 1002), (1, .ref 0), (2, .ref 54), (3, .int x3)] [] S
    else if (fAnd (xs (x3).toNatClampNeg) 63) = 32 then
      mv (kL (mFn d) L xs) 1342 [(0, .ref 1002), (1, .ref 0), (2, .ref 54), (3, .int x3)] [] S
    else if (fAnd (xs (x3).toNatClampNeg) 63) = 33 then
      mv (kL (mFn d) L xs) 1355 [(0, .ref 1002), (1, .ref 0), (2, .ref 54), (3, .int x3)] [] S
    else if (fAnd (xs (x3).toNatClampNeg) 63) = 34 then
      mv (kL (mFn d) L xs) 1378 [(0, .ref 1002), (1, .ref 0), (2, .ref 54), (3, .int x3)] [] S
    else if (fAnd (xs (x3).toNatClampNeg) 63) = 35 then
      mv (kL (mFn d) L xs) 1391 [(0, .ref 1002), (1, .ref 0), (2, .ref 54), (3, .int x3)] [] S
    else if (fAnd (xs (x3).toNatClampNeg) 63) = 36 then
      mv (kL (mFn d) L xs) 1414 [(0, .ref 1002), (1, .ref 0), (2, .ref 54), (3, .int x3)] [] S
    else 
      mv (kL (mFn d) L xs) 1437 [(0, .ref 1002), (1, .ref 0), (2, .ref 54), (3, .int x3)] [] S := mv_row (mmkL (mFn d) L xs) (cukL (mFn d) L xs) 13 rfl
set_option maxRecDepth 100000 in
theorem lL_196 (d L : Nat) (xs : Nat → Int32) (x3 : Int32) (S : MS) : mv (kL (mFn d) L xs) 196 [(0, .ref 1002), (1, .ref 0), (2, .ref 54), (3, .int x3)] [] S =
  if (fAdd x3 1) < 0 ∨ L ≤ ((fAdd x3 1)).toNatClampNeg then none else
  if (fAdd x3 2) < 0 ∨ L ≤ ((fAdd x3 2)).toNatClampNeg then none else
  bI ((mFn d) 35 [.ref 0, .int (xs ((fAdd x3 1)).toNatClampNeg), .int (xs ((fAdd x3 2)).toNatClampNeg)] S) (fun y1 S1 =>
    if (fAdd x3 1) < 0 ∨ L ≤ ((fAdd x3 1)).toNatClampNeg then none else
    if (fAdd x3 2) < 0 ∨ L ≤ ((fAdd x3 2)).toNatClampNeg then none else
    bI ((mFn d) 102 [.ref 54, .int (xs ((fAdd x3 1)).toNatClampNeg), .int (xs ((fAdd x3 2)).toNatClampNeg)] S1) (fun y2 S2 =>
      if y1 = y2 then
        mv (kL (mFn d) L xs) 1437 [(0, .ref 1002), (1, .ref 0), (2, .ref 54), (3, .int x3)] [] S2
      else
        some (some (.int 0), S2))) := mv_row (mmkL (mFn d) L xs) (cukL (mFn d) L xs) 28 rfl
set_option maxRecDepth 100000 in
theorem lL_229 (d L : Nat) (xs : Nat → Int32) (x3 : Int32) (S : MS) : mv (kL (mFn d) L xs) 229 [(0, .ref 1002), (1, .ref 0), (2, .ref 54), (3, .int x3)] [] S =
  if (fAdd x3 1) < 0 ∨ L ≤ ((fAdd x3 1)).toNatClampNeg then none else
  if (fAdd x3 2) < 0 ∨ L ≤ ((fAdd x3 2)).toNatClampNeg then none else
  bI ((mFn d) 36 [.ref 0, .int (xs ((fAdd x3 1)).toNatClampNeg), .int (xs ((fAdd x3 2)).toNatClampNeg)] S) (fun y1 S1 =>
    if (fAdd x3 1) < 0 ∨ L ≤ ((fAdd x3 1)).toNatClampNeg then none else
    if (fAdd x3 2) < 0 ∨ L ≤ ((fAdd x3 2)).toNatClampNeg then none else
    bI ((mFn d) 103 [.ref 54, .int (xs ((fAdd x3 1)).toNatClampNeg), .int (xs ((fAdd x3 2)).toNatClampNeg)] S1) (fun y2 S2 =>
      if y1 = y2 then
        mv (kL (mFn d) L xs) 1437 [(0, .ref 1002), (1, .ref 0), (2, .ref 54), (3, .int x3)] [] S2
      else
        some (some (.int 0), S2))) := mv_row (mmkL (mFn d) L xs) (cukL (mFn d) L xs) 28 rfl
set_option maxRecDepth 100000 in
theorem lL_262 (d L : Nat) (xs : Nat → Int32) (x3 : Int32) (S : MS) : mv (kL (mFn d) L xs) 262 [(0, .ref 1002), (1, .ref 0), (2, .ref 54), (3, .int x3)] [] S =
  if (fAdd x3 1) < 0 ∨ L ≤ ((fAdd x3 1)).toNatClampNeg then none else
  if (fAdd x3 2) < 0 ∨ L ≤ ((fAdd x3 2)).toNatClampNeg then none else
  bI ((mFn d) 37 [.ref 0, .int (xs ((fAdd x3 1)).toNatClampNeg), .int (xs ((fAdd x3 2)).toNatClampNeg)] S) (fun y1 S1 =>
    if (fAdd x3 1) < 0 ∨ L ≤ ((fAdd x3 1)).toNatClampNeg then none else
    if (fAdd x3 2) < 0 ∨ L ≤ ((fAdd x3 2)).toNatClampNeg then none else
    bI ((mFn d) 104 [.ref 54, .int (xs ((fAdd x3 1)).toNatClampNeg), .int (xs ((fAdd x3 2)).toNatClampNeg)] S1) (fun y2 S2 =>
      if y1 = y2 then
        mv (kL (mFn d) L xs) 1437 [(0, .ref 1002), (1, .ref 0), (2, .ref 54), (3, .int x3)] [] S2
      else
        some (some (.int 0), S2))) := mv_row (mmkL (mFn d) L xs) (cukL (mFn d) L xs) 28 rfl
set_option maxRecDepth 100000 in
theorem lL_295 (d L : Nat) (xs : Nat → Int32) (x3 : Int32) (S : MS) : mv (kL (mFn d) L xs) 295 [(0, .ref 1002), (1, .ref 0), (2, .ref 54), (3, .int x3)] [] S =
  if (fAdd x3 1) < 0 ∨ L ≤ ((fAdd x3 1)).toNatClampNeg then none else
  if (fAdd x3 2) < 0 ∨ L ≤ ((fAdd x3 2)).toNatClampNeg then none else
  bI ((mFn d) 38 [.ref 0, .int (xs ((fAdd x3 1)).toNatClampNeg), .int (xs ((fAdd x3 2)).toNatClampNeg)] S) (fun y1 S1 =>
    if (fAdd x3 1) < 0 ∨ L ≤ ((fAdd x3 1)).toNatClampNeg then none else
    if (fAdd x3 2) < 0 ∨ L ≤ ((fAdd x3 2)).toNatClampNeg then none else
    bI ((mFn d) 105 [.ref 54, .int (xs ((fAdd x3 1)).toNatClampNeg), .int (xs ((fAdd x3 2)).toNatClampNeg)] S1) (fun y2 S2 =>
      if y1 = y2 then
        mv (kL (mFn d) L xs) 1437 [(0, .ref 1002), (1, .ref 0), (2, .ref 54), (3, .int x3)] [] S2
      else
        some (some (.int 0), S2))) := mv_row (mmkL (mFn d) L xs) (cukL (mFn d) L xs) 28 rfl
set_option maxRecDepth 100000 in
theorem lL_328 (d L : Nat) (xs : Nat → Int32) (x3 : Int32) (S : MS) : mv (kL (mFn d) L xs) 328 [(0, .ref 1002), (1, .ref 0), (2, .ref 54), (3, .int x3)] [] S =
  if (fAdd x3 1) < 0 ∨ L ≤ ((fAdd x3 1)).toNatClampNeg then none else
  if (fAdd x3 2) < 0 ∨ L ≤ ((fAdd x3 2)).toNatClampNeg then none else
  bI ((mFn d) 39 [.ref 0, .int (xs ((fAdd x3 1)).toNatClampNeg), .int (xs ((fAdd x3 2)).toNatClampNeg)] S) (fun y1 S1 =>
    if (fAdd x3 1) < 0 ∨ L ≤ ((fAdd x3 1)).toNatClampNeg then none else
    if (fAdd x3 2) < 0 ∨ L ≤ ((fAdd x3 2)).toNatClampNeg then none else
    bI ((mFn d) 106 [.ref 54, .int (xs ((fAdd x3 1)).toNatClampNeg), .int (xs ((fAdd x3 2)).toNatClampNeg)] S1) (fun y2 S2 =>
      if y1 = y2 then
        mv (kL (mFn d) L xs) 1437 [(0, .ref 1002), (1, .ref 0), (2, .ref 54), (3, .int x3)] [] S2
      else
        some (some (.int 0), S2))) := mv_row (mmkL (mFn d) L xs) (cukL (mFn d) L xs) 28 rfl
set_option maxRecDepth 100000 in
theorem lL_361 (d L : Nat) (xs : Nat → Int32) (x3 : Int32) (S : MS) : mv (kL (mFn d) L xs) 361 [(0, .ref 1002), (1, .ref 0), (2, .ref 54), (3, .int x3)] [] S =
  if (fAdd x3 1) < 0 ∨ L ≤ ((fAdd x3 1)).toNatClampNeg then none else
  if (fAdd x3 2) < 0 ∨ L ≤ ((fAdd x3 2)).toNatClampNeg then none else
  bI ((mFn d) 40 [.ref 0, .int (xs ((fAdd x3 1)).toNatClampNeg), .int (xs ((fAdd x3 2)).toNatClampNeg)] S) (fun y1 S1 =>
    if (fAdd x3 1) < 0 ∨ L ≤ ((fAdd x3 1)).toNatClampNeg then none else
    if (fAdd x3 2) < 0 ∨ L ≤ ((fAdd x3 2)).toNatClampNeg then none else
    bI ((mFn d) 107 [.ref 54, .int (xs ((fAdd x3 1)).toNatClampNeg), .int (xs ((fAdd x3 2)).toNatClampNeg)] S1) (fun y2 S2 =>
      if y1 = y2 then
        mv (kL (mFn d) L xs) 1437 [(0, .ref 1002), (1, .ref 0), (2, .ref 54), (3, .int x3)] [] S2
      else
        some (some (.int 0), S2))) := mv_row (mmkL (mFn d) L xs) (cukL (mFn d) L xs) 28 rfl
set_option maxRecDepth 100000 in
theorem lL_394 (d L : Nat) (xs : Nat → Int32) (x3 : Int32) (S : MS) : mv (kL (mFn d) L xs) 394 [(0, .ref 1002), (1, .ref 0), (2, .ref 54), (3, .int x3)] [] S =
  if (fAdd x3 1) < 0 ∨ L ≤ ((fAdd x3 1)).toNatClampNeg then none else
  if (fAdd x3 2) < 0 ∨ L ≤ ((fAdd x3 2)).toNatClampNeg then none else
  if (fAdd x3 3) < 0 ∨ L ≤ ((fAdd x3 3)).toNatClampNeg then none else
  bI ((mFn d) 41 [.ref 0, .int (xs ((fAdd x3 1)).toNatClampNeg), .int (xs ((fAdd x3 2)).toNatClampNeg), .int (xs ((fAdd x3 3)).toNatClampNeg)] S) (fun y1 S1 =>
    if (fAdd x3 1) < 0 ∨ L ≤ ((fAdd x3 1)).toNatClampNeg then none else
    if (fAdd x3 2) < 0 ∨ L ≤ ((fAdd x3 2)).toNatClampNeg then none else
    if (fAdd x3 3) < 0 ∨ L ≤ ((fAdd x3 3)).toNatClampNeg then none else
    bI ((mFn d) 108 [.ref 54, .int (xs ((fAdd x3 1)).toNatClampNeg), .int (xs ((fAdd x3 2)).toNatClampNeg), .int (xs ((fAdd x3 3)).toNatClampNeg)] S1) (fun y2 S2 =>
      if y1 = y2 then
        mv (kL (mFn d) L xs) 1437 [(0, .ref 1002), (1, .ref 0), (2, .ref 54), (3, .int x3)] [] S2
      else
        some (some (.int 0), S2))) := mv_row (mmkL (mFn d) L xs) (cukL (mFn d) L xs) 38 rfl
set_option maxRecDepth 100000 in
theorem lL_437 (d L : Nat) (xs : Nat → Int32) (x3 : Int32) (S : MS) : mv (kL (mFn d) L xs) 437 [(0, .ref 1002), (1, .ref 0), (2, .ref 54), (3, .int x3)] [] S =
  if (fAdd x3 1) < 0 ∨ L ≤ ((fAdd x3 1)).toNatClampNeg then none else
  if (fAdd x3 2) < 0 ∨ L ≤ ((fAdd x3 2)).toNatClampNeg then none else
  bI ((mFn d) 42 [.ref 0, .int (xs ((fAdd x3 1)).toNatClampNeg), .int (xs ((fAdd x3 2)).toNatClampNeg)] S) (fun y1 S1 =>
    if (fAdd x3 1) < 0 ∨ L ≤ ((fAdd x3 1)).toNatClampNeg then none else
    if (fAdd x3 2) < 0 ∨ L ≤ ((fAdd x3 2)).toNatClampNeg then none else
    bI ((mFn d) 109 [.ref 54, .int (xs ((fAdd x3 1)).toNatClampNeg), .int (xs ((fAdd x3 2)).toNatClampNeg)] S1) (fun y2 S2 =>
      if y1 = y2 then
        mv (kL (mFn d) L xs) 1437 [(0, .ref 1002), (1, .ref 0), (2, .ref 54), (3, .int x3)] [] S2
      else
        some (some (.int 0), S2))) := mv_row (mmkL (mFn d) L xs) (cukL (mFn d) L xs) 28 rfl
set_option maxRecDepth 100000 in
theorem lL_470 (d L : Nat) (xs : Nat → Int32) (x3 : Int32) (S : MS) : mv (kL (mFn d) L xs) 470 [(0, .ref 1002), (1, .ref 0), (2, .ref 54), (3, .int x3)] [] S =
  if (fAdd x3 1) < 0 ∨ L ≤ ((fAdd x3 1)).toNatClampNeg then none else
  if (fAdd x3 2) < 0 ∨ L ≤ ((fAdd x3 2)).toNatClampNeg then none else
  bI ((mFn d) 43 [.ref 0, .int (xs ((fAdd x3 1)).toNatClampNeg), .int (xs ((fAdd x3 2)).toNatClampNeg)] S) (fun y1 S1 =>
    if (fAdd x3 1) < 0 ∨ L ≤ ((fAdd x3 1)).toNatClampNeg then none else
    if (fAdd x3 2) < 0 ∨ L ≤ ((fAdd x3 2)).toNatClampNeg then none else
    bI ((mFn d) 110 [.ref 54, .int (xs ((fAdd x3 1)).toNatClampNeg), .int (xs ((fAdd x3 2)).toNatClampNeg)] S1) (fun y2 S2 =>
      if y1 = y2 then
        mv (kL (mFn d) L xs) 1437 [(0, .ref 1002), (1, .ref 0), (2, .ref 54), (3, .int x3)] [] S2
      else
        some (some (.int 0), S2))) := mv_row (mmkL (mFn d) L xs) (cukL (mFn d) L xs) 28 rfl
set_option maxRecDepth 100000 in
theorem lL_503 (d L : Nat) (xs : Nat → Int32) (x3 : Int32) (S : MS) : mv (kL (mFn d) L xs) 503 [(0, .ref 1002), (1, .ref 0), (2, .ref 54), (3, .int x3)] [] S =
  if (fAdd x3 1) < 0 ∨ L ≤ ((fAdd x3 1)).toNatClampNeg then none else
  bI ((mFn d) 44 [.ref 0, .int (xs ((fAdd x3 1)).toNatClampNeg)] S) (fun y1 S1 =>
    if (fAdd x3 1) < 0 ∨ L ≤ ((fAdd x3 1)).toNatClampNeg then none else
    bI ((mFn d) 111 [.ref 54, .int (xs ((fAdd x3 1)).toNatClampNeg)] S1) (fun y2 S2 =>
      if y1 = y2 then
        mv (kL (mFn d) L xs) 1437 [(0, .ref 1002), (1, .ref 0), (2, .ref 54), (3, .int x3)] [] S2
      else
        some (some (.int 0), S2))) := mv_row (mmkL (mFn d) L xs) (cukL (mFn d) L xs) 18 rfl
set_option maxRecDepth 100000 in
theorem lL_526 (d L : Nat) (xs : Nat → Int32) (x3 : Int32) (S : MS) : mv (kL (mFn d) L xs) 526 [(0, .ref 1002), (1, .ref 0), (2, .ref 54), (3, .int x3)] [] S =
  if (fAdd x3 1) < 0 ∨ L ≤ ((fAdd x3 1)).toNatClampNeg then none else
  if (fAdd x3 2) < 0 ∨ L ≤ ((fAdd x3 2)).toNatClampNeg then none else
  if (fAdd x3 3) < 0 ∨ L ≤ ((fAdd x3 3)).toNatClampNeg then none else
  bI ((mFn d) 45 [.ref 0, .long (lOr (lShl ((xs ((fAdd x3 1)).toNatClampNeg)).toInt64 32) (lAnd ((xs ((fAdd x3 2)).toNatClampNeg)).toInt64 4294967295)), .int (xs ((fAdd x3 3)).toNatClampNeg)] S) (fun y1 S1 =>
    if (fAdd x3 1) < 0 ∨ L ≤ ((fAdd x3 1)).toNatClampNeg then none else
    if (fAdd x3 2) < 0 ∨ L ≤ ((fAdd x3 2)).toNatClampNeg then none else
    if (fAdd x3 3) < 0 ∨ L ≤ ((fAdd x3 3)).toNatClampNeg then none else
    bI ((mFn d) 112 [.ref 54, .long (lOr (lShl ((xs ((fAdd x3 1)).toNatClampNeg)).toInt64 32) (lAnd ((xs ((fAdd x3 2)).toNatClampNeg)).toInt64 4294967295)), .int (xs ((fAdd x3 3)).toNatClampNeg)] S1) (fun y2 S2 =>
      if y1 = y2 then
        mv (kL (mFn d) L xs) 1437 [(0, .ref 1002), (1, .ref 0), (2, .ref 54), (3, .int x3)] [] S2
      else
        some (some (.int 0), S2))) := mv_row (mmkL (mFn d) L xs) (cukL (mFn d) L xs) 52 rfl
set_option maxRecDepth 100000 in
theorem lL_589 (d L : Nat) (xs : Nat → Int32) (x3 : Int32) (S : MS) : mv (kL (mFn d) L xs) 589 [(0, .ref 1002), (1, .ref 0), (2, .ref 54), (3, .int x3)] [] S =
  if (fAdd x3 1) < 0 ∨ L ≤ ((fAdd x3 1)).toNatClampNeg then none else
  bI ((mFn d) 46 [.ref 0, .int (xs ((fAdd x3 1)).toNatClampNeg)] S) (fun y1 S1 =>
    if (fAdd x3 1) < 0 ∨ L ≤ ((fAdd x3 1)).toNatClampNeg then none else
    bI ((mFn d) 124 [.ref 54, .int (xs ((fAdd x3 1)).toNatClampNeg)] S1) (fun y2 S2 =>
      if y1 = y2 then
        mv (kL (mFn d) L xs) 1437 [(0, .ref 1002), (1, .ref 0), (2, .ref 54), (3, .int x3)] [] S2
      else
        some (some (.int 0), S2))) := mv_row (mmkL (mFn d) L xs) (cukL (mFn d) L xs) 18 rfl
set_option maxRecDepth 100000 in
theorem lL_612 (d L : Nat) (xs : Nat → Int32) (x3 : Int32) (S : MS) : mv (kL (mFn d) L xs) 612 [(0, .ref 1002), (1, .ref 0), (2, .ref 54), (3, .int x3)] [] S =
  if (fAdd x3 1) < 0 ∨ L ≤ ((fAdd x3 1)).toNatClampNeg then none else
  bI ((mFn d) 47 [.ref 0, .int (xs ((fAdd x3 1)).toNatClampNeg)] S) (fun y1 S1 =>
    if (fAdd x3 1) < 0 ∨ L ≤ ((fAdd x3 1)).toNatClampNeg then none else
    bI ((mFn d) 125 [.ref 54, .int (xs ((fAdd x3 1)).toNatClampNeg)] S1) (fun y2 S2 =>
      if y1 = y2 then
        mv (kL (mFn d) L xs) 1437 [(0, .ref 1002), (1, .ref 0), (2, .ref 54), (3, .int x3)] [] S2
      else
        some (some (.int 0), S2))) := mv_row (mmkL (mFn d) L xs) (cukL (mFn d) L xs) 18 rfl
set_option maxRecDepth 100000 in
theorem lL_635 (d L : Nat) (xs : Nat → Int32) (x3 : Int32) (S : MS) : mv (kL (mFn d) L xs) 635 [(0, .ref 1002), (1, .ref 0), (2, .ref 54), (3, .int x3)] [] S =
  if (fAdd x3 1) < 0 ∨ L ≤ ((fAdd x3 1)).toNatClampNeg then none else
  if (fAdd x3 2) < 0 ∨ L ≤ ((fAdd x3 2)).toNatClampNeg then none else
  if (fAdd x3 3) < 0 ∨ L ≤ ((fAdd x3 3)).toNatClampNeg then none else
  if (fAdd x3 4) < 0 ∨ L ≤ ((fAdd x3 4)).toNatClampNeg then none else
  bI ((mFn d) 48 [.ref 0, .int (xs ((fAdd x3 1)).toNatClampNeg), .int (xs ((fAdd x3 2)).toNatClampNeg), .int (xs ((fAdd x3 3)).toNatClampNeg), .int (xs ((fAdd x3 4)).toNatClampNeg)] S) (fun y1 S1 =>
    if (fAdd x3 1) < 0 ∨ L ≤ ((fAdd x3 1)).toNatClampNeg then none else
    if (fAdd x3 2) < 0 ∨ L ≤ ((fAdd x3 2)).toNatClampNeg then none else
    if (fAdd x3 3) < 0 ∨ L ≤ ((fAdd x3 3)).toNatClampNeg then none else
    if (fAdd x3 4) < 0 ∨ L ≤ ((fAdd x3 4)).toNatClampNeg then none else
    bI ((mFn d) 129 [.ref 54, .int (xs ((fAdd x3 1)).toNatClampNeg), .int (xs ((fAdd x3 2)).toNatClampNeg), .int (xs ((fAdd x3 3)).toNatClampNeg), .int (xs ((fAdd x3 4)).toNatClampNeg)] S1) (fun y2 S2 =>
      if y1 = y2 then
        mv (kL (mFn d) L xs) 1437 [(0, .ref 1002), (1, .ref 0), (2, .ref 54), (3, .int x3)] [] S2
      else
        some (some (.int 0), S2))) := mv_row (mmkL (mFn d) L xs) (cukL (mFn d) L xs) 48 rfl
set_option maxRecDepth 100000 in
theorem lL_688 (d L : Nat) (xs : Nat → Int32) (x3 : Int32) (S : MS) : mv (kL (mFn d) L xs) 688 [(0, .ref 1002), (1, .ref 0), (2, .ref 54), (3, .int x3)] [] S =
  if (fAdd x3 1) < 0 ∨ L ≤ ((fAdd x3 1)).toNatClampNeg then none else
  if (fAdd x3 2) < 0 ∨ L ≤ ((fAdd x3 2)).toNatClampNeg then none else
  bI ((mFn d) 49 [.ref 0, .int (xs ((fAdd x3 1)).toNatClampNeg), .int (xs ((fAdd x3 2)).toNatClampNeg)] S) (fun y1 S1 =>
    if (fAdd x3 1) < 0 ∨ L ≤ ((fAdd x3 1)).toNatClampNeg then none else
    if (fAdd x3 2) < 0 ∨ L ≤ ((fAdd x3 2)).toNatClampNeg then none else
    bI ((mFn d) 136 [.ref 54, .int (xs ((fAdd x3 1)).toNatClampNeg), .int (xs ((fAdd x3 2)).toNatClampNeg)] S1) (fun y2 S2 =>
      if y1 = y2 then
        mv (kL (mFn d) L xs) 1437 [(0, .ref 1002), (1, .ref 0), (2, .ref 54), (3, .int x3)] [] S2
      else
        some (some (.int 0), S2))) := mv_row (mmkL (mFn d) L xs) (cukL (mFn d) L xs) 28 rfl
set_option maxRecDepth 100000 in
theorem lL_721 (d L : Nat) (xs : Nat → Int32) (x3 : Int32) (S : MS) : mv (kL (mFn d) L xs) 721 [(0, .ref 1002), (1, .ref 0), (2, .ref 54), (3, .int x3)] [] S =
  if (fAdd x3 1) < 0 ∨ L ≤ ((fAdd x3 1)).toNatClampNeg then none else
  if (fAdd x3 2) < 0 ∨ L ≤ ((fAdd x3 2)).toNatClampNeg then none else
  if (fAdd x3 3) < 0 ∨ L ≤ ((fAdd x3 3)).toNatClampNeg then none else
  if (fAdd x3 4) < 0 ∨ L ≤ ((fAdd x3 4)).toNatClampNeg then none else
  bI ((mFn d) 50 [.ref 0, .int (xs ((fAdd x3 1)).toNatClampNeg), .int (xs ((fAdd x3 2)).toNatClampNeg), .int (xs ((fAdd x3 3)).toNatClampNeg), .int (xs ((fAdd x3 4)).toNatClampNeg)] S) (fun y1 S1 =>
    if (fAdd x3 1) < 0 ∨ L ≤ ((fAdd x3 1)).toNatClampNeg then none else
    if (fAdd x3 2) < 0 ∨ L ≤ ((fAdd x3 2)).toNatClampNeg then none else
    if (fAdd x3 3) < 0 ∨ L ≤ ((fAdd x3 3)).toNatClampNeg then none else
    if (fAdd x3 4) < 0 ∨ L ≤ ((fAdd x3 4)).toNatClampNeg then none else
    bI ((mFn d) 137 [.ref 54, .int (xs ((fAdd x3 1)).toNatClampNeg), .int (xs ((fAdd x3 2)).toNatClampNeg), .int (xs ((fAdd x3 3)).toNatClampNeg), .int (xs ((fAdd x3 4)).toNatClampNeg)] S1) (fun y2 S2 =>
      if y1 = y2 then
        mv (kL (mFn d) L xs) 1437 [(0, .ref 1002), (1, .ref 0), (2, .ref 54), (3, .int x3)] [] S2
      else
        some (some (.int 0), S2))) := mv_row (mmkL (mFn d) L xs) (cukL (mFn d) L xs) 48 rfl
set_option maxRecDepth 100000 in
theorem lL_774 (d L : Nat) (xs : Nat → Int32) (x3 : Int32) (S : MS) : mv (kL (mFn d) L xs) 774 [(0, .ref 1002), (1, .ref 0), (2, .ref 54), (3, .int x3)] [] S =
  if (fAdd x3 1) < 0 ∨ L ≤ ((fAdd x3 1)).toNatClampNeg then none else
  if (fAdd x3 2) < 0 ∨ L ≤ ((fAdd x3 2)).toNatClampNeg then none else
  bI ((mFn d) 51 [.ref 0, .int (xs ((fAdd x3 1)).toNatClampNeg), .int (xs ((fAdd x3 2)).toNatClampNeg)] S) (fun y1 S1 =>
    if (fAdd x3 1) < 0 ∨ L ≤ ((fAdd x3 1)).toNatClampNeg then none else
    if (fAdd x3 2) < 0 ∨ L ≤ ((fAdd x3 2)).toNatClampNeg then none else
    bI ((mFn d) 139 [.ref 54, .int (xs ((fAdd x3 1)).toNatClampNeg), .int (xs ((fAdd x3 2)).toNatClampNeg)] S1) (fun y2 S2 =>
      if y1 = y2 then
        mv (kL (mFn d) L xs) 1437 [(0, .ref 1002), (1, .ref 0), (2, .ref 54), (3, .int x3)] [] S2
      else
        some (some (.int 0), S2))) := mv_row (mmkL (mFn d) L xs) (cukL (mFn d) L xs) 28 rfl
set_option maxRecDepth 100000 in
theorem lL_807 (d L : Nat) (xs : Nat → Int32) (x3 : Int32) (S : MS) : mv (kL (mFn d) L xs) 807 [(0, .ref 1002), (1, .ref 0), (2, .ref 54), (3, .int x3)] [] S =
  if (fAdd x3 1) < 0 ∨ L ≤ ((fAdd x3 1)).toNatClampNeg then none else
  bI ((mFn d) 52 [.ref 0, .int (xs ((fAdd x3 1)).toNatClampNeg)] S) (fun y1 S1 =>
    if (fAdd x3 1) < 0 ∨ L ≤ ((fAdd x3 1)).toNatClampNeg then none else
    bI ((mFn d) 140 [.ref 54, .int (xs ((fAdd x3 1)).toNatClampNeg)] S1) (fun y2 S2 =>
      if y1 = y2 then
        mv (kL (mFn d) L xs) 1437 [(0, .ref 1002), (1, .ref 0), (2, .ref 54), (3, .int x3)] [] S2
      else
        some (some (.int 0), S2))) := mv_row (mmkL (mFn d) L xs) (cukL (mFn d) L xs) 18 rfl
set_option maxRecDepth 100000 in
theorem lL_830 (d L : Nat) (xs : Nat → Int32) (x3 : Int32) (S : MS) : mv (kL (mFn d) L xs) 830 [(0, .ref 1002), (1, .ref 0), (2, .ref 54), (3, .int x3)] [] S =
  if (fAdd x3 1) < 0 ∨ L ≤ ((fAdd x3 1)).toNatClampNeg then none else
  bI ((mFn d) 53 [.ref 0, .int (xs ((fAdd x3 1)).toNatClampNeg)] S) (fun y1 S1 =>
    if (fAdd x3 1) < 0 ∨ L ≤ ((fAdd x3 1)).toNatClampNeg then none else
    bI ((mFn d) 142 [.ref 54, .int (xs ((fAdd x3 1)).toNatClampNeg)] S1) (fun y2 S2 =>
      if y1 = y2 then
        mv (kL (mFn d) L xs) 1437 [(0, .ref 1002), (1, .ref 0), (2, .ref 54), (3, .int x3)] [] S2
      else
        some (some (.int 0), S2))) := mv_row (mmkL (mFn d) L xs) (cukL (mFn d) L xs) 18 rfl
set_option maxRecDepth 100000 in
theorem lL_853 (d L : Nat) (xs : Nat → Int32) (x3 : Int32) (S : MS) : mv (kL (mFn d) L xs) 853 [(0, .ref 1002), (1, .ref 0), (2, .ref 54), (3, .int x3)] [] S =
  if (fAdd x3 1) < 0 ∨ L ≤ ((fAdd x3 1)).toNatClampNeg then none else
  bI ((mFn d) 54 [.ref 0, .int (xs ((fAdd x3 1)).toNatClampNeg)] S) (fun y1 S1 =>
    if (fAdd x3 1) < 0 ∨ L ≤ ((fAdd x3 1)).toNatClampNeg then none else
    bI ((mFn d) 143 [.ref 54, .int (xs ((fAdd x3 1)).toNatClampNeg)] S1) (fun y2 S2 =>
      if y1 = y2 then
        mv (kL (mFn d) L xs) 1437 [(0, .ref 1002), (1, .ref 0), (2, .ref 54), (3, .int x3)] [] S2
      else
        some (some (.int 0), S2))) := mv_row (mmkL (mFn d) L xs) (cukL (mFn d) L xs) 18 rfl
set_option maxRecDepth 100000 in
theorem lL_876 (d L : Nat) (xs : Nat → Int32) (x3 : Int32) (S : MS) : mv (kL (mFn d) L xs) 876 [(0, .ref 1002), (1, .ref 0), (2, .ref 54), (3, .int x3)] [] S =
  if (fAdd x3 1) < 0 ∨ L ≤ ((fAdd x3 1)).toNatClampNeg then none else
  if (fAdd x3 2) < 0 ∨ L ≤ ((fAdd x3 2)).toNatClampNeg then none else
  if (fAdd x3 3) < 0 ∨ L ≤ ((fAdd x3 3)).toNatClampNeg then none else
  if (fAdd x3 4) < 0 ∨ L ≤ ((fAdd x3 4)).toNatClampNeg then none else
  bI ((mFn d) 55 [.ref 0, .int (xs ((fAdd x3 1)).toNatClampNeg), .int (xs ((fAdd x3 2)).toNatClampNeg), .int (xs ((fAdd x3 3)).toNatClampNeg), .int (xs ((fAdd x3 4)).toNatClampNeg)] S) (fun y1 S1 =>
    if (fAdd x3 1) < 0 ∨ L ≤ ((fAdd x3 1)).toNatClampNeg then none else
    if (fAdd x3 2) < 0 ∨ L ≤ ((fAdd x3 2)).toNatClampNeg then none else
    if (fAdd x3 3) < 0 ∨ L ≤ ((fAdd x3 3)).toNatClampNeg then none else
    if (fAdd x3 4) < 0 ∨ L ≤ ((fAdd x3 4)).toNatClampNeg then none else
    bI ((mFn d) 144 [.ref 54, .int (xs ((fAdd x3 1)).toNatClampNeg), .int (xs ((fAdd x3 2)).toNatClampNeg), .int (xs ((fAdd x3 3)).toNatClampNeg), .int (xs ((fAdd x3 4)).toNatClampNeg)] S1) (fun y2 S2 =>
      if y1 = y2 then
        mv (kL (mFn d) L xs) 1437 [(0, .ref 1002), (1, .ref 0), (2, .ref 54), (3, .int x3)] [] S2
      else
        some (some (.int 0), S2))) := mv_row (mmkL (mFn d) L xs) (cukL (mFn d) L xs) 48 rfl
set_option maxRecDepth 100000 in
theorem lL_929 (d L : Nat) (xs : Nat → Int32) (x3 : Int32) (S : MS) : mv (kL (mFn d) L xs) 929 [(0, .ref 1002), (1, .ref 0), (2, .ref 54), (3, .int x3)] [] S =
  if (fAdd x3 1) < 0 ∨ L ≤ ((fAdd x3 1)).toNatClampNeg then none else
  if (fAdd x3 2) < 0 ∨ L ≤ ((fAdd x3 2)).toNatClampNeg then none else
  if (fAdd x3 3) < 0 ∨ L ≤ ((fAdd x3 3)).toNatClampNeg then none else
  if (fAdd x3 4) < 0 ∨ L ≤ ((fAdd x3 4)).toNatClampNeg then none else
  if (fAdd x3 5) < 0 ∨ L ≤ ((fAdd x3 5)).toNatClampNeg then none else
  bI ((mFn d) 56 [.ref 0, .int (xs ((fAdd x3 1)).toNatClampNeg), .int (xs ((fAdd x3 2)).toNatClampNeg), .int (xs ((fAdd x3 3)).toNatClampNeg), .int (xs ((fAdd x3 4)).toNatClampNeg), .int (xs ((fAdd x3 5)).toNatClampNeg)] S) (fun y1 S1 =>
    if (fAdd x3 1) < 0 ∨ L ≤ ((fAdd x3 1)).toNatClampNeg then none else
    if (fAdd x3 2) < 0 ∨ L ≤ ((fAdd x3 2)).toNatClampNeg then none else
    if (fAdd x3 3) < 0 ∨ L ≤ ((fAdd x3 3)).toNatClampNeg then none else
    if (fAdd x3 4) < 0 ∨ L ≤ ((fAdd x3 4)).toNatClampNeg then none else
    if (fAdd x3 5) < 0 ∨ L ≤ ((fAdd x3 5)).toNatClampNeg then none else
    bI ((mFn d) 145 [.ref 54, .int (xs ((fAdd x3 1)).toNatClampNeg), .int (xs ((fAdd x3 2)).toNatClampNeg), .int (xs ((fAdd x3 3)).toNatClampNeg), .int (xs ((fAdd x3 4)).toNatClampNeg), .int (xs ((fAdd x3 5)).toNatClampNeg)] S1) (fun y2 S2 =>
      if y1 = y2 then
        mv (kL (mFn d) L xs) 1437 [(0, .ref 1002), (1, .ref 0), (2, .ref 54), (3, .int x3)] [] S2
      else
        some (some (.int 0), S2))) := mv_row (mmkL (mFn d) L xs) (cukL (mFn d) L xs) 58 rfl
set_option maxRecDepth 100000 in
theorem lL_992 (d L : Nat) (xs : Nat → Int32) (x3 : Int32) (S : MS) : mv (kL (mFn d) L xs) 992 [(0, .ref 1002), (1, .ref 0), (2, .ref 54), (3, .int x3)] [] S =
  if (fAdd x3 1) < 0 ∨ L ≤ ((fAdd x3 1)).toNatClampNeg then none else
  if (fAdd x3 2) < 0 ∨ L ≤ ((fAdd x3 2)).toNatClampNeg then none else
  if (fAdd x3 3) < 0 ∨ L ≤ ((fAdd x3 3)).toNatClampNeg then none else
  bI ((mFn d) 57 [.ref 0, .int (xs ((fAdd x3 1)).toNatClampNeg), .int (xs ((fAdd x3 2)).toNatClampNeg), .int (xs ((fAdd x3 3)).toNatClampNeg)] S) (fun y1 S1 =>
    if (fAdd x3 1) < 0 ∨ L ≤ ((fAdd x3 1)).toNatClampNeg then none else
    if (fAdd x3 2) < 0 ∨ L ≤ ((fAdd x3 2)).toNatClampNeg then none else
    if (fAdd x3 3) < 0 ∨ L ≤ ((fAdd x3 3)).toNatClampNeg then none else
    bI ((mFn d) 146 [.ref 54, .int (xs ((fAdd x3 1)).toNatClampNeg), .int (xs ((fAdd x3 2)).toNatClampNeg), .int (xs ((fAdd x3 3)).toNatClampNeg)] S1) (fun y2 S2 =>
      if y1 = y2 then
        mv (kL (mFn d) L xs) 1437 [(0, .ref 1002), (1, .ref 0), (2, .ref 54), (3, .int x3)] [] S2
      else
        some (some (.int 0), S2))) := mv_row (mmkL (mFn d) L xs) (cukL (mFn d) L xs) 38 rfl
set_option maxRecDepth 100000 in
theorem lL_1035 (d L : Nat) (xs : Nat → Int32) (x3 : Int32) (S : MS) : mv (kL (mFn d) L xs) 1035 [(0, .ref 1002), (1, .ref 0), (2, .ref 54), (3, .int x3)] [] S =
  if (fAdd x3 1) < 0 ∨ L ≤ ((fAdd x3 1)).toNatClampNeg then none else
  if (fAdd x3 2) < 0 ∨ L ≤ ((fAdd x3 2)).toNatClampNeg then none else
  bI ((mFn d) 58 [.ref 0, .int (xs ((fAdd x3 1)).toNatClampNeg), .int (xs ((fAdd x3 2)).toNatClampNeg)] S) (fun y1 S1 =>
    if (fAdd x3 1) < 0 ∨ L ≤ ((fAdd x3 1)).toNatClampNeg then none else
    if (fAdd x3 2) < 0 ∨ L ≤ ((fAdd x3 2)).toNatClampNeg then none else
    bI ((mFn d) 148 [.ref 54, .int (xs ((fAdd x3 1)).toNatClampNeg), .int (xs ((fAdd x3 2)).toNatClampNeg)] S1) (fun y2 S2 =>
      if y1 = y2 then
        mv (kL (mFn d) L xs) 1437 [(0, .ref 1002), (1, .ref 0), (2, .ref 54), (3, .int x3)] [] S2
      else
        some (some (.int 0), S2))) := mv_row (mmkL (mFn d) L xs) (cukL (mFn d) L xs) 28 rfl
set_option maxRecDepth 100000 in
theorem lL_1068 (d L : Nat) (xs : Nat → Int32) (x3 : Int32) (S : MS) : mv (kL (mFn d) L xs) 1068 [(0, .ref 1002), (1, .ref 0), (2, .ref 54), (3, .int x3)] [] S =
  if (fAdd x3 1) < 0 ∨ L ≤ ((fAdd x3 1)).toNatClampNeg then none else
  if (fAdd x3 2) < 0 ∨ L ≤ ((fAdd x3 2)).toNatClampNeg then none else
  if (fAdd x3 3) < 0 ∨ L ≤ ((fAdd x3 3)).toNatClampNeg then none else
  bI ((mFn d) 59 [.ref 0, .int (xs ((fAdd x3 1)).toNatClampNeg), .int (xs ((fAdd x3 2)).toNatClampNeg), .int (xs ((fAdd x3 3)).toNatClampNeg)] S) (fun y1 S1 =>
    if (fAdd x3 1) < 0 ∨ L ≤ ((fAdd x3 1)).toNatClampNeg then none else
    if (fAdd x3 2) < 0 ∨ L ≤ ((fAdd x3 2)).toNatClampNeg then none else
    if (fAdd x3 3) < 0 ∨ L ≤ ((fAdd x3 3)).toNatClampNeg then none else
    bI ((mFn d) 160 [.ref 54, .int (xs ((fAdd x3 1)).toNatClampNeg), .int (xs ((fAdd x3 2)).toNatClampNeg), .int (xs ((fAdd x3 3)).toNatClampNeg)] S1) (fun y2 S2 =>
      if y1 = y2 then
        mv (kL (mFn d) L xs) 1437 [(0, .ref 1002), (1, .ref 0), (2, .ref 54), (3, .int x3)] [] S2
      else
        some (some (.int 0), S2))) := mv_row (mmkL (mFn d) L xs) (cukL (mFn d) L xs) 38 rfl
set_option maxRecDepth 100000 in
theorem lL_1111 (d L : Nat) (xs : Nat → Int32) (x3 : Int32) (S : MS) : mv (kL (mFn d) L xs) 1111 [(0, .ref 1002), (1, .ref 0), (2, .ref 54), (3, .int x3)] [] S =
  if (fAdd x3 1) < 0 ∨ L ≤ ((fAdd x3 1)).toNatClampNeg then none else
  bI ((mFn d) 60 [.ref 0, .int (xs ((fAdd x3 1)).toNatClampNeg)] S) (fun y1 S1 =>
    if (fAdd x3 1) < 0 ∨ L ≤ ((fAdd x3 1)).toNatClampNeg then none else
    bI ((mFn d) 161 [.ref 54, .int (xs ((fAdd x3 1)).toNatClampNeg)] S1) (fun y2 S2 =>
      if y1 = y2 then
        mv (kL (mFn d) L xs) 1437 [(0, .ref 1002), (1, .ref 0), (2, .ref 54), (3, .int x3)] [] S2
      else
        some (some (.int 0), S2))) := mv_row (mmkL (mFn d) L xs) (cukL (mFn d) L xs) 18 rfl
set_option maxRecDepth 100000 in
theorem lL_1134 (d L : Nat) (xs : Nat → Int32) (x3 : Int32) (S : MS) : mv (kL (mFn d) L xs) 1134 [(0, .ref 1002), (1, .ref 0), (2, .ref 54), (3, .int x3)] [] S =
  if (fAdd x3 1) < 0 ∨ L ≤ ((fAdd x3 1)).toNatClampNeg then none else
  if (fAdd x3 2) < 0 ∨ L ≤ ((fAdd x3 2)).toNatClampNeg then none else
  if (fAdd x3 3) < 0 ∨ L ≤ ((fAdd x3 3)).toNatClampNeg then none else
  bI ((mFn d) 61 [.ref 0, .int (xs ((fAdd x3 1)).toNatClampNeg), .int (xs ((fAdd x3 2)).toNatClampNeg), .int (xs ((fAdd x3 3)).toNatClampNeg)] S) (fun y1 S1 =>
    if (fAdd x3 1) < 0 ∨ L ≤ ((fAdd x3 1)).toNatClampNeg then none else
    if (fAdd x3 2) < 0 ∨ L ≤ ((fAdd x3 2)).toNatClampNeg then none else
    if (fAdd x3 3) < 0 ∨ L ≤ ((fAdd x3 3)).toNatClampNeg then none else
    bI ((mFn d) 163 [.ref 54, .int (xs ((fAdd x3 1)).toNatClampNeg), .int (xs ((fAdd x3 2)).toNatClampNeg), .int (xs ((fAdd x3 3)).toNatClampNeg)] S1) (fun y2 S2 =>
      if y1 = y2 then
        mv (kL (mFn d) L xs) 1437 [(0, .ref 1002), (1, .ref 0), (2, .ref 54), (3, .int x3)] [] S2
      else
        some (some (.int 0), S2))) := mv_row (mmkL (mFn d) L xs) (cukL (mFn d) L xs) 38 rfl
set_option maxRecDepth 100000 in
theorem lL_1177 (d L : Nat) (xs : Nat → Int32) (x3 : Int32) (S : MS) : mv (kL (mFn d) L xs) 1177 [(0, .ref 1002), (1, .ref 0), (2, .ref 54), (3, .int x3)] [] S =
  if (fAdd x3 1) < 0 ∨ L ≤ ((fAdd x3 1)).toNatClampNeg then none else
  if (fAdd x3 2) < 0 ∨ L ≤ ((fAdd x3 2)).toNatClampNeg then none else
  if (fAdd x3 3) < 0 ∨ L ≤ ((fAdd x3 3)).toNatClampNeg then none else
  bI ((mFn d) 62 [.ref 0, .int (xs ((fAdd x3 1)).toNatClampNeg), .int (xs ((fAdd x3 2)).toNatClampNeg), .int (xs ((fAdd x3 3)).toNatClampNeg)] S) (fun y1 S1 =>
    if (fAdd x3 1) < 0 ∨ L ≤ ((fAdd x3 1)).toNatClampNeg then none else
    if (fAdd x3 2) < 0 ∨ L ≤ ((fAdd x3 2)).toNatClampNeg then none else
    if (fAdd x3 3) < 0 ∨ L ≤ ((fAdd x3 3)).toNatClampNeg then none else
    bI ((mFn d) 165 [.ref 54, .int (xs ((fAdd x3 1)).toNatClampNeg), .int (xs ((fAdd x3 2)).toNatClampNeg), .int (xs ((fAdd x3 3)).toNatClampNeg)] S1) (fun y2 S2 =>
      if y1 = y2 then
        mv (kL (mFn d) L xs) 1437 [(0, .ref 1002), (1, .ref 0), (2, .ref 54), (3, .int x3)] [] S2
      else
        some (some (.int 0), S2))) := mv_row (mmkL (mFn d) L xs) (cukL (mFn d) L xs) 38 rfl
set_option maxRecDepth 100000 in
theorem lL_1220 (d L : Nat) (xs : Nat → Int32) (x3 : Int32) (S : MS) : mv (kL (mFn d) L xs) 1220 [(0, .ref 1002), (1, .ref 0), (2, .ref 54), (3, .int x3)] [] S =
  if (fAdd x3 1) < 0 ∨ L ≤ ((fAdd x3 1)).toNatClampNeg then none else
  if (fAdd x3 2) < 0 ∨ L ≤ ((fAdd x3 2)).toNatClampNeg then none else
  if (fAdd x3 3) < 0 ∨ L ≤ ((fAdd x3 3)).toNatClampNeg then none else
  if (fAdd x3 4) < 0 ∨ L ≤ ((fAdd x3 4)).toNatClampNeg then none else
  if (fAdd x3 5) < 0 ∨ L ≤ ((fAdd x3 5)).toNatClampNeg then none else
  bI ((mFn d) 63 [.ref 0, .int (xs ((fAdd x3 1)).toNatClampNeg), .int (xs ((fAdd x3 2)).toNatClampNeg), .int (xs ((fAdd x3 3)).toNatClampNeg), .int (xs ((fAdd x3 4)).toNatClampNeg), .int (xs ((fAdd x3 5)).toNatClampNeg)] S) (fun y1 S1 =>
    if (fAdd x3 1) < 0 ∨ L ≤ ((fAdd x3 1)).toNatClampNeg then none else
    if (fAdd x3 2) < 0 ∨ L ≤ ((fAdd x3 2)).toNatClampNeg then none else
    if (fAdd x3 3) < 0 ∨ L ≤ ((fAdd x3 3)).toNatClampNeg then none else
    if (fAdd x3 4) < 0 ∨ L ≤ ((fAdd x3 4)).toNatClampNeg then none else
    if (fAdd x3 5) < 0 ∨ L ≤ ((fAdd x3 5)).toNatClampNeg then none else
    bI ((mFn d) 167 [.ref 54, .int (xs ((fAdd x3 1)).toNatClampNeg), .int (xs ((fAdd x3 2)).toNatClampNeg), .int (xs ((fAdd x3 3)).toNatClampNeg), .int (xs ((fAdd x3 4)).toNatClampNeg), .int (xs ((fAdd x3 5)).toNatClampNeg)] S1) (fun y2 S2 =>
      if y1 = y2 then
        mv (kL (mFn d) L xs) 1437 [(0, .ref 1002), (1, .ref 0), (2, .ref 54), (3, .int x3)] [] S2
      else
        some (some (.int 0), S2))) := mv_row (mmkL (mFn d) L xs) (cukL (mFn d) L xs) 58 rfl
set_option maxRecDepth 100000 in
theorem lL_1283 (d L : Nat) (xs : Nat → Int32) (x3 : Int32) (S : MS) : mv (kL (mFn d) L xs) 1283 [(0, .ref 1002), (1, .ref 0), (2, .ref 54), (3, .int x3)] [] S =
  if (fAdd x3 1) < 0 ∨ L ≤ ((fAdd x3 1)).toNatClampNeg then none else
  bI ((mFn d) 64 [.ref 0, .int (xs ((fAdd x3 1)).toNatClampNeg)] S) (fun y1 S1 =>
    if (fAdd x3 1) < 0 ∨ L ≤ ((fAdd x3 1)).toNatClampNeg then none else
    bI ((mFn d) 168 [.ref 54, .int (xs ((fAdd x3 1)).toNatClampNeg)] S1) (fun y2 S2 =>
      if y1 = y2 then
        mv (kL (mFn d) L xs) 1437 [(0, .ref 1002), (1, .ref 0), (2, .ref 54), (3, .int x3)] [] S2
      else
        some (some (.int 0), S2))) := mv_row (mmkL (mFn d) L xs) (cukL (mFn d) L xs) 18 rfl
set_option maxRecDepth 100000 in
theorem lL_1306 (d L : Nat) (xs : Nat → Int32) (x3 : Int32) (S : MS) : mv (kL (mFn d) L xs) 1306 [(0, .ref 1002), (1, .ref 0), (2, .ref 54), (3, .int x3)] [] S =
  if (fAdd x3 1) < 0 ∨ L ≤ ((fAdd x3 1)).toNatClampNeg then none else
  bI ((mFn d) 65 [.ref 0, .int (xs ((fAdd x3 1)).toNatClampNeg)] S) (fun y1 S1 =>
    if (fAdd x3 1) < 0 ∨ L ≤ ((fAdd x3 1)).toNatClampNeg then none else
    bI ((mFn d) 169 [.ref 54, .int (xs ((fAdd x3 1)).toNatClampNeg)] S1) (fun y2 S2 =>
      if y1 = y2 then
        mv (kL (mFn d) L xs) 1437 [(0, .ref 1002), (1, .ref 0), (2, .ref 54), (3, .int x3)] [] S2
      else
        some (some (.int 0), S2))) := mv_row (mmkL (mFn d) L xs) (cukL (mFn d) L xs) 18 rfl
set_option maxRecDepth 100000 in
theorem lL_1329 (d L : Nat) (xs : Nat → Int32) (x3 : Int32) (S : MS) : mv (kL (mFn d) L xs) 1329 [(0, .ref 1002), (1, .ref 0), (2, .ref 54), (3, .int x3)] [] S =
  bI ((mFn d) 66 [.ref 0] S) (fun y1 S1 =>
    bI ((mFn d) 170 [.ref 54] S1) (fun y2 S2 =>
      if y1 = y2 then
        mv (kL (mFn d) L xs) 1437 [(0, .ref 1002), (1, .ref 0), (2, .ref 54), (3, .int x3)] [] S2
      else
        some (some (.int 0), S2))) := mv_row (mmkL (mFn d) L xs) (cukL (mFn d) L xs) 8 rfl
set_option maxRecDepth 100000 in
theorem lL_1342 (d L : Nat) (xs : Nat → Int32) (x3 : Int32) (S : MS) : mv (kL (mFn d) L xs) 1342 [(0, .ref 1002), (1, .ref 0), (2, .ref 54), (3, .int x3)] [] S =
  bI ((mFn d) 67 [.ref 0] S) (fun y1 S1 =>
    bI ((mFn d) 171 [.ref 54] S1) (fun y2 S2 =>
      if y1 = y2 then
        mv (kL (mFn d) L xs) 1437 [(0, .ref 1002), (1, .ref 0), (2, .ref 54), (3, .int x3)] [] S2
      else
        some (some (.int 0), S2))) := mv_row (mmkL (mFn d) L xs) (cukL (mFn d) L xs) 8 rfl
set_option maxRecDepth 100000 in
theorem lL_1355 (d L : Nat) (xs : Nat → Int32) (x3 : Int32) (S : MS) : mv (kL (mFn d) L xs) 1355 [(0, .ref 1002), (1, .ref 0), (2, .ref 54), (3, .int x3)] [] S =
  if (fAdd x3 1) < 0 ∨ L ≤ ((fAdd x3 1)).toNatClampNeg then none else
  bI ((mFn d) 68 [.ref 0, .int (xs ((fAdd x3 1)).toNatClampNeg)] S) (fun y1 S1 =>
    if (fAdd x3 1) < 0 ∨ L ≤ ((fAdd x3 1)).toNatClampNeg then none else
    bI ((mFn d) 172 [.ref 54, .int (xs ((fAdd x3 1)).toNatClampNeg)] S1) (fun y2 S2 =>
      if y1 = y2 then
        mv (kL (mFn d) L xs) 1437 [(0, .ref 1002), (1, .ref 0), (2, .ref 54), (3, .int x3)] [] S2
      else
        some (some (.int 0), S2))) := mv_row (mmkL (mFn d) L xs) (cukL (mFn d) L xs) 18 rfl
set_option maxRecDepth 100000 in
theorem lL_1378 (d L : Nat) (xs : Nat → Int32) (x3 : Int32) (S : MS) : mv (kL (mFn d) L xs) 1378 [(0, .ref 1002), (1, .ref 0), (2, .ref 54), (3, .int x3)] [] S =
  bI ((mFn d) 69 [.ref 0] S) (fun y1 S1 =>
    bI ((mFn d) 173 [.ref 54] S1) (fun y2 S2 =>
      if y1 = y2 then
        mv (kL (mFn d) L xs) 1437 [(0, .ref 1002), (1, .ref 0), (2, .ref 54), (3, .int x3)] [] S2
      else
        some (some (.int 0), S2))) := mv_row (mmkL (mFn d) L xs) (cukL (mFn d) L xs) 8 rfl
set_option maxRecDepth 100000 in
theorem lL_1391 (d L : Nat) (xs : Nat → Int32) (x3 : Int32) (S : MS) : mv (kL (mFn d) L xs) 1391 [(0, .ref 1002), (1, .ref 0), (2, .ref 54), (3, .int x3)] [] S =
  if (fAdd x3 1) < 0 ∨ L ≤ ((fAdd x3 1)).toNatClampNeg then none else
  bI ((mFn d) 70 [.ref 0, .int (xs ((fAdd x3 1)).toNatClampNeg)] S) (fun y1 S1 =>
    if (fAdd x3 1) < 0 ∨ L ≤ ((fAdd x3 1)).toNatClampNeg then none else
    bI ((mFn d) 174 [.ref 54, .int (xs ((fAdd x3 1)).toNatClampNeg)] S1) (fun y2 S2 =>
      if y1 = y2 then
        mv (kL (mFn d) L xs) 1437 [(0, .ref 1002), (1, .ref 0), (2, .ref 54), (3, .int x3)] [] S2
      else
        some (some (.int 0), S2))) := mv_row (mmkL (mFn d) L xs) (cukL (mFn d) L xs) 18 rfl
set_option maxRecDepth 100000 in
theorem lL_1414 (d L : Nat) (xs : Nat → Int32) (x3 : Int32) (S : MS) : mv (kL (mFn d) L xs) 1414 [(0, .ref 1002), (1, .ref 0), (2, .ref 54), (3, .int x3)] [] S =
  if (fAdd x3 1) < 0 ∨ L ≤ ((fAdd x3 1)).toNatClampNeg then none else
  bI ((mFn d) 71 [.ref 0, .int (xs ((fAdd x3 1)).toNatClampNeg)] S) (fun y1 S1 =>
    if (fAdd x3 1) < 0 ∨ L ≤ ((fAdd x3 1)).toNatClampNeg then none else
    bI ((mFn d) 175 [.ref 54, .int (xs ((fAdd x3 1)).toNatClampNeg)] S1) (fun y2 S2 =>
      if y1 = y2 then
        mv (kL (mFn d) L xs) 1437 [(0, .ref 1002), (1, .ref 0), (2, .ref 54), (3, .int x3)] [] S2
      else
        some (some (.int 0), S2))) := mv_row (mmkL (mFn d) L xs) (cukL (mFn d) L xs) 18 rfl
set_option maxRecDepth 100000 in
theorem lL_1437 (d L : Nat) (xs : Nat → Int32) (x3 : Int32) (S : MS) : mv (kL (mFn d) L xs) 1437 [(0, .ref 1002), (1, .ref 0), (2, .ref 54), (3, .int x3)] [] S =
  mv (kL (mFn d) L xs) 18 [(0, .ref 1002), (1, .ref 0), (2, .ref 54), (3, .int (x3 + 6))] [] S := mv_row (mmkL (mFn d) L xs) (cukL (mFn d) L xs) 3 rfl
