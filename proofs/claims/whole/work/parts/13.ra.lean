/-! ===== rows: City, Hearing, Sheet, Speaker, Text, the JDK ===== -/
def rho (S : MS) (q : Nat) : MS := uR (uR S 39 4 (some 9)) 39 8 (some q)
theorem cuX0_madeOf (F : Nat → List Value → MS → Option MR) : mcuts (kX0_madeOf F) [] := fun _ h => absurd h List.not_mem_nil
set_option maxRecDepth 100000 in
theorem fX0_madeOf (d : Nat) (x1 : Int32) (x2 : Int32) (S : MS) : mFn (d + 1) 0 [.ref 1, .int x1, .int x2] S =
  bI ((mFn d) 1 [.ref 1, .int x1, .int x2] S) (fun y1 S1 =>
    if x1 < 0 ∨ 8 ≤ (x1).toNatClampNeg then none else
    if x1 < 0 ∨ 8 ≤ (x1).toNatClampNeg then none else
    bI ((mFn d) 4 [.ref 1, .int 0, .int y1, .int (S1.1 4 (x1).toNatClampNeg), .int (S1.1 2 (x1).toNatClampNeg)] S1) (fun y2 S2 =>
      some (some (.int y2), S2))) := (mFn_eq rfl).trans (mv_row (code := kX0_madeOf (mFn d)) (mmX0_madeOf (mFn d)) (cuX0_madeOf (mFn d)) 17 rfl)
theorem cuX0_withAdded (F : Nat → List Value → MS → Option MR) : mcuts (kX0_withAdded F) [] := fun _ h => absurd h List.not_mem_nil
set_option maxRecDepth 100000 in
theorem fX0_withAdded (d : Nat) (x1 : Int32) (x2 : Int32) (S : MS) : mFn (d + 1) 1 [.ref 1, .int x1, .int x2] S =
  if x1 < 0 ∨ 8 ≤ (x1).toNatClampNeg then none else
  if (S.1 2 (x1).toNatClampNeg) = 1 then
    if x1 < 0 ∨ 8 ≤ (x1).toNatClampNeg then none else
    some (some (.int (fAdd (fAdd x2 1) (S.1 3 (x1).toNatClampNeg))), S)
  else if (S.1 2 (x1).toNatClampNeg) = 2 then
    if x1 < 0 ∨ 8 ≤ (x1).toNatClampNeg then none else
    some (some (.int (fSub (fMul 2 (fAdd x2 1)) (S.1 3 (x1).toNatClampNeg))), S)
  else if (S.1 2 (x1).toNatClampNeg) = 3 then
    some (some (.int (fAdd x2 1)), S)
  else if (S.1 2 (x1).toNatClampNeg) = 4 then
    if x1 < 0 ∨ 8 ≤ (x1).toNatClampNeg then none else
    if x1 < 0 ∨ 8 ≤ (x1).toNatClampNeg then none else
    some (some (.int (fAdd (fAdd (fAdd x2 1) (S.1 3 (x1).toNatClampNeg)) (S.1 4 (x1).toNatClampNeg))), S)
  else if (S.1 2 (x1).toNatClampNeg) = 5 then
    if x1 < 0 ∨ 8 ≤ (x1).toNatClampNeg then none else
    if x1 < 0 ∨ 8 ≤ (x1).toNatClampNeg then none else
    if (5 : Int32) = 0 then none else
    some (some (.int (fAdd (fSub (fMul 2 (fAdd x2 1)) (S.1 3 (x1).toNatClampNeg)) ((S.1 5 (x1).toNatClampNeg) - (S.1 5 (x1).toNatClampNeg) / 5 * 5))), S)
  else if (S.1 2 (x1).toNatClampNeg) = 6 then
    if x1 < 0 ∨ 8 ≤ (x1).toNatClampNeg then none else
    if (3 : Int32) = 0 then none else
    some (some (.int (fAdd 1 ((S.1 3 (x1).toNatClampNeg) - (S.1 3 (x1).toNatClampNeg) / 3 * 3))), S)
  else 
    some (some (.int (fAdd x2 1)), S) := (mFn_eq rfl).trans (mv_row (code := kX0_withAdded (mFn d)) (mmX0_withAdded (mFn d)) (cuX0_withAdded (mFn d)) 24 rfl)
theorem cuX0_isSaidOn (F : Nat → List Value → MS → Option MR) : mcuts (kX0_isSaidOn F) [] := fun _ h => absurd h List.not_mem_nil
set_option maxRecDepth 100000 in
theorem fX0_isSaidOn (d : Nat) (x1 : Int32) (x2 : Int32) (S : MS) : mFn (d + 1) 2 [.ref 1, .int x1, .int x2] S =
  if x1 < 0 ∨ 8 ≤ (x1).toNatClampNeg then none else
  if (S.1 2 (x1).toNatClampNeg) = 1 then
    if x2 ≤ (S.1 1 10) then
      some (some (.int 0), S)
    else
      some (some (.int 1), S)
  else if (S.1 2 (x1).toNatClampNeg) = 2 then
    some (some (.int 1), S)
  else if (S.1 2 (x1).toNatClampNeg) = 3 then
    if x1 < 0 ∨ 8 ≤ (x1).toNatClampNeg then none else
    if (fAdd (S.1 3 (x1).toNatClampNeg) 2) = 0 then none else
    if (x2 - x2 / (fAdd (S.1 3 (x1).toNatClampNeg) 2) * (fAdd (S.1 3 (x1).toNatClampNeg) 2)) = 0 then
      some (some (.int 0), S)
    else
      some (some (.int 1), S)
  else if (S.1 2 (x1).toNatClampNeg) = 4 then
    if (S.1 1 10) < x2 then
      some (some (.int 1), S)
    else
      if x1 < 0 ∨ 8 ≤ (x1).toNatClampNeg then none else
      if (S.1 3 (x1).toNatClampNeg) ≤ 6 then
        some (some (.int 0), S)
      else
        some (some (.int 1), S)
  else if (S.1 2 (x1).toNatClampNeg) = 5 then
    if x1 < 0 ∨ 8 ≤ (x1).toNatClampNeg then none else
    if (fAdd 60 (S.1 3 (x1).toNatClampNeg)) ≤ x2 then
      some (some (.int 0), S)
    else
      some (some (.int 1), S)
  else if (S.1 2 (x1).toNatClampNeg) = 6 then
    if 8 ≤ (S.1 1 10) then
      some (some (.int 0), S)
    else
      some (some (.int 1), S)
  else 
    some (some (.int 1), S) := (mFn_eq rfl).trans (mv_row (code := kX0_isSaidOn (mFn d)) (mmX0_isSaidOn (mFn d)) (cuX0_isSaidOn (mFn d)) 19 rfl)
theorem cuX0_howSlow (F : Nat → List Value → MS → Option MR) : mcuts (kX0_howSlow F) [] := fun _ h => absurd h List.not_mem_nil
set_option maxRecDepth 100000 in
theorem fX0_howSlow (d : Nat) (x1 : Int32) (S : MS) : mFn (d + 1) 3 [.ref 1, .int x1] S =
  if x1 < 0 ∨ 9 ≤ (x1).toNatClampNeg then none else
  if x1 < 0 ∨ 9 ≤ (x1).toNatClampNeg then none else
  if (S.1 6 (x1).toNatClampNeg) < 0 ∨ 8 ≤ ((S.1 6 (x1).toNatClampNeg)).toNatClampNeg then none else
  if x1 < 0 ∨ 9 ≤ (x1).toNatClampNeg then none else
  if (S.1 7 (x1).toNatClampNeg) < 0 ∨ 8 ≤ ((S.1 7 (x1).toNatClampNeg)).toNatClampNeg then none else
  bI ((mFn d) 4 [.ref 1, .int 1, .int (S.1 8 (x1).toNatClampNeg), .int (S.1 1 10), .int (fSub (S.1 4 ((S.1 6 (x1).toNatClampNeg)).toNatClampNeg) (S.1 4 ((S.1 7 (x1).toNatClampNeg)).toNatClampNeg))] S) (fun y1 S1 =>
    some (some (.int y1), S1)) := (mFn_eq rfl).trans (mv_row (code := kX0_howSlow (mFn d)) (mmX0_howSlow (mFn d)) (cuX0_howSlow (mFn d)) 26 rfl)
theorem cuX0_given (F : Nat → List Value → MS → Option MR) : mcuts (kX0_given F) [] := fun _ h => absurd h List.not_mem_nil
set_option maxRecDepth 100000 in
theorem fX0_given (d : Nat) (x1 : Int32) (x2 : Int32) (x3 : Int32) (x4 : Int32) (S : MS) : mFn (d + 1) 4 [.ref 1, .int x1, .int x2, .int x3, .int x4] S =
  if x1 < 0 ∨ 2 ≤ (x1).toNatClampNeg then none else
  (match rv S 11 (x1).toNatClampNeg with
  | some q1 => bif kO q1 4 then
      if (S.1 q1 0) = 0 then
        if x1 = 0 then
          some (some (.int (if (1 : Int32) < (if x2 < 99 then x2 else 99) then (if x2 < 99 then x2 else 99) else 1)), S)
        else
          some (some (.int (if (1 : Int32) < (if x2 < 20 then x2 else 20) then (if x2 < 20 then x2 else 20) else 1)), S)
      else
        if x1 < 0 ∨ 2 ≤ (x1).toNatClampNeg then none else
        (match rv S 11 (x1).toNatClampNeg with
        | some q2 => bif kO q2 4 && true then
            bI ((mFn d) 23 [.ref q2, .int x2, .int x3, .int x4] S) (fun y3 S3 =>
            if x1 = 0 then
              some (some (.int (if (1 : Int32) < (if y3 < 99 then y3 else 99) then (if y3 < 99 then y3 else 99) else 1)), S3)
            else
              some (some (.int (if (1 : Int32) < (if y3 < 20 then y3 else 20) then (if y3 < 20 then y3 else 20) else 1)), S3))
          else none
        | none => none)
    else none
  | none => none) := (mFn_eq rfl).trans (mv_row (code := kX0_given (mFn d)) (mmX0_given (mFn d)) (cuX0_given (mFn d)) 26 rfl)
theorem cuX0_passDay (F : Nat → List Value → MS → Option MR) : mcuts (kX0_passDay F) [(2, [0, 1])] := List.forall_mem_cons.mpr ⟨⟨oIload 1 3, rfl⟩, fun _ h => absurd h List.not_mem_nil⟩
set_option maxRecDepth 100000 in
theorem fX0_passDay (d : Nat) (S : MS) : mFn (d + 1) 5 [.ref 1] S =
  mv (kX0_passDay (mFn d)) 2 [(0, .ref 1), (1, .int 0)] [] S := (mFn_eq rfl).trans (mv_row (code := kX0_passDay (mFn d)) (mmX0_passDay (mFn d)) (cuX0_passDay (mFn d)) 3 rfl)
set_option maxRecDepth 100000 in
theorem lX0_passDay_2 (d : Nat) (x1 : Int32) (S : MS) : mv (kX0_passDay (mFn d)) 2 [(0, .ref 1), (1, .int x1)] [] S =
  if (S.1 1 0) ≤ x1 then
    some (none, (uI S 1 11 (fAdd (S.1 1 11) 1)))
  else
    if x1 < 0 ∨ 8 ≤ (x1).toNatClampNeg then none else
    if x1 < 0 ∨ 8 ≤ (x1).toNatClampNeg then none else
    if (4 : Int32) = 0 then none else
    if x1 < 0 ∨ 8 ≤ (x1).toNatClampNeg then none else
    mv (kX0_passDay (mFn d)) 2 [(0, .ref 1), (1, .int (x1 + 1))] [] (uI S 5 (x1).toNatClampNeg (fSub (S.1 5 (x1).toNatClampNeg) ((S.1 5 (x1).toNatClampNeg) / 4))) := mv_row (mmX0_passDay (mFn d)) (cuX0_passDay (mFn d)) 20 rfl
theorem cuX0_draw (F : Nat → List Value → MS → Option MR) : mcuts (kX0_draw F) [] := fun _ h => absurd h List.not_mem_nil
set_option maxRecDepth 100000 in
theorem fX0_draw (d : Nat) (S : MS) : mFn (d + 1) 6 [.ref 1] S =
  some (some (.int (fUshr (fAdd (fMul (S.1 1 12) 1103515245) 12345) 8)), (uI S 1 12 (fAdd (fMul (S.1 1 12) 1103515245) 12345))) := (mFn_eq rfl).trans (mv_row (code := kX0_draw (mFn d)) (mmX0_draw (mFn d)) (cuX0_draw (mFn d)) 14 rfl)
theorem cuX0_copyFrom (F : Nat → List Value → MS → Option MR) : mcuts (kX0_copyFrom F) [] := fun _ h => absurd h List.not_mem_nil
set_option maxRecDepth 100000 in
theorem fX0_copyFrom_a (d : Nat) (S : MS) : mFn (d + 1) 7 [.ref 1, .ref 18] S =
  if (0 : Int32) < 0 ∨ (0 : Int32) < 0 ∨ (8 : Int32) < 0 ∨ 8 < ((0 : Int32)).toNatClampNeg + ((8 : Int32)).toNatClampNeg ∨ 8 < ((0 : Int32)).toNatClampNeg + ((8 : Int32)).toNatClampNeg then none else
  if (0 : Int32) < 0 ∨ (0 : Int32) < 0 ∨ (8 : Int32) < 0 ∨ 8 < ((0 : Int32)).toNatClampNeg + ((8 : Int32)).toNatClampNeg ∨ 8 < ((0 : Int32)).toNatClampNeg + ((8 : Int32)).toNatClampNeg then none else
  if (0 : Int32) < 0 ∨ (0 : Int32) < 0 ∨ (8 : Int32) < 0 ∨ 8 < ((0 : Int32)).toNatClampNeg + ((8 : Int32)).toNatClampNeg ∨ 8 < ((0 : Int32)).toNatClampNeg + ((8 : Int32)).toNatClampNeg then none else
  if (0 : Int32) < 0 ∨ (0 : Int32) < 0 ∨ (8 : Int32) < 0 ∨ 8 < ((0 : Int32)).toNatClampNeg + ((8 : Int32)).toNatClampNeg ∨ 8 < ((0 : Int32)).toNatClampNeg + ((8 : Int32)).toNatClampNeg then none else
  if (0 : Int32) < 0 ∨ (0 : Int32) < 0 ∨ (9 : Int32) < 0 ∨ 9 < ((0 : Int32)).toNatClampNeg + ((9 : Int32)).toNatClampNeg ∨ 9 < ((0 : Int32)).toNatClampNeg + ((9 : Int32)).toNatClampNeg then none else
  if (0 : Int32) < 0 ∨ (0 : Int32) < 0 ∨ (9 : Int32) < 0 ∨ 9 < ((0 : Int32)).toNatClampNeg + ((9 : Int32)).toNatClampNeg ∨ 9 < ((0 : Int32)).toNatClampNeg + ((9 : Int32)).toNatClampNeg then none else
  if (0 : Int32) < 0 ∨ (0 : Int32) < 0 ∨ (9 : Int32) < 0 ∨ 9 < ((0 : Int32)).toNatClampNeg + ((9 : Int32)).toNatClampNeg ∨ 9 < ((0 : Int32)).toNatClampNeg + ((9 : Int32)).toNatClampNeg then none else
  if (0 : Int32) < 0 ∨ (0 : Int32) < 0 ∨ (60 : Int32) < 0 ∨ 60 < ((0 : Int32)).toNatClampNeg + ((60 : Int32)).toNatClampNeg ∨ 60 < ((0 : Int32)).toNatClampNeg + ((60 : Int32)).toNatClampNeg then none else
  bV ((mFn d) 22 [.ref 12, .ref 29] (uI (uC (uI (uI (uI (uI (uC (uC (uC (uI (uC (uC (uC (uC (uI S 1 0 (S.1 18 0)) 19 2 ((0 : Int32)).toNatClampNeg ((0 : Int32)).toNatClampNeg ((8 : Int32)).toNatClampNeg) 20 3 ((0 : Int32)).toNatClampNeg ((0 : Int32)).toNatClampNeg ((8 : Int32)).toNatClampNeg) 21 4 ((0 : Int32)).toNatClampNeg ((0 : Int32)).toNatClampNeg ((8 : Int32)).toNatClampNeg) 22 5 ((0 : Int32)).toNatClampNeg ((0 : Int32)).toNatClampNeg ((8 : Int32)).toNatClampNeg) 1 5 (S.1 18 5)) 23 6 ((0 : Int32)).toNatClampNeg ((0 : Int32)).toNatClampNeg ((9 : Int32)).toNatClampNeg) 24 7 ((0 : Int32)).toNatClampNeg ((0 : Int32)).toNatClampNeg ((9 : Int32)).toNatClampNeg) 25 8 ((0 : Int32)).toNatClampNeg ((0 : Int32)).toNatClampNeg ((9 : Int32)).toNatClampNeg) 1 9 (S.1 18 9)) 1 10 (S.1 18 10)) 1 11 (S.1 18 11)) 1 12 (S.1 18 12)) 26 9 ((0 : Int32)).toNatClampNeg ((0 : Int32)).toNatClampNeg ((60 : Int32)).toNatClampNeg) 1 14 (S.1 18 14))) (fun S1 =>
    bV ((mFn d) 22 [.ref 15, .ref 32] S1) (fun S2 =>
      if (0 : Int32) < 0 ∨ (0 : Int32) < 0 ∨ (24 : Int32) < 0 ∨ 24 < ((0 : Int32)).toNatClampNeg + ((24 : Int32)).toNatClampNeg ∨ 24 < ((0 : Int32)).toNatClampNeg + ((24 : Int32)).toNatClampNeg then none else
      some (none, (uI (uC S2 27 10 ((0 : Int32)).toNatClampNeg ((0 : Int32)).toNatClampNeg ((24 : Int32)).toNatClampNeg) 1 17 (S2.1 18 17))))) := (mFn_eq rfl).trans (mv_row (code := kX0_copyFrom (mFn d)) (mmX0_copyFrom (mFn d)) (cuX0_copyFrom (mFn d)) 124 rfl)
set_option maxRecDepth 100000 in
theorem fX0_copyFrom_b (d : Nat) (S : MS) : mFn (d + 1) 7 [.ref 18, .ref 1] S =
  if (0 : Int32) < 0 ∨ (0 : Int32) < 0 ∨ (8 : Int32) < 0 ∨ 8 < ((0 : Int32)).toNatClampNeg + ((8 : Int32)).toNatClampNeg ∨ 8 < ((0 : Int32)).toNatClampNeg + ((8 : Int32)).toNatClampNeg then none else
  if (0 : Int32) < 0 ∨ (0 : Int32) < 0 ∨ (8 : Int32) < 0 ∨ 8 < ((0 : Int32)).toNatClampNeg + ((8 : Int32)).toNatClampNeg ∨ 8 < ((0 : Int32)).toNatClampNeg + ((8 : Int32)).toNatClampNeg then none else
  if (0 : Int32) < 0 ∨ (0 : Int32) < 0 ∨ (8 : Int32) < 0 ∨ 8 < ((0 : Int32)).toNatClampNeg + ((8 : Int32)).toNatClampNeg ∨ 8 < ((0 : Int32)).toNatClampNeg + ((8 : Int32)).toNatClampNeg then none else
  if (0 : Int32) < 0 ∨ (0 : Int32) < 0 ∨ (8 : Int32) < 0 ∨ 8 < ((0 : Int32)).toNatClampNeg + ((8 : Int32)).toNatClampNeg ∨ 8 < ((0 : Int32)).toNatClampNeg + ((8 : Int32)).toNatClampNeg then none else
  if (0 : Int32) < 0 ∨ (0 : Int32) < 0 ∨ (9 : Int32) < 0 ∨ 9 < ((0 : Int32)).toNatClampNeg + ((9 : Int32)).toNatClampNeg ∨ 9 < ((0 : Int32)).toNatClampNeg + ((9 : Int32)).toNatClampNeg then none else
  if (0 : Int32) < 0 ∨ (0 : Int32) < 0 ∨ (9 : Int32) < 0 ∨ 9 < ((0 : Int32)).toNatClampNeg + ((9 : Int32)).toNatClampNeg ∨ 9 < ((0 : Int32)).toNatClampNeg + ((9 : Int32)).toNatClampNeg then none else
  if (0 : Int32) < 0 ∨ (0 : Int32) < 0 ∨ (9 : Int32) < 0 ∨ 9 < ((0 : Int32)).toNatClampNeg + ((9 : Int32)).toNatClampNeg ∨ 9 < ((0 : Int32)).toNatClampNeg + ((9 : Int32)).toNatClampNeg then none else
  if (0 : Int32) < 0 ∨ (0 : Int32) < 0 ∨ (60 : Int32) < 0 ∨ 60 < ((0 : Int32)).toNatClampNeg + ((60 : Int32)).toNatClampNeg ∨ 60 < ((0 : Int32)).toNatClampNeg + ((60 : Int32)).toNatClampNeg then none else
  bV ((mFn d) 22 [.ref 29, .ref 12] (uI (uC (uI (uI (uI (uI (uC (uC (uC (uI (uC (uC (uC (uC (uI S 18 0 (S.1 1 0)) 2 19 ((0 : Int32)).toNatClampNeg ((0 : Int32)).toNatClampNeg ((8 : Int32)).toNatClampNeg) 3 20 ((0 : Int32)).toNatClampNeg ((0 : Int32)).toNatClampNeg ((8 : Int32)).toNatClampNeg) 4 21 ((0 : Int32)).toNatClampNeg ((0 : Int32)).toNatClampNeg ((8 : Int32)).toNatClampNeg) 5 22 ((0 : Int32)).toNatClampNeg ((0 : Int32)).toNatClampNeg ((8 : Int32)).toNatClampNeg) 18 5 (S.1 1 5)) 6 23 ((0 : Int32)).toNatClampNeg ((0 : Int32)).toNatClampNeg ((9 : Int32)).toNatClampNeg) 7 24 ((0 : Int32)).toNatClampNeg ((0 : Int32)).toNatClampNeg ((9 : Int32)).toNatClampNeg) 8 25 ((0 : Int32)).toNatClampNeg ((0 : Int32)).toNatClampNeg ((9 : Int32)).toNatClampNeg) 18 9 (S.1 1 9)) 18 10 (S.1 1 10)) 18 11 (S.1 1 11)) 18 12 (S.1 1 12)) 9 26 ((0 : Int32)).toNatClampNeg ((0 : Int32)).toNatClampNeg ((60 : Int32)).toNatClampNeg) 18 14 (S.1 1 14))) (fun S1 =>
    bV ((mFn d) 22 [.ref 32, .ref 15] S1) (fun S2 =>
      if (0 : Int32) < 0 ∨ (0 : Int32) < 0 ∨ (24 : Int32) < 0 ∨ 24 < ((0 : Int32)).toNatClampNeg + ((24 : Int32)).toNatClampNeg ∨ 24 < ((0 : Int32)).toNatClampNeg + ((24 : Int32)).toNatClampNeg then none else
      some (none, (uI (uC S2 10 27 ((0 : Int32)).toNatClampNeg ((0 : Int32)).toNatClampNeg ((24 : Int32)).toNatClampNeg) 18 17 (S2.1 1 17))))) := (mFn_eq rfl).trans (mv_row (code := kX0_copyFrom (mFn d)) (mmX0_copyFrom (mFn d)) (cuX0_copyFrom (mFn d)) 124 rfl)
theorem cuX1_learnSlow (F : Nat → List Value → MS → Option MR) : mcuts (kX1_learnSlow F) [(2, [0, 1])] := List.forall_mem_cons.mpr ⟨⟨oIload 1 3, rfl⟩, fun _ h => absurd h List.not_mem_nil⟩
set_option maxRecDepth 100000 in
theorem fX1_learnSlow (d : Nat) (S : MS) : mFn (d + 1) 8 [.ref 35] S =
  mv (kX1_learnSlow (mFn d)) 2 [(0, .ref 35), (1, .int 0)] [] S := (mFn_eq rfl).trans (mv_row (code := kX1_learnSlow (mFn d)) (mmX1_learnSlow (mFn d)) (cuX1_learnSlow (mFn d)) 3 rfl)
set_option maxRecDepth 100000 in
theorem lX1_learnSlow_2 (d : Nat) (x1 : Int32) (S : MS) : mv (kX1_learnSlow (mFn d)) 2 [(0, .ref 35), (1, .int x1)] [] S =
  if (S.1 1 5) ≤ x1 then
    some (none, S)
  else
    bI ((mFn d) 3 [.ref 1, .int x1] S) (fun y1 S1 =>
      if x1 < 0 ∨ 9 ≤ (x1).toNatClampNeg then none else
      mv (kX1_learnSlow (mFn d)) 2 [(0, .ref 35), (1, .int (x1 + 1))] [] (uI S1 36 (x1).toNatClampNeg y1)) := mv_row (mmX1_learnSlow (mFn d)) (cuX1_learnSlow (mFn d)) 16 rfl
theorem cuX1_spread (F : Nat → List Value → MS → Option MR) : mcuts (kX1_spread F) [(3, [0, 1, 2, 3, 4]), (43, [0, 3, 4, 5])] := List.forall_mem_cons.mpr ⟨⟨oIload 4 5, rfl⟩, List.forall_mem_cons.mpr ⟨⟨oIload 5 45, rfl⟩, fun _ h => absurd h List.not_mem_nil⟩⟩
set_option maxRecDepth 100000 in
theorem fX1_spread (d : Nat) (x1 : Int32) (x2 : Int32) (x3 : Int32) (S : MS) : mFn (d + 1) 9 [.ref 35, .int x1, .int x2, .int x3] S =
  mv (kX1_spread (mFn d)) 3 [(0, .ref 35), (1, .int x1), (2, .int x2), (3, .int x3), (4, .int 0)] [] S := (mFn_eq rfl).trans (mv_row (code := kX1_spread (mFn d)) (mmX1_spread (mFn d)) (cuX1_spread (mFn d)) 3 rfl)
set_option maxRecDepth 100000 in
theorem lX1_spread_3 (d : Nat) (x1 : Int32) (x2 : Int32) (x3 : Int32) (x4 : Int32) (S : MS) : mv (kX1_spread (mFn d)) 3 [(0, .ref 35), (1, .int x1), (2, .int x2), (3, .int x3), (4, .int x4)] [] S =
  if 8 ≤ x4 then
    bV ((mFn d) 13 [.ref 35, .int x1, .int 0, .int x2] (uI S 35 4 0)) (fun S1 =>
      mv (kX1_spread (mFn d)) 43 [(0, .ref 35), (3, .int x3), (4, .int x1), (5, .int 0)] [] S1)
  else
    if x4 < 0 ∨ 8 ≤ (x4).toNatClampNeg then none else
    mv (kX1_spread (mFn d)) 3 [(0, .ref 35), (1, .int x1), (2, .int x2), (3, .int x3), (4, .int (x4 + 1))] [] (uI S 37 (x4).toNatClampNeg 1000000) := mv_row (mmX1_spread (mFn d)) (cuX1_spread (mFn d)) 16 rfl
set_option maxRecDepth 100000 in
theorem lX1_spread_43 (d : Nat) (x3 : Int32) (x4 : Int32) (x5 : Int32) (S : MS) : mv (kX1_spread (mFn d)) 43 [(0, .ref 35), (3, .int x3), (4, .int x4), (5, .int x5)] [] S =
  if 8 ≤ x5 then
    some (none, S)
  else
    if x4 < 0 then
      some (none, S)
    else
      if x4 < 0 ∨ 8 ≤ (x4).toNatClampNeg then none else
      bI ((mFn d) 2 [.ref 1, .int x4, .int (S.1 38 (x4).toNatClampNeg)] (uI S 35 4 (fOr (S.1 35 4) (fShl 1 x4)))) (fun y1 S1 =>
        if y1 = 0 then
          bI ((mFn d) 11 [.ref 35] S1) (fun y2 S2 =>
            mv (kX1_spread (mFn d)) 43 [(0, .ref 35), (3, .int x3), (4, .int y2), (5, .int (x5 + 1))] [] S2)
        else
          bV ((mFn d) 12 [.ref 35, .int x4, .int x3] S1) (fun S3 =>
            bI ((mFn d) 11 [.ref 35] S3) (fun y4 S4 =>
              mv (kX1_spread (mFn d)) 43 [(0, .ref 35), (3, .int x3), (4, .int y4), (5, .int (x5 + 1))] [] S4))) := mv_row (mmX1_spread (mFn d)) (cuX1_spread (mFn d)) 32 rfl
theorem cuX1_isHeardAt (F : Nat → List Value → MS → Option MR) : mcuts (kX1_isHeardAt F) [] := fun _ h => absurd h List.not_mem_nil
set_option maxRecDepth 100000 in
theorem fX1_isHeardAt (d : Nat) (x1 : Int32) (S : MS) : mFn (d + 1) 10 [.ref 35, .int x1] S =
  if x1 < 0 ∨ 8 ≤ (x1).toNatClampNeg then none else
  if 1000000 ≤ (S.1 37 (x1).toNatClampNeg) then
    some (some (.int 0), S)
  else
    some (some (.int 1), S) := (mFn_eq rfl).trans (mv_row (code := kX1_isHeardAt (mFn d)) (mmX1_isHeardAt (mFn d)) (cuX1_isHeardAt (mFn d)) 10 rfl)
theorem cuX1_nextToHear (F : Nat → List Value → MS → Option MR) : mcuts (kX1_nextToHear F) [(4, [0, 1, 2])] := List.forall_mem_cons.mpr ⟨⟨oIload 2 5, rfl⟩, fun _ h => absurd h List.not_mem_nil⟩
set_option maxRecDepth 100000 in
theorem fX1_nextToHear (d : Nat) (S : MS) : mFn (d + 1) 11 [.ref 35] S =
  mv (kX1_nextToHear (mFn d)) 4 [(0, .ref 35), (1, .int (-1)), (2, .int 0)] [] S := (mFn_eq rfl).trans (mv_row (code := kX1_nextToHear (mFn d)) (mmX1_nextToHear (mFn d)) (cuX1_nextToHear (mFn d)) 5 rfl)
set_option maxRecDepth 100000 in
theorem lX1_nextToHear_4 (d : Nat) (x1 : Int32) (x2 : Int32) (S : MS) : mv (kX1_nextToHear (mFn d)) 4 [(0, .ref 35), (1, .int x1), (2, .int x2)] [] S =
  if (S.1 1 0) ≤ x2 then
    some (some (.int x1), S)
  else
    if (fAnd (fShr (S.1 35 4) x2) 1) = 0 then
      bI ((mFn d) 10 [.ref 35, .int x2] S) (fun y1 S1 =>
        if y1 = 0 then
          mv (kX1_nextToHear (mFn d)) 4 [(0, .ref 35), (1, .int x1), (2, .int (x2 + 1))] [] S1
        else
          if x1 < 0 then
            mv (kX1_nextToHear (mFn d)) 4 [(0, .ref 35), (1, .int x2), (2, .int (x2 + 1))] [] S1
          else
            if x2 < 0 ∨ 8 ≤ (x2).toNatClampNeg then none else
            if x1 < 0 ∨ 8 ≤ (x1).toNatClampNeg then none else
            if (S1.1 37 (x1).toNatClampNeg) ≤ (S1.1 37 (x2).toNatClampNeg) then
              mv (kX1_nextToHear (mFn d)) 4 [(0, .ref 35), (1, .int x1), (2, .int (x2 + 1))] [] S1
            else
              mv (kX1_nextToHear (mFn d)) 4 [(0, .ref 35), (1, .int x2), (2, .int (x2 + 1))] [] S1)
    else
      mv (kX1_nextToHear (mFn d)) 4 [(0, .ref 35), (1, .int x1), (2, .int (x2 + 1))] [] S := mv_row (mmX1_nextToHear (mFn d)) (cuX1_nextToHear (mFn d)) 32 rfl
theorem cuX1_sayOver (F : Nat → List Value → MS → Option MR) : mcuts (kX1_sayOver F) [(18, [0, 1, 2, 3, 4])] := List.forall_mem_cons.mpr ⟨⟨oIload 4 20, rfl⟩, fun _ h => absurd h List.not_mem_nil⟩
set_option maxRecDepth 100000 in
theorem fX1_sayOver (d : Nat) (x1 : Int32) (x2 : Int32) (S : MS) : mFn (d + 1) 12 [.ref 35, .int x1, .int x2] S =
  if x1 < 0 ∨ 8 ≤ (x1).toNatClampNeg then none else
  bI ((mFn d) 0 [.ref 1, .int x1, .int (S.1 38 (x1).toNatClampNeg)] S) (fun y1 S1 =>
    mv (kX1_sayOver (mFn d)) 18 [(0, .ref 35), (1, .int x1), (2, .int x2), (3, .int y1), (4, .int 0)] [] S1) := (mFn_eq rfl).trans (mv_row (code := kX1_sayOver (mFn d)) (mmX1_sayOver (mFn d)) (cuX1_sayOver (mFn d)) 12 rfl)
set_option maxRecDepth 100000 in
theorem lX1_sayOver_18 (d : Nat) (x1 : Int32) (x2 : Int32) (x3 : Int32) (x4 : Int32) (S : MS) : mv (kX1_sayOver (mFn d)) 18 [(0, .ref 35), (1, .int x1), (2, .int x2), (3, .int x3), (4, .int x4)] [] S =
  if (S.1 1 5) ≤ x4 then
    some (none, S)
  else
    if (fAnd (fShr x2 x4) 1) = 0 then
      mv (kX1_sayOver (mFn d)) 18 [(0, .ref 35), (1, .int x1), (2, .int x2), (3, .int x3), (4, .int (x4 + 1))] [] S
    else
      if x4 < 0 ∨ 9 ≤ (x4).toNatClampNeg then none else
      if (S.1 6 (x4).toNatClampNeg) = x1 then
        if x4 < 0 ∨ 9 ≤ (x4).toNatClampNeg then none else
        if x1 < 0 ∨ 8 ≤ (x1).toNatClampNeg then none else
        if x4 < 0 ∨ 9 ≤ (x4).toNatClampNeg then none else
        bV ((mFn d) 13 [.ref 35, .int (S.1 7 (x4).toNatClampNeg), .int (fAdd (S.1 37 (x1).toNatClampNeg) (S.1 36 (x4).toNatClampNeg)), .int x3] S) (fun S1 =>
          mv (kX1_sayOver (mFn d)) 18 [(0, .ref 35), (1, .int x1), (2, .int x2), (3, .int x3), (4, .int (x4 + 1))] [] S1)
      else
        mv (kX1_sayOver (mFn d)) 18 [(0, .ref 35), (1, .int x1), (2, .int x2), (3, .int x3), (4, .int (x4 + 1))] [] S := mv_row (mmX1_sayOver (mFn d)) (cuX1_sayOver (mFn d)) 38 rfl
theorem cuX1_arrive (F : Nat → List Value → MS → Option MR) : mcuts (kX1_arrive F) [] := fun _ h => absurd h List.not_mem_nil
set_option maxRecDepth 100000 in
theorem fX1_arrive (d : Nat) (x1 : Int32) (x2 : Int32) (x3 : Int32) (S : MS) : mFn (d + 1) 13 [.ref 35, .int x1, .int x2, .int x3] S =
  if x1 < 0 ∨ 8 ≤ (x1).toNatClampNeg then none else
  if (S.1 37 (x1).toNatClampNeg) ≤ x2 then
    if x1 < 0 ∨ 8 ≤ (x1).toNatClampNeg then none else
    if x2 = (S.1 37 (x1).toNatClampNeg) then
      if x1 < 0 ∨ 8 ≤ (x1).toNatClampNeg then none else
      if x1 < 0 ∨ 8 ≤ (x1).toNatClampNeg then none else
      some (none, (uI S 38 (x1).toNatClampNeg (if (S.1 38 (x1).toNatClampNeg) < x3 then x3 else (S.1 38 (x1).toNatClampNeg))))
    else
      some (none, S)
  else
    if x1 < 0 ∨ 8 ≤ (x1).toNatClampNeg then none else
    if x1 < 0 ∨ 8 ≤ (x1).toNatClampNeg then none else
    some (none, (uI (uI S 37 (x1).toNatClampNeg x2) 38 (x1).toNatClampNeg x3)) := (mFn_eq rfl).trans (mv_row (code := kX1_arrive (mFn d)) (mmX1_arrive (mFn d)) (cuX1_arrive (mFn d)) 24 rfl)
theorem cuX2_begin (F : Nat → List Value → MS → Option MR) : mcuts (kX2_begin F) [(12, [0, 3])] := List.forall_mem_cons.mpr ⟨⟨oIload 3 13, rfl⟩, fun _ h => absurd h List.not_mem_nil⟩
set_option maxRecDepth 100000 in
theorem fX2_begin_0 (d : Nat) (x1 : Int32) (x2 : Int32) (S : MS) : mFn (d + 1) 14 [.ref 45, .int x1, .int x2] S =
  mv (kX2_begin (mFn d)) 12 [(0, .ref 45), (3, .int 0)] [] (uI (uI S 45 0 x1) 45 1 x2) := (mFn_eq rfl).trans (mv_row (code := kX2_begin (mFn d)) (mmX2_begin (mFn d)) (cuX2_begin (mFn d)) 9 rfl)
set_option maxRecDepth 100000 in
theorem lX2_begin_0_12 (d : Nat) (x3 : Int32) (S : MS) : mv (kX2_begin (mFn d)) 12 [(0, .ref 45), (3, .int x3)] [] S =
  if 24 ≤ x3 then
    some (none, S)
  else
    if x3 < 0 ∨ 24 ≤ (x3).toNatClampNeg then none else
    mv (kX2_begin (mFn d)) 12 [(0, .ref 45), (3, .int (x3 + 1))] [] (uI S 46 (x3).toNatClampNeg 0) := mv_row (mmX2_begin (mFn d)) (cuX2_begin (mFn d)) 11 rfl
set_option maxRecDepth 100000 in
theorem fX2_begin_1 (d : Nat) (x1 : Int32) (x2 : Int32) (S : MS) : mFn (d + 1) 14 [.ref 47, .int x1, .int x2] S =
  mv (kX2_begin (mFn d)) 12 [(0, .ref 47), (3, .int 0)] [] (uI (uI S 47 0 x1) 47 1 x2) := (mFn_eq rfl).trans (mv_row (code := kX2_begin (mFn d)) (mmX2_begin (mFn d)) (cuX2_begin (mFn d)) 9 rfl)
set_option maxRecDepth 100000 in
theorem lX2_begin_1_12 (d : Nat) (x3 : Int32) (S : MS) : mv (kX2_begin (mFn d)) 12 [(0, .ref 47), (3, .int x3)] [] S =
  if 24 ≤ x3 then
    some (none, S)
  else
    if x3 < 0 ∨ 24 ≤ (x3).toNatClampNeg then none else
    mv (kX2_begin (mFn d)) 12 [(0, .ref 47), (3, .int (x3 + 1))] [] (uI S 48 (x3).toNatClampNeg 0) := mv_row (mmX2_begin (mFn d)) (cuX2_begin (mFn d)) 11 rfl
set_option maxRecDepth 100000 in
theorem fX2_begin_2 (d : Nat) (x1 : Int32) (x2 : Int32) (S : MS) : mFn (d + 1) 14 [.ref 49, .int x1, .int x2] S =
  mv (kX2_begin (mFn d)) 12 [(0, .ref 49), (3, .int 0)] [] (uI (uI S 49 0 x1) 49 1 x2) := (mFn_eq rfl).trans (mv_row (code := kX2_begin (mFn d)) (mmX2_begin (mFn d)) (cuX2_begin (mFn d)) 9 rfl)
set_option maxRecDepth 100000 in
theorem lX2_begin_2_12 (d : Nat) (x3 : Int32) (S : MS) : mv (kX2_begin (mFn d)) 12 [(0, .ref 49), (3, .int x3)] [] S =
  if 24 ≤ x3 then
    some (none, S)
  else
    if x3 < 0 ∨ 24 ≤ (x3).toNatClampNeg then none else
    mv (kX2_begin (mFn d)) 12 [(0, .ref 49), (3, .int (x3 + 1))] [] (uI S 50 (x3).toNatClampNeg 0) := mv_row (mmX2_begin (mFn d)) (cuX2_begin (mFn d)) 11 rfl
set_option maxRecDepth 100000 in
theorem fX2_begin_3 (d : Nat) (x1 : Int32) (x2 : Int32) (S : MS) : mFn (d + 1) 14 [.ref 51, .int x1, .int x2] S =
  mv (kX2_begin (mFn d)) 12 [(0, .ref 51), (3, .int 0)] [] (uI (uI S 51 0 x1) 51 1 x2) := (mFn_eq rfl).trans (mv_row (code := kX2_begin (mFn d)) (mmX2_begin (mFn d)) (cuX2_begin (mFn d)) 9 rfl)
set_option maxRecDepth 100000 in
theorem lX2_begin_3_12 (d : Nat) (x3 : Int32) (S : MS) : mv (kX2_begin (mFn d)) 12 [(0, .ref 51), (3, .int x3)] [] S =
  if 24 ≤ x3 then
    some (none, S)
  else
    if x3 < 0 ∨ 24 ≤ (x3).toNatClampNeg then none else
    mv (kX2_begin (mFn d)) 12 [(0, .ref 51), (3, .int (x3 + 1))] [] (uI S 52 (x3).toNatClampNeg 0) := mv_row (mmX2_begin (mFn d)) (cuX2_begin (mFn d)) 11 rfl
theorem cuX2_isMissing (F : Nat → List Value → MS → Option MR) : mcuts (kX2_isMissing F) [] := fun _ h => absurd h List.not_mem_nil
set_option maxRecDepth 100000 in
theorem fX2_isMissing_0 (d : Nat) (S : MS) : mFn (d + 1) 15 [.ref 45] S =
  if (S.1 45 0) = 0 then
    some (some (.int 1), S)
  else
    some (some (.int 0), S) := (mFn_eq rfl).trans (mv_row (code := kX2_isMissing (mFn d)) (mmX2_isMissing (mFn d)) (cuX2_isMissing (mFn d)) 7 rfl)
set_option maxRecDepth 100000 in
theorem fX2_isMissing_1 (d : Nat) (S : MS) : mFn (d + 1) 15 [.ref 47] S =
  if (S.1 47 0) = 0 then
    some (some (.int 1), S)
  else
    some (some (.int 0), S) := (mFn_eq rfl).trans (mv_row (code := kX2_isMissing (mFn d)) (mmX2_isMissing (mFn d)) (cuX2_isMissing (mFn d)) 7 rfl)
set_option maxRecDepth 100000 in
theorem fX2_isMissing_2 (d : Nat) (S : MS) : mFn (d + 1) 15 [.ref 49] S =
  if (S.1 49 0) = 0 then
    some (some (.int 1), S)
  else
    some (some (.int 0), S) := (mFn_eq rfl).trans (mv_row (code := kX2_isMissing (mFn d)) (mmX2_isMissing (mFn d)) (cuX2_isMissing (mFn d)) 7 rfl)
set_option maxRecDepth 100000 in
theorem fX2_isMissing_3 (d : Nat) (S : MS) : mFn (d + 1) 15 [.ref 51] S =
  if (S.1 51 0) = 0 then
    some (some (.int 1), S)
  else
    some (some (.int 0), S) := (mFn_eq rfl).trans (mv_row (code := kX2_isMissing (mFn d)) (mmX2_isMissing (mFn d)) (cuX2_isMissing (mFn d)) 7 rfl)
theorem cuX2_has (F : Nat → List Value → MS → Option MR) : mcuts (kX2_has F) [] := fun _ h => absurd h List.not_mem_nil
set_option maxRecDepth 100000 in
theorem fX2_has_0 (d : Nat) (x1 : Int32) (x2 : Int32) (S : MS) : mFn (d + 1) 16 [.ref 45, .int x1, .int x2] S =
  if x2 < 0 then
    some (some (.int 0), S)
  else
    if x1 < 0 then
      some (some (.int 0), S)
    else
      if (fSub (S.1 45 1) x1) < x2 then
        some (some (.int 0), S)
      else
        some (some (.int 1), S) := (mFn_eq rfl).trans (mv_row (code := kX2_has (mFn d)) (mmX2_has (mFn d)) (cuX2_has (mFn d)) 14 rfl)
set_option maxRecDepth 100000 in
theorem fX2_has_1 (d : Nat) (x1 : Int32) (x2 : Int32) (S : MS) : mFn (d + 1) 16 [.ref 47, .int x1, .int x2] S =
  if x2 < 0 then
    some (some (.int 0), S)
  else
    if x1 < 0 then
      some (some (.int 0), S)
    else
      if (fSub (S.1 47 1) x1) < x2 then
        some (some (.int 0), S)
      else
        some (some (.int 1), S) := (mFn_eq rfl).trans (mv_row (code := kX2_has (mFn d)) (mmX2_has (mFn d)) (cuX2_has (mFn d)) 14 rfl)
set_option maxRecDepth 100000 in
theorem fX2_has_2 (d : Nat) (x1 : Int32) (x2 : Int32) (S : MS) : mFn (d + 1) 16 [.ref 49, .int x1, .int x2] S =
  if x2 < 0 then
    some (some (.int 0), S)
  else
    if x1 < 0 then
      some (some (.int 0), S)
    else
      if (fSub (S.1 49 1) x1) < x2 then
        some (some (.int 0), S)
      else
        some (some (.int 1), S) := (mFn_eq rfl).trans (mv_row (code := kX2_has (mFn d)) (mmX2_has (mFn d)) (cuX2_has (mFn d)) 14 rfl)
set_option maxRecDepth 100000 in
theorem fX2_has_3 (d : Nat) (x1 : Int32) (x2 : Int32) (S : MS) : mFn (d + 1) 16 [.ref 51, .int x1, .int x2] S =
  if x2 < 0 then
    some (some (.int 0), S)
  else
    if x1 < 0 then
      some (some (.int 0), S)
    else
      if (fSub (S.1 51 1) x1) < x2 then
        some (some (.int 0), S)
      else
        some (some (.int 1), S) := (mFn_eq rfl).trans (mv_row (code := kX2_has (mFn d)) (mmX2_has (mFn d)) (cuX2_has (mFn d)) 14 rfl)
theorem cuX2_lowestBits (F : Nat → List Value → MS → Option MR) : mcuts (kX2_lowestBits F) [] := fun _ h => absurd h List.not_mem_nil
set_option maxRecDepth 100000 in
theorem fX2_lowestBits_0 (d : Nat) (x1 : Int32) (S : MS) : mFn (d + 1) 17 [.ref 45, .int x1] S =
  if (S.1 45 0) = 8 then
    some (some (.int (x1).toInt8.toInt32), S)
  else
    if (S.1 45 0) = 16 then
      some (some (.int (x1).toInt16.toInt32), S)
    else
      some (some (.int x1), S) := (mFn_eq rfl).trans (mv_row (code := kX2_lowestBits (mFn d)) (mmX2_lowestBits (mFn d)) (cuX2_lowestBits (mFn d)) 12 rfl)
set_option maxRecDepth 100000 in
theorem fX2_lowestBits_1 (d : Nat) (x1 : Int32) (S : MS) : mFn (d + 1) 17 [.ref 47, .int x1] S =
  if (S.1 47 0) = 8 then
    some (some (.int (x1).toInt8.toInt32), S)
  else
    if (S.1 47 0) = 16 then
      some (some (.int (x1).toInt16.toInt32), S)
    else
      some (some (.int x1), S) := (mFn_eq rfl).trans (mv_row (code := kX2_lowestBits (mFn d)) (mmX2_lowestBits (mFn d)) (cuX2_lowestBits (mFn d)) 12 rfl)
set_option maxRecDepth 100000 in
theorem fX2_lowestBits_2 (d : Nat) (x1 : Int32) (S : MS) : mFn (d + 1) 17 [.ref 49, .int x1] S =
  if (S.1 49 0) = 8 then
    some (some (.int (x1).toInt8.toInt32), S)
  else
    if (S.1 49 0) = 16 then
      some (some (.int (x1).toInt16.toInt32), S)
    else
      some (some (.int x1), S) := (mFn_eq rfl).trans (mv_row (code := kX2_lowestBits (mFn d)) (mmX2_lowestBits (mFn d)) (cuX2_lowestBits (mFn d)) 12 rfl)
set_option maxRecDepth 100000 in
theorem fX2_lowestBits_3 (d : Nat) (x1 : Int32) (S : MS) : mFn (d + 1) 17 [.ref 51, .int x1] S =
  if (S.1 51 0) = 8 then
    some (some (.int (x1).toInt8.toInt32), S)
  else
    if (S.1 51 0) = 16 then
      some (some (.int (x1).toInt16.toInt32), S)
    else
      some (some (.int x1), S) := (mFn_eq rfl).trans (mv_row (code := kX2_lowestBits (mFn d)) (mmX2_lowestBits (mFn d)) (cuX2_lowestBits (mFn d)) 12 rfl)
theorem cuX3_answer (F : Nat → List Value → MS → Option MR) : mcuts (kX3_answer F) [] := fun _ h => absurd h List.not_mem_nil
set_option maxRecDepth 100000 in
theorem fX3_answer (d : Nat) (x1 : Int32) (x2 : Int32) (x3 : Int32) (S : MS) : mFn (d + 1) 18 [.ref 42, .ref 1, .int x1, .int x2, .int x3] S =
  if x1 < 0 ∨ 8 ≤ (x1).toNatClampNeg then none else
  if x1 < 0 ∨ 8 ≤ (x1).toNatClampNeg then none else
  bI ((mFn d) 19 [.ref 42, .int (S.1 2 (x1).toNatClampNeg), .int x2, .int x3, .int 0] (uI (uI (uI (uI (uI S 42 0 (S.1 2 (x1).toNatClampNeg)) 42 1 x1) 42 2 (S.1 3 (x1).toNatClampNeg)) 42 3 0) 42 5 0)) (fun y1 S1 =>
    some (some (.int y1), S1)) := (mFn_eq rfl).trans (mv_row (code := kX3_answer (mFn d)) (mmX3_answer (mFn d)) (cuX3_answer (mFn d)) 30 rfl)
theorem cuX3_speak (F : Nat → List Value → MS → Option MR) : mcuts (kX3_speak F) [(22, [0, 2, 3, 4, 5, 6])] := List.forall_mem_cons.mpr ⟨⟨oIload 6 24, rfl⟩, fun _ h => absurd h List.not_mem_nil⟩
set_option maxRecDepth 100000 in
theorem fX3_speak (d : Nat) (x1 : Int32) (x2 : Int32) (x3 : Int32) (x4 : Int32) (S : MS) : mFn (d + 1) 19 [.ref 42, .int x1, .int x2, .int x3, .int x4] S =
  if (S.1 42 3) = 0 then
    if x4 < 20 then
      mv (kX3_speak (mFn d)) 22 [(0, .ref 42), (2, .int x2), (3, .int x3), (4, .int x4), (5, .int x1), (6, .int 0)] [] S
    else
      some (some (.int 0), S)
  else
    some (some (.int 0), S) := (mFn_eq rfl).trans (mv_row (code := kX3_speak (mFn d)) (mmX3_speak (mFn d)) (cuX3_speak (mFn d)) 11 rfl)
set_option maxRecDepth 100000 in
theorem lX3_speak_22 (d : Nat) (x2 : Int32) (x3 : Int32) (x4 : Int32) (x5 : Int32) (x6 : Int32) (S : MS) : mv (kX3_speak (mFn d)) 22 [(0, .ref 42), (2, .int x2), (3, .int x3), (4, .int x4), (5, .int x5), (6, .int x6)] [] S =
  if 7 ≤ x6 then
    if (fAdd (fMul 4 x5) x2) < 0 ∨ 28 ≤ ((fAdd (fMul 4 x5) x2)).toNatClampNeg then none else
    bV ((mFn d) 21 [.ref 42, .int (bodiesL.getD ((fAdd (fMul 4 x5) x2)).toNatClampNeg 0)] S) (fun S1 =>
      if x5 < 0 ∨ 7 ≤ (x5).toNatClampNeg then none else
      if (bodiesL.getD ((fAdd (fMul 4 x5) x2)).toNatClampNeg 0) = 10 then
        some (some (.int (fAdd x3 (S1.1 42 1))), S1)
      else if (bodiesL.getD ((fAdd (fMul 4 x5) x2)).toNatClampNeg 0) = 11 then
        bI ((mFn d) 19 [.ref 42, .int (S1.1 42 0), .int 0, .int x3, .int (fAdd x4 1)] S1) (fun y2 S2 =>
          some (some (.int (fMul y2 2)), S2))
      else if (bodiesL.getD ((fAdd (fMul 4 x5) x2)).toNatClampNeg 0) = 12 then
        bI ((mFn d) 19 [.ref 42, .int (S1.1 42 0), .int 1, .int x3, .int (fAdd x4 1)] S1) (fun y3 S3 =>
          some (some (.int (fSub y3 (S3.1 42 2))), S3))
      else if (bodiesL.getD ((fAdd (fMul 4 x5) x2)).toNatClampNeg 0) = 13 then
        bI ((mFn d) 20 [.ref 42, .int x3] S1) (fun y4 S4 =>
          some (some (.int y4), S4))
      else if (bodiesL.getD ((fAdd (fMul 4 x5) x2)).toNatClampNeg 0) = 20 then
        bI ((mFn d) 19 [.ref 42, .int (aboveL.getD (x5).toNatClampNeg 0), .int 0, .int x3, .int (fAdd x4 1)] S1) (fun y5 S5 =>
          some (some (.int (fSub y5 4)), S5))
      else if (bodiesL.getD ((fAdd (fMul 4 x5) x2)).toNatClampNeg 0) = 21 then
        bI ((mFn d) 19 [.ref 42, .int (aboveL.getD (x5).toNatClampNeg 0), .int 3, .int x3, .int (fAdd x4 1)] S1) (fun y6 S6 =>
          bI ((mFn d) 19 [.ref 42, .int (S6.1 42 0), .int 1, .int 1, .int (fAdd x4 1)] S6) (fun y7 S7 =>
            some (some (.int (fAdd y6 y7)), S7)))
      else if (bodiesL.getD ((fAdd (fMul 4 x5) x2)).toNatClampNeg 0) = 30 then
        bI ((mFn d) 19 [.ref 42, .int (aboveL.getD (x5).toNatClampNeg 0), .int 1, .int x3, .int (fAdd x4 1)] S1) (fun y8 S8 =>
          some (some (.int (fSub 0 y8)), S8))
      else if (bodiesL.getD ((fAdd (fMul 4 x5) x2)).toNatClampNeg 0) = 40 then
        if (2 : Int32) = 0 then none else
        bI ((mFn d) 19 [.ref 42, .int (aboveL.getD (x5).toNatClampNeg 0), .int 2, .int (x3 / 2), .int (fAdd x4 1)] S1) (fun y9 S9 =>
          some (some (.int y9), S9))
      else if (bodiesL.getD ((fAdd (fMul 4 x5) x2)).toNatClampNeg 0) = 50 then
        bI ((mFn d) 19 [.ref 42, .int (aboveL.getD (x5).toNatClampNeg 0), .int 0, .int x3, .int (fAdd x4 1)] S1) (fun y10 S10 =>
          some (some (.int (fMul y10 3)), S10))
      else if (bodiesL.getD ((fAdd (fMul 4 x5) x2)).toNatClampNeg 0) = 51 then
        bI ((mFn d) 19 [.ref 42, .int (aboveL.getD (x5).toNatClampNeg 0), .int 2, .int x3, .int (fAdd x4 1)] S1) (fun y11 S11 =>
          some (some (.int (fXor y11 (S11.1 42 1))), S11))
      else if (bodiesL.getD ((fAdd (fMul 4 x5) x2)).toNatClampNeg 0) = 60 then
        bI ((mFn d) 19 [.ref 42, .int (aboveL.getD (x5).toNatClampNeg 0), .int 1, .int (fAdd x3 1), .int (fAdd x4 1)] S1) (fun y12 S12 =>
          some (some (.int y12), S12))
      else if (bodiesL.getD ((fAdd (fMul 4 x5) x2)).toNatClampNeg 0) = 70 then
        some (some (.int 9), S1)
      else if (bodiesL.getD ((fAdd (fMul 4 x5) x2)).toNatClampNeg 0) = 71 then
        bI ((mFn d) 19 [.ref 42, .int (aboveL.getD (x5).toNatClampNeg 0), .int 1, .int x3, .int (fAdd x4 1)] S1) (fun y13 S13 =>
          some (some (.int (fAdd y13 (S13.1 42 2))), S13))
      else 
        some (some (.int 0), S1))
  else
    if (fAdd (fMul 4 x5) x2) < 0 ∨ 28 ≤ ((fAdd (fMul 4 x5) x2)).toNatClampNeg then none else
    if (bodiesL.getD ((fAdd (fMul 4 x5) x2)).toNatClampNeg 0) = 0 then
      if x5 < 0 ∨ 7 ≤ (x5).toNatClampNeg then none else
      mv (kX3_speak (mFn d)) 22 [(0, .ref 42), (2, .int x2), (3, .int x3), (4, .int x4), (5, .int (aboveL.getD (x5).toNatClampNeg 0)), (6, .int (x6 + 1))] [] S
    else
      if (fAdd (fMul 4 x5) x2) < 0 ∨ 28 ≤ ((fAdd (fMul 4 x5) x2)).toNatClampNeg then none else
      bV ((mFn d) 21 [.ref 42, .int (bodiesL.getD ((fAdd (fMul 4 x5) x2)).toNatClampNeg 0)] S) (fun S14 =>
        if x5 < 0 ∨ 7 ≤ (x5).toNatClampNeg then none else
        if (bodiesL.getD ((fAdd (fMul 4 x5) x2)).toNatClampNeg 0) = 10 then
          some (some (.int (fAdd x3 (S14.1 42 1))), S14)
        else if (bodiesL.getD ((fAdd (fMul 4 x5) x2)).toNatClampNeg 0) = 11 then
          bI ((mFn d) 19 [.ref 42, .int (S14.1 42 0), .int 0, .int x3, .int (fAdd x4 1)] S14) (fun y15 S15 =>
            some (some (.int (fMul y15 2)), S15))
        else if (bodiesL.getD ((fAdd (fMul 4 x5) x2)).toNatClampNeg 0) = 12 then
          bI ((mFn d) 19 [.ref 42, .int (S14.1 42 0), .int 1, .int x3, .int (fAdd x4 1)] S14) (fun y16 S16 =>
            some (some (.int (fSub y16 (S16.1 42 2))), S16))
        else if (bodiesL.getD ((fAdd (fMul 4 x5) x2)).toNatClampNeg 0) = 13 then
          bI ((mFn d) 20 [.ref 42, .int x3] S14) (fun y17 S17 =>
            some (some (.int y17), S17))
        else if (bodiesL.getD ((fAdd (fMul 4 x5) x2)).toNatClampNeg 0) = 20 then
          bI ((mFn d) 19 [.ref 42, .int (aboveL.getD (x5).toNatClampNeg 0), .int 0, .int x3, .int (fAdd x4 1)] S14) (fun y18 S18 =>
            some (some (.int (fSub y18 4)), S18))
        else if (bodiesL.getD ((fAdd (fMul 4 x5) x2)).toNatClampNeg 0) = 21 then
          bI ((mFn d) 19 [.ref 42, .int (aboveL.getD (x5).toNatClampNeg 0), .int 3, .int x3, .int (fAdd x4 1)] S14) (fun y19 S19 =>
            bI ((mFn d) 19 [.ref 42, .int (S19.1 42 0), .int 1, .int 1, .int (fAdd x4 1)] S19) (fun y20 S20 =>
              some (some (.int (fAdd y19 y20)), S20)))
        else if (bodiesL.getD ((fAdd (fMul 4 x5) x2)).toNatClampNeg 0) = 30 then
          bI ((mFn d) 19 [.ref 42, .int (aboveL.getD (x5).toNatClampNeg 0), .int 1, .int x3, .int (fAdd x4 1)] S14) (fun y21 S21 =>
            some (some (.int (fSub 0 y21)), S21))
        else if (bodiesL.getD ((fAdd (fMul 4 x5) x2)).toNatClampNeg 0) = 40 then
          if (2 : Int32) = 0 then none else
          bI ((mFn d) 19 [.ref 42, .int (aboveL.getD (x5).toNatClampNeg 0), .int 2, .int (x3 / 2), .int (fAdd x4 1)] S14) (fun y22 S22 =>
            some (some (.int y22), S22))
        else if (bodiesL.getD ((fAdd (fMul 4 x5) x2)).toNatClampNeg 0) = 50 then
          bI ((mFn d) 19 [.ref 42, .int (aboveL.getD (x5).toNatClampNeg 0), .int 0, .int x3, .int (fAdd x4 1)] S14) (fun y23 S23 =>
            some (some (.int (fMul y23 3)), S23))
        else if (bodiesL.getD ((fAdd (fMul 4 x5) x2)).toNatClampNeg 0) = 51 then
          bI ((mFn d) 19 [.ref 42, .int (aboveL.getD (x5).toNatClampNeg 0), .int 2, .int x3, .int (fAdd x4 1)] S14) (fun y24 S24 =>
            some (some (.int (fXor y24 (S24.1 42 1))), S24))
        else if (bodiesL.getD ((fAdd (fMul 4 x5) x2)).toNatClampNeg 0) = 60 then
          bI ((mFn d) 19 [.ref 42, .int (aboveL.getD (x5).toNatClampNeg 0), .int 1, .int (fAdd x3 1), .int (fAdd x4 1)] S14) (fun y25 S25 =>
            some (some (.int y25), S25))
        else if (bodiesL.getD ((fAdd (fMul 4 x5) x2)).toNatClampNeg 0) = 70 then
          some (some (.int 9), S14)
        else if (bodiesL.getD ((fAdd (fMul 4 x5) x2)).toNatClampNeg 0) = 71 then
          bI ((mFn d) 19 [.ref 42, .int (aboveL.getD (x5).toNatClampNeg 0), .int 1, .int x3, .int (fAdd x4 1)] S14) (fun y26 S26 =>
            some (some (.int (fAdd y26 (S26.1 42 2))), S26))
        else 
          some (some (.int 0), S14)) := mv_row (mmX3_speak (mFn d)) (cuX3_speak (mFn d)) 48 rfl
theorem cuX3_part (F : Nat → List Value → MS → Option MR) : mcuts (kX3_part F) [] := fun _ h => absurd h List.not_mem_nil
set_option maxRecDepth 100000 in
theorem fX3_part (d : Nat) (x1 : Int32) (S : MS) : mFn (d + 1) 20 [.ref 42, .int x1] S =
  if (fSub (S.1 42 2) (S.1 42 1)) = 0 then
    some (some (.int 0), (uI S 42 3 1))
  else
    if (fSub (S.1 42 2) (S.1 42 1)) = 0 then none else
    some (some (.int (x1 / (fSub (S.1 42 2) (S.1 42 1)))), S) := (mFn_eq rfl).trans (mv_row (code := kX3_part (mFn d)) (mmX3_part (mFn d)) (cuX3_part (mFn d)) 14 rfl)
theorem cuX3_begin (F : Nat → List Value → MS → Option MR) : mcuts (kX3_begin F) [] := fun _ h => absurd h List.not_mem_nil
set_option maxRecDepth 100000 in
theorem fX3_begin (d : Nat) (x1 : Int32) (S : MS) : mFn (d + 1) 21 [.ref 42, .int x1] S =
  if (S.1 42 5) < 30 then
    if (S.1 42 5) < 0 ∨ 30 ≤ ((S.1 42 5)).toNatClampNeg then none else
    some (none, (uI (uI S 43 ((S.1 42 5)).toNatClampNeg x1) 42 5 (fAdd (S.1 42 5) 1)))
  else
    some (none, S) := (mFn_eq rfl).trans (mv_row (code := kX3_begin (mFn d)) (mmX3_begin (mFn d)) (cuX3_begin (mFn d)) 18 rfl)
theorem cuX4_copyFrom (F : Nat → List Value → MS → Option MR) : mcuts (kX4_copyFrom F) [] := fun _ h => absurd h List.not_mem_nil
set_option maxRecDepth 100000 in
theorem fX4_copyFrom_12_39 (d : Nat) (S : MS) : mFn (d + 1) 22 [.ref 12, .ref 39] S =
  if (S.1 39 0) = 0 ∨ (S.1 39 0) = 1 then
    if (0 : Int32) < 0 ∨ (0 : Int32) < 0 ∨ (60 : Int32) < 0 ∨ 60 < ((0 : Int32)).toNatClampNeg + ((60 : Int32)).toNatClampNeg ∨ 60 < ((0 : Int32)).toNatClampNeg + ((60 : Int32)).toNatClampNeg then none else
    some (none, (uC (uI (uI S 12 0 (S.1 39 0)) 12 1 (S.1 39 1)) 40 13 ((0 : Int32)).toNatClampNeg ((0 : Int32)).toNatClampNeg ((60 : Int32)).toNatClampNeg))
  else none := (mFn_eq rfl).trans (mv_row (code := kX4_copyFrom (mFn d)) (mmX4_copyFrom (mFn d)) (cuX4_copyFrom (mFn d)) 18 rfl)
set_option maxRecDepth 100000 in
theorem fX4_copyFrom_15_39 (d : Nat) (S : MS) : mFn (d + 1) 22 [.ref 15, .ref 39] S =
  if (S.1 39 0) = 0 ∨ (S.1 39 0) = 1 then
    if (0 : Int32) < 0 ∨ (0 : Int32) < 0 ∨ (60 : Int32) < 0 ∨ 60 < ((0 : Int32)).toNatClampNeg + ((60 : Int32)).toNatClampNeg ∨ 60 < ((0 : Int32)).toNatClampNeg + ((60 : Int32)).toNatClampNeg then none else
    some (none, (uC (uI (uI S 15 0 (S.1 39 0)) 15 1 (S.1 39 1)) 40 16 ((0 : Int32)).toNatClampNeg ((0 : Int32)).toNatClampNeg ((60 : Int32)).toNatClampNeg))
  else none := (mFn_eq rfl).trans (mv_row (code := kX4_copyFrom (mFn d)) (mmX4_copyFrom (mFn d)) (cuX4_copyFrom (mFn d)) 18 rfl)
set_option maxRecDepth 100000 in
theorem fX4_copyFrom_12_29 (d : Nat) (S : MS) : mFn (d + 1) 22 [.ref 12, .ref 29] S =
  if (S.1 29 0) = 0 ∨ (S.1 29 0) = 1 then
    if (0 : Int32) < 0 ∨ (0 : Int32) < 0 ∨ (60 : Int32) < 0 ∨ 60 < ((0 : Int32)).toNatClampNeg + ((60 : Int32)).toNatClampNeg ∨ 60 < ((0 : Int32)).toNatClampNeg + ((60 : Int32)).toNatClampNeg then none else
    some (none, (uC (uI (uI S 12 0 (S.1 29 0)) 12 1 (S.1 29 1)) 30 13 ((0 : Int32)).toNatClampNeg ((0 : Int32)).toNatClampNeg ((60 : Int32)).toNatClampNeg))
  else none := (mFn_eq rfl).trans (mv_row (code := kX4_copyFrom (mFn d)) (mmX4_copyFrom (mFn d)) (cuX4_copyFrom (mFn d)) 18 rfl)
set_option maxRecDepth 100000 in
theorem fX4_copyFrom_15_32 (d : Nat) (S : MS) : mFn (d + 1) 22 [.ref 15, .ref 32] S =
  if (S.1 32 0) = 0 ∨ (S.1 32 0) = 1 then
    if (0 : Int32) < 0 ∨ (0 : Int32) < 0 ∨ (60 : Int32) < 0 ∨ 60 < ((0 : Int32)).toNatClampNeg + ((60 : Int32)).toNatClampNeg ∨ 60 < ((0 : Int32)).toNatClampNeg + ((60 : Int32)).toNatClampNeg then none else
    some (none, (uC (uI (uI S 15 0 (S.1 32 0)) 15 1 (S.1 32 1)) 33 16 ((0 : Int32)).toNatClampNeg ((0 : Int32)).toNatClampNeg ((60 : Int32)).toNatClampNeg))
  else none := (mFn_eq rfl).trans (mv_row (code := kX4_copyFrom (mFn d)) (mmX4_copyFrom (mFn d)) (cuX4_copyFrom (mFn d)) 18 rfl)
set_option maxRecDepth 100000 in
theorem fX4_copyFrom_29_12 (d : Nat) (S : MS) : mFn (d + 1) 22 [.ref 29, .ref 12] S =
  if (S.1 12 0) = 0 ∨ (S.1 12 0) = 1 then
    if (0 : Int32) < 0 ∨ (0 : Int32) < 0 ∨ (60 : Int32) < 0 ∨ 60 < ((0 : Int32)).toNatClampNeg + ((60 : Int32)).toNatClampNeg ∨ 60 < ((0 : Int32)).toNatClampNeg + ((60 : Int32)).toNatClampNeg then none else
    some (none, (uC (uI (uI S 29 0 (S.1 12 0)) 29 1 (S.1 12 1)) 13 30 ((0 : Int32)).toNatClampNeg ((0 : Int32)).toNatClampNeg ((60 : Int32)).toNatClampNeg))
  else none := (mFn_eq rfl).trans (mv_row (code := kX4_copyFrom (mFn d)) (mmX4_copyFrom (mFn d)) (cuX4_copyFrom (mFn d)) 18 rfl)
set_option maxRecDepth 100000 in
theorem fX4_copyFrom_32_15 (d : Nat) (S : MS) : mFn (d + 1) 22 [.ref 32, .ref 15] S =
  if (S.1 15 0) = 0 ∨ (S.1 15 0) = 1 then
    if (0 : Int32) < 0 ∨ (0 : Int32) < 0 ∨ (60 : Int32) < 0 ∨ 60 < ((0 : Int32)).toNatClampNeg + ((60 : Int32)).toNatClampNeg ∨ 60 < ((0 : Int32)).toNatClampNeg + ((60 : Int32)).toNatClampNeg then none else
    some (none, (uC (uI (uI S 32 0 (S.1 15 0)) 32 1 (S.1 15 1)) 16 33 ((0 : Int32)).toNatClampNeg ((0 : Int32)).toNatClampNeg ((60 : Int32)).toNatClampNeg))
  else none := (mFn_eq rfl).trans (mv_row (code := kX4_copyFrom (mFn d)) (mmX4_copyFrom (mFn d)) (cuX4_copyFrom (mFn d)) 18 rfl)
theorem cuX4_value (F : Nat → List Value → MS → Option MR) : mcuts (kX4_value F) [(6, [0, 1, 2, 3, 4, 5]), (81, [0, 1, 2, 3, 4, 5, 6])] := List.forall_mem_cons.mpr ⟨⟨oIload 5 8, rfl⟩, List.forall_mem_cons.mpr ⟨⟨oAload 0 82, rfl⟩, fun _ h => absurd h List.not_mem_nil⟩⟩
set_option maxRecDepth 100000 in
theorem fX4_value_0 (d : Nat) (x1 : Int32) (x2 : Int32) (x3 : Int32) (S : MS) : mFn (d + 1) 23 [.ref 12, .int x1, .int x2, .int x3] S =
  mv (kX4_value (mFn d)) 6 [(0, .ref 12), (1, .int x1), (2, .int x2), (3, .int x3), (4, .int 0), (5, .int 0)] [] S := (mFn_eq rfl).trans (mv_row (code := kX4_value (mFn d)) (mmX4_value (mFn d)) (cuX4_value (mFn d)) 5 rfl)
set_option maxRecDepth 100000 in
theorem lX4_value_0_6 (d : Nat) (x1 : Int32) (x2 : Int32) (x3 : Int32) (x4 : Int32) (x5 : Int32) (S : MS) : mv (kX4_value (mFn d)) 6 [(0, .ref 12), (1, .int x1), (2, .int x2), (3, .int x3), (4, .int x4), (5, .int x5)] [] S =
  if (S.1 12 1) ≤ x5 then
    if x4 ≤ 0 then
      some (some (.int 0), S)
    else
      if (0 : Int32) < 0 ∨ 60 ≤ ((0 : Int32)).toNatClampNeg then none else
      some (some (.int (S.1 14 ((0 : Int32)).toNatClampNeg)), S)
  else
    if x5 < 0 ∨ 60 ≤ (x5).toNatClampNeg then none else
    if (S.1 13 (x5).toNatClampNeg) = 100033 then
      if x4 ≤ 0 then
        mv (kX4_value (mFn d)) 6 [(0, .ref 12), (1, .int x1), (2, .int x2), (3, .int x3), (4, .int x4), (5, .int (x5 + 1))] [] S
      else
        if (fSub x4 1) < 0 ∨ 60 ≤ ((fSub x4 1)).toNatClampNeg then none else
        if (S.1 14 ((fSub x4 1)).toNatClampNeg) = 0 then
          if (fSub x4 1) < 0 ∨ 60 ≤ ((fSub x4 1)).toNatClampNeg then none else
          mv (kX4_value (mFn d)) 6 [(0, .ref 12), (1, .int x1), (2, .int x2), (3, .int x3), (4, .int x4), (5, .int (x5 + 1))] [] (uI S 14 ((fSub x4 1)).toNatClampNeg 1)
        else
          if (fSub x4 1) < 0 ∨ 60 ≤ ((fSub x4 1)).toNatClampNeg then none else
          mv (kX4_value (mFn d)) 6 [(0, .ref 12), (1, .int x1), (2, .int x2), (3, .int x3), (4, .int x4), (5, .int (x5 + 1))] [] (uI S 14 ((fSub x4 1)).toNatClampNeg 0)
    else
      if (S.1 13 (x5).toNatClampNeg) < 100000 then
        if 60 ≤ x4 then
          mv (kX4_value (mFn d)) 6 [(0, .ref 12), (1, .int x1), (2, .int x2), (3, .int x3), (4, .int x4), (5, .int (x5 + 1))] [] S
        else
          if (S.1 13 (x5).toNatClampNeg) < 0 then
            if (S.1 13 (x5).toNatClampNeg) = (-1) then
              if x4 < 0 ∨ 60 ≤ (x4).toNatClampNeg then none else
              mv (kX4_value (mFn d)) 6 [(0, .ref 12), (1, .int x1), (2, .int x2), (3, .int x3), (4, .int (x4 + 1)), (5, .int (x5 + 1))] [] (uI S 14 (x4).toNatClampNeg x1)
            else
              if (S.1 13 (x5).toNatClampNeg) = (-2) then
                if x4 < 0 ∨ 60 ≤ (x4).toNatClampNeg then none else
                mv (kX4_value (mFn d)) 6 [(0, .ref 12), (1, .int x1), (2, .int x2), (3, .int x3), (4, .int (x4 + 1)), (5, .int (x5 + 1))] [] (uI S 14 (x4).toNatClampNeg x2)
              else
                if x4 < 0 ∨ 60 ≤ (x4).toNatClampNeg then none else
                mv (kX4_value (mFn d)) 6 [(0, .ref 12), (1, .int x1), (2, .int x2), (3, .int x3), (4, .int (x4 + 1)), (5, .int (x5 + 1))] [] (uI S 14 (x4).toNatClampNeg x3)
          else
            if x4 < 0 ∨ 60 ≤ (x4).toNatClampNeg then none else
            mv (kX4_value (mFn d)) 6 [(0, .ref 12), (1, .int x1), (2, .int x2), (3, .int x3), (4, .int (x4 + 1)), (5, .int (x5 + 1))] [] (uI S 14 (x4).toNatClampNeg (S.1 13 (x5).toNatClampNeg))
      else
        if x4 ≤ 1 then
          mv (kX4_value (mFn d)) 6 [(0, .ref 12), (1, .int x1), (2, .int x2), (3, .int x3), (4, .int x4), (5, .int (x5 + 1))] [] S
        else
          mv (kX4_value (mFn d)) 81 [(0, .ref 12), (1, .int x1), (2, .int x2), (3, .int x3), (4, .int (x4 + (-1))), (5, .int x5), (6, .int (S.1 13 (x5).toNatClampNeg))] [] S := mv_row (mmX4_value (mFn d)) (cuX4_value (mFn d)) 36 rfl
set_option maxRecDepth 100000 in
theorem lX4_value_0_81 (d : Nat) (x1 : Int32) (x2 : Int32) (x3 : Int32) (x4 : Int32) (x5 : Int32) (x6 : Int32) (S : MS) : mv (kX4_value (mFn d)) 81 [(0, .ref 12), (1, .int x1), (2, .int x2), (3, .int x3), (4, .int x4), (5, .int x5), (6, .int x6)] [] S =
  if (fSub x4 1) < 0 ∨ 60 ≤ ((fSub x4 1)).toNatClampNeg then none else
  if x4 < 0 ∨ 60 ≤ (x4).toNatClampNeg then none else
  bI ((mFn d) 24 [.int (fSub x6 100000), .int (S.1 14 ((fSub x4 1)).toNatClampNeg), .int (S.1 14 (x4).toNatClampNeg)] S) (fun y1 S1 =>
    if (fSub x4 1) < 0 ∨ 60 ≤ ((fSub x4 1)).toNatClampNeg then none else
    mv (kX4_value (mFn d)) 6 [(0, .ref 12), (1, .int x1), (2, .int x2), (3, .int x3), (4, .int x4), (5, .int (x5 + 1))] [] (uI S1 14 ((fSub x4 1)).toNatClampNeg y1)) := mv_row (mmX4_value (mFn d)) (cuX4_value (mFn d)) 24 rfl
set_option maxRecDepth 100000 in
theorem fX4_value_1 (d : Nat) (x1 : Int32) (x2 : Int32) (x3 : Int32) (S : MS) : mFn (d + 1) 23 [.ref 15, .int x1, .int x2, .int x3] S =
  mv (kX4_value (mFn d)) 6 [(0, .ref 15), (1, .int x1), (2, .int x2), (3, .int x3), (4, .int 0), (5, .int 0)] [] S := (mFn_eq rfl).trans (mv_row (code := kX4_value (mFn d)) (mmX4_value (mFn d)) (cuX4_value (mFn d)) 5 rfl)
set_option maxRecDepth 100000 in
theorem lX4_value_1_6 (d : Nat) (x1 : Int32) (x2 : Int32) (x3 : Int32) (x4 : Int32) (x5 : Int32) (S : MS) : mv (kX4_value (mFn d)) 6 [(0, .ref 15), (1, .int x1), (2, .int x2), (3, .int x3), (4, .int x4), (5, .int x5)] [] S =
  if (S.1 15 1) ≤ x5 then
    if x4 ≤ 0 then
      some (some (.int 0), S)
    else
      if (0 : Int32) < 0 ∨ 60 ≤ ((0 : Int32)).toNatClampNeg then none else
      some (some (.int (S.1 17 ((0 : Int32)).toNatClampNeg)), S)
  else
    if x5 < 0 ∨ 60 ≤ (x5).toNatClampNeg then none else
    if (S.1 16 (x5).toNatClampNeg) = 100033 then
      if x4 ≤ 0 then
        mv (kX4_value (mFn d)) 6 [(0, .ref 15), (1, .int x1), (2, .int x2), (3, .int x3), (4, .int x4), (5, .int (x5 + 1))] [] S
      else
        if (fSub x4 1) < 0 ∨ 60 ≤ ((fSub x4 1)).toNatClampNeg then none else
        if (S.1 17 ((fSub x4 1)).toNatClampNeg) = 0 then
          if (fSub x4 1) < 0 ∨ 60 ≤ ((fSub x4 1)).toNatClampNeg then none else
          mv (kX4_value (mFn d)) 6 [(0, .ref 15), (1, .int x1), (2, .int x2), (3, .int x3), (4, .int x4), (5, .int (x5 + 1))] [] (uI S 17 ((fSub x4 1)).toNatClampNeg 1)
        else
          if (fSub x4 1) < 0 ∨ 60 ≤ ((fSub x4 1)).toNatClampNeg then none else
          mv (kX4_value (mFn d)) 6 [(0, .ref 15), (1, .int x1), (2, .int x2), (3, .int x3), (4, .int x4), (5, .int (x5 + 1))] [] (uI S 17 ((fSub x4 1)).toNatClampNeg 0)
    else
      if (S.1 16 (x5).toNatClampNeg) < 100000 then
        if 60 ≤ x4 then
          mv (kX4_value (mFn d)) 6 [(0, .ref 15), (1, .int x1), (2, .int x2), (3, .int x3), (4, .int x4), (5, .int (x5 + 1))] [] S
        else
          if (S.1 16 (x5).toNatClampNeg) < 0 then
            if (S.1 16 (x5).toNatClampNeg) = (-1) then
              if x4 < 0 ∨ 60 ≤ (x4).toNatClampNeg then none else
              mv (kX4_value (mFn d)) 6 [(0, .ref 15), (1, .int x1), (2, .int x2), (3, .int x3), (4, .int (x4 + 1)), (5, .int (x5 + 1))] [] (uI S 17 (x4).toNatClampNeg x1)
            else
              if (S.1 16 (x5).toNatClampNeg) = (-2) then
                if x4 < 0 ∨ 60 ≤ (x4).toNatClampNeg then none else
                mv (kX4_value (mFn d)) 6 [(0, .ref 15), (1, .int x1), (2, .int x2), (3, .int x3), (4, .int (x4 + 1)), (5, .int (x5 + 1))] [] (uI S 17 (x4).toNatClampNeg x2)
              else
                if x4 < 0 ∨ 60 ≤ (x4).toNatClampNeg then none else
                mv (kX4_value (mFn d)) 6 [(0, .ref 15), (1, .int x1), (2, .int x2), (3, .int x3), (4, .int (x4 + 1)), (5, .int (x5 + 1))] [] (uI S 17 (x4).toNatClampNeg x3)
          else
            if x4 < 0 ∨ 60 ≤ (x4).toNatClampNeg then none else
            mv (kX4_value (mFn d)) 6 [(0, .ref 15), (1, .int x1), (2, .int x2), (3, .int x3), (4, .int (x4 + 1)), (5, .int (x5 + 1))] [] (uI S 17 (x4).toNatClampNeg (S.1 16 (x5).toNatClampNeg))
      else
        if x4 ≤ 1 then
          mv (kX4_value (mFn d)) 6 [(0, .ref 15), (1, .int x1), (2, .int x2), (3, .int x3), (4, .int x4), (5, .int (x5 + 1))] [] S
        else
          mv (kX4_value (mFn d)) 81 [(0, .ref 15), (1, .int x1), (2, .int x2), (3, .int x3), (4, .int (x4 + (-1))), (5, .int x5), (6, .int (S.1 16 (x5).toNatClampNeg))] [] S := mv_row (mmX4_value (mFn d)) (cuX4_value (mFn d)) 36 rfl
set_option maxRecDepth 100000 in
theorem lX4_value_1_81 (d : Nat) (x1 : Int32) (x2 : Int32) (x3 : Int32) (x4 : Int32) (x5 : Int32) (x6 : Int32) (S : MS) : mv (kX4_value (mFn d)) 81 [(0, .ref 15), (1, .int x1), (2, .int x2), (3, .int x3), (4, .int x4), (5, .int x5), (6, .int x6)] [] S =
  if (fSub x4 1) < 0 ∨ 60 ≤ ((fSub x4 1)).toNatClampNeg then none else
  if x4 < 0 ∨ 60 ≤ (x4).toNatClampNeg then none else
  bI ((mFn d) 24 [.int (fSub x6 100000), .int (S.1 17 ((fSub x4 1)).toNatClampNeg), .int (S.1 17 (x4).toNatClampNeg)] S) (fun y1 S1 =>
    if (fSub x4 1) < 0 ∨ 60 ≤ ((fSub x4 1)).toNatClampNeg then none else
    mv (kX4_value (mFn d)) 6 [(0, .ref 15), (1, .int x1), (2, .int x2), (3, .int x3), (4, .int x4), (5, .int (x5 + 1))] [] (uI S1 17 ((fSub x4 1)).toNatClampNeg y1)) := mv_row (mmX4_value (mFn d)) (cuX4_value (mFn d)) 24 rfl
theorem cuX4_joined (F : Nat → List Value → MS → Option MR) : mcuts (kX4_joined F) [] := fun _ h => absurd h List.not_mem_nil
set_option maxRecDepth 100000 in
theorem fX4_joined (d : Nat) (x1 : Int32) (x2 : Int32) (x3 : Int32) (S : MS) : mFn (d + 1) 24 [.int x1, .int x2, .int x3] S =
  if x1 = 37 then
    if x3 = 0 then
      some (some (.int 0), S)
    else
      if x3 = 0 then none else
      some (some (.int (x2 - x2 / x3 * x3)), S)
  else if x1 = 38 then
    if x2 = 0 then
      some (some (.int 0), S)
    else
      if x3 = 0 then
        some (some (.int 0), S)
      else
        some (some (.int 1), S)
  else if x1 = 39 then
    if x2 = 0 then
      if x3 = 0 then
        some (some (.int 0), S)
      else
        some (some (.int 1), S)
    else
      some (some (.int 1), S)
  else if x1 = 40 then
    if x2 = 0 then
      if x3 = 0 then
        some (some (.int 0), S)
      else
        some (some (.int 1), S)
    else
      some (some (.int 1), S)
  else if x1 = 41 then
    if x2 = 0 then
      if x3 = 0 then
        some (some (.int 0), S)
      else
        some (some (.int 1), S)
    else
      some (some (.int 1), S)
  else if x1 = 42 then
    some (some (.int (fMul x2 x3)), S)
  else if x1 = 43 then
    some (some (.int (fAdd x2 x3)), S)
  else if x1 = 44 then
    if x2 = 0 then
      if x3 = 0 then
        some (some (.int 0), S)
      else
        some (some (.int 1), S)
    else
      some (some (.int 1), S)
  else if x1 = 45 then
    some (some (.int (fSub x2 x3)), S)
  else if x1 = 46 then
    if x2 = 0 then
      if x3 = 0 then
        some (some (.int 0), S)
      else
        some (some (.int 1), S)
    else
      some (some (.int 1), S)
  else if x1 = 47 then
    if x3 = 0 then
      some (some (.int 0), S)
    else
      if x3 = 0 then none else
      some (some (.int (x2 / x3)), S)
  else if x1 = 48 then
    if x2 = 0 then
      if x3 = 0 then
        some (some (.int 0), S)
      else
        some (some (.int 1), S)
    else
      some (some (.int 1), S)
  else if x1 = 49 then
    if x2 = 0 then
      if x3 = 0 then
        some (some (.int 0), S)
      else
        some (some (.int 1), S)
    else
      some (some (.int 1), S)
  else if x1 = 50 then
    if x2 = 0 then
      if x3 = 0 then
        some (some (.int 0), S)
      else
        some (some (.int 1), S)
    else
      some (some (.int 1), S)
  else if x1 = 51 then
    if x2 = 0 then
      if x3 = 0 then
        some (some (.int 0), S)
      else
        some (some (.int 1), S)
    else
      some (some (.int 1), S)
  else if x1 = 52 then
    if x2 = 0 then
      if x3 = 0 then
        some (some (.int 0), S)
      else
        some (some (.int 1), S)
    else
      some (some (.int 1), S)
  else if x1 = 53 then
    if x2 = 0 then
      if x3 = 0 then
        some (some (.int 0), S)
      else
        some (some (.int 1), S)
    else
      some (some (.int 1), S)
  else if x1 = 54 then
    if x2 = 0 then
      if x3 = 0 then
        some (some (.int 0), S)
      else
        some (some (.int 1), S)
    else
      some (some (.int 1), S)
  else if x1 = 55 then
    if x2 = 0 then
      if x3 = 0 then
        some (some (.int 0), S)
      else
        some (some (.int 1), S)
    else
      some (some (.int 1), S)
  else if x1 = 56 then
    if x2 = 0 then
      if x3 = 0 then
        some (some (.int 0), S)
      else
        some (some (.int 1), S)
    else
      some (some (.int 1), S)
  else if x1 = 57 then
    if x2 = 0 then
      if x3 = 0 then
        some (some (.int 0), S)
      else
        some (some (.int 1), S)
    else
      some (some (.int 1), S)
  else if x1 = 58 then
    if x2 = 0 then
      if x3 = 0 then
        some (some (.int 0), S)
      else
        some (some (.int 1), S)
    else
      some (some (.int 1), S)
  else if x1 = 59 then
    if x2 = 0 then
      if x3 = 0 then
        some (some (.int 0), S)
      else
        some (some (.int 1), S)
    else
      some (some (.int 1), S)
  else if x1 = 60 then
    if x3 ≤ x2 then
      some (some (.int 0), S)
    else
      some (some (.int 1), S)
  else if x1 = 61 then
    if x2 = x3 then
      some (some (.int 1), S)
    else
      some (some (.int 0), S)
  else if x1 = 62 then
    if x2 ≤ x3 then
      some (some (.int 0), S)
    else
      some (some (.int 1), S)
  else 
    if x2 = 0 then
      if x3 = 0 then
        some (some (.int 0), S)
      else
        some (some (.int 1), S)
    else
      some (some (.int 1), S) := (mFn_eq rfl).trans (mv_row (code := kX4_joined (mFn d)) (mmX4_joined (mFn d)) (cuX4_joined (mFn d)) 10 rfl)
theorem cuX4_read (F : Nat → List Value → MS → Option MR) : mcuts (kX4_read F) [] := fun _ h => absurd h List.not_mem_nil
set_option maxRecDepth 100000 in
theorem fX4_read_0 (d : Nat) (x1 : Int32) (S : MS) : mFn (d + 1) 25 [.ref 39, .ref 9, .int x1, .ref 1003] S =
  bV ((mFn d) 26 [.ref 39, .int 0, .int 0] (uI (uI (uI (uR (uI (uR S 39 4 (some 9)) 39 5 x1) 39 8 (some 1003)) 39 6 0) 39 1 0) 39 7 0)) (fun S1 =>
    if (S1.1 39 5) ≤ (S1.1 39 6) then
      if (S1.1 39 7) = 0 then
        if (S1.1 39 7) = 0 then
          some (some (.int (-1)), (uI S1 39 0 1))
        else
          some (some (.int (S1.1 39 6)), (uI S1 39 0 1))
      else
        if (S1.1 39 7) = 0 then
          some (some (.int (-1)), (uI S1 39 0 0))
        else
          some (some (.int (S1.1 39 6)), (uI S1 39 0 0))
    else
      some (some (.int (S1.1 39 6)), (uI (uI S1 39 7 1) 39 0 0))) := (mFn_eq rfl).trans (mv_row (code := kX4_read (mFn d)) (mmX4_read (mFn d)) (cuX4_read (mFn d)) 44 rfl)
set_option maxRecDepth 100000 in
theorem fX4_read_1 (d : Nat) (x1 : Int32) (S : MS) : mFn (d + 1) 25 [.ref 39, .ref 9, .int x1, .ref 1004] S =
  bV ((mFn d) 26 [.ref 39, .int 0, .int 0] (uI (uI (uI (uR (uI (uR S 39 4 (some 9)) 39 5 x1) 39 8 (some 1004)) 39 6 0) 39 1 0) 39 7 0)) (fun S1 =>
    if (S1.1 39 5) ≤ (S1.1 39 6) then
      if (S1.1 39 7) = 0 then
        if (S1.1 39 7) = 0 then
          some (some (.int (-1)), (uI S1 39 0 1))
        else
          some (some (.int (S1.1 39 6)), (uI S1 39 0 1))
      else
        if (S1.1 39 7) = 0 then
          some (some (.int (-1)), (uI S1 39 0 0))
        else
          some (some (.int (S1.1 39 6)), (uI S1 39 0 0))
    else
      some (some (.int (S1.1 39 6)), (uI (uI S1 39 7 1) 39 0 0))) := (mFn_eq rfl).trans (mv_row (code := kX4_read (mFn d)) (mmX4_read (mFn d)) (cuX4_read (mFn d)) 44 rfl)
theorem cuX4_readLevel (F : Nat → List Value → MS → Option MR) : mcuts (kX4_readLevel F) [(28, [0, 1, 2, 3, 4])] := List.forall_mem_cons.mpr ⟨⟨oIload 4 30, rfl⟩, fun _ h => absurd h List.not_mem_nil⟩
set_option maxRecDepth 100000 in
theorem fX4_readLevel (d : Nat) (x1 : Int32) (x2 : Int32) (q : Nat) (S : MS) : mFn (d + 1) 26 [.ref 39, .int x1, .int x2] (rho S q) =
  if x1 = 5 then
    bV ((mFn d) 27 [.ref 39, .int x2] (rho S q)) (fun S1 =>
      some (none, S1))
  else
    bV ((mFn d) 26 [.ref 39, .int (fAdd x1 1), .int x2] (rho S q)) (fun S2 =>
      bI ((mFn d) 32 [.ref 39, .int x1] S2) (fun y3 S3 =>
        mv (kX4_readLevel (mFn d)) 28 [(0, .ref 39), (1, .int x1), (2, .int x2), (3, .int y3), (4, .int 0)] [] S3)) := (mFn_eq rfl).trans (mv_row (code := kX4_readLevel (mFn d)) (mmX4_readLevel (mFn d)) (cuX4_readLevel (mFn d)) 16 rfl)
set_option maxRecDepth 100000 in
theorem lX4_readLevel_28 (d : Nat) (x1 : Int32) (x2 : Int32) (x3 : Int32) (x4 : Int32) (q : Nat) (S : MS) : mv (kX4_readLevel (mFn d)) 28 [(0, .ref 39), (1, .int x1), (2, .int x2), (3, .int x3), (4, .int x4)] [] (rho S q) =
  if 60 ≤ x4 then
    some (none, (rho S q))
  else
    if x3 = 0 then
      some (none, (rho S q))
    else
      bV ((mFn d) 26 [.ref 39, .int (fAdd x1 1), .int x2] (rho S q)) (fun S1 =>
        bV ((mFn d) 34 [.ref 39, .int (fAdd 100000 x3)] S1) (fun S2 =>
          if x1 = 2 then
            mv (kX4_readLevel (mFn d)) 28 [(0, .ref 39), (1, .int x1), (2, .int x2), (3, .int 0), (4, .int (x4 + 1))] [] S2
          else
            bI ((mFn d) 32 [.ref 39, .int x1] S2) (fun y3 S3 =>
              mv (kX4_readLevel (mFn d)) 28 [(0, .ref 39), (1, .int x1), (2, .int x2), (3, .int y3), (4, .int (x4 + 1))] [] S3))) := mv_row (mmX4_readLevel (mFn d)) (cuX4_readLevel (mFn d)) 26 rfl
theorem cuX4_readPart (F : Nat → List Value → MS → Option MR) : mcuts (kX4_readPart F) [] := fun _ h => absurd h List.not_mem_nil
set_option maxRecDepth 100000 in
theorem fX4_readPart (d : Nat) (x1 : Int32) (q : Nat) (S : MS) : mFn (d + 1) 27 [.ref 39, .int x1] (rho S q) =
  if ((rho S q).1 39 7) = 0 then
    bI ((mFn d) 31 [.ref 39] (rho S q)) (fun y1 S1 =>
      if y1 < 48 then
        if y1 = 33 then
          bV ((mFn d) 30 [.ref 39, .int y1, .int x1] S1) (fun S2 =>
            some (none, S2))
        else
          if y1 = 40 then
            bV ((mFn d) 30 [.ref 39, .int y1, .int x1] S1) (fun S3 =>
              some (none, S3))
          else
            bV ((mFn d) 29 [.ref 39, .int y1] S1) (fun S4 =>
              some (none, S4))
      else
        if 57 < y1 then
          if y1 = 33 then
            bV ((mFn d) 30 [.ref 39, .int y1, .int x1] S1) (fun S5 =>
              some (none, S5))
          else
            if y1 = 40 then
              bV ((mFn d) 30 [.ref 39, .int y1, .int x1] S1) (fun S6 =>
                some (none, S6))
            else
              bV ((mFn d) 29 [.ref 39, .int y1] S1) (fun S7 =>
                some (none, S7))
        else
          bV ((mFn d) 28 [.ref 39] S1) (fun S8 =>
            some (none, S8)))
  else
    some (none, (rho S q)) := (mFn_eq rfl).trans (mv_row (code := kX4_readPart (mFn d)) (mmX4_readPart (mFn d)) (cuX4_readPart (mFn d)) 25 rfl)
theorem cuX4_readNumber (F : Nat → List Value → MS → Option MR) : mcuts (kX4_readNumber F) [(4, [0, 1, 2])] := List.forall_mem_cons.mpr ⟨⟨oIload 2 5, rfl⟩, fun _ h => absurd h List.not_mem_nil⟩
set_option maxRecDepth 100000 in
theorem fX4_readNumber (d : Nat) (q : Nat) (S : MS) : mFn (d + 1) 28 [.ref 39] (rho S q) =
  mv (kX4_readNumber (mFn d)) 4 [(0, .ref 39), (1, .int 0), (2, .int 0)] [] (rho S q) := (mFn_eq rfl).trans (mv_row (code := kX4_readNumber (mFn d)) (mmX4_readNumber (mFn d)) (cuX4_readNumber (mFn d)) 5 rfl)
set_option maxRecDepth 100000 in
theorem lX4_readNumber_4 (d : Nat) (x1 : Int32) (x2 : Int32) (q : Nat) (S : MS) : mv (kX4_readNumber (mFn d)) 4 [(0, .ref 39), (1, .int x1), (2, .int x2)] [] (rho S q) =
  if 4 ≤ x2 then
    bV ((mFn d) 34 [.ref 39, .int x1] (rho S q)) (fun S1 =>
      some (none, S1))
  else
    bI ((mFn d) 31 [.ref 39] (rho S q)) (fun y2 S2 =>
      if y2 < 48 then
        bV ((mFn d) 34 [.ref 39, .int x1] S2) (fun S3 =>
          some (none, S3))
      else
        bI ((mFn d) 31 [.ref 39] S2) (fun y4 S4 =>
          if 57 < y4 then
            bV ((mFn d) 34 [.ref 39, .int x1] S4) (fun S5 =>
              some (none, S5))
          else
            bI ((mFn d) 31 [.ref 39] S4) (fun y6 S6 =>
              mv (kX4_readNumber (mFn d)) 4 [(0, .ref 39), (1, .int (fSub (fAdd (fMul 10 x1) y6) 48)), (2, .int (x2 + 1))] [] (uI S6 39 6 (fAdd (S6.1 39 6) 1))))) := mv_row (mmX4_readNumber (mFn d)) (cuX4_readNumber (mFn d)) 29 rfl
theorem cuX4_readName (F : Nat → List Value → MS → Option MR) : mcuts (kX4_readName F) [] := fun _ h => absurd h List.not_mem_nil
set_option maxRecDepth 100000 in
theorem fX4_readName (d : Nat) (x1 : Int32) (q : Nat) (S : MS) : mFn (d + 1) 29 [.ref 39, .int x1] (rho S q) =
  if 0 ≤ x1 then
    bif (Nat.beq q 1003 || Nat.beq q 1004) && true then
      bI ((mFn d) 176 [.ref q, .int ((x1).toUInt32 % 65536).toInt32] (rho S q)) (fun y1 S1 =>
      if 0 ≤ y1 then
        bV ((mFn d) 34 [.ref 39, .int (fSub (-1) y1)] (uI S1 39 6 (fAdd (S1.1 39 6) 1))) (fun S2 =>
          some (none, S2))
      else
        some (none, (uI S1 39 7 1)))
    else none
  else
    some (none, (uI (rho S q) 39 7 1)) := (mFn_eq rfl).trans (mv_row (code := kX4_readName (mFn d)) (mmX4_readName (mFn d)) (cuX4_readName (mFn d)) 23 rfl)
theorem cuX4_readOpened (F : Nat → List Value → MS → Option MR) : mcuts (kX4_readOpened F) [] := fun _ h => absurd h List.not_mem_nil
set_option maxRecDepth 100000 in
theorem fX4_readOpened (d : Nat) (x1 : Int32) (x2 : Int32) (q : Nat) (S : MS) : mFn (d + 1) 30 [.ref 39, .int x1, .int x2] (rho S q) =
  if x2 < 5 then
    if x1 = 33 then
      bV ((mFn d) 27 [.ref 39, .int (fAdd x2 1)] (uI (rho S q) 39 6 (fAdd ((rho S q).1 39 6) 1))) (fun S1 =>
        bV ((mFn d) 34 [.ref 39, .int 100033] S1) (fun S2 =>
          some (none, S2)))
    else
      bV ((mFn d) 26 [.ref 39, .int 0, .int (fAdd x2 1)] (uI (rho S q) 39 6 (fAdd ((rho S q).1 39 6) 1))) (fun S3 =>
        if (S3.1 39 7) = 0 then
          bI ((mFn d) 31 [.ref 39] S3) (fun y4 S4 =>
            if y4 = 41 then
              some (none, (uI S4 39 6 (fAdd (S4.1 39 6) 1)))
            else
              some (none, (uI S4 39 7 1)))
        else
          some (none, (uI S3 39 7 1)))
  else
    some (none, (uI (rho S q) 39 7 1)) := (mFn_eq rfl).trans (mv_row (code := kX4_readOpened (mFn d)) (mmX4_readOpened (mFn d)) (cuX4_readOpened (mFn d)) 34 rfl)
theorem cuX4_peek (F : Nat → List Value → MS → Option MR) : mcuts (kX4_peek F) [] := fun _ h => absurd h List.not_mem_nil
set_option maxRecDepth 100000 in
theorem fX4_peek (d : Nat) (q : Nat) (S : MS) : mFn (d + 1) 31 [.ref 39] (rho S q) =
  if ((rho S q).1 39 5) ≤ ((rho S q).1 39 6) then
    some (some (.int (-1)), (rho S q))
  else
    if ((rho S q).1 39 6) < 0 ∨ 60 ≤ (((rho S q).1 39 6)).toNatClampNeg then none else
    some (some (.int ((rho S q).1 9 (((rho S q).1 39 6)).toNatClampNeg)), (rho S q)) := (mFn_eq rfl).trans (mv_row (code := kX4_peek (mFn d)) (mmX4_peek (mFn d)) (cuX4_peek (mFn d)) 13 rfl)
theorem cuX4_takeSign (F : Nat → List Value → MS → Option MR) : mcuts (kX4_takeSign F) [] := fun _ h => absurd h List.not_mem_nil
set_option maxRecDepth 100000 in
theorem fX4_takeSign (d : Nat) (x1 : Int32) (q : Nat) (S : MS) : mFn (d + 1) 32 [.ref 39, .int x1] (rho S q) =
  bI ((mFn d) 31 [.ref 39] (rho S q)) (fun y1 S1 =>
    if (S1.1 39 7) = 0 then
      bI ((mFn d) 33 [.int y1] S1) (fun y2 S2 =>
        if y2 = x1 then
          some (some (.int y1), (uI S2 39 6 (fAdd (S2.1 39 6) 1)))
        else
          some (some (.int 0), S2))
    else
      some (some (.int 0), S1)) := (mFn_eq rfl).trans (mv_row (code := kX4_takeSign (mFn d)) (mmX4_takeSign (mFn d)) (cuX4_takeSign (mFn d)) 19 rfl)
theorem cuX4_levelOf (F : Nat → List Value → MS → Option MR) : mcuts (kX4_levelOf F) [] := fun _ h => absurd h List.not_mem_nil
set_option maxRecDepth 100000 in
theorem fX4_levelOf (d : Nat) (x1 : Int32) (S : MS) : mFn (d + 1) 33 [.int x1] S =
  if x1 = 37 then
    some (some (.int 4), S)
  else if x1 = 38 then
    some (some (.int 1), S)
  else if x1 = 42 then
    some (some (.int 4), S)
  else if x1 = 43 then
    some (some (.int 3), S)
  else if x1 = 45 then
    some (some (.int 3), S)
  else if x1 = 47 then
    some (some (.int 4), S)
  else if x1 = 60 then
    some (some (.int 2), S)
  else if x1 = 61 then
    some (some (.int 2), S)
  else if x1 = 62 then
    some (some (.int 2), S)
  else if x1 = 124 then
    some (some (.int 0), S)
  else 
    some (some (.int 5), S) := (mFn_eq rfl).trans (mv_row (code := kX4_levelOf (mFn d)) (mmX4_levelOf (mFn d)) (cuX4_levelOf (mFn d)) 5 rfl)
theorem cuX4_addStep (F : Nat → List Value → MS → Option MR) : mcuts (kX4_addStep F) [] := fun _ h => absurd h List.not_mem_nil
set_option maxRecDepth 100000 in
theorem fX4_addStep (d : Nat) (x1 : Int32) (q : Nat) (S : MS) : mFn (d + 1) 34 [.ref 39, .int x1] (rho S q) =
  if ((rho S q).1 39 7) = 0 then
    if ((rho S q).1 39 1) < 60 then
      if ((rho S q).1 39 1) < 0 ∨ 60 ≤ (((rho S q).1 39 1)).toNatClampNeg then none else
      some (none, (uI (uI (rho S q) 40 (((rho S q).1 39 1)).toNatClampNeg x1) 39 1 (fAdd ((rho S q).1 39 1) 1)))
    else
      some (none, (rho S q))
  else
    some (none, (rho S q)) := (mFn_eq rfl).trans (mv_row (code := kX4_addStep (mFn d)) (mmX4_addStep (mFn d)) (cuX4_addStep (mFn d)) 21 rfl)
theorem cuJ0_indexOf_0f7a4 (F : Nat → List Value → MS → Option MR) : mcuts (kJ0_indexOf_0f7a4 F) [] := fun _ h => absurd h List.not_mem_nil
set_option maxRecDepth 100000 in
theorem fJ0_indexOf_0f7a4_0 (d : Nat) (x1 : Int32) (S : MS) : mFn (d + 1) 176 [.ref 1003, .int x1] S =
  bI ((mFn d) 177 [.ref 1003, .int x1, .int 0] S) (fun y1 S1 =>
    some (some (.int y1), S1)) := (mFn_eq rfl).trans (mv_row (code := kJ0_indexOf_0f7a4 (mFn d)) (mmJ0_indexOf_0f7a4 (mFn d)) (cuJ0_indexOf_0f7a4 (mFn d)) 6 rfl)
set_option maxRecDepth 100000 in
theorem fJ0_indexOf_0f7a4_1 (d : Nat) (x1 : Int32) (S : MS) : mFn (d + 1) 176 [.ref 1004, .int x1] S =
  bI ((mFn d) 177 [.ref 1004, .int x1, .int 0] S) (fun y1 S1 =>
    some (some (.int y1), S1)) := (mFn_eq rfl).trans (mv_row (code := kJ0_indexOf_0f7a4 (mFn d)) (mmJ0_indexOf_0f7a4 (mFn d)) (cuJ0_indexOf_0f7a4 (mFn d)) 6 rfl)
theorem cuJ0_indexOf_7cf53 (F : Nat → List Value → MS → Option MR) : mcuts (kJ0_indexOf_7cf53 F) [] := fun _ h => absurd h List.not_mem_nil
set_option maxRecDepth 100000 in
theorem fJ0_indexOf_7cf53_0 (d : Nat) (x1 : Int32) (x2 : Int32) (S : MS) : mFn (d + 1) 177 [.ref 1003, .int x1, .int x2] S =
  bI ((mFn d) 178 [.ref 1003] S) (fun y1 S1 =>
    if y1 = 0 then
      bI ((mFn d) 179 [.ref 1003] S1) (fun y2 S2 =>
        none)
    else
      bI ((mFn d) 179 [.ref 1003] S1) (fun y3 S3 =>
        bI ((mFn d) 182 [.ref 1005, .int x1, .int x2, .int y3] S3) (fun y4 S4 =>
          some (some (.int y4), S4)))) := (mFn_eq rfl).trans (mv_row (code := kJ0_indexOf_7cf53 (mFn d)) (mmJ0_indexOf_7cf53 (mFn d)) (cuJ0_indexOf_7cf53 (mFn d)) 13 rfl)
set_option maxRecDepth 100000 in
theorem fJ0_indexOf_7cf53_1 (d : Nat) (x1 : Int32) (x2 : Int32) (S : MS) : mFn (d + 1) 177 [.ref 1004, .int x1, .int x2] S =
  bI ((mFn d) 178 [.ref 1004] S) (fun y1 S1 =>
    if y1 = 0 then
      bI ((mFn d) 179 [.ref 1004] S1) (fun y2 S2 =>
        none)
    else
      bI ((mFn d) 179 [.ref 1004] S1) (fun y3 S3 =>
        bI ((mFn d) 182 [.ref 1006, .int x1, .int x2, .int y3] S3) (fun y4 S4 =>
          some (some (.int y4), S4)))) := (mFn_eq rfl).trans (mv_row (code := kJ0_indexOf_7cf53 (mFn d)) (mmJ0_indexOf_7cf53 (mFn d)) (cuJ0_indexOf_7cf53 (mFn d)) 13 rfl)
theorem cuJ0_isLatin1_aae02 (F : Nat → List Value → MS → Option MR) : mcuts (kJ0_isLatin1_aae02 F) [] := fun _ h => absurd h List.not_mem_nil
set_option maxRecDepth 100000 in
theorem fJ0_isLatin1_aae02_0 (d : Nat) (S : MS) : mFn (d + 1) 178 [.ref 1003] S =
  some (some (.int 1), S) := (mFn_eq rfl).trans (mv_row (code := kJ0_isLatin1_aae02 (mFn d)) (mmJ0_isLatin1_aae02 (mFn d)) (cuJ0_isLatin1_aae02 (mFn d)) 9 rfl)
set_option maxRecDepth 100000 in
theorem fJ0_isLatin1_aae02_1 (d : Nat) (S : MS) : mFn (d + 1) 178 [.ref 1004] S =
  some (some (.int 1), S) := (mFn_eq rfl).trans (mv_row (code := kJ0_isLatin1_aae02 (mFn d)) (mmJ0_isLatin1_aae02 (mFn d)) (cuJ0_isLatin1_aae02 (mFn d)) 9 rfl)
theorem cuJ0_length_8abf5 (F : Nat → List Value → MS → Option MR) : mcuts (kJ0_length_8abf5 F) [] := fun _ h => absurd h List.not_mem_nil
set_option maxRecDepth 100000 in
theorem fJ0_length_8abf5_0 (d : Nat) (S : MS) : mFn (d + 1) 179 [.ref 1003] S =
  bI ((mFn d) 180 [.ref 1003] S) (fun y1 S1 =>
    some (some (.int (fShr 3 y1)), S1)) := (mFn_eq rfl).trans (mv_row (code := kJ0_length_8abf5 (mFn d)) (mmJ0_length_8abf5 (mFn d)) (cuJ0_length_8abf5 (mFn d)) 8 rfl)
set_option maxRecDepth 100000 in
theorem fJ0_length_8abf5_1 (d : Nat) (S : MS) : mFn (d + 1) 179 [.ref 1004] S =
  bI ((mFn d) 180 [.ref 1004] S) (fun y1 S1 =>
    some (some (.int (fShr 3 y1)), S1)) := (mFn_eq rfl).trans (mv_row (code := kJ0_length_8abf5 (mFn d)) (mmJ0_length_8abf5 (mFn d)) (cuJ0_length_8abf5 (mFn d)) 8 rfl)
theorem cuJ0_coder_7d493 (F : Nat → List Value → MS → Option MR) : mcuts (kJ0_coder_7d493 F) [] := fun _ h => absurd h List.not_mem_nil
set_option maxRecDepth 100000 in
theorem fJ0_coder_7d493_0 (d : Nat) (S : MS) : mFn (d + 1) 180 [.ref 1003] S =
  some (some (.int 0), S) := (mFn_eq rfl).trans (mv_row (code := kJ0_coder_7d493 (mFn d)) (mmJ0_coder_7d493 (mFn d)) (cuJ0_coder_7d493 (mFn d)) 7 rfl)
set_option maxRecDepth 100000 in
theorem fJ0_coder_7d493_1 (d : Nat) (S : MS) : mFn (d + 1) 180 [.ref 1004] S =
  some (some (.int 0), S) := (mFn_eq rfl).trans (mv_row (code := kJ0_coder_7d493 (mFn d)) (mmJ0_coder_7d493 (mFn d)) (cuJ0_coder_7d493 (mFn d)) 7 rfl)
theorem cuJ1_canEncode_9a6ad (F : Nat → List Value → MS → Option MR) : mcuts (kJ1_canEncode_9a6ad F) [] := fun _ h => absurd h List.not_mem_nil
set_option maxRecDepth 100000 in
theorem fJ1_canEncode_9a6ad (d : Nat) (x1 : Int32) (S : MS) : mFn (d + 1) 181 [.int x1] S =
  if x1 < 0 then
    some (some (.int 0), S)
  else
    if 255 < x1 then
      some (some (.int 0), S)
    else
      some (some (.int 1), S) := (mFn_eq rfl).trans (mv_row (code := kJ1_canEncode_9a6ad (mFn d)) (mmJ1_canEncode_9a6ad (mFn d)) (cuJ1_canEncode_9a6ad (mFn d)) 9 rfl)
theorem cuJ1_indexOf_4cfef (F : Nat → List Value → MS → Option MR) : mcuts (kJ1_indexOf_4cfef F) [] := fun _ h => absurd h List.not_mem_nil
set_option maxRecDepth 100000 in
theorem fJ1_indexOf_4cfef_0 (d : Nat) (x1 : Int32) (x2 : Int32) (x3 : Int32) (S : MS) : mFn (d + 1) 182 [.ref 1005, .int x1, .int x2, .int x3] S =
  bI ((mFn d) 181 [.int x1] S) (fun y1 S1 =>
    if y1 = 0 then
      some (some (.int (-1)), S1)
    else
      if (if x2 < 0 then 0 else x2) < (if (3 : Int32) < x3 then 3 else x3) then
        bI ((mFn d) 183 [.ref 1005, .int x1, .int (if x2 < 0 then 0 else x2), .int (if (3 : Int32) < x3 then 3 else x3)] S1) (fun y2 S2 =>
          some (some (.int y2), S2))
      else
        some (some (.int (-1)), S1)) := (mFn_eq rfl).trans (mv_row (code := kJ1_indexOf_4cfef (mFn d)) (mmJ1_indexOf_4cfef (mFn d)) (cuJ1_indexOf_4cfef (mFn d)) 22 rfl)
set_option maxRecDepth 100000 in
theorem fJ1_indexOf_4cfef_1 (d : Nat) (x1 : Int32) (x2 : Int32) (x3 : Int32) (S : MS) : mFn (d + 1) 182 [.ref 1006, .int x1, .int x2, .int x3] S =
  bI ((mFn d) 181 [.int x1] S) (fun y1 S1 =>
    if y1 = 0 then
      some (some (.int (-1)), S1)
    else
      if (if x2 < 0 then 0 else x2) < (if (3 : Int32) < x3 then 3 else x3) then
        bI ((mFn d) 183 [.ref 1006, .int x1, .int (if x2 < 0 then 0 else x2), .int (if (3 : Int32) < x3 then 3 else x3)] S1) (fun y2 S2 =>
          some (some (.int y2), S2))
      else
        some (some (.int (-1)), S1)) := (mFn_eq rfl).trans (mv_row (code := kJ1_indexOf_4cfef (mFn d)) (mmJ1_indexOf_4cfef (mFn d)) (cuJ1_indexOf_4cfef (mFn d)) 22 rfl)
theorem cuJ1_indexOfChar_4cfef (F : Nat → List Value → MS → Option MR) : mcuts (kJ1_indexOfChar_4cfef F) [(7, [0, 3, 4, 5])] := List.forall_mem_cons.mpr ⟨⟨oIload 5 9, rfl⟩, fun _ h => absurd h List.not_mem_nil⟩
set_option maxRecDepth 100000 in
theorem fJ1_indexOfChar_4cfef_0 (d : Nat) (x1 : Int32) (x2 : Int32) (x3 : Int32) (S : MS) : mFn (d + 1) 183 [.ref 1005, .int x1, .int x2, .int x3] S =
  mv (kJ1_indexOfChar_4cfef (mFn d)) 7 [(0, .ref 1005), (3, .int x3), (4, .int (x1).toInt8.toInt32), (5, .int x2)] [] S := (mFn_eq rfl).trans (mv_row (code := kJ1_indexOfChar_4cfef (mFn d)) (mmJ1_indexOfChar_4cfef (mFn d)) (cuJ1_indexOfChar_4cfef (mFn d)) 6 rfl)
set_option maxRecDepth 100000 in
theorem lJ1_indexOfChar_4cfef_0_7 (d : Nat) (x3 : Int32) (x4 : Int32) (x5 : Int32) (S : MS) : mv (kJ1_indexOfChar_4cfef (mFn d)) 7 [(0, .ref 1005), (3, .int x3), (4, .int x4), (5, .int x5)] [] S =
  if x3 ≤ x5 then
    some (some (.int (-1)), S)
  else
    if x5 < 0 ∨ 3 ≤ (x5).toNatClampNeg then none else
    if ((strB.getD 0 []).getD (x5).toNatClampNeg 0) = x4 then
      some (some (.int x5), S)
    else
      mv (kJ1_indexOfChar_4cfef (mFn d)) 7 [(0, .ref 1005), (3, .int x3), (4, .int x4), (5, .int (x5 + 1))] [] S := mv_row (mmJ1_indexOfChar_4cfef (mFn d)) (cuJ1_indexOfChar_4cfef (mFn d)) 11 rfl
set_option maxRecDepth 100000 in
theorem fJ1_indexOfChar_4cfef_1 (d : Nat) (x1 : Int32) (x2 : Int32) (x3 : Int32) (S : MS) : mFn (d + 1) 183 [.ref 1006, .int x1, .int x2, .int x3] S =
  mv (kJ1_indexOfChar_4cfef (mFn d)) 7 [(0, .ref 1006), (3, .int x3), (4, .int (x1).toInt8.toInt32), (5, .int x2)] [] S := (mFn_eq rfl).trans (mv_row (code := kJ1_indexOfChar_4cfef (mFn d)) (mmJ1_indexOfChar_4cfef (mFn d)) (cuJ1_indexOfChar_4cfef (mFn d)) 6 rfl)
set_option maxRecDepth 100000 in
theorem lJ1_indexOfChar_4cfef_1_7 (d : Nat) (x3 : Int32) (x4 : Int32) (x5 : Int32) (S : MS) : mv (kJ1_indexOfChar_4cfef (mFn d)) 7 [(0, .ref 1006), (3, .int x3), (4, .int x4), (5, .int x5)] [] S =
  if x3 ≤ x5 then
    some (some (.int (-1)), S)
  else
    if x5 < 0 ∨ 3 ≤ (x5).toNatClampNeg then none else
    if ((strB.getD 1 []).getD (x5).toNatClampNeg 0) = x4 then
      some (some (.int x5), S)
    else
      mv (kJ1_indexOfChar_4cfef (mFn d)) 7 [(0, .ref 1006), (3, .int x3), (4, .int x4), (5, .int (x5 + 1))] [] S := mv_row (mmJ1_indexOfChar_4cfef (mFn d)) (cuJ1_indexOfChar_4cfef (mFn d)) 11 rfl
theorem cuJ6_bitCount_0f7a4 (F : Nat → List Value → MS → Option MR) : mcuts (kJ6_bitCount_0f7a4 F) [] := fun _ h => absurd h List.not_mem_nil
set_option maxRecDepth 100000 in
theorem fJ6_bitCount_0f7a4 (d : Nat) (x1 : Int32) (S : MS) : mFn (d + 1) 184 [.int x1] S =
  some (some (.int (fAnd (fAdd (fAdd (fAnd (fAdd (fAdd (fAnd (fSub x1 (fAnd (fUshr x1 1) 1431655765)) 858993459) (fAnd (fUshr (fSub x1 (fAnd (fUshr x1 1) 1431655765)) 2) 858993459)) (fUshr (fAdd (fAnd (fSub x1 (fAnd (fUshr x1 1) 1431655765)) 858993459) (fAnd (fUshr (fSub x1 (fAnd (fUshr x1 1) 1431655765)) 2) 858993459)) 4)) 252645135) (fUshr (fAnd (fAdd (fAdd (fAnd (fSub x1 (fAnd (fUshr x1 1) 1431655765)) 858993459) (fAnd (fUshr (fSub x1 (fAnd (fUshr x1 1) 1431655765)) 2) 858993459)) (fUshr (fAdd (fAnd (fSub x1 (fAnd (fUshr x1 1) 1431655765)) 858993459) (fAnd (fUshr (fSub x1 (fAnd (fUshr x1 1) 1431655765)) 2) 858993459)) 4)) 252645135) 8)) (fUshr (fAdd (fAnd (fAdd (fAdd (fAnd (fSub x1 (fAnd (fUshr x1 1) 1431655765)) 858993459) (fAnd (fUshr (fSub x1 (fAnd (fUshr x1 1) 1431655765)) 2) 858993459)) (fUshr (fAdd (fAnd (fSub x1 (fAnd (fUshr x1 1) 1431655765)) 858993459) (fAnd (fUshr (fSub x1 (fAnd (fUshr x1 1) 1431655765)) 2) 858993459)) 4)) 252645135) (fUshr (fAnd (fAdd (fAdd (fAnd (fSub x1 (fAnd (fUshr x1 1) 1431655765)) 858993459) (fAnd (fUshr (fSub x1 (fAnd (fUshr x1 1) 1431655765)) 2) 858993459)) (fUshr (fAdd (fAnd (fSub x1 (fAnd (fUshr x1 1) 1431655765)) 858993459) (fAnd (fUshr (fSub x1 (fAnd (fUshr x1 1) 1431655765)) 2) 858993459)) 4)) 252645135) 8)) 16)) 63)), S) := (mFn_eq rfl).trans (mv_row (code := kJ6_bitCount_0f7a4 (mFn d)) (mmJ6_bitCount_0f7a4 (mFn d)) (cuJ6_bitCount_0f7a4 (mFn d)) 43 rfl)
