/-! ===== rows: FountainTalkModel ===== -/
theorem cuX6_error (F : Nat → List Value → MS → Option MR) : mcuts (kX6_error F) [] := fun _ h => absurd h List.not_mem_nil
set_option maxRecDepth 100000 in
theorem fX6_error (d : Nat) (x1 : Int32) (S : MS) : mFn (d + 1) 86 [.ref 54, .int x1] S =
  if (fSub (-1000000000) x1) < 0 ∨ 7 ≤ ((fSub (-1000000000) x1)).toNatClampNeg then none else
  if (fSub (-1000000000) x1) < 0 ∨ 7 ≤ ((fSub (-1000000000) x1)).toNatClampNeg then none else
  some (some (.int x1), (uI S 57 ((fSub (-1000000000) x1)).toNatClampNeg (fAdd (S.1 57 ((fSub (-1000000000) x1)).toNatClampNeg) 1))) := by
  have g : ∀ c : Int32, mrs (mv (kX6_error (mFn d))) [(0, oAload 0 1), (1, oGetR 6 3 4), (4, oPush c 6), (6, oIload 1 7), (7, oBin fSub 8), (8, oDup2 9), (9, oIald 10), (10, oPush 1 11), (11, oBin fAdd 12), (12, oIast 13), (13, oIload 1 14), (14, oIret)] [] 12 0 [(0, .ref 54), (1, .int x1)] [] S = (if (fSub c x1) < 0 ∨ 7 ≤ ((fSub c x1)).toNatClampNeg then none else
  if (fSub c x1) < 0 ∨ 7 ≤ ((fSub c x1)).toNatClampNeg then none else
  some (some (.int x1), (uI S 57 ((fSub c x1)).toNatClampNeg (fAdd (S.1 57 ((fSub c x1)).toNatClampNeg) 1)))) := fun c => rfl
  exact (mFn_eq rfl).trans (mv_row (code := kX6_error (mFn d)) (mmX6_error (mFn d)) (cuX6_error (mFn d)) 12 (g (-1000000000)))
theorem cuX6_in (F : Nat → List Value → MS → Option MR) : mcuts (kX6_in F) [] := fun _ h => absurd h List.not_mem_nil
set_option maxRecDepth 100000 in
theorem fX6_in (d : Nat) (x1 : Int32) (x2 : Int32) (x3 : Int32) (S : MS) : mFn (d + 1) 87 [.int x1, .int x2, .int x3] S =
  if x1 < x2 then
    some (some (.int 0), S)
  else
    if x3 < x1 then
      some (some (.int 0), S)
    else
      some (some (.int 1), S) := (mFn_eq rfl).trans (mv_row (code := kX6_in (mFn d)) (mmX6_in (mFn d)) (cuX6_in (mFn d)) 10 rfl)
theorem cuX6_held (F : Nat → List Value → MS → Option MR) : mcuts (kX6_held F) [] := fun _ h => absurd h List.not_mem_nil
set_option maxRecDepth 100000 in
theorem fX6_held (d : Nat) (x1 : Int32) (x2 : Int32) (x3 : Int32) (S : MS) : mFn (d + 1) 88 [.int x1, .int x2, .int x3] S =
  if x2 ≤ x1 then
    if x1 ≤ x3 then
      some (some (.int x1), S)
    else
      some (some (.int x3), S)
  else
    some (some (.int x2), S) := (mFn_eq rfl).trans (mv_row (code := kX6_held (mFn d)) (mmX6_held (mFn d)) (cuX6_held (mFn d)) 10 rfl)
theorem cuX6_copyAll (F : Nat → List Value → MS → Option MR) : mcuts (kX6_copyAll F) [(2, [0, 1, 2])] := List.forall_mem_cons.mpr ⟨⟨oIload 2 3, rfl⟩, fun _ h => absurd h List.not_mem_nil⟩
set_option maxRecDepth 100000 in
theorem fX6_copyAll_a (d : Nat) (S : MS) : mFn (d + 1) 89 [.ref 55, .ref 56] S =
  mv (kX6_copyAll (mFn d)) 2 [(0, .ref 55), (1, .ref 56), (2, .int 0)] [] S := (mFn_eq rfl).trans (mv_row (code := kX6_copyAll (mFn d)) (mmX6_copyAll (mFn d)) (cuX6_copyAll (mFn d)) 3 rfl)
set_option maxRecDepth 100000 in
theorem lX6_copyAll_a_2 (d : Nat) (x2 : Int32) (S : MS) : mv (kX6_copyAll (mFn d)) 2 [(0, .ref 55), (1, .ref 56), (2, .int x2)] [] S =
  if 401 ≤ x2 then
    some (none, S)
  else
    if x2 < 0 ∨ 401 ≤ (x2).toNatClampNeg then none else
    if x2 < 0 ∨ 401 ≤ (x2).toNatClampNeg then none else
    mv (kX6_copyAll (mFn d)) 2 [(0, .ref 55), (1, .ref 56), (2, .int (x2 + 1))] [] (uI S 56 (x2).toNatClampNeg (S.1 55 (x2).toNatClampNeg)) := mv_row (mmX6_copyAll (mFn d)) (cuX6_copyAll (mFn d)) 12 rfl
set_option maxRecDepth 100000 in
theorem fX6_copyAll_b (d : Nat) (S : MS) : mFn (d + 1) 89 [.ref 56, .ref 55] S =
  mv (kX6_copyAll (mFn d)) 2 [(0, .ref 56), (1, .ref 55), (2, .int 0)] [] S := (mFn_eq rfl).trans (mv_row (code := kX6_copyAll (mFn d)) (mmX6_copyAll (mFn d)) (cuX6_copyAll (mFn d)) 3 rfl)
set_option maxRecDepth 100000 in
theorem lX6_copyAll_b_2 (d : Nat) (x2 : Int32) (S : MS) : mv (kX6_copyAll (mFn d)) 2 [(0, .ref 56), (1, .ref 55), (2, .int x2)] [] S =
  if 401 ≤ x2 then
    some (none, S)
  else
    if x2 < 0 ∨ 401 ≤ (x2).toNatClampNeg then none else
    if x2 < 0 ∨ 401 ≤ (x2).toNatClampNeg then none else
    mv (kX6_copyAll (mFn d)) 2 [(0, .ref 56), (1, .ref 55), (2, .int (x2 + 1))] [] (uI S 55 (x2).toNatClampNeg (S.1 56 (x2).toNatClampNeg)) := mv_row (mmX6_copyAll (mFn d)) (cuX6_copyAll (mFn d)) 12 rfl
theorem cuX6_bits (F : Nat → List Value → MS → Option MR) : mcuts (kX6_bits F) [(4, [1, 2])] := List.forall_mem_cons.mpr ⟨⟨oIload 2 5, rfl⟩, fun _ h => absurd h List.not_mem_nil⟩
set_option maxRecDepth 100000 in
theorem fX6_bits (d : Nat) (x1 : Int32) (S : MS) : mFn (d + 1) 90 [.int x1] S =
  mv (kX6_bits (mFn d)) 4 [(1, .int 0), (2, .int x1)] [] S := (mFn_eq rfl).trans (mv_row (code := kX6_bits (mFn d)) (mmX6_bits (mFn d)) (cuX6_bits (mFn d)) 5 rfl)
set_option maxRecDepth 100000 in
theorem lX6_bits_4 (d : Nat) (x1 : Int32) (x2 : Int32) (S : MS) : mv (kX6_bits (mFn d)) 4 [(1, .int x1), (2, .int x2)] [] S =
  if x2 = 0 then
    some (some (.int x1), S)
  else
    mv (kX6_bits (mFn d)) 4 [(1, .int (x1 + 1)), (2, .int (fAnd x2 (fSub x2 1)))] [] S := mv_row (mmX6_bits (mFn d)) (cuX6_bits (mFn d)) 11 rfl
theorem cuX6_isFountain (F : Nat → List Value → MS → Option MR) : mcuts (kX6_isFountain F) [] := fun _ h => absurd h List.not_mem_nil
set_option maxRecDepth 100000 in
theorem fX6_isFountain (d : Nat) (x1 : Int32) (S : MS) : mFn (d + 1) 91 [.ref 54, .int x1] S =
  if (2 : Int32) < 0 ∨ 401 ≤ ((2 : Int32)).toNatClampNeg then none else
  bI ((mFn d) 87 [.int x1, .int 0, .int (fSub (S.1 55 ((2 : Int32)).toNatClampNeg) 1)] S) (fun y1 S1 =>
    if y1 = 0 ∨ y1 = 1 then some (some (.int y1), S1) else none) := (mFn_eq rfl).trans (mv_row (code := kX6_isFountain (mFn d)) (mmX6_isFountain (mFn d)) (cuX6_isFountain (mFn d)) 11 rfl)
theorem cuX6_isPipe (F : Nat → List Value → MS → Option MR) : mcuts (kX6_isPipe F) [] := fun _ h => absurd h List.not_mem_nil
set_option maxRecDepth 100000 in
theorem fX6_isPipe (d : Nat) (x1 : Int32) (S : MS) : mFn (d + 1) 92 [.ref 54, .int x1] S =
  if (3 : Int32) < 0 ∨ 401 ≤ ((3 : Int32)).toNatClampNeg then none else
  bI ((mFn d) 87 [.int x1, .int 0, .int (fSub (S.1 55 ((3 : Int32)).toNatClampNeg) 1)] S) (fun y1 S1 =>
    if y1 = 0 ∨ y1 = 1 then some (some (.int y1), S1) else none) := (mFn_eq rfl).trans (mv_row (code := kX6_isPipe (mFn d)) (mmX6_isPipe (mFn d)) (cuX6_isPipe (mFn d)) 11 rfl)
theorem cuX6_isSize (F : Nat → List Value → MS → Option MR) : mcuts (kX6_isSize F) [] := fun _ h => absurd h List.not_mem_nil
set_option maxRecDepth 100000 in
theorem fX6_isSize (d : Nat) (x1 : Int32) (S : MS) : mFn (d + 1) 93 [.int x1] S =
  bI ((mFn d) 87 [.int x1, .int 1, .int 99] S) (fun y1 S1 =>
    if y1 = 0 ∨ y1 = 1 then some (some (.int y1), S1) else none) := (mFn_eq rfl).trans (mv_row (code := kX6_isSize (mFn d)) (mmX6_isSize (mFn d)) (cuX6_isSize (mFn d)) 6 rfl)
theorem cuX6_becomes (F : Nat → List Value → MS → Option MR) : mcuts (kX6_becomes F) [] := fun _ h => absurd h List.not_mem_nil
set_option maxRecDepth 100000 in
theorem fX6_becomes (d : Nat) (x1 : Int32) (x2 : Int32) (S : MS) : mFn (d + 1) 94 [.ref 54, .int x1, .int x2] S =
  if x1 < 0 ∨ 401 ≤ (x1).toNatClampNeg then none else
  if x1 < 0 ∨ 401 ≤ (x1).toNatClampNeg then none else
  some (some (.int (S.1 55 (x1).toNatClampNeg)), (uI S 55 (x1).toNatClampNeg x2)) := (mFn_eq rfl).trans (mv_row (code := kX6_becomes (mFn d)) (mmX6_becomes (mFn d)) (cuX6_becomes (mFn d)) 13 rfl)
theorem cuX6_of (F : Nat → List Value → MS → Option MR) : mcuts (kX6_of F) [] := fun _ h => absurd h List.not_mem_nil
set_option maxRecDepth 100000 in
theorem fX6_of (d : Nat) (x1 : Int32) (x2 : Int32) (S : MS) : mFn (d + 1) 95 [.ref 54, .int x1, .int x2] S =
  if (fAdd (fAdd 7 (fMul 4 x1)) x2) < 0 ∨ 401 ≤ ((fAdd (fAdd 7 (fMul 4 x1)) x2)).toNatClampNeg then none else
  some (some (.int (S.1 55 ((fAdd (fAdd 7 (fMul 4 x1)) x2)).toNatClampNeg)), S) := (mFn_eq rfl).trans (mv_row (code := kX6_of (mFn d)) (mmX6_of (mFn d)) (cuX6_of (mFn d)) 12 rfl)
theorem cuX6_about (F : Nat → List Value → MS → Option MR) : mcuts (kX6_about F) [] := fun _ h => absurd h List.not_mem_nil
set_option maxRecDepth 100000 in
theorem fX6_about (d : Nat) (x1 : Int32) (x2 : Int32) (S : MS) : mFn (d + 1) 96 [.ref 54, .int x1, .int x2] S =
  if (fAdd (fAdd 39 (fMul 4 x1)) x2) < 0 ∨ 401 ≤ ((fAdd (fAdd 39 (fMul 4 x1)) x2)).toNatClampNeg then none else
  some (some (.int (S.1 55 ((fAdd (fAdd 39 (fMul 4 x1)) x2)).toNatClampNeg)), S) := (mFn_eq rfl).trans (mv_row (code := kX6_about (mFn d)) (mmX6_about (mFn d)) (cuX6_about (mFn d)) 12 rfl)
theorem cuX6_addsOf (F : Nat → List Value → MS → Option MR) : mcuts (kX6_addsOf F) [] := fun _ h => absurd h List.not_mem_nil
set_option maxRecDepth 100000 in
theorem fX6_addsOf (d : Nat) (x1 : Int32) (x2 : Int32) (S : MS) : mFn (d + 1) 97 [.ref 54, .int x1, .int x2] S =
  bI ((mFn d) 95 [.ref 54, .int x1, .int 1] S) (fun y1 S1 =>
    bI ((mFn d) 95 [.ref 54, .int x1, .int 0] S1) (fun y2 S2 =>
      if y2 = 1 then
        some (some (.int (fAdd (fAdd x2 1) y1)), S2)
      else if y2 = 2 then
        some (some (.int (fSub (fMul 2 (fAdd x2 1)) y1)), S2)
      else if y2 = 3 then
        some (some (.int (fAdd x2 1)), S2)
      else if y2 = 4 then
        bI ((mFn d) 95 [.ref 54, .int x1, .int 2] S2) (fun y3 S3 =>
          some (some (.int (fAdd (fAdd (fAdd x2 1) y1) y3)), S3))
      else if y2 = 5 then
        bI ((mFn d) 95 [.ref 54, .int x1, .int 3] S2) (fun y4 S4 =>
          if (5 : Int32) = 0 then none else
          some (some (.int (fAdd (fSub (fMul 2 (fAdd x2 1)) y1) (y4 - y4 / 5 * 5))), S4))
      else if y2 = 6 then
        if (3 : Int32) = 0 then none else
        some (some (.int (fAdd 1 (y1 - y1 / 3 * 3))), S2)
      else 
        some (some (.int (fAdd x2 1)), S2))) := (mFn_eq rfl).trans (mv_row (code := kX6_addsOf (mFn d)) (mmX6_addsOf (mFn d)) (cuX6_addsOf (mFn d)) 28 rfl)
theorem cuX6_saidOf (F : Nat → List Value → MS → Option MR) : mcuts (kX6_saidOf F) [] := fun _ h => absurd h List.not_mem_nil
set_option maxRecDepth 100000 in
theorem fX6_saidOf (d : Nat) (x1 : Int32) (x2 : Int32) (S : MS) : mFn (d + 1) 98 [.ref 54, .int x1, .int x2] S =
  bI ((mFn d) 97 [.ref 54, .int x1, .int x2] S) (fun y1 S1 =>
    bI ((mFn d) 95 [.ref 54, .int x1, .int 2] S1) (fun y2 S2 =>
      bI ((mFn d) 95 [.ref 54, .int x1, .int 0] S2) (fun y3 S3 =>
        bI ((mFn d) 128 [.ref 54, .int 0, .int y1, .int y2, .int y3] S3) (fun y4 S4 =>
          some (some (.int y4), S4))))) := (mFn_eq rfl).trans (mv_row (code := kX6_saidOf (mFn d)) (mmX6_saidOf (mFn d)) (cuX6_saidOf (mFn d)) 17 rfl)
theorem cuX6_doesSayOn (F : Nat → List Value → MS → Option MR) : mcuts (kX6_doesSayOn F) [] := fun _ h => absurd h List.not_mem_nil
set_option maxRecDepth 100000 in
theorem fX6_doesSayOn (d : Nat) (x1 : Int32) (x2 : Int32) (S : MS) : mFn (d + 1) 99 [.ref 54, .int x1, .int x2] S =
  bI ((mFn d) 95 [.ref 54, .int x1, .int 1] S) (fun y1 S1 =>
    bI ((mFn d) 95 [.ref 54, .int x1, .int 0] S1) (fun y2 S2 =>
      if y2 = 1 then
        if (4 : Int32) < 0 ∨ 401 ≤ ((4 : Int32)).toNatClampNeg then none else
        if x2 ≤ (S2.1 55 ((4 : Int32)).toNatClampNeg) then
          some (some (.int 0), S2)
        else
          some (some (.int 1), S2)
      else if y2 = 2 then
        some (some (.int 1), S2)
      else if y2 = 3 then
        if (fAdd y1 2) = 0 then none else
        if (x2 - x2 / (fAdd y1 2) * (fAdd y1 2)) = 0 then
          some (some (.int 0), S2)
        else
          some (some (.int 1), S2)
      else if y2 = 4 then
        if (4 : Int32) < 0 ∨ 401 ≤ ((4 : Int32)).toNatClampNeg then none else
        if (S2.1 55 ((4 : Int32)).toNatClampNeg) < x2 then
          some (some (.int 1), S2)
        else
          if y1 ≤ 6 then
            some (some (.int 0), S2)
          else
            some (some (.int 1), S2)
      else if y2 = 5 then
        if (fAdd 60 y1) ≤ x2 then
          some (some (.int 0), S2)
        else
          some (some (.int 1), S2)
      else if y2 = 6 then
        if (4 : Int32) < 0 ∨ 401 ≤ ((4 : Int32)).toNatClampNeg then none else
        if 8 ≤ (S2.1 55 ((4 : Int32)).toNatClampNeg) then
          some (some (.int 0), S2)
        else
          some (some (.int 1), S2)
      else 
        some (some (.int 1), S2))) := (mFn_eq rfl).trans (mv_row (code := kX6_doesSayOn (mFn d)) (mmX6_doesSayOn (mFn d)) (cuX6_doesSayOn (mFn d)) 23 rfl)
theorem cuX6_slowOf (F : Nat → List Value → MS → Option MR) : mcuts (kX6_slowOf F) [] := fun _ h => absurd h List.not_mem_nil
set_option maxRecDepth 100000 in
theorem fX6_slowOf (d : Nat) (x1 : Int32) (S : MS) : mFn (d + 1) 100 [.ref 54, .int x1] S =
  bI ((mFn d) 96 [.ref 54, .int x1, .int 0] S) (fun y1 S1 =>
    bI ((mFn d) 95 [.ref 54, .int y1, .int 2] S1) (fun y2 S2 =>
      bI ((mFn d) 96 [.ref 54, .int x1, .int 1] S2) (fun y3 S3 =>
        bI ((mFn d) 95 [.ref 54, .int y3, .int 2] S3) (fun y4 S4 =>
          bI ((mFn d) 96 [.ref 54, .int x1, .int 2] S4) (fun y5 S5 =>
            if (4 : Int32) < 0 ∨ 401 ≤ ((4 : Int32)).toNatClampNeg then none else
            bI ((mFn d) 128 [.ref 54, .int 1, .int y5, .int (S5.1 55 ((4 : Int32)).toNatClampNeg), .int (fSub y2 y4)] S5) (fun y6 S6 =>
              some (some (.int y6), S6))))))) := (mFn_eq rfl).trans (mv_row (code := kX6_slowOf (mFn d)) (mmX6_slowOf (mFn d)) (cuX6_slowOf (mFn d)) 30 rfl)
theorem cuX6_isKm (F : Nat → List Value → MS → Option MR) : mcuts (kX6_isKm F) [] := fun _ h => absurd h List.not_mem_nil
set_option maxRecDepth 100000 in
theorem fX6_isKm (d : Nat) (x1 : Int32) (S : MS) : mFn (d + 1) 101 [.int x1] S =
  bI ((mFn d) 87 [.int x1, .int 0, .int 69] S) (fun y1 S1 =>
    if y1 = 0 ∨ y1 = 1 then some (some (.int y1), S1) else none) := (mFn_eq rfl).trans (mv_row (code := kX6_isKm (mFn d)) (mmX6_isKm (mFn d)) (cuX6_isKm (mFn d)) 6 rfl)
theorem cuX6_fountain (F : Nat → List Value → MS → Option MR) : mcuts (kX6_fountain F) [] := fun _ h => absurd h List.not_mem_nil
set_option maxRecDepth 100000 in
theorem fX6_fountain (d : Nat) (x1 : Int32) (x2 : Int32) (S : MS) : mFn (d + 1) 102 [.ref 54, .int x1, .int x2] S =
  bI ((mFn d) 101 [.int x1] S) (fun y1 S1 =>
    if y1 = 0 then
      bI ((mFn d) 86 [.ref 54, .int (-1000000001)] S1) (fun y2 S2 =>
        some (some (.int y2), S2))
    else
      bI ((mFn d) 87 [.int x2, .int 0, .int 9] S1) (fun y3 S3 =>
        if y3 = 0 then
          bI ((mFn d) 86 [.ref 54, .int (-1000000001)] S3) (fun y4 S4 =>
            some (some (.int y4), S4))
        else
          if (2 : Int32) < 0 ∨ 401 ≤ ((2 : Int32)).toNatClampNeg then none else
          if (S3.1 55 ((2 : Int32)).toNatClampNeg) = 8 then
            bI ((mFn d) 86 [.ref 54, .int (-1000000004)] S3) (fun y5 S5 =>
              some (some (.int y5), S5))
          else
            if (2 : Int32) < 0 ∨ 401 ≤ ((2 : Int32)).toNatClampNeg then none else
            if (2 : Int32) < 0 ∨ 401 ≤ ((2 : Int32)).toNatClampNeg then none else
            if (10 : Int32) = 0 then none else
            if (fAdd 7 (fMul 4 (S3.1 55 ((2 : Int32)).toNatClampNeg))) < 0 ∨ 401 ≤ ((fAdd 7 (fMul 4 (S3.1 55 ((2 : Int32)).toNatClampNeg)))).toNatClampNeg then none else
            if (10 : Int32) = 0 then none else
            if (fAdd (fAdd 7 (fMul 4 (S3.1 55 ((2 : Int32)).toNatClampNeg))) 1) < 0 ∨ 401 ≤ ((fAdd (fAdd 7 (fMul 4 (S3.1 55 ((2 : Int32)).toNatClampNeg))) 1)).toNatClampNeg then none else
            if (fAdd (fAdd 7 (fMul 4 (S3.1 55 ((2 : Int32)).toNatClampNeg))) 2) < 0 ∨ 401 ≤ ((fAdd (fAdd 7 (fMul 4 (S3.1 55 ((2 : Int32)).toNatClampNeg))) 2)).toNatClampNeg then none else
            if (fAdd (fAdd 7 (fMul 4 (S3.1 55 ((2 : Int32)).toNatClampNeg))) 3) < 0 ∨ 401 ≤ ((fAdd (fAdd 7 (fMul 4 (S3.1 55 ((2 : Int32)).toNatClampNeg))) 3)).toNatClampNeg then none else
            some (some (.int (S3.1 55 ((2 : Int32)).toNatClampNeg)), (uI (uI (uI (uI (uI S3 55 ((2 : Int32)).toNatClampNeg (fAdd (S3.1 55 ((2 : Int32)).toNatClampNeg) 1)) 55 ((fAdd 7 (fMul 4 (S3.1 55 ((2 : Int32)).toNatClampNeg)))).toNatClampNeg (x1 / 10)) 55 ((fAdd (fAdd 7 (fMul 4 (S3.1 55 ((2 : Int32)).toNatClampNeg))) 1)).toNatClampNeg (x1 - x1 / 10 * 10)) 55 ((fAdd (fAdd 7 (fMul 4 (S3.1 55 ((2 : Int32)).toNatClampNeg))) 2)).toNatClampNeg x2) 55 ((fAdd (fAdd 7 (fMul 4 (S3.1 55 ((2 : Int32)).toNatClampNeg))) 3)).toNatClampNeg 0)))) := (mFn_eq rfl).trans (mv_row (code := kX6_fountain (mFn d)) (mmX6_fountain (mFn d)) (cuX6_fountain (mFn d)) 73 rfl)
theorem cuX6_fountainIs (F : Nat → List Value → MS → Option MR) : mcuts (kX6_fountainIs F) [] := fun _ h => absurd h List.not_mem_nil
set_option maxRecDepth 100000 in
theorem fX6_fountainIs (d : Nat) (x1 : Int32) (x2 : Int32) (S : MS) : mFn (d + 1) 103 [.ref 54, .int x1, .int x2] S =
  bI ((mFn d) 91 [.ref 54, .int x1] S) (fun y1 S1 =>
    if y1 = 0 then
      bI ((mFn d) 86 [.ref 54, .int (-1000000001)] S1) (fun y2 S2 =>
        some (some (.int y2), S2))
    else
      bI ((mFn d) 87 [.int x2, .int 0, .int 3] S1) (fun y3 S3 =>
        if y3 = 0 then
          bI ((mFn d) 86 [.ref 54, .int (-1000000001)] S3) (fun y4 S4 =>
            some (some (.int y4), S4))
        else
          bI ((mFn d) 95 [.ref 54, .int x1, .int x2] S3) (fun y5 S5 =>
            some (some (.int y5), S5)))) := (mFn_eq rfl).trans (mv_row (code := kX6_fountainIs (mFn d)) (mmX6_fountainIs (mFn d)) (cuX6_fountainIs (mFn d)) 16 rfl)
theorem cuX6_become (F : Nat → List Value → MS → Option MR) : mcuts (kX6_become F) [] := fun _ h => absurd h List.not_mem_nil
set_option maxRecDepth 100000 in
theorem fX6_become (d : Nat) (x1 : Int32) (x2 : Int32) (S : MS) : mFn (d + 1) 104 [.ref 54, .int x1, .int x2] S =
  bI ((mFn d) 91 [.ref 54, .int x1] S) (fun y1 S1 =>
    if y1 = 0 then
      bI ((mFn d) 86 [.ref 54, .int (-1000000001)] S1) (fun y2 S2 =>
        some (some (.int y2), S2))
    else
      bI ((mFn d) 101 [.int x2] S1) (fun y3 S3 =>
        if y3 = 0 then
          bI ((mFn d) 86 [.ref 54, .int (-1000000001)] S3) (fun y4 S4 =>
            some (some (.int y4), S4))
        else
          if (10 : Int32) = 0 then none else
          if (fAdd (fAdd 7 (fMul 4 x1)) 1) < 0 ∨ 401 ≤ ((fAdd (fAdd 7 (fMul 4 x1)) 1)).toNatClampNeg then none else
          if (10 : Int32) = 0 then none else
          bI ((mFn d) 94 [.ref 54, .int (fAdd 7 (fMul 4 x1)), .int (x2 / 10)] (uI S3 55 ((fAdd (fAdd 7 (fMul 4 x1)) 1)).toNatClampNeg (x2 - x2 / 10 * 10))) (fun y5 S5 =>
            some (some (.int y5), S5)))) := (mFn_eq rfl).trans (mv_row (code := kX6_become (mFn d)) (mmX6_become (mFn d)) (cuX6_become (mFn d)) 32 rfl)
theorem cuX6_as (F : Nat → List Value → MS → Option MR) : mcuts (kX6_as F) [] := fun _ h => absurd h List.not_mem_nil
set_option maxRecDepth 100000 in
theorem fX6_as (d : Nat) (x1 : Int32) (x2 : Int32) (S : MS) : mFn (d + 1) 105 [.ref 54, .int x1, .int x2] S =
  bI ((mFn d) 91 [.ref 54, .int x1] S) (fun y1 S1 =>
    if y1 = 0 then
      bI ((mFn d) 86 [.ref 54, .int (-1000000001)] S1) (fun y2 S2 =>
        some (some (.int y2), S2))
    else
      bI ((mFn d) 87 [.int x2, .int 0, .int 6] S1) (fun y3 S3 =>
        if y3 = 0 then
          bI ((mFn d) 86 [.ref 54, .int (-1000000001)] S3) (fun y4 S4 =>
            some (some (.int y4), S4))
        else
          bI ((mFn d) 95 [.ref 54, .int x1, .int 0] S3) (fun y5 S5 =>
            if x2 = 0 then
              bI ((mFn d) 95 [.ref 54, .int x1, .int 1] S5) (fun y6 S6 =>
                some (some (.int y6), S6))
            else
              if x2 = y5 then
                bI ((mFn d) 95 [.ref 54, .int x1, .int 1] S5) (fun y7 S7 =>
                  some (some (.int y7), S7))
              else
                if x2 = 1 then
                  if y5 = 4 then
                    bI ((mFn d) 95 [.ref 54, .int x1, .int 1] S5) (fun y8 S8 =>
                      some (some (.int y8), S8))
                  else
                    if x2 = 2 then
                      if y5 = 5 then
                        bI ((mFn d) 95 [.ref 54, .int x1, .int 1] S5) (fun y9 S9 =>
                          some (some (.int y9), S9))
                      else
                        bI ((mFn d) 86 [.ref 54, .int (-1000000005)] S5) (fun y10 S10 =>
                          some (some (.int y10), S10))
                    else
                      bI ((mFn d) 86 [.ref 54, .int (-1000000005)] S5) (fun y11 S11 =>
                        some (some (.int y11), S11))
                else
                  if x2 = 2 then
                    if y5 = 5 then
                      bI ((mFn d) 95 [.ref 54, .int x1, .int 1] S5) (fun y12 S12 =>
                        some (some (.int y12), S12))
                    else
                      bI ((mFn d) 86 [.ref 54, .int (-1000000005)] S5) (fun y13 S13 =>
                        some (some (.int y13), S13))
                  else
                    bI ((mFn d) 86 [.ref 54, .int (-1000000005)] S5) (fun y14 S14 =>
                      some (some (.int y14), S14))))) := (mFn_eq rfl).trans (mv_row (code := kX6_as (mFn d)) (mmX6_as (mFn d)) (cuX6_as (mFn d)) 43 rfl)
theorem cuX6_says (F : Nat → List Value → MS → Option MR) : mcuts (kX6_says F) [] := fun _ h => absurd h List.not_mem_nil
set_option maxRecDepth 100000 in
theorem fX6_says (d : Nat) (x1 : Int32) (x2 : Int32) (S : MS) : mFn (d + 1) 106 [.ref 54, .int x1, .int x2] S =
  bI ((mFn d) 91 [.ref 54, .int x1] S) (fun y1 S1 =>
    if y1 = 0 then
      bI ((mFn d) 86 [.ref 54, .int (-1000000001)] S1) (fun y2 S2 =>
        some (some (.int y2), S2))
    else
      bI ((mFn d) 93 [.int x2] S1) (fun y3 S3 =>
        if y3 = 0 then
          bI ((mFn d) 86 [.ref 54, .int (-1000000001)] S3) (fun y4 S4 =>
            some (some (.int y4), S4))
        else
          bI ((mFn d) 98 [.ref 54, .int x1, .int x2] S3) (fun y5 S5 =>
            some (some (.int y5), S5)))) := (mFn_eq rfl).trans (mv_row (code := kX6_says (mFn d)) (mmX6_says (mFn d)) (cuX6_says (mFn d)) 14 rfl)
theorem cuX6_goesOn (F : Nat → List Value → MS → Option MR) : mcuts (kX6_goesOn F) [] := fun _ h => absurd h List.not_mem_nil
set_option maxRecDepth 100000 in
theorem fX6_goesOn (d : Nat) (x1 : Int32) (x2 : Int32) (S : MS) : mFn (d + 1) 107 [.ref 54, .int x1, .int x2] S =
  bI ((mFn d) 91 [.ref 54, .int x1] S) (fun y1 S1 =>
    if y1 = 0 then
      bI ((mFn d) 86 [.ref 54, .int (-1000000001)] S1) (fun y2 S2 =>
        some (some (.int y2), S2))
    else
      bI ((mFn d) 93 [.int x2] S1) (fun y3 S3 =>
        if y3 = 0 then
          bI ((mFn d) 86 [.ref 54, .int (-1000000001)] S3) (fun y4 S4 =>
            some (some (.int y4), S4))
        else
          bI ((mFn d) 99 [.ref 54, .int x1, .int x2] S3) (fun y5 S5 =>
            if y5 = 0 then
              some (some (.int 0), S5)
            else
              some (some (.int 1), S5)))) := (mFn_eq rfl).trans (mv_row (code := kX6_goesOn (mFn d)) (mmX6_goesOn (mFn d)) (cuX6_goesOn (mFn d)) 16 rfl)
theorem cuX6_pipe (F : Nat → List Value → MS → Option MR) : mcuts (kX6_pipe F) [] := fun _ h => absurd h List.not_mem_nil
set_option maxRecDepth 100000 in
theorem fX6_pipe (d : Nat) (x1 : Int32) (x2 : Int32) (x3 : Int32) (S : MS) : mFn (d + 1) 108 [.ref 54, .int x1, .int x2, .int x3] S =
  bI ((mFn d) 91 [.ref 54, .int x1] S) (fun y1 S1 =>
    if y1 = 0 then
      bI ((mFn d) 86 [.ref 54, .int (-1000000001)] S1) (fun y2 S2 =>
        some (some (.int y2), S2))
    else
      bI ((mFn d) 91 [.ref 54, .int x2] S1) (fun y3 S3 =>
        if y3 = 0 then
          bI ((mFn d) 86 [.ref 54, .int (-1000000001)] S3) (fun y4 S4 =>
            some (some (.int y4), S4))
        else
          bI ((mFn d) 87 [.int x3, .int 1, .int 9] S3) (fun y5 S5 =>
            if y5 = 0 then
              bI ((mFn d) 86 [.ref 54, .int (-1000000001)] S5) (fun y6 S6 =>
                some (some (.int y6), S6))
            else
              bI ((mFn d) 95 [.ref 54, .int x2, .int 2] S5) (fun y7 S7 =>
                bI ((mFn d) 95 [.ref 54, .int x1, .int 2] S7) (fun y8 S8 =>
                  if y7 < y8 then
                    if (3 : Int32) < 0 ∨ 401 ≤ ((3 : Int32)).toNatClampNeg then none else
                    if (S8.1 55 ((3 : Int32)).toNatClampNeg) = 9 then
                      bI ((mFn d) 86 [.ref 54, .int (-1000000004)] S8) (fun y9 S9 =>
                        some (some (.int y9), S9))
                    else
                      if (3 : Int32) < 0 ∨ 401 ≤ ((3 : Int32)).toNatClampNeg then none else
                      if (3 : Int32) < 0 ∨ 401 ≤ ((3 : Int32)).toNatClampNeg then none else
                      if (fAdd 39 (fMul 4 (S8.1 55 ((3 : Int32)).toNatClampNeg))) < 0 ∨ 401 ≤ ((fAdd 39 (fMul 4 (S8.1 55 ((3 : Int32)).toNatClampNeg)))).toNatClampNeg then none else
                      if (fAdd (fAdd 39 (fMul 4 (S8.1 55 ((3 : Int32)).toNatClampNeg))) 1) < 0 ∨ 401 ≤ ((fAdd (fAdd 39 (fMul 4 (S8.1 55 ((3 : Int32)).toNatClampNeg))) 1)).toNatClampNeg then none else
                      if (fAdd (fAdd 39 (fMul 4 (S8.1 55 ((3 : Int32)).toNatClampNeg))) 2) < 0 ∨ 401 ≤ ((fAdd (fAdd 39 (fMul 4 (S8.1 55 ((3 : Int32)).toNatClampNeg))) 2)).toNatClampNeg then none else
                      if (fAdd (fAdd 39 (fMul 4 (S8.1 55 ((3 : Int32)).toNatClampNeg))) 3) < 0 ∨ 401 ≤ ((fAdd (fAdd 39 (fMul 4 (S8.1 55 ((3 : Int32)).toNatClampNeg))) 3)).toNatClampNeg then none else
                      some (some (.int (S8.1 55 ((3 : Int32)).toNatClampNeg)), (uI (uI (uI (uI (uI S8 55 ((3 : Int32)).toNatClampNeg (fAdd (S8.1 55 ((3 : Int32)).toNatClampNeg) 1)) 55 ((fAdd 39 (fMul 4 (S8.1 55 ((3 : Int32)).toNatClampNeg)))).toNatClampNeg x1) 55 ((fAdd (fAdd 39 (fMul 4 (S8.1 55 ((3 : Int32)).toNatClampNeg))) 1)).toNatClampNeg x2) 55 ((fAdd (fAdd 39 (fMul 4 (S8.1 55 ((3 : Int32)).toNatClampNeg))) 2)).toNatClampNeg x3) 55 ((fAdd (fAdd 39 (fMul 4 (S8.1 55 ((3 : Int32)).toNatClampNeg))) 3)).toNatClampNeg 1))
                  else
                    bI ((mFn d) 86 [.ref 54, .int (-1000000003)] S8) (fun y10 S10 =>
                      some (some (.int y10), S10))))))) := (mFn_eq rfl).trans (mv_row (code := kX6_pipe (mFn d)) (mmX6_pipe (mFn d)) (cuX6_pipe (mFn d)) 83 rfl)
theorem cuX6_pipeIs (F : Nat → List Value → MS → Option MR) : mcuts (kX6_pipeIs F) [] := fun _ h => absurd h List.not_mem_nil
set_option maxRecDepth 100000 in
theorem fX6_pipeIs (d : Nat) (x1 : Int32) (x2 : Int32) (S : MS) : mFn (d + 1) 109 [.ref 54, .int x1, .int x2] S =
  bI ((mFn d) 92 [.ref 54, .int x1] S) (fun y1 S1 =>
    if y1 = 0 then
      bI ((mFn d) 86 [.ref 54, .int (-1000000001)] S1) (fun y2 S2 =>
        some (some (.int y2), S2))
    else
      bI ((mFn d) 87 [.int x2, .int 0, .int 4] S1) (fun y3 S3 =>
        if y3 = 0 then
          bI ((mFn d) 86 [.ref 54, .int (-1000000001)] S3) (fun y4 S4 =>
            some (some (.int y4), S4))
        else
          if 4 ≤ x2 then
            bI ((mFn d) 100 [.ref 54, .int x1] S3) (fun y5 S5 =>
              some (some (.int y5), S5))
          else
            bI ((mFn d) 96 [.ref 54, .int x1, .int x2] S3) (fun y6 S6 =>
              some (some (.int y6), S6)))) := (mFn_eq rfl).trans (mv_row (code := kX6_pipeIs (mFn d)) (mmX6_pipeIs (mFn d)) (cuX6_pipeIs (mFn d)) 19 rfl)
theorem cuX6_turn (F : Nat → List Value → MS → Option MR) : mcuts (kX6_turn F) [] := fun _ h => absurd h List.not_mem_nil
set_option maxRecDepth 100000 in
theorem fX6_turn (d : Nat) (x1 : Int32) (x2 : Int32) (S : MS) : mFn (d + 1) 110 [.ref 54, .int x1, .int x2] S =
  bI ((mFn d) 92 [.ref 54, .int x1] S) (fun y1 S1 =>
    if y1 = 0 then
      bI ((mFn d) 86 [.ref 54, .int (-1000000001)] S1) (fun y2 S2 =>
        some (some (.int y2), S2))
    else
      bI ((mFn d) 87 [.int x2, .int 0, .int 1] S1) (fun y3 S3 =>
        if y3 = 0 then
          bI ((mFn d) 86 [.ref 54, .int (-1000000001)] S3) (fun y4 S4 =>
            some (some (.int y4), S4))
        else
          bI ((mFn d) 94 [.ref 54, .int (fAdd (fAdd 39 (fMul 4 x1)) 3), .int x2] S3) (fun y5 S5 =>
            some (some (.int y5), S5)))) := (mFn_eq rfl).trans (mv_row (code := kX6_turn (mFn d)) (mmX6_turn (mFn d)) (cuX6_turn (mFn d)) 22 rfl)
theorem cuX6_freeze (F : Nat → List Value → MS → Option MR) : mcuts (kX6_freeze F) [] := fun _ h => absurd h List.not_mem_nil
set_option maxRecDepth 100000 in
theorem fX6_freeze (d : Nat) (x1 : Int32) (S : MS) : mFn (d + 1) 111 [.ref 54, .int x1] S =
  bI ((mFn d) 87 [.int x1, .int 0, .int 9] S) (fun y1 S1 =>
    if y1 = 0 then
      bI ((mFn d) 86 [.ref 54, .int (-1000000001)] S1) (fun y2 S2 =>
        some (some (.int y2), S2))
    else
      bI ((mFn d) 94 [.ref 54, .int 4, .int x1] S1) (fun y3 S3 =>
        some (some (.int y3), S3))) := (mFn_eq rfl).trans (mv_row (code := kX6_freeze (mFn d)) (mmX6_freeze (mFn d)) (cuX6_freeze (mFn d)) 12 rfl)
theorem cuX6_feed (F : Nat → List Value → MS → Option MR) : mcuts (kX6_feed F) [(40, [0, 1, 3, 4])] := List.forall_mem_cons.mpr ⟨⟨oIload 4 42, rfl⟩, fun _ h => absurd h List.not_mem_nil⟩
set_option maxRecDepth 100000 in
theorem fX6_feed (d : Nat) (x1 : Int64) (x2 : Int32) (S : MS) : mFn (d + 1) 112 [.ref 54, .long x1, .int x2] S =
  bI ((mFn d) 87 [.int x2, .int 1, .int 8] S) (fun y1 S1 =>
    if y1 = 0 then
      bI ((mFn d) 86 [.ref 54, .int (-1000000001)] S1) (fun y2 S2 =>
        some (some (.int y2), S2))
    else
      if (5 : Int32) < 0 ∨ 401 ≤ ((5 : Int32)).toNatClampNeg then none else
      if (fAdd (S1.1 55 ((5 : Int32)).toNatClampNeg) x2) ≤ 60 then
        mv (kX6_feed (mFn d)) 40 [(0, .ref 54), (1, .long x1), (3, .int x2), (4, .int 0)] [] S1
      else
        bI ((mFn d) 86 [.ref 54, .int (-1000000004)] S1) (fun y3 S3 =>
          some (some (.int y3), S3))) := (mFn_eq rfl).trans (mv_row (code := kX6_feed (mFn d)) (mmX6_feed (mFn d)) (cuX6_feed (mFn d)) 18 rfl)
set_option maxRecDepth 100000 in
theorem lX6_feed_40 (d : Nat) (x1 : Int64) (x3 : Int32) (x4 : Int32) (S : MS) : mv (kX6_feed (mFn d)) 40 [(0, .ref 54), (1, .long x1), (3, .int x3), (4, .int x4)] [] S =
  if x3 ≤ x4 then
    if (5 : Int32) < 0 ∨ 401 ≤ ((5 : Int32)).toNatClampNeg then none else
    some (some (.int (S.1 55 ((5 : Int32)).toNatClampNeg)), S)
  else
    if (5 : Int32) < 0 ∨ 401 ≤ ((5 : Int32)).toNatClampNeg then none else
    if (fAdd 75 (S.1 55 ((5 : Int32)).toNatClampNeg)) < 0 ∨ 401 ≤ ((fAdd 75 (S.1 55 ((5 : Int32)).toNatClampNeg))).toNatClampNeg then none else
    if (5 : Int32) < 0 ∨ 401 ≤ ((5 : Int32)).toNatClampNeg then none else
    if (5 : Int32) < 0 ∨ 401 ≤ ((5 : Int32)).toNatClampNeg then none else
    mv (kX6_feed (mFn d)) 40 [(0, .ref 54), (1, .long x1), (3, .int x3), (4, .int (x4 + 1))] [] (uI (uI S 55 ((fAdd 75 (S.1 55 ((5 : Int32)).toNatClampNeg))).toNatClampNeg ((lAnd (lShr x1 (fMul 8 x4)) 255)).toInt32) 55 ((5 : Int32)).toNatClampNeg (fAdd ((uI S 55 ((fAdd 75 (S.1 55 ((5 : Int32)).toNatClampNeg))).toNatClampNeg ((lAnd (lShr x1 (fMul 8 x4)) 255)).toInt32).1 55 ((5 : Int32)).toNatClampNeg) 1)) := mv_row (mmX6_feed (mFn d)) (cuX6_feed (mFn d)) 31 rfl
theorem cuX6_look (F : Nat → List Value → MS → Option MR) : mcuts (kX6_look F) [] := fun _ h => absurd h List.not_mem_nil
set_option maxRecDepth 100000 in
theorem fX6_look (d : Nat) (S : MS) : mFn (d + 1) 113 [.ref 54] S =
  if (5 : Int32) < 0 ∨ 401 ≤ ((5 : Int32)).toNatClampNeg then none else
  if (S.1 55 ((5 : Int32)).toNatClampNeg) ≤ (S.1 54 12) then
    some (some (.int (-1)), S)
  else
    if (fAdd 75 (S.1 54 12)) < 0 ∨ 401 ≤ ((fAdd 75 (S.1 54 12))).toNatClampNeg then none else
    some (some (.int (S.1 55 ((fAdd 75 (S.1 54 12))).toNatClampNeg)), S) := (mFn_eq rfl).trans (mv_row (code := kX6_look (mFn d)) (mmX6_look (mFn d)) (cuX6_look (mFn d)) 17 rfl)
theorem cuX6_lays (F : Nat → List Value → MS → Option MR) : mcuts (kX6_lays F) [] := fun _ h => absurd h List.not_mem_nil
set_option maxRecDepth 100000 in
theorem fX6_lays (d : Nat) (x1 : Int32) (x2 : Int32) (S : MS) : mFn (d + 1) 114 [.ref 54, .int x1, .int x2] S =
  if (Int32.ofNat 60) ≤ (S.1 54 11) then
    some (none, S)
  else
    if (S.1 54 11) < 0 ∨ 60 ≤ ((S.1 54 11)).toNatClampNeg then none else
    if (S.1 54 11) < 0 ∨ 60 ≤ ((S.1 54 11)).toNatClampNeg then none else
    some (none, (uI (uI (uI S 61 ((S.1 54 11)).toNatClampNeg x1) 62 ((S.1 54 11)).toNatClampNeg x2) 54 11 (fAdd (S.1 54 11) 1))) := (mFn_eq rfl).trans (mv_row (code := kX6_lays (mFn d)) (mmX6_lays (mFn d)) (cuX6_lays (mFn d)) 26 rfl)
theorem cuX6_nameOf (F : Nat → List Value → MS → Option MR) : mcuts (kX6_nameOf F) [] := fun _ h => absurd h List.not_mem_nil
set_option maxRecDepth 100000 in
theorem fX6_nameOf (d : Nat) (x1 : Int32) (S : MS) : mFn (d + 1) 115 [.ref 54, .int x1] S =
  if x1 = 100 then
    if (S.1 54 15) = 1 then
      if x1 = 100 then
        some (some (.int 0), S)
      else
        some (some (.int 1), S)
    else
      some (some (.int (-1)), S)
  else if x1 = 102 then
    if (S.1 54 15) = 1 then
      if x1 = 100 then
        some (some (.int 0), S)
      else
        some (some (.int 1), S)
    else
      some (some (.int (-1)), S)
  else if x1 = 104 then
    if (S.1 54 15) = 0 then
      some (some (.int 1), S)
    else
      some (some (.int 2), S)
  else if x1 = 107 then
    if (S.1 54 15) = 0 then
      if x1 = 122 then
        some (some (.int 0), S)
      else
        some (some (.int 2), S)
    else
      some (some (.int (-1)), S)
  else if x1 = 122 then
    if (S.1 54 15) = 0 then
      if x1 = 122 then
        some (some (.int 0), S)
      else
        some (some (.int 2), S)
    else
      some (some (.int (-1)), S)
  else 
    some (some (.int (-1)), S) := (mFn_eq rfl).trans (mv_row (code := kX6_nameOf (mFn d)) (mmX6_nameOf (mFn d)) (cuX6_nameOf (mFn d)) 13 rfl)
theorem cuX6_number (F : Nat → List Value → MS → Option MR) : mcuts (kX6_number F) [(4, [0, 1, 2])] := List.forall_mem_cons.mpr ⟨⟨oIload 2 5, rfl⟩, fun _ h => absurd h List.not_mem_nil⟩
set_option maxRecDepth 100000 in
theorem fX6_number (d : Nat) (S : MS) : mFn (d + 1) 116 [.ref 54] S =
  mv (kX6_number (mFn d)) 4 [(0, .ref 54), (1, .int 0), (2, .int 0)] [] S := (mFn_eq rfl).trans (mv_row (code := kX6_number (mFn d)) (mmX6_number (mFn d)) (cuX6_number (mFn d)) 5 rfl)
set_option maxRecDepth 100000 in
theorem lX6_number_4 (d : Nat) (x1 : Int32) (x2 : Int32) (S : MS) : mv (kX6_number (mFn d)) 4 [(0, .ref 54), (1, .int x1), (2, .int x2)] [] S =
  if 4 ≤ x2 then
    if x2 = 0 then
      bV ((mFn d) 114 [.ref 54, .int 1, .int x1] (uI S 54 14 1)) (fun S1 =>
        some (none, S1))
    else
      bV ((mFn d) 114 [.ref 54, .int 1, .int x1] (uI S 54 14 0)) (fun S2 =>
        some (none, S2))
  else
    bI ((mFn d) 113 [.ref 54] S) (fun y3 S3 =>
      bI ((mFn d) 87 [.int y3, .int 48, .int 57] S3) (fun y4 S4 =>
        if y4 = 0 then
          if x2 = 0 then
            bV ((mFn d) 114 [.ref 54, .int 1, .int x1] (uI S4 54 14 1)) (fun S5 =>
              some (none, S5))
          else
            bV ((mFn d) 114 [.ref 54, .int 1, .int x1] (uI S4 54 14 0)) (fun S6 =>
              some (none, S6))
        else
          bI ((mFn d) 113 [.ref 54] S4) (fun y7 S7 =>
            mv (kX6_number (mFn d)) 4 [(0, .ref 54), (1, .int (fSub (fAdd (fMul 10 x1) y7) 48)), (2, .int (x2 + 1))] [] (uI S7 54 12 (fAdd (S7.1 54 12) 1))))) := mv_row (mmX6_number (mFn d)) (cuX6_number (mFn d)) 27 rfl
theorem cuX6_opens (F : Nat → List Value → MS → Option MR) : mcuts (kX6_opens F) [] := fun _ h => absurd h List.not_mem_nil
set_option maxRecDepth 100000 in
theorem fX6_opens (d : Nat) (x1 : Int32) (S : MS) : mFn (d + 1) 117 [.ref 54, .int x1] S =
  if (S.1 54 13) = 5 then
    some (none, (uI S 54 14 1))
  else
    if x1 = 33 then
      bV ((mFn d) 118 [.ref 54] (uI (uI S 54 13 (fAdd (S.1 54 13) 1)) 54 12 (fAdd (S.1 54 12) 1))) (fun S1 =>
        bV ((mFn d) 114 [.ref 54, .int 3, .int 0] S1) (fun S2 =>
          some (none, (uI S2 54 13 (fSub (S2.1 54 13) 1)))))
    else
      bV ((mFn d) 123 [.ref 54] (uI (uI S 54 13 (fAdd (S.1 54 13) 1)) 54 12 (fAdd (S.1 54 12) 1))) (fun S3 =>
        if (S3.1 54 14) = 0 then
          bI ((mFn d) 113 [.ref 54] S3) (fun y4 S4 =>
            if y4 = 41 then
              some (none, (uI (uI (uI S4 54 14 0) 54 12 (fAdd (S4.1 54 12) 1)) 54 13 (fSub (S4.1 54 13) 1)))
            else
              some (none, (uI (uI (uI S4 54 14 1) 54 12 (fAdd (S4.1 54 12) 0)) 54 13 (fSub (S4.1 54 13) 1))))
        else
          some (none, (uI (uI (uI S3 54 14 1) 54 12 (fAdd (S3.1 54 12) 0)) 54 13 (fSub (S3.1 54 13) 1)))) := (mFn_eq rfl).trans (mv_row (code := kX6_opens (mFn d)) (mmX6_opens (mFn d)) (cuX6_opens (mFn d)) 50 rfl)
theorem cuX6_one (F : Nat → List Value → MS → Option MR) : mcuts (kX6_one F) [] := fun _ h => absurd h List.not_mem_nil
set_option maxRecDepth 100000 in
theorem fX6_one (d : Nat) (S : MS) : mFn (d + 1) 118 [.ref 54] S =
  bI ((mFn d) 113 [.ref 54] S) (fun y1 S1 =>
    bI ((mFn d) 115 [.ref 54, .int y1] S1) (fun y2 S2 =>
      if y2 < 0 then
        if y1 = 33 then
          bV ((mFn d) 117 [.ref 54, .int y1] S2) (fun S3 =>
            some (none, S3))
        else
          if y1 = 40 then
            bV ((mFn d) 117 [.ref 54, .int y1] S2) (fun S4 =>
              some (none, S4))
          else
            bV ((mFn d) 116 [.ref 54] S2) (fun S5 =>
              some (none, S5))
      else
        bV ((mFn d) 114 [.ref 54, .int 2, .int y2] (uI S2 54 12 (fAdd (S2.1 54 12) 1))) (fun S6 =>
          some (none, S6)))) := (mFn_eq rfl).trans (mv_row (code := kX6_one (mFn d)) (mmX6_one (mFn d)) (cuX6_one (mFn d)) 22 rfl)
theorem cuX6_times (F : Nat → List Value → MS → Option MR) : mcuts (kX6_times F) [(4, [0])] := List.forall_mem_cons.mpr ⟨⟨oAload 0 5, rfl⟩, fun _ h => absurd h List.not_mem_nil⟩
set_option maxRecDepth 100000 in
theorem fX6_times (d : Nat) (S : MS) : mFn (d + 1) 119 [.ref 54] S =
  bV ((mFn d) 118 [.ref 54] S) (fun S1 =>
    mv (kX6_times (mFn d)) 4 [(0, .ref 54)] [] S1) := (mFn_eq rfl).trans (mv_row (code := kX6_times (mFn d)) (mmX6_times (mFn d)) (cuX6_times (mFn d)) 3 rfl)
set_option maxRecDepth 100000 in
theorem lX6_times_4 (d : Nat) (S : MS) : mv (kX6_times (mFn d)) 4 [(0, .ref 54)] [] S =
  if (S.1 54 14) = 0 then
    bI ((mFn d) 113 [.ref 54] S) (fun y1 S1 =>
      if y1 = 42 then
        bI ((mFn d) 113 [.ref 54] S1) (fun y2 S2 =>
          bV ((mFn d) 118 [.ref 54] (uI S2 54 12 (fAdd (S2.1 54 12) 1))) (fun S3 =>
            bV ((mFn d) 114 [.ref 54, .int y2, .int 0] S3) (fun S4 =>
              mv (kX6_times (mFn d)) 4 [(0, .ref 54)] [] S4)))
      else
        bI ((mFn d) 113 [.ref 54] S1) (fun y5 S5 =>
          if y5 = 47 then
            bI ((mFn d) 113 [.ref 54] S5) (fun y6 S6 =>
              bV ((mFn d) 118 [.ref 54] (uI S6 54 12 (fAdd (S6.1 54 12) 1))) (fun S7 =>
                bV ((mFn d) 114 [.ref 54, .int y6, .int 0] S7) (fun S8 =>
                  mv (kX6_times (mFn d)) 4 [(0, .ref 54)] [] S8)))
          else
            bI ((mFn d) 113 [.ref 54] S5) (fun y9 S9 =>
              if y9 = 37 then
                bI ((mFn d) 113 [.ref 54] S9) (fun y10 S10 =>
                  bV ((mFn d) 118 [.ref 54] (uI S10 54 12 (fAdd (S10.1 54 12) 1))) (fun S11 =>
                    bV ((mFn d) 114 [.ref 54, .int y10, .int 0] S11) (fun S12 =>
                      mv (kX6_times (mFn d)) 4 [(0, .ref 54)] [] S12)))
              else
                some (none, S9))))
  else
    some (none, S) := mv_row (mmX6_times (mFn d)) (cuX6_times (mFn d)) 32 rfl
theorem cuX6_sum (F : Nat → List Value → MS → Option MR) : mcuts (kX6_sum F) [(4, [0])] := List.forall_mem_cons.mpr ⟨⟨oAload 0 5, rfl⟩, fun _ h => absurd h List.not_mem_nil⟩
set_option maxRecDepth 100000 in
theorem fX6_sum (d : Nat) (S : MS) : mFn (d + 1) 120 [.ref 54] S =
  bV ((mFn d) 119 [.ref 54] S) (fun S1 =>
    mv (kX6_sum (mFn d)) 4 [(0, .ref 54)] [] S1) := (mFn_eq rfl).trans (mv_row (code := kX6_sum (mFn d)) (mmX6_sum (mFn d)) (cuX6_sum (mFn d)) 3 rfl)
set_option maxRecDepth 100000 in
theorem lX6_sum_4 (d : Nat) (S : MS) : mv (kX6_sum (mFn d)) 4 [(0, .ref 54)] [] S =
  if (S.1 54 14) = 0 then
    bI ((mFn d) 113 [.ref 54] S) (fun y1 S1 =>
      if y1 = 43 then
        bI ((mFn d) 113 [.ref 54] S1) (fun y2 S2 =>
          bV ((mFn d) 119 [.ref 54] (uI S2 54 12 (fAdd (S2.1 54 12) 1))) (fun S3 =>
            bV ((mFn d) 114 [.ref 54, .int y2, .int 0] S3) (fun S4 =>
              mv (kX6_sum (mFn d)) 4 [(0, .ref 54)] [] S4)))
      else
        bI ((mFn d) 113 [.ref 54] S1) (fun y5 S5 =>
          if y5 = 45 then
            bI ((mFn d) 113 [.ref 54] S5) (fun y6 S6 =>
              bV ((mFn d) 119 [.ref 54] (uI S6 54 12 (fAdd (S6.1 54 12) 1))) (fun S7 =>
                bV ((mFn d) 114 [.ref 54, .int y6, .int 0] S7) (fun S8 =>
                  mv (kX6_sum (mFn d)) 4 [(0, .ref 54)] [] S8)))
          else
            some (none, S5)))
  else
    some (none, S) := mv_row (mmX6_sum (mFn d)) (cuX6_sum (mFn d)) 28 rfl
theorem cuX6_compares (F : Nat → List Value → MS → Option MR) : mcuts (kX6_compares F) [] := fun _ h => absurd h List.not_mem_nil
set_option maxRecDepth 100000 in
theorem fX6_compares (d : Nat) (S : MS) : mFn (d + 1) 121 [.ref 54] S =
  bV ((mFn d) 120 [.ref 54] S) (fun S1 =>
    bI ((mFn d) 113 [.ref 54] S1) (fun y2 S2 =>
      if (S2.1 54 14) = 0 then
        if y2 = 60 then
          bV ((mFn d) 120 [.ref 54] (uI S2 54 12 (fAdd (S2.1 54 12) 1))) (fun S3 =>
            bV ((mFn d) 114 [.ref 54, .int y2, .int 0] S3) (fun S4 =>
              some (none, S4)))
        else
          if y2 = 61 then
            bV ((mFn d) 120 [.ref 54] (uI S2 54 12 (fAdd (S2.1 54 12) 1))) (fun S5 =>
              bV ((mFn d) 114 [.ref 54, .int y2, .int 0] S5) (fun S6 =>
                some (none, S6)))
          else
            if y2 = 62 then
              bV ((mFn d) 120 [.ref 54] (uI S2 54 12 (fAdd (S2.1 54 12) 1))) (fun S7 =>
                bV ((mFn d) 114 [.ref 54, .int y2, .int 0] S7) (fun S8 =>
                  some (none, S8)))
            else
              some (none, S2)
      else
        some (none, S2))) := (mFn_eq rfl).trans (mv_row (code := kX6_compares (mFn d)) (mmX6_compares (mFn d)) (cuX6_compares (mFn d)) 31 rfl)
theorem cuX6_all (F : Nat → List Value → MS → Option MR) : mcuts (kX6_all F) [(4, [0])] := List.forall_mem_cons.mpr ⟨⟨oAload 0 5, rfl⟩, fun _ h => absurd h List.not_mem_nil⟩
set_option maxRecDepth 100000 in
theorem fX6_all (d : Nat) (S : MS) : mFn (d + 1) 122 [.ref 54] S =
  bV ((mFn d) 121 [.ref 54] S) (fun S1 =>
    mv (kX6_all (mFn d)) 4 [(0, .ref 54)] [] S1) := (mFn_eq rfl).trans (mv_row (code := kX6_all (mFn d)) (mmX6_all (mFn d)) (cuX6_all (mFn d)) 3 rfl)
set_option maxRecDepth 100000 in
theorem lX6_all_4 (d : Nat) (S : MS) : mv (kX6_all (mFn d)) 4 [(0, .ref 54)] [] S =
  if (S.1 54 14) = 0 then
    bI ((mFn d) 113 [.ref 54] S) (fun y1 S1 =>
      if y1 = 38 then
        bV ((mFn d) 121 [.ref 54] (uI S1 54 12 (fAdd (S1.1 54 12) 1))) (fun S2 =>
          bV ((mFn d) 114 [.ref 54, .int 38, .int 0] S2) (fun S3 =>
            mv (kX6_all (mFn d)) 4 [(0, .ref 54)] [] S3))
      else
        some (none, S1))
  else
    some (none, S) := mv_row (mmX6_all (mFn d)) (cuX6_all (mFn d)) 21 rfl
theorem cuX6_any (F : Nat → List Value → MS → Option MR) : mcuts (kX6_any F) [(4, [0])] := List.forall_mem_cons.mpr ⟨⟨oAload 0 5, rfl⟩, fun _ h => absurd h List.not_mem_nil⟩
set_option maxRecDepth 100000 in
theorem fX6_any (d : Nat) (S : MS) : mFn (d + 1) 123 [.ref 54] S =
  bV ((mFn d) 122 [.ref 54] S) (fun S1 =>
    mv (kX6_any (mFn d)) 4 [(0, .ref 54)] [] S1) := (mFn_eq rfl).trans (mv_row (code := kX6_any (mFn d)) (mmX6_any (mFn d)) (cuX6_any (mFn d)) 3 rfl)
set_option maxRecDepth 100000 in
theorem lX6_any_4 (d : Nat) (S : MS) : mv (kX6_any (mFn d)) 4 [(0, .ref 54)] [] S =
  if (S.1 54 14) = 0 then
    bI ((mFn d) 113 [.ref 54] S) (fun y1 S1 =>
      if y1 = 124 then
        bV ((mFn d) 122 [.ref 54] (uI S1 54 12 (fAdd (S1.1 54 12) 1))) (fun S2 =>
          bV ((mFn d) 114 [.ref 54, .int 124, .int 0] S2) (fun S3 =>
            mv (kX6_any (mFn d)) 4 [(0, .ref 54)] [] S3))
      else
        some (none, S1))
  else
    some (none, S) := mv_row (mmX6_any (mFn d)) (cuX6_any (mFn d)) 21 rfl
theorem cuX6_text (F : Nat → List Value → MS → Option MR) : mcuts (kX6_text F) [(117, [0, 2, 3])] := List.forall_mem_cons.mpr ⟨⟨oIload 3 118, rfl⟩, fun _ h => absurd h List.not_mem_nil⟩
set_option maxRecDepth 100000 in
theorem fX6_text (d : Nat) (x1 : Int32) (S : MS) : mFn (d + 1) 124 [.ref 54, .int x1] S =
  bI ((mFn d) 87 [.int x1, .int 0, .int 1] S) (fun y1 S1 =>
    if y1 = 0 then
      bI ((mFn d) 86 [.ref 54, .int (-1000000001)] S1) (fun y2 S2 =>
        some (some (.int y2), S2))
    else
      bV ((mFn d) 123 [.ref 54] (uI (uI (uI (uI (uI S1 54 15 x1) 54 11 0) 54 12 0) 54 13 0) 54 14 0)) (fun S3 =>
        if (S3.1 54 14) = 0 then
          if (5 : Int32) < 0 ∨ 401 ≤ ((5 : Int32)).toNatClampNeg then none else
          if (S3.1 55 ((5 : Int32)).toNatClampNeg) ≤ (S3.1 54 12) then
            if (5 : Int32) < 0 ∨ 401 ≤ ((5 : Int32)).toNatClampNeg then none else
            if (fAdd 159 (fMul 121 x1)) < 0 ∨ 401 ≤ ((fAdd 159 (fMul 121 x1))).toNatClampNeg then none else
            mv (kX6_text (mFn d)) 117 [(0, .ref 54), (2, .int (fAdd 159 (fMul 121 x1))), (3, .int 0)] [] (uI (uI (uI S3 54 14 0) 55 ((5 : Int32)).toNatClampNeg 0) 55 ((fAdd 159 (fMul 121 x1))).toNatClampNeg (S3.1 54 11))
          else
            if (5 : Int32) < 0 ∨ 401 ≤ ((5 : Int32)).toNatClampNeg then none else
            some (some (.int (fSub (-10) (S3.1 54 12))), (uI (uI S3 54 14 1) 55 ((5 : Int32)).toNatClampNeg 0))
        else
          if (5 : Int32) < 0 ∨ 401 ≤ ((5 : Int32)).toNatClampNeg then none else
          some (some (.int (fSub (-10) (S3.1 54 12))), (uI (uI S3 54 14 1) 55 ((5 : Int32)).toNatClampNeg 0)))) := (mFn_eq rfl).trans (mv_row (code := kX6_text (mFn d)) (mmX6_text (mFn d)) (cuX6_text (mFn d)) 58 rfl)
set_option maxRecDepth 100000 in
theorem lX6_text_117 (d : Nat) (x2 : Int32) (x3 : Int32) (S : MS) : mv (kX6_text (mFn d)) 117 [(0, .ref 54), (2, .int x2), (3, .int x3)] [] S =
  if (S.1 54 11) ≤ x3 then
    some (some (.int 1), S)
  else
    if x3 < 0 ∨ 60 ≤ (x3).toNatClampNeg then none else
    if (fAdd (fAdd x2 1) x3) < 0 ∨ 401 ≤ ((fAdd (fAdd x2 1) x3)).toNatClampNeg then none else
    if x3 < 0 ∨ 60 ≤ (x3).toNatClampNeg then none else
    if (fAdd (fAdd x2 61) x3) < 0 ∨ 401 ≤ ((fAdd (fAdd x2 61) x3)).toNatClampNeg then none else
    mv (kX6_text (mFn d)) 117 [(0, .ref 54), (2, .int x2), (3, .int (x3 + 1))] [] (uI (uI S 55 ((fAdd (fAdd x2 1) x3)).toNatClampNeg (S.1 61 (x3).toNatClampNeg)) 55 ((fAdd (fAdd x2 61) x3)).toNatClampNeg (S.1 62 (x3).toNatClampNeg)) := mv_row (mmX6_text (mFn d)) (cuX6_text (mFn d)) 31 rfl
theorem cuX6_untell (F : Nat → List Value → MS → Option MR) : mcuts (kX6_untell F) [] := fun _ h => absurd h List.not_mem_nil
set_option maxRecDepth 100000 in
theorem fX6_untell (d : Nat) (x1 : Int32) (S : MS) : mFn (d + 1) 125 [.ref 54, .int x1] S =
  bI ((mFn d) 87 [.int x1, .int 0, .int 1] S) (fun y1 S1 =>
    if y1 = 0 then
      bI ((mFn d) 86 [.ref 54, .int (-1000000001)] S1) (fun y2 S2 =>
        some (some (.int y2), S2))
    else
      bI ((mFn d) 94 [.ref 54, .int (fAdd 159 (fMul 121 x1)), .int 0] S1) (fun y3 S3 =>
        if y3 ≤ 0 then
          some (some (.int 0), S3)
        else
          some (some (.int 1), S3))) := (mFn_eq rfl).trans (mv_row (code := kX6_untell (mFn d)) (mmX6_untell (mFn d)) (cuX6_untell (mFn d)) 18 rfl)
theorem cuX6_twoOf (F : Nat → List Value → MS → Option MR) : mcuts (kX6_twoOf F) [] := fun _ h => absurd h List.not_mem_nil
set_option maxRecDepth 100000 in
theorem fX6_twoOf (d : Nat) (x1 : Int32) (x2 : Int32) (x3 : Int32) (S : MS) : mFn (d + 1) 126 [.int x1, .int x2, .int x3] S =
  if x1 = 37 then
    if x3 = 0 then
      some (some (.int 0), S)
    else
      if x3 = 0 then none else
      some (some (.int (x2 - x2 / x3 * x3)), S)
  else if x1 = 38 then
    if x2 = 0 then
      some (some (.int 0), S)
    else
      if x3 = 0 then
        some (some (.int 0), S)
      else
        some (some (.int 1), S)
  else if x1 = 39 then
    if x2 = 0 then
      if x3 = 0 then
        some (some (.int 0), S)
      else
        some (some (.int 1), S)
    else
      some (some (.int 1), S)
  else if x1 = 40 then
    if x2 = 0 then
      if x3 = 0 then
        some (some (.int 0), S)
      else
        some (some (.int 1), S)
    else
      some (some (.int 1), S)
  else if x1 = 41 then
    if x2 = 0 then
      if x3 = 0 then
        some (some (.int 0), S)
      else
        some (some (.int 1), S)
    else
      some (some (.int 1), S)
  else if x1 = 42 then
    some (some (.int (fMul x2 x3)), S)
  else if x1 = 43 then
    some (some (.int (fAdd x2 x3)), S)
  else if x1 = 44 then
    if x2 = 0 then
      if x3 = 0 then
        some (some (.int 0), S)
      else
        some (some (.int 1), S)
    else
      some (some (.int 1), S)
  else if x1 = 45 then
    some (some (.int (fSub x2 x3)), S)
  else if x1 = 46 then
    if x2 = 0 then
      if x3 = 0 then
        some (some (.int 0), S)
      else
        some (some (.int 1), S)
    else
      some (some (.int 1), S)
  else if x1 = 47 then
    if x3 = 0 then
      some (some (.int 0), S)
    else
      if x3 = 0 then none else
      some (some (.int (x2 / x3)), S)
  else if x1 = 48 then
    if x2 = 0 then
      if x3 = 0 then
        some (some (.int 0), S)
      else
        some (some (.int 1), S)
    else
      some (some (.int 1), S)
  else if x1 = 49 then
    if x2 = 0 then
      if x3 = 0 then
        some (some (.int 0), S)
      else
        some (some (.int 1), S)
    else
      some (some (.int 1), S)
  else if x1 = 50 then
    if x2 = 0 then
      if x3 = 0 then
        some (some (.int 0), S)
      else
        some (some (.int 1), S)
    else
      some (some (.int 1), S)
  else if x1 = 51 then
    if x2 = 0 then
      if x3 = 0 then
        some (some (.int 0), S)
      else
        some (some (.int 1), S)
    else
      some (some (.int 1), S)
  else if x1 = 52 then
    if x2 = 0 then
      if x3 = 0 then
        some (some (.int 0), S)
      else
        some (some (.int 1), S)
    else
      some (some (.int 1), S)
  else if x1 = 53 then
    if x2 = 0 then
      if x3 = 0 then
        some (some (.int 0), S)
      else
        some (some (.int 1), S)
    else
      some (some (.int 1), S)
  else if x1 = 54 then
    if x2 = 0 then
      if x3 = 0 then
        some (some (.int 0), S)
      else
        some (some (.int 1), S)
    else
      some (some (.int 1), S)
  else if x1 = 55 then
    if x2 = 0 then
      if x3 = 0 then
        some (some (.int 0), S)
      else
        some (some (.int 1), S)
    else
      some (some (.int 1), S)
  else if x1 = 56 then
    if x2 = 0 then
      if x3 = 0 then
        some (some (.int 0), S)
      else
        some (some (.int 1), S)
    else
      some (some (.int 1), S)
  else if x1 = 57 then
    if x2 = 0 then
      if x3 = 0 then
        some (some (.int 0), S)
      else
        some (some (.int 1), S)
    else
      some (some (.int 1), S)
  else if x1 = 58 then
    if x2 = 0 then
      if x3 = 0 then
        some (some (.int 0), S)
      else
        some (some (.int 1), S)
    else
      some (some (.int 1), S)
  else if x1 = 59 then
    if x2 = 0 then
      if x3 = 0 then
        some (some (.int 0), S)
      else
        some (some (.int 1), S)
    else
      some (some (.int 1), S)
  else if x1 = 60 then
    if x3 ≤ x2 then
      some (some (.int 0), S)
    else
      some (some (.int 1), S)
  else if x1 = 61 then
    if x2 = x3 then
      some (some (.int 1), S)
    else
      some (some (.int 0), S)
  else if x1 = 62 then
    if x2 ≤ x3 then
      some (some (.int 0), S)
    else
      some (some (.int 1), S)
  else 
    if x2 = 0 then
      if x3 = 0 then
        some (some (.int 0), S)
      else
        some (some (.int 1), S)
    else
      some (some (.int 1), S) := (mFn_eq rfl).trans (mv_row (code := kX6_twoOf (mFn d)) (mmX6_twoOf (mFn d)) (cuX6_twoOf (mFn d)) 10 rfl)
theorem cuX6_works (F : Nat → List Value → MS → Option MR) : mcuts (kX6_works F) [(4, [0, 1, 2, 3]), (122, [0, 1, 2, 3, 4])] := List.forall_mem_cons.mpr ⟨⟨oIload 3 5, rfl⟩, List.forall_mem_cons.mpr ⟨⟨oAload 0 123, rfl⟩, fun _ h => absurd h List.not_mem_nil⟩⟩
set_option maxRecDepth 100000 in
theorem fX6_works (d : Nat) (x1 : Int32) (S : MS) : mFn (d + 1) 127 [.ref 54, .int x1] S =
  mv (kX6_works (mFn d)) 4 [(0, .ref 54), (1, .int x1), (2, .int 0), (3, .int 0)] [] S := (mFn_eq rfl).trans (mv_row (code := kX6_works (mFn d)) (mmX6_works (mFn d)) (cuX6_works (mFn d)) 5 rfl)
set_option maxRecDepth 100000 in
theorem lX6_works_4 (d : Nat) (x1 : Int32) (x2 : Int32) (x3 : Int32) (S : MS) : mv (kX6_works (mFn d)) 4 [(0, .ref 54), (1, .int x1), (2, .int x2), (3, .int x3)] [] S =
  if x1 < 0 ∨ 401 ≤ (x1).toNatClampNeg then none else
  if (S.1 55 (x1).toNatClampNeg) ≤ x3 then
    if (0 : Int32) < 0 ∨ 60 ≤ ((0 : Int32)).toNatClampNeg then none else
    some (some (.int (S.1 64 ((0 : Int32)).toNatClampNeg)), S)
  else
    if (fAdd (fAdd x1 1) x3) < 0 ∨ 401 ≤ ((fAdd (fAdd x1 1) x3)).toNatClampNeg then none else
    if (S.1 55 ((fAdd (fAdd x1 1) x3)).toNatClampNeg) = 1 then
      if (S.1 55 ((fAdd (fAdd x1 1) x3)).toNatClampNeg) = 1 then
        if (fAdd (fAdd x1 61) x3) < 0 ∨ 401 ≤ ((fAdd (fAdd x1 61) x3)).toNatClampNeg then none else
        if x2 < 0 ∨ 60 ≤ (x2).toNatClampNeg then none else
        mv (kX6_works (mFn d)) 4 [(0, .ref 54), (1, .int x1), (2, .int (x2 + 1)), (3, .int (x3 + 1))] [] (uI S 64 (x2).toNatClampNeg (S.1 55 ((fAdd (fAdd x1 61) x3)).toNatClampNeg))
      else
        if (fAdd (fAdd x1 61) x3) < 0 ∨ 401 ≤ ((fAdd (fAdd x1 61) x3)).toNatClampNeg then none else
        if (S.1 55 ((fAdd (fAdd x1 61) x3)).toNatClampNeg) < 0 ∨ 3 ≤ ((S.1 55 ((fAdd (fAdd x1 61) x3)).toNatClampNeg)).toNatClampNeg then none else
        if x2 < 0 ∨ 60 ≤ (x2).toNatClampNeg then none else
        mv (kX6_works (mFn d)) 4 [(0, .ref 54), (1, .int x1), (2, .int (x2 + 1)), (3, .int (x3 + 1))] [] (uI S 64 (x2).toNatClampNeg (S.1 63 ((S.1 55 ((fAdd (fAdd x1 61) x3)).toNatClampNeg)).toNatClampNeg))
    else
      if (S.1 55 ((fAdd (fAdd x1 1) x3)).toNatClampNeg) = 2 then
        if (S.1 55 ((fAdd (fAdd x1 1) x3)).toNatClampNeg) = 1 then
          if (fAdd (fAdd x1 61) x3) < 0 ∨ 401 ≤ ((fAdd (fAdd x1 61) x3)).toNatClampNeg then none else
          if x2 < 0 ∨ 60 ≤ (x2).toNatClampNeg then none else
          mv (kX6_works (mFn d)) 4 [(0, .ref 54), (1, .int x1), (2, .int (x2 + 1)), (3, .int (x3 + 1))] [] (uI S 64 (x2).toNatClampNeg (S.1 55 ((fAdd (fAdd x1 61) x3)).toNatClampNeg))
        else
          if (fAdd (fAdd x1 61) x3) < 0 ∨ 401 ≤ ((fAdd (fAdd x1 61) x3)).toNatClampNeg then none else
          if (S.1 55 ((fAdd (fAdd x1 61) x3)).toNatClampNeg) < 0 ∨ 3 ≤ ((S.1 55 ((fAdd (fAdd x1 61) x3)).toNatClampNeg)).toNatClampNeg then none else
          if x2 < 0 ∨ 60 ≤ (x2).toNatClampNeg then none else
          mv (kX6_works (mFn d)) 4 [(0, .ref 54), (1, .int x1), (2, .int (x2 + 1)), (3, .int (x3 + 1))] [] (uI S 64 (x2).toNatClampNeg (S.1 63 ((S.1 55 ((fAdd (fAdd x1 61) x3)).toNatClampNeg)).toNatClampNeg))
      else
        if (S.1 55 ((fAdd (fAdd x1 1) x3)).toNatClampNeg) = 3 then
          if (fSub x2 1) < 0 ∨ 60 ≤ ((fSub x2 1)).toNatClampNeg then none else
          if (S.1 64 ((fSub x2 1)).toNatClampNeg) = 0 then
            if (fSub x2 1) < 0 ∨ 60 ≤ ((fSub x2 1)).toNatClampNeg then none else
            mv (kX6_works (mFn d)) 4 [(0, .ref 54), (1, .int x1), (2, .int x2), (3, .int (x3 + 1))] [] (uI S 64 ((fSub x2 1)).toNatClampNeg 1)
          else
            if (fSub x2 1) < 0 ∨ 60 ≤ ((fSub x2 1)).toNatClampNeg then none else
            mv (kX6_works (mFn d)) 4 [(0, .ref 54), (1, .int x1), (2, .int x2), (3, .int (x3 + 1))] [] (uI S 64 ((fSub x2 1)).toNatClampNeg 0)
        else
          mv (kX6_works (mFn d)) 122 [(0, .ref 54), (1, .int x1), (2, .int (x2 + (-1))), (3, .int x3), (4, .int (S.1 55 ((fAdd (fAdd x1 1) x3)).toNatClampNeg))] [] S := mv_row (mmX6_works (mFn d)) (cuX6_works (mFn d)) 44 rfl
set_option maxRecDepth 100000 in
theorem lX6_works_122 (d : Nat) (x1 : Int32) (x2 : Int32) (x3 : Int32) (x4 : Int32) (S : MS) : mv (kX6_works (mFn d)) 122 [(0, .ref 54), (1, .int x1), (2, .int x2), (3, .int x3), (4, .int x4)] [] S =
  if (fSub x2 1) < 0 ∨ 60 ≤ ((fSub x2 1)).toNatClampNeg then none else
  if x2 < 0 ∨ 60 ≤ (x2).toNatClampNeg then none else
  bI ((mFn d) 126 [.int x4, .int (S.1 64 ((fSub x2 1)).toNatClampNeg), .int (S.1 64 (x2).toNatClampNeg)] S) (fun y1 S1 =>
    if (fSub x2 1) < 0 ∨ 60 ≤ ((fSub x2 1)).toNatClampNeg then none else
    mv (kX6_works (mFn d)) 4 [(0, .ref 54), (1, .int x1), (2, .int x2), (3, .int (x3 + 1))] [] (uI S1 64 ((fSub x2 1)).toNatClampNeg y1)) := mv_row (mmX6_works (mFn d)) (cuX6_works (mFn d)) 21 rfl
theorem cuX6_gives (F : Nat → List Value → MS → Option MR) : mcuts (kX6_gives F) [] := fun _ h => absurd h List.not_mem_nil
set_option maxRecDepth 100000 in
theorem fX6_gives (d : Nat) (x1 : Int32) (x2 : Int32) (x3 : Int32) (x4 : Int32) (S : MS) : mFn (d + 1) 128 [.ref 54, .int x1, .int x2, .int x3, .int x4] S =
  if (0 : Int32) < 0 ∨ 3 ≤ ((0 : Int32)).toNatClampNeg then none else
  if (1 : Int32) < 0 ∨ 3 ≤ ((1 : Int32)).toNatClampNeg then none else
  if (2 : Int32) < 0 ∨ 3 ≤ ((2 : Int32)).toNatClampNeg then none else
  if (fAdd 159 (fMul 121 x1)) < 0 ∨ 401 ≤ ((fAdd 159 (fMul 121 x1))).toNatClampNeg then none else
  if (S.1 55 ((fAdd 159 (fMul 121 x1))).toNatClampNeg) ≤ 0 then
    if x1 = 0 then
      bI ((mFn d) 88 [.int x2, .int 1, .int 99] (uI (uI (uI S 63 ((0 : Int32)).toNatClampNeg x2) 63 ((1 : Int32)).toNatClampNeg x3) 63 ((2 : Int32)).toNatClampNeg x4)) (fun y1 S1 =>
        some (some (.int y1), S1))
    else
      bI ((mFn d) 88 [.int x2, .int 1, .int 20] (uI (uI (uI S 63 ((0 : Int32)).toNatClampNeg x2) 63 ((1 : Int32)).toNatClampNeg x3) 63 ((2 : Int32)).toNatClampNeg x4)) (fun y2 S2 =>
        some (some (.int y2), S2))
  else
    bI ((mFn d) 127 [.ref 54, .int (fAdd 159 (fMul 121 x1))] (uI (uI (uI S 63 ((0 : Int32)).toNatClampNeg x2) 63 ((1 : Int32)).toNatClampNeg x3) 63 ((2 : Int32)).toNatClampNeg x4)) (fun y3 S3 =>
      if x1 = 0 then
        bI ((mFn d) 88 [.int y3, .int 1, .int 99] S3) (fun y4 S4 =>
          some (some (.int y4), S4))
      else
        bI ((mFn d) 88 [.int y3, .int 1, .int 20] S3) (fun y5 S5 =>
          some (some (.int y5), S5))) := (mFn_eq rfl).trans (mv_row (code := kX6_gives (mFn d)) (mmX6_gives (mFn d)) (cuX6_gives (mFn d)) 40 rfl)
theorem cuX6_law (F : Nat → List Value → MS → Option MR) : mcuts (kX6_law F) [] := fun _ h => absurd h List.not_mem_nil
set_option maxRecDepth 100000 in
theorem fX6_law (d : Nat) (x1 : Int32) (x2 : Int32) (x3 : Int32) (x4 : Int32) (S : MS) : mFn (d + 1) 129 [.ref 54, .int x1, .int x2, .int x3, .int x4] S =
  bI ((mFn d) 87 [.int x1, .int 0, .int 1] S) (fun y1 S1 =>
    if y1 = 0 then
      bI ((mFn d) 86 [.ref 54, .int (-1000000001)] S1) (fun y2 S2 =>
        some (some (.int y2), S2))
    else
      bI ((mFn d) 128 [.ref 54, .int x1, .int x2, .int x3, .int x4] S1) (fun y3 S3 =>
        some (some (.int y3), S3))) := (mFn_eq rfl).trans (mv_row (code := kX6_law (mFn d)) (mmX6_law (mFn d)) (cuX6_law (mFn d)) 14 rfl)
theorem cuX6_findSlow (F : Nat → List Value → MS → Option MR) : mcuts (kX6_findSlow F) [(2, [0, 1])] := List.forall_mem_cons.mpr ⟨⟨oIload 1 3, rfl⟩, fun _ h => absurd h List.not_mem_nil⟩
set_option maxRecDepth 100000 in
theorem fX6_findSlow (d : Nat) (S : MS) : mFn (d + 1) 130 [.ref 54] S =
  mv (kX6_findSlow (mFn d)) 2 [(0, .ref 54), (1, .int 0)] [] S := (mFn_eq rfl).trans (mv_row (code := kX6_findSlow (mFn d)) (mmX6_findSlow (mFn d)) (cuX6_findSlow (mFn d)) 3 rfl)
set_option maxRecDepth 100000 in
theorem lX6_findSlow_2 (d : Nat) (x1 : Int32) (S : MS) : mv (kX6_findSlow (mFn d)) 2 [(0, .ref 54), (1, .int x1)] [] S =
  if (3 : Int32) < 0 ∨ 401 ≤ ((3 : Int32)).toNatClampNeg then none else
  if (S.1 55 ((3 : Int32)).toNatClampNeg) ≤ x1 then
    some (none, S)
  else
    bI ((mFn d) 100 [.ref 54, .int x1] S) (fun y1 S1 =>
      if x1 < 0 ∨ 9 ≤ (x1).toNatClampNeg then none else
      mv (kX6_findSlow (mFn d)) 2 [(0, .ref 54), (1, .int (x1 + 1))] [] (uI S1 67 (x1).toNatClampNeg y1)) := mv_row (mmX6_findSlow (mFn d)) (cuX6_findSlow (mFn d)) 16 rfl
theorem cuX6_opened (F : Nat → List Value → MS → Option MR) : mcuts (kX6_opened F) [(4, [0, 1, 2])] := List.forall_mem_cons.mpr ⟨⟨oIload 2 5, rfl⟩, fun _ h => absurd h List.not_mem_nil⟩
set_option maxRecDepth 100000 in
theorem fX6_opened (d : Nat) (S : MS) : mFn (d + 1) 131 [.ref 54] S =
  mv (kX6_opened (mFn d)) 4 [(0, .ref 54), (1, .int 0), (2, .int 0)] [] S := (mFn_eq rfl).trans (mv_row (code := kX6_opened (mFn d)) (mmX6_opened (mFn d)) (cuX6_opened (mFn d)) 5 rfl)
set_option maxRecDepth 100000 in
theorem lX6_opened_4 (d : Nat) (x1 : Int32) (x2 : Int32) (S : MS) : mv (kX6_opened (mFn d)) 4 [(0, .ref 54), (1, .int x1), (2, .int x2)] [] S =
  if (3 : Int32) < 0 ∨ 401 ≤ ((3 : Int32)).toNatClampNeg then none else
  if (S.1 55 ((3 : Int32)).toNatClampNeg) ≤ x2 then
    some (some (.int x1), S)
  else
    bI ((mFn d) 96 [.ref 54, .int x2, .int 3] S) (fun y1 S1 =>
      mv (kX6_opened (mFn d)) 4 [(0, .ref 54), (1, .int (fOr x1 (fShl y1 x2))), (2, .int (x2 + 1))] [] S1) := mv_row (mmX6_opened (mFn d)) (cuX6_opened (mFn d)) 18 rfl
theorem cuX6_saysOn (F : Nat → List Value → MS → Option MR) : mcuts (kX6_saysOn F) [(15, [0, 1, 2, 3, 4])] := List.forall_mem_cons.mpr ⟨⟨oIload 4 17, rfl⟩, fun _ h => absurd h List.not_mem_nil⟩
set_option maxRecDepth 100000 in
theorem fX6_saysOn (d : Nat) (x1 : Int32) (x2 : Int32) (S : MS) : mFn (d + 1) 132 [.ref 54, .int x1, .int x2] S =
  if x1 < 0 ∨ 8 ≤ (x1).toNatClampNeg then none else
  bI ((mFn d) 98 [.ref 54, .int x1, .int (S.1 66 (x1).toNatClampNeg)] S) (fun y1 S1 =>
    mv (kX6_saysOn (mFn d)) 15 [(0, .ref 54), (1, .int x1), (2, .int x2), (3, .int y1), (4, .int 0)] [] S1) := (mFn_eq rfl).trans (mv_row (code := kX6_saysOn (mFn d)) (mmX6_saysOn (mFn d)) (cuX6_saysOn (mFn d)) 11 rfl)
set_option maxRecDepth 100000 in
theorem lX6_saysOn_15 (d : Nat) (x1 : Int32) (x2 : Int32) (x3 : Int32) (x4 : Int32) (S : MS) : mv (kX6_saysOn (mFn d)) 15 [(0, .ref 54), (1, .int x1), (2, .int x2), (3, .int x3), (4, .int x4)] [] S =
  if (3 : Int32) < 0 ∨ 401 ≤ ((3 : Int32)).toNatClampNeg then none else
  if (S.1 55 ((3 : Int32)).toNatClampNeg) ≤ x4 then
    some (none, S)
  else
    bI ((mFn d) 96 [.ref 54, .int x4, .int 0] S) (fun y1 S1 =>
      if y1 = x1 then
        if (fAnd (fShr x2 x4) 1) = 1 then
          bI ((mFn d) 96 [.ref 54, .int x4, .int 1] S1) (fun y2 S2 =>
            if x1 < 0 ∨ 8 ≤ (x1).toNatClampNeg then none else
            if x4 < 0 ∨ 9 ≤ (x4).toNatClampNeg then none else
            if y2 < 0 ∨ 8 ≤ (y2).toNatClampNeg then none else
            if (S2.1 65 (y2).toNatClampNeg) < 0 then
              if y2 < 0 ∨ 8 ≤ (y2).toNatClampNeg then none else
              if y2 < 0 ∨ 8 ≤ (y2).toNatClampNeg then none else
              mv (kX6_saysOn (mFn d)) 15 [(0, .ref 54), (1, .int x1), (2, .int x2), (3, .int x3), (4, .int (x4 + 1))] [] (uI (uI S2 66 (y2).toNatClampNeg x3) 65 (y2).toNatClampNeg (fAdd (S2.1 65 (x1).toNatClampNeg) (S2.1 67 (x4).toNatClampNeg)))
            else
              if y2 < 0 ∨ 8 ≤ (y2).toNatClampNeg then none else
              if (S2.1 65 (y2).toNatClampNeg) ≤ (fAdd (S2.1 65 (x1).toNatClampNeg) (S2.1 67 (x4).toNatClampNeg)) then
                if y2 < 0 ∨ 8 ≤ (y2).toNatClampNeg then none else
                if (fAdd (S2.1 65 (x1).toNatClampNeg) (S2.1 67 (x4).toNatClampNeg)) = (S2.1 65 (y2).toNatClampNeg) then
                  if y2 < 0 ∨ 8 ≤ (y2).toNatClampNeg then none else
                  if x3 ≤ (S2.1 66 (y2).toNatClampNeg) then
                    if y2 < 0 ∨ 8 ≤ (y2).toNatClampNeg then none else
                    if y2 < 0 ∨ 8 ≤ (y2).toNatClampNeg then none else
                    if y2 < 0 ∨ 8 ≤ (y2).toNatClampNeg then none else
                    if y2 < 0 ∨ 8 ≤ (y2).toNatClampNeg then none else
                    mv (kX6_saysOn (mFn d)) 15 [(0, .ref 54), (1, .int x1), (2, .int x2), (3, .int x3), (4, .int (x4 + 1))] [] (uI (uI S2 66 (y2).toNatClampNeg (S2.1 66 (y2).toNatClampNeg)) 65 (y2).toNatClampNeg (S2.1 65 (y2).toNatClampNeg))
                  else
                    if y2 < 0 ∨ 8 ≤ (y2).toNatClampNeg then none else
                    if y2 < 0 ∨ 8 ≤ (y2).toNatClampNeg then none else
                    if y2 < 0 ∨ 8 ≤ (y2).toNatClampNeg then none else
                    mv (kX6_saysOn (mFn d)) 15 [(0, .ref 54), (1, .int x1), (2, .int x2), (3, .int x3), (4, .int (x4 + 1))] [] (uI (uI S2 66 (y2).toNatClampNeg x3) 65 (y2).toNatClampNeg (S2.1 65 (y2).toNatClampNeg))
                else
                  if y2 < 0 ∨ 8 ≤ (y2).toNatClampNeg then none else
                  if y2 < 0 ∨ 8 ≤ (y2).toNatClampNeg then none else
                  if y2 < 0 ∨ 8 ≤ (y2).toNatClampNeg then none else
                  if y2 < 0 ∨ 8 ≤ (y2).toNatClampNeg then none else
                  mv (kX6_saysOn (mFn d)) 15 [(0, .ref 54), (1, .int x1), (2, .int x2), (3, .int x3), (4, .int (x4 + 1))] [] (uI (uI S2 66 (y2).toNatClampNeg (S2.1 66 (y2).toNatClampNeg)) 65 (y2).toNatClampNeg (S2.1 65 (y2).toNatClampNeg))
              else
                if y2 < 0 ∨ 8 ≤ (y2).toNatClampNeg then none else
                if y2 < 0 ∨ 8 ≤ (y2).toNatClampNeg then none else
                mv (kX6_saysOn (mFn d)) 15 [(0, .ref 54), (1, .int x1), (2, .int x2), (3, .int x3), (4, .int (x4 + 1))] [] (uI (uI S2 66 (y2).toNatClampNeg x3) 65 (y2).toNatClampNeg (fAdd (S2.1 65 (x1).toNatClampNeg) (S2.1 67 (x4).toNatClampNeg))))
        else
          mv (kX6_saysOn (mFn d)) 15 [(0, .ref 54), (1, .int x1), (2, .int x2), (3, .int x3), (4, .int (x4 + 1))] [] S1
      else
        mv (kX6_saysOn (mFn d)) 15 [(0, .ref 54), (1, .int x1), (2, .int x2), (3, .int x3), (4, .int (x4 + 1))] [] S1) := mv_row (mmX6_saysOn (mFn d)) (cuX6_saysOn (mFn d)) 82 rfl
theorem cuX6_spreads (F : Nat → List Value → MS → Option MR) : mcuts (kX6_spreads F) [(3, [0, 1, 2, 3, 4]), (60, [0, 3, 4]), (68, [0, 3, 4, 5])] := List.forall_mem_cons.mpr ⟨⟨oIload 4 5, rfl⟩, List.forall_mem_cons.mpr ⟨⟨oIload 4 62, rfl⟩, List.forall_mem_cons.mpr ⟨⟨oIload 5 70, rfl⟩, fun _ h => absurd h List.not_mem_nil⟩⟩⟩
set_option maxRecDepth 100000 in
theorem fX6_spreads (d : Nat) (x1 : Int32) (x2 : Int32) (x3 : Int32) (S : MS) : mFn (d + 1) 133 [.ref 54, .int x1, .int x2, .int x3] S =
  mv (kX6_spreads (mFn d)) 3 [(0, .ref 54), (1, .int x1), (2, .int x2), (3, .int x3), (4, .int 0)] [] S := (mFn_eq rfl).trans (mv_row (code := kX6_spreads (mFn d)) (mmX6_spreads (mFn d)) (cuX6_spreads (mFn d)) 3 rfl)
set_option maxRecDepth 100000 in
theorem lX6_spreads_3 (d : Nat) (x1 : Int32) (x2 : Int32) (x3 : Int32) (x4 : Int32) (S : MS) : mv (kX6_spreads (mFn d)) 3 [(0, .ref 54), (1, .int x1), (2, .int x2), (3, .int x3), (4, .int x4)] [] S =
  if 8 ≤ x4 then
    bI ((mFn d) 95 [.ref 54, .int x1, .int 2] S) (fun y1 S1 =>
      mv (kX6_spreads (mFn d)) 60 [(0, .ref 54), (3, .int x3), (4, .int y1)] [] S1)
  else
    if x4 = x1 then
      if x4 < 0 ∨ 8 ≤ (x4).toNatClampNeg then none else
      if x4 = x1 then
        if x4 < 0 ∨ 8 ≤ (x4).toNatClampNeg then none else
        mv (kX6_spreads (mFn d)) 3 [(0, .ref 54), (1, .int x1), (2, .int x2), (3, .int x3), (4, .int (x4 + 1))] [] (uI (uI S 65 (x4).toNatClampNeg 0) 66 (x4).toNatClampNeg x2)
      else
        if x4 < 0 ∨ 8 ≤ (x4).toNatClampNeg then none else
        mv (kX6_spreads (mFn d)) 3 [(0, .ref 54), (1, .int x1), (2, .int x2), (3, .int x3), (4, .int (x4 + 1))] [] (uI (uI S 65 (x4).toNatClampNeg 0) 66 (x4).toNatClampNeg 0)
    else
      if x4 < 0 ∨ 8 ≤ (x4).toNatClampNeg then none else
      if x4 = x1 then
        if x4 < 0 ∨ 8 ≤ (x4).toNatClampNeg then none else
        mv (kX6_spreads (mFn d)) 3 [(0, .ref 54), (1, .int x1), (2, .int x2), (3, .int x3), (4, .int (x4 + 1))] [] (uI (uI S 65 (x4).toNatClampNeg (-1)) 66 (x4).toNatClampNeg x2)
      else
        if x4 < 0 ∨ 8 ≤ (x4).toNatClampNeg then none else
        mv (kX6_spreads (mFn d)) 3 [(0, .ref 54), (1, .int x1), (2, .int x2), (3, .int x3), (4, .int (x4 + 1))] [] (uI (uI S 65 (x4).toNatClampNeg (-1)) 66 (x4).toNatClampNeg 0) := mv_row (mmX6_spreads (mFn d)) (cuX6_spreads (mFn d)) 24 rfl
set_option maxRecDepth 100000 in
theorem lX6_spreads_60 (d : Nat) (x3 : Int32) (x4 : Int32) (S : MS) : mv (kX6_spreads (mFn d)) 60 [(0, .ref 54), (3, .int x3), (4, .int x4)] [] S =
  if x4 < 0 then
    some (none, S)
  else
    mv (kX6_spreads (mFn d)) 68 [(0, .ref 54), (3, .int x3), (4, .int x4), (5, .int 0)] [] S := mv_row (mmX6_spreads (mFn d)) (cuX6_spreads (mFn d)) 5 rfl
set_option maxRecDepth 100000 in
theorem lX6_spreads_68 (d : Nat) (x3 : Int32) (x4 : Int32) (x5 : Int32) (S : MS) : mv (kX6_spreads (mFn d)) 68 [(0, .ref 54), (3, .int x3), (4, .int x4), (5, .int x5)] [] S =
  if (2 : Int32) < 0 ∨ 401 ≤ ((2 : Int32)).toNatClampNeg then none else
  if (S.1 55 ((2 : Int32)).toNatClampNeg) ≤ x5 then
    mv (kX6_spreads (mFn d)) 60 [(0, .ref 54), (3, .int x3), (4, .int (x4 + (-1)))] [] S
  else
    bI ((mFn d) 95 [.ref 54, .int x5, .int 2] S) (fun y1 S1 =>
      if y1 = x4 then
        if x5 < 0 ∨ 8 ≤ (x5).toNatClampNeg then none else
        if (S1.1 65 (x5).toNatClampNeg) < 0 then
          mv (kX6_spreads (mFn d)) 68 [(0, .ref 54), (3, .int x3), (4, .int x4), (5, .int (x5 + 1))] [] S1
        else
          if x5 < 0 ∨ 8 ≤ (x5).toNatClampNeg then none else
          bI ((mFn d) 99 [.ref 54, .int x5, .int (S1.1 66 (x5).toNatClampNeg)] S1) (fun y2 S2 =>
            if y2 = 0 then
              mv (kX6_spreads (mFn d)) 68 [(0, .ref 54), (3, .int x3), (4, .int x4), (5, .int (x5 + 1))] [] S2
            else
              bV ((mFn d) 132 [.ref 54, .int x5, .int x3] S2) (fun S3 =>
                mv (kX6_spreads (mFn d)) 68 [(0, .ref 54), (3, .int x3), (4, .int x4), (5, .int (x5 + 1))] [] S3))
      else
        mv (kX6_spreads (mFn d)) 68 [(0, .ref 54), (3, .int x3), (4, .int x4), (5, .int (x5 + 1))] [] S1) := mv_row (mmX6_spreads (mFn d)) (cuX6_spreads (mFn d)) 32 rfl
theorem cuX6_hearers (F : Nat → List Value → MS → Option MR) : mcuts (kX6_hearers F) [(4, [0, 1, 2])] := List.forall_mem_cons.mpr ⟨⟨oIload 2 5, rfl⟩, fun _ h => absurd h List.not_mem_nil⟩
set_option maxRecDepth 100000 in
theorem fX6_hearers (d : Nat) (S : MS) : mFn (d + 1) 134 [.ref 54] S =
  mv (kX6_hearers (mFn d)) 4 [(0, .ref 54), (1, .int 0), (2, .int 0)] [] S := (mFn_eq rfl).trans (mv_row (code := kX6_hearers (mFn d)) (mmX6_hearers (mFn d)) (cuX6_hearers (mFn d)) 5 rfl)
set_option maxRecDepth 100000 in
theorem lX6_hearers_4 (d : Nat) (x1 : Int32) (x2 : Int32) (S : MS) : mv (kX6_hearers (mFn d)) 4 [(0, .ref 54), (1, .int x1), (2, .int x2)] [] S =
  if (2 : Int32) < 0 ∨ 401 ≤ ((2 : Int32)).toNatClampNeg then none else
  if (S.1 55 ((2 : Int32)).toNatClampNeg) ≤ x2 then
    some (some (.int x1), S)
  else
    if x2 < 0 ∨ 8 ≤ (x2).toNatClampNeg then none else
    if (S.1 65 (x2).toNatClampNeg) < 0 then
      mv (kX6_hearers (mFn d)) 4 [(0, .ref 54), (1, .int (fOr x1 0)), (2, .int (x2 + 1))] [] S
    else
      mv (kX6_hearers (mFn d)) 4 [(0, .ref 54), (1, .int (fOr x1 (fShl 1 x2))), (2, .int (x2 + 1))] [] S := mv_row (mmX6_hearers (mFn d)) (cuX6_hearers (mFn d)) 21 rfl
theorem cuX6_spreadsNow (F : Nat → List Value → MS → Option MR) : mcuts (kX6_spreadsNow F) [] := fun _ h => absurd h List.not_mem_nil
set_option maxRecDepth 100000 in
theorem fX6_spreadsNow (d : Nat) (x1 : Int32) (x2 : Int32) (S : MS) : mFn (d + 1) 135 [.ref 54, .int x1, .int x2] S =
  bV ((mFn d) 130 [.ref 54] S) (fun S1 =>
    bI ((mFn d) 131 [.ref 54] S1) (fun y2 S2 =>
      bV ((mFn d) 133 [.ref 54, .int x1, .int x2, .int y2] S2) (fun S3 =>
        some (none, S3)))) := (mFn_eq rfl).trans (mv_row (code := kX6_spreadsNow (mFn d)) (mmX6_spreadsNow (mFn d)) (cuX6_spreadsNow (mFn d)) 10 rfl)
theorem cuX6_hears (F : Nat → List Value → MS → Option MR) : mcuts (kX6_hears F) [] := fun _ h => absurd h List.not_mem_nil
set_option maxRecDepth 100000 in
theorem fX6_hears (d : Nat) (x1 : Int32) (x2 : Int32) (S : MS) : mFn (d + 1) 136 [.ref 54, .int x1, .int x2] S =
  bI ((mFn d) 91 [.ref 54, .int x1] S) (fun y1 S1 =>
    if y1 = 0 then
      bI ((mFn d) 86 [.ref 54, .int (-1000000001)] S1) (fun y2 S2 =>
        some (some (.int y2), S2))
    else
      bI ((mFn d) 93 [.int x2] S1) (fun y3 S3 =>
        if y3 = 0 then
          bI ((mFn d) 86 [.ref 54, .int (-1000000001)] S3) (fun y4 S4 =>
            some (some (.int y4), S4))
        else
          bV ((mFn d) 135 [.ref 54, .int x1, .int x2] S3) (fun S5 =>
            bI ((mFn d) 134 [.ref 54] S5) (fun y6 S6 =>
              some (some (.int y6), S6))))) := (mFn_eq rfl).trans (mv_row (code := kX6_hears (mFn d)) (mmX6_hears (mFn d)) (cuX6_hears (mFn d)) 15 rfl)
theorem cuX6_heard (F : Nat → List Value → MS → Option MR) : mcuts (kX6_heard F) [] := fun _ h => absurd h List.not_mem_nil
set_option maxRecDepth 100000 in
theorem fX6_heard (d : Nat) (x1 : Int32) (x2 : Int32) (x3 : Int32) (x4 : Int32) (S : MS) : mFn (d + 1) 137 [.ref 54, .int x1, .int x2, .int x3, .int x4] S =
  bI ((mFn d) 91 [.ref 54, .int x1] S) (fun y1 S1 =>
    if y1 = 0 then
      bI ((mFn d) 86 [.ref 54, .int (-1000000001)] S1) (fun y2 S2 =>
        some (some (.int y2), S2))
    else
      bI ((mFn d) 93 [.int x2] S1) (fun y3 S3 =>
        if y3 = 0 then
          bI ((mFn d) 86 [.ref 54, .int (-1000000001)] S3) (fun y4 S4 =>
            some (some (.int y4), S4))
        else
          bI ((mFn d) 91 [.ref 54, .int x3] S3) (fun y5 S5 =>
            if y5 = 0 then
              bI ((mFn d) 86 [.ref 54, .int (-1000000001)] S5) (fun y6 S6 =>
                some (some (.int y6), S6))
            else
              bI ((mFn d) 87 [.int x4, .int 0, .int 1] S5) (fun y7 S7 =>
                if y7 = 0 then
                  bI ((mFn d) 86 [.ref 54, .int (-1000000001)] S7) (fun y8 S8 =>
                    some (some (.int y8), S8))
                else
                  bV ((mFn d) 135 [.ref 54, .int x1, .int x2] S7) (fun S9 =>
                    if x3 < 0 ∨ 8 ≤ (x3).toNatClampNeg then none else
                    if 0 ≤ (S9.1 65 (x3).toNatClampNeg) then
                      if x4 = 0 then
                        if x3 < 0 ∨ 8 ≤ (x3).toNatClampNeg then none else
                        some (some (.int (S9.1 65 (x3).toNatClampNeg)), S9)
                      else
                        if x3 < 0 ∨ 8 ≤ (x3).toNatClampNeg then none else
                        some (some (.int (S9.1 66 (x3).toNatClampNeg)), S9)
                    else
                      bI ((mFn d) 86 [.ref 54, .int (-1000000002)] S9) (fun y10 S10 =>
                        some (some (.int y10), S10))))))) := (mFn_eq rfl).trans (mv_row (code := kX6_heard (mFn d)) (mmX6_heard (mFn d)) (cuX6_heard (mFn d)) 34 rfl)
theorem cuX6_lets (F : Nat → List Value → MS → Option MR) : mcuts (kX6_lets F) [(8, [0, 3])] := List.forall_mem_cons.mpr ⟨⟨oIload 3 9, rfl⟩, fun _ h => absurd h List.not_mem_nil⟩
set_option maxRecDepth 100000 in
theorem fX6_lets (d : Nat) (x1 : Int32) (x2 : Int32) (S : MS) : mFn (d + 1) 138 [.ref 54, .int x1, .int x2] S =
  bV ((mFn d) 135 [.ref 54, .int x1, .int x2] S) (fun S1 =>
    mv (kX6_lets (mFn d)) 8 [(0, .ref 54), (3, .int 0)] [] S1) := (mFn_eq rfl).trans (mv_row (code := kX6_lets (mFn d)) (mmX6_lets (mFn d)) (cuX6_lets (mFn d)) 7 rfl)
set_option maxRecDepth 100000 in
theorem lX6_lets_8 (d : Nat) (x3 : Int32) (S : MS) : mv (kX6_lets (mFn d)) 8 [(0, .ref 54), (3, .int x3)] [] S =
  if (2 : Int32) < 0 ∨ 401 ≤ ((2 : Int32)).toNatClampNeg then none else
  if (S.1 55 ((2 : Int32)).toNatClampNeg) ≤ x3 then
    bI ((mFn d) 134 [.ref 54] S) (fun y1 S1 =>
      some (some (.int y1), S1))
  else
    if (fAdd (fAdd 7 (fMul 4 x3)) 3) < 0 ∨ 401 ≤ ((fAdd (fAdd 7 (fMul 4 x3)) 3)).toNatClampNeg then none else
    if x3 < 0 ∨ 8 ≤ (x3).toNatClampNeg then none else
    bI ((mFn d) 88 [.int (fAdd (S.1 55 ((fAdd (fAdd 7 (fMul 4 x3)) 3)).toNatClampNeg) (S.1 66 (x3).toNatClampNeg)), .int 0, .int 99999] S) (fun y2 S2 =>
      if (fAdd (fAdd 7 (fMul 4 x3)) 3) < 0 ∨ 401 ≤ ((fAdd (fAdd 7 (fMul 4 x3)) 3)).toNatClampNeg then none else
      mv (kX6_lets (mFn d)) 8 [(0, .ref 54), (3, .int (x3 + 1))] [] (uI S2 55 ((fAdd (fAdd 7 (fMul 4 x3)) 3)).toNatClampNeg y2)) := mv_row (mmX6_lets (mFn d)) (cuX6_lets (mFn d)) 33 rfl
theorem cuX6_let (F : Nat → List Value → MS → Option MR) : mcuts (kX6_let F) [] := fun _ h => absurd h List.not_mem_nil
set_option maxRecDepth 100000 in
theorem fX6_let (d : Nat) (x1 : Int32) (x2 : Int32) (S : MS) : mFn (d + 1) 139 [.ref 54, .int x1, .int x2] S =
  bI ((mFn d) 91 [.ref 54, .int x1] S) (fun y1 S1 =>
    if y1 = 0 then
      bI ((mFn d) 86 [.ref 54, .int (-1000000001)] S1) (fun y2 S2 =>
        some (some (.int y2), S2))
    else
      bI ((mFn d) 93 [.int x2] S1) (fun y3 S3 =>
        if y3 = 0 then
          bI ((mFn d) 86 [.ref 54, .int (-1000000001)] S3) (fun y4 S4 =>
            some (some (.int y4), S4))
        else
          bI ((mFn d) 138 [.ref 54, .int x1, .int x2] S3) (fun y5 S5 =>
            some (some (.int y5), S5)))) := (mFn_eq rfl).trans (mv_row (code := kX6_let (mFn d)) (mmX6_let (mFn d)) (cuX6_let (mFn d)) 14 rfl)
theorem cuX6_days (F : Nat → List Value → MS → Option MR) : mcuts (kX6_days F) [(40, [0, 1, 2]), (47, [0, 1, 2, 3])] := List.forall_mem_cons.mpr ⟨⟨oIload 2 41, rfl⟩, List.forall_mem_cons.mpr ⟨⟨oIload 3 48, rfl⟩, fun _ h => absurd h List.not_mem_nil⟩⟩
set_option maxRecDepth 100000 in
theorem fX6_days (d : Nat) (x1 : Int32) (S : MS) : mFn (d + 1) 140 [.ref 54, .int x1] S =
  bI ((mFn d) 87 [.int x1, .int 1, .int 30] S) (fun y1 S1 =>
    if y1 = 0 then
      bI ((mFn d) 86 [.ref 54, .int (-1000000001)] S1) (fun y2 S2 =>
        some (some (.int y2), S2))
    else
      if (0 : Int32) < 0 ∨ 401 ≤ ((0 : Int32)).toNatClampNeg then none else
      if (fAdd (S1.1 55 ((0 : Int32)).toNatClampNeg) x1) ≤ 9999 then
        mv (kX6_days (mFn d)) 40 [(0, .ref 54), (1, .int x1), (2, .int 0)] [] S1
      else
        bI ((mFn d) 86 [.ref 54, .int (-1000000003)] S1) (fun y3 S3 =>
          some (some (.int y3), S3))) := (mFn_eq rfl).trans (mv_row (code := kX6_days (mFn d)) (mmX6_days (mFn d)) (cuX6_days (mFn d)) 18 rfl)
set_option maxRecDepth 100000 in
theorem lX6_days_40 (d : Nat) (x1 : Int32) (x2 : Int32) (S : MS) : mv (kX6_days (mFn d)) 40 [(0, .ref 54), (1, .int x1), (2, .int x2)] [] S =
  if x1 ≤ x2 then
    if (0 : Int32) < 0 ∨ 401 ≤ ((0 : Int32)).toNatClampNeg then none else
    if (0 : Int32) < 0 ∨ 401 ≤ ((0 : Int32)).toNatClampNeg then none else
    if (0 : Int32) < 0 ∨ 401 ≤ ((0 : Int32)).toNatClampNeg then none else
    some (some (.int ((uI S 55 ((0 : Int32)).toNatClampNeg (fAdd (S.1 55 ((0 : Int32)).toNatClampNeg) x1)).1 55 ((0 : Int32)).toNatClampNeg)), (uI S 55 ((0 : Int32)).toNatClampNeg (fAdd (S.1 55 ((0 : Int32)).toNatClampNeg) x1)))
  else
    mv (kX6_days (mFn d)) 47 [(0, .ref 54), (1, .int x1), (2, .int x2), (3, .int 0)] [] S := mv_row (mmX6_days (mFn d)) (cuX6_days (mFn d)) 17 rfl
set_option maxRecDepth 100000 in
theorem lX6_days_47 (d : Nat) (x1 : Int32) (x2 : Int32) (x3 : Int32) (S : MS) : mv (kX6_days (mFn d)) 47 [(0, .ref 54), (1, .int x1), (2, .int x2), (3, .int x3)] [] S =
  if (2 : Int32) < 0 ∨ 401 ≤ ((2 : Int32)).toNatClampNeg then none else
  if (S.1 55 ((2 : Int32)).toNatClampNeg) ≤ x3 then
    mv (kX6_days (mFn d)) 40 [(0, .ref 54), (1, .int x1), (2, .int (x2 + 1))] [] S
  else
    if (fAdd (fAdd 7 (fMul 4 x3)) 3) < 0 ∨ 401 ≤ ((fAdd (fAdd 7 (fMul 4 x3)) 3)).toNatClampNeg then none else
    bI ((mFn d) 95 [.ref 54, .int x3, .int 3] S) (fun y1 S1 =>
      if (4 : Int32) = 0 then none else
      if (fAdd (fAdd 7 (fMul 4 x3)) 3) < 0 ∨ 401 ≤ ((fAdd (fAdd 7 (fMul 4 x3)) 3)).toNatClampNeg then none else
      mv (kX6_days (mFn d)) 47 [(0, .ref 54), (1, .int x1), (2, .int x2), (3, .int (x3 + 1))] [] (uI S1 55 ((fAdd (fAdd 7 (fMul 4 x3)) 3)).toNatClampNeg (fSub (S.1 55 ((fAdd (fAdd 7 (fMul 4 x3)) 3)).toNatClampNeg) (y1 / 4)))) := mv_row (mmX6_days (mFn d)) (cuX6_days (mFn d)) 28 rfl
theorem cuX6_draw (F : Nat → List Value → MS → Option MR) : mcuts (kX6_draw F) [] := fun _ h => absurd h List.not_mem_nil
set_option maxRecDepth 100000 in
theorem fX6_draw (d : Nat) (S : MS) : mFn (d + 1) 141 [.ref 54] S =
  if (1 : Int32) < 0 ∨ 401 ≤ ((1 : Int32)).toNatClampNeg then none else
  if (1 : Int32) < 0 ∨ 401 ≤ ((1 : Int32)).toNatClampNeg then none else
  if (1 : Int32) < 0 ∨ 401 ≤ ((1 : Int32)).toNatClampNeg then none else
  some (some (.int (fUshr ((uI S 55 ((1 : Int32)).toNatClampNeg (fAdd (fMul (S.1 55 ((1 : Int32)).toNatClampNeg) 1103515245) 12345)).1 55 ((1 : Int32)).toNatClampNeg) 8)), (uI S 55 ((1 : Int32)).toNatClampNeg (fAdd (fMul (S.1 55 ((1 : Int32)).toNatClampNeg) 1103515245) 12345))) := (mFn_eq rfl).trans (mv_row (code := kX6_draw (mFn d)) (mmX6_draw (mFn d)) (cuX6_draw (mFn d)) 20 rfl)
theorem cuX6_loose (F : Nat → List Value → MS → Option MR) : mcuts (kX6_loose F) [(42, [0, 1, 2, 3])] := List.forall_mem_cons.mpr ⟨⟨oIload 3 43, rfl⟩, fun _ h => absurd h List.not_mem_nil⟩
set_option maxRecDepth 100000 in
theorem fX6_loose (d : Nat) (x1 : Int32) (S : MS) : mFn (d + 1) 142 [.ref 54, .int x1] S =
  bI ((mFn d) 87 [.int x1, .int 1, .int 20] S) (fun y1 S1 =>
    if y1 = 0 then
      bI ((mFn d) 86 [.ref 54, .int (-1000000001)] S1) (fun y2 S2 =>
        some (some (.int y2), S2))
    else
      if (0 : Int32) < 0 ∨ 401 ≤ ((0 : Int32)).toNatClampNeg then none else
      if (fAdd (S1.1 55 ((0 : Int32)).toNatClampNeg) x1) ≤ 9999 then
        mv (kX6_loose (mFn d)) 42 [(0, .ref 54), (1, .int x1), (2, .int 0), (3, .int 0)] [] S1
      else
        bI ((mFn d) 86 [.ref 54, .int (-1000000003)] S1) (fun y3 S3 =>
          some (some (.int y3), S3))) := (mFn_eq rfl).trans (mv_row (code := kX6_loose (mFn d)) (mmX6_loose (mFn d)) (cuX6_loose (mFn d)) 18 rfl)
set_option maxRecDepth 100000 in
theorem lX6_loose_42 (d : Nat) (x1 : Int32) (x2 : Int32) (x3 : Int32) (S : MS) : mv (kX6_loose (mFn d)) 42 [(0, .ref 54), (1, .int x1), (2, .int x2), (3, .int x3)] [] S =
  if x1 ≤ x3 then
    some (some (.int x2), S)
  else
    bI ((mFn d) 141 [.ref 54] S) (fun y1 S1 =>
      if (10 : Int32) = 0 then none else
      if (4 : Int32) < 0 ∨ 401 ≤ ((4 : Int32)).toNatClampNeg then none else
      if (2 : Int32) < 0 ∨ 401 ≤ ((2 : Int32)).toNatClampNeg then none else
      if ((uI S1 55 ((4 : Int32)).toNatClampNeg (y1 - y1 / 10 * 10)).1 55 ((2 : Int32)).toNatClampNeg) ≤ 0 then
        if (0 : Int32) < 0 ∨ 401 ≤ ((0 : Int32)).toNatClampNeg then none else
        if (0 : Int32) < 0 ∨ 401 ≤ ((0 : Int32)).toNatClampNeg then none else
        mv (kX6_loose (mFn d)) 42 [(0, .ref 54), (1, .int x1), (2, .int x2), (3, .int (x3 + 1))] [] (uI (uI S1 55 ((4 : Int32)).toNatClampNeg (y1 - y1 / 10 * 10)) 55 ((0 : Int32)).toNatClampNeg (fAdd ((uI S1 55 ((4 : Int32)).toNatClampNeg (y1 - y1 / 10 * 10)).1 55 ((0 : Int32)).toNatClampNeg) 1))
      else
        bI ((mFn d) 141 [.ref 54] (uI S1 55 ((4 : Int32)).toNatClampNeg (y1 - y1 / 10 * 10))) (fun y2 S2 =>
          if (2 : Int32) < 0 ∨ 401 ≤ ((2 : Int32)).toNatClampNeg then none else
          if (S2.1 55 ((2 : Int32)).toNatClampNeg) = 0 then none else
          bI ((mFn d) 141 [.ref 54] S2) (fun y3 S3 =>
            if (20 : Int32) = 0 then none else
            bI ((mFn d) 138 [.ref 54, .int (y2 - y2 / (S2.1 55 ((2 : Int32)).toNatClampNeg) * (S2.1 55 ((2 : Int32)).toNatClampNeg)), .int (fAdd 1 (y3 - y3 / 20 * 20))] S3) (fun y4 S4 =>
              if (0 : Int32) < 0 ∨ 401 ≤ ((0 : Int32)).toNatClampNeg then none else
              if (0 : Int32) < 0 ∨ 401 ≤ ((0 : Int32)).toNatClampNeg then none else
              mv (kX6_loose (mFn d)) 42 [(0, .ref 54), (1, .int x1), (2, .int (fOr x2 y4)), (3, .int (x3 + 1))] [] (uI S4 55 ((0 : Int32)).toNatClampNeg (fAdd (S4.1 55 ((0 : Int32)).toNatClampNeg) 1)))))) := mv_row (mmX6_loose (mFn d)) (cuX6_loose (mFn d)) 47 rfl
theorem cuX6_seed (F : Nat → List Value → MS → Option MR) : mcuts (kX6_seed F) [] := fun _ h => absurd h List.not_mem_nil
set_option maxRecDepth 100000 in
theorem fX6_seed (d : Nat) (x1 : Int32) (S : MS) : mFn (d + 1) 143 [.ref 54, .int x1] S =
  bI ((mFn d) 94 [.ref 54, .int 1, .int x1] S) (fun y1 S1 =>
    some (some (.int y1), S1)) := (mFn_eq rfl).trans (mv_row (code := kX6_seed (mFn d)) (mmX6_seed (mFn d)) (cuX6_seed (mFn d)) 6 rfl)
theorem cuX6_hush (F : Nat → List Value → MS → Option MR) : mcuts (kX6_hush F) [(68, [0, 1, 2, 3, 4, 5, 6, 7])] := List.forall_mem_cons.mpr ⟨⟨oIload 7 70, rfl⟩, fun _ h => absurd h List.not_mem_nil⟩
set_option maxRecDepth 100000 in
theorem fX6_hush (d : Nat) (x1 : Int32) (x2 : Int32) (x3 : Int32) (x4 : Int32) (S : MS) : mFn (d + 1) 144 [.ref 54, .int x1, .int x2, .int x3, .int x4] S =
  bI ((mFn d) 91 [.ref 54, .int x1] S) (fun y1 S1 =>
    if y1 = 0 then
      bI ((mFn d) 86 [.ref 54, .int (-1000000001)] S1) (fun y2 S2 =>
        some (some (.int y2), S2))
    else
      bI ((mFn d) 93 [.int x2] S1) (fun y3 S3 =>
        if y3 = 0 then
          bI ((mFn d) 86 [.ref 54, .int (-1000000001)] S3) (fun y4 S4 =>
            some (some (.int y4), S4))
        else
          bI ((mFn d) 91 [.ref 54, .int x3] S3) (fun y5 S5 =>
            if y5 = 0 then
              bI ((mFn d) 86 [.ref 54, .int (-1000000001)] S5) (fun y6 S6 =>
                some (some (.int y6), S6))
            else
              bI ((mFn d) 87 [.int x4, .int 0, .int 1] S5) (fun y7 S7 =>
                if y7 = 0 then
                  bI ((mFn d) 86 [.ref 54, .int (-1000000001)] S7) (fun y8 S8 =>
                    some (some (.int y8), S8))
                else
                  if x1 = x3 then
                    bI ((mFn d) 86 [.ref 54, .int (-1000000003)] S7) (fun y9 S9 =>
                      some (some (.int y9), S9))
                  else
                    bV ((mFn d) 130 [.ref 54] S7) (fun S10 =>
                      bI ((mFn d) 131 [.ref 54] S10) (fun y11 S11 =>
                        mv (kX6_hush (mFn d)) 68 [(0, .ref 54), (1, .int x1), (2, .int x2), (3, .int x3), (4, .int x4), (5, .int y11), (6, .int (-1)), (7, .int 0)] [] S11)))))) := (mFn_eq rfl).trans (mv_row (code := kX6_hush (mFn d)) (mmX6_hush (mFn d)) (cuX6_hush (mFn d)) 29 rfl)
set_option maxRecDepth 100000 in
theorem lX6_hush_68 (d : Nat) (x1 : Int32) (x2 : Int32) (x3 : Int32) (x4 : Int32) (x5 : Int32) (x6 : Int32) (x7 : Int32) (S : MS) : mv (kX6_hush (mFn d)) 68 [(0, .ref 54), (1, .int x1), (2, .int x2), (3, .int x3), (4, .int x4), (5, .int x5), (6, .int x6), (7, .int x7)] [] S =
  if x5 < x7 then
    if x4 = 0 then
      bI ((mFn d) 90 [.int x6] S) (fun y1 S1 =>
        some (some (.int y1), S1))
    else
      some (some (.int x6), S)
  else
    if (fAnd x7 (fXor x5 (-1))) = 0 then
      if x6 < 0 then
        bV ((mFn d) 133 [.ref 54, .int x1, .int x2, .int (fAnd x5 (fXor x7 (-1)))] S) (fun S2 =>
          if x3 < 0 ∨ 8 ≤ (x3).toNatClampNeg then none else
          if 0 ≤ (S2.1 65 (x3).toNatClampNeg) then
            mv (kX6_hush (mFn d)) 68 [(0, .ref 54), (1, .int x1), (2, .int x2), (3, .int x3), (4, .int x4), (5, .int x5), (6, .int x6), (7, .int (x7 + 1))] [] S2
          else
            mv (kX6_hush (mFn d)) 68 [(0, .ref 54), (1, .int x1), (2, .int x2), (3, .int x3), (4, .int x4), (5, .int x5), (6, .int x7), (7, .int (x7 + 1))] [] S2)
      else
        bI ((mFn d) 90 [.int x7] S) (fun y3 S3 =>
          bI ((mFn d) 90 [.int x6] S3) (fun y4 S4 =>
            if y4 ≤ y3 then
              mv (kX6_hush (mFn d)) 68 [(0, .ref 54), (1, .int x1), (2, .int x2), (3, .int x3), (4, .int x4), (5, .int x5), (6, .int x6), (7, .int (x7 + 1))] [] S4
            else
              bV ((mFn d) 133 [.ref 54, .int x1, .int x2, .int (fAnd x5 (fXor x7 (-1)))] S4) (fun S5 =>
                if x3 < 0 ∨ 8 ≤ (x3).toNatClampNeg then none else
                if 0 ≤ (S5.1 65 (x3).toNatClampNeg) then
                  mv (kX6_hush (mFn d)) 68 [(0, .ref 54), (1, .int x1), (2, .int x2), (3, .int x3), (4, .int x4), (5, .int x5), (6, .int x6), (7, .int (x7 + 1))] [] S5
                else
                  mv (kX6_hush (mFn d)) 68 [(0, .ref 54), (1, .int x1), (2, .int x2), (3, .int x3), (4, .int x4), (5, .int x5), (6, .int x7), (7, .int (x7 + 1))] [] S5)))
    else
      mv (kX6_hush (mFn d)) 68 [(0, .ref 54), (1, .int x1), (2, .int x2), (3, .int x3), (4, .int x4), (5, .int x5), (6, .int x6), (7, .int (x7 + 1))] [] S := mv_row (mmX6_hush (mFn d)) (cuX6_hush (mFn d)) 36 rfl
theorem cuX6_reach (F : Nat → List Value → MS → Option MR) : mcuts (kX6_reach F) [(84, [0, 1, 2, 3, 4, 5, 6, 7, 8, 9])] := List.forall_mem_cons.mpr ⟨⟨oIload 9 86, rfl⟩, fun _ h => absurd h List.not_mem_nil⟩
set_option maxRecDepth 100000 in
theorem fX6_reach (d : Nat) (x1 : Int32) (x2 : Int32) (x3 : Int32) (x4 : Int32) (x5 : Int32) (S : MS) : mFn (d + 1) 145 [.ref 54, .int x1, .int x2, .int x3, .int x4, .int x5] S =
  bI ((mFn d) 91 [.ref 54, .int x1] S) (fun y1 S1 =>
    if y1 = 0 then
      bI ((mFn d) 86 [.ref 54, .int (-1000000001)] S1) (fun y2 S2 =>
        some (some (.int y2), S2))
    else
      bI ((mFn d) 93 [.int x2] S1) (fun y3 S3 =>
        if y3 = 0 then
          bI ((mFn d) 86 [.ref 54, .int (-1000000001)] S3) (fun y4 S4 =>
            some (some (.int y4), S4))
        else
          bI ((mFn d) 91 [.ref 54, .int x3] S3) (fun y5 S5 =>
            if y5 = 0 then
              bI ((mFn d) 86 [.ref 54, .int (-1000000001)] S5) (fun y6 S6 =>
                some (some (.int y6), S6))
            else
              bI ((mFn d) 87 [.int x4, .int 0, .int 99] S5) (fun y7 S7 =>
                if y7 = 0 then
                  bI ((mFn d) 86 [.ref 54, .int (-1000000001)] S7) (fun y8 S8 =>
                    some (some (.int y8), S8))
                else
                  bI ((mFn d) 87 [.int x5, .int 0, .int 1] S7) (fun y9 S9 =>
                    if y9 = 0 then
                      bI ((mFn d) 86 [.ref 54, .int (-1000000001)] S9) (fun y10 S10 =>
                        some (some (.int y10), S10))
                    else
                      bV ((mFn d) 130 [.ref 54] S9) (fun S11 =>
                        bI ((mFn d) 131 [.ref 54] S11) (fun y12 S12 =>
                          if (3 : Int32) < 0 ∨ 401 ≤ ((3 : Int32)).toNatClampNeg then none else
                          mv (kX6_reach (mFn d)) 84 [(0, .ref 54), (1, .int x1), (2, .int x2), (3, .int x3), (4, .int x4), (5, .int x5), (6, .int y12), (7, .int (fAnd (fSub (fShl 1 (S12.1 55 ((3 : Int32)).toNatClampNeg)) 1) (fXor y12 (-1)))), (8, .int (-1)), (9, .int 0)] [] S12))))))) := (mFn_eq rfl).trans (mv_row (code := kX6_reach (mFn d)) (mmX6_reach (mFn d)) (cuX6_reach (mFn d)) 44 rfl)
set_option maxRecDepth 100000 in
theorem lX6_reach_84 (d : Nat) (x1 : Int32) (x2 : Int32) (x3 : Int32) (x4 : Int32) (x5 : Int32) (x6 : Int32) (x7 : Int32) (x8 : Int32) (x9 : Int32) (S : MS) : mv (kX6_reach (mFn d)) 84 [(0, .ref 54), (1, .int x1), (2, .int x2), (3, .int x3), (4, .int x4), (5, .int x5), (6, .int x6), (7, .int x7), (8, .int x8), (9, .int x9)] [] S =
  if x7 < x9 then
    if 0 ≤ x8 then
      if x5 = 0 then
        bI ((mFn d) 90 [.int x8] S) (fun y1 S1 =>
          some (some (.int y1), S1))
      else
        some (some (.int x8), S)
    else
      bI ((mFn d) 86 [.ref 54, .int (-1000000002)] S) (fun y2 S2 =>
        some (some (.int y2), S2))
  else
    if (fAnd x9 (fXor x7 (-1))) = 0 then
      if x8 < 0 then
        bV ((mFn d) 133 [.ref 54, .int x1, .int x2, .int (fOr x6 x9)] S) (fun S3 =>
          if x3 < 0 ∨ 8 ≤ (x3).toNatClampNeg then none else
          bI ((mFn d) 87 [.int (S3.1 65 (x3).toNatClampNeg), .int 0, .int x4] S3) (fun y4 S4 =>
            if y4 = 0 then
              mv (kX6_reach (mFn d)) 84 [(0, .ref 54), (1, .int x1), (2, .int x2), (3, .int x3), (4, .int x4), (5, .int x5), (6, .int x6), (7, .int x7), (8, .int x8), (9, .int (x9 + 1))] [] S4
            else
              mv (kX6_reach (mFn d)) 84 [(0, .ref 54), (1, .int x1), (2, .int x2), (3, .int x3), (4, .int x4), (5, .int x5), (6, .int x6), (7, .int x7), (8, .int x9), (9, .int (x9 + 1))] [] S4))
      else
        bI ((mFn d) 90 [.int x9] S) (fun y5 S5 =>
          bI ((mFn d) 90 [.int x8] S5) (fun y6 S6 =>
            if y6 ≤ y5 then
              mv (kX6_reach (mFn d)) 84 [(0, .ref 54), (1, .int x1), (2, .int x2), (3, .int x3), (4, .int x4), (5, .int x5), (6, .int x6), (7, .int x7), (8, .int x8), (9, .int (x9 + 1))] [] S6
            else
              bV ((mFn d) 133 [.ref 54, .int x1, .int x2, .int (fOr x6 x9)] S6) (fun S7 =>
                if x3 < 0 ∨ 8 ≤ (x3).toNatClampNeg then none else
                bI ((mFn d) 87 [.int (S7.1 65 (x3).toNatClampNeg), .int 0, .int x4] S7) (fun y8 S8 =>
                  if y8 = 0 then
                    mv (kX6_reach (mFn d)) 84 [(0, .ref 54), (1, .int x1), (2, .int x2), (3, .int x3), (4, .int x4), (5, .int x5), (6, .int x6), (7, .int x7), (8, .int x8), (9, .int (x9 + 1))] [] S8
                  else
                    mv (kX6_reach (mFn d)) 84 [(0, .ref 54), (1, .int x1), (2, .int x2), (3, .int x3), (4, .int x4), (5, .int x5), (6, .int x6), (7, .int x7), (8, .int x9), (9, .int (x9 + 1))] [] S8))))
    else
      mv (kX6_reach (mFn d)) 84 [(0, .ref 54), (1, .int x1), (2, .int x2), (3, .int x3), (4, .int x4), (5, .int x5), (6, .int x6), (7, .int x7), (8, .int x8), (9, .int (x9 + 1))] [] S := mv_row (mmX6_reach (mFn d)) (cuX6_reach (mFn d)) 37 rfl
theorem cuX6_odds (F : Nat → List Value → MS → Option MR) : mcuts (kX6_odds F) [(45, [0, 1, 2, 3, 4, 5, 6]), (92, [3, 4, 5, 6])] := List.forall_mem_cons.mpr ⟨⟨oIload 6 47, rfl⟩, List.forall_mem_cons.mpr ⟨⟨oIload 6 94, rfl⟩, fun _ h => absurd h List.not_mem_nil⟩⟩
set_option maxRecDepth 100000 in
theorem fX6_odds (d : Nat) (x1 : Int32) (x2 : Int32) (x3 : Int32) (S : MS) : mFn (d + 1) 146 [.ref 54, .int x1, .int x2, .int x3] S =
  bI ((mFn d) 91 [.ref 54, .int x1] S) (fun y1 S1 =>
    if y1 = 0 then
      bI ((mFn d) 86 [.ref 54, .int (-1000000001)] S1) (fun y2 S2 =>
        some (some (.int y2), S2))
    else
      bI ((mFn d) 93 [.int x2] S1) (fun y3 S3 =>
        if y3 = 0 then
          bI ((mFn d) 86 [.ref 54, .int (-1000000001)] S3) (fun y4 S4 =>
            some (some (.int y4), S4))
        else
          bI ((mFn d) 87 [.int x3, .int 0, .int 1] S3) (fun y5 S5 =>
            if y5 = 0 then
              bI ((mFn d) 86 [.ref 54, .int (-1000000001)] S5) (fun y6 S6 =>
                some (some (.int y6), S6))
            else
              if (2 : Int32) < 0 ∨ 401 ≤ ((2 : Int32)).toNatClampNeg then none else
              mv (kX6_odds (mFn d)) 45 [(0, .ref 54), (1, .int x1), (2, .int x2), (3, .int x3), (4, .int 0), (5, .int (S5.1 55 ((2 : Int32)).toNatClampNeg)), (6, .int 0)] [] S5))) := (mFn_eq rfl).trans (mv_row (code := kX6_odds (mFn d)) (mmX6_odds (mFn d)) (cuX6_odds (mFn d)) 22 rfl)
set_option maxRecDepth 100000 in
theorem lX6_odds_45 (d : Nat) (x1 : Int32) (x2 : Int32) (x3 : Int32) (x4 : Int32) (x5 : Int32) (x6 : Int32) (S : MS) : mv (kX6_odds (mFn d)) 45 [(0, .ref 54), (1, .int x1), (2, .int x2), (3, .int x3), (4, .int x4), (5, .int x5), (6, .int x6)] [] S =
  if (2 : Int32) < 0 ∨ 401 ≤ ((2 : Int32)).toNatClampNeg then none else
  if (S.1 55 ((2 : Int32)).toNatClampNeg) ≤ x6 then
    mv (kX6_odds (mFn d)) 92 [(3, .int x3), (4, .int x4), (5, .int x5), (6, .int x5)] [] S
  else
    bV ((mFn d) 135 [.ref 54, .int x6, .int x2] S) (fun S1 =>
      if x1 < 0 ∨ 8 ≤ (x1).toNatClampNeg then none else
      if (S1.1 65 (x1).toNatClampNeg) < 0 then
        mv (kX6_odds (mFn d)) 45 [(0, .ref 54), (1, .int x1), (2, .int x2), (3, .int x3), (4, .int (fAdd x4 0)), (5, .int x5), (6, .int (x6 + 1))] [] S1
      else
        mv (kX6_odds (mFn d)) 45 [(0, .ref 54), (1, .int x1), (2, .int x2), (3, .int x3), (4, .int (fAdd x4 1)), (5, .int x5), (6, .int (x6 + 1))] [] S1) := mv_row (mmX6_odds (mFn d)) (cuX6_odds (mFn d)) 23 rfl
set_option maxRecDepth 100000 in
theorem lX6_odds_92 (d : Nat) (x3 : Int32) (x4 : Int32) (x5 : Int32) (x6 : Int32) (S : MS) : mv (kX6_odds (mFn d)) 92 [(3, .int x3), (4, .int x4), (5, .int x5), (6, .int x6)] [] S =
  if x6 ≤ 1 then
    if x3 = 0 then
      some (some (.int x4), S)
    else
      some (some (.int x5), S)
  else
    if x6 = 0 then none else
    if (x4 - x4 / x6 * x6) = 0 then
      if x6 = 0 then none else
      if (x5 - x5 / x6 * x6) = 0 then
        if x6 = 0 then none else
        if x6 = 0 then none else
        mv (kX6_odds (mFn d)) 92 [(3, .int x3), (4, .int (x4 / x6)), (5, .int (x5 / x6)), (6, .int (x6 + (-1)))] [] S
      else
        mv (kX6_odds (mFn d)) 92 [(3, .int x3), (4, .int x4), (5, .int x5), (6, .int (x6 + (-1)))] [] S
    else
      mv (kX6_odds (mFn d)) 92 [(3, .int x3), (4, .int x4), (5, .int x5), (6, .int (x6 + (-1)))] [] S := mv_row (mmX6_odds (mFn d)) (cuX6_odds (mFn d)) 22 rfl
theorem cuX6_isSo (F : Nat → List Value → MS → Option MR) : mcuts (kX6_isSo F) [(23, [0, 1, 2, 3])] := List.forall_mem_cons.mpr ⟨⟨oIload 3 24, rfl⟩, fun _ h => absurd h List.not_mem_nil⟩
set_option maxRecDepth 100000 in
theorem fX6_isSo (d : Nat) (x1 : Int32) (S : MS) : mFn (d + 1) 147 [.ref 54, .int x1] S =
  if x1 < 0 ∨ 4 ≤ (x1).toNatClampNeg then none else
  if (2 : Int32) < 0 ∨ 401 ≤ ((2 : Int32)).toNatClampNeg then none else
  if (S.1 55 ((2 : Int32)).toNatClampNeg) < (S.1 59 (x1).toNatClampNeg) then
    mv (kX6_isSo (mFn d)) 23 [(0, .ref 54), (1, .int x1), (2, .int 0), (3, .int 0)] [] S
  else
    mv (kX6_isSo (mFn d)) 23 [(0, .ref 54), (1, .int x1), (2, .int 1), (3, .int 0)] [] S := (mFn_eq rfl).trans (mv_row (code := kX6_isSo (mFn d)) (mmX6_isSo (mFn d)) (cuX6_isSo (mFn d)) 15 rfl)
set_option maxRecDepth 100000 in
theorem lX6_isSo_23 (d : Nat) (x1 : Int32) (x2 : Int32) (x3 : Int32) (S : MS) : mv (kX6_isSo (mFn d)) 23 [(0, .ref 54), (1, .int x1), (2, .int x2), (3, .int x3)] [] S =
  if x1 < 0 ∨ 4 ≤ (x1).toNatClampNeg then none else
  if (S.1 59 (x1).toNatClampNeg) ≤ x3 then
    if x2 = 0 ∨ x2 = 1 then some (some (.int x2), S) else none
  else
    if x2 = 0 then
      if x2 = 0 ∨ x2 = 1 then some (some (.int x2), S) else none
    else
      if (fAdd (fMul 24 x1) x3) < 0 ∨ 96 ≤ ((fAdd (fMul 24 x1) x3)).toNatClampNeg then none else
      if x3 < 0 ∨ 8 ≤ (x3).toNatClampNeg then none else
      if (S.1 60 ((fAdd (fMul 24 x1) x3)).toNatClampNeg) = (S.1 66 (x3).toNatClampNeg) then
        mv (kX6_isSo (mFn d)) 23 [(0, .ref 54), (1, .int x1), (2, .int 1), (3, .int (x3 + 1))] [] S
      else
        mv (kX6_isSo (mFn d)) 23 [(0, .ref 54), (1, .int x1), (2, .int 0), (3, .int (x3 + 1))] [] S := mv_row (mmX6_isSo (mFn d)) (cuX6_isSo (mFn d)) 27 rfl
theorem cuX6_fits (F : Nat → List Value → MS → Option MR) : mcuts (kX6_fits F) [(54, [0, 1, 2, 3, 4, 5]), (63, [0, 1, 2, 3, 4, 5, 6])] := List.forall_mem_cons.mpr ⟨⟨oIload 5 56, rfl⟩, List.forall_mem_cons.mpr ⟨⟨oIload 6 65, rfl⟩, fun _ h => absurd h List.not_mem_nil⟩⟩
set_option maxRecDepth 100000 in
theorem fX6_fits (d : Nat) (x1 : Int32) (x2 : Int32) (S : MS) : mFn (d + 1) 148 [.ref 54, .int x1, .int x2] S =
  bI ((mFn d) 162 [.int x1] S) (fun y1 S1 =>
    if y1 = 0 then
      bI ((mFn d) 86 [.ref 54, .int (-1000000001)] S1) (fun y2 S2 =>
        some (some (.int y2), S2))
    else
      bI ((mFn d) 87 [.int x2, .int 0, .int 1] S1) (fun y3 S3 =>
        if y3 = 0 then
          bI ((mFn d) 86 [.ref 54, .int (-1000000001)] S3) (fun y4 S4 =>
            some (some (.int y4), S4))
        else
          if x1 < 0 ∨ 4 ≤ (x1).toNatClampNeg then none else
          if (S3.1 58 (x1).toNatClampNeg) = 0 then
            bI ((mFn d) 86 [.ref 54, .int (-1000000002)] S3) (fun y5 S5 =>
              some (some (.int y5), S5))
          else
            if (2 : Int32) < 0 ∨ 401 ≤ ((2 : Int32)).toNatClampNeg then none else
            mv (kX6_fits (mFn d)) 54 [(0, .ref 54), (1, .int x1), (2, .int x2), (3, .int 0), (4, .int (-1)), (5, .int (fSub (S3.1 55 ((2 : Int32)).toNatClampNeg) 1))] [] S3)) := (mFn_eq rfl).trans (mv_row (code := kX6_fits (mFn d)) (mmX6_fits (mFn d)) (cuX6_fits (mFn d)) 25 rfl)
set_option maxRecDepth 100000 in
theorem lX6_fits_54 (d : Nat) (x1 : Int32) (x2 : Int32) (x3 : Int32) (x4 : Int32) (x5 : Int32) (S : MS) : mv (kX6_fits (mFn d)) 54 [(0, .ref 54), (1, .int x1), (2, .int x2), (3, .int x3), (4, .int x4), (5, .int x5)] [] S =
  if x5 < 0 then
    if x2 = 0 then
      some (some (.int x3), S)
    else
      if 0 ≤ x4 then
        some (some (.int x4), S)
      else
        bI ((mFn d) 86 [.ref 54, .int (-1000000002)] S) (fun y1 S1 =>
          some (some (.int y1), S1))
  else
    mv (kX6_fits (mFn d)) 63 [(0, .ref 54), (1, .int x1), (2, .int x2), (3, .int x3), (4, .int x4), (5, .int x5), (6, .int 20)] [] S := mv_row (mmX6_fits (mFn d)) (cuX6_fits (mFn d)) 12 rfl
set_option maxRecDepth 100000 in
theorem lX6_fits_63 (d : Nat) (x1 : Int32) (x2 : Int32) (x3 : Int32) (x4 : Int32) (x5 : Int32) (x6 : Int32) (S : MS) : mv (kX6_fits (mFn d)) 63 [(0, .ref 54), (1, .int x1), (2, .int x2), (3, .int x3), (4, .int x4), (5, .int x5), (6, .int x6)] [] S =
  if x6 < 1 then
    mv (kX6_fits (mFn d)) 54 [(0, .ref 54), (1, .int x1), (2, .int x2), (3, .int x3), (4, .int x4), (5, .int (x5 + (-1)))] [] S
  else
    bV ((mFn d) 135 [.ref 54, .int x5, .int x6] S) (fun S1 =>
      bI ((mFn d) 147 [.ref 54, .int x1] S1) (fun y2 S2 =>
        if y2 = 0 then
          if y2 = 0 then
            mv (kX6_fits (mFn d)) 63 [(0, .ref 54), (1, .int x1), (2, .int x2), (3, .int (fAdd x3 0)), (4, .int x4), (5, .int x5), (6, .int (x6 + (-1)))] [] S2
          else
            mv (kX6_fits (mFn d)) 63 [(0, .ref 54), (1, .int x1), (2, .int x2), (3, .int (fAdd x3 0)), (4, .int (fAdd (fMul 100 x5) x6)), (5, .int x5), (6, .int (x6 + (-1)))] [] S2
        else
          if y2 = 0 then
            mv (kX6_fits (mFn d)) 63 [(0, .ref 54), (1, .int x1), (2, .int x2), (3, .int (fAdd x3 1)), (4, .int x4), (5, .int x5), (6, .int (x6 + (-1)))] [] S2
          else
            mv (kX6_fits (mFn d)) 63 [(0, .ref 54), (1, .int x1), (2, .int x2), (3, .int (fAdd x3 1)), (4, .int (fAdd (fMul 100 x5) x6)), (5, .int x5), (6, .int (x6 + (-1)))] [] S2)) := by
  have a : mrs (mv (kX6_fits (mFn d))) (kX6_fits (mFn d)) [(54, [0, 1, 2, 3, 4, 5]), (63, [0, 1, 2, 3, 4, 5, 6])] 51 63 [(0, .ref 54), (1, .int x1), (2, .int x2), (3, .int x3), (4, .int x4), (5, .int x5), (6, .int x6)] [] S =
    (if x6 < 1 then
    mv (kX6_fits (mFn d)) 54 [(0, .ref 54), (1, .int x1), (2, .int x2), (3, .int x3), (4, .int x4), (5, .int (x5 + (-1)))] [] S
  else
    bV ((mFn d) 135 [.ref 54, .int x5, .int x6] S) (fun S1 =>
      bI ((mFn d) 147 [.ref 54, .int x1] S1) (fun y2 S2 =>
        mrs (mv (kX6_fits (mFn d))) (kX6_fits (mFn d)) [(54, [0, 1, 2, 3, 4, 5]), (63, [0, 1, 2, 3, 4, 5, 6])] 40 84 [(0, .ref 54), (1, .int x1), (2, .int x2), (3, .int x3), (4, .int x4), (5, .int x5), (6, .int x6), (7, .int y2)] [] S2))) := rfl
  have b : ∀ (y2 : Int32) (S2 : MS), mrs (mv (kX6_fits (mFn d))) (kX6_fits (mFn d)) [(54, [0, 1, 2, 3, 4, 5]), (63, [0, 1, 2, 3, 4, 5, 6])] 40 84 [(0, .ref 54), (1, .int x1), (2, .int x2), (3, .int x3), (4, .int x4), (5, .int x5), (6, .int x6), (7, .int y2)] [] S2 = (if y2 = 0 then
    if y2 = 0 then
      mv (kX6_fits (mFn d)) 63 [(0, .ref 54), (1, .int x1), (2, .int x2), (3, .int (fAdd x3 0)), (4, .int x4), (5, .int x5), (6, .int (x6 + (-1)))] [] S2
    else
      mv (kX6_fits (mFn d)) 63 [(0, .ref 54), (1, .int x1), (2, .int x2), (3, .int (fAdd x3 0)), (4, .int (fAdd (fMul 100 x5) x6)), (5, .int x5), (6, .int (x6 + (-1)))] [] S2
  else
    if y2 = 0 then
      mv (kX6_fits (mFn d)) 63 [(0, .ref 54), (1, .int x1), (2, .int x2), (3, .int (fAdd x3 1)), (4, .int x4), (5, .int x5), (6, .int (x6 + (-1)))] [] S2
    else
      mv (kX6_fits (mFn d)) 63 [(0, .ref 54), (1, .int x1), (2, .int x2), (3, .int (fAdd x3 1)), (4, .int (fAdd (fMul 100 x5) x6)), (5, .int x5), (6, .int (x6 + (-1)))] [] S2) := fun y2 S2 => rfl
  simp only [b] at a
  exact mv_row (mmX6_fits (mFn d)) (cuX6_fits (mFn d)) 51 a
theorem cuX6_begins (F : Nat → List Value → MS → Option MR) : mcuts (kX6_begins F) [] := fun _ h => absurd h List.not_mem_nil
set_option maxRecDepth 100000 in
theorem fX6_begins (d : Nat) (x1 : Int32) (S : MS) : mFn (d + 1) 149 [.ref 54, .int x1] S =
  if 30 ≤ (S.1 54 20) then
    some (none, S)
  else
    if (S.1 54 20) < 0 ∨ 30 ≤ ((S.1 54 20)).toNatClampNeg then none else
    some (none, (uI (uI S 68 ((S.1 54 20)).toNatClampNeg x1) 54 20 (fAdd (S.1 54 20) 1))) := (mFn_eq rfl).trans (mv_row (code := kX6_begins (mFn d)) (mmX6_begins (mFn d)) (cuX6_begins (mFn d)) 18 rfl)
theorem cuX6_plainSplashes (F : Nat → List Value → MS → Option MR) : mcuts (kX6_plainSplashes F) [] := fun _ h => absurd h List.not_mem_nil
set_option maxRecDepth 100000 in
theorem fX6_plainSplashes (d : Nat) (x1 : Int32) (x2 : Int32) (S : MS) : mFn (d + 1) 150 [.ref 54, .int x1, .int x2] S =
  bV ((mFn d) 149 [.ref 54, .int 10] S) (fun S1 =>
    some (some (.int (fAdd x2 x1)), S1)) := (mFn_eq rfl).trans (mv_row (code := kX6_plainSplashes (mFn d)) (mmX6_plainSplashes (mFn d)) (cuX6_plainSplashes (mFn d)) 8 rfl)
theorem cuX6_lionSplashes (F : Nat → List Value → MS → Option MR) : mcuts (kX6_lionSplashes F) [] := fun _ h => absurd h List.not_mem_nil
set_option maxRecDepth 100000 in
theorem fX6_lionSplashes (d : Nat) (x1 : Int32) (x2 : Int32) (S : MS) : mFn (d + 1) 151 [.ref 54, .int x1, .int x2] S =
  bV ((mFn d) 149 [.ref 54, .int 20] S) (fun S1 =>
    bI ((mFn d) 150 [.ref 54, .int x1, .int x2] S1) (fun y2 S2 =>
      some (some (.int (fSub y2 4)), S2))) := (mFn_eq rfl).trans (mv_row (code := kX6_lionSplashes (mFn d)) (mmX6_lionSplashes (mFn d)) (cuX6_lionSplashes (mFn d)) 11 rfl)
theorem cuX6_splashes (F : Nat → List Value → MS → Option MR) : mcuts (kX6_splashes F) [] := fun _ h => absurd h List.not_mem_nil
set_option maxRecDepth 100000 in
theorem fX6_splashes (d : Nat) (x1 : Int32) (x2 : Int32) (S : MS) : mFn (d + 1) 152 [.ref 54, .int x1, .int x2] S =
  bI ((mFn d) 95 [.ref 54, .int x1, .int 0] S) (fun y1 S1 =>
    if y1 = 1 then
      bI ((mFn d) 151 [.ref 54, .int x1, .int x2] S1) (fun y2 S2 =>
        some (some (.int y2), S2))
    else if y1 = 4 then
      bV ((mFn d) 149 [.ref 54, .int 50] S1) (fun S3 =>
        bI ((mFn d) 151 [.ref 54, .int x1, .int x2] S3) (fun y4 S4 =>
          some (some (.int (fMul y4 3)), S4)))
    else if y1 = 6 then
      bV ((mFn d) 149 [.ref 54, .int 70] S1) (fun S5 =>
        some (some (.int 9), S5))
    else 
      bI ((mFn d) 150 [.ref 54, .int x1, .int x2] S1) (fun y6 S6 =>
        some (some (.int y6), S6))) := (mFn_eq rfl).trans (mv_row (code := kX6_splashes (mFn d)) (mmX6_splashes (mFn d)) (cuX6_splashes (mFn d)) 16 rfl)
theorem cuX6_plainLisps (F : Nat → List Value → MS → Option MR) : mcuts (kX6_plainLisps F) [] := fun _ h => absurd h List.not_mem_nil
set_option maxRecDepth 100000 in
theorem fX6_plainLisps (d : Nat) (x1 : Int32) (x2 : Int32) (S : MS) : mFn (d + 1) 153 [.ref 54, .int x1, .int x2] S =
  bV ((mFn d) 149 [.ref 54, .int 11] S) (fun S1 =>
    bI ((mFn d) 152 [.ref 54, .int x1, .int x2] S1) (fun y2 S2 =>
      some (some (.int (fMul y2 2)), S2))) := (mFn_eq rfl).trans (mv_row (code := kX6_plainLisps (mFn d)) (mmX6_plainLisps (mFn d)) (cuX6_plainLisps (mFn d)) 11 rfl)
theorem cuX6_dolphinLisps (F : Nat → List Value → MS → Option MR) : mcuts (kX6_dolphinLisps F) [] := fun _ h => absurd h List.not_mem_nil
set_option maxRecDepth 100000 in
theorem fX6_dolphinLisps (d : Nat) (x1 : Int32) (x2 : Int32) (S : MS) : mFn (d + 1) 154 [.ref 54, .int x1, .int x2] S =
  bV ((mFn d) 149 [.ref 54, .int 30] S) (fun S1 =>
    bI ((mFn d) 153 [.ref 54, .int x1, .int x2] S1) (fun y2 S2 =>
      some (some (.int (-y2)), S2))) := (mFn_eq rfl).trans (mv_row (code := kX6_dolphinLisps (mFn d)) (mmX6_dolphinLisps (mFn d)) (cuX6_dolphinLisps (mFn d)) 10 rfl)
theorem cuX6_lisps (F : Nat → List Value → MS → Option MR) : mcuts (kX6_lisps F) [] := fun _ h => absurd h List.not_mem_nil
set_option maxRecDepth 100000 in
theorem fX6_lisps (d : Nat) (x1 : Int32) (x2 : Int32) (S : MS) : mFn (d + 1) 155 [.ref 54, .int x1, .int x2] S =
  bI ((mFn d) 95 [.ref 54, .int x1, .int 0] S) (fun y1 S1 =>
    if y1 = 2 then
      bI ((mFn d) 154 [.ref 54, .int x1, .int x2] S1) (fun y2 S2 =>
        some (some (.int y2), S2))
    else if y1 = 3 then
      bI ((mFn d) 153 [.ref 54, .int x1, .int x2] S1) (fun y3 S3 =>
        some (some (.int y3), S3))
    else if y1 = 4 then
      bI ((mFn d) 153 [.ref 54, .int x1, .int x2] S1) (fun y4 S4 =>
        some (some (.int y4), S4))
    else if y1 = 5 then
      bV ((mFn d) 149 [.ref 54, .int 60] S1) (fun S5 =>
        bI ((mFn d) 154 [.ref 54, .int x1, .int (fAdd x2 1)] S5) (fun y6 S6 =>
          some (some (.int y6), S6)))
    else if y1 = 6 then
      bV ((mFn d) 149 [.ref 54, .int 71] S1) (fun S7 =>
        bI ((mFn d) 153 [.ref 54, .int x1, .int x2] S7) (fun y8 S8 =>
          bI ((mFn d) 95 [.ref 54, .int x1, .int 1] S8) (fun y9 S9 =>
            some (some (.int (fAdd y8 y9)), S9))))
    else 
      bI ((mFn d) 153 [.ref 54, .int x1, .int x2] S1) (fun y10 S10 =>
        some (some (.int y10), S10))) := (mFn_eq rfl).trans (mv_row (code := kX6_lisps (mFn d)) (mmX6_lisps (mFn d)) (cuX6_lisps (mFn d)) 19 rfl)
theorem cuX6_plainDrips (F : Nat → List Value → MS → Option MR) : mcuts (kX6_plainDrips F) [] := fun _ h => absurd h List.not_mem_nil
set_option maxRecDepth 100000 in
theorem fX6_plainDrips (d : Nat) (x1 : Int32) (x2 : Int32) (S : MS) : mFn (d + 1) 156 [.ref 54, .int x1, .int x2] S =
  bV ((mFn d) 149 [.ref 54, .int 12] S) (fun S1 =>
    bI ((mFn d) 155 [.ref 54, .int x1, .int x2] S1) (fun y2 S2 =>
      bI ((mFn d) 95 [.ref 54, .int x1, .int 1] S2) (fun y3 S3 =>
        some (some (.int (fSub y2 y3)), S3)))) := (mFn_eq rfl).trans (mv_row (code := kX6_plainDrips (mFn d)) (mmX6_plainDrips (mFn d)) (cuX6_plainDrips (mFn d)) 14 rfl)
theorem cuX6_drips (F : Nat → List Value → MS → Option MR) : mcuts (kX6_drips F) [] := fun _ h => absurd h List.not_mem_nil
set_option maxRecDepth 100000 in
theorem fX6_drips (d : Nat) (x1 : Int32) (x2 : Int32) (S : MS) : mFn (d + 1) 157 [.ref 54, .int x1, .int x2] S =
  bI ((mFn d) 95 [.ref 54, .int x1, .int 0] S) (fun y1 S1 =>
    if y1 = 3 then
      bV ((mFn d) 149 [.ref 54, .int 40] S1) (fun S2 =>
        if (2 : Int32) = 0 then none else
        bI ((mFn d) 156 [.ref 54, .int x1, .int (x2 / 2)] S2) (fun y3 S3 =>
          some (some (.int y3), S3)))
    else if y1 = 4 then
      bV ((mFn d) 149 [.ref 54, .int 51] S1) (fun S4 =>
        bI ((mFn d) 156 [.ref 54, .int x1, .int x2] S4) (fun y5 S5 =>
          some (some (.int (fXor y5 x1)), S5)))
    else 
      bI ((mFn d) 156 [.ref 54, .int x1, .int x2] S1) (fun y6 S6 =>
        some (some (.int y6), S6))) := (mFn_eq rfl).trans (mv_row (code := kX6_drips (mFn d)) (mmX6_drips (mFn d)) (cuX6_drips (mFn d)) 16 rfl)
theorem cuX6_plainParts (F : Nat → List Value → MS → Option MR) : mcuts (kX6_plainParts F) [] := fun _ h => absurd h List.not_mem_nil
set_option maxRecDepth 100000 in
theorem fX6_plainParts (d : Nat) (x1 : Int32) (x2 : Int32) (S : MS) : mFn (d + 1) 158 [.ref 54, .int x1, .int x2] S =
  bV ((mFn d) 149 [.ref 54, .int 13] S) (fun S1 =>
    bI ((mFn d) 95 [.ref 54, .int x1, .int 1] S1) (fun y2 S2 =>
      if (fSub y2 x1) = 0 then
        some (some (.int 0), (uI S2 54 21 1))
      else
        if (fSub y2 x1) = 0 then none else
        some (some (.int (x2 / (fSub y2 x1))), (uI S2 54 21 0)))) := (mFn_eq rfl).trans (mv_row (code := kX6_plainParts (mFn d)) (mmX6_plainParts (mFn d)) (cuX6_plainParts (mFn d)) 23 rfl)
theorem cuX6_partsBy (F : Nat → List Value → MS → Option MR) : mcuts (kX6_partsBy F) [] := fun _ h => absurd h List.not_mem_nil
set_option maxRecDepth 100000 in
theorem fX6_partsBy (d : Nat) (x1 : Int32) (x2 : Int32) (S : MS) : mFn (d + 1) 159 [.ref 54, .int x1, .int x2] S =
  bI ((mFn d) 95 [.ref 54, .int x1, .int 0] S) (fun y1 S1 =>
    if y1 = 1 then
      bV ((mFn d) 149 [.ref 54, .int 21] S1) (fun S2 =>
        bI ((mFn d) 158 [.ref 54, .int x1, .int x2] S2) (fun y3 S3 =>
          if (S3.1 54 21) = 0 then
            bI ((mFn d) 155 [.ref 54, .int x1, .int 1] S3) (fun y4 S4 =>
              some (some (.int (fAdd y3 y4)), S4))
          else
            some (some (.int 0), S3)))
    else
      bI ((mFn d) 95 [.ref 54, .int x1, .int 0] S1) (fun y5 S5 =>
        if y5 = 4 then
          bV ((mFn d) 149 [.ref 54, .int 21] S5) (fun S6 =>
            bI ((mFn d) 158 [.ref 54, .int x1, .int x2] S6) (fun y7 S7 =>
              if (S7.1 54 21) = 0 then
                bI ((mFn d) 155 [.ref 54, .int x1, .int 1] S7) (fun y8 S8 =>
                  some (some (.int (fAdd y7 y8)), S8))
              else
                some (some (.int 0), S7)))
        else
          bI ((mFn d) 158 [.ref 54, .int x1, .int x2] S5) (fun y9 S9 =>
            some (some (.int y9), S9)))) := (mFn_eq rfl).trans (mv_row (code := kX6_partsBy (mFn d)) (mmX6_partsBy (mFn d)) (cuX6_partsBy (mFn d)) 31 rfl)
theorem cuX6_voice (F : Nat → List Value → MS → Option MR) : mcuts (kX6_voice F) [] := fun _ h => absurd h List.not_mem_nil
set_option maxRecDepth 100000 in
theorem fX6_voice (d : Nat) (x1 : Int32) (x2 : Int32) (x3 : Int32) (S : MS) : mFn (d + 1) 160 [.ref 54, .int x1, .int x2, .int x3] S =
  bI ((mFn d) 91 [.ref 54, .int x1] S) (fun y1 S1 =>
    if y1 = 0 then
      bI ((mFn d) 86 [.ref 54, .int (-1000000001)] S1) (fun y2 S2 =>
        some (some (.int y2), S2))
    else
      bI ((mFn d) 87 [.int x2, .int 0, .int 3] S1) (fun y3 S3 =>
        if y3 = 0 then
          bI ((mFn d) 86 [.ref 54, .int (-1000000001)] S3) (fun y4 S4 =>
            some (some (.int y4), S4))
        else
          if x2 = 0 then
            bI ((mFn d) 152 [.ref 54, .int x1, .int x3] (uI (uI S3 54 20 0) 54 21 0)) (fun y5 S5 =>
              if (S5.1 54 21) = 0 then
                some (some (.int y5), S5)
              else
                bI ((mFn d) 86 [.ref 54, .int (-1000000006)] S5) (fun y6 S6 =>
                  some (some (.int y6), S6)))
          else
            if x2 = 1 then
              bI ((mFn d) 155 [.ref 54, .int x1, .int x3] (uI (uI S3 54 20 0) 54 21 0)) (fun y7 S7 =>
                if (S7.1 54 21) = 0 then
                  some (some (.int y7), S7)
                else
                  bI ((mFn d) 86 [.ref 54, .int (-1000000006)] S7) (fun y8 S8 =>
                    some (some (.int y8), S8)))
            else
              if x2 = 2 then
                bI ((mFn d) 157 [.ref 54, .int x1, .int x3] (uI (uI S3 54 20 0) 54 21 0)) (fun y9 S9 =>
                  if (S9.1 54 21) = 0 then
                    some (some (.int y9), S9)
                  else
                    bI ((mFn d) 86 [.ref 54, .int (-1000000006)] S9) (fun y10 S10 =>
                      some (some (.int y10), S10)))
              else
                bI ((mFn d) 159 [.ref 54, .int x1, .int x3] (uI (uI S3 54 20 0) 54 21 0)) (fun y11 S11 =>
                  if (S11.1 54 21) = 0 then
                    some (some (.int y11), S11)
                  else
                    bI ((mFn d) 86 [.ref 54, .int (-1000000006)] S11) (fun y12 S12 =>
                      some (some (.int y12), S12))))) := (mFn_eq rfl).trans (mv_row (code := kX6_voice (mFn d)) (mmX6_voice (mFn d)) (cuX6_voice (mFn d)) 38 rfl)
theorem cuX6_body (F : Nat → List Value → MS → Option MR) : mcuts (kX6_body F) [] := fun _ h => absurd h List.not_mem_nil
set_option maxRecDepth 100000 in
theorem fX6_body (d : Nat) (x1 : Int32) (S : MS) : mFn (d + 1) 161 [.ref 54, .int x1] S =
  bI ((mFn d) 87 [.int x1, .int 0, .int (fSub (S.1 54 20) 1)] S) (fun y1 S1 =>
    if y1 = 0 then
      bI ((mFn d) 86 [.ref 54, .int (-1000000002)] S1) (fun y2 S2 =>
        some (some (.int y2), S2))
    else
      if x1 < 0 ∨ 30 ≤ (x1).toNatClampNeg then none else
      some (some (.int (S1.1 68 (x1).toNatClampNeg)), S1)) := (mFn_eq rfl).trans (mv_row (code := kX6_body (mFn d)) (mmX6_body (mFn d)) (cuX6_body (mFn d)) 15 rfl)
theorem cuX6_isSheet (F : Nat → List Value → MS → Option MR) : mcuts (kX6_isSheet F) [] := fun _ h => absurd h List.not_mem_nil
set_option maxRecDepth 100000 in
theorem fX6_isSheet (d : Nat) (x1 : Int32) (S : MS) : mFn (d + 1) 162 [.int x1] S =
  bI ((mFn d) 87 [.int x1, .int 0, .int 3] S) (fun y1 S1 =>
    if y1 = 0 ∨ y1 = 1 then some (some (.int y1), S1) else none) := (mFn_eq rfl).trans (mv_row (code := kX6_isSheet (mFn d)) (mmX6_isSheet (mFn d)) (cuX6_isSheet (mFn d)) 6 rfl)
theorem cuX6_sheet (F : Nat → List Value → MS → Option MR) : mcuts (kX6_sheet F) [(93, [0, 1, 4])] := List.forall_mem_cons.mpr ⟨⟨oIload 4 95, rfl⟩, fun _ h => absurd h List.not_mem_nil⟩
set_option maxRecDepth 100000 in
theorem fX6_sheet (d : Nat) (x1 : Int32) (x2 : Int32) (x3 : Int32) (S : MS) : mFn (d + 1) 163 [.ref 54, .int x1, .int x2, .int x3] S =
  bI ((mFn d) 162 [.int x1] S) (fun y1 S1 =>
    if y1 = 0 then
      bI ((mFn d) 86 [.ref 54, .int (-1000000001)] S1) (fun y2 S2 =>
        some (some (.int y2), S2))
    else
      if x2 = 0 then
        if x2 ≤ 0 then
          if x2 ≤ 0 then
            if x1 < 0 ∨ 4 ≤ (x1).toNatClampNeg then none else
            if x2 = 0 then
              if x1 < 0 ∨ 4 ≤ (x1).toNatClampNeg then none else
              mv (kX6_sheet (mFn d)) 93 [(0, .ref 54), (1, .int x1), (4, .int 0)] [] (uI (uI S1 58 (x1).toNatClampNeg x2) 59 (x1).toNatClampNeg 0)
            else
              if x1 < 0 ∨ 4 ≤ (x1).toNatClampNeg then none else
              mv (kX6_sheet (mFn d)) 93 [(0, .ref 54), (1, .int x1), (4, .int 0)] [] (uI (uI S1 58 (x1).toNatClampNeg x2) 59 (x1).toNatClampNeg x3)
          else
            if x3 ≤ 24 then
              if x1 < 0 ∨ 4 ≤ (x1).toNatClampNeg then none else
              if x2 = 0 then
                if x1 < 0 ∨ 4 ≤ (x1).toNatClampNeg then none else
                mv (kX6_sheet (mFn d)) 93 [(0, .ref 54), (1, .int x1), (4, .int 0)] [] (uI (uI S1 58 (x1).toNatClampNeg x2) 59 (x1).toNatClampNeg 0)
              else
                if x1 < 0 ∨ 4 ≤ (x1).toNatClampNeg then none else
                mv (kX6_sheet (mFn d)) 93 [(0, .ref 54), (1, .int x1), (4, .int 0)] [] (uI (uI S1 58 (x1).toNatClampNeg x2) 59 (x1).toNatClampNeg x3)
            else
              bI ((mFn d) 86 [.ref 54, .int (-1000000001)] S1) (fun y3 S3 =>
                some (some (.int y3), S3))
        else
          if 0 ≤ x3 then
            if x2 ≤ 0 then
              if x1 < 0 ∨ 4 ≤ (x1).toNatClampNeg then none else
              if x2 = 0 then
                if x1 < 0 ∨ 4 ≤ (x1).toNatClampNeg then none else
                mv (kX6_sheet (mFn d)) 93 [(0, .ref 54), (1, .int x1), (4, .int 0)] [] (uI (uI S1 58 (x1).toNatClampNeg x2) 59 (x1).toNatClampNeg 0)
              else
                if x1 < 0 ∨ 4 ≤ (x1).toNatClampNeg then none else
                mv (kX6_sheet (mFn d)) 93 [(0, .ref 54), (1, .int x1), (4, .int 0)] [] (uI (uI S1 58 (x1).toNatClampNeg x2) 59 (x1).toNatClampNeg x3)
            else
              if x3 ≤ 24 then
                if x1 < 0 ∨ 4 ≤ (x1).toNatClampNeg then none else
                if x2 = 0 then
                  if x1 < 0 ∨ 4 ≤ (x1).toNatClampNeg then none else
                  mv (kX6_sheet (mFn d)) 93 [(0, .ref 54), (1, .int x1), (4, .int 0)] [] (uI (uI S1 58 (x1).toNatClampNeg x2) 59 (x1).toNatClampNeg 0)
                else
                  if x1 < 0 ∨ 4 ≤ (x1).toNatClampNeg then none else
                  mv (kX6_sheet (mFn d)) 93 [(0, .ref 54), (1, .int x1), (4, .int 0)] [] (uI (uI S1 58 (x1).toNatClampNeg x2) 59 (x1).toNatClampNeg x3)
              else
                bI ((mFn d) 86 [.ref 54, .int (-1000000001)] S1) (fun y4 S4 =>
                  some (some (.int y4), S4))
          else
            bI ((mFn d) 86 [.ref 54, .int (-1000000003)] S1) (fun y5 S5 =>
              some (some (.int y5), S5))
      else
        if x2 = 8 then
          if x2 ≤ 0 then
            if x2 ≤ 0 then
              if x1 < 0 ∨ 4 ≤ (x1).toNatClampNeg then none else
              if x2 = 0 then
                if x1 < 0 ∨ 4 ≤ (x1).toNatClampNeg then none else
                mv (kX6_sheet (mFn d)) 93 [(0, .ref 54), (1, .int x1), (4, .int 0)] [] (uI (uI S1 58 (x1).toNatClampNeg x2) 59 (x1).toNatClampNeg 0)
              else
                if x1 < 0 ∨ 4 ≤ (x1).toNatClampNeg then none else
                mv (kX6_sheet (mFn d)) 93 [(0, .ref 54), (1, .int x1), (4, .int 0)] [] (uI (uI S1 58 (x1).toNatClampNeg x2) 59 (x1).toNatClampNeg x3)
            else
              if x3 ≤ 24 then
                if x1 < 0 ∨ 4 ≤ (x1).toNatClampNeg then none else
                if x2 = 0 then
                  if x1 < 0 ∨ 4 ≤ (x1).toNatClampNeg then none else
                  mv (kX6_sheet (mFn d)) 93 [(0, .ref 54), (1, .int x1), (4, .int 0)] [] (uI (uI S1 58 (x1).toNatClampNeg x2) 59 (x1).toNatClampNeg 0)
                else
                  if x1 < 0 ∨ 4 ≤ (x1).toNatClampNeg then none else
                  mv (kX6_sheet (mFn d)) 93 [(0, .ref 54), (1, .int x1), (4, .int 0)] [] (uI (uI S1 58 (x1).toNatClampNeg x2) 59 (x1).toNatClampNeg x3)
              else
                bI ((mFn d) 86 [.ref 54, .int (-1000000001)] S1) (fun y6 S6 =>
                  some (some (.int y6), S6))
          else
            if 0 ≤ x3 then
              if x2 ≤ 0 then
                if x1 < 0 ∨ 4 ≤ (x1).toNatClampNeg then none else
                if x2 = 0 then
                  if x1 < 0 ∨ 4 ≤ (x1).toNatClampNeg then none else
                  mv (kX6_sheet (mFn d)) 93 [(0, .ref 54), (1, .int x1), (4, .int 0)] [] (uI (uI S1 58 (x1).toNatClampNeg x2) 59 (x1).toNatClampNeg 0)
                else
                  if x1 < 0 ∨ 4 ≤ (x1).toNatClampNeg then none else
                  mv (kX6_sheet (mFn d)) 93 [(0, .ref 54), (1, .int x1), (4, .int 0)] [] (uI (uI S1 58 (x1).toNatClampNeg x2) 59 (x1).toNatClampNeg x3)
              else
                if x3 ≤ 24 then
                  if x1 < 0 ∨ 4 ≤ (x1).toNatClampNeg then none else
                  if x2 = 0 then
                    if x1 < 0 ∨ 4 ≤ (x1).toNatClampNeg then none else
                    mv (kX6_sheet (mFn d)) 93 [(0, .ref 54), (1, .int x1), (4, .int 0)] [] (uI (uI S1 58 (x1).toNatClampNeg x2) 59 (x1).toNatClampNeg 0)
                  else
                    if x1 < 0 ∨ 4 ≤ (x1).toNatClampNeg then none else
                    mv (kX6_sheet (mFn d)) 93 [(0, .ref 54), (1, .int x1), (4, .int 0)] [] (uI (uI S1 58 (x1).toNatClampNeg x2) 59 (x1).toNatClampNeg x3)
                else
                  bI ((mFn d) 86 [.ref 54, .int (-1000000001)] S1) (fun y7 S7 =>
                    some (some (.int y7), S7))
            else
              bI ((mFn d) 86 [.ref 54, .int (-1000000003)] S1) (fun y8 S8 =>
                some (some (.int y8), S8))
        else
          if x2 = 16 then
            if x2 ≤ 0 then
              if x2 ≤ 0 then
                if x1 < 0 ∨ 4 ≤ (x1).toNatClampNeg then none else
                if x2 = 0 then
                  if x1 < 0 ∨ 4 ≤ (x1).toNatClampNeg then none else
                  mv (kX6_sheet (mFn d)) 93 [(0, .ref 54), (1, .int x1), (4, .int 0)] [] (uI (uI S1 58 (x1).toNatClampNeg x2) 59 (x1).toNatClampNeg 0)
                else
                  if x1 < 0 ∨ 4 ≤ (x1).toNatClampNeg then none else
                  mv (kX6_sheet (mFn d)) 93 [(0, .ref 54), (1, .int x1), (4, .int 0)] [] (uI (uI S1 58 (x1).toNatClampNeg x2) 59 (x1).toNatClampNeg x3)
              else
                if x3 ≤ 24 then
                  if x1 < 0 ∨ 4 ≤ (x1).toNatClampNeg then none else
                  if x2 = 0 then
                    if x1 < 0 ∨ 4 ≤ (x1).toNatClampNeg then none else
                    mv (kX6_sheet (mFn d)) 93 [(0, .ref 54), (1, .int x1), (4, .int 0)] [] (uI (uI S1 58 (x1).toNatClampNeg x2) 59 (x1).toNatClampNeg 0)
                  else
                    if x1 < 0 ∨ 4 ≤ (x1).toNatClampNeg then none else
                    mv (kX6_sheet (mFn d)) 93 [(0, .ref 54), (1, .int x1), (4, .int 0)] [] (uI (uI S1 58 (x1).toNatClampNeg x2) 59 (x1).toNatClampNeg x3)
                else
                  bI ((mFn d) 86 [.ref 54, .int (-1000000001)] S1) (fun y9 S9 =>
                    some (some (.int y9), S9))
            else
              if 0 ≤ x3 then
                if x2 ≤ 0 then
                  if x1 < 0 ∨ 4 ≤ (x1).toNatClampNeg then none else
                  if x2 = 0 then
                    if x1 < 0 ∨ 4 ≤ (x1).toNatClampNeg then none else
                    mv (kX6_sheet (mFn d)) 93 [(0, .ref 54), (1, .int x1), (4, .int 0)] [] (uI (uI S1 58 (x1).toNatClampNeg x2) 59 (x1).toNatClampNeg 0)
                  else
                    if x1 < 0 ∨ 4 ≤ (x1).toNatClampNeg then none else
                    mv (kX6_sheet (mFn d)) 93 [(0, .ref 54), (1, .int x1), (4, .int 0)] [] (uI (uI S1 58 (x1).toNatClampNeg x2) 59 (x1).toNatClampNeg x3)
                else
                  if x3 ≤ 24 then
                    if x1 < 0 ∨ 4 ≤ (x1).toNatClampNeg then none else
                    if x2 = 0 then
                      if x1 < 0 ∨ 4 ≤ (x1).toNatClampNeg then none else
                      mv (kX6_sheet (mFn d)) 93 [(0, .ref 54), (1, .int x1), (4, .int 0)] [] (uI (uI S1 58 (x1).toNatClampNeg x2) 59 (x1).toNatClampNeg 0)
                    else
                      if x1 < 0 ∨ 4 ≤ (x1).toNatClampNeg then none else
                      mv (kX6_sheet (mFn d)) 93 [(0, .ref 54), (1, .int x1), (4, .int 0)] [] (uI (uI S1 58 (x1).toNatClampNeg x2) 59 (x1).toNatClampNeg x3)
                  else
                    bI ((mFn d) 86 [.ref 54, .int (-1000000001)] S1) (fun y10 S10 =>
                      some (some (.int y10), S10))
              else
                bI ((mFn d) 86 [.ref 54, .int (-1000000003)] S1) (fun y11 S11 =>
                  some (some (.int y11), S11))
          else
            if x2 = 32 then
              if x2 ≤ 0 then
                if x2 ≤ 0 then
                  if x1 < 0 ∨ 4 ≤ (x1).toNatClampNeg then none else
                  if x2 = 0 then
                    if x1 < 0 ∨ 4 ≤ (x1).toNatClampNeg then none else
                    mv (kX6_sheet (mFn d)) 93 [(0, .ref 54), (1, .int x1), (4, .int 0)] [] (uI (uI S1 58 (x1).toNatClampNeg x2) 59 (x1).toNatClampNeg 0)
                  else
                    if x1 < 0 ∨ 4 ≤ (x1).toNatClampNeg then none else
                    mv (kX6_sheet (mFn d)) 93 [(0, .ref 54), (1, .int x1), (4, .int 0)] [] (uI (uI S1 58 (x1).toNatClampNeg x2) 59 (x1).toNatClampNeg x3)
                else
                  if x3 ≤ 24 then
                    if x1 < 0 ∨ 4 ≤ (x1).toNatClampNeg then none else
                    if x2 = 0 then
                      if x1 < 0 ∨ 4 ≤ (x1).toNatClampNeg then none else
                      mv (kX6_sheet (mFn d)) 93 [(0, .ref 54), (1, .int x1), (4, .int 0)] [] (uI (uI S1 58 (x1).toNatClampNeg x2) 59 (x1).toNatClampNeg 0)
                    else
                      if x1 < 0 ∨ 4 ≤ (x1).toNatClampNeg then none else
                      mv (kX6_sheet (mFn d)) 93 [(0, .ref 54), (1, .int x1), (4, .int 0)] [] (uI (uI S1 58 (x1).toNatClampNeg x2) 59 (x1).toNatClampNeg x3)
                  else
                    bI ((mFn d) 86 [.ref 54, .int (-1000000001)] S1) (fun y12 S12 =>
                      some (some (.int y12), S12))
              else
                if 0 ≤ x3 then
                  if x2 ≤ 0 then
                    if x1 < 0 ∨ 4 ≤ (x1).toNatClampNeg then none else
                    if x2 = 0 then
                      if x1 < 0 ∨ 4 ≤ (x1).toNatClampNeg then none else
                      mv (kX6_sheet (mFn d)) 93 [(0, .ref 54), (1, .int x1), (4, .int 0)] [] (uI (uI S1 58 (x1).toNatClampNeg x2) 59 (x1).toNatClampNeg 0)
                    else
                      if x1 < 0 ∨ 4 ≤ (x1).toNatClampNeg then none else
                      mv (kX6_sheet (mFn d)) 93 [(0, .ref 54), (1, .int x1), (4, .int 0)] [] (uI (uI S1 58 (x1).toNatClampNeg x2) 59 (x1).toNatClampNeg x3)
                  else
                    if x3 ≤ 24 then
                      if x1 < 0 ∨ 4 ≤ (x1).toNatClampNeg then none else
                      if x2 = 0 then
                        if x1 < 0 ∨ 4 ≤ (x1).toNatClampNeg then none else
                        mv (kX6_sheet (mFn d)) 93 [(0, .ref 54), (1, .int x1), (4, .int 0)] [] (uI (uI S1 58 (x1).toNatClampNeg x2) 59 (x1).toNatClampNeg 0)
                      else
                        if x1 < 0 ∨ 4 ≤ (x1).toNatClampNeg then none else
                        mv (kX6_sheet (mFn d)) 93 [(0, .ref 54), (1, .int x1), (4, .int 0)] [] (uI (uI S1 58 (x1).toNatClampNeg x2) 59 (x1).toNatClampNeg x3)
                    else
                      bI ((mFn d) 86 [.ref 54, .int (-1000000001)] S1) (fun y13 S13 =>
                        some (some (.int y13), S13))
                else
                  bI ((mFn d) 86 [.ref 54, .int (-1000000003)] S1) (fun y14 S14 =>
                    some (some (.int y14), S14))
            else
              bI ((mFn d) 86 [.ref 54, .int (-1000000001)] S1) (fun y15 S15 =>
                some (some (.int y15), S15))) := (mFn_eq rfl).trans (mv_row (code := kX6_sheet (mFn d)) (mmX6_sheet (mFn d)) (cuX6_sheet (mFn d)) 39 rfl)
set_option maxRecDepth 100000 in
theorem lX6_sheet_93 (d : Nat) (x1 : Int32) (x4 : Int32) (S : MS) : mv (kX6_sheet (mFn d)) 93 [(0, .ref 54), (1, .int x1), (4, .int x4)] [] S =
  if 24 ≤ x4 then
    some (some (.int 1), S)
  else
    if (fAdd (fMul 24 x1) x4) < 0 ∨ 96 ≤ ((fAdd (fMul 24 x1) x4)).toNatClampNeg then none else
    mv (kX6_sheet (mFn d)) 93 [(0, .ref 54), (1, .int x1), (4, .int (x4 + 1))] [] (uI S 60 ((fAdd (fMul 24 x1) x4)).toNatClampNeg 0) := mv_row (mmX6_sheet (mFn d)) (cuX6_sheet (mFn d)) 15 rfl
theorem cuX6_notThere (F : Nat → List Value → MS → Option MR) : mcuts (kX6_notThere F) [] := fun _ h => absurd h List.not_mem_nil
set_option maxRecDepth 100000 in
theorem fX6_notThere (d : Nat) (x1 : Int32) (S : MS) : mFn (d + 1) 164 [.ref 54, .int x1] S =
  bI ((mFn d) 162 [.int x1] S) (fun y1 S1 =>
    if y1 = 0 then
      some (some (.int (-1000000001)), S1)
    else
      if x1 < 0 ∨ 4 ≤ (x1).toNatClampNeg then none else
      if (S1.1 58 (x1).toNatClampNeg) = 0 then
        some (some (.int (-1000000002)), S1)
      else
        some (some (.int 0), S1)) := (mFn_eq rfl).trans (mv_row (code := kX6_notThere (mFn d)) (mmX6_notThere (mFn d)) (cuX6_notThere (mFn d)) 12 rfl)
theorem cuX6_put (F : Nat → List Value → MS → Option MR) : mcuts (kX6_put F) [] := fun _ h => absurd h List.not_mem_nil
set_option maxRecDepth 100000 in
theorem fX6_put (d : Nat) (x1 : Int32) (x2 : Int32) (x3 : Int32) (S : MS) : mFn (d + 1) 165 [.ref 54, .int x1, .int x2, .int x3] S =
  bI ((mFn d) 164 [.ref 54, .int x1] S) (fun y1 S1 =>
    if y1 = 0 then
      if x1 < 0 ∨ 4 ≤ (x1).toNatClampNeg then none else
      bI ((mFn d) 87 [.int x2, .int 0, .int (fSub (S1.1 59 (x1).toNatClampNeg) 1)] S1) (fun y2 S2 =>
        if y2 = 0 then
          bI ((mFn d) 86 [.ref 54, .int (-1000000001)] S2) (fun y3 S3 =>
            some (some (.int y3), S3))
        else
          if y1 = 0 then
            if x1 < 0 ∨ 4 ≤ (x1).toNatClampNeg then none else
            if (S2.1 58 (x1).toNatClampNeg) = 8 then
              if (fAdd (fMul 24 x1) x2) < 0 ∨ 96 ≤ ((fAdd (fMul 24 x1) x2)).toNatClampNeg then none else
              some (some (.int 1), (uI S2 60 ((fAdd (fMul 24 x1) x2)).toNatClampNeg (x3).toInt8.toInt32))
            else
              if x1 < 0 ∨ 4 ≤ (x1).toNatClampNeg then none else
              if (S2.1 58 (x1).toNatClampNeg) = 16 then
                if (fAdd (fMul 24 x1) x2) < 0 ∨ 96 ≤ ((fAdd (fMul 24 x1) x2)).toNatClampNeg then none else
                some (some (.int 1), (uI S2 60 ((fAdd (fMul 24 x1) x2)).toNatClampNeg (x3).toInt16.toInt32))
              else
                if (fAdd (fMul 24 x1) x2) < 0 ∨ 96 ≤ ((fAdd (fMul 24 x1) x2)).toNatClampNeg then none else
                some (some (.int 1), (uI S2 60 ((fAdd (fMul 24 x1) x2)).toNatClampNeg x3))
          else
            bI ((mFn d) 86 [.ref 54, .int y1] S2) (fun y4 S4 =>
              some (some (.int y4), S4)))
    else
      if y1 = 0 then
        if x1 < 0 ∨ 4 ≤ (x1).toNatClampNeg then none else
        if (S1.1 58 (x1).toNatClampNeg) = 8 then
          if (fAdd (fMul 24 x1) x2) < 0 ∨ 96 ≤ ((fAdd (fMul 24 x1) x2)).toNatClampNeg then none else
          some (some (.int 1), (uI S1 60 ((fAdd (fMul 24 x1) x2)).toNatClampNeg (x3).toInt8.toInt32))
        else
          if x1 < 0 ∨ 4 ≤ (x1).toNatClampNeg then none else
          if (S1.1 58 (x1).toNatClampNeg) = 16 then
            if (fAdd (fMul 24 x1) x2) < 0 ∨ 96 ≤ ((fAdd (fMul 24 x1) x2)).toNatClampNeg then none else
            some (some (.int 1), (uI S1 60 ((fAdd (fMul 24 x1) x2)).toNatClampNeg (x3).toInt16.toInt32))
          else
            if (fAdd (fMul 24 x1) x2) < 0 ∨ 96 ≤ ((fAdd (fMul 24 x1) x2)).toNatClampNeg then none else
            some (some (.int 1), (uI S1 60 ((fAdd (fMul 24 x1) x2)).toNatClampNeg x3))
      else
        bI ((mFn d) 86 [.ref 54, .int y1] S1) (fun y5 S5 =>
          some (some (.int y5), S5))) := (mFn_eq rfl).trans (mv_row (code := kX6_put (mFn d)) (mmX6_put (mFn d)) (cuX6_put (mFn d)) 46 rfl)
theorem cuX6_notMoved (F : Nat → List Value → MS → Option MR) : mcuts (kX6_notMoved F) [] := fun _ h => absurd h List.not_mem_nil
set_option maxRecDepth 100000 in
theorem fX6_notMoved (d : Nat) (x1 : Int32) (x2 : Int32) (x3 : Int32) (x4 : Int32) (x5 : Int32) (S : MS) : mFn (d + 1) 166 [.ref 54, .int x1, .int x2, .int x3, .int x4, .int x5] S =
  bI ((mFn d) 162 [.int x1] S) (fun y1 S1 =>
    if y1 = 0 then
      some (some (.int (-1000000001)), S1)
    else
      bI ((mFn d) 162 [.int x3] S1) (fun y2 S2 =>
        if y2 = 0 then
          some (some (.int (-1000000001)), S2)
        else
          if x1 < 0 ∨ 4 ≤ (x1).toNatClampNeg then none else
          if (S2.1 58 (x1).toNatClampNeg) = 0 then
            some (some (.int (-1000000002)), S2)
          else
            if x3 < 0 ∨ 4 ≤ (x3).toNatClampNeg then none else
            if (S2.1 58 (x3).toNatClampNeg) = 0 then
              some (some (.int (-1000000002)), S2)
            else
              if x1 < 0 ∨ 4 ≤ (x1).toNatClampNeg then none else
              if x3 < 0 ∨ 4 ≤ (x3).toNatClampNeg then none else
              if (S2.1 58 (x1).toNatClampNeg) = (S2.1 58 (x3).toNatClampNeg) then
                if x5 < 0 then
                  some (some (.int (-1000000001)), S2)
                else
                  if x2 < 0 then
                    some (some (.int (-1000000001)), S2)
                  else
                    if x4 < 0 then
                      some (some (.int (-1000000001)), S2)
                    else
                      if x1 < 0 ∨ 4 ≤ (x1).toNatClampNeg then none else
                      if (fSub (S2.1 59 (x1).toNatClampNeg) x2) < x5 then
                        some (some (.int (-1000000001)), S2)
                      else
                        if x3 < 0 ∨ 4 ≤ (x3).toNatClampNeg then none else
                        if (fSub (S2.1 59 (x3).toNatClampNeg) x4) < x5 then
                          some (some (.int (-1000000001)), S2)
                        else
                          some (some (.int 0), S2)
              else
                some (some (.int (-1000000005)), S2))) := (mFn_eq rfl).trans (mv_row (code := kX6_notMoved (mFn d)) (mmX6_notMoved (mFn d)) (cuX6_notMoved (mFn d)) 56 rfl)
theorem cuX6_move (F : Nat → List Value → MS → Option MR) : mcuts (kX6_move F) [(28, [0, 1, 2, 3, 4, 5, 7])] := List.forall_mem_cons.mpr ⟨⟨oIload 7 30, rfl⟩, fun _ h => absurd h List.not_mem_nil⟩
set_option maxRecDepth 100000 in
theorem fX6_move (d : Nat) (x1 : Int32) (x2 : Int32) (x3 : Int32) (x4 : Int32) (x5 : Int32) (S : MS) : mFn (d + 1) 167 [.ref 54, .int x1, .int x2, .int x3, .int x4, .int x5] S =
  bI ((mFn d) 166 [.ref 54, .int x1, .int x2, .int x3, .int x4, .int x5] S) (fun y1 S1 =>
    if y1 = 0 then
      mv (kX6_move (mFn d)) 28 [(0, .ref 54), (1, .int x1), (2, .int x2), (3, .int x3), (4, .int x4), (5, .int x5), (7, .int 0)] [] S1
    else
      bI ((mFn d) 86 [.ref 54, .int y1] S1) (fun y2 S2 =>
        some (some (.int y2), S2))) := (mFn_eq rfl).trans (mv_row (code := kX6_move (mFn d)) (mmX6_move (mFn d)) (cuX6_move (mFn d)) 15 rfl)
set_option maxRecDepth 100000 in
theorem lX6_move_28 (d : Nat) (x1 : Int32) (x2 : Int32) (x3 : Int32) (x4 : Int32) (x5 : Int32) (x7 : Int32) (S : MS) : mv (kX6_move (mFn d)) 28 [(0, .ref 54), (1, .int x1), (2, .int x2), (3, .int x3), (4, .int x4), (5, .int x5), (7, .int x7)] [] S =
  if x5 ≤ x7 then
    some (some (.int x5), S)
  else
    if x4 ≤ x2 then
      if (fAdd (fAdd (fMul 24 x1) x2) x7) < 0 ∨ 96 ≤ ((fAdd (fAdd (fMul 24 x1) x2) x7)).toNatClampNeg then none else
      if (fAdd (fAdd (fMul 24 x3) x4) x7) < 0 ∨ 96 ≤ ((fAdd (fAdd (fMul 24 x3) x4) x7)).toNatClampNeg then none else
      mv (kX6_move (mFn d)) 28 [(0, .ref 54), (1, .int x1), (2, .int x2), (3, .int x3), (4, .int x4), (5, .int x5), (7, .int (x7 + 1))] [] (uI S 60 ((fAdd (fAdd (fMul 24 x3) x4) x7)).toNatClampNeg (S.1 60 ((fAdd (fAdd (fMul 24 x1) x2) x7)).toNatClampNeg))
    else
      if (fAdd (fAdd (fMul 24 x1) x2) (fSub (fSub x5 1) x7)) < 0 ∨ 96 ≤ ((fAdd (fAdd (fMul 24 x1) x2) (fSub (fSub x5 1) x7))).toNatClampNeg then none else
      if (fAdd (fAdd (fMul 24 x3) x4) (fSub (fSub x5 1) x7)) < 0 ∨ 96 ≤ ((fAdd (fAdd (fMul 24 x3) x4) (fSub (fSub x5 1) x7))).toNatClampNeg then none else
      mv (kX6_move (mFn d)) 28 [(0, .ref 54), (1, .int x1), (2, .int x2), (3, .int x3), (4, .int x4), (5, .int x5), (7, .int (x7 + 1))] [] (uI S 60 ((fAdd (fAdd (fMul 24 x3) x4) (fSub (fSub x5 1) x7))).toNatClampNeg (S.1 60 ((fAdd (fAdd (fMul 24 x1) x2) (fSub (fSub x5 1) x7))).toNatClampNeg)) := mv_row (mmX6_move (mFn d)) (cuX6_move (mFn d)) 36 rfl
theorem cuX6_talks (F : Nat → List Value → MS → Option MR) : mcuts (kX6_talks F) [(18, [0, 1, 3])] := List.forall_mem_cons.mpr ⟨⟨oIload 3 19, rfl⟩, fun _ h => absurd h List.not_mem_nil⟩
set_option maxRecDepth 100000 in
theorem fX6_talks (d : Nat) (x1 : Int32) (S : MS) : mFn (d + 1) 168 [.ref 54, .int x1] S =
  bI ((mFn d) 164 [.ref 54, .int x1] S) (fun y1 S1 =>
    if y1 = 0 then
      mv (kX6_talks (mFn d)) 18 [(0, .ref 54), (1, .int x1), (3, .int 0)] [] S1
    else
      bI ((mFn d) 86 [.ref 54, .int y1] S1) (fun y2 S2 =>
        some (some (.int y2), S2))) := (mFn_eq rfl).trans (mv_row (code := kX6_talks (mFn d)) (mmX6_talks (mFn d)) (cuX6_talks (mFn d)) 11 rfl)
set_option maxRecDepth 100000 in
theorem lX6_talks_18 (d : Nat) (x1 : Int32) (x3 : Int32) (S : MS) : mv (kX6_talks (mFn d)) 18 [(0, .ref 54), (1, .int x1), (3, .int x3)] [] S =
  if x1 < 0 ∨ 4 ≤ (x1).toNatClampNeg then none else
  if (S.1 59 (x1).toNatClampNeg) ≤ x3 then
    some (some (.int x3), S)
  else
    if (2 : Int32) < 0 ∨ 401 ≤ ((2 : Int32)).toNatClampNeg then none else
    if (S.1 55 ((2 : Int32)).toNatClampNeg) ≤ x3 then
      some (some (.int x3), S)
    else
      if (fAdd (fMul 24 x1) x3) < 0 ∨ 96 ≤ ((fAdd (fMul 24 x1) x3)).toNatClampNeg then none else
      bI ((mFn d) 87 [.int (S.1 60 ((fAdd (fMul 24 x1) x3)).toNatClampNeg), .int 0, .int 99999] S) (fun y1 S1 =>
        if y1 = 0 then
          some (some (.int x3), S1)
        else
          if (fAdd (fMul 24 x1) x3) < 0 ∨ 96 ≤ ((fAdd (fMul 24 x1) x3)).toNatClampNeg then none else
          if (fAdd (fAdd 7 (fMul 4 x3)) 3) < 0 ∨ 401 ≤ ((fAdd (fAdd 7 (fMul 4 x3)) 3)).toNatClampNeg then none else
          mv (kX6_talks (mFn d)) 18 [(0, .ref 54), (1, .int x1), (3, .int (x3 + 1))] [] (uI S1 55 ((fAdd (fAdd 7 (fMul 4 x3)) 3)).toNatClampNeg (S1.1 60 ((fAdd (fMul 24 x1) x3)).toNatClampNeg))) := mv_row (mmX6_talks (mFn d)) (cuX6_talks (mFn d)) 45 rfl
theorem cuX6_judge (F : Nat → List Value → MS → Option MR) : mcuts (kX6_judge F) [(18, [0, 1, 3])] := List.forall_mem_cons.mpr ⟨⟨oIload 3 19, rfl⟩, fun _ h => absurd h List.not_mem_nil⟩
set_option maxRecDepth 100000 in
theorem fX6_judge (d : Nat) (x1 : Int32) (S : MS) : mFn (d + 1) 169 [.ref 54, .int x1] S =
  bI ((mFn d) 164 [.ref 54, .int x1] S) (fun y1 S1 =>
    if y1 = 0 then
      mv (kX6_judge (mFn d)) 18 [(0, .ref 54), (1, .int x1), (3, .int 0)] [] S1
    else
      bI ((mFn d) 86 [.ref 54, .int y1] S1) (fun y2 S2 =>
        some (some (.int y2), S2))) := (mFn_eq rfl).trans (mv_row (code := kX6_judge (mFn d)) (mmX6_judge (mFn d)) (cuX6_judge (mFn d)) 11 rfl)
set_option maxRecDepth 100000 in
theorem lX6_judge_18 (d : Nat) (x1 : Int32) (x3 : Int32) (S : MS) : mv (kX6_judge (mFn d)) 18 [(0, .ref 54), (1, .int x1), (3, .int x3)] [] S =
  if x1 < 0 ∨ 4 ≤ (x1).toNatClampNeg then none else
  if (S.1 59 (x1).toNatClampNeg) ≤ x3 then
    some (some (.int x3), S)
  else
    if (3 : Int32) < 0 ∨ 401 ≤ ((3 : Int32)).toNatClampNeg then none else
    if (S.1 55 ((3 : Int32)).toNatClampNeg) ≤ x3 then
      some (some (.int x3), S)
    else
      if (fAdd (fMul 24 x1) x3) < 0 ∨ 96 ≤ ((fAdd (fMul 24 x1) x3)).toNatClampNeg then none else
      bI ((mFn d) 100 [.ref 54, .int x3] S) (fun y1 S1 =>
        if (S.1 60 ((fAdd (fMul 24 x1) x3)).toNatClampNeg) = y1 then
          mv (kX6_judge (mFn d)) 18 [(0, .ref 54), (1, .int x1), (3, .int (x3 + 1))] [] S1
        else
          some (some (.int x3), S1)) := mv_row (mmX6_judge (mFn d)) (cuX6_judge (mFn d)) 27 rfl
theorem cuX6_image (F : Nat → List Value → MS → Option MR) : mcuts (kX6_image F) [] := fun _ h => absurd h List.not_mem_nil
set_option maxRecDepth 100000 in
theorem fX6_image (d : Nat) (S : MS) : mFn (d + 1) 170 [.ref 54] S =
  bV ((mFn d) 89 [.ref 55, .ref 56] S) (fun S1 =>
    some (some (.int (fAdd (S1.1 54 2) 1)), (uI S1 54 2 (fAdd (S1.1 54 2) 1)))) := (mFn_eq rfl).trans (mv_row (code := kX6_image (mFn d)) (mmX6_image (mFn d)) (cuX6_image (mFn d)) 15 rfl)
theorem cuX6_restore (F : Nat → List Value → MS → Option MR) : mcuts (kX6_restore F) [] := fun _ h => absurd h List.not_mem_nil
set_option maxRecDepth 100000 in
theorem fX6_restore (d : Nat) (S : MS) : mFn (d + 1) 171 [.ref 54] S =
  if (S.1 54 2) = 0 then
    bI ((mFn d) 86 [.ref 54, .int (-1000000002)] S) (fun y1 S1 =>
      some (some (.int y1), S1))
  else
    bV ((mFn d) 89 [.ref 56, .ref 55] S) (fun S2 =>
      if (0 : Int32) < 0 ∨ 401 ≤ ((0 : Int32)).toNatClampNeg then none else
      some (some (.int (S2.1 55 ((0 : Int32)).toNatClampNeg)), S2)) := (mFn_eq rfl).trans (mv_row (code := kX6_restore (mFn d)) (mmX6_restore (mFn d)) (cuX6_restore (mFn d)) 14 rfl)
theorem cuX6_tell (F : Nat → List Value → MS → Option MR) : mcuts (kX6_tell F) [] := fun _ h => absurd h List.not_mem_nil
set_option maxRecDepth 100000 in
theorem fX6_tell (d : Nat) (x1 : Int32) (S : MS) : mFn (d + 1) 172 [.ref 54, .int x1] S =
  if (6 : Int32) < 0 ∨ 401 ≤ ((6 : Int32)).toNatClampNeg then none else
  if (S.1 55 ((6 : Int32)).toNatClampNeg) = 24 then
    bI ((mFn d) 86 [.ref 54, .int (-1000000004)] S) (fun y1 S1 =>
      some (some (.int y1), S1))
  else
    if (6 : Int32) < 0 ∨ 401 ≤ ((6 : Int32)).toNatClampNeg then none else
    if (fAdd 135 (S.1 55 ((6 : Int32)).toNatClampNeg)) < 0 ∨ 401 ≤ ((fAdd 135 (S.1 55 ((6 : Int32)).toNatClampNeg))).toNatClampNeg then none else
    if (6 : Int32) < 0 ∨ 401 ≤ ((6 : Int32)).toNatClampNeg then none else
    if (6 : Int32) < 0 ∨ 401 ≤ ((6 : Int32)).toNatClampNeg then none else
    if (6 : Int32) < 0 ∨ 401 ≤ ((6 : Int32)).toNatClampNeg then none else
    some (some (.int ((uI (uI S 55 ((fAdd 135 (S.1 55 ((6 : Int32)).toNatClampNeg))).toNatClampNeg x1) 55 ((6 : Int32)).toNatClampNeg (fAdd ((uI S 55 ((fAdd 135 (S.1 55 ((6 : Int32)).toNatClampNeg))).toNatClampNeg x1).1 55 ((6 : Int32)).toNatClampNeg) 1)).1 55 ((6 : Int32)).toNatClampNeg)), (uI (uI S 55 ((fAdd 135 (S.1 55 ((6 : Int32)).toNatClampNeg))).toNatClampNeg x1) 55 ((6 : Int32)).toNatClampNeg (fAdd ((uI S 55 ((fAdd 135 (S.1 55 ((6 : Int32)).toNatClampNeg))).toNatClampNeg x1).1 55 ((6 : Int32)).toNatClampNeg) 1))) := (mFn_eq rfl).trans (mv_row (code := kX6_tell (mFn d)) (mmX6_tell (mFn d)) (cuX6_tell (mFn d)) 30 rfl)
theorem cuX6_check (F : Nat → List Value → MS → Option MR) : mcuts (kX6_check F) [(18, [0, 1, 2])] := List.forall_mem_cons.mpr ⟨⟨oIload 2 19, rfl⟩, fun _ h => absurd h List.not_mem_nil⟩
set_option maxRecDepth 100000 in
theorem fX6_check (d : Nat) (S : MS) : mFn (d + 1) 173 [.ref 54] S =
  if (6 : Int32) < 0 ∨ 401 ≤ ((6 : Int32)).toNatClampNeg then none else
  if (6 : Int32) < 0 ∨ 401 ≤ ((6 : Int32)).toNatClampNeg then none else
  mv (kX6_check (mFn d)) 18 [(0, .ref 54), (1, .int (S.1 55 ((6 : Int32)).toNatClampNeg)), (2, .int 0)] [] (uI S 55 ((6 : Int32)).toNatClampNeg 0) := (mFn_eq rfl).trans (mv_row (code := kX6_check (mFn d)) (mmX6_check (mFn d)) (cuX6_check (mFn d)) 13 rfl)
set_option maxRecDepth 100000 in
theorem lX6_check_18 (d : Nat) (x1 : Int32) (x2 : Int32) (S : MS) : mv (kX6_check (mFn d)) 18 [(0, .ref 54), (1, .int x1), (2, .int x2)] [] S =
  if x1 ≤ x2 then
    some (some (.int 0), S)
  else
    bI ((mFn d) 91 [.ref 54, .int x2] S) (fun y1 S1 =>
      if y1 = 0 then
        some (some (.int (fAdd 1 x2)), S1)
      else
        if (fAdd 135 x2) < 0 ∨ 401 ≤ ((fAdd 135 x2)).toNatClampNeg then none else
        bI ((mFn d) 95 [.ref 54, .int x2, .int 3] S1) (fun y2 S2 =>
          if (S1.1 55 ((fAdd 135 x2)).toNatClampNeg) = y2 then
            mv (kX6_check (mFn d)) 18 [(0, .ref 54), (1, .int x1), (2, .int (x2 + 1))] [] S2
          else
            some (some (.int (fAdd 1 x2)), S2))) := mv_row (mmX6_check (mFn d)) (cuX6_check (mFn d)) 23 rfl
theorem cuX6_count (F : Nat → List Value → MS → Option MR) : mcuts (kX6_count F) [] := fun _ h => absurd h List.not_mem_nil
set_option maxRecDepth 100000 in
theorem fX6_count (d : Nat) (x1 : Int32) (S : MS) : mFn (d + 1) 174 [.ref 54, .int x1] S =
  if x1 = 0 then
    if (2 : Int32) < 0 ∨ 401 ≤ ((2 : Int32)).toNatClampNeg then none else
    some (some (.int (S.1 55 ((2 : Int32)).toNatClampNeg)), S)
  else if x1 = 1 then
    if (3 : Int32) < 0 ∨ 401 ≤ ((3 : Int32)).toNatClampNeg then none else
    some (some (.int (S.1 55 ((3 : Int32)).toNatClampNeg)), S)
  else if x1 = 2 then
    if (4 : Int32) < 0 ∨ 401 ≤ ((4 : Int32)).toNatClampNeg then none else
    some (some (.int (S.1 55 ((4 : Int32)).toNatClampNeg)), S)
  else if x1 = 3 then
    if (0 : Int32) < 0 ∨ 401 ≤ ((0 : Int32)).toNatClampNeg then none else
    some (some (.int (S.1 55 ((0 : Int32)).toNatClampNeg)), S)
  else if x1 = 4 then
    bI ((mFn d) 131 [.ref 54] S) (fun y1 S1 =>
      some (some (.int y1), S1))
  else if x1 = 5 then
    if (5 : Int32) < 0 ∨ 401 ≤ ((5 : Int32)).toNatClampNeg then none else
    some (some (.int (S.1 55 ((5 : Int32)).toNatClampNeg)), S)
  else if x1 = 6 then
    if (6 : Int32) < 0 ∨ 401 ≤ ((6 : Int32)).toNatClampNeg then none else
    some (some (.int (S.1 55 ((6 : Int32)).toNatClampNeg)), S)
  else if x1 = 7 then
    some (some (.int (S.1 54 20)), S)
  else if x1 = 8 then
    if (1 : Int32) < 0 ∨ 401 ≤ ((1 : Int32)).toNatClampNeg then none else
    some (some (.int (S.1 55 ((1 : Int32)).toNatClampNeg)), S)
  else 
    bI ((mFn d) 86 [.ref 54, .int (-1000000001)] S) (fun y2 S2 =>
      some (some (.int y2), S2)) := (mFn_eq rfl).trans (mv_row (code := kX6_count (mFn d)) (mmX6_count (mFn d)) (cuX6_count (mFn d)) 8 rfl)
theorem cuX6_told (F : Nat → List Value → MS → Option MR) : mcuts (kX6_told F) [] := fun _ h => absurd h List.not_mem_nil
set_option maxRecDepth 100000 in
theorem fX6_told (d : Nat) (x1 : Int32) (S : MS) : mFn (d + 1) 175 [.ref 54, .int x1] S =
  bI ((mFn d) 87 [.int x1, .int 1, .int 6] S) (fun y1 S1 =>
    if y1 = 0 then
      bI ((mFn d) 86 [.ref 54, .int (-1000000001)] S1) (fun y2 S2 =>
        some (some (.int y2), S2))
    else
      if x1 < 0 ∨ 7 ≤ (x1).toNatClampNeg then none else
      some (some (.int (S1.1 57 (x1).toNatClampNeg)), S1)) := (mFn_eq rfl).trans (mv_row (code := kX6_told (mFn d)) (mmX6_told (mFn d)) (cuX6_told (mFn d)) 12 rfl)
