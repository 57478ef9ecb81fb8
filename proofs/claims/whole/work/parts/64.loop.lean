/-! ===== the law's loop ===== -/
theorem lin {j L : Nat} (h : j < L) (hL : L ≤ 3072) : ¬ (nI j < 0 ∨ L ≤ j) := fun q => q.elim (fun q => nI_pos (by omega) q) (fun q => by omega)
theorem fa_5 (a : Nat) : fAdd (nI a) 5 = nI (a + 5) := fa_nn a 5
theorem cs_0 {L i : Nat} {xs : Nat → Int32} (hL : L ≤ 3072) (hi : i + 6 ≤ L) {S : MS} (hR : Rel S) : ∃ B, Rel B ∧ mv (kL (mFn 100) L xs) 196 [(0, .ref 1002), (1, .ref 0), (2, .ref 54), (3, .int (nI i))] [] S = mv (kL (mFn 100) L xs) 1437 [(0, .ref 1002), (1, .ref 0), (2, .ref 54), (3, .int (nI i))] [] B := by
  have row := lL_196 100 L xs (nI i) S
  simp only [fa_1, fa_2, cN (show i + 1 ≤ 100000 by omega), cN (show i + 2 ≤ 100000 by omega), if_neg (lin (show i + 1 < L by omega) hL), if_neg (lin (show i + 2 < L by omega) hL)] at row
  have o : Ok2 100 35 102 [.ref 0, .int (xs (i + 1)), .int (xs (i + 2))] [.ref 54, .int (xs (i + 1)), .int (xs (i + 2))] := ok_fountain 96 (xs (i + 1)) (xs (i + 2))
  obtain ⟨r, A, B, a1, a2, a3⟩ := o S hR
  rw [a1, bI_some, a2, bI_some, if_pos rfl] at row
  exact ⟨B, a3, row⟩
theorem cs_1 {L i : Nat} {xs : Nat → Int32} (hL : L ≤ 3072) (hi : i + 6 ≤ L) {S : MS} (hR : Rel S) : ∃ B, Rel B ∧ mv (kL (mFn 100) L xs) 229 [(0, .ref 1002), (1, .ref 0), (2, .ref 54), (3, .int (nI i))] [] S = mv (kL (mFn 100) L xs) 1437 [(0, .ref 1002), (1, .ref 0), (2, .ref 54), (3, .int (nI i))] [] B := by
  have row := lL_229 100 L xs (nI i) S
  simp only [fa_1, fa_2, cN (show i + 1 ≤ 100000 by omega), cN (show i + 2 ≤ 100000 by omega), if_neg (lin (show i + 1 < L by omega) hL), if_neg (lin (show i + 2 < L by omega) hL)] at row
  have o : Ok2 100 36 103 [.ref 0, .int (xs (i + 1)), .int (xs (i + 2))] [.ref 54, .int (xs (i + 1)), .int (xs (i + 2))] := ok_fountainIs 96 (xs (i + 1)) (xs (i + 2))
  obtain ⟨r, A, B, a1, a2, a3⟩ := o S hR
  rw [a1, bI_some, a2, bI_some, if_pos rfl] at row
  exact ⟨B, a3, row⟩
theorem cs_2 {L i : Nat} {xs : Nat → Int32} (hL : L ≤ 3072) (hi : i + 6 ≤ L) {S : MS} (hR : Rel S) : ∃ B, Rel B ∧ mv (kL (mFn 100) L xs) 262 [(0, .ref 1002), (1, .ref 0), (2, .ref 54), (3, .int (nI i))] [] S = mv (kL (mFn 100) L xs) 1437 [(0, .ref 1002), (1, .ref 0), (2, .ref 54), (3, .int (nI i))] [] B := by
  have row := lL_262 100 L xs (nI i) S
  simp only [fa_1, fa_2, cN (show i + 1 ≤ 100000 by omega), cN (show i + 2 ≤ 100000 by omega), if_neg (lin (show i + 1 < L by omega) hL), if_neg (lin (show i + 2 < L by omega) hL)] at row
  have o : Ok2 100 37 104 [.ref 0, .int (xs (i + 1)), .int (xs (i + 2))] [.ref 54, .int (xs (i + 1)), .int (xs (i + 2))] := ok_become 96 (xs (i + 1)) (xs (i + 2))
  obtain ⟨r, A, B, a1, a2, a3⟩ := o S hR
  rw [a1, bI_some, a2, bI_some, if_pos rfl] at row
  exact ⟨B, a3, row⟩
theorem cs_3 {L i : Nat} {xs : Nat → Int32} (hL : L ≤ 3072) (hi : i + 6 ≤ L) {S : MS} (hR : Rel S) : ∃ B, Rel B ∧ mv (kL (mFn 100) L xs) 295 [(0, .ref 1002), (1, .ref 0), (2, .ref 54), (3, .int (nI i))] [] S = mv (kL (mFn 100) L xs) 1437 [(0, .ref 1002), (1, .ref 0), (2, .ref 54), (3, .int (nI i))] [] B := by
  have row := lL_295 100 L xs (nI i) S
  simp only [fa_1, fa_2, cN (show i + 1 ≤ 100000 by omega), cN (show i + 2 ≤ 100000 by omega), if_neg (lin (show i + 1 < L by omega) hL), if_neg (lin (show i + 2 < L by omega) hL)] at row
  have o : Ok2 100 38 105 [.ref 0, .int (xs (i + 1)), .int (xs (i + 2))] [.ref 54, .int (xs (i + 1)), .int (xs (i + 2))] := ok_as 96 (xs (i + 1)) (xs (i + 2))
  obtain ⟨r, A, B, a1, a2, a3⟩ := o S hR
  rw [a1, bI_some, a2, bI_some, if_pos rfl] at row
  exact ⟨B, a3, row⟩
theorem cs_4 {L i : Nat} {xs : Nat → Int32} (hL : L ≤ 3072) (hi : i + 6 ≤ L) {S : MS} (hR : Rel S) : ∃ B, Rel B ∧ mv (kL (mFn 100) L xs) 328 [(0, .ref 1002), (1, .ref 0), (2, .ref 54), (3, .int (nI i))] [] S = mv (kL (mFn 100) L xs) 1437 [(0, .ref 1002), (1, .ref 0), (2, .ref 54), (3, .int (nI i))] [] B := by
  have row := lL_328 100 L xs (nI i) S
  simp only [fa_1, fa_2, cN (show i + 1 ≤ 100000 by omega), cN (show i + 2 ≤ 100000 by omega), if_neg (lin (show i + 1 < L by omega) hL), if_neg (lin (show i + 2 < L by omega) hL)] at row
  have o : Ok2 100 39 106 [.ref 0, .int (xs (i + 1)), .int (xs (i + 2))] [.ref 54, .int (xs (i + 1)), .int (xs (i + 2))] := ok_says 95 (xs (i + 1)) (xs (i + 2))
  obtain ⟨r, A, B, a1, a2, a3⟩ := o S hR
  rw [a1, bI_some, a2, bI_some, if_pos rfl] at row
  exact ⟨B, a3, row⟩
theorem cs_5 {L i : Nat} {xs : Nat → Int32} (hL : L ≤ 3072) (hi : i + 6 ≤ L) {S : MS} (hR : Rel S) : ∃ B, Rel B ∧ mv (kL (mFn 100) L xs) 361 [(0, .ref 1002), (1, .ref 0), (2, .ref 54), (3, .int (nI i))] [] S = mv (kL (mFn 100) L xs) 1437 [(0, .ref 1002), (1, .ref 0), (2, .ref 54), (3, .int (nI i))] [] B := by
  have row := lL_361 100 L xs (nI i) S
  simp only [fa_1, fa_2, cN (show i + 1 ≤ 100000 by omega), cN (show i + 2 ≤ 100000 by omega), if_neg (lin (show i + 1 < L by omega) hL), if_neg (lin (show i + 2 < L by omega) hL)] at row
  have o : Ok2 100 40 107 [.ref 0, .int (xs (i + 1)), .int (xs (i + 2))] [.ref 54, .int (xs (i + 1)), .int (xs (i + 2))] := ok_goesOn 95 (xs (i + 1)) (xs (i + 2))
  obtain ⟨r, A, B, a1, a2, a3⟩ := o S hR
  rw [a1, bI_some, a2, bI_some, if_pos rfl] at row
  exact ⟨B, a3, row⟩
theorem cs_6 {L i : Nat} {xs : Nat → Int32} (hL : L ≤ 3072) (hi : i + 6 ≤ L) {S : MS} (hR : Rel S) : ∃ B, Rel B ∧ mv (kL (mFn 100) L xs) 394 [(0, .ref 1002), (1, .ref 0), (2, .ref 54), (3, .int (nI i))] [] S = mv (kL (mFn 100) L xs) 1437 [(0, .ref 1002), (1, .ref 0), (2, .ref 54), (3, .int (nI i))] [] B := by
  have row := lL_394 100 L xs (nI i) S
  simp only [fa_1, fa_2, fa_3, cN (show i + 1 ≤ 100000 by omega), cN (show i + 2 ≤ 100000 by omega), cN (show i + 3 ≤ 100000 by omega), if_neg (lin (show i + 1 < L by omega) hL), if_neg (lin (show i + 2 < L by omega) hL), if_neg (lin (show i + 3 < L by omega) hL)] at row
  have o : Ok2 100 41 108 [.ref 0, .int (xs (i + 1)), .int (xs (i + 2)), .int (xs (i + 3))] [.ref 54, .int (xs (i + 1)), .int (xs (i + 2)), .int (xs (i + 3))] := ok_pipe 96 (xs (i + 1)) (xs (i + 2)) (xs (i + 3))
  obtain ⟨r, A, B, a1, a2, a3⟩ := o S hR
  rw [a1, bI_some, a2, bI_some, if_pos rfl] at row
  exact ⟨B, a3, row⟩
theorem cs_7 {L i : Nat} {xs : Nat → Int32} (hL : L ≤ 3072) (hi : i + 6 ≤ L) {S : MS} (hR : Rel S) : ∃ B, Rel B ∧ mv (kL (mFn 100) L xs) 437 [(0, .ref 1002), (1, .ref 0), (2, .ref 54), (3, .int (nI i))] [] S = mv (kL (mFn 100) L xs) 1437 [(0, .ref 1002), (1, .ref 0), (2, .ref 54), (3, .int (nI i))] [] B := by
  have row := lL_437 100 L xs (nI i) S
  simp only [fa_1, fa_2, cN (show i + 1 ≤ 100000 by omega), cN (show i + 2 ≤ 100000 by omega), if_neg (lin (show i + 1 < L by omega) hL), if_neg (lin (show i + 2 < L by omega) hL)] at row
  have o : Ok2 100 42 109 [.ref 0, .int (xs (i + 1)), .int (xs (i + 2))] [.ref 54, .int (xs (i + 1)), .int (xs (i + 2))] := ok_pipeIs 95 (xs (i + 1)) (xs (i + 2))
  obtain ⟨r, A, B, a1, a2, a3⟩ := o S hR
  rw [a1, bI_some, a2, bI_some, if_pos rfl] at row
  exact ⟨B, a3, row⟩
theorem cs_8 {L i : Nat} {xs : Nat → Int32} (hL : L ≤ 3072) (hi : i + 6 ≤ L) {S : MS} (hR : Rel S) : ∃ B, Rel B ∧ mv (kL (mFn 100) L xs) 470 [(0, .ref 1002), (1, .ref 0), (2, .ref 54), (3, .int (nI i))] [] S = mv (kL (mFn 100) L xs) 1437 [(0, .ref 1002), (1, .ref 0), (2, .ref 54), (3, .int (nI i))] [] B := by
  have row := lL_470 100 L xs (nI i) S
  simp only [fa_1, fa_2, cN (show i + 1 ≤ 100000 by omega), cN (show i + 2 ≤ 100000 by omega), if_neg (lin (show i + 1 < L by omega) hL), if_neg (lin (show i + 2 < L by omega) hL)] at row
  have o : Ok2 100 43 110 [.ref 0, .int (xs (i + 1)), .int (xs (i + 2))] [.ref 54, .int (xs (i + 1)), .int (xs (i + 2))] := ok_turn 96 (xs (i + 1)) (xs (i + 2))
  obtain ⟨r, A, B, a1, a2, a3⟩ := o S hR
  rw [a1, bI_some, a2, bI_some, if_pos rfl] at row
  exact ⟨B, a3, row⟩
theorem cs_9 {L i : Nat} {xs : Nat → Int32} (hL : L ≤ 3072) (hi : i + 6 ≤ L) {S : MS} (hR : Rel S) : ∃ B, Rel B ∧ mv (kL (mFn 100) L xs) 503 [(0, .ref 1002), (1, .ref 0), (2, .ref 54), (3, .int (nI i))] [] S = mv (kL (mFn 100) L xs) 1437 [(0, .ref 1002), (1, .ref 0), (2, .ref 54), (3, .int (nI i))] [] B := by
  have row := lL_503 100 L xs (nI i) S
  simp only [fa_1, cN (show i + 1 ≤ 100000 by omega), if_neg (lin (show i + 1 < L by omega) hL)] at row
  have o : Ok2 100 44 111 [.ref 0, .int (xs (i + 1))] [.ref 54, .int (xs (i + 1))] := ok_freeze 97 (xs (i + 1))
  obtain ⟨r, A, B, a1, a2, a3⟩ := o S hR
  rw [a1, bI_some, a2, bI_some, if_pos rfl] at row
  exact ⟨B, a3, row⟩
theorem cs_10 {L i : Nat} {xs : Nat → Int32} (hL : L ≤ 3072) (hi : i + 6 ≤ L) {S : MS} (hR : Rel S) : ∃ B, Rel B ∧ mv (kL (mFn 100) L xs) 526 [(0, .ref 1002), (1, .ref 0), (2, .ref 54), (3, .int (nI i))] [] S = mv (kL (mFn 100) L xs) 1437 [(0, .ref 1002), (1, .ref 0), (2, .ref 54), (3, .int (nI i))] [] B := by
  have row := lL_526 100 L xs (nI i) S
  simp only [fa_1, fa_2, fa_3, cN (show i + 1 ≤ 100000 by omega), cN (show i + 2 ≤ 100000 by omega), cN (show i + 3 ≤ 100000 by omega), if_neg (lin (show i + 1 < L by omega) hL), if_neg (lin (show i + 2 < L by omega) hL), if_neg (lin (show i + 3 < L by omega) hL)] at row
  have o : Ok2 100 45 112 [.ref 0, .long (lOr (lShl ((xs (i + 1))).toInt64 32) (lAnd ((xs (i + 2))).toInt64 4294967295)), .int (xs (i + 3))] [.ref 54, .long (lOr (lShl ((xs (i + 1))).toInt64 32) (lAnd ((xs (i + 2))).toInt64 4294967295)), .int (xs (i + 3))] := ok_feed 96 (lOr (lShl ((xs (i + 1))).toInt64 32) (lAnd ((xs (i + 2))).toInt64 4294967295)) (xs (i + 3))
  obtain ⟨r, A, B, a1, a2, a3⟩ := o S hR
  rw [a1, bI_some, a2, bI_some, if_pos rfl] at row
  exact ⟨B, a3, row⟩
theorem cs_11 {L i : Nat} {xs : Nat → Int32} (hL : L ≤ 3072) (hi : i + 6 ≤ L) {S : MS} (hR : Rel S) : ∃ B, Rel B ∧ mv (kL (mFn 100) L xs) 589 [(0, .ref 1002), (1, .ref 0), (2, .ref 54), (3, .int (nI i))] [] S = mv (kL (mFn 100) L xs) 1437 [(0, .ref 1002), (1, .ref 0), (2, .ref 54), (3, .int (nI i))] [] B := by
  have row := lL_589 100 L xs (nI i) S
  simp only [fa_1, cN (show i + 1 ≤ 100000 by omega), if_neg (lin (show i + 1 < L by omega) hL)] at row
  have o : Ok2 100 46 124 [.ref 0, .int (xs (i + 1))] [.ref 54, .int (xs (i + 1))] := ok_text 45 (xs (i + 1))
  obtain ⟨r, A, B, a1, a2, a3⟩ := o S hR
  rw [a1, bI_some, a2, bI_some, if_pos rfl] at row
  exact ⟨B, a3, row⟩
theorem cs_12 {L i : Nat} {xs : Nat → Int32} (hL : L ≤ 3072) (hi : i + 6 ≤ L) {S : MS} (hR : Rel S) : ∃ B, Rel B ∧ mv (kL (mFn 100) L xs) 612 [(0, .ref 1002), (1, .ref 0), (2, .ref 54), (3, .int (nI i))] [] S = mv (kL (mFn 100) L xs) 1437 [(0, .ref 1002), (1, .ref 0), (2, .ref 54), (3, .int (nI i))] [] B := by
  have row := lL_612 100 L xs (nI i) S
  simp only [fa_1, cN (show i + 1 ≤ 100000 by omega), if_neg (lin (show i + 1 < L by omega) hL)] at row
  have o : Ok2 100 47 125 [.ref 0, .int (xs (i + 1))] [.ref 54, .int (xs (i + 1))] := ok_untell 97 (xs (i + 1))
  obtain ⟨r, A, B, a1, a2, a3⟩ := o S hR
  rw [a1, bI_some, a2, bI_some, if_pos rfl] at row
  exact ⟨B, a3, row⟩
theorem cs_13 {L i : Nat} {xs : Nat → Int32} (hL : L ≤ 3072) (hi : i + 6 ≤ L) {S : MS} (hR : Rel S) : ∃ B, Rel B ∧ mv (kL (mFn 100) L xs) 635 [(0, .ref 1002), (1, .ref 0), (2, .ref 54), (3, .int (nI i))] [] S = mv (kL (mFn 100) L xs) 1437 [(0, .ref 1002), (1, .ref 0), (2, .ref 54), (3, .int (nI i))] [] B := by
  have row := lL_635 100 L xs (nI i) S
  simp only [fa_1, fa_2, fa_3, fa_4, cN (show i + 1 ≤ 100000 by omega), cN (show i + 2 ≤ 100000 by omega), cN (show i + 3 ≤ 100000 by omega), cN (show i + 4 ≤ 100000 by omega), if_neg (lin (show i + 1 < L by omega) hL), if_neg (lin (show i + 2 < L by omega) hL), if_neg (lin (show i + 3 < L by omega) hL), if_neg (lin (show i + 4 < L by omega) hL)] at row
  have o : Ok2 100 48 129 [.ref 0, .int (xs (i + 1)), .int (xs (i + 2)), .int (xs (i + 3)), .int (xs (i + 4))] [.ref 54, .int (xs (i + 1)), .int (xs (i + 2)), .int (xs (i + 3)), .int (xs (i + 4))] := ok_law 96 (xs (i + 1)) (xs (i + 2)) (xs (i + 3)) (xs (i + 4))
  obtain ⟨r, A, B, a1, a2, a3⟩ := o S hR
  rw [a1, bI_some, a2, bI_some, if_pos rfl] at row
  exact ⟨B, a3, row⟩
theorem cs_14 {L i : Nat} {xs : Nat → Int32} (hL : L ≤ 3072) (hi : i + 6 ≤ L) {S : MS} (hR : Rel S) : ∃ B, Rel B ∧ mv (kL (mFn 100) L xs) 688 [(0, .ref 1002), (1, .ref 0), (2, .ref 54), (3, .int (nI i))] [] S = mv (kL (mFn 100) L xs) 1437 [(0, .ref 1002), (1, .ref 0), (2, .ref 54), (3, .int (nI i))] [] B := by
  have row := lL_688 100 L xs (nI i) S
  simp only [fa_1, fa_2, cN (show i + 1 ≤ 100000 by omega), cN (show i + 2 ≤ 100000 by omega), if_neg (lin (show i + 1 < L by omega) hL), if_neg (lin (show i + 2 < L by omega) hL)] at row
  have o : Ok2 100 49 136 [.ref 0, .int (xs (i + 1)), .int (xs (i + 2))] [.ref 54, .int (xs (i + 1)), .int (xs (i + 2))] := ok_hears 92 (xs (i + 1)) (xs (i + 2))
  obtain ⟨r, A, B, a1, a2, a3⟩ := o S hR
  rw [a1, bI_some, a2, bI_some, if_pos rfl] at row
  exact ⟨B, a3, row⟩
theorem cs_15 {L i : Nat} {xs : Nat → Int32} (hL : L ≤ 3072) (hi : i + 6 ≤ L) {S : MS} (hR : Rel S) : ∃ B, Rel B ∧ mv (kL (mFn 100) L xs) 721 [(0, .ref 1002), (1, .ref 0), (2, .ref 54), (3, .int (nI i))] [] S = mv (kL (mFn 100) L xs) 1437 [(0, .ref 1002), (1, .ref 0), (2, .ref 54), (3, .int (nI i))] [] B := by
  have row := lL_721 100 L xs (nI i) S
  simp only [fa_1, fa_2, fa_3, fa_4, cN (show i + 1 ≤ 100000 by omega), cN (show i + 2 ≤ 100000 by omega), cN (show i + 3 ≤ 100000 by omega), cN (show i + 4 ≤ 100000 by omega), if_neg (lin (show i + 1 < L by omega) hL), if_neg (lin (show i + 2 < L by omega) hL), if_neg (lin (show i + 3 < L by omega) hL), if_neg (lin (show i + 4 < L by omega) hL)] at row
  have o : Ok2 100 50 137 [.ref 0, .int (xs (i + 1)), .int (xs (i + 2)), .int (xs (i + 3)), .int (xs (i + 4))] [.ref 54, .int (xs (i + 1)), .int (xs (i + 2)), .int (xs (i + 3)), .int (xs (i + 4))] := ok_heard 92 (xs (i + 1)) (xs (i + 2)) (xs (i + 3)) (xs (i + 4))
  obtain ⟨r, A, B, a1, a2, a3⟩ := o S hR
  rw [a1, bI_some, a2, bI_some, if_pos rfl] at row
  exact ⟨B, a3, row⟩
theorem cs_16 {L i : Nat} {xs : Nat → Int32} (hL : L ≤ 3072) (hi : i + 6 ≤ L) {S : MS} (hR : Rel S) : ∃ B, Rel B ∧ mv (kL (mFn 100) L xs) 774 [(0, .ref 1002), (1, .ref 0), (2, .ref 54), (3, .int (nI i))] [] S = mv (kL (mFn 100) L xs) 1437 [(0, .ref 1002), (1, .ref 0), (2, .ref 54), (3, .int (nI i))] [] B := by
  have row := lL_774 100 L xs (nI i) S
  simp only [fa_1, fa_2, cN (show i + 1 ≤ 100000 by omega), cN (show i + 2 ≤ 100000 by omega), if_neg (lin (show i + 1 < L by omega) hL), if_neg (lin (show i + 2 < L by omega) hL)] at row
  have o : Ok2 100 51 139 [.ref 0, .int (xs (i + 1)), .int (xs (i + 2))] [.ref 54, .int (xs (i + 1)), .int (xs (i + 2))] := ok_let 91 (xs (i + 1)) (xs (i + 2))
  obtain ⟨r, A, B, a1, a2, a3⟩ := o S hR
  rw [a1, bI_some, a2, bI_some, if_pos rfl] at row
  exact ⟨B, a3, row⟩
theorem cs_17 {L i : Nat} {xs : Nat → Int32} (hL : L ≤ 3072) (hi : i + 6 ≤ L) {S : MS} (hR : Rel S) : ∃ B, Rel B ∧ mv (kL (mFn 100) L xs) 807 [(0, .ref 1002), (1, .ref 0), (2, .ref 54), (3, .int (nI i))] [] S = mv (kL (mFn 100) L xs) 1437 [(0, .ref 1002), (1, .ref 0), (2, .ref 54), (3, .int (nI i))] [] B := by
  have row := lL_807 100 L xs (nI i) S
  simp only [fa_1, cN (show i + 1 ≤ 100000 by omega), if_neg (lin (show i + 1 < L by omega) hL)] at row
  have o : Ok2 100 52 140 [.ref 0, .int (xs (i + 1))] [.ref 54, .int (xs (i + 1))] := ok_days 96 (xs (i + 1))
  obtain ⟨r, A, B, a1, a2, a3⟩ := o S hR
  rw [a1, bI_some, a2, bI_some, if_pos rfl] at row
  exact ⟨B, a3, row⟩
theorem cs_18 {L i : Nat} {xs : Nat → Int32} (hL : L ≤ 3072) (hi : i + 6 ≤ L) {S : MS} (hR : Rel S) : ∃ B, Rel B ∧ mv (kL (mFn 100) L xs) 830 [(0, .ref 1002), (1, .ref 0), (2, .ref 54), (3, .int (nI i))] [] S = mv (kL (mFn 100) L xs) 1437 [(0, .ref 1002), (1, .ref 0), (2, .ref 54), (3, .int (nI i))] [] B := by
  have row := lL_830 100 L xs (nI i) S
  simp only [fa_1, cN (show i + 1 ≤ 100000 by omega), if_neg (lin (show i + 1 < L by omega) hL)] at row
  have o : Ok2 100 53 142 [.ref 0, .int (xs (i + 1))] [.ref 54, .int (xs (i + 1))] := ok_loose 91 (xs (i + 1))
  obtain ⟨r, A, B, a1, a2, a3⟩ := o S hR
  rw [a1, bI_some, a2, bI_some, if_pos rfl] at row
  exact ⟨B, a3, row⟩
theorem cs_19 {L i : Nat} {xs : Nat → Int32} (hL : L ≤ 3072) (hi : i + 6 ≤ L) {S : MS} (hR : Rel S) : ∃ B, Rel B ∧ mv (kL (mFn 100) L xs) 853 [(0, .ref 1002), (1, .ref 0), (2, .ref 54), (3, .int (nI i))] [] S = mv (kL (mFn 100) L xs) 1437 [(0, .ref 1002), (1, .ref 0), (2, .ref 54), (3, .int (nI i))] [] B := by
  have row := lL_853 100 L xs (nI i) S
  simp only [fa_1, cN (show i + 1 ≤ 100000 by omega), if_neg (lin (show i + 1 < L by omega) hL)] at row
  have o : Ok2 100 54 143 [.ref 0, .int (xs (i + 1))] [.ref 54, .int (xs (i + 1))] := ok_seed 97 (xs (i + 1))
  obtain ⟨r, A, B, a1, a2, a3⟩ := o S hR
  rw [a1, bI_some, a2, bI_some, if_pos rfl] at row
  exact ⟨B, a3, row⟩
theorem cs_20 {L i : Nat} {xs : Nat → Int32} (hL : L ≤ 3072) (hi : i + 6 ≤ L) {S : MS} (hR : Rel S) : ∃ B, Rel B ∧ mv (kL (mFn 100) L xs) 876 [(0, .ref 1002), (1, .ref 0), (2, .ref 54), (3, .int (nI i))] [] S = mv (kL (mFn 100) L xs) 1437 [(0, .ref 1002), (1, .ref 0), (2, .ref 54), (3, .int (nI i))] [] B := by
  have row := lL_876 100 L xs (nI i) S
  simp only [fa_1, fa_2, fa_3, fa_4, cN (show i + 1 ≤ 100000 by omega), cN (show i + 2 ≤ 100000 by omega), cN (show i + 3 ≤ 100000 by omega), cN (show i + 4 ≤ 100000 by omega), if_neg (lin (show i + 1 < L by omega) hL), if_neg (lin (show i + 2 < L by omega) hL), if_neg (lin (show i + 3 < L by omega) hL), if_neg (lin (show i + 4 < L by omega) hL)] at row
  have o : Ok2 100 55 144 [.ref 0, .int (xs (i + 1)), .int (xs (i + 2)), .int (xs (i + 3)), .int (xs (i + 4))] [.ref 54, .int (xs (i + 1)), .int (xs (i + 2)), .int (xs (i + 3)), .int (xs (i + 4))] := ok_hush 92 (xs (i + 1)) (xs (i + 2)) (xs (i + 3)) (xs (i + 4))
  obtain ⟨r, A, B, a1, a2, a3⟩ := o S hR
  rw [a1, bI_some, a2, bI_some, if_pos rfl] at row
  exact ⟨B, a3, row⟩
theorem cs_21 {L i : Nat} {xs : Nat → Int32} (hL : L ≤ 3072) (hi : i + 6 ≤ L) {S : MS} (hR : Rel S) : ∃ B, Rel B ∧ mv (kL (mFn 100) L xs) 929 [(0, .ref 1002), (1, .ref 0), (2, .ref 54), (3, .int (nI i))] [] S = mv (kL (mFn 100) L xs) 1437 [(0, .ref 1002), (1, .ref 0), (2, .ref 54), (3, .int (nI i))] [] B := by
  have row := lL_929 100 L xs (nI i) S
  simp only [fa_1, fa_2, fa_3, fa_4, fa_5, cN (show i + 1 ≤ 100000 by omega), cN (show i + 2 ≤ 100000 by omega), cN (show i + 3 ≤ 100000 by omega), cN (show i + 4 ≤ 100000 by omega), cN (show i + 5 ≤ 100000 by omega), if_neg (lin (show i + 1 < L by omega) hL), if_neg (lin (show i + 2 < L by omega) hL), if_neg (lin (show i + 3 < L by omega) hL), if_neg (lin (show i + 4 < L by omega) hL), if_neg (lin (show i + 5 < L by omega) hL)] at row
  have o : Ok2 100 56 145 [.ref 0, .int (xs (i + 1)), .int (xs (i + 2)), .int (xs (i + 3)), .int (xs (i + 4)), .int (xs (i + 5))] [.ref 54, .int (xs (i + 1)), .int (xs (i + 2)), .int (xs (i + 3)), .int (xs (i + 4)), .int (xs (i + 5))] := ok_reach 92 (xs (i + 1)) (xs (i + 2)) (xs (i + 3)) (xs (i + 4)) (xs (i + 5))
  obtain ⟨r, A, B, a1, a2, a3⟩ := o S hR
  rw [a1, bI_some, a2, bI_some, if_pos rfl] at row
  exact ⟨B, a3, row⟩
theorem cs_22 {L i : Nat} {xs : Nat → Int32} (hL : L ≤ 3072) (hi : i + 6 ≤ L) {S : MS} (hR : Rel S) : ∃ B, Rel B ∧ mv (kL (mFn 100) L xs) 992 [(0, .ref 1002), (1, .ref 0), (2, .ref 54), (3, .int (nI i))] [] S = mv (kL (mFn 100) L xs) 1437 [(0, .ref 1002), (1, .ref 0), (2, .ref 54), (3, .int (nI i))] [] B := by
  have row := lL_992 100 L xs (nI i) S
  simp only [fa_1, fa_2, fa_3, cN (show i + 1 ≤ 100000 by omega), cN (show i + 2 ≤ 100000 by omega), cN (show i + 3 ≤ 100000 by omega), if_neg (lin (show i + 1 < L by omega) hL), if_neg (lin (show i + 2 < L by omega) hL), if_neg (lin (show i + 3 < L by omega) hL)] at row
  have o : Ok2 100 57 146 [.ref 0, .int (xs (i + 1)), .int (xs (i + 2)), .int (xs (i + 3))] [.ref 54, .int (xs (i + 1)), .int (xs (i + 2)), .int (xs (i + 3))] := ok_odds 91 (xs (i + 1)) (xs (i + 2)) (xs (i + 3))
  obtain ⟨r, A, B, a1, a2, a3⟩ := o S hR
  rw [a1, bI_some, a2, bI_some, if_pos rfl] at row
  exact ⟨B, a3, row⟩
theorem cs_23 {L i : Nat} {xs : Nat → Int32} (hL : L ≤ 3072) (hi : i + 6 ≤ L) {S : MS} (hR : Rel S) : ∃ B, Rel B ∧ mv (kL (mFn 100) L xs) 1035 [(0, .ref 1002), (1, .ref 0), (2, .ref 54), (3, .int (nI i))] [] S = mv (kL (mFn 100) L xs) 1437 [(0, .ref 1002), (1, .ref 0), (2, .ref 54), (3, .int (nI i))] [] B := by
  have row := lL_1035 100 L xs (nI i) S
  simp only [fa_1, fa_2, cN (show i + 1 ≤ 100000 by omega), cN (show i + 2 ≤ 100000 by omega), if_neg (lin (show i + 1 < L by omega) hL), if_neg (lin (show i + 2 < L by omega) hL)] at row
  have o : Ok2 100 58 148 [.ref 0, .int (xs (i + 1)), .int (xs (i + 2))] [.ref 54, .int (xs (i + 1)), .int (xs (i + 2))] := ok_fits 91 (xs (i + 1)) (xs (i + 2))
  obtain ⟨r, A, B, a1, a2, a3⟩ := o S hR
  rw [a1, bI_some, a2, bI_some, if_pos rfl] at row
  exact ⟨B, a3, row⟩
theorem cs_24 {L i : Nat} {xs : Nat → Int32} (hL : L ≤ 3072) (hi : i + 6 ≤ L) {S : MS} (hR : Rel S) : ∃ B, Rel B ∧ mv (kL (mFn 100) L xs) 1068 [(0, .ref 1002), (1, .ref 0), (2, .ref 54), (3, .int (nI i))] [] S = mv (kL (mFn 100) L xs) 1437 [(0, .ref 1002), (1, .ref 0), (2, .ref 54), (3, .int (nI i))] [] B := by
  have row := lL_1068 100 L xs (nI i) S
  simp only [fa_1, fa_2, fa_3, cN (show i + 1 ≤ 100000 by omega), cN (show i + 2 ≤ 100000 by omega), cN (show i + 3 ≤ 100000 by omega), if_neg (lin (show i + 1 < L by omega) hL), if_neg (lin (show i + 2 < L by omega) hL), if_neg (lin (show i + 3 < L by omega) hL)] at row
  have o : Ok2 100 59 160 [.ref 0, .int (xs (i + 1)), .int (xs (i + 2)), .int (xs (i + 3))] [.ref 54, .int (xs (i + 1)), .int (xs (i + 2)), .int (xs (i + 3))] := ok_voice 89 (xs (i + 1)) (xs (i + 2)) (xs (i + 3))
  obtain ⟨r, A, B, a1, a2, a3⟩ := o S hR
  rw [a1, bI_some, a2, bI_some, if_pos rfl] at row
  exact ⟨B, a3, row⟩
theorem cs_25 {L i : Nat} {xs : Nat → Int32} (hL : L ≤ 3072) (hi : i + 6 ≤ L) {S : MS} (hR : Rel S) : ∃ B, Rel B ∧ mv (kL (mFn 100) L xs) 1111 [(0, .ref 1002), (1, .ref 0), (2, .ref 54), (3, .int (nI i))] [] S = mv (kL (mFn 100) L xs) 1437 [(0, .ref 1002), (1, .ref 0), (2, .ref 54), (3, .int (nI i))] [] B := by
  have row := lL_1111 100 L xs (nI i) S
  simp only [fa_1, cN (show i + 1 ≤ 100000 by omega), if_neg (lin (show i + 1 < L by omega) hL)] at row
  have o : Ok2 100 60 161 [.ref 0, .int (xs (i + 1))] [.ref 54, .int (xs (i + 1))] := ok_body 97 (xs (i + 1))
  obtain ⟨r, A, B, a1, a2, a3⟩ := o S hR
  rw [a1, bI_some, a2, bI_some, if_pos rfl] at row
  exact ⟨B, a3, row⟩
theorem cs_26 {L i : Nat} {xs : Nat → Int32} (hL : L ≤ 3072) (hi : i + 6 ≤ L) {S : MS} (hR : Rel S) : ∃ B, Rel B ∧ mv (kL (mFn 100) L xs) 1134 [(0, .ref 1002), (1, .ref 0), (2, .ref 54), (3, .int (nI i))] [] S = mv (kL (mFn 100) L xs) 1437 [(0, .ref 1002), (1, .ref 0), (2, .ref 54), (3, .int (nI i))] [] B := by
  have row := lL_1134 100 L xs (nI i) S
  simp only [fa_1, fa_2, fa_3, cN (show i + 1 ≤ 100000 by omega), cN (show i + 2 ≤ 100000 by omega), cN (show i + 3 ≤ 100000 by omega), if_neg (lin (show i + 1 < L by omega) hL), if_neg (lin (show i + 2 < L by omega) hL), if_neg (lin (show i + 3 < L by omega) hL)] at row
  have o : Ok2 100 61 163 [.ref 0, .int (xs (i + 1)), .int (xs (i + 2)), .int (xs (i + 3))] [.ref 54, .int (xs (i + 1)), .int (xs (i + 2)), .int (xs (i + 3))] := ok_sheet 96 (xs (i + 1)) (xs (i + 2)) (xs (i + 3))
  obtain ⟨r, A, B, a1, a2, a3⟩ := o S hR
  rw [a1, bI_some, a2, bI_some, if_pos rfl] at row
  exact ⟨B, a3, row⟩
theorem cs_27 {L i : Nat} {xs : Nat → Int32} (hL : L ≤ 3072) (hi : i + 6 ≤ L) {S : MS} (hR : Rel S) : ∃ B, Rel B ∧ mv (kL (mFn 100) L xs) 1177 [(0, .ref 1002), (1, .ref 0), (2, .ref 54), (3, .int (nI i))] [] S = mv (kL (mFn 100) L xs) 1437 [(0, .ref 1002), (1, .ref 0), (2, .ref 54), (3, .int (nI i))] [] B := by
  have row := lL_1177 100 L xs (nI i) S
  simp only [fa_1, fa_2, fa_3, cN (show i + 1 ≤ 100000 by omega), cN (show i + 2 ≤ 100000 by omega), cN (show i + 3 ≤ 100000 by omega), if_neg (lin (show i + 1 < L by omega) hL), if_neg (lin (show i + 2 < L by omega) hL), if_neg (lin (show i + 3 < L by omega) hL)] at row
  have o : Ok2 100 62 165 [.ref 0, .int (xs (i + 1)), .int (xs (i + 2)), .int (xs (i + 3))] [.ref 54, .int (xs (i + 1)), .int (xs (i + 2)), .int (xs (i + 3))] := ok_put 96 (xs (i + 1)) (xs (i + 2)) (xs (i + 3))
  obtain ⟨r, A, B, a1, a2, a3⟩ := o S hR
  rw [a1, bI_some, a2, bI_some, if_pos rfl] at row
  exact ⟨B, a3, row⟩
theorem cs_28 {L i : Nat} {xs : Nat → Int32} (hL : L ≤ 3072) (hi : i + 6 ≤ L) {S : MS} (hR : Rel S) : ∃ B, Rel B ∧ mv (kL (mFn 100) L xs) 1220 [(0, .ref 1002), (1, .ref 0), (2, .ref 54), (3, .int (nI i))] [] S = mv (kL (mFn 100) L xs) 1437 [(0, .ref 1002), (1, .ref 0), (2, .ref 54), (3, .int (nI i))] [] B := by
  have row := lL_1220 100 L xs (nI i) S
  simp only [fa_1, fa_2, fa_3, fa_4, fa_5, cN (show i + 1 ≤ 100000 by omega), cN (show i + 2 ≤ 100000 by omega), cN (show i + 3 ≤ 100000 by omega), cN (show i + 4 ≤ 100000 by omega), cN (show i + 5 ≤ 100000 by omega), if_neg (lin (show i + 1 < L by omega) hL), if_neg (lin (show i + 2 < L by omega) hL), if_neg (lin (show i + 3 < L by omega) hL), if_neg (lin (show i + 4 < L by omega) hL), if_neg (lin (show i + 5 < L by omega) hL)] at row
  have o : Ok2 100 63 167 [.ref 0, .int (xs (i + 1)), .int (xs (i + 2)), .int (xs (i + 3)), .int (xs (i + 4)), .int (xs (i + 5))] [.ref 54, .int (xs (i + 1)), .int (xs (i + 2)), .int (xs (i + 3)), .int (xs (i + 4)), .int (xs (i + 5))] := ok_move 95 (xs (i + 1)) (xs (i + 2)) (xs (i + 3)) (xs (i + 4)) (xs (i + 5))
  obtain ⟨r, A, B, a1, a2, a3⟩ := o S hR
  rw [a1, bI_some, a2, bI_some, if_pos rfl] at row
  exact ⟨B, a3, row⟩
theorem cs_29 {L i : Nat} {xs : Nat → Int32} (hL : L ≤ 3072) (hi : i + 6 ≤ L) {S : MS} (hR : Rel S) : ∃ B, Rel B ∧ mv (kL (mFn 100) L xs) 1283 [(0, .ref 1002), (1, .ref 0), (2, .ref 54), (3, .int (nI i))] [] S = mv (kL (mFn 100) L xs) 1437 [(0, .ref 1002), (1, .ref 0), (2, .ref 54), (3, .int (nI i))] [] B := by
  have row := lL_1283 100 L xs (nI i) S
  simp only [fa_1, cN (show i + 1 ≤ 100000 by omega), if_neg (lin (show i + 1 < L by omega) hL)] at row
  have o : Ok2 100 64 168 [.ref 0, .int (xs (i + 1))] [.ref 54, .int (xs (i + 1))] := ok_talks 96 (xs (i + 1))
  obtain ⟨r, A, B, a1, a2, a3⟩ := o S hR
  rw [a1, bI_some, a2, bI_some, if_pos rfl] at row
  exact ⟨B, a3, row⟩
theorem cs_30 {L i : Nat} {xs : Nat → Int32} (hL : L ≤ 3072) (hi : i + 6 ≤ L) {S : MS} (hR : Rel S) : ∃ B, Rel B ∧ mv (kL (mFn 100) L xs) 1306 [(0, .ref 1002), (1, .ref 0), (2, .ref 54), (3, .int (nI i))] [] S = mv (kL (mFn 100) L xs) 1437 [(0, .ref 1002), (1, .ref 0), (2, .ref 54), (3, .int (nI i))] [] B := by
  have row := lL_1306 100 L xs (nI i) S
  simp only [fa_1, cN (show i + 1 ≤ 100000 by omega), if_neg (lin (show i + 1 < L by omega) hL)] at row
  have o : Ok2 100 65 169 [.ref 0, .int (xs (i + 1))] [.ref 54, .int (xs (i + 1))] := ok_judge 95 (xs (i + 1))
  obtain ⟨r, A, B, a1, a2, a3⟩ := o S hR
  rw [a1, bI_some, a2, bI_some, if_pos rfl] at row
  exact ⟨B, a3, row⟩
theorem cs_31 {L i : Nat} {xs : Nat → Int32} (hL : L ≤ 3072) (hi : i + 6 ≤ L) {S : MS} (hR : Rel S) : ∃ B, Rel B ∧ mv (kL (mFn 100) L xs) 1329 [(0, .ref 1002), (1, .ref 0), (2, .ref 54), (3, .int (nI i))] [] S = mv (kL (mFn 100) L xs) 1437 [(0, .ref 1002), (1, .ref 0), (2, .ref 54), (3, .int (nI i))] [] B := by
  have row := lL_1329 100 L xs (nI i) S
  have o : Ok2 100 66 170 [.ref 0] [.ref 54] := ok_image 97
  obtain ⟨r, A, B, a1, a2, a3⟩ := o S hR
  rw [a1, bI_some, a2, bI_some, if_pos rfl] at row
  exact ⟨B, a3, row⟩
theorem cs_32 {L i : Nat} {xs : Nat → Int32} (hL : L ≤ 3072) (hi : i + 6 ≤ L) {S : MS} (hR : Rel S) : ∃ B, Rel B ∧ mv (kL (mFn 100) L xs) 1342 [(0, .ref 1002), (1, .ref 0), (2, .ref 54), (3, .int (nI i))] [] S = mv (kL (mFn 100) L xs) 1437 [(0, .ref 1002), (1, .ref 0), (2, .ref 54), (3, .int (nI i))] [] B := by
  have row := lL_1342 100 L xs (nI i) S
  have o : Ok2 100 67 171 [.ref 0] [.ref 54] := ok_restore 97
  obtain ⟨r, A, B, a1, a2, a3⟩ := o S hR
  rw [a1, bI_some, a2, bI_some, if_pos rfl] at row
  exact ⟨B, a3, row⟩
theorem cs_33 {L i : Nat} {xs : Nat → Int32} (hL : L ≤ 3072) (hi : i + 6 ≤ L) {S : MS} (hR : Rel S) : ∃ B, Rel B ∧ mv (kL (mFn 100) L xs) 1355 [(0, .ref 1002), (1, .ref 0), (2, .ref 54), (3, .int (nI i))] [] S = mv (kL (mFn 100) L xs) 1437 [(0, .ref 1002), (1, .ref 0), (2, .ref 54), (3, .int (nI i))] [] B := by
  have row := lL_1355 100 L xs (nI i) S
  simp only [fa_1, cN (show i + 1 ≤ 100000 by omega), if_neg (lin (show i + 1 < L by omega) hL)] at row
  have o : Ok2 100 68 172 [.ref 0, .int (xs (i + 1))] [.ref 54, .int (xs (i + 1))] := ok_tell 97 (xs (i + 1))
  obtain ⟨r, A, B, a1, a2, a3⟩ := o S hR
  rw [a1, bI_some, a2, bI_some, if_pos rfl] at row
  exact ⟨B, a3, row⟩
theorem cs_34 {L i : Nat} {xs : Nat → Int32} (hL : L ≤ 3072) (hi : i + 6 ≤ L) {S : MS} (hR : Rel S) : ∃ B, Rel B ∧ mv (kL (mFn 100) L xs) 1378 [(0, .ref 1002), (1, .ref 0), (2, .ref 54), (3, .int (nI i))] [] S = mv (kL (mFn 100) L xs) 1437 [(0, .ref 1002), (1, .ref 0), (2, .ref 54), (3, .int (nI i))] [] B := by
  have row := lL_1378 100 L xs (nI i) S
  have o : Ok2 100 69 173 [.ref 0] [.ref 54] := ok_check 97
  obtain ⟨r, A, B, a1, a2, a3⟩ := o S hR
  rw [a1, bI_some, a2, bI_some, if_pos rfl] at row
  exact ⟨B, a3, row⟩
theorem cs_35 {L i : Nat} {xs : Nat → Int32} (hL : L ≤ 3072) (hi : i + 6 ≤ L) {S : MS} (hR : Rel S) : ∃ B, Rel B ∧ mv (kL (mFn 100) L xs) 1391 [(0, .ref 1002), (1, .ref 0), (2, .ref 54), (3, .int (nI i))] [] S = mv (kL (mFn 100) L xs) 1437 [(0, .ref 1002), (1, .ref 0), (2, .ref 54), (3, .int (nI i))] [] B := by
  have row := lL_1391 100 L xs (nI i) S
  simp only [fa_1, cN (show i + 1 ≤ 100000 by omega), if_neg (lin (show i + 1 < L by omega) hL)] at row
  have o : Ok2 100 70 174 [.ref 0, .int (xs (i + 1))] [.ref 54, .int (xs (i + 1))] := ok_count 96 (xs (i + 1))
  obtain ⟨r, A, B, a1, a2, a3⟩ := o S hR
  rw [a1, bI_some, a2, bI_some, if_pos rfl] at row
  exact ⟨B, a3, row⟩
theorem cs_36 {L i : Nat} {xs : Nat → Int32} (hL : L ≤ 3072) (hi : i + 6 ≤ L) {S : MS} (hR : Rel S) : ∃ B, Rel B ∧ mv (kL (mFn 100) L xs) 1414 [(0, .ref 1002), (1, .ref 0), (2, .ref 54), (3, .int (nI i))] [] S = mv (kL (mFn 100) L xs) 1437 [(0, .ref 1002), (1, .ref 0), (2, .ref 54), (3, .int (nI i))] [] B := by
  have row := lL_1414 100 L xs (nI i) S
  simp only [fa_1, cN (show i + 1 ≤ 100000 by omega), if_neg (lin (show i + 1 < L by omega) hL)] at row
  have o : Ok2 100 71 175 [.ref 0, .int (xs (i + 1))] [.ref 54, .int (xs (i + 1))] := ok_told 97 (xs (i + 1))
  obtain ⟨r, A, B, a1, a2, a3⟩ := o S hR
  rw [a1, bI_some, a2, bI_some, if_pos rfl] at row
  exact ⟨B, a3, row⟩
theorem law_go {L : Nat} {xs : Nat → Int32} (hL : L ≤ 3072) : ∀ m i (S : MS), L ≤ i + m → i ≤ 4000 → Rel S → ∃ S', mv (kL (mFn 100) L xs) 18 [(0, .ref 1002), (1, .ref 0), (2, .ref 54), (3, .int (nI i))] [] S = some (some (.int 1), S') := by
  intro m
  have sub : (fSub (Int32.ofNat L) 6).toInt = (L : Int) - 6 := pk_sub_toInt (a := L) (b := 6) (by omega) (by omega)
  induction m with
  | zero =>
    intro i S hm hi hR
    refine ⟨S, ?_⟩
    rw [lL_18, if_pos]
    rw [ilt, sub, nI_toInt (by omega)]
    omega
  | succ m ih =>
    intro i S hm hi hR
    by_cases e : fSub (Int32.ofNat L) 6 < nI i
    · exact ⟨S, by rw [lL_18, if_pos e]⟩
    · have hin : i + 6 ≤ L := by
        rw [ilt, sub, nI_toInt (by omega)] at e
        omega
      have row := lL_18 100 L xs (nI i) S
      rw [if_neg e, cN (show i ≤ 100000 by omega), if_neg (lin (show i < L by omega) hL)] at row
      have go : ∀ B, Rel B → ∃ S', mv (kL (mFn 100) L xs) 1437 [(0, .ref 1002), (1, .ref 0), (2, .ref 54), (3, .int (nI i))] [] B = some (some (.int 1), S') := by
        intro B hB
        obtain ⟨S', h⟩ := ih (i + 6) B (by omega) (by omega) hB
        exact ⟨S', by rw [lL_1437, show nI i + 6 = nI (i + 6) from fa_nn i 6, h]⟩
      by_cases h0 : fAnd (xs i) 63 = 0
      · rw [if_pos h0] at row
        obtain ⟨B, hB, e2⟩ := cs_0 (xs := xs) hL hin hR
        obtain ⟨S', hS'⟩ := go B hB
        exact ⟨S', row.trans (e2.trans hS')⟩
      rw [if_neg h0] at row
      by_cases h1 : fAnd (xs i) 63 = 1
      · rw [if_pos h1] at row
        obtain ⟨B, hB, e2⟩ := cs_1 (xs := xs) hL hin hR
        obtain ⟨S', hS'⟩ := go B hB
        exact ⟨S', row.trans (e2.trans hS')⟩
      rw [if_neg h1] at row
      by_cases h2 : fAnd (xs i) 63 = 2
      · rw [if_pos h2] at row
        obtain ⟨B, hB, e2⟩ := cs_2 (xs := xs) hL hin hR
        obtain ⟨S', hS'⟩ := go B hB
        exact ⟨S', row.trans (e2.trans hS')⟩
      rw [if_neg h2] at row
      by_cases h3 : fAnd (xs i) 63 = 3
      · rw [if_pos h3] at row
        obtain ⟨B, hB, e2⟩ := cs_3 (xs := xs) hL hin hR
        obtain ⟨S', hS'⟩ := go B hB
        exact ⟨S', row.trans (e2.trans hS')⟩
      rw [if_neg h3] at row
      by_cases h4 : fAnd (xs i) 63 = 4
      · rw [if_pos h4] at row
        obtain ⟨B, hB, e2⟩ := cs_4 (xs := xs) hL hin hR
        obtain ⟨S', hS'⟩ := go B hB
        exact ⟨S', row.trans (e2.trans hS')⟩
      rw [if_neg h4] at row
      by_cases h5 : fAnd (xs i) 63 = 5
      · rw [if_pos h5] at row
        obtain ⟨B, hB, e2⟩ := cs_5 (xs := xs) hL hin hR
        obtain ⟨S', hS'⟩ := go B hB
        exact ⟨S', row.trans (e2.trans hS')⟩
      rw [if_neg h5] at row
      by_cases h6 : fAnd (xs i) 63 = 6
      · rw [if_pos h6] at row
        obtain ⟨B, hB, e2⟩ := cs_6 (xs := xs) hL hin hR
        obtain ⟨S', hS'⟩ := go B hB
        exact ⟨S', row.trans (e2.trans hS')⟩
      rw [if_neg h6] at row
      by_cases h7 : fAnd (xs i) 63 = 7
      · rw [if_pos h7] at row
        obtain ⟨B, hB, e2⟩ := cs_7 (xs := xs) hL hin hR
        obtain ⟨S', hS'⟩ := go B hB
        exact ⟨S', row.trans (e2.trans hS')⟩
      rw [if_neg h7] at row
      by_cases h8 : fAnd (xs i) 63 = 8
      · rw [if_pos h8] at row
        obtain ⟨B, hB, e2⟩ := cs_8 (xs := xs) hL hin hR
        obtain ⟨S', hS'⟩ := go B hB
        exact ⟨S', row.trans (e2.trans hS')⟩
      rw [if_neg h8] at row
      by_cases h9 : fAnd (xs i) 63 = 9
      · rw [if_pos h9] at row
        obtain ⟨B, hB, e2⟩ := cs_9 (xs := xs) hL hin hR
        obtain ⟨S', hS'⟩ := go B hB
        exact ⟨S', row.trans (e2.trans hS')⟩
      rw [if_neg h9] at row
      by_cases h10 : fAnd (xs i) 63 = 10
      · rw [if_pos h10] at row
        obtain ⟨B, hB, e2⟩ := cs_10 (xs := xs) hL hin hR
        obtain ⟨S', hS'⟩ := go B hB
        exact ⟨S', row.trans (e2.trans hS')⟩
      rw [if_neg h10] at row
      by_cases h11 : fAnd (xs i) 63 = 11
      · rw [if_pos h11] at row
        obtain ⟨B, hB, e2⟩ := cs_11 (xs := xs) hL hin hR
        obtain ⟨S', hS'⟩ := go B hB
        exact ⟨S', row.trans (e2.trans hS')⟩
      rw [if_neg h11] at row
      by_cases h12 : fAnd (xs i) 63 = 12
      · rw [if_pos h12] at row
        obtain ⟨B, hB, e2⟩ := cs_12 (xs := xs) hL hin hR
        obtain ⟨S', hS'⟩ := go B hB
        exact ⟨S', row.trans (e2.trans hS')⟩
      rw [if_neg h12] at row
      by_cases h13 : fAnd (xs i) 63 = 13
      · rw [if_pos h13] at row
        obtain ⟨B, hB, e2⟩ := cs_13 (xs := xs) hL hin hR
        obtain ⟨S', hS'⟩ := go B hB
        exact ⟨S', row.trans (e2.trans hS')⟩
      rw [if_neg h13] at row
      by_cases h14 : fAnd (xs i) 63 = 14
      · rw [if_pos h14] at row
        obtain ⟨B, hB, e2⟩ := cs_14 (xs := xs) hL hin hR
        obtain ⟨S', hS'⟩ := go B hB
        exact ⟨S', row.trans (e2.trans hS')⟩
      rw [if_neg h14] at row
      by_cases h15 : fAnd (xs i) 63 = 15
      · rw [if_pos h15] at row
        obtain ⟨B, hB, e2⟩ := cs_15 (xs := xs) hL hin hR
        obtain ⟨S', hS'⟩ := go B hB
        exact ⟨S', row.trans (e2.trans hS')⟩
      rw [if_neg h15] at row
      by_cases h16 : fAnd (xs i) 63 = 16
      · rw [if_pos h16] at row
        obtain ⟨B, hB, e2⟩ := cs_16 (xs := xs) hL hin hR
        obtain ⟨S', hS'⟩ := go B hB
        exact ⟨S', row.trans (e2.trans hS')⟩
      rw [if_neg h16] at row
      by_cases h17 : fAnd (xs i) 63 = 17
      · rw [if_pos h17] at row
        obtain ⟨B, hB, e2⟩ := cs_17 (xs := xs) hL hin hR
        obtain ⟨S', hS'⟩ := go B hB
        exact ⟨S', row.trans (e2.trans hS')⟩
      rw [if_neg h17] at row
      by_cases h18 : fAnd (xs i) 63 = 18
      · rw [if_pos h18] at row
        obtain ⟨B, hB, e2⟩ := cs_18 (xs := xs) hL hin hR
        obtain ⟨S', hS'⟩ := go B hB
        exact ⟨S', row.trans (e2.trans hS')⟩
      rw [if_neg h18] at row
      by_cases h19 : fAnd (xs i) 63 = 19
      · rw [if_pos h19] at row
        obtain ⟨B, hB, e2⟩ := cs_19 (xs := xs) hL hin hR
        obtain ⟨S', hS'⟩ := go B hB
        exact ⟨S', row.trans (e2.trans hS')⟩
      rw [if_neg h19] at row
      by_cases h20 : fAnd (xs i) 63 = 20
      · rw [if_pos h20] at row
        obtain ⟨B, hB, e2⟩ := cs_20 (xs := xs) hL hin hR
        obtain ⟨S', hS'⟩ := go B hB
        exact ⟨S', row.trans (e2.trans hS')⟩
      rw [if_neg h20] at row
      by_cases h21 : fAnd (xs i) 63 = 21
      · rw [if_pos h21] at row
        obtain ⟨B, hB, e2⟩ := cs_21 (xs := xs) hL hin hR
        obtain ⟨S', hS'⟩ := go B hB
        exact ⟨S', row.trans (e2.trans hS')⟩
      rw [if_neg h21] at row
      by_cases h22 : fAnd (xs i) 63 = 22
      · rw [if_pos h22] at row
        obtain ⟨B, hB, e2⟩ := cs_22 (xs := xs) hL hin hR
        obtain ⟨S', hS'⟩ := go B hB
        exact ⟨S', row.trans (e2.trans hS')⟩
      rw [if_neg h22] at row
      by_cases h23 : fAnd (xs i) 63 = 23
      · rw [if_pos h23] at row
        obtain ⟨B, hB, e2⟩ := cs_23 (xs := xs) hL hin hR
        obtain ⟨S', hS'⟩ := go B hB
        exact ⟨S', row.trans (e2.trans hS')⟩
      rw [if_neg h23] at row
      by_cases h24 : fAnd (xs i) 63 = 24
      · rw [if_pos h24] at row
        obtain ⟨B, hB, e2⟩ := cs_24 (xs := xs) hL hin hR
        obtain ⟨S', hS'⟩ := go B hB
        exact ⟨S', row.trans (e2.trans hS')⟩
      rw [if_neg h24] at row
      by_cases h25 : fAnd (xs i) 63 = 25
      · rw [if_pos h25] at row
        obtain ⟨B, hB, e2⟩ := cs_25 (xs := xs) hL hin hR
        obtain ⟨S', hS'⟩ := go B hB
        exact ⟨S', row.trans (e2.trans hS')⟩
      rw [if_neg h25] at row
      by_cases h26 : fAnd (xs i) 63 = 26
      · rw [if_pos h26] at row
        obtain ⟨B, hB, e2⟩ := cs_26 (xs := xs) hL hin hR
        obtain ⟨S', hS'⟩ := go B hB
        exact ⟨S', row.trans (e2.trans hS')⟩
      rw [if_neg h26] at row
      by_cases h27 : fAnd (xs i) 63 = 27
      · rw [if_pos h27] at row
        obtain ⟨B, hB, e2⟩ := cs_27 (xs := xs) hL hin hR
        obtain ⟨S', hS'⟩ := go B hB
        exact ⟨S', row.trans (e2.trans hS')⟩
      rw [if_neg h27] at row
      by_cases h28 : fAnd (xs i) 63 = 28
      · rw [if_pos h28] at row
        obtain ⟨B, hB, e2⟩ := cs_28 (xs := xs) hL hin hR
        obtain ⟨S', hS'⟩ := go B hB
        exact ⟨S', row.trans (e2.trans hS')⟩
      rw [if_neg h28] at row
      by_cases h29 : fAnd (xs i) 63 = 29
      · rw [if_pos h29] at row
        obtain ⟨B, hB, e2⟩ := cs_29 (xs := xs) hL hin hR
        obtain ⟨S', hS'⟩ := go B hB
        exact ⟨S', row.trans (e2.trans hS')⟩
      rw [if_neg h29] at row
      by_cases h30 : fAnd (xs i) 63 = 30
      · rw [if_pos h30] at row
        obtain ⟨B, hB, e2⟩ := cs_30 (xs := xs) hL hin hR
        obtain ⟨S', hS'⟩ := go B hB
        exact ⟨S', row.trans (e2.trans hS')⟩
      rw [if_neg h30] at row
      by_cases h31 : fAnd (xs i) 63 = 31
      · rw [if_pos h31] at row
        obtain ⟨B, hB, e2⟩ := cs_31 (xs := xs) hL hin hR
        obtain ⟨S', hS'⟩ := go B hB
        exact ⟨S', row.trans (e2.trans hS')⟩
      rw [if_neg h31] at row
      by_cases h32 : fAnd (xs i) 63 = 32
      · rw [if_pos h32] at row
        obtain ⟨B, hB, e2⟩ := cs_32 (xs := xs) hL hin hR
        obtain ⟨S', hS'⟩ := go B hB
        exact ⟨S', row.trans (e2.trans hS')⟩
      rw [if_neg h32] at row
      by_cases h33 : fAnd (xs i) 63 = 33
      · rw [if_pos h33] at row
        obtain ⟨B, hB, e2⟩ := cs_33 (xs := xs) hL hin hR
        obtain ⟨S', hS'⟩ := go B hB
        exact ⟨S', row.trans (e2.trans hS')⟩
      rw [if_neg h33] at row
      by_cases h34 : fAnd (xs i) 63 = 34
      · rw [if_pos h34] at row
        obtain ⟨B, hB, e2⟩ := cs_34 (xs := xs) hL hin hR
        obtain ⟨S', hS'⟩ := go B hB
        exact ⟨S', row.trans (e2.trans hS')⟩
      rw [if_neg h34] at row
      by_cases h35 : fAnd (xs i) 63 = 35
      · rw [if_pos h35] at row
        obtain ⟨B, hB, e2⟩ := cs_35 (xs := xs) hL hin hR
        obtain ⟨S', hS'⟩ := go B hB
        exact ⟨S', row.trans (e2.trans hS')⟩
      rw [if_neg h35] at row
      by_cases h36 : fAnd (xs i) 63 = 36
      · rw [if_pos h36] at row
        obtain ⟨B, hB, e2⟩ := cs_36 (xs := xs) hL hin hR
        obtain ⟨S', hS'⟩ := go B hB
        exact ⟨S', row.trans (e2.trans hS')⟩
      rw [if_neg h36] at row
      obtain ⟨S', hS'⟩ := go S hR
      exact ⟨S', row.trans hS'⟩
theorem Rel_S0 : Rel S0 := by
  have z : ∀ k j, k ≠ 1 → k ≠ 18 → k ≠ 55 → S0.1 k j = 0 := fun k j h1 h2 h3 => by
    show (if k = 1 then upd (fun _ => 0) 12 1 else if k = 18 then upd (fun _ => 0) 12 1 else if k = 55 then upd (fun _ => 0) 1 1 else fun _ => (0 : Int32)) j = 0
    rw [if_neg h1, if_neg h2, if_neg h3]
  have w : ∀ j, j ≠ 1 → S0.1 55 j = 0 := fun j hj => by
    show upd (fun _ => (0 : Int32)) 1 1 j = 0
    simp [upd, hj]
  have c : ∀ j, j ≠ 12 → S0.1 1 j = 0 := fun j hj => by
    show upd (fun _ => (0 : Int32)) 12 1 j = 0
    simp [upd, hj]
  have c12 : S0.1 1 12 = 1 := by decide
  have w1 : S0.1 55 1 = 1 := by decide
  have n0 : (0 : Int32) = nI 0 := rfl
  refine ⟨⟨0, 0, 0, 0, 0, ⟨by omega, by omega, by omega, by omega, by decide, ?_, ?_, ?_, ?_, ?_, ?_, ?_, ?_, ?_, ?_, ?_, ?_, ?_, ?_⟩, fun f hf => ?_, fun p hp => ?_, ⟨fun i hi => ?_, fun i hi => ?_⟩, Or.inl ⟨?_, ?_⟩, Or.inl ⟨?_, ?_⟩⟩, ⟨?_, Or.inl ?_⟩, fun k hk => ?_, fun s hs => ?_, 0, by omega, ?_, ?_, fun i hi => absurd hi (Nat.not_lt_zero i)⟩
  · exact c 0 (by decide)
  · exact w 2 (by decide)
  · exact c 5 (by decide)
  · exact w 3 (by decide)
  · exact c 14 (by decide)
  · exact w 5 (by decide)
  · exact c 17 (by decide)
  · exact w 6 (by decide)
  · exact c 9 (by decide)
  · rw [c 10 (by decide), w 4 (by decide)]
  · rw [c 11 (by decide), w 0 (by decide)]
  · rw [c12, w1]
  · rw [w 4 (by decide)]; decide
  · rw [w 0 (by decide)]; decide
  · rw [z (1 + 1) f (by decide) (by decide) (by decide), z (1 + 2) f (by decide) (by decide) (by decide), z (1 + 3) f (by decide) (by decide) (by decide), z (1 + 4) f (by decide) (by decide) (by decide), w _ (by omega), w _ (by omega), w _ (by omega), w _ (by omega)]
    decide
  · rw [z (1 + 5) p (by decide) (by decide) (by decide), z (1 + 6) p (by decide) (by decide) (by decide), z (1 + 7) p (by decide) (by decide) (by decide), w _ (by omega), w _ (by omega), w _ (by omega)]
    exact ⟨rfl, rfl, rfl, fun h => absurd h (Nat.not_lt_zero p)⟩
  · rw [z (1 + 8) i (by decide) (by decide) (by decide), w _ (by omega)]
    decide
  · rw [z (1 + 9) i (by decide) (by decide) (by decide), w _ (by omega)]
  · exact z (1 + 11) 0 (by decide) (by decide) (by decide)
  · exact w 159 (by decide)
  · exact z (1 + 14) 0 (by decide) (by decide) (by decide)
  · exact w 280 (by decide)
  · rw [z 0 2 (by decide) (by decide) (by decide), z 54 2 (by decide) (by decide) (by decide)]
  · exact z 0 2 (by decide) (by decide) (by decide)
  · rw [z 53 k (by decide) (by decide) (by decide), z 57 k (by decide) (by decide) (by decide)]
  · rw [z (45 + 2 * s) 0 (by omega) (by omega) (by omega), z (45 + 2 * s) 1 (by omega) (by omega) (by omega), z 58 s (by decide) (by decide) (by decide), z 59 s (by decide) (by decide) (by decide)]
    refine ⟨rfl, rfl, Or.inl rfl, ⟨0, by omega, rfl, fun _ => rfl⟩, fun i hi => ?_⟩
    rw [z (46 + 2 * s) i (by omega) (by omega) (by omega), z 60 _ (by decide) (by decide) (by decide)]
  · exact z 42 5 (by decide) (by decide) (by decide)
  · exact z 54 20 (by decide) (by decide) (by decide)
theorem whole_start {p : Program} {e : Env} {s : State} {m : MethodId} {below : List Frame} {meth : Method} {c : Code} (l : Launch) (hflags : l.flags = flags0) {b L : Nat} {xs : Nat → Int32} (hL : L ≤ 3072) (C0 : lw_At p s m meth c b L xs) : W p l e room_1 s m #[Value.ref b] below meth c s.heap [] 0 0 (lw_Z below #[Value.ref b] s) (entryFrame m ([Value.ref b] : List Value).toArray 4) :=
  start_of l C0 (law_go (xs := xs) hL L 0 S0 (by omega) (by omega) Rel_S0)
