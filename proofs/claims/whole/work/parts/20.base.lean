/-! ===== plain rows: predicates, errors, frames, the relation of both sides ===== -/
theorem bI_some (x : Int32) (S : MS) (f : Int32 → MS → Option MR) : bI (some (some (.int x), S)) f = f x S := rfl
theorem bV_some (S : MS) (f : MS → Option MR) : bV (some (none, S)) f = f S := rfl
def b2 (P : Prop) [Decidable P] : Int32 := if P then 1 else 0
theorem b2_pos {P : Prop} [Decidable P] (h : P) : b2 P = 1 := if_pos h
theorem b2_neg {P : Prop} [Decidable P] (h : ¬ P) : b2 P = 0 := if_neg h
theorem b2_eq0 (P : Prop) [Decidable P] : (b2 P = 0) = ¬ P := by
  unfold b2
  by_cases h : P
  · rw [if_pos h]; simp [h]
  · rw [if_neg h]; simp [h]
theorem b2_01 (P : Prop) [Decidable P] : (b2 P = 0 ∨ b2 P = 1) = True := by
  unfold b2
  by_cases h : P
  · rw [if_pos h]; simp
  · rw [if_neg h]; simp
theorem if_b2 {α : Type} (P : Prop) [Decidable P] (a b : α) : (if b2 P = 0 then a else b) = if P then b else a := by
  by_cases h : P
  · rw [b2_pos h, if_pos h, if_neg (by decide)]
  · rw [b2_neg h, if_neg h, if_pos rfl]
theorem if_b01 {α : Type} (P : Prop) [Decidable P] (a b : α) : (if b2 P = 0 ∨ b2 P = 1 then a else b) = a := by
  rw [if_pos (by rw [b2_01]; trivial)]
theorem ilt (a b : Int32) : a < b ↔ a.toInt < b.toInt := Int32.lt_iff_toInt_lt
theorem ile (a b : Int32) : a ≤ b ↔ a.toInt ≤ b.toInt := Int32.le_iff_toInt_le
theorem ieq (a b : Int32) : a = b ↔ a.toInt = b.toInt := Int32.toInt_inj.symm
theorem inlt (a b : Int32) : ¬ a < b ↔ b ≤ a := Int32.not_lt
theorem inle (a b : Int32) : ¬ a ≤ b ↔ b < a := Int32.not_le
/-- an int that lies between 0 and nI n is a number below n -/
theorem i_rng {x : Int32} {n : Nat} (hn : n < 2 ^ 31) (h0 : 0 ≤ x) (h1 : x < nI n) : ∃ j, j < n ∧ x = nI j := by
  rcases pk_ix x hn with h | h | h
  · exact absurd h0 (Int32.not_le.mpr h)
  · exact absurd h1 (Int32.not_lt.mpr h)
  · exact h
theorem nI_lit (n : Nat) : (OfNat.ofNat n : Int32) = nI n := rfl
theorem nI_small {n : Nat} (h : n < 2 ^ 31) : (nI n).toInt = (n : Int) := nI_toInt h
theorem pC_err1 (d : Nat) (S : MS) : mFn (d + 1) 72 [.ref 0, .int 1] S = some (some (.int (-1000000001)), uI S 53 1 (S.1 53 1 + 1)) := by
  rw [fX5_error, if_neg (by decide), if_neg (by decide), show fSub (-1000000000) 1 = -1000000001 by decide, show (1 : Int32).toNatClampNeg = 1 by decide]
  rfl
theorem pM_err1 (d : Nat) (S : MS) : mFn (d + 1) 86 [.ref 54, .int (-1000000001)] S = some (some (.int (-1000000001)), uI S 57 1 (S.1 57 1 + 1)) := by
  rw [fX6_error, show fSub (-1000000000) (-1000000001) = 1 by decide, if_neg (by decide), if_neg (by decide), show (1 : Int32).toNatClampNeg = 1 by decide]
  rfl
theorem pC_err2 (d : Nat) (S : MS) : mFn (d + 1) 72 [.ref 0, .int 2] S = some (some (.int (-1000000002)), uI S 53 2 (S.1 53 2 + 1)) := by
  rw [fX5_error, if_neg (by decide), if_neg (by decide), show fSub (-1000000000) 2 = -1000000002 by decide, show (2 : Int32).toNatClampNeg = 2 by decide]
  rfl
theorem pM_err2 (d : Nat) (S : MS) : mFn (d + 1) 86 [.ref 54, .int (-1000000002)] S = some (some (.int (-1000000002)), uI S 57 2 (S.1 57 2 + 1)) := by
  rw [fX6_error, show fSub (-1000000000) (-1000000002) = 2 by decide, if_neg (by decide), if_neg (by decide), show (2 : Int32).toNatClampNeg = 2 by decide]
  rfl
theorem pC_err3 (d : Nat) (S : MS) : mFn (d + 1) 72 [.ref 0, .int 3] S = some (some (.int (-1000000003)), uI S 53 3 (S.1 53 3 + 1)) := by
  rw [fX5_error, if_neg (by decide), if_neg (by decide), show fSub (-1000000000) 3 = -1000000003 by decide, show (3 : Int32).toNatClampNeg = 3 by decide]
  rfl
theorem pM_err3 (d : Nat) (S : MS) : mFn (d + 1) 86 [.ref 54, .int (-1000000003)] S = some (some (.int (-1000000003)), uI S 57 3 (S.1 57 3 + 1)) := by
  rw [fX6_error, show fSub (-1000000000) (-1000000003) = 3 by decide, if_neg (by decide), if_neg (by decide), show (3 : Int32).toNatClampNeg = 3 by decide]
  rfl
theorem pC_err4 (d : Nat) (S : MS) : mFn (d + 1) 72 [.ref 0, .int 4] S = some (some (.int (-1000000004)), uI S 53 4 (S.1 53 4 + 1)) := by
  rw [fX5_error, if_neg (by decide), if_neg (by decide), show fSub (-1000000000) 4 = -1000000004 by decide, show (4 : Int32).toNatClampNeg = 4 by decide]
  rfl
theorem pM_err4 (d : Nat) (S : MS) : mFn (d + 1) 86 [.ref 54, .int (-1000000004)] S = some (some (.int (-1000000004)), uI S 57 4 (S.1 57 4 + 1)) := by
  rw [fX6_error, show fSub (-1000000000) (-1000000004) = 4 by decide, if_neg (by decide), if_neg (by decide), show (4 : Int32).toNatClampNeg = 4 by decide]
  rfl
theorem pC_err5 (d : Nat) (S : MS) : mFn (d + 1) 72 [.ref 0, .int 5] S = some (some (.int (-1000000005)), uI S 53 5 (S.1 53 5 + 1)) := by
  rw [fX5_error, if_neg (by decide), if_neg (by decide), show fSub (-1000000000) 5 = -1000000005 by decide, show (5 : Int32).toNatClampNeg = 5 by decide]
  rfl
theorem pM_err5 (d : Nat) (S : MS) : mFn (d + 1) 86 [.ref 54, .int (-1000000005)] S = some (some (.int (-1000000005)), uI S 57 5 (S.1 57 5 + 1)) := by
  rw [fX6_error, show fSub (-1000000000) (-1000000005) = 5 by decide, if_neg (by decide), if_neg (by decide), show (5 : Int32).toNatClampNeg = 5 by decide]
  rfl
theorem pC_err6 (d : Nat) (S : MS) : mFn (d + 1) 72 [.ref 0, .int 6] S = some (some (.int (-1000000006)), uI S 53 6 (S.1 53 6 + 1)) := by
  rw [fX5_error, if_neg (by decide), if_neg (by decide), show fSub (-1000000000) 6 = -1000000006 by decide, show (6 : Int32).toNatClampNeg = 6 by decide]
  rfl
theorem pM_err6 (d : Nat) (S : MS) : mFn (d + 1) 86 [.ref 54, .int (-1000000006)] S = some (some (.int (-1000000006)), uI S 57 6 (S.1 57 6 + 1)) := by
  rw [fX6_error, show fSub (-1000000000) (-1000000006) = 6 by decide, if_neg (by decide), if_neg (by decide), show (6 : Int32).toNatClampNeg = 6 by decide]
  rfl
theorem pM_in (d : Nat) (x a b : Int32) (S : MS) : mFn (d + 1) 87 [.int x, .int a, .int b] S = some (some (.int (b2 (a ≤ x ∧ x ≤ b))), S) := by
  rw [fX6_in]
  by_cases h1 : x < a
  · rw [if_pos h1, b2_neg (fun z => absurd z.1 (Int32.not_le.mpr h1))]
  · rw [if_neg h1]
    by_cases h2 : b < x
    · rw [if_pos h2, b2_neg (fun z => absurd z.2 (Int32.not_le.mpr h2))]
    · rw [if_neg h2, b2_pos ⟨Int32.not_lt.mp h1, Int32.not_lt.mp h2⟩]
theorem b2_congr {P Q : Prop} [Decidable P] [Decidable Q] (h : P ↔ Q) : b2 P = b2 Q := by
  by_cases hp : P
  · rw [b2_pos hp, b2_pos (h.mp hp)]
  · rw [b2_neg hp, b2_neg (fun z => hp (h.mpr z))]
theorem pC_isKm (d : Nat) (x : Int32) (S : MS) : mFn (d + 1) 75 [.int x] S = some (some (.int (b2 (0 ≤ x ∧ x ≤ 69))), S) := by
  rw [fX5_isKindAndM]
  by_cases h1 : x < 0
  · rw [if_pos h1, b2_neg (fun z => absurd z.1 (Int32.not_le.mpr h1))]
  · rw [if_neg h1]
    by_cases h2 : 70 ≤ x
    · rw [if_pos h2, b2_neg (fun z => by have := (ile _ _).mp z.2; have := (ile _ _).mp h2; rw [show (69 : Int32).toInt = 69 by decide] at *; rw [show (70 : Int32).toInt = 70 by decide] at *; omega)]
    · rw [if_neg h2, b2_pos ⟨Int32.not_lt.mp h1, by have := (ilt _ _).mp (Int32.not_le.mp h2); rw [ile]; rw [show (70 : Int32).toInt = 70 by decide] at this; rw [show (69 : Int32).toInt = 69 by decide]; omega⟩]
theorem pM_isKm (d : Nat) (x : Int32) (S : MS) : mFn (d + 2) 101 [.int x] S = some (some (.int (b2 (0 ≤ x ∧ x ≤ 69))), S) := by
  rw [fX6_isKm, pM_in, bI_some, if_pos (by rw [b2_01]; trivial)]
theorem pC_isDigit (d : Nat) (x : Int32) (S : MS) : mFn (d + 1) 74 [.int x] S = some (some (.int (b2 (0 ≤ x ∧ x ≤ 9))), S) := by
  rw [fX5_isDigit]
  by_cases h1 : x < 0
  · rw [if_pos h1, b2_neg (fun z => absurd z.1 (Int32.not_le.mpr h1))]
  · rw [if_neg h1]
    by_cases h2 : 9 < x
    · rw [if_pos h2, b2_neg (fun z => absurd z.2 (Int32.not_le.mpr h2))]
    · rw [if_neg h2, b2_pos ⟨Int32.not_lt.mp h1, Int32.not_lt.mp h2⟩]
theorem bit_iff (x : Int32) : (x = 0 ∨ x = 1) ↔ (0 ≤ x ∧ x ≤ 1) := by
  rw [ieq x 0, ieq x 1, ile, ile, show (0 : Int32).toInt = 0 by decide, show (1 : Int32).toInt = 1 by decide]
  omega
theorem pC_isBit (d : Nat) (x : Int32) (S : MS) : mFn (d + 1) 73 [.int x] S = some (some (.int (b2 (0 ≤ x ∧ x ≤ 1))), S) := by
  rw [fX5_isBit]
  by_cases h1 : x = 0
  · rw [if_pos h1, b2_pos ((bit_iff x).mp (Or.inl h1))]
  · rw [if_neg h1]
    by_cases h2 : x = 1
    · rw [if_pos h2, b2_pos ((bit_iff x).mp (Or.inr h2))]
    · rw [if_neg h2, b2_neg (fun z => ((bit_iff x).mpr z).elim h1 h2)]
theorem pC_isSheet (d : Nat) (x : Int32) (S : MS) : mFn (d + 1) 79 [.int x] S = some (some (.int (b2 (0 ≤ x ∧ x ≤ 3))), S) := by
  rw [fX5_isSheet]
  by_cases h1 : x < 0
  · rw [if_pos h1, b2_neg (fun z => absurd z.1 (Int32.not_le.mpr h1))]
  · rw [if_neg h1]
    by_cases h2 : 4 ≤ x
    · rw [if_pos h2, b2_neg (fun z => by have := (ile _ _).mp z.2; have := (ile _ _).mp h2; rw [show (3 : Int32).toInt = 3 by decide] at *; rw [show (4 : Int32).toInt = 4 by decide] at *; omega)]
    · rw [if_neg h2, b2_pos ⟨Int32.not_lt.mp h1, by have := (ilt _ _).mp (Int32.not_le.mp h2); rw [ile]; rw [show (4 : Int32).toInt = 4 by decide] at this; rw [show (3 : Int32).toInt = 3 by decide]; omega⟩]
theorem pM_isSheet (d : Nat) (x : Int32) (S : MS) : mFn (d + 2) 162 [.int x] S = some (some (.int (b2 (0 ≤ x ∧ x ≤ 3))), S) := by
  rw [fX6_isSheet, pM_in, bI_some, if_pos (by rw [b2_01]; trivial)]
theorem pM_isSize (d : Nat) (x : Int32) (S : MS) : mFn (d + 2) 93 [.int x] S = some (some (.int (b2 (1 ≤ x ∧ x ≤ 99))), S) := by
  rw [fX6_isSize, pM_in, bI_some, if_pos (by rw [b2_01]; trivial)]
/-- below a small number, written in two ways -/
theorem lt_pred (x : Int32) {n : Nat} (hn : n < 2 ^ 30) : (0 ≤ x ∧ x ≤ fSub (nI n) 1) ↔ (0 ≤ x ∧ x < nI n) := by
  have e : (fSub (nI n) 1).toInt = (n : Int) - 1 := pk_sub_toInt (a := n) (b := 1) (by omega) (by omega)
  rw [ile, ile, ilt, e, nI_toInt (by omega), show (0 : Int32).toInt = 0 by decide]
  omega
theorem pC_isF (d : Nat) (x : Int32) {S : MS} {n : Nat} (h : S.1 1 0 = nI n) : mFn (d + 1) 76 [.ref 0, .int x] S = some (some (.int (b2 (0 ≤ x ∧ x < nI n))), S) := by
  rw [fX5_isFountain, h]
  by_cases h1 : x < 0
  · rw [if_pos h1, b2_neg (fun z => absurd z.1 (Int32.not_le.mpr h1))]
  · rw [if_neg h1]
    by_cases h2 : nI n ≤ x
    · rw [if_pos h2, b2_neg (fun z => absurd z.2 (Int32.not_lt.mpr h2))]
    · rw [if_neg h2, b2_pos ⟨Int32.not_lt.mp h1, Int32.not_le.mp h2⟩]
theorem pC_isP (d : Nat) (x : Int32) {S : MS} {n : Nat} (h : S.1 1 5 = nI n) : mFn (d + 1) 77 [.ref 0, .int x] S = some (some (.int (b2 (0 ≤ x ∧ x < nI n))), S) := by
  rw [fX5_isPipe, h]
  by_cases h1 : x < 0
  · rw [if_pos h1, b2_neg (fun z => absurd z.1 (Int32.not_le.mpr h1))]
  · rw [if_neg h1]
    by_cases h2 : nI n ≤ x
    · rw [if_pos h2, b2_neg (fun z => absurd z.2 (Int32.not_lt.mpr h2))]
    · rw [if_neg h2, b2_pos ⟨Int32.not_lt.mp h1, Int32.not_le.mp h2⟩]
theorem pC_isSay (d : Nat) (x z : Int32) {S : MS} {n : Nat} (h : S.1 1 0 = nI n) : mFn (d + 2) 78 [.ref 0, .int x, .int z] S = some (some (.int (b2 ((0 ≤ x ∧ x < nI n) ∧ 1 ≤ z ∧ z ≤ 99))), S) := by
  rw [fX5_isSaying, pC_isF d x h, bI_some, if_b2]
  by_cases h0 : 0 ≤ x ∧ x < nI n
  · rw [if_pos h0]
    by_cases h1 : z < 1
    · rw [if_pos h1, b2_neg (fun y => absurd y.2.1 (Int32.not_le.mpr h1))]
    · rw [if_neg h1]
      by_cases h2 : 99 < z
      · rw [if_pos h2, b2_neg (fun y => absurd y.2.2 (Int32.not_le.mpr h2))]
      · rw [if_neg h2, b2_pos ⟨h0, Int32.not_lt.mp h1, Int32.not_lt.mp h2⟩]
  · rw [if_neg h0, b2_neg (fun y => h0 y.1)]
theorem c2i : ((2 : Int32)).toNatClampNeg = 2 := by decide
theorem c3i : ((3 : Int32)).toNatClampNeg = 3 := by decide
theorem pM_isF (d : Nat) (x : Int32) {S : MS} {n : Nat} (h : S.1 55 2 = nI n) (hn : n ≤ 60) : mFn (d + 2) 91 [.ref 54, .int x] S = some (some (.int (b2 (0 ≤ x ∧ x < nI n))), S) := by
  rw [fX6_isFountain, if_neg (by decide), c2i, h, pM_in, bI_some, if_pos (by rw [b2_01]; trivial), b2_congr (lt_pred x (by omega))]
theorem pM_isP (d : Nat) (x : Int32) {S : MS} {n : Nat} (h : S.1 55 3 = nI n) (hn : n ≤ 60) : mFn (d + 2) 92 [.ref 54, .int x] S = some (some (.int (b2 (0 ≤ x ∧ x < nI n))), S) := by
  rw [fX6_isPipe, if_neg (by decide), c3i, h, pM_in, bI_some, if_pos (by rw [b2_01]; trivial), b2_congr (lt_pred x (by omega))]

