/-! ===== how many bits: both ways ===== -/
def pcn (n : Nat) : Nat := (n.testBit 0).toNat + (n.testBit 1).toNat + (n.testBit 2).toNat + (n.testBit 3).toNat + (n.testBit 4).toNat + (n.testBit 5).toNat + (n.testBit 6).toNat + (n.testBit 7).toNat + (n.testBit 8).toNat
def bcv (x1 : Int32) : Int32 := fAnd (fAdd (fAdd (fAnd (fAdd (fAdd (fAnd (fSub x1 (fAnd (fUshr x1 1) 1431655765)) 858993459) (fAnd (fUshr (fSub x1 (fAnd (fUshr x1 1) 1431655765)) 2) 858993459)) (fUshr (fAdd (fAnd (fSub x1 (fAnd (fUshr x1 1) 1431655765)) 858993459) (fAnd (fUshr (fSub x1 (fAnd (fUshr x1 1) 1431655765)) 2) 858993459)) 4)) 252645135) (fUshr (fAnd (fAdd (fAdd (fAnd (fSub x1 (fAnd (fUshr x1 1) 1431655765)) 858993459) (fAnd (fUshr (fSub x1 (fAnd (fUshr x1 1) 1431655765)) 2) 858993459)) (fUshr (fAdd (fAnd (fSub x1 (fAnd (fUshr x1 1) 1431655765)) 858993459) (fAnd (fUshr (fSub x1 (fAnd (fUshr x1 1) 1431655765)) 2) 858993459)) 4)) 252645135) 8)) (fUshr (fAdd (fAnd (fAdd (fAdd (fAnd (fSub x1 (fAnd (fUshr x1 1) 1431655765)) 858993459) (fAnd (fUshr (fSub x1 (fAnd (fUshr x1 1) 1431655765)) 2) 858993459)) (fUshr (fAdd (fAnd (fSub x1 (fAnd (fUshr x1 1) 1431655765)) 858993459) (fAnd (fUshr (fSub x1 (fAnd (fUshr x1 1) 1431655765)) 2) 858993459)) 4)) 252645135) (fUshr (fAnd (fAdd (fAdd (fAnd (fSub x1 (fAnd (fUshr x1 1) 1431655765)) 858993459) (fAnd (fUshr (fSub x1 (fAnd (fUshr x1 1) 1431655765)) 2) 858993459)) (fUshr (fAdd (fAnd (fSub x1 (fAnd (fUshr x1 1) 1431655765)) 858993459) (fAnd (fUshr (fSub x1 (fAnd (fUshr x1 1) 1431655765)) 2) 858993459)) 4)) 252645135) 8)) 16)) 63
theorem bcv_n : ∀ n, n < 512 → bcv (nI n) = nI (pcn n) := by decide +kernel
theorem bcC (d : Nat) {n : Nat} (h : n < 512) (S : MS) : mFn (d + 1) 184 [.int (nI n)] S = some (some (.int (nI (pcn n))), S) := by
  rw [← bcv_n n h]
  exact fJ6_bitCount_0f7a4 d (nI n) S
theorem bit_dn : ∀ n, n < 512 → n ≠ 0 → fAnd (nI n) (fSub (nI n) 1) = nI (n &&& (n - 1)) ∧ n &&& (n - 1) < n ∧ pcn n = pcn (n &&& (n - 1)) + 1 := by decide +kernel
theorem bcM_go (d : Nat) (S : MS) : ∀ m n, n < 512 → n ≤ m → ∀ c, mv (kX6_bits (mFn d)) 4 [(1, .int (nI c)), (2, .int (nI n))] [] S = some (some (.int (nI (c + pcn n))), S) := by
  intro m
  induction m with
  | zero =>
    intro n h hm c
    have e : n = 0 := by omega
    subst e
    rw [lX6_bits_4, if_pos (show nI 0 = 0 from rfl)]
    rfl
  | succ m ih =>
    intro n h hm c
    by_cases e : n = 0
    · subst e
      rw [lX6_bits_4, if_pos (show nI 0 = 0 from rfl)]
      rfl
    · obtain ⟨h1, h2, h3⟩ := bit_dn n h e
      rw [lX6_bits_4, if_neg (nI_ne0 (by omega) (by omega)), h1, add1, ih (n &&& (n - 1)) (by omega) (by omega) (c + 1), h3, show c + 1 + pcn (n &&& (n - 1)) = c + (pcn (n &&& (n - 1)) + 1) by omega]
theorem bcM (d : Nat) {n : Nat} (h : n < 512) (S : MS) : mFn (d + 1) 90 [.int (nI n)] S = some (some (.int (nI (pcn n))), S) := by
  rw [fX6_bits]
  refine (bcM_go d S n n h (Nat.le_refl _) 0).trans ?_
  rw [Nat.zero_add]
