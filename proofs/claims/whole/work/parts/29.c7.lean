/-! ===== calls: days, feed ===== -/
def les (v : Int32) : Int32 := fSub v (v / 4)
def lesN : Nat → Int32 → Int32
  | 0, v => v
  | n + 1, v => lesN n (les v)
theorem les_r {a : Nat} (h : a ≤ 99999) : les (nI a) = nI (a - a / 4) := by
  show fSub (nI a) (nI a / 4) = _
  rw [show nI a / 4 = nI (a / 4) from pk_div (d := 4) (by omega) (by omega) (by omega), fs_nn (by omega)]
theorem r99 {v : Int32} (h : 0 ≤ v ∧ v ≤ 99999) : ∃ a, a ≤ 99999 ∧ v = nI a := by
  have e0 := (ile _ _).mp h.1
  have e1 := (ile _ _).mp h.2
  rw [show (0 : Int32).toInt = 0 by decide] at e0
  rw [show (99999 : Int32).toInt = 99999 by decide] at e1
  refine ⟨v.toInt.toNat, by omega, ?_⟩
  rw [ieq, nI_toInt (by omega)]
  omega
theorem r99' {a : Nat} (h : a ≤ 99999) : 0 ≤ nI a ∧ nI a ≤ 99999 := by
  rw [ile, ile, nI_toInt (by omega), show (0 : Int32).toInt = 0 by decide, show (99999 : Int32).toInt = 99999 by decide]
  omega
theorem lesN_r : ∀ n, ∀ v : Int32, (0 ≤ v ∧ v ≤ 99999) → 0 ≤ lesN n v ∧ lesN n v ≤ 99999 := by
  intro n
  induction n with
  | zero => intro v h; exact h
  | succ n ih =>
    intro v h
    obtain ⟨a, ha, rfl⟩ := r99 h
    refine ih _ ?_
    rw [les_r ha]
    exact r99' (by omega)
theorem pass_go (d : Nat) {nf : Nat} (hn : nf ≤ 8) : ∀ n i, i + n = nf → ∀ S : MS, S.1 1 0 = nI nf → ∃ T, mv (kX0_passDay (mFn d)) 2 [(0, .ref 1), (1, .int (nI i))] [] S = some (none, T) ∧ (∀ k, k ≠ 1 → k ≠ 5 → T.1 k = S.1 k) ∧ (∀ j, j ≠ 11 → T.1 1 j = S.1 1 j) ∧ T.1 1 11 = fAdd (S.1 1 11) 1 ∧ ∀ j, T.1 5 j = if i ≤ j ∧ j < nf then les (S.1 5 j) else S.1 5 j := by
  intro n
  induction n with
  | zero =>
    intro i hi S h0
    refine ⟨uI S 1 11 (fAdd (S.1 1 11) 1), ?_, fun k h1 _ => uI_oth h1, fun j hj => uI_ni _ hj, uI_eq _ _ _ _, fun j => ?_⟩
    · rw [lX0_passDay_2, h0, if_pos (nI_le (by omega) (by omega))]
    · rw [if_neg (by omega), uI_oth (by decide)]
  | succ n ih =>
    intro i hi S h0
    obtain ⟨T, g1, g2, g3, g4, g5⟩ := ih (i + 1) (by omega) (uI S 5 i (les (S.1 5 i))) h0
    refine ⟨T, ?_, fun k h1 h2 => ?_, fun j hj => ?_, ?_, fun j => ?_⟩
    · rw [lX0_passDay_2, h0, if_neg (nI_ge (by omega) (by omega)), if_in (by omega) (by omega), if_in (by omega) (by omega), if_neg (by decide), if_in (by omega) (by omega), cN (by omega), add1]
      exact g1
    · rw [g2 k h1 h2, uI_oth h2]
    · rw [g3 j hj, uI_oth (by decide)]
    · rw [g4, uI_oth (by decide)]
    · rw [g5 j]
      by_cases hj : j = i
      · subst hj
        rw [if_neg (by omega), if_pos ⟨Nat.le_refl _, by omega⟩, uI_eq]
      · rw [uI_ni _ hj]
        by_cases h2 : i + 1 ≤ j ∧ j < nf
        · rw [if_pos h2, if_pos ⟨by omega, h2.2⟩]
        · rw [if_neg h2, if_neg (by omega)]
theorem daysC (d : Nat) {nf x : Nat} (hn : nf ≤ 8) (hx : x ≤ 30) : ∀ n i, i + n = x → ∀ S : MS, S.1 1 0 = nI nf → ∃ T, mv (kX5_days (mFn (d + 1))) 40 [(0, .ref 0), (1, .int (nI x)), (2, .int (nI i))] [] S = some (some (.int (T.1 1 11)), T) ∧ (∀ k, k ≠ 1 → k ≠ 5 → T.1 k = S.1 k) ∧ (∀ j, j ≠ 11 → T.1 1 j = S.1 1 j) ∧ T.1 1 11 = fAdd (S.1 1 11) (nI n) ∧ ∀ j, T.1 5 j = if j < nf then lesN n (S.1 5 j) else S.1 5 j := by
  intro n
  induction n with
  | zero =>
    intro i hi S h0
    refine ⟨S, ?_, fun k _ _ => rfl, fun j _ => rfl, ?_, fun j => ?_⟩
    · rw [lX5_days_40, if_pos (nI_le (by omega) (by omega))]
    · show _ = S.1 1 11 + 0
      rw [Int32.add_zero]
    · by_cases h : j < nf
      · rw [if_pos h]; rfl
      · rw [if_neg h]
  | succ n ih =>
    intro i hi S h0
    obtain ⟨T, g1, g2, g3, g4, g5⟩ := pass_go d hn nf 0 (by omega) S h0
    obtain ⟨U, k1, k2, k3, k4, k5⟩ := ih (i + 1) (by omega) T (by rw [g3 0 (by decide)]; exact h0)
    refine ⟨U, ?_, fun k h1 h2 => ?_, fun j hj => ?_, ?_, fun j => ?_⟩
    · rw [lX5_days_40, if_neg (nI_ge (by omega) (by omega)), show mFn (d + 1) 5 [.ref 1] S = _ from (fX0_passDay d S).trans g1, bV_some, add1]
      exact k1
    · rw [k2 k h1 h2, g2 k h1 h2]
    · rw [k3 j hj, g3 j hj]
    · rw [k4, g4]
      show S.1 1 11 + 1 + nI n = S.1 1 11 + nI (n + 1)
      rw [Int32.add_assoc, show (1 : Int32) + nI n = nI (1 + n) from fa_nn 1 n, Nat.add_comm]
    · rw [k5 j, g5 j]
      by_cases h : j < nf
      · rw [if_pos h, if_pos ⟨Nat.zero_le _, h⟩, if_pos h]; rfl
      · rw [if_neg h, if_neg (fun z => h z.2), if_neg h]
theorem inM (d : Nat) {nf x y : Nat} (hn : nf ≤ 8) : ∀ n i, i + n = nf → ∀ S : MS, S.1 55 2 = nI nf → ∃ T, mv (kX6_days (mFn (d + 1))) 47 [(0, .ref 54), (1, .int (nI x)), (2, .int (nI y)), (3, .int (nI i))] [] S = mv (kX6_days (mFn (d + 1))) 40 [(0, .ref 54), (1, .int (nI x)), (2, .int (nI (y + 1)))] [] T ∧ (∀ k, k ≠ 55 → T.1 k = S.1 k) ∧ (∀ f, i ≤ f → f < nf → T.1 55 (10 + 4 * f) = les (S.1 55 (10 + 4 * f))) ∧ ∀ j, (∀ f, i ≤ f → f < nf → j ≠ 10 + 4 * f) → T.1 55 j = S.1 55 j := by
  intro n
  induction n with
  | zero =>
    intro i hi S h0
    refine ⟨S, ?_, fun k _ => rfl, fun f h1 h2 => by omega, fun j _ => rfl⟩
    rw [lX6_days_47, il2, cl2, h0, if_pos (nI_le (by omega) (by omega)), add1]
  | succ n ih =>
    intro i hi S h0
    obtain ⟨T, g1, g2, g3, g4⟩ := ih (i + 1) (by omega) (uI S 55 (10 + 4 * i) (les (S.1 55 (10 + 4 * i)))) (by rw [uI_ni _ (by omega)]; exact h0)
    refine ⟨T, ?_, fun k h1 => ?_, fun f h1 h2 => ?_, fun j hj => ?_⟩
    · rw [lX6_days_47, il2, cl2, h0, if_neg (nI_ge (by omega) (by omega)), ri, fa_3, if_in (by omega) (by omega), pM_of3 _ (by omega), bI_some, if_neg (by decide), if_in (by omega) (by omega), cN (by omega), add1, show 7 + 4 * i + 3 = 10 + 4 * i by omega]
      exact g1
    · rw [g2 k h1, uI_oth h1]
    · by_cases hf : f = i
      · subst hf
        rw [g4 _ (fun f' h3 h4 => by omega), uI_eq]
      · rw [g3 f (by omega) h2, uI_ni _ (by omega)]
    · rw [g4 j (fun f h1 h2 => hj f (by omega) h2), uI_ni _ (hj i (Nat.le_refl _) (by omega))]
theorem daysM (d : Nat) {nf x : Nat} (hn : nf ≤ 8) (hx : x ≤ 30) : ∀ n i, i + n = x → ∀ S : MS, S.1 55 2 = nI nf → ∃ T, mv (kX6_days (mFn (d + 1))) 40 [(0, .ref 54), (1, .int (nI x)), (2, .int (nI i))] [] S = some (some (.int (T.1 55 0)), T) ∧ (∀ k, k ≠ 55 → T.1 k = S.1 k) ∧ (∀ f, f < nf → T.1 55 (10 + 4 * f) = lesN n (S.1 55 (10 + 4 * f))) ∧ (∀ j, j ≠ 0 → (∀ f, f < nf → j ≠ 10 + 4 * f) → T.1 55 j = S.1 55 j) ∧ T.1 55 0 = fAdd (S.1 55 0) (nI x) := by
  intro n
  induction n with
  | zero =>
    intro i hi S h0
    refine ⟨uI S 55 0 (fAdd (S.1 55 0) (nI x)), ?_, fun k h1 => uI_oth h1, fun f hf => uI_ni _ (by omega), fun j hj _ => uI_ni _ hj, uI_eq _ _ _ _⟩
    rw [lX6_days_40, if_pos (nI_le (by omega) (by omega)), il0, il0, il0, cl0]
  | succ n ih =>
    intro i hi S h0
    obtain ⟨T, g1, g2, g3, g4⟩ := inM d (x := x) (y := i) hn nf 0 (by omega) S h0
    obtain ⟨U, k1, k2, k3, k4, k5⟩ := ih (i + 1) (by omega) T (by rw [g4 2 (fun f _ _ => by omega)]; exact h0)
    refine ⟨U, ?_, fun k h1 => ?_, fun f hf => ?_, fun j hj hj2 => ?_, ?_⟩
    · rw [lX6_days_40, if_neg (nI_ge (by omega) (by omega))]
      exact g1.trans k1
    · rw [k2 k h1, g2 k h1]
    · rw [k3 f hf, g3 f (Nat.zero_le _) hf]; rfl
    · rw [k4 j hj hj2, g4 j (fun f _ h => hj2 f h)]
    · rw [k5, g4 0 (fun f _ _ => by omega)]
theorem r9999 {v : Int32} (h : 0 ≤ v ∧ v ≤ 9999) : ∃ a, a ≤ 9999 ∧ v = nI a := by
  have e0 := (ile _ _).mp h.1
  have e1 := (ile _ _).mp h.2
  rw [show (0 : Int32).toInt = 0 by decide] at e0
  rw [show (9999 : Int32).toInt = 9999 by decide] at e1
  refine ⟨v.toInt.toNat, by omega, ?_⟩
  rw [ieq, nI_toInt (by omega)]
  omega
theorem rlo {v a : Int32} {n : Nat} (ha : a.toInt = n) (hn : n < 1000) (h0 : ¬ v < 1) (h1 : v ≤ a) : ∃ j, 1 ≤ j ∧ j ≤ n ∧ v = nI j := by
  have e0 := (ile _ _).mp (Int32.not_lt.mp h0)
  have e1 := (ile _ _).mp h1
  rw [show (1 : Int32).toInt = 1 by decide] at e0
  rw [ha] at e1
  refine ⟨v.toInt.toNat, by omega, by omega, ?_⟩
  rw [ieq, nI_toInt (by omega)]
  omega
theorem ok_days (d : Nat) (v : Int32) : Ok2 (d + 4) 52 140 [.ref 0, .int v] [.ref 54, .int v] := by
  intro S hR
  obtain ⟨⟨nf, np, nt, nw, o, hs, hf, hp, ht, hx⟩, hI, hE, hSh, hV⟩ := id hR
  obtain ⟨b1, b2, b3, b4, b5, c0, w2, c5, w3, c14, w5, c17, w6, c9, c10, c11, c12, r4, r0⟩ := id hs
  by_cases h1 : v < 1
  · refine ⟨-1000000001, uI S 53 1 (S.1 53 1 + 1), EE 1 S, ?_, ?_, Rel_EE hR⟩
    · rw [fX5_days, if_pos h1, pC_err1, bI_some]
    · rw [fX6_days, pM_in, bI_some, if_b2, if_neg (fun z => absurd z.1 (Int32.not_le.mpr h1)), pM_err1, bI_some]
      rfl
  · by_cases h2 : v ≤ 30
    · obtain ⟨x, hx1, hx2, rfl⟩ := rlo (n := 30) (by decide) (by decide) h1 h2
      by_cases h3 : fAdd (S.1 1 11) (nI x) ≤ 9999
      · obtain ⟨t, ht1, et⟩ := r9999 r0
        obtain ⟨T, g1, g2, g3, g4, g5⟩ := daysC (d + 2) b1 hx2 x 0 (by omega) S c0
        obtain ⟨U, k1, k2, k3, k4, k5⟩ := daysM (d + 2) b1 hx2 x 0 (by omega) T (by rw [g2 55 (by decide) (by decide)]; exact w2)
        have e55 : ∀ j, T.1 55 j = S.1 55 j := fun j => by rw [g2 55 (by decide) (by decide)]
        have uk : ∀ k, k ≠ 55 → k ≠ 1 → k ≠ 5 → U.1 k = S.1 k := fun k h1 h2 h3 => by rw [k2 k h1, g2 k h2 h3]
        have u55 : ∀ j, j ≠ 0 → (∀ f, f < nf → j ≠ 10 + 4 * f) → U.1 55 j = S.1 55 j := fun j h1 h2 => by rw [k4 j h1 h2, e55]
        have u1 : ∀ j, j ≠ 11 → U.1 1 j = S.1 1 j := fun j h1 => by rw [k2 1 (by decide), g3 j h1]
        refine ⟨T.1 1 11, T, U, ?_, ?_, Rel_city (nf := nf) (np := np) (nt := nt) (nw := nw) (o := o) hR ⟨?_, fun f hf8 => ?_, ?_, ?_, ?_⟩ (fun k h1 h2 => uk k (by omega) (by omega) (by omega))⟩
        · rw [fX5_days, if_neg h1, if_pos h2, if_pos h3]
          exact g1
        · rw [fX6_days, pM_in, bI_some, if_b2, if_pos ⟨Int32.not_lt.mp h1, h2⟩, il0, cl0, e55, ← c11, if_pos h3]
          rw [show T.1 1 11 = U.1 55 0 by rw [g4, k5, e55, c11]]
          exact k1
        · unfold RCs
          rw [u1 0 (by decide), u1 5 (by decide), u1 14 (by decide), u1 17 (by decide), u1 9 (by decide), u1 10 (by decide), u1 12 (by decide), u55 2 (by decide) (fun f _ => by omega), u55 3 (by decide) (fun f _ => by omega), u55 5 (by decide) (fun f _ => by omega), u55 6 (by decide) (fun f _ => by omega), u55 4 (by decide) (fun f _ => by omega), u55 1 (by decide) (fun f _ => by omega), k5, e55, k2 1 (by decide), g4]
          rw [c11] at h3
          exact ⟨b1, b2, b3, b4, b5, c0, w2, c5, w3, c14, w5, c17, w6, c9, c10, by rw [c11], c12, r4, by rw [et, fa_nn, ile, nI_toInt (by omega)]; rw [show (0 : Int32).toInt = 0 by decide]; omega, h3⟩
        · obtain ⟨q1, q2, q3, q4, q5, q6, q7, q8⟩ := hf f hf8
          rw [uk (1 + 1) (by omega) (by omega) (by omega), uk (1 + 2) (by omega) (by omega) (by omega), uk (1 + 3) (by omega) (by omega) (by omega), k2 (1 + 4) (by omega), g5, u55 (7 + 4 * f) (by omega) (fun g _ => by omega), u55 (8 + 4 * f) (by omega) (fun g _ => by omega), u55 (9 + 4 * f) (by omega) (fun g _ => by omega)]
          by_cases hlt : f < nf
          · rw [if_pos hlt, k3 f hlt, e55, show S.1 5 f = S.1 55 (10 + 4 * f) from q4]
            exact ⟨q1, q2, q3, rfl, q5, q6, q7, lesN_r x _ q8⟩
          · rw [if_neg hlt, u55 (10 + 4 * f) (by omega) (fun g _ => by omega)]
            exact ⟨q1, q2, q3, q4, q5, q6, q7, q8⟩
        · exact RCp_c b1 (fun k h1 h2 => uk k (by omega) (by omega) (by omega)) (fun i h1 h2 => u55 i (by omega) (fun f _ => by omega)) (fun f h1 => u55 _ (by omega) (fun g _ => by omega)) hp
        · exact RCt_c (uk _ (by omega) (by omega) (by omega)) (uk _ (by omega) (by omega) (by omega)) (fun i h1 h2 => u55 i (by omega) (fun f _ => by omega)) ht
        · exact RCx_c (fun k h1 h2 h3 => uk k (by omega) (by omega) (by omega)) (fun i h1 => u55 i (by omega) (fun f _ => by omega)) hx
      · refine ⟨-1000000003, uI S 53 3 (S.1 53 3 + 1), EE 3 S, ?_, ?_, Rel_EE hR⟩
        · rw [fX5_days, if_neg h1, if_pos h2, if_neg h3, pC_err3, bI_some]
        · rw [fX6_days, pM_in, bI_some, if_b2, if_pos ⟨Int32.not_lt.mp h1, h2⟩, il0, cl0, uI_oth (by decide), ← c11, if_neg h3, pM_err3, bI_some]
          rfl
    · refine ⟨-1000000001, uI S 53 1 (S.1 53 1 + 1), EE 1 S, ?_, ?_, Rel_EE hR⟩
      · rw [fX5_days, if_neg h1, if_neg h2, pC_err1, bI_some]
      · rw [fX6_days, pM_in, bI_some, if_b2, if_neg (fun z => h2 z.2), pM_err1, bI_some]
        rfl
/-- a byte of a long, taken in two ways -/
theorem byt_u (x : Int64) {k i : Nat} (hk : k ≤ 7) (hi : i < 8) : (lUshr x (nI (8 * k))).toBitVec.getLsbD i = x.toBitVec.getLsbD (8 * k + i) := by
  have hk8 : k = 0 ∨ k = 1 ∨ k = 2 ∨ k = 3 ∨ k = 4 ∨ k = 5 ∨ k = 6 ∨ k = 7 := by omega
  have L : (lUshr x (nI (8 * k))).toBitVec = x.toBitVec >>> (8 * k) := by
    rcases hk8 with rfl | rfl | rfl | rfl | rfl | rfl | rfl | rfl <;> rfl
  rw [L, BitVec.getLsbD_ushiftRight]
theorem byt_s (x : Int64) {k i : Nat} (hk : k ≤ 7) (hi : i < 8) : (lShr x (nI (8 * k))).toBitVec.getLsbD i = x.toBitVec.getLsbD (8 * k + i) := by
  have hk8 : k = 0 ∨ k = 1 ∨ k = 2 ∨ k = 3 ∨ k = 4 ∨ k = 5 ∨ k = 6 ∨ k = 7 := by omega
  have L : (lShr x (nI (8 * k))).toBitVec = x.toBitVec.sshiftRight (8 * k) := by
    rcases hk8 with rfl | rfl | rfl | rfl | rfl | rfl | rfl | rfl <;> rfl
  rw [L, BitVec.getLsbD_sshiftRight]
  simp [show i < 64 by omega, show 8 * k + i < 64 by omega]
theorem b255_32 : ∀ i, i < 32 → (255#32).getLsbD i = decide (i < 8) := by decide
theorem b255_64 : ∀ i, i < 32 → (255#64).getLsbD i = decide (i < 8) := by decide
theorem byt (x : Int64) {k : Nat} (hk : k ≤ 7) : fAnd ((lUshr x (fMul 8 (nI k))).toInt32) 255 = (lAnd (lShr x (fMul 8 (nI k))) 255).toInt32 ∧ ∃ c, c ≤ 255 ∧ fAnd ((lUshr x (fMul 8 (nI k))).toInt32) 255 = nI c := by
  rw [show fMul 8 (nI k) = nI (8 * k) from fm_nn 8 k]
  refine ⟨?_, (fAnd ((lUshr x (nI (8 * k))).toInt32) 255).toBitVec.toNat, ?_, ?_⟩
  · apply Int32.toBitVec_inj.mp
    apply BitVec.eq_of_getLsbD_eq
    intro i hi
    show (((lUshr x (nI (8 * k))).toBitVec.signExtend 32) &&& 255#32).getLsbD i = (((lShr x (nI (8 * k))).toBitVec &&& 255#64).signExtend 32).getLsbD i
    rw [BitVec.getLsbD_and, BitVec.getLsbD_signExtend, BitVec.getLsbD_signExtend, if_pos (by omega), if_pos (by omega), BitVec.getLsbD_and, b255_32 i hi, b255_64 i hi]
    by_cases h8 : i < 8
    · rw [byt_u x hk h8, byt_s x hk h8]
      simp [hi]
    · simp [h8]
  · show ((lUshr x (nI (8 * k))).toInt32.toBitVec &&& 255#32).toNat ≤ 255
    rw [BitVec.toNat_and]
    exact Nat.and_le_right
  · apply Int32.toBitVec_inj.mp
    apply BitVec.eq_of_toNat_eq
    show _ = (BitVec.ofNat 32 _).toNat
    rw [BitVec.toNat_ofNat, Nat.mod_eq_of_lt (BitVec.isLt _)]
theorem feedC (d : Nat) {nt c : Nat} (x : Int64) (hn : nt + c ≤ 60) (hc : c ≤ 8) : ∀ n i, i + n = c → ∀ S : MS, S.1 1 14 = nI nt → ∃ T, mv (kX5_feed (mFn d)) 40 [(0, .ref 0), (1, .long x), (3, .int (nI c)), (4, .int (nI i))] [] S = some (some (.int (nI (nt + c))), T) ∧ (∀ k, k ≠ 1 → k ≠ 9 → T.1 k = S.1 k) ∧ (∀ j, j ≠ 14 → T.1 1 j = S.1 1 j) ∧ T.1 1 14 = nI (nt + c) ∧ ∀ j, T.1 9 j = if nt + i ≤ j ∧ j < nt + c then fAnd ((lUshr x (fMul 8 (nI (j - nt)))).toInt32) 255 else S.1 9 j := by
  intro n
  induction n with
  | zero =>
    intro i hi S h0
    refine ⟨uI S 1 14 (nI (nt + c)), ?_, fun k h1 _ => uI_oth h1, fun j hj => uI_ni _ hj, uI_eq _ _ _ _, fun j => ?_⟩
    · rw [lX5_feed_40, h0, if_pos (nI_le (by omega) (by omega)), fa_nn]
    · rw [if_neg (by omega), uI_oth (by decide)]
  | succ n ih =>
    intro i hi S h0
    obtain ⟨T, g1, g2, g3, g4, g5⟩ := ih (i + 1) (by omega) (uI S 9 (nt + i) (fAnd ((lUshr x (fMul 8 (nI i))).toInt32) 255)) h0
    refine ⟨T, ?_, fun k h1 h2 => ?_, fun j hj => ?_, g4, fun j => ?_⟩
    · rw [lX5_feed_40, h0, if_neg (nI_ge (by omega) (by omega)), fa_nn, if_in (by omega) (by omega), cN (by omega), add1]
      exact g1
    · rw [g2 k h1 h2, uI_oth h2]
    · rw [g3 j hj, uI_oth (by decide)]
    · rw [g5 j]
      by_cases hj : j = nt + i
      · subst hj
        rw [if_neg (by omega), if_pos ⟨Nat.le_refl _, by omega⟩, uI_eq, Nat.add_sub_cancel_left]
      · rw [uI_ni _ hj]
        by_cases h2 : nt + (i + 1) ≤ j ∧ j < nt + c
        · rw [if_pos h2, if_pos ⟨by omega, h2.2⟩]
        · rw [if_neg h2, if_neg (by omega)]
theorem feedM (d : Nat) {nt c : Nat} (x : Int64) (hn : nt + c ≤ 60) (hc : c ≤ 8) : ∀ n i, i + n = c → ∀ S : MS, S.1 55 5 = nI (nt + i) → ∃ T, mv (kX6_feed (mFn d)) 40 [(0, .ref 54), (1, .long x), (3, .int (nI c)), (4, .int (nI i))] [] S = some (some (.int (nI (nt + c))), T) ∧ (∀ k, k ≠ 55 → T.1 k = S.1 k) ∧ (∀ j, j ≠ 5 → T.1 55 j = if 75 + nt + i ≤ j ∧ j < 75 + nt + c then (lAnd (lShr x (fMul 8 (nI (j - (75 + nt))))) 255).toInt32 else S.1 55 j) ∧ T.1 55 5 = nI (nt + c) := by
  intro n
  induction n with
  | zero =>
    intro i hi S h0
    have e : i = c := by omega
    subst e
    refine ⟨S, ?_, fun k _ => rfl, fun j hj => ?_, h0⟩
    · rw [lX6_feed_40, if_pos (Int32.le_refl _), il5, cl5, h0]
    · rw [if_neg (by omega)]
  | succ n ih =>
    intro i hi S h0
    obtain ⟨T, g1, g2, g3, g4⟩ := ih (i + 1) (by omega) (uI (uI S 55 (75 + nt + i) ((lAnd (lShr x (fMul 8 (nI i))) 255).toInt32)) 55 5 (nI (nt + i + 1))) (uI_eq _ _ _ _)
    refine ⟨T, ?_, fun k h1 => ?_, fun j hj => ?_, g4⟩
    · rw [lX6_feed_40, if_neg (nI_ge (by omega) (by omega)), il5, il5, il5, cl5, h0, show fAdd 75 (nI (nt + i)) = nI (75 + nt + i) from (fa_nn 75 (nt + i)).trans (by rw [Nat.add_assoc]), if_in (by omega) (by omega), cN (by omega), add1, uI_ni _ (show (5 : Nat) ≠ 75 + nt + i by omega), h0, fa_1]
      exact g1
    · rw [g2 k h1, uI_oth h1, uI_oth h1]
    · rw [g3 j hj]
      by_cases hj2 : j = 75 + nt + i
      · subst hj2
        rw [if_neg (by omega), if_pos ⟨Nat.le_refl _, by omega⟩, uI_ni _ hj, uI_eq, Nat.add_sub_cancel_left]
      · rw [uI_ni _ hj, uI_ni _ hj2]
        by_cases h2 : 75 + nt + (i + 1) ≤ j ∧ j < 75 + nt + c
        · rw [if_pos h2, if_pos ⟨by omega, h2.2⟩]
        · rw [if_neg h2, if_neg (by omega)]
theorem ok_feed (d : Nat) (x : Int64) (v : Int32) : Ok2 (d + 4) 45 112 [.ref 0, .long x, .int v] [.ref 54, .long x, .int v] := by
  intro S hR
  obtain ⟨⟨nf, np, nt, nw, o, hs, hf, hp, ht, hx⟩, hI, hE, hSh, hV⟩ := id hR
  obtain ⟨b1, b2, b3, b4, b5, c0, w2, c5, w3, c14, w5, c17, w6, c9, c10, c11, c12, r4, r0⟩ := id hs
  have e5 : ∀ k, (uI S 53 k (S.1 53 k + 1)).1 55 5 = nI nt := fun k => w5
  by_cases h1 : v < 1
  · refine ⟨-1000000001, uI S 53 1 (S.1 53 1 + 1), EE 1 S, ?_, ?_, Rel_EE hR⟩
    · rw [fX5_feed, if_pos h1, pC_err1, bI_some]
    · rw [fX6_feed, pM_in, bI_some, if_b2, if_neg (fun z => absurd z.1 (Int32.not_le.mpr h1)), pM_err1, bI_some]
      rfl
  · by_cases h2 : v ≤ 8
    · obtain ⟨c, hx1, hx2, rfl⟩ := rlo (n := 8) (by decide) (by decide) h1 h2
      by_cases h3 : nt + c ≤ 60
      · obtain ⟨T, g1, g2, g3, g4, g5⟩ := feedC (d + 3) x h3 hx2 c 0 (by omega) S c14
        obtain ⟨U, k1, k2, k3, k4⟩ := feedM (d + 3) x h3 hx2 c 0 (by omega) T (by rw [g2 55 (by decide) (by decide)]; exact w5)
        have e55 : ∀ j, T.1 55 j = S.1 55 j := fun j => by rw [g2 55 (by decide) (by decide)]
        have uk : ∀ k, k ≠ 55 → k ≠ 1 → k ≠ 9 → U.1 k = S.1 k := fun k h1 h2 h3 => by rw [k2 k h1, g2 k h2 h3]
        have u55 : ∀ j, j ≠ 5 → (j < 75 ∨ 135 ≤ j) → U.1 55 j = S.1 55 j := fun j h1 h2 => by rw [k3 j h1, if_neg (by omega), e55]
        have u1 : ∀ j, j ≠ 14 → U.1 1 j = S.1 1 j := fun j h1 => by rw [k2 1 (by decide), g3 j h1]
        refine ⟨nI (nt + c), T, U, ?_, ?_, Rel_city (nf := nf) (np := np) (nt := nt + c) (nw := nw) (o := o) hR ⟨?_, ?_, ?_, ⟨fun i hi => ?_, fun i hi => ?_⟩, ?_⟩ (fun k h1 h2 => uk k (by omega) (by omega) (by omega))⟩
        · rw [fX5_feed, if_neg h1, if_pos h2, c14, fa_nn, if_pos (show nI (nt + c) ≤ 60 from nI_le (a := nt + c) (b := 60) h3 (by decide))]
          exact g1
        · rw [fX6_feed, pM_in, bI_some, if_b2, if_pos ⟨Int32.not_lt.mp h1, h2⟩, il5, cl5, e55, w5, fa_nn, if_pos (show nI (nt + c) ≤ 60 from nI_le (a := nt + c) (b := 60) h3 (by decide))]
          exact k1
        · unfold RCs
          rw [u1 0 (by decide), u1 5 (by decide), u1 11 (by decide), u1 17 (by decide), u1 9 (by decide), u1 10 (by decide), u1 12 (by decide), u55 2 (by decide) (by omega), u55 3 (by decide) (by omega), u55 0 (by decide) (by omega), u55 6 (by decide) (by omega), u55 4 (by decide) (by omega), u55 1 (by decide) (by omega), k4, k2 1 (by decide), g4]
          exact ⟨b1, b2, h3, b4, b5, c0, w2, c5, w3, rfl, rfl, c17, w6, c9, c10, c11, c12, r4, r0⟩
        · exact RCf_c (fun k h1 h2 => uk k (by omega) (by omega) (by omega)) (fun i h1 h2 => u55 i (by omega) (by omega)) hf
        · exact RCp_c b1 (fun k h1 h2 => uk k (by omega) (by omega) (by omega)) (fun i h1 h2 => u55 i (by omega) (by omega)) (fun f h1 => u55 _ (by omega) (by omega)) hp
        · rw [k3 (75 + i) (by omega), k2 (1 + 8) (by decide), g5 i, e55]
          by_cases hh : nt ≤ i ∧ i < nt + c
          · obtain ⟨B1, B2, B3, B4⟩ := byt x (k := i - nt) (by omega)
            rw [if_pos (by omega), if_pos (by omega), show 75 + i - (75 + nt) = i - nt by omega, ← B1, B4]
            refine ⟨rfl, ?_⟩
            rw [ile, ile, nI_toInt (by omega), show (0 : Int32).toInt = 0 by decide, show (255 : Int32).toInt = 255 by decide]
            omega
          · rw [if_neg (by omega), if_neg (by omega)]
            exact ht.1 i hi
        · rw [uk (1 + 9) (by decide) (by decide) (by decide), u55 (135 + i) (by omega) (by omega)]
          exact ht.2 i hi
        · exact RCx_c (fun k h1 h2 h3 => uk k (by omega) (by omega) (by omega)) (fun i h1 => u55 i (by omega) (by omega)) hx
      · refine ⟨-1000000004, uI S 53 4 (S.1 53 4 + 1), EE 4 S, ?_, ?_, Rel_EE hR⟩
        · rw [fX5_feed, if_neg h1, if_pos h2, c14, fa_nn, if_neg (show ¬ nI (nt + c) ≤ 60 from nI_ge (a := 60) (b := nt + c) (by omega) (by omega)), pC_err4, bI_some]
        · rw [fX6_feed, pM_in, bI_some, if_b2, if_pos ⟨Int32.not_lt.mp h1, h2⟩, il5, cl5, e5 4, fa_nn, if_neg (show ¬ nI (nt + c) ≤ 60 from nI_ge (a := 60) (b := nt + c) (by omega) (by omega)), pM_err4, bI_some]
          rfl
    · refine ⟨-1000000001, uI S 53 1 (S.1 53 1 + 1), EE 1 S, ?_, ?_, Rel_EE hR⟩
      · rw [fX5_feed, if_neg h1, if_neg h2, pC_err1, bI_some]
      · rw [fX6_feed, pM_in, bI_some, if_b2, if_neg (fun z => h2 z.2), pM_err1, bI_some]
        rfl
