/-! ===== calls: turn, count, check ===== -/
theorem turn_rel {S T : MS} {nf np nt nw o o' p a : Nat} (hR : Rel S) (hC : RC S.1 1 55 nf np nt nw o) (hp1 : p < np) (hT : ∀ k, k ≠ 1 → T.1 k = S.1 k) (hT1 : ∀ j, j ≠ 9 → T.1 1 j = S.1 1 j) (h9 : T.1 1 9 = nI o') (ho : o' < 2 ^ np) (hq : ∀ q, q < np → q ≠ p → o'.testBit q = o.testBit q) (ha : nI a = nI (if o'.testBit p then 1 else 0)) : Rel (uI T 55 (42 + 4 * p) (nI a)) := by
  obtain ⟨hs, hf, hp, ht, hx⟩ := hC
  obtain ⟨b1, b2, b3, b4, b5, c0, w2, c5, w3, c14, w5, c17, w6, c9, c10, c11, c12, r4, r0⟩ := id hs
  have e55 : ∀ i, i ≠ 42 + 4 * p → (uI T 55 (42 + 4 * p) (nI a)).1 55 i = S.1 55 i := fun i hi => by rw [uI_ni _ hi, hT 55 (by decide)]
  have eo : ∀ k, k ≠ 1 → k ≠ 55 → (uI T 55 (42 + 4 * p) (nI a)).1 k = S.1 k := fun k h1 h2 => by rw [uI_oth h2, hT k h1]
  have e1 : ∀ j, j ≠ 9 → (uI T 55 (42 + 4 * p) (nI a)).1 1 j = S.1 1 j := fun j hj => by rw [uI_oth (by omega), hT1 j hj]
  refine Rel_city (nf := nf) (np := np) (nt := nt) (nw := nw) (o := o') hR ⟨?_, RCf_c (fun k h1 h2 => eo k (by omega) (by omega)) (fun i h1 h2 => e55 i (by omega)) hf, ?_, RCt_c (eo _ (by omega) (by omega)) (eo _ (by omega) (by omega)) (fun i h1 h2 => e55 i (by omega)) ht, RCx_c (fun k h1 h2 h3 => eo k (by omega) (by omega)) (fun i h1 => e55 i (by omega)) hx⟩ (fun k h1 h2 => eo k (by omega) h2)
  · unfold RCs
    rw [e1 0 (by omega), e1 5 (by omega), e1 14 (by omega), e1 17 (by omega), e1 10 (by omega), e1 11 (by omega), e1 12 (by omega), e55 2 (by omega), e55 3 (by omega), e55 5 (by omega), e55 6 (by omega), e55 4 (by omega), e55 0 (by omega), e55 1 (by omega)]
    exact ⟨b1, b2, b3, b4, ho, c0, w2, c5, w3, c14, w5, c17, w6, by rw [uI_oth (by omega)]; exact h9, c10, c11, c12, r4, r0⟩
  · intro q hq9
    have eq := hp q hq9
    rw [eo (1 + 5) (by omega) (by omega), eo (1 + 6) (by omega) (by omega), eo (1 + 7) (by omega) (by omega), e55 (39 + 4 * q) (by omega), e55 (40 + 4 * q) (by omega), e55 (41 + 4 * q) (by omega)]
    refine ⟨eq.1, eq.2.1, eq.2.2.1, fun hlt => ?_⟩
    obtain ⟨fr, to, r1, r2, r3, r4', r5, r6, r7⟩ := eq.2.2.2 hlt
    refine ⟨fr, to, r1, r2, r3, r4', r5, ?_, ?_⟩
    · rw [e55 _ (by omega), e55 _ (by omega)]; exact r6
    · by_cases hqp : q = p
      · subst hqp
        rw [uI_eq]
        exact ha
      · rw [e55 _ (by omega), hq q hlt hqp]
        exact r7
theorem ok_turn (d : Nat) (x v : Int32) : Ok2 (d + 4) 43 110 [.ref 0, .int x, .int v] [.ref 54, .int x, .int v] := by
  intro S hR
  obtain ⟨⟨nf, np, nt, nw, o, hs, hf, hp, ht, hx⟩, hI, hE, hSh, hV⟩ := id hR
  obtain ⟨b1, b2, b3, b4, b5, c0, w2, c5, w3, c14, w5, c17, w6, c9, c10, c11, c12, r4, r0⟩ := id hs
  have e1 : ∀ k, (uI S 53 k (S.1 53 k + 1)).1 55 3 = nI np := fun k => w3
  have o9 := pw_le b2
  by_cases h : 0 ≤ x ∧ x < nI np
  · obtain ⟨p, hp1, rfl⟩ := i_rng (by omega) h.1 h.2
    have ep := hp p (by omega)
    obtain ⟨fr, to, r1, r2, r3, r4', r5, r6, r7⟩ := ep.2.2.2 hp1
    by_cases hv : 0 ≤ v ∧ v ≤ 1
    · obtain ⟨a, ha, rfl⟩ := rlit 1 (n := 1) (by decide) (by decide) hv.1 hv.2
      have bit := bit_r (o := o) (p := p) (by omega) (by omega)
      have ml : ∀ T : MS, T.1 55 = S.1 55 → mFn (d + 4) 110 [.ref 54, .int (nI p), .int (nI a)] T = some (some (.int (nI (if o.testBit p then 1 else 0))), uI T 55 (42 + 4 * p) (nI a)) := by
        intro T hT
        rw [fX6_turn, pM_isP _ _ (show T.1 55 3 = nI np by rw [hT]; exact w3) (by omega), bI_some, if_b2, if_pos h, pM_in, bI_some, if_b2, if_pos hv, rp, fa_3, pM_bec _ (by omega), bI_some, show 39 + 4 * p + 3 = 42 + 4 * p by omega, hT, r7]
      by_cases hab : nI a = nI (if o.testBit p then 1 else 0)
      · refine ⟨_, S, _, ?_, ml S rfl, turn_rel hR ⟨hs, hf, hp, ht, hx⟩ hp1 (fun _ _ => rfl) (fun _ _ => rfl) c9 b5 (fun _ _ _ => rfl) hab⟩
        rw [fX5_turn, pC_isP _ _ c5, bI_some, if_b2, if_pos h, pC_isBit, bI_some, if_b2, if_pos hv, c9, bit, if_pos hab]
      · refine ⟨_, uI S 1 9 (nI (o ^^^ 2 ^ p)), _, ?_, ml _ (by rw [uI_oth (by omega)]), turn_rel (o' := o ^^^ 2 ^ p) hR ⟨hs, hf, hp, ht, hx⟩ hp1 (fun k hk => uI_oth hk) (fun j hj => uI_ni _ hj) (uI_eq _ _ _ _) (Nat.xor_lt_two_pow b5 (Nat.pow_lt_pow_right (by decide) hp1)) (fun q _ hq => ?_) ?_⟩
        · rw [fX5_turn, pC_isP _ _ c5, bI_some, if_b2, if_pos h, pC_isBit, bI_some, if_b2, if_pos hv, c9, bit, if_neg hab, sh_l (by omega), show fXor (nI o) (nI (2 ^ p)) = nI (o ^^^ 2 ^ p) from nx_xor _ _]
        · rw [Nat.testBit_xor, Nat.testBit_two_pow, decide_eq_false (fun z => hq z.symm), Bool.xor_false]
        · rw [Nat.testBit_xor, Nat.testBit_two_pow, decide_eq_true rfl, Bool.xor_true]
          have ha2 : a = 0 ∨ a = 1 := by omega
          cases hb : o.testBit p with
          | true =>
            rw [hb] at hab
            rcases ha2 with rfl | rfl
            · rfl
            · exact absurd rfl hab
          | false =>
            rw [hb] at hab
            rcases ha2 with rfl | rfl
            · exact absurd rfl hab
            · rfl
    · refine ⟨-1000000001, uI S 53 1 (S.1 53 1 + 1), EE 1 S, ?_, ?_, Rel_EE hR⟩
      · rw [fX5_turn, pC_isP _ _ c5, bI_some, if_b2, if_pos h, pC_isBit, bI_some, if_b2, if_neg hv, pC_err1, bI_some]
      · rw [fX6_turn, pM_isP _ _ (e1 1) (by omega), bI_some, if_b2, if_pos h, pM_in, bI_some, if_b2, if_neg hv, pM_err1, bI_some]
        rfl
  · refine ⟨-1000000001, uI S 53 1 (S.1 53 1 + 1), EE 1 S, ?_, ?_, Rel_EE hR⟩
    · rw [fX5_turn, pC_isP _ _ c5, bI_some, if_b2, if_neg h, pC_err1, bI_some]
    · rw [fX6_turn, pM_isP _ _ (e1 1) (by omega), bI_some, if_b2, if_neg h, pM_err1, bI_some]
      rfl
/-- the low bits of a number, one by one -/
theorem low_or (o p : Nat) : (o % 2 ^ p) ||| ((if o.testBit p then 1 else 0) * 2 ^ p) = o % 2 ^ (p + 1) := by
  apply Nat.eq_of_testBit_eq
  intro i
  rw [Nat.testBit_or, Nat.testBit_mod_two_pow, Nat.testBit_mod_two_pow]
  have e : ((if o.testBit p then 1 else 0) * 2 ^ p).testBit i = (decide (p = i) && o.testBit p) := by
    cases hb : o.testBit p with
    | true => simp [Nat.testBit_two_pow]
    | false => simp
  rw [e]
  by_cases h1 : i < p
  · simp [h1, show i < p + 1 by omega, show p ≠ i by omega]
  · by_cases h2 : p = i
    · subst h2
      simp
    · simp [h1, h2, show ¬ i < p + 1 by omega]
theorem opened_go (d : Nat) {S : MS} {np o : Nat} (b2 : np ≤ 9) (w3 : S.1 55 3 = nI np) (hb : ∀ p, p < np → S.1 55 (42 + 4 * p) = nI (if o.testBit p then 1 else 0)) (ho : o < 2 ^ np) : ∀ n p, p + n = np → mv (kX6_opened (mFn (d + 1))) 4 [(0, .ref 54), (1, .int (nI (o % 2 ^ p))), (2, .int (nI p))] [] S = some (some (.int (nI o)), S) := by
  intro n
  induction n with
  | zero =>
    intro p hp
    have e : p = np := by omega
    subst e
    rw [lX6_opened_4, il3, cl3, w3, if_pos (Int32.le_refl _), Nat.mod_eq_of_lt ho]
  | succ n ih =>
    intro p hp
    rw [lX6_opened_4, il3, cl3, w3, if_neg (nI_ge (by omega) (by omega)), pM_ab3 _ (by omega), bI_some, hb p (by omega), sh_ln (by split <;> omega) (by omega), show fOr (nI (o % 2 ^ p)) (nI ((if o.testBit p then 1 else 0) * 2 ^ p)) = nI (o % 2 ^ p ||| (if o.testBit p then 1 else 0) * 2 ^ p) from fa_or _ _, low_or, add1]
    exact ih (p + 1) (by omega)
theorem pM_opened (d : Nat) {S : MS} {np o : Nat} (b2 : np ≤ 9) (w3 : S.1 55 3 = nI np) (hb : ∀ p, p < np → S.1 55 (42 + 4 * p) = nI (if o.testBit p then 1 else 0)) (ho : o < 2 ^ np) : mFn (d + 2) 131 [.ref 54] S = some (some (.int (nI o)), S) := by
  have h := opened_go d b2 w3 hb ho np 0 (by omega)
  rw [Nat.pow_zero, Nat.mod_one] at h
  rw [fX6_opened]
  exact h
theorem RCp_bits {σ : Nat → Nat → Int32} {b w nf np o : Nat} (b2 : np ≤ 9) (hp : RCp σ b w nf np o) : ∀ p, p < np → σ w (42 + 4 * p) = nI (if o.testBit p then 1 else 0) := fun p h => by
  obtain ⟨_, _, _, _, _, _, _, _, r⟩ := (hp p (by omega)).2.2.2 h
  exact r
theorem ok_count (d : Nat) (x : Int32) : Ok2 (d + 4) 70 174 [.ref 0, .int x] [.ref 54, .int x] := by
  intro S hR
  obtain ⟨⟨nf, np, nt, nw, o, hs, hf, hp, ht, hx⟩, hI, hE, hSh, hV⟩ := id hR
  obtain ⟨b1, b2, b3, b4, b5, c0, w2, c5, w3, c14, w5, c17, w6, c9, c10, c11, c12, r4, r0⟩ := id hs
  obtain ⟨n, v1, v2, v3, v4⟩ := hV
  have op := pM_opened (d + 1) b2 w3 (RCp_bits b2 hp) b5
  by_cases h : x = 0 ∨ x = 1 ∨ x = 2 ∨ x = 3 ∨ x = 4 ∨ x = 5 ∨ x = 6 ∨ x = 7 ∨ x = 8
  · rcases h with rfl | rfl | rfl | rfl | rfl | rfl | rfl | rfl | rfl
    · exact ⟨_, S, S, (fX5_count _ 0 S).trans (by rw [if_pos rfl]), by rw [fX6_count, if_pos rfl, il2, cl2, w2, c0], hR⟩
    · exact ⟨_, S, S, (fX5_count _ 1 S).trans (by rw [if_neg (by decide), if_pos rfl]), by rw [fX6_count, if_neg (by decide), if_pos rfl, il3, cl3, w3, c5], hR⟩
    · exact ⟨_, S, S, (fX5_count _ 2 S).trans (by rw [if_neg (by decide), if_neg (by decide), if_pos rfl]), by rw [fX6_count, if_neg (by decide), if_neg (by decide), if_pos rfl, il4, cl4, c10], hR⟩
    · exact ⟨_, S, S, (fX5_count _ 3 S).trans (by rw [if_neg (by decide), if_neg (by decide), if_neg (by decide), if_pos rfl]), by rw [fX6_count, if_neg (by decide), if_neg (by decide), if_neg (by decide), if_pos rfl, il0, cl0, c11], hR⟩
    · exact ⟨_, S, S, (fX5_count _ 4 S).trans (by rw [if_neg (by decide), if_neg (by decide), if_neg (by decide), if_neg (by decide), if_pos rfl]), by rw [fX6_count, if_neg (by decide), if_neg (by decide), if_neg (by decide), if_neg (by decide), if_pos rfl, op, bI_some, c9], hR⟩
    · exact ⟨_, S, S, (fX5_count _ 5 S).trans (by rw [if_neg (by decide), if_neg (by decide), if_neg (by decide), if_neg (by decide), if_neg (by decide), if_pos rfl]), by rw [fX6_count, if_neg (by decide), if_neg (by decide), if_neg (by decide), if_neg (by decide), if_neg (by decide), if_pos rfl, il5, cl5, w5, c14], hR⟩
    · exact ⟨_, S, S, (fX5_count _ 6 S).trans (by rw [if_neg (by decide), if_neg (by decide), if_neg (by decide), if_neg (by decide), if_neg (by decide), if_neg (by decide), if_pos rfl]), by rw [fX6_count, if_neg (by decide), if_neg (by decide), if_neg (by decide), if_neg (by decide), if_neg (by decide), if_neg (by decide), if_pos rfl, il6, cl6, w6, c17], hR⟩
    · exact ⟨_, S, S, (fX5_count _ 7 S).trans (by rw [if_neg (by decide), if_neg (by decide), if_neg (by decide), if_neg (by decide), if_neg (by decide), if_neg (by decide), if_neg (by decide), if_pos rfl]), by rw [fX6_count, if_neg (by decide), if_neg (by decide), if_neg (by decide), if_neg (by decide), if_neg (by decide), if_neg (by decide), if_neg (by decide), if_pos rfl, v2, v3], hR⟩
    · exact ⟨_, S, S, (fX5_count _ 8 S).trans (by rw [if_neg (by decide), if_neg (by decide), if_neg (by decide), if_neg (by decide), if_neg (by decide), if_neg (by decide), if_neg (by decide), if_neg (by decide), if_pos rfl]), by rw [fX6_count, if_neg (by decide), if_neg (by decide), if_neg (by decide), if_neg (by decide), if_neg (by decide), if_neg (by decide), if_neg (by decide), if_neg (by decide), if_pos rfl, il1, cl1, c12], hR⟩
  · simp only [not_or] at h
    obtain ⟨h0, h1, h2, h3, h4, h5, h6, h7, h8⟩ := h
    refine ⟨-1000000001, uI S 53 1 (S.1 53 1 + 1), EE 1 S, ?_, ?_, Rel_EE hR⟩
    · rw [fX5_count, if_neg h0, if_neg h1, if_neg h2, if_neg h3, if_neg h4, if_neg h5, if_neg h6, if_neg h7, if_neg h8, pC_err1, bI_some]
    · rw [fX6_count, if_neg h0, if_neg h1, if_neg h2, if_neg h3, if_neg h4, if_neg h5, if_neg h6, if_neg h7, if_neg h8, pM_err1, bI_some]
      rfl
theorem check_go (d : Nat) {S : MS} {nf nw : Nat} (hn : nf ≤ 8) (hw : nw ≤ 24) (c0 : S.1 1 0 = nI nf) (w2 : S.1 55 2 = nI nf) (ht : ∀ i, i < 24 → S.1 10 i = S.1 55 (135 + i)) (hk : ∀ f, f < 8 → S.1 5 f = S.1 55 (10 + 4 * f)) : ∀ n i, i + n = nw → ∃ r : Int32, mv (kX5_check (mFn (d + 2))) 18 [(0, .ref 0), (1, .int (nI nw)), (2, .int (nI i))] [] S = some (some (.int r), S) ∧ ∀ T : MS, (∀ j, j ≠ 6 → T.1 55 j = S.1 55 j) → mv (kX6_check (mFn (d + 2))) 18 [(0, .ref 54), (1, .int (nI nw)), (2, .int (nI i))] [] T = some (some (.int r), T) := by
  intro n
  induction n with
  | zero =>
    intro i hi
    have e : i = nw := by omega
    subst e
    refine ⟨0, ?_, fun T hT => ?_⟩
    · rw [lX5_check_18, if_pos (Int32.le_refl _)]
    · rw [lX6_check_18, if_pos (Int32.le_refl _)]
  | succ n ih =>
    intro i hi
    by_cases hf : i < nf
    · have cond : ∀ T : MS, (∀ j, j ≠ 6 → T.1 55 j = S.1 55 j) → mv (kX6_check (mFn (d + 2))) 18 [(0, .ref 54), (1, .int (nI nw)), (2, .int (nI i))] [] T = if S.1 55 (135 + i) = S.1 55 (10 + 4 * i) then mv (kX6_check (mFn (d + 2))) 18 [(0, .ref 54), (1, .int (nI nw)), (2, .int (nI (i + 1)))] [] T else some (some (.int (nI (1 + i))), T) := by
        intro T hT
        rw [lX6_check_18, if_neg (nI_ge (by omega) (by omega)), pM_isF _ _ (show T.1 55 2 = nI nf by rw [hT 2 (by decide)]; exact w2) (by omega), bI_some, if_b2, if_pos ⟨nI_pos' (by omega), nI_lt hf (by omega)⟩, show fAdd 135 (nI i) = nI (135 + i) from fa_nn 135 i, if_in (by omega) (by omega), cN (by omega), pM_of3 _ (by omega), bI_some, hT (135 + i) (by omega), hT (10 + 4 * i) (by omega), add1, show fAdd 1 (nI i) = nI (1 + i) from fa_nn 1 i]
      by_cases e : S.1 55 (135 + i) = S.1 55 (10 + 4 * i)
      · obtain ⟨r, g1, g2⟩ := ih (i + 1) (by omega)
        refine ⟨r, ?_, fun T hT => ?_⟩
        · rw [lX5_check_18, if_neg (nI_ge (by omega) (by omega)), c0, if_neg (nI_ge hf (by omega)), if_in (by omega) (by omega), if_in (by omega) (by omega), cN (by omega), ht i (by omega), hk i (by omega), if_pos e, add1]
          exact g1
        · rw [cond T hT, if_pos e]
          exact g2 T hT
      · refine ⟨nI (1 + i), ?_, fun T hT => ?_⟩
        · rw [lX5_check_18, if_neg (nI_ge (by omega) (by omega)), c0, if_neg (nI_ge hf (by omega)), if_in (by omega) (by omega), if_in (by omega) (by omega), cN (by omega), ht i (by omega), hk i (by omega), if_neg e, show fAdd 1 (nI i) = nI (1 + i) from fa_nn 1 i]
        · rw [cond T hT, if_neg e]
    · refine ⟨nI (1 + i), ?_, fun T hT => ?_⟩
      · rw [lX5_check_18, if_neg (nI_ge (by omega) (by omega)), c0, if_pos (nI_le (by omega) (by omega)), show fAdd 1 (nI i) = nI (1 + i) from fa_nn 1 i]
      · rw [lX6_check_18, if_neg (nI_ge (by omega) (by omega)), pM_isF _ _ (show T.1 55 2 = nI nf by rw [hT 2 (by decide)]; exact w2) (by omega), bI_some, if_b2, if_neg (fun z => nI_nlt (a := i) (b := nf) (by omega) (by omega) z.2), show fAdd 1 (nI i) = nI (1 + i) from fa_nn 1 i]
theorem ok_check (d : Nat) : Ok2 (d + 3) 69 173 [.ref 0] [.ref 54] := by
  intro S hR
  obtain ⟨⟨nf, np, nt, nw, o, hs, hf, hp, ht, hx⟩, hI, hE, hSh, hV⟩ := id hR
  obtain ⟨b1, b2, b3, b4, b5, c0, w2, c5, w3, c14, w5, c17, w6, c9, c10, c11, c12, r4, r0⟩ := id hs
  have e : ∀ S' : MS, S'.1 = (uI S 1 17 0).1 → S'.1 1 0 = nI nf := fun S' h => by rw [h]; exact c0
  obtain ⟨r, g1, g2⟩ := check_go d (S := uI S 1 17 0) b1 b4 c0 w2 (fun i hi => by simp (disch := omega) only [uI_oth]; exact ht.2 i hi) (fun f hf1 => by simp (disch := omega) only [uI_oth]; exact (hf f hf1).2.2.2.1) nw 0 (by omega)
  refine ⟨r, uI S 1 17 0, uI (uI S 1 17 0) 55 6 0, ?_, ?_, ?_⟩
  · rw [fX5_check, c17]
    exact g1
  · rw [fX6_check, il6, il6, cl6, uI_oth (by omega), w6]
    exact g2 _ (fun j hj => by rw [uI_ni _ hj])
  · refine Rel_city (nf := nf) (np := np) (nt := nt) (nw := 0) (o := o) hR ⟨by
      unfold RCs
      refine ⟨b1, b2, b3, by omega, b5, ?_, ?_, ?_, ?_, ?_, ?_, ?_, ?_, ?_, ?_, ?_, ?_, ?_, ?_⟩ <;> (try simp (disch := omega) only [uI_oth, uI_ni, uI_eq]) <;> first | assumption | rfl, RCf_c (fun k h1 h2 => by simp (disch := omega) only [uI_oth, uI_ni, uI_eq]) (fun i h1 h2 => by simp (disch := omega) only [uI_oth, uI_ni, uI_eq]) hf, RCp_c b1 (fun k h1 h2 => by simp (disch := omega) only [uI_oth, uI_ni, uI_eq]) (fun i h1 h2 => by simp (disch := omega) only [uI_oth, uI_ni, uI_eq]) (fun f h1 => by simp (disch := omega) only [uI_oth, uI_ni, uI_eq]) hp, RCt_c (by simp (disch := omega) only [uI_oth, uI_ni, uI_eq]) (by simp (disch := omega) only [uI_oth, uI_ni, uI_eq]) (fun i h1 h2 => by simp (disch := omega) only [uI_oth, uI_ni, uI_eq]) ht, RCx_c (fun k h1 h2 h3 => by simp (disch := omega) only [uI_oth, uI_ni, uI_eq]) (fun i h1 => by simp (disch := omega) only [uI_oth, uI_ni, uI_eq]) hx⟩ (fun k h1 h2 => by simp (disch := omega) only [uI_oth, uI_ni, uI_eq])
