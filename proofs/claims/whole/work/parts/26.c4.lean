/-! ===== sets as numbers; calls: pipe, turn, count, check ===== -/
theorem fa_and (a b : Nat) : nI a &&& nI b = nI (a &&& b) := by
  apply Int32.toBitVec_inj.1
  show BitVec.ofNat 32 a &&& BitVec.ofNat 32 b = BitVec.ofNat 32 (a &&& b)
  apply BitVec.eq_of_getLsbD_eq
  intro i hi
  simp [hi]
theorem fa_or (a b : Nat) : nI a ||| nI b = nI (a ||| b) := by
  apply Int32.toBitVec_inj.1
  show BitVec.ofNat 32 a ||| BitVec.ofNat 32 b = BitVec.ofNat 32 (a ||| b)
  apply BitVec.eq_of_getLsbD_eq
  intro i hi
  simp [hi]
theorem nx_xor (a b : Nat) : nI a ^^^ nI b = nI (a ^^^ b) := by
  apply Int32.toBitVec_inj.1
  show BitVec.ofNat 32 a ^^^ BitVec.ofNat 32 b = BitVec.ofNat 32 (a ^^^ b)
  apply BitVec.eq_of_getLsbD_eq
  intro i hi
  simp [hi]
theorem s_l : ∀ n, n < 32 → ((nI n &&& 31).toBitVec.smod 32).toNat = n := by decide +kernel
theorem sh_l {p : Nat} (hp : p < 20) : fShl 1 (nI p) = nI (2 ^ p) := by
  have h : 2 ^ p ≤ 2 ^ 20 := Nat.pow_le_pow_right (by decide) (by omega)
  have h2 := pk_shlN (n := 1) (nI p &&& 31) p (s_l p (by omega)) (by rw [Nat.one_mul]; exact Nat.lt_of_le_of_lt h (by decide))
  rw [Nat.one_mul] at h2
  exact h2
theorem sh_ln {a p : Nat} (ha : a ≤ 1) (hp : p < 20) : fShl (nI a) (nI p) = nI (a * 2 ^ p) := by
  have h : 2 ^ p ≤ 2 ^ 20 := Nat.pow_le_pow_right (by decide) (by omega)
  have h3 : a * 2 ^ p ≤ 1 * 2 ^ p := Nat.mul_le_mul_right _ ha
  exact pk_shlN (n := a) (nI p &&& 31) p (s_l p (by omega)) (by omega)
theorem bit01 (o p : Nat) : o / 2 ^ p % 2 = if o.testBit p then 1 else 0 := by
  rw [Nat.testBit_eq_decide_div_mod_eq]
  have h : o / 2 ^ p % 2 < 2 := Nat.mod_lt _ (by decide)
  by_cases e : o / 2 ^ p % 2 = 1
  · rw [e]; rfl
  · have e0 : o / 2 ^ p % 2 = 0 := by omega
    rw [e0]; rfl
theorem bit_r {o p : Nat} (ho : o < 2 ^ 20) (hp : p < 20) : fAnd (fShr (nI o) (nI p)) 1 = nI (if o.testBit p then 1 else 0) := by
  show (nI o >>> (nI p &&& 31)) &&& 1 = _
  have h : o / 2 ^ p ≤ o := Nat.div_le_self _ _
  rw [pk_shrN (by omega) _ p (s_l p (by omega)), pk_andN (by omega) 1 (by decide), ← bit01]
theorem pw_le {np : Nat} (h : np ≤ 9) : 2 ^ np ≤ 512 := Nat.pow_le_pow_right (n := 2) (by decide) h
theorem ok_pipe (d : Nat) (x y w : Int32) : Ok2 (d + 4) 41 108 [.ref 0, .int x, .int y, .int w] [.ref 54, .int x, .int y, .int w] := by
  intro S hR
  obtain ⟨⟨nf, np, nt, nw, o, hs, hf, hp, ht, hx⟩, hI, hE, hSh, hV⟩ := id hR
  obtain ⟨b1, b2, b3, b4, b5, c0, w2, c5, w3, c14, w5, c17, w6, c9, c10, c11, c12, r4, r0⟩ := id hs
  have e1 : ∀ k, (uI S 53 k (S.1 53 k + 1)).1 55 2 = nI nf := fun k => w2
  have o9 := pw_le b2
  by_cases h : 0 ≤ x ∧ x < nI nf
  · obtain ⟨f, hf1, rfl⟩ := i_rng (by omega) h.1 h.2
    have ef := hf f (by omega)
    by_cases hy : 0 ≤ y ∧ y < nI nf
    · obtain ⟨g, hg1, rfl⟩ := i_rng (by omega) hy.1 hy.2
      have eg := hf g (by omega)
      by_cases hw : 1 ≤ w ∧ w ≤ 9
      · by_cases hh : S.1 55 (9 + 4 * g) < S.1 55 (9 + 4 * f)
        · by_cases h9 : np < 9
          · have cl : mFn (d + 4) 41 [.ref 0, .int (nI f), .int (nI g), .int w] S = some (some (.int (nI np)), uI (uI (uI (uI (uI S 6 np (nI f)) 7 np (nI g)) 8 np w) 1 9 (nI (o ||| 2 ^ np))) 1 5 (nI (np + 1))) := by
              rw [fX5_pipe, pC_isF _ _ c0, bI_some, if_b2, if_pos h, pC_isF _ _ c0, bI_some, if_b2, if_pos hy, if_neg (Int32.not_lt.mpr hw.1), if_pos hw.2, if_in (by omega) (by omega), if_in (by omega) (by omega), cN (by omega), cN (by omega), ef.2.2.1, eg.2.2.1, if_pos hh, c5, if_pos (show nI np < 9 from nI_lt (a := np) (b := 9) h9 (by decide)), if_in h9 (by omega), if_in h9 (by omega), if_in h9 (by omega), cN (by omega), c9, sh_l (by omega), show fOr (nI o) (nI (2 ^ np)) = nI (o ||| 2 ^ np) from fa_or _ _, fa_1]
            generalize hT : uI (uI (uI (uI (uI S 6 np (nI f)) 7 np (nI g)) 8 np w) 1 9 (nI (o ||| 2 ^ np))) 1 5 (nI (np + 1)) = T at cl
            have hT55 : T.1 55 = S.1 55 := by rw [← hT, uI_oth (by omega), uI_oth (by omega), uI_oth (by omega), uI_oth (by omega), uI_oth (by omega)]
            have ml : mFn (d + 4) 108 [.ref 54, .int (nI f), .int (nI g), .int w] T = some (some (.int (nI np)), uI (uI (uI (uI (uI T 55 3 (nI (np + 1))) 55 (39 + 4 * np) (nI f)) 55 (40 + 4 * np) (nI g)) 55 (41 + 4 * np) w) 55 (42 + 4 * np) 1) := by
              have w2' : T.1 55 2 = nI nf := by rw [hT55]; exact w2
              rw [fX6_pipe, pM_isF _ _ w2' (by omega), bI_some, if_b2, if_pos h, pM_isF _ _ w2' (by omega), bI_some, if_b2, if_pos hy, pM_in, bI_some, if_b2, if_pos hw, pM_of2 _ (by omega), bI_some, pM_of2 _ (by omega), bI_some, hT55, if_pos hh, il3, il3, il3, cl3, w3, if_neg (fun z => by have := (nI_eq (a := np) (b := 9) (by omega) (by omega)).mp z; omega), rp, fa_1, fa_1, fa_2, fa_3, if_in (by omega) (by omega), if_in (by omega) (by omega), if_in (by omega) (by omega), if_in (by omega) (by omega), cN (by omega), cN (by omega), cN (by omega), cN (by omega), show 39 + 4 * np + 1 = 40 + 4 * np by omega, show 39 + 4 * np + 2 = 41 + 4 * np by omega, show 39 + 4 * np + 3 = 42 + 4 * np by omega]
            refine ⟨nI np, T, _, cl, ml, ?_⟩
            subst hT
            have p1 : 2 ^ (np + 1) = 2 ^ np * 2 := Nat.pow_succ 2 np
            refine Rel_city (nf := nf) (np := np + 1) (nt := nt) (nw := nw) (o := o ||| 2 ^ np) hR ⟨by
      unfold RCs
      refine ⟨b1, by omega, b3, b4, Nat.or_lt_two_pow (by omega) (by omega), ?_, ?_, ?_, ?_, ?_, ?_, ?_, ?_, ?_, ?_, ?_, ?_, ?_, ?_⟩ <;> (try simp (disch := omega) only [uI_oth, uI_ni, uI_eq]) <;> first | assumption | rfl, RCf_c (fun k h1 h2 => by simp (disch := omega) only [uI_oth, uI_ni, uI_eq]) (fun i h1 h2 => by simp (disch := omega) only [uI_oth, uI_ni, uI_eq]) hf, ?_, RCt_c (by simp (disch := omega) only [uI_oth, uI_ni, uI_eq]) (by simp (disch := omega) only [uI_oth, uI_ni, uI_eq]) (fun i h1 h2 => by simp (disch := omega) only [uI_oth, uI_ni, uI_eq]) ht, RCx_c (fun k h1 h2 h3 => by simp (disch := omega) only [uI_oth, uI_ni, uI_eq]) (fun i h1 => by simp (disch := omega) only [uI_oth, uI_ni, uI_eq]) hx⟩ (fun k h1 h2 => by simp (disch := omega) only [uI_oth, uI_ni, uI_eq])
            intro q hq
            have eq := hp q hq
            by_cases hqn : q = np
            · subst hqn
              refine ⟨?_, ?_, ?_, fun _ => ⟨f, g, hf1, hg1, ?_, ?_, ⟨?_, ?_⟩, ?_, ?_⟩⟩ <;> (try simp (disch := omega) only [uI_oth, uI_ni, uI_eq])
              · exact hw.1
              · exact hw.2
              · exact hh
              · rw [Nat.testBit_or, Nat.testBit_two_pow, decide_eq_true rfl, Bool.or_true]
                rfl
            · refine ⟨?_, ?_, ?_, fun hlt => ?_⟩ <;> (try simp (disch := omega) only [uI_oth, uI_ni, uI_eq])
              · exact eq.1
              · exact eq.2.1
              · exact eq.2.2.1
              · obtain ⟨fr, to, r1, r2, r3, r4, r5, r6, r7⟩ := eq.2.2.2 (by omega)
                refine ⟨fr, to, r1, r2, r3, r4, r5, ?_, ?_⟩
                · simp (disch := omega) only [uI_oth, uI_ni, uI_eq]
                  exact r6
                rw [r7, Nat.testBit_or, Nat.testBit_two_pow, decide_eq_false (fun z => hqn z.symm), Bool.or_false]
          · have e : np = 9 := by omega
            subst e
            refine ⟨-1000000004, uI S 53 4 (S.1 53 4 + 1), EE 4 S, ?_, ?_, Rel_EE hR⟩
            · rw [fX5_pipe, pC_isF _ _ c0, bI_some, if_b2, if_pos h, pC_isF _ _ c0, bI_some, if_b2, if_pos hy, if_neg (Int32.not_lt.mpr hw.1), if_pos hw.2, if_in (by omega) (by omega), if_in (by omega) (by omega), cN (by omega), cN (by omega), ef.2.2.1, eg.2.2.1, if_pos hh, c5, if_neg (by decide), pC_err4, bI_some]
            · rw [fX6_pipe, pM_isF _ _ (e1 4) (by omega), bI_some, if_b2, if_pos h, pM_isF _ _ (e1 4) (by omega), bI_some, if_b2, if_pos hy, pM_in, bI_some, if_b2, if_pos hw, pM_of2 _ (by omega), bI_some, pM_of2 _ (by omega), bI_some, uI_oth (by omega), if_pos hh, il3, cl3, w3, if_pos (by decide), pM_err4, bI_some]
              rfl
        · refine ⟨-1000000003, uI S 53 3 (S.1 53 3 + 1), EE 3 S, ?_, ?_, Rel_EE hR⟩
          · rw [fX5_pipe, pC_isF _ _ c0, bI_some, if_b2, if_pos h, pC_isF _ _ c0, bI_some, if_b2, if_pos hy, if_neg (Int32.not_lt.mpr hw.1), if_pos hw.2, if_in (by omega) (by omega), if_in (by omega) (by omega), cN (by omega), cN (by omega), ef.2.2.1, eg.2.2.1, if_neg hh, pC_err3, bI_some]
          · rw [fX6_pipe, pM_isF _ _ (e1 3) (by omega), bI_some, if_b2, if_pos h, pM_isF _ _ (e1 3) (by omega), bI_some, if_b2, if_pos hy, pM_in, bI_some, if_b2, if_pos hw, pM_of2 _ (by omega), bI_some, pM_of2 _ (by omega), bI_some, uI_oth (by omega), if_neg hh, pM_err3, bI_some]
            rfl
      · refine ⟨-1000000001, uI S 53 1 (S.1 53 1 + 1), EE 1 S, ?_, ?_, Rel_EE hR⟩
        · rw [fX5_pipe, pC_isF _ _ c0, bI_some, if_b2, if_pos h, pC_isF _ _ c0, bI_some, if_b2, if_pos hy]
          by_cases h1 : w < 1
          · rw [if_pos h1, pC_err1, bI_some]
          · rw [if_neg h1, if_neg (fun z => hw ⟨Int32.not_lt.mp h1, z⟩), pC_err1, bI_some]
        · rw [fX6_pipe, pM_isF _ _ (e1 1) (by omega), bI_some, if_b2, if_pos h, pM_isF _ _ (e1 1) (by omega), bI_some, if_b2, if_pos hy, pM_in, bI_some, if_b2, if_neg hw, pM_err1, bI_some]
          rfl
    · refine ⟨-1000000001, uI S 53 1 (S.1 53 1 + 1), EE 1 S, ?_, ?_, Rel_EE hR⟩
      · rw [fX5_pipe, pC_isF _ _ c0, bI_some, if_b2, if_pos h, pC_isF _ _ c0, bI_some, if_b2, if_neg hy, pC_err1, bI_some]
      · rw [fX6_pipe, pM_isF _ _ (e1 1) (by omega), bI_some, if_b2, if_pos h, pM_isF _ _ (e1 1) (by omega), bI_some, if_b2, if_neg hy, pM_err1, bI_some]
        rfl
  · refine ⟨-1000000001, uI S 53 1 (S.1 53 1 + 1), EE 1 S, ?_, ?_, Rel_EE hR⟩
    · rw [fX5_pipe, pC_isF _ _ c0, bI_some, if_b2, if_neg h, pC_err1, bI_some]
    · rw [fX6_pipe, pM_isF _ _ (e1 1) (by omega), bI_some, if_b2, if_neg h, pM_err1, bI_some]
      rfl

