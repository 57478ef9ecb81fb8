/-! ===== calls: heard ===== -/
theorem Rel_eh {k : Nat} {S A B : MS} (h1 : Fr [14, 17, 35, 36, 37, 38] S A) (h2 : Fr [63, 64, 65, 66, 67] (uI A 53 k (A.1 53 k + 1)) B) (hR : Rel S) : Rel (uI B 57 k (B.1 57 k + 1)) := by
  have e57 : B.1 57 = S.1 57 := by rw [h2 57 (by decide), uI_oth (by decide), h1 57 (by decide)]
  have f : Fr [14, 17, 35, 36, 37, 38, 63, 64, 65, 66, 67] (EE k S) (uI B 57 k (B.1 57 k + 1)) := by
    intro i hi
    by_cases i57 : i = 57
    · subst i57
      funext j
      unfold EE
      rw [uI_rd, uI_rd, e57, uI_oth (show 57 ≠ 53 by decide)]
    · rw [uI_oth i57, h2 i (by intro q; apply hi; revert q; simp; omega)]
      unfold EE
      rw [uI_oth i57]
      by_cases i53 : i = 53
      · subst i53
        funext j
        rw [uI_rd, uI_rd, h1 53 (by decide)]
      · rw [uI_oth i53, uI_oth i53, h1 i (by intro q; apply hi; revert q; simp; omega)]
  have g := Rel_EE (k := k) hR
  exact Rel_fr (f.up (by decide)) (by rw [f 54 (by decide)]) (by rw [f 54 (by decide)]) (by rw [f 42 (by decide)]) g
theorem ok_heard (d : Nat) (x z g v : Int32) : Ok2 (d + 8) 50 137 [.ref 0, .int x, .int z, .int g, .int v] [.ref 54, .int x, .int z, .int g, .int v] := by
  intro S hR
  obtain ⟨⟨nf, np, nt, nw, o, hs, hf, hp, ht, hx⟩, hI, hE, hSh, hV⟩ := id hR
  obtain ⟨b1, b2, b3, b4, b5, c0, w2, c5, w3, c14, w5, c17, w6, c9, c10, c11, c12, r4, r0⟩ := id hs
  by_cases h : 0 ≤ x ∧ x < nI nf
  · by_cases hz : 1 ≤ z ∧ z ≤ 99
    · by_cases hg : 0 ≤ g ∧ g < nI nf
      · by_cases hv : 0 ≤ v ∧ v ≤ 1
        · obtain ⟨f, hf1, rfl⟩ := i_rng (by omega) h.1 h.2
          obtain ⟨y, y1, y2, rfl⟩ := rlo (n := 99) (by decide) (by decide) (Int32.not_lt.mpr hz.1) hz.2
          obtain ⟨t, ht1, rfl⟩ := i_rng (by omega) hg.1 hg.2
          obtain ⟨A, A', a1, a2, a3, a4, V, dn, v1, v2, v3, v4, v5, v6⟩ := bothNow d hs hf hp hx hf1 ⟨y1, y2⟩
          have cl : mFn (d + 8) 50 [.ref 0, .int (nI f), .int (nI y), .int (nI t), .int v] S = _ := fX5_heard _ _ _ _ _ _
          rw [pC_isSay _ _ _ c0, bI_some, if_b2, if_pos ⟨h, hz⟩, pC_isF _ _ c0, bI_some, if_b2, if_pos hg, pC_isBit, bI_some, if_b2, if_pos hv, a1, bV_some, a2, c9, a3, bV_some, heardC _ (show t < 8 by omega) (v1 t ht1), bI_some, if_in (show t < 8 by omega) (by omega), if_in (show t < 8 by omega) (by omega), cN (show t ≤ 100000 by omega)] at cl
          have ml : ∀ T : MS, Fr [14, 17, 35, 36, 37, 38, 53] S T → ∃ B', mFn (d + 8) 137 [.ref 54, .int (nI f), .int (nI y), .int (nI t), .int v] T = (if 0 ≤ B'.1 65 t then (if v = 0 then some (some (.int (B'.1 65 t)), B') else some (some (.int (B'.1 66 t)), B')) else bI (mFn (d + 7) 86 [.ref 54, .int (-1000000002)] B') (fun y10 S10 => some (some (.int y10), S10))) ∧ Fr [63, 64, 65, 66, 67] T B' ∧ encM B' t (V t) := by
            intro T hT
            obtain ⟨B', k1, k2, k3⟩ := v6 T (hT.up (by decide))
            have e : T.1 55 2 = nI nf := by rw [hT 55 (by decide)]; exact w2
            refine ⟨B', ?_, k2, k3 t ht1⟩
            rw [fX6_heard, pM_isF _ _ e (by omega), bI_some, if_b2, if_pos h, pM_isSize, bI_some, if_b2, if_pos hz, pM_isF _ _ e (by omega), bI_some, if_b2, if_pos hg, pM_in, bI_some, if_b2, if_pos hv, k1, bV_some, if_in (show t < 8 by omega) (by omega), if_in (show t < 8 by omega) (by omega), cN (show t ≤ 100000 by omega), if_in2 (show t < 8 by omega) (by omega)]
          have vt := v1 t ht1
          cases hV : V t with
          | none =>
            rw [hV, if_pos rfl, if_pos rfl, pC_err2, bI_some] at cl
            have fT : Fr [14, 17, 35, 36, 37, 38, 53] S (uI A' 53 2 (A'.1 53 2 + 1)) := (a4.up (by decide)).put (by decide)
            obtain ⟨B', k1, k2, k3⟩ := ml _ fT
            rw [hV] at k3
            have k3 : B'.1 65 t = -1 := k3.1
            rw [k3, if_neg (by decide), pM_err2, bI_some] at k1
            exact ⟨_, _, _, cl, k1, Rel_eh a4 k2 hR⟩
          | some a =>
            rw [hV] at vt
            rw [hV, show (if (some a) = none then (0 : Int32) else 1) = 1 from if_neg (by simp), if_neg (show ¬ (1 : Int32) = 0 by decide)] at cl
            obtain ⟨B', k1, k2, k3⟩ := ml A' (a4.up (by decide))
            rw [hV] at k3
            rw [k3.1, if_pos (nI_pos' (by have := k3.2.2.1; omega)), k3.2.1] at k1
            rw [vt.1, vt.2.1] at cl
            by_cases v0 : v = 0
            · rw [if_pos v0] at cl k1
              exact ⟨_, A', B', cl, k1, Rel_h a4 k2 hR⟩
            · rw [if_neg v0] at cl k1
              exact ⟨_, A', B', cl, k1, Rel_h a4 k2 hR⟩
        · refine ⟨-1000000001, uI S 53 1 (S.1 53 1 + 1), EE 1 S, ?_, ?_, Rel_EE hR⟩
          · rw [fX5_heard, pC_isSay _ _ _ c0, bI_some, if_b2, if_pos ⟨h, hz⟩, pC_isF _ _ c0, bI_some, if_b2, if_pos hg, pC_isBit, bI_some, if_b2, if_neg hv, pC_err1, bI_some]
          · rw [fX6_heard, pM_isF _ _ (show (uI S 53 1 (S.1 53 1 + 1)).1 55 2 = nI nf from w2) (by omega), bI_some, if_b2, if_pos h, pM_isSize, bI_some, if_b2, if_pos hz, pM_isF _ _ (show (uI S 53 1 (S.1 53 1 + 1)).1 55 2 = nI nf from w2) (by omega), bI_some, if_b2, if_pos hg, pM_in, bI_some, if_b2, if_neg hv, pM_err1, bI_some]
            rfl
      · refine ⟨-1000000001, uI S 53 1 (S.1 53 1 + 1), EE 1 S, ?_, ?_, Rel_EE hR⟩
        · rw [fX5_heard, pC_isSay _ _ _ c0, bI_some, if_b2, if_pos ⟨h, hz⟩, pC_isF _ _ c0, bI_some, if_b2, if_neg hg, pC_err1, bI_some]
        · rw [fX6_heard, pM_isF _ _ (show (uI S 53 1 (S.1 53 1 + 1)).1 55 2 = nI nf from w2) (by omega), bI_some, if_b2, if_pos h, pM_isSize, bI_some, if_b2, if_pos hz, pM_isF _ _ (show (uI S 53 1 (S.1 53 1 + 1)).1 55 2 = nI nf from w2) (by omega), bI_some, if_b2, if_neg hg, pM_err1, bI_some]
          rfl
    · refine ⟨-1000000001, uI S 53 1 (S.1 53 1 + 1), EE 1 S, ?_, ?_, Rel_EE hR⟩
      · rw [fX5_heard, pC_isSay _ _ _ c0, bI_some, if_b2, if_neg (fun q => hz q.2), pC_err1, bI_some]
      · rw [fX6_heard, pM_isF _ _ (show (uI S 53 1 (S.1 53 1 + 1)).1 55 2 = nI nf from w2) (by omega), bI_some, if_b2, if_pos h, pM_isSize, bI_some, if_b2, if_neg hz, pM_err1, bI_some]
        rfl
  · refine ⟨-1000000001, uI S 53 1 (S.1 53 1 + 1), EE 1 S, ?_, ?_, Rel_EE hR⟩
    · rw [fX5_heard, pC_isSay _ _ _ c0, bI_some, if_b2, if_neg (fun q => h q.1), pC_err1, bI_some]
    · rw [fX6_heard, pM_isF _ _ (show (uI S 53 1 (S.1 53 1 + 1)).1 55 2 = nI nf from w2) (by omega), bI_some, if_b2, if_neg h, pM_err1, bI_some]
      rfl
