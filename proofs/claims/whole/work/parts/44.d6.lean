/-! ===== calls: let, all of it ===== -/
theorem letBoth (d : Nat) {S : MS} {nf np nt nw o f0 z : Nat} (hR : Rel S) (hs : RCs S.1 1 55 nf np nt nw o) (hf : RCf S.1 1 55) (hp : RCp S.1 1 55 nf np o) (ht : RCt S.1 1 55) (hx : RCx S.1 1 55) (hf0 : f0 < nf) (hz : 1 ≤ z ∧ z ≤ 99) : ∃ r A U, mFn (d + 8) 82 [.ref 0, .int (nI f0), .int (nI z)] S = some (some (.int r), A) ∧ A.1 1 = S.1 1 ∧ A.1 55 = S.1 55 ∧ mFn (d + 8) 138 [.ref 54, .int (nI f0), .int (nI z)] A = some (some (.int r), U) ∧ U.1 1 = S.1 1 ∧ (∀ j, j < 7 → U.1 55 j = S.1 55 j) ∧ RCs U.1 1 55 nf np nt nw o ∧ RCf U.1 1 55 ∧ RCp U.1 1 55 nf np o ∧ RCt U.1 1 55 ∧ RCx U.1 1 55 ∧ Rel U := by
  obtain ⟨b1, b2, b3, b4, b5, c0, w2, c5, w3, c14, w5, c17, w6, c9, c10, c11, c12, r4, r0⟩ := id hs
  obtain ⟨A, A', a1, a2, a3, a4, V, dn, v1, v2, v3, v4, v5, v6⟩ := bothNow d hs hf hp hx hf0 hz
  obtain ⟨T, t1, t2, t3⟩ := letC (d + 6) (nf := nf) (dn := dn) (V := V) b1 nf 0 (by omega) A' (by rw [a4 1 (by decide)]; exact c0) v2 v1
  have fT : Fr [5, 14, 17, 35, 36, 37, 38] S T := (a4.up (by decide)).tr (t2.up (by decide))
  obtain ⟨B', k1, k2, k3⟩ := v6 T (fT.up (by decide))
  have eB : B'.1 55 = S.1 55 := by rw [k2 55 (by decide), fT 55 (by decide)]
  obtain ⟨U, u1, u2, u3, u4⟩ := letM (d + 5) (nf := nf) (dn := dn) (V := V) b1 v3 v4 nf 0 (by omega) B' (by rw [eB]; exact w2) k3 (fun f hf1 => by rw [eB]; exact (hf f (by omega)).2.2.2.2.2.2.2)
  have fU : Fr [5, 14, 17, 35, 36, 37, 38, 55, 63, 64, 65, 66, 67] S U := ((fT.up (by decide)).tr (k2.up (by decide))).tr (u2.up (by decide))
  have u5 : ∀ j, U.1 5 j = if j < nf then upT (S.1 5 j) (V j) else S.1 5 j := fun j => by
    rw [u2 5 (by decide), k2 5 (by decide), t3, a4 5 (by decide)]
    by_cases h : j < nf
    · rw [if_pos ⟨Nat.zero_le _, h⟩, if_pos h]
    · rw [if_neg (fun q => h q.2), if_neg h]
  have u55 : ∀ j, (∀ f, f < nf → j ≠ 10 + 4 * f) → U.1 55 j = S.1 55 j := fun j hj => by rw [u4 j (fun f _ h => hj f h), eB]
  have uk : ∀ k, 1 ≤ k → k ≤ 17 → k ≠ 5 → k ≠ 14 → k ≠ 17 → U.1 k = S.1 k := fun k h1 h2 h3 h4 h5 => fU k (by simp; omega)
  have s1 : RCs U.1 1 55 nf np nt nw o := by
    unfold RCs
    rw [uk 1 (by omega) (by omega) (by omega) (by omega) (by omega), u55 2 (fun f _ => by omega), u55 3 (fun f _ => by omega), u55 5 (fun f _ => by omega), u55 6 (fun f _ => by omega), u55 4 (fun f _ => by omega), u55 0 (fun f _ => by omega), u55 1 (fun f _ => by omega)]
    exact hs
  have s2 : RCf U.1 1 55 := by
    intro f hf8
    obtain ⟨f1, f2, f3, f4, f5, f6, f7, f8⟩ := hf f hf8
    rw [uk (1 + 1) (by omega) (by omega) (by omega) (by omega) (by omega), uk (1 + 2) (by omega) (by omega) (by omega) (by omega) (by omega), uk (1 + 3) (by omega) (by omega) (by omega) (by omega) (by omega), u5, u55 (7 + 4 * f) (fun g _ => by omega), u55 (8 + 4 * f) (fun g _ => by omega), u55 (9 + 4 * f) (fun g _ => by omega)]
    by_cases h : f < nf
    · obtain ⟨g1, g2, g3⟩ := u3 f (Nat.zero_le _) h
      rw [eB] at g1 g2 g3
      rw [if_pos h, g1, show S.1 5 f = _ from f4]
      exact ⟨f1, f2, f3, rfl, f5, f6, f7, g2, g3⟩
    · rw [if_neg h, u55 (10 + 4 * f) (fun g _ => by omega)]
      exact ⟨f1, f2, f3, f4, f5, f6, f7, f8⟩
  have s3 : RCp U.1 1 55 nf np o := RCp_c b1 (fun k h1 h2 => uk k (by omega) (by omega) (by omega) (by omega) (by omega)) (fun i h1 h2 => u55 i (fun f _ => by omega)) (fun f h1 => u55 _ (fun g _ => by omega)) hp
  have s4 : RCt U.1 1 55 := RCt_c (uk _ (by omega) (by omega) (by omega) (by omega) (by omega)) (uk _ (by omega) (by omega) (by omega) (by omega) (by omega)) (fun i h1 h2 => u55 i (fun f _ => by omega)) ht
  have s5 : RCx U.1 1 55 := RCx_c (fun k h1 h2 h3 => fU k (by simp; omega)) (fun i h1 => u55 i (fun f _ => by omega)) hx
  have s0 : Rel ((fun k => if k = 5 ∨ k = 55 then S.1 k else U.1 k), U.2) := by
    have f0 : Fr [14, 17, 35, 36, 37, 38, 63, 64, 65, 66, 67] S ((fun k => if k = 5 ∨ k = 55 then S.1 k else U.1 k), U.2) := by
      intro k hk
      show (if k = 5 ∨ k = 55 then S.1 k else U.1 k) = S.1 k
      by_cases e : k = 5 ∨ k = 55
      · rw [if_pos e]
      · rw [if_neg e]
        exact fU k (by intro q; apply hk; revert q; simp; omega)
    exact Rel_fr (f0.up (by decide)) (by rw [f0 54 (by decide)]) (by rw [f0 54 (by decide)]) (by rw [f0 42 (by decide)]) hR
  refine ⟨nI dn, T, U, ?_, fT 1 (by decide), fT 55 (by decide), ?_, uk 1 (by omega) (by omega) (by omega) (by omega) (by omega), fun j hj => u55 j (fun f _ => by omega), s1, s2, s3, s4, s5, Rel_city s0 ⟨s1, s2, s3, s4, s5⟩ (fun k h1 h2 => ?_)⟩
  · rw [fX5_letOut, a1, bV_some, a2, c9, a3, bV_some]
    exact t1
  · rw [fX6_lets, k1, bV_some]
    exact u1
  · show U.1 k = (if k = 5 ∨ k = 55 then S.1 k else U.1 k)
    rw [if_neg (by omega)]
theorem ok_let (d : Nat) (x z : Int32) : Ok2 (d + 9) 51 139 [.ref 0, .int x, .int z] [.ref 54, .int x, .int z] := by
  intro S hR
  obtain ⟨⟨nf, np, nt, nw, o, hs, hf, hp, ht, hx⟩, hI, hE, hSh, hV⟩ := id hR
  obtain ⟨b1, b2, b3, b4, b5, c0, w2, c5, w3, c14, w5, c17, w6, c9, c10, c11, c12, r4, r0⟩ := id hs
  by_cases h : 0 ≤ x ∧ x < nI nf
  · obtain ⟨f, hf1, rfl⟩ := i_rng (by omega) h.1 h.2
    by_cases hz : 1 ≤ z ∧ z ≤ 99
    · obtain ⟨y, y1, y2, rfl⟩ := rlo (n := 99) (by decide) (by decide) (Int32.not_lt.mpr hz.1) hz.2
      obtain ⟨r, A, U, a1, a2, a3, a4, _, _, _, _, _, _, _, a5⟩ := letBoth d hR hs hf hp ht hx hf1 ⟨y1, y2⟩
      refine ⟨r, A, U, ?_, ?_, a5⟩
      · rw [fX5_let, pC_isSay _ _ _ c0, bI_some, if_b2, if_pos ⟨h, hz⟩, a1, bI_some]
      · rw [fX6_let, pM_isF _ _ (show A.1 55 2 = nI nf by rw [a3]; exact w2) (by omega), bI_some, if_b2, if_pos h, pM_isSize, bI_some, if_b2, if_pos hz, a4, bI_some]
    · refine ⟨-1000000001, uI S 53 1 (S.1 53 1 + 1), EE 1 S, ?_, ?_, Rel_EE hR⟩
      · rw [fX5_let, pC_isSay _ _ _ c0, bI_some, if_b2, if_neg (fun q => hz q.2), pC_err1, bI_some]
      · rw [fX6_let, pM_isF _ _ (show (uI S 53 1 (S.1 53 1 + 1)).1 55 2 = nI nf from w2) (by omega), bI_some, if_b2, if_pos h, pM_isSize, bI_some, if_b2, if_neg hz, pM_err1, bI_some]
        rfl
  · refine ⟨-1000000001, uI S 53 1 (S.1 53 1 + 1), EE 1 S, ?_, ?_, Rel_EE hR⟩
    · rw [fX5_let, pC_isSay _ _ _ c0, bI_some, if_b2, if_neg (fun q => h q.1), pC_err1, bI_some]
    · rw [fX6_let, pM_isF _ _ (show (uI S 53 1 (S.1 53 1 + 1)).1 55 2 = nI nf from w2) (by omega), bI_some, if_b2, if_neg h, pM_err1, bI_some]
      rfl
