/-! ===== calls: sheet, put, talks ===== -/
theorem four {s : Nat} (h : s < 4) : s = 0 ∨ s = 1 ∨ s = 2 ∨ s = 3 := by omega
theorem rv44 {s : Nat} (h : s < 4) (S : MS) : rv S 44 s = some (45 + 2 * s) := by
  rcases four h with rfl | rfl | rfl | rfl <;> rfl
theorem rvN {s : Nat} (h : s < 4) (S : MS) : rv S (45 + 2 * s) 2 = some (46 + 2 * s) := by
  rcases four h with rfl | rfl | rfl | rfl <;> rfl
theorem kO2 {s : Nat} (h : s < 4) : kO (45 + 2 * s) 2 = true := by
  rcases four h with rfl | rfl | rfl | rfl <;> rfl
theorem kA2 {s : Nat} (h : s < 4) : kA (46 + 2 * s) = true := by
  rcases four h with rfl | rfl | rfl | rfl <;> rfl
theorem ki2 {s : Nat} (h : s < 4) : (ki (46 + 2 * s)).2 = 24 := by
  rcases four h with rfl | rfl | rfl | rfl <;> rfl
theorem miss {s : Nat} (h : s < 4) (d : Nat) (S : MS) : mFn (d + 1) 15 [.ref (45 + 2 * s)] S = some (some (.int (b2 (S.1 (45 + 2 * s) 0 = 0))), S) := by
  have g : mFn (d + 1) 15 [.ref (45 + 2 * s)] S = if S.1 (45 + 2 * s) 0 = 0 then some (some (.int 1), S) else some (some (.int 0), S) := by
    rcases four h with rfl | rfl | rfl | rfl
    · exact fX2_isMissing_0 d S
    · exact fX2_isMissing_1 d S
    · exact fX2_isMissing_2 d S
    · exact fX2_isMissing_3 d S
  rw [g]
  by_cases e : S.1 (45 + 2 * s) 0 = 0
  · rw [if_pos e, b2_pos e]
  · rw [if_neg e, b2_neg e]
def lowb (w x : Int32) : Int32 := if w = 8 then x.toInt8.toInt32 else if w = 16 then x.toInt16.toInt32 else x
theorem lowC {s : Nat} (h : s < 4) (d : Nat) (x : Int32) (S : MS) : mFn (d + 1) 17 [.ref (45 + 2 * s), .int x] S = some (some (.int (lowb (S.1 (45 + 2 * s) 0) x)), S) := by
  have g : mFn (d + 1) 17 [.ref (45 + 2 * s), .int x] S = if S.1 (45 + 2 * s) 0 = 8 then some (some (.int x.toInt8.toInt32), S) else if S.1 (45 + 2 * s) 0 = 16 then some (some (.int x.toInt16.toInt32), S) else some (some (.int x), S) := by
    rcases four h with rfl | rfl | rfl | rfl
    · exact fX2_lowestBits_0 d x S
    · exact fX2_lowestBits_1 d x S
    · exact fX2_lowestBits_2 d x S
    · exact fX2_lowestBits_3 d x S
  rw [g]
  unfold lowb
  by_cases e : S.1 (45 + 2 * s) 0 = 8
  · rw [if_pos e, if_pos e]
  · rw [if_neg e, if_neg e]
    by_cases e2 : S.1 (45 + 2 * s) 0 = 16
    · rw [if_pos e2, if_pos e2]
    · rw [if_neg e2, if_neg e2]
theorem i24 (s i : Nat) : fAdd (fMul 24 (nI s)) (nI i) = nI (24 * s + i) := by
  rw [show fMul 24 (nI s) = nI (24 * s) from fm_nn 24 s, fa_nn]
theorem Rel_sh {S S' : MS} (hR : Rel S) (hS : RS S'.1) (g : ∀ k, (k < 45 ∨ (53 ≤ k ∧ k < 58) ∨ 60 < k) → S'.1 k = S.1 k) : Rel S' := by
  obtain ⟨⟨nf, np, nt, nw, o, hc⟩, hI, hE, _, hV⟩ := hR
  refine ⟨⟨nf, np, nt, nw, o, RC_c (fun k hk => g k (by have := hk.1; have := hk.2.1; omega)) (g 55 (by omega)) hc⟩, ⟨?_, ?_⟩, ?_, hS, ?_⟩
  · rw [g 0 (by omega), g 54 (by omega)]; exact hI.1
  · rw [g 0 (by omega)]
    rcases hI.2 with e | ⟨a1, a2, a3, a4, a5, e⟩
    · exact Or.inl e
    · exact Or.inr ⟨a1, a2, a3, a4, a5, RC_c (fun k hk => g k (by have := hk.1; have := hk.2.1; omega)) (g 56 (by omega)) e⟩
  · intro k hk
    rw [g 53 (by omega), g 57 (by omega)]
    exact hE k hk
  · obtain ⟨n, v1, v2, v3, v4⟩ := hV
    refine ⟨n, v1, ?_, ?_, fun i hi => ?_⟩
    · rw [g 42 (by omega)]; exact v2
    · rw [g 54 (by omega)]; exact v3
    · rw [g 43 (by omega), g 68 (by omega)]; exact v4 i hi
theorem bg_go0 (d : Nat) : ∀ n i, i + n = 24 → ∀ S : MS, ∃ T, mv (kX2_begin (mFn d)) 12 [(0, .ref 45), (3, .int (nI i))] [] S = some (none, T) ∧ (∀ k, k ≠ 46 → T.1 k = S.1 k) ∧ ∀ j, T.1 46 j = if i ≤ j ∧ j < 24 then 0 else S.1 46 j := by
  intro n
  induction n with
  | zero =>
    intro i hi S
    refine ⟨S, ?_, fun _ _ => rfl, fun j => by rw [if_neg (by omega)]⟩
    rw [lX2_begin_0_12, if_pos (show (24 : Int32) ≤ nI i from nI_le (a := 24) (b := i) (by omega) (by omega))]
  | succ n ih =>
    intro i hi S
    obtain ⟨T, g1, g2, g3⟩ := ih (i + 1) (by omega) (uI S 46 i 0)
    refine ⟨T, ?_, fun k hk => by rw [g2 k hk, uI_oth hk], fun j => ?_⟩
    · rw [lX2_begin_0_12, if_neg (show ¬ (24 : Int32) ≤ nI i from nI_ge (a := i) (b := 24) (by omega) (by decide)), if_in (by omega) (by omega), cN (by omega), add1]
      exact g1
    · rw [g3 j]
      by_cases hj : j = i
      · subst hj
        rw [if_neg (by omega), if_pos ⟨Nat.le_refl _, by omega⟩, uI_eq]
      · rw [uI_ni _ hj]
        by_cases h2 : i + 1 ≤ j ∧ j < 24
        · rw [if_pos h2, if_pos ⟨by omega, h2.2⟩]
        · rw [if_neg h2, if_neg (by omega)]
theorem bg_go1 (d : Nat) : ∀ n i, i + n = 24 → ∀ S : MS, ∃ T, mv (kX2_begin (mFn d)) 12 [(0, .ref 47), (3, .int (nI i))] [] S = some (none, T) ∧ (∀ k, k ≠ 48 → T.1 k = S.1 k) ∧ ∀ j, T.1 48 j = if i ≤ j ∧ j < 24 then 0 else S.1 48 j := by
  intro n
  induction n with
  | zero =>
    intro i hi S
    refine ⟨S, ?_, fun _ _ => rfl, fun j => by rw [if_neg (by omega)]⟩
    rw [lX2_begin_1_12, if_pos (show (24 : Int32) ≤ nI i from nI_le (a := 24) (b := i) (by omega) (by omega))]
  | succ n ih =>
    intro i hi S
    obtain ⟨T, g1, g2, g3⟩ := ih (i + 1) (by omega) (uI S 48 i 0)
    refine ⟨T, ?_, fun k hk => by rw [g2 k hk, uI_oth hk], fun j => ?_⟩
    · rw [lX2_begin_1_12, if_neg (show ¬ (24 : Int32) ≤ nI i from nI_ge (a := i) (b := 24) (by omega) (by decide)), if_in (by omega) (by omega), cN (by omega), add1]
      exact g1
    · rw [g3 j]
      by_cases hj : j = i
      · subst hj
        rw [if_neg (by omega), if_pos ⟨Nat.le_refl _, by omega⟩, uI_eq]
      · rw [uI_ni _ hj]
        by_cases h2 : i + 1 ≤ j ∧ j < 24
        · rw [if_pos h2, if_pos ⟨by omega, h2.2⟩]
        · rw [if_neg h2, if_neg (by omega)]
theorem bg_go2 (d : Nat) : ∀ n i, i + n = 24 → ∀ S : MS, ∃ T, mv (kX2_begin (mFn d)) 12 [(0, .ref 49), (3, .int (nI i))] [] S = some (none, T) ∧ (∀ k, k ≠ 50 → T.1 k = S.1 k) ∧ ∀ j, T.1 50 j = if i ≤ j ∧ j < 24 then 0 else S.1 50 j := by
  intro n
  induction n with
  | zero =>
    intro i hi S
    refine ⟨S, ?_, fun _ _ => rfl, fun j => by rw [if_neg (by omega)]⟩
    rw [lX2_begin_2_12, if_pos (show (24 : Int32) ≤ nI i from nI_le (a := 24) (b := i) (by omega) (by omega))]
  | succ n ih =>
    intro i hi S
    obtain ⟨T, g1, g2, g3⟩ := ih (i + 1) (by omega) (uI S 50 i 0)
    refine ⟨T, ?_, fun k hk => by rw [g2 k hk, uI_oth hk], fun j => ?_⟩
    · rw [lX2_begin_2_12, if_neg (show ¬ (24 : Int32) ≤ nI i from nI_ge (a := i) (b := 24) (by omega) (by decide)), if_in (by omega) (by omega), cN (by omega), add1]
      exact g1
    · rw [g3 j]
      by_cases hj : j = i
      · subst hj
        rw [if_neg (by omega), if_pos ⟨Nat.le_refl _, by omega⟩, uI_eq]
      · rw [uI_ni _ hj]
        by_cases h2 : i + 1 ≤ j ∧ j < 24
        · rw [if_pos h2, if_pos ⟨by omega, h2.2⟩]
        · rw [if_neg h2, if_neg (by omega)]
theorem bg_go3 (d : Nat) : ∀ n i, i + n = 24 → ∀ S : MS, ∃ T, mv (kX2_begin (mFn d)) 12 [(0, .ref 51), (3, .int (nI i))] [] S = some (none, T) ∧ (∀ k, k ≠ 52 → T.1 k = S.1 k) ∧ ∀ j, T.1 52 j = if i ≤ j ∧ j < 24 then 0 else S.1 52 j := by
  intro n
  induction n with
  | zero =>
    intro i hi S
    refine ⟨S, ?_, fun _ _ => rfl, fun j => by rw [if_neg (by omega)]⟩
    rw [lX2_begin_3_12, if_pos (show (24 : Int32) ≤ nI i from nI_le (a := 24) (b := i) (by omega) (by omega))]
  | succ n ih =>
    intro i hi S
    obtain ⟨T, g1, g2, g3⟩ := ih (i + 1) (by omega) (uI S 52 i 0)
    refine ⟨T, ?_, fun k hk => by rw [g2 k hk, uI_oth hk], fun j => ?_⟩
    · rw [lX2_begin_3_12, if_neg (show ¬ (24 : Int32) ≤ nI i from nI_ge (a := i) (b := 24) (by omega) (by decide)), if_in (by omega) (by omega), cN (by omega), add1]
      exact g1
    · rw [g3 j]
      by_cases hj : j = i
      · subst hj
        rw [if_neg (by omega), if_pos ⟨Nat.le_refl _, by omega⟩, uI_eq]
      · rw [uI_ni _ hj]
        by_cases h2 : i + 1 ≤ j ∧ j < 24
        · rw [if_pos h2, if_pos ⟨by omega, h2.2⟩]
        · rw [if_neg h2, if_neg (by omega)]
theorem begC {s : Nat} (h : s < 4) (d : Nat) (a b : Int32) (S : MS) : ∃ T, mFn (d + 1) 14 [.ref (45 + 2 * s), .int a, .int b] S = some (none, T) ∧ (∀ k, k ≠ 45 + 2 * s → k ≠ 46 + 2 * s → T.1 k = S.1 k) ∧ T.1 (45 + 2 * s) 0 = a ∧ T.1 (45 + 2 * s) 1 = b ∧ ∀ j, j < 24 → T.1 (46 + 2 * s) j = 0 := by
  rcases four h with rfl | rfl | rfl | rfl
  · obtain ⟨T, g1, g2, g3⟩ := bg_go0 d 24 0 (by omega) (uI (uI S 45 0 a) 45 1 b)
    exact ⟨T, (fX2_begin_0 d a b S).trans g1, fun k h1 h2 => by rw [g2 k h2, uI_oth h1, uI_oth h1], by rw [g2 _ (by decide), uI_ni _ (by decide), uI_eq], by rw [g2 _ (by decide), uI_eq], fun j hj => by rw [g3, if_pos ⟨Nat.zero_le _, hj⟩]⟩
  · obtain ⟨T, g1, g2, g3⟩ := bg_go1 d 24 0 (by omega) (uI (uI S 47 0 a) 47 1 b)
    exact ⟨T, (fX2_begin_1 d a b S).trans g1, fun k h1 h2 => by rw [g2 k h2, uI_oth h1, uI_oth h1], by rw [g2 _ (by decide), uI_ni _ (by decide), uI_eq], by rw [g2 _ (by decide), uI_eq], fun j hj => by rw [g3, if_pos ⟨Nat.zero_le _, hj⟩]⟩
  · obtain ⟨T, g1, g2, g3⟩ := bg_go2 d 24 0 (by omega) (uI (uI S 49 0 a) 49 1 b)
    exact ⟨T, (fX2_begin_2 d a b S).trans g1, fun k h1 h2 => by rw [g2 k h2, uI_oth h1, uI_oth h1], by rw [g2 _ (by decide), uI_ni _ (by decide), uI_eq], by rw [g2 _ (by decide), uI_eq], fun j hj => by rw [g3, if_pos ⟨Nat.zero_le _, hj⟩]⟩
  · obtain ⟨T, g1, g2, g3⟩ := bg_go3 d 24 0 (by omega) (uI (uI S 51 0 a) 51 1 b)
    exact ⟨T, (fX2_begin_3 d a b S).trans g1, fun k h1 h2 => by rw [g2 k h2, uI_oth h1, uI_oth h1], by rw [g2 _ (by decide), uI_ni _ (by decide), uI_eq], by rw [g2 _ (by decide), uI_eq], fun j hj => by rw [g3, if_pos ⟨Nat.zero_le _, hj⟩]⟩
theorem clr (d : Nat) {s : Nat} (hs : s < 4) : ∀ n i, i + n = 24 → ∀ S : MS, ∃ T, mv (kX6_sheet (mFn d)) 93 [(0, .ref 54), (1, .int (nI s)), (4, .int (nI i))] [] S = some (some (.int 1), T) ∧ (∀ k, k ≠ 60 → T.1 k = S.1 k) ∧ ∀ j, T.1 60 j = if 24 * s + i ≤ j ∧ j < 24 * s + 24 then 0 else S.1 60 j := by
  intro n
  induction n with
  | zero =>
    intro i hi S
    refine ⟨S, ?_, fun _ _ => rfl, fun j => by rw [if_neg (by omega)]⟩
    rw [lX6_sheet_93, if_pos (show (24 : Int32) ≤ nI i from nI_le (a := 24) (b := i) (by omega) (by omega))]
  | succ n ih =>
    intro i hi S
    obtain ⟨T, g1, g2, g3⟩ := ih (i + 1) (by omega) (uI S 60 (24 * s + i) 0)
    refine ⟨T, ?_, fun k hk => by rw [g2 k hk, uI_oth hk], fun j => ?_⟩
    · rw [lX6_sheet_93, if_neg (show ¬ (24 : Int32) ≤ nI i from nI_ge (a := i) (b := 24) (by omega) (by decide)), i24, if_in (by omega) (by omega), cN (by omega), add1]
      exact g1
    · rw [g3 j]
      by_cases hj : j = 24 * s + i
      · subst hj
        rw [if_neg (by omega), if_pos ⟨Nat.le_refl _, by omega⟩, uI_eq]
      · rw [uI_ni _ hj]
        by_cases h2 : 24 * s + (i + 1) ≤ j ∧ j < 24 * s + 24
        · rw [if_pos h2, if_pos ⟨by omega, h2.2⟩]
        · rw [if_neg h2, if_neg (by omega)]
theorem sheet_end (d : Nat) {S T : MS} {s n : Nat} {a : Int32} (hs : s < 4) (hR : Rel S) (ha : a = 0 ∨ a = 8 ∨ a = 16 ∨ a = 32) (hn : n ≤ 24) (h0 : a = 0 → n = 0) (t1 : ∀ k, k ≠ 45 + 2 * s → k ≠ 46 + 2 * s → T.1 k = S.1 k) (t2 : T.1 (45 + 2 * s) 0 = a) (t3 : T.1 (45 + 2 * s) 1 = nI n) (t4 : ∀ j, j < 24 → T.1 (46 + 2 * s) j = 0) : ∃ U, mv (kX6_sheet (mFn d)) 93 [(0, .ref 54), (1, .int (nI s)), (4, .int 0)] [] (uI (uI T 58 s a) 59 s (nI n)) = some (some (.int 1), U) ∧ Rel U := by
  obtain ⟨U, k1, k2, k3⟩ := clr d hs 24 0 (by omega) (uI (uI T 58 s a) 59 s (nI n))
  have hSh := hR.2.2.2.1
  refine ⟨U, k1, Rel_sh hR (fun r hr => ?_) (fun k hk => ?_)⟩
  · by_cases hrs : r = s
    · subst hrs
      refine ⟨?_, ?_, ?_, ⟨n, hn, ?_, fun z => h0 ?_⟩, fun i hi => ?_⟩
      · rw [k2 _ (by omega), k2 58 (by omega), uI_oth (by omega), uI_oth (by omega), uI_oth (by omega), uI_eq, t2]
      · rw [k2 _ (by omega), k2 59 (by omega), uI_oth (by omega), uI_oth (by omega), uI_eq, t3]
      · rw [k2 58 (by omega), uI_oth (by omega), uI_eq]
        exact ha
      · rw [k2 59 (by omega), uI_eq]
      · rw [k2 58 (by omega), uI_oth (by omega), uI_eq] at z
        exact z
      · rw [k2 _ (by omega), uI_oth (by omega), uI_oth (by omega), t4 i hi, k3, if_pos ⟨by omega, by omega⟩]
    · obtain ⟨q1, q2, q3, q4, q5⟩ := hSh r hr
      have c58 : U.1 58 r = S.1 58 r := by rw [k2 58 (by omega), uI_oth (by omega), uI_ni _ hrs, t1 58 (by omega) (by omega)]
      have c59 : U.1 59 r = S.1 59 r := by rw [k2 59 (by omega), uI_ni _ hrs, uI_oth (by omega), t1 59 (by omega) (by omega)]
      have cs : U.1 (45 + 2 * r) = S.1 (45 + 2 * r) := by rw [k2 _ (by omega), uI_oth (by omega), uI_oth (by omega), t1 _ (by omega) (by omega)]
      have cn : U.1 (46 + 2 * r) = S.1 (46 + 2 * r) := by rw [k2 _ (by omega), uI_oth (by omega), uI_oth (by omega), t1 _ (by omega) (by omega)]
      rw [c58, c59, cs, cn]
      refine ⟨q1, q2, q3, q4, fun i hi => ?_⟩
      rw [k3, if_neg (by omega), uI_oth (by omega), uI_oth (by omega), t1 60 (by omega) (by omega)]
      exact q5 i hi
  · rw [k2 k (by omega), uI_oth (by omega), uI_oth (by omega), t1 k (by omega) (by omega)]
theorem ok_sheet (d : Nat) (x a b : Int32) : Ok2 (d + 4) 61 163 [.ref 0, .int x, .int a, .int b] [.ref 54, .int x, .int a, .int b] := by
  intro S hR
  obtain ⟨⟨nf, np, nt, nw, o, hs, hf, hp, ht, hx⟩, hI, hE, hSh, hV⟩ := id hR
  obtain ⟨b1, b2, b3, b4, b5, c0, w2, c5, w3, c14, w5, c17, w6, c9, c10, c11, c12, r4, r0⟩ := id hs
  by_cases h : 0 ≤ x ∧ x ≤ 3
  · obtain ⟨s, hs3, rfl⟩ := rlit 3 (n := 3) (by decide) (by decide) h.1 h.2
    have hs4 : s < 4 := by omega
    by_cases ha : a = 0 ∨ a = 8 ∨ a = 16 ∨ a = 32
    · by_cases ha0 : a = 0
      · subst ha0
        obtain ⟨T, g1, g2, g3, g4, g5⟩ := begC hs4 (d + 2) 0 0 S
        obtain ⟨U, k1, k2⟩ := sheet_end (d + 3) (n := 0) hs4 hR (Or.inl rfl) (by omega) (fun _ => rfl) g2 g3 g4 g5
        refine ⟨1, T, U, ?_, ?_, k2⟩
        · rw [fX5_sheet, pC_isSheet, bI_some, if_b2, if_pos h]
          simp only [if_in2 hs4 (show 4 ≤ 1000 by decide), cN (show s ≤ 100000 by omega), rv44 hs4, kO2 hs4, Bool.and_true, cond_true, reduceIte, show mFn (d + 3) 14 [.ref (45 + 2 * s), .int 0, .int 0] S = _ from g1, bV_some]
        · rw [fX6_sheet, pM_isSheet, bI_some, if_b2, if_pos h]
          simp only [if_in2 hs4 (show 4 ≤ 1000 by decide), cN (show s ≤ 100000 by omega), reduceIte, show (0 : Int32) ≤ 0 from by decide]
          exact k1
      · have hn0 : ¬ a ≤ 0 := by
          rcases ha with rfl | rfl | rfl | rfl
          · exact absurd rfl ha0
          · decide
          · decide
          · decide
        by_cases hb0 : 0 ≤ b
        · by_cases hb1 : b ≤ 24
          · obtain ⟨n, hn, rfl⟩ := rlit 24 (n := 24) (by decide) (by decide) hb0 hb1
            obtain ⟨T, g1, g2, g3, g4, g5⟩ := begC hs4 (d + 2) a (nI n) S
            obtain ⟨U, k1, k2⟩ := sheet_end (d + 3) (n := n) hs4 hR ha hn (fun z => absurd z ha0) g2 g3 g4 g5
            refine ⟨1, T, U, ?_, ?_, k2⟩
            · rw [fX5_sheet, pC_isSheet, bI_some, if_b2, if_pos h]
              simp only [if_in2 hs4 (show 4 ≤ 1000 by decide), cN (show s ≤ 100000 by omega), rv44 hs4, kO2 hs4, Bool.and_true, cond_true, ha0, hb0, hb1, if_true, if_false, show mFn (d + 3) 14 [.ref (45 + 2 * s), .int a, .int (nI n)] S = _ from g1, bV_some]
              rcases ha with e | e | e | e
              · exact absurd e ha0
              · simp only [e, if_true]
              · simp only [e, if_true, ite_self]
              · simp only [e, if_true, ite_self]
            · rw [fX6_sheet, pM_isSheet, bI_some, if_b2, if_pos h]
              simp only [if_in2 hs4 (show 4 ≤ 1000 by decide), cN (show s ≤ 100000 by omega), ha0, hb0, hb1, hn0, if_true, if_false, k1]
              rcases ha with e | e | e | e
              · exact absurd e ha0
              · simp only [e, if_true]
              · simp only [e, if_true, ite_self]
              · simp only [e, if_true, ite_self]
          · refine ⟨-1000000001, uI S 53 1 (S.1 53 1 + 1), EE 1 S, ?_, ?_, Rel_EE hR⟩
            · rw [fX5_sheet, pC_isSheet, bI_some, if_b2, if_pos h]
              simp only [ha0, hb0, hb1, if_true, if_false, pC_err1, bI_some, ite_self]
            · rw [fX6_sheet, pM_isSheet, bI_some, if_b2, if_pos h]
              simp only [ha0, hb0, hb1, hn0, if_true, if_false, pM_err1, bI_some, ite_self]
              rfl
        · rcases ha with e | e | e | e
          · exact absurd e ha0
          · subst e
            refine ⟨-1000000003, uI S 53 3 (S.1 53 3 + 1), EE 3 S, ?_, ?_, Rel_EE hR⟩
            · rw [fX5_sheet, pC_isSheet, bI_some, if_b2, if_pos h]
              simp only [ha0, hb0, if_true, if_false, pC_err3, bI_some]
            · rw [fX6_sheet, pM_isSheet, bI_some, if_b2, if_pos h]
              simp only [ha0, hb0, hn0, if_true, if_false, pM_err3, bI_some]
              rfl
          · subst e
            refine ⟨-1000000003, uI S 53 3 (S.1 53 3 + 1), EE 3 S, ?_, ?_, Rel_EE hR⟩
            · rw [fX5_sheet, pC_isSheet, bI_some, if_b2, if_pos h]
              simp only [ha0, hb0, if_true, if_false, pC_err3, bI_some, show ¬ ((16 : Int32) = 8) from by decide]
            · rw [fX6_sheet, pM_isSheet, bI_some, if_b2, if_pos h]
              simp only [ha0, hb0, hn0, if_true, if_false, pM_err3, bI_some, show ¬ ((16 : Int32) = 8) from by decide]
              rfl
          · subst e
            refine ⟨-1000000003, uI S 53 3 (S.1 53 3 + 1), EE 3 S, ?_, ?_, Rel_EE hR⟩
            · rw [fX5_sheet, pC_isSheet, bI_some, if_b2, if_pos h]
              simp only [ha0, hb0, if_true, if_false, pC_err3, bI_some, show ¬ ((32 : Int32) = 8) from by decide, show ¬ ((32 : Int32) = 16) from by decide]
            · rw [fX6_sheet, pM_isSheet, bI_some, if_b2, if_pos h]
              simp only [ha0, hb0, hn0, if_true, if_false, pM_err3, bI_some, show ¬ ((32 : Int32) = 8) from by decide, show ¬ ((32 : Int32) = 16) from by decide]
              rfl
    · simp only [not_or] at ha
      obtain ⟨z0, z8, z16, z32⟩ := ha
      refine ⟨-1000000001, uI S 53 1 (S.1 53 1 + 1), EE 1 S, ?_, ?_, Rel_EE hR⟩
      · rw [fX5_sheet, pC_isSheet, bI_some, if_b2, if_pos h]
        simp only [z0, z8, z16, z32, if_false, pC_err1, bI_some]
      · rw [fX6_sheet, pM_isSheet, bI_some, if_b2, if_pos h]
        simp only [z0, z8, z16, z32, if_false, pM_err1, bI_some]
        rfl
  · refine ⟨-1000000001, uI S 53 1 (S.1 53 1 + 1), EE 1 S, ?_, ?_, Rel_EE hR⟩
    · rw [fX5_sheet, pC_isSheet, bI_some, if_b2, if_neg h, pC_err1, bI_some]
    · rw [fX6_sheet, pM_isSheet, bI_some, if_b2, if_neg h, pM_err1, bI_some]
      rfl
