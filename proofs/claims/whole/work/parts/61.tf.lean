theorem tdep0 (f : Nat → Int32) : tdep f 0 = some 0 := rfl
/-- the class, from the beginning of the reading to the answer -/
theorem text_go (x : Nat) {S : MS} (hR : Rel S) {u q t b : Nat} (hu : UT u q t b) : ∃ (r : Int32) (A U : MS), mFn (x + 55) 46 [.ref 0, .int (nI u)] S = some (some (.int r), A) ∧ mFn (x + 55) 124 [.ref 54, .int (nI u)] A = some (some (.int r), U) ∧ Rel U := by
  obtain ⟨⟨nf, np, nt, nw, o, hs, hf, hp, ht, hx⟩, hI, hE, hSh, hV⟩ := id hR
  obtain ⟨b1, b2, b3, b4, b5, c0, w2, c5, w3, c14, w5, c17, w6, c9, c10, c11, c12, r4, r0⟩ := id hs
  have hq : QU q u := by
    rcases hu with ⟨rfl, rfl, _, _⟩ | ⟨rfl, rfl, _, _⟩
    · exact Or.inl ⟨rfl, rfl⟩
    · exact Or.inr ⟨rfl, rfl⟩
  have hb : b ≤ 280 ∧ 159 ≤ b := by rcases hu with ⟨_, _, _, rfl⟩ | ⟨_, _, _, rfl⟩ <;> decide
  have hu2 : u ≤ 1 := by rcases hu with ⟨rfl, _⟩ | ⟨rfl, _⟩ <;> decide
  have eb : fAdd 159 (fMul 121 (nI u)) = nI b := by rcases hu with ⟨rfl, _, _, rfl⟩ | ⟨rfl, _, _, rfl⟩ <;> decide
  have hbit : 0 ≤ nI u ∧ nI u ≤ 1 := ⟨nI_pos' (by omega), nI_le (a := u) (b := 1) hu2 (by decide)⟩
  have hτ : ∀ i, i < nt → ∃ c, c < 256 ∧ S.1 9 i = nI c := by
    intro i hi
    obtain ⟨e1, e2, e3⟩ := ht.1 i (by omega)
    obtain ⟨c, hc, ec⟩ := rlit 255 (n := 255) (by decide) (by decide) e2 e3
    exact ⟨c, by omega, by rw [← ec]; exact e1⟩
  have hτ2 : ∀ i, i < nt → S.1 55 (75 + i) = S.1 9 i := fun i hi => (ht.1 i (by omega)).1.symm
  obtain ⟨⟨a1, bb⟩, ⟨o1, o2, o3⟩, oC, oM⟩ := read_ok x (x + 10) (τ := S.1 9) hq b3 hτ 0 0 (fun _ => (0, 0, 0)) (Nat.le_refl _) (Nat.zero_le _)
  have o2 : a1 ≤ nt := o2
  -- the class
  have hCP : CP q nt (S.1 9) (uI (uI (uI (uR (uI (uR S 39 4 (some 9)) 39 5 (nI nt)) 39 8 (some q)) 39 6 0) 39 1 0) 39 7 0) 0 0 (fun _ => (0, 0, 0)) := by
    refine ⟨⟨⟨uI (uI (uI (uI S 39 5 (nI nt)) 39 6 0) 39 1 0) 39 7 0, rfl⟩, ?_, ?_, fun i hi => ?_⟩, ?_, ?_, fun i hi => absurd hi (Nat.not_lt_zero i)⟩
    · rw [uI_ni _ (by decide), uI_ni _ (by decide), uI_ni _ (by decide)]
      show (uI (uR S 39 4 (some 9)) 39 5 (nI nt)).1 39 5 = _
      exact uI_eq _ _ _ _
    · rw [uI_ni _ (by decide), uI_ni _ (by decide), uI_eq]
      rfl
    · rw [uI_oth (by decide), uI_oth (by decide), uI_oth (by decide)]
      show (uI (uR S 39 4 (some 9)) 39 5 (nI nt)).1 9 i = _
      rw [uI_oth (by decide)]
      rfl
    · rw [uI_eq]
    · rw [uI_ni _ (by decide), uI_eq]
      rfl
  have fCP : Fr [39, 40] S (uI (uI (uI (uR (uI (uR S 39 4 (some 9)) 39 5 (nI nt)) 39 8 (some q)) 39 6 0) 39 1 0) 39 7 0) := by
    intro k hk
    have hk : k ≠ 39 := by intro e; apply hk; rw [e]; decide
    rw [uI_oth hk, uI_oth hk, uI_oth hk]
    show (uI (uR S 39 4 (some 9)) 39 5 (nI nt)).1 k = _
    rw [uI_oth hk]
    rfl
  obtain ⟨C1, p1, p2, p3⟩ := oC _ hCP
  have fC1 : Fr [39, 40] S C1 := fCP.tr p3
  have cl := text_C x hu c14
  rw [show mFn (x + 53) 26 [.ref 39, .int 0, .int 0] (uI (uI (uI (uR (uI (uR S 39 4 (some 9)) 39 5 (nI nt)) 39 8 (some q)) 39 6 0) 39 1 0) 39 7 0) = some (none, C1) from p1, bV_some] at cl
  -- the model, from any state with such a row
  have ml : ∀ A : MS, Fr [1, 12, 13, 15, 16, 39, 40] S A → ∃ U, mFn (x + 54) 123 [.ref 54] (uI (uI (uI (uI (uI A 54 15 (nI u)) 54 11 0) 54 12 0) 54 13 0) 54 14 0) = some (none, U) ∧ MO u nt (S.1 9) 0 U (a1, bb) ∧ Fr [54, 61, 62] A U ∧ (∀ j, j ≠ 11 → j ≠ 12 → j ≠ 13 → j ≠ 14 → j ≠ 15 → U.1 54 j = A.1 54 j) := by
    intro A hA
    have e55 : A.1 55 = S.1 55 := hA 55 (by decide)
    obtain ⟨U, u1, u2, u3⟩ := oM (uI (uI (uI (uI (uI A 54 15 (nI u)) 54 11 0) 54 12 0) 54 13 0) 54 14 0) ⟨⟨by rw [uI_ni _ (by decide), uI_ni _ (by decide), uI_eq]; rfl, by rw [uI_ni _ (by decide), uI_ni _ (by decide), uI_ni _ (by decide), uI_ni _ (by decide), uI_eq], by rw [uI_oth (by decide), uI_oth (by decide), uI_oth (by decide), uI_oth (by decide), uI_oth (by decide), e55]; exact w5, fun i hi => by rw [uI_oth (by decide), uI_oth (by decide), uI_oth (by decide), uI_oth (by decide), uI_oth (by decide), e55]; exact hτ2 i hi⟩, by rw [uI_ni _ (by decide), uI_eq]; rfl, by rw [uI_eq], by rw [uI_ni _ (by decide), uI_ni _ (by decide), uI_ni _ (by decide), uI_eq]; rfl, fun i hi => absurd hi (Nat.not_lt_zero i)⟩
    refine ⟨U, u1, u2, (((((Fr.rf.put (by decide)).put (by decide)).put (by decide)).put (by decide)).put (by decide)).tr u3.1, fun j h1 h2 h3 h4 h5 => ?_⟩
    rw [u3.2 j h1 h2 h3 h4, uI_ni _ h4, uI_ni _ h3, uI_ni _ h2, uI_ni _ h1, uI_ni _ h5]
  have row : ∀ A : MS, mFn (x + 55) 124 [.ref 54, .int (nI u)] A = _ := fun A => fX6_text (x + 54) (nI u) A
  -- a text that can't be read
  have bad : ∀ A : MS, Fr [1, 12, 13, 15, 16, 39, 40] S A → (∀ j, j ≠ 14 → A.1 1 j = S.1 1 j) → A.1 1 14 = 0 → A.1 12 = S.1 12 → A.1 13 = S.1 13 → A.1 15 = S.1 15 → A.1 16 = S.1 16 → ∀ U V : MS, Fr [54, 61, 62] A U → (∀ j, j ≠ 11 → j ≠ 12 → j ≠ 13 → j ≠ 14 → j ≠ 15 → U.1 54 j = A.1 54 j) → V = uI (uI U 54 14 1) 55 5 0 → Rel V := by
    intro A hA hA1 hA14 e12 e13 e15 e16 U V hU hU54 eV
    subst eV
    have lo : ∀ j, j ≠ 5 → (uI (uI U 54 14 1) 55 5 0).1 55 j = S.1 55 j := fun j hj => by rw [uI_ni _ hj, uI_oth (by decide), hU 55 (by decide), hA 55 (by decide)]
    have ok : ∀ k, k ≠ 54 → k ≠ 55 → k ≠ 61 → k ≠ 62 → (uI (uI U 54 14 1) 55 5 0).1 k = A.1 k := fun k h1 h2 h3 h4 => by rw [uI_oth h2, uI_oth h1, hU k (by simp; omega)]
    refine Rel_text hR hs hf hp ht (((hA.up (by decide)).tr (hU.up (by decide))).put (by decide) |>.put (by decide)) (fun j hj => by rw [ok 1 (by decide) (by decide) (by decide) (by decide)]; exact hA1 j hj) (by rw [ok 1 (by decide) (by decide) (by decide) (by decide)]; exact hA14) ?_ ?_ (by rw [uI_eq]) (fun j h1 _ => lo j h1) (RT_c ?_ ?_ (fun k => ?_) (fun i h1 _ => lo i (by omega)) hx.1) (RT_c ?_ ?_ (fun k => ?_) (fun i h1 _ => lo i (by omega)) hx.2)
    · rw [uI_oth (by decide), uI_ni _ (by decide), hU54 2 (by decide) (by decide) (by decide) (by decide) (by decide), hA 54 (by decide)]
    · rw [uI_oth (by decide), uI_ni _ (by decide), hU54 20 (by decide) (by decide) (by decide) (by decide) (by decide), hA 54 (by decide)]
    · rw [ok 12 (by decide) (by decide) (by decide) (by decide), e12]
    · rw [ok 12 (by decide) (by decide) (by decide) (by decide), e12]
    · rw [ok 13 (by decide) (by decide) (by decide) (by decide), e13]
    · rw [ok 15 (by decide) (by decide) (by decide) (by decide), e15]
    · rw [ok 15 (by decide) (by decide) (by decide) (by decide), e15]
    · rw [ok 16 (by decide) (by decide) (by decide) (by decide), e16]
  -- the class's state after a text that can't be read
  have cst : ∀ A0 : MS, Fr [39, 40] S A0 → Fr [1, 12, 13, 15, 16, 39, 40] S (uI A0 1 14 0) ∧ (∀ j, j ≠ 14 → (uI A0 1 14 0).1 1 j = S.1 1 j) ∧ (uI A0 1 14 0).1 1 14 = 0 ∧ (uI A0 1 14 0).1 12 = S.1 12 ∧ (uI A0 1 14 0).1 13 = S.1 13 ∧ (uI A0 1 14 0).1 15 = S.1 15 ∧ (uI A0 1 14 0).1 16 = S.1 16 := by
    intro A0 h0
    exact ⟨(h0.up (by decide)).put (by decide), fun j hj => by rw [uI_ni _ hj, h0 1 (by decide)], uI_eq _ _ _ _, by rw [uI_oth (by decide), h0 12 (by decide)], by rw [uI_oth (by decide), h0 13 (by decide)], by rw [uI_oth (by decide), h0 15 (by decide)], by rw [uI_oth (by decide), h0 16 (by decide)]⟩
  have na : ¬ nI a1 < 0 := nI_pos (by omega)
  have n10 : ¬ (1 : Int32) = 0 := by decide
  cases bb with
  | none =>
    have p2 : CBd q nt (S.1 9) C1 a1 := p2
    obtain ⟨A0, fA0, cl2⟩ : ∃ A0, Fr [39, 40] S A0 ∧ mFn (x + 55) 46 [.ref 0, .int (nI u)] S = some (some (.int (fSub (-10) (nI a1))), uI A0 1 14 0) := by
      rw [p2.1.2.1, p2.1.2.2.1] at cl
      by_cases l : nI nt ≤ nI a1
      · rw [if_pos l, p2.2, if_neg n10, if_neg n10, bI_some, if_neg na] at cl
        exact ⟨_, fC1.put (by decide), cl⟩
      · rw [if_neg l, bI_some, if_neg na] at cl
        exact ⟨_, (fC1.put (by decide)).put (by decide), cl⟩
    obtain ⟨k1, k2, k3, k4, k5, k6, k7⟩ := cst A0 fA0
    obtain ⟨U, u1, u2, u3, u4⟩ := ml _ k1
    have u2 : MBd u nt (S.1 9) U a1 := u2
    refine ⟨_, _, _, cl2, ?_, bad _ k1 k2 k3 k4 k5 k6 k7 U _ u3 u4 rfl⟩
    rw [row, pM_in, bI_some, if_b2, if_pos hbit, u1, bV_some, if_neg (h14b u2.2.1), il5, cl5, u2.1.1]
  | some b' =>
    have p2 : CP q nt (S.1 9) C1 a1 b'.1 b'.2 := p2
    obtain ⟨g1, g2, g3, g4, g5⟩ := o3 b' rfl
    have g2 : b'.1 + 0 ≤ a1 + 0 := g2
    rw [p2.1.2.1, p2.1.2.2.1, p2.2.1] at cl
    by_cases l : nt ≤ a1
    · rw [if_pos (nI_le l (by omega)), if_pos rfl, if_pos rfl, bI_some, if_pos (by decide)] at cl
      have dep : tdep (acts b'.2) b'.1 = some 1 := g5 0 (tdep0 _)
      have npos : 1 ≤ b'.1 := by
        by_cases h : b'.1 = 0
        · rw [h, tdep0] at dep
          exact absurd (Option.some.inj dep) (by decide)
        · omega
      -- the class's end
      have zC : Fr [1, 39, 40] S (uI (uI C1 39 0 1) 1 14 0) := ((fC1.up (by decide)).put (by decide)).put (by decide)
      have z0 : (uI (uI C1 39 0 1) 1 14 0).1 39 0 = 1 := by rw [uI_oth (by decide), uI_eq]
      have z1 : (uI (uI C1 39 0 1) 1 14 0).1 39 1 = nI b'.1 := by rw [uI_oth (by decide), uI_ni _ (by decide)]; exact p2.2.2.1
      have z40 : ∀ i, i < b'.1 → (uI (uI C1 39 0 1) 1 14 0).1 40 i = (b'.2 i).1 := fun i hi => by rw [uI_oth (by decide), uI_oth (by decide)]; exact p2.2.2.2 i hi
      have z11 : ∀ j, j ≠ 14 → (uI (uI C1 39 0 1) 1 14 0).1 1 j = S.1 1 j := fun j hj => by rw [uI_ni _ hj, uI_oth (by decide), fC1 1 (by decide)]
      have z114 : (uI (uI C1 39 0 1) 1 14 0).1 1 14 = 0 := uI_eq _ _ _ _
      generalize uI (uI C1 39 0 1) 1 14 0 = Z at cl zC z0 z1 z40 z11 z114
      obtain ⟨A, cpA, fA, A1, At0, At1, Atk, Aoth⟩ : ∃ A, mFn (x + 54) 22 [.ref t, .ref 39] Z = some (none, A) ∧ Fr [12, 13, 15, 16] Z A ∧ A.1 1 = Z.1 1 ∧ A.1 t 0 = 1 ∧ A.1 t 1 = nI b'.1 ∧ (∀ k, k < b'.1 → A.1 (t + 1) k = (b'.2 k).1) ∧ (∀ k, (k = 12 ∨ k = 13 ∨ k = 15 ∨ k = 16) → k ≠ t → k ≠ t + 1 → A.1 k = Z.1 k) := by
        rcases hu with ⟨_, _, rfl, _⟩ | ⟨_, _, rfl, _⟩
        · refine ⟨_, cp12_39 _ Z z0, fun k hk => ?_, ?_, ?_, ?_, fun k hk => ?_, fun k hk h1 h2 => ?_⟩
          · rw [uC_oth (by intro e; apply hk; rw [e]; decide), uI_oth (by intro e; apply hk; rw [e]; decide), uI_oth (by intro e; apply hk; rw [e]; decide)]
          · rw [uC_oth (by decide), uI_oth (by decide), uI_oth (by decide)]
          · rw [uC_oth (by decide), uI_ni _ (by decide), uI_eq]
          · rw [uC_oth (by decide), uI_eq, z1]
          · rw [uC_in (show k < 60 by omega), uI_oth (by decide), uI_oth (by decide)]
            exact z40 k hk
          · rw [uC_oth h2, uI_oth h1, uI_oth h1]
        · refine ⟨_, cp15_39 _ Z z0, fun k hk => ?_, ?_, ?_, ?_, fun k hk => ?_, fun k hk h1 h2 => ?_⟩
          · rw [uC_oth (by intro e; apply hk; rw [e]; decide), uI_oth (by intro e; apply hk; rw [e]; decide), uI_oth (by intro e; apply hk; rw [e]; decide)]
          · rw [uC_oth (by decide), uI_oth (by decide), uI_oth (by decide)]
          · rw [uC_oth (by decide), uI_ni _ (by decide), uI_eq]
          · rw [uC_oth (by decide), uI_eq, z1]
          · rw [uC_in (show k < 60 by omega), uI_oth (by decide), uI_oth (by decide)]
            exact z40 k hk
          · rw [uC_oth h2, uI_oth h1, uI_oth h1]
      rw [cpA, bV_some] at cl
      have fSA : Fr [1, 12, 13, 15, 16, 39, 40] S A := (zC.up (by decide)).tr (fA.up (by decide))
      obtain ⟨U, u1, u2, u3, u4⟩ := ml A fSA
      have u2 : MP u nt (S.1 9) 0 U a1 b'.1 b'.2 := u2
      obtain ⟨V, v1, v2, v3, v4⟩ := textM (x + 54) hb.1 (show b'.1 ≤ 60 by omega) b'.1 0 (by omega) (uI (uI (uI U 54 14 0) 55 5 0) 55 b (nI b'.1)) (by rw [uI_oth (by decide), uI_oth (by decide), uI_ni _ (by decide)]; exact u2.2.2.2.1)
      refine ⟨1, A, V, cl, ?_, ?_⟩
      · rw [row, pM_in, bI_some, if_b2, if_pos hbit, u1, bV_some, if_pos u2.2.2.1, il5, cl5, u2.1.2.2.1, u2.1.1, if_pos (nI_le l (by omega)), if_neg (show ¬ ((5 : Int32) < 0 ∨ 401 ≤ (5 : Nat)) by decide), eb, if_in (show b < 401 by omega) (by omega), cN (show b ≤ 100000 by omega), u2.2.2.2.1]
        exact v1
      · have fUV : Fr [54, 55, 61, 62] A V := ((((u3.up (by decide)).put (by decide)).put (by decide)).put (by decide)).tr (v2.up (by decide))
        have vk : ∀ k, k ≠ 54 → k ≠ 55 → k ≠ 61 → k ≠ 62 → V.1 k = A.1 k := fun k h1 h2 h3 h4 => fUV k (by simp; omega)
        have v54 : ∀ j, j ≠ 11 → j ≠ 12 → j ≠ 13 → j ≠ 14 → j ≠ 15 → V.1 54 j = S.1 54 j := fun j h1 h2 h3 h4 h5 => by rw [v2 54 (by decide), uI_oth (by decide), uI_oth (by decide), uI_ni _ h4, u4 j h1 h2 h3 h4 h5, fSA 54 (by decide)]
        have v55 : ∀ j, j ≠ 5 → (j < b ∨ b + 121 ≤ j) → V.1 55 j = S.1 55 j := fun j h1 h2 => by
          rw [v4 j (fun k _ hk => ⟨by omega, by omega⟩), uI_ni _ (by omega), uI_ni _ h1, uI_oth (by decide), u3 55 (by decide), fSA 55 (by decide)]
        have vb : V.1 55 b = nI b'.1 := by rw [v4 b (fun k _ hk => ⟨by omega, by omega⟩), uI_eq]
        have newt : RT V.1 t 55 b := by
          have t54 : t ≠ 54 ∧ t ≠ 55 ∧ t ≠ 61 ∧ t ≠ 62 ∧ t + 1 ≠ 54 ∧ t + 1 ≠ 55 ∧ t + 1 ≠ 61 ∧ t + 1 ≠ 62 := by rcases hu with ⟨_, _, rfl, _⟩ | ⟨_, _, rfl, _⟩ <;> decide
          have ac : ∀ k, k < b'.1 → V.1 55 (b + 1 + k) = (b'.2 k).2.1 ∧ V.1 55 (b + 61 + k) = (b'.2 k).2.2 := fun k hk => by
            obtain ⟨q1, q2⟩ := v3 k (Nat.zero_le _) hk
            rw [uI_oth (by decide), uI_oth (by decide), uI_oth (by decide)] at q1 q2
            exact ⟨q1.trans (u2.2.2.2.2 k hk).1, q2.trans (u2.2.2.2.2 k hk).2⟩
          refine Or.inr ⟨by rw [vk t t54.1 t54.2.1 t54.2.2.1 t54.2.2.2.1]; exact At0, b'.1, npos, by omega, by rw [vk t t54.1 t54.2.1 t54.2.2.1 t54.2.2.2.1]; exact At1, vb, fun k hk => ?_, ?_⟩
          · rw [vk (t + 1) t54.2.2.2.2.1 t54.2.2.2.2.2.1 t54.2.2.2.2.2.2.1 t54.2.2.2.2.2.2.2, Atk k hk, (ac k hk).1, (ac k hk).2]
            exact g4 k (Nat.zero_le _) hk
          · rw [tdep_c (g := acts b'.2) b'.1 (fun k hk => (ac k hk).1)]
            exact dep
        have oldt : ∀ t' b'', ((t' = 12 ∧ b'' = 159) ∨ (t' = 15 ∧ b'' = 280)) → t' ≠ t → RT V.1 t' 55 b'' := by
          intro t' b'' h' ht'
          have tt : (t' = 12 ∨ t' = 13 ∨ t' = 15 ∨ t' = 16) ∧ t' ≠ t + 1 ∧ (t' + 1 = 12 ∨ t' + 1 = 13 ∨ t' + 1 = 15 ∨ t' + 1 = 16) ∧ t' + 1 ≠ t ∧ t' + 1 ≠ t + 1 := by
            rcases h' with ⟨rfl, _⟩ | ⟨rfl, _⟩ <;> rcases hu with ⟨_, _, rfl, _⟩ | ⟨_, _, rfl, _⟩ <;> simp at ht' ⊢
          have e1 : V.1 t' = S.1 t' := by rw [vk t' (by omega) (by omega) (by omega) (by omega), Aoth t' tt.1 ht' tt.2.1, zC t' (by simp; omega)]
          have e2 : V.1 (t' + 1) = S.1 (t' + 1) := by rw [vk (t' + 1) (by omega) (by omega) (by omega) (by omega), Aoth (t' + 1) tt.2.2.1 tt.2.2.2.1 tt.2.2.2.2, zC (t' + 1) (by simp; omega)]
          have old : RT S.1 t' 55 b'' := by
            rcases h' with ⟨rfl, rfl⟩ | ⟨rfl, rfl⟩
            · exact hx.1
            · exact hx.2
          refine RT_c (by rw [e1]) (by rw [e1]) (fun k => by rw [e2]) (fun i h1 h2 => v55 i (by omega) ?_) old
          rcases h' with ⟨rfl, rfl⟩ | ⟨rfl, rfl⟩ <;> rcases hu with ⟨_, _, rfl, rfl⟩ | ⟨_, _, rfl, rfl⟩ <;> simp at ht' <;> omega
        have both : RT V.1 12 55 159 ∧ RT V.1 15 55 280 := by
          rcases hu with ⟨_, _, rfl, rfl⟩ | ⟨_, _, rfl, rfl⟩
          · exact ⟨newt, oldt 15 280 (Or.inr ⟨rfl, rfl⟩) (by decide)⟩
          · exact ⟨oldt 12 159 (Or.inl ⟨rfl, rfl⟩) (by decide), newt⟩
        refine Rel_text hR hs hf hp ht ((fSA.up (by decide)).tr (fUV.up (by decide))) (fun j hj => by rw [vk 1 (by decide) (by decide) (by decide) (by decide), A1]; exact z11 j hj) (by rw [vk 1 (by decide) (by decide) (by decide) (by decide), A1]; exact z114) (v54 2 (by decide) (by decide) (by decide) (by decide) (by decide)) (v54 20 (by decide) (by decide) (by decide) (by decide) (by decide)) (by rw [v4 5 (fun k _ hk => ⟨by omega, by omega⟩), uI_ni _ (by omega), uI_eq]) (fun j h1 h2 => v55 j h1 (by omega)) both.1 both.2
    · rw [if_neg (nI_ge (by omega) (by omega)), bI_some, if_neg na] at cl
      obtain ⟨k1, k2, k3, k4, k5, k6, k7⟩ := cst (uI (uI C1 39 7 1) 39 0 0) ((fC1.put (by decide)).put (by decide))
      obtain ⟨U, u1, u2, u3, u4⟩ := ml _ k1
      have u2 : MP u nt (S.1 9) 0 U a1 b'.1 b'.2 := u2
      refine ⟨_, _, _, cl, ?_, bad _ k1 k2 k3 k4 k5 k6 k7 U _ u3 u4 rfl⟩
      rw [row, pM_in, bI_some, if_b2, if_pos hbit, u1, bV_some, if_pos u2.2.2.1, il5, cl5, u2.1.2.2.1, u2.1.1, if_neg (nI_ge (by omega) (by omega)), if_neg (show ¬ ((5 : Int32) < 0 ∨ 401 ≤ (5 : Nat)) by decide)]
theorem ok_text (x : Nat) (v : Int32) : Ok2 (x + 55) 46 124 [.ref 0, .int v] [.ref 54, .int v] := by
  intro S hR
  by_cases h : 0 ≤ v ∧ v ≤ 1
  · rcases le1 h.1 h.2 with rfl | rfl
    · exact text_go x hR (u := 0) (Or.inl ⟨rfl, rfl, rfl, rfl⟩)
    · exact text_go x hR (u := 1) (Or.inr ⟨rfl, rfl, rfl, rfl⟩)
  · refine ⟨-1000000001, uI S 53 1 (S.1 53 1 + 1), EE 1 S, ?_, ?_, Rel_EE hR⟩
    · rw [fX5_text, pC_isBit, bI_some, if_b2, if_neg h, pC_err1, bI_some]
    · rw [fX6_text, pM_in, bI_some, if_b2, if_neg h, pM_err1, bI_some]
      rfl
