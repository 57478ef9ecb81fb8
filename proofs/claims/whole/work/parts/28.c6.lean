/-! ===== calls: image, restore ===== -/
theorem uC_in {S : MS} {a k n j : Nat} (h : j < n) : (uC S a k 0 0 n).1 k j = S.1 a j := by
  show (if k = k then va_cpy (S.1 a) (S.1 k) 0 0 n j else S.1 k j) = _
  rw [if_pos rfl]
  show (if 0 ≤ j ∧ j < 0 + n then S.1 a (0 + (j - 0)) else S.1 k j) = _
  rw [if_pos ⟨Nat.zero_le _, by omega⟩, Nat.zero_add, Nat.sub_zero]
def Cp (b c : Nat) (S T : MS) : Prop := (∀ j, (j = 0 ∨ j = 5 ∨ j = 9 ∨ j = 10 ∨ j = 11 ∨ j = 12 ∨ j = 14 ∨ j = 17) → T.1 b j = S.1 c j) ∧ (∀ i j, 1 ≤ i → i ≤ 4 → j < 8 → T.1 (b + i) j = S.1 (c + i) j) ∧ (∀ i j, 5 ≤ i → i ≤ 7 → j < 9 → T.1 (b + i) j = S.1 (c + i) j) ∧ (∀ j, j < 60 → T.1 (b + 8) j = S.1 (c + 8) j) ∧ (∀ j, j < 24 → T.1 (b + 9) j = S.1 (c + 9) j) ∧ (∀ i j, (i = 11 ∨ i = 14) → j < 2 → T.1 (b + i) j = S.1 (c + i) j) ∧ (∀ i j, (i = 12 ∨ i = 15) → j < 60 → T.1 (b + i) j = S.1 (c + i) j) ∧ (∀ k, (k < b ∨ b + 17 ≤ k) → T.1 k = S.1 k)
theorem l8 : ((8 : Int32)).toNatClampNeg = 8 := by decide
theorem l9 : ((9 : Int32)).toNatClampNeg = 9 := by decide
theorem l60 : ((60 : Int32)).toNatClampNeg = 60 := by decide
theorem l24 : ((24 : Int32)).toNatClampNeg = 24 := by decide
theorem cp12_29 (d : Nat) (S : MS) (h : S.1 29 0 = 0 ∨ S.1 29 0 = 1) : mFn (d + 1) 22 [.ref 12, .ref 29] S = some (none, uC (uI (uI S 12 0 (S.1 29 0)) 12 1 (S.1 29 1)) 30 13 0 0 60) := by
  rw [fX4_copyFrom_12_29, if_pos h, if_neg (by decide), cl0, l60]
theorem cp15_32 (d : Nat) (S : MS) (h : S.1 32 0 = 0 ∨ S.1 32 0 = 1) : mFn (d + 1) 22 [.ref 15, .ref 32] S = some (none, uC (uI (uI S 15 0 (S.1 32 0)) 15 1 (S.1 32 1)) 33 16 0 0 60) := by
  rw [fX4_copyFrom_15_32, if_pos h, if_neg (by decide), cl0, l60]
theorem cp29_12 (d : Nat) (S : MS) (h : S.1 12 0 = 0 ∨ S.1 12 0 = 1) : mFn (d + 1) 22 [.ref 29, .ref 12] S = some (none, uC (uI (uI S 29 0 (S.1 12 0)) 29 1 (S.1 12 1)) 13 30 0 0 60) := by
  rw [fX4_copyFrom_29_12, if_pos h, if_neg (by decide), cl0, l60]
theorem cp32_15 (d : Nat) (S : MS) (h : S.1 15 0 = 0 ∨ S.1 15 0 = 1) : mFn (d + 1) 22 [.ref 32, .ref 15] S = some (none, uC (uI (uI S 32 0 (S.1 15 0)) 32 1 (S.1 15 1)) 16 33 0 0 60) := by
  rw [fX4_copyFrom_32_15, if_pos h, if_neg (by decide), cl0, l60]
theorem cpy_a (d : Nat) (S : MS) (h1 : S.1 29 0 = 0 ∨ S.1 29 0 = 1) (h2 : S.1 32 0 = 0 ∨ S.1 32 0 = 1) : ∃ T, mFn (d + 2) 7 [.ref 1, .ref 18] S = some (none, T) ∧ Cp 1 18 S T := by
  rw [fX0_copyFrom_a, if_neg (by decide), if_neg (by decide), if_neg (by decide), if_neg (by decide), if_neg (by decide), if_neg (by decide), if_neg (by decide), if_neg (by decide), cl0, l8, l9, l60, l24, cp12_29 d _ (by simp (disch := omega) only [Nat.reduceAdd, uI_oth, uC_oth, uI_ni, uI_eq, uC_in]; exact h1), bV_some, cp15_32 d _ (by simp (disch := omega) only [Nat.reduceAdd, uI_oth, uC_oth, uI_ni, uI_eq, uC_in]; exact h2), bV_some, if_neg (by decide)]
  refine ⟨_, rfl, ?_, ?_, ?_, ?_, ?_, ?_, ?_, ?_⟩
  · intro j hj
    rcases hj with rfl | rfl | rfl | rfl | rfl | rfl | rfl | rfl <;> simp (disch := omega) only [Nat.reduceAdd, uI_oth, uC_oth, uI_ni, uI_eq, uC_in]
  · intro i j h1 h2 hj
    have e : i = 1 ∨ i = 2 ∨ i = 3 ∨ i = 4 := by omega
    rcases e with rfl | rfl | rfl | rfl <;> simp (disch := omega) only [Nat.reduceAdd, uI_oth, uC_oth, uI_ni, uI_eq, uC_in]
  · intro i j h1 h2 hj
    have e : i = 5 ∨ i = 6 ∨ i = 7 := by omega
    rcases e with rfl | rfl | rfl <;> simp (disch := omega) only [Nat.reduceAdd, uI_oth, uC_oth, uI_ni, uI_eq, uC_in]
  · intro j hj
    simp (disch := omega) only [Nat.reduceAdd, uI_oth, uC_oth, uI_ni, uI_eq, uC_in]
  · intro j hj
    simp (disch := omega) only [Nat.reduceAdd, uI_oth, uC_oth, uI_ni, uI_eq, uC_in]
  · intro i j hi hj
    have e : j = 0 ∨ j = 1 := by omega
    rcases hi with rfl | rfl <;> rcases e with rfl | rfl <;> simp (disch := omega) only [Nat.reduceAdd, uI_oth, uC_oth, uI_ni, uI_eq, uC_in]
  · intro i j hi hj
    rcases hi with rfl | rfl <;> simp (disch := omega) only [Nat.reduceAdd, uI_oth, uC_oth, uI_ni, uI_eq, uC_in]
  · intro k hk
    simp (disch := omega) only [Nat.reduceAdd, uI_oth, uC_oth, uI_ni, uI_eq, uC_in]
theorem cpy_b (d : Nat) (S : MS) (h1 : S.1 12 0 = 0 ∨ S.1 12 0 = 1) (h2 : S.1 15 0 = 0 ∨ S.1 15 0 = 1) : ∃ T, mFn (d + 2) 7 [.ref 18, .ref 1] S = some (none, T) ∧ Cp 18 1 S T := by
  rw [fX0_copyFrom_b, if_neg (by decide), if_neg (by decide), if_neg (by decide), if_neg (by decide), if_neg (by decide), if_neg (by decide), if_neg (by decide), if_neg (by decide), cl0, l8, l9, l60, l24, cp29_12 d _ (by simp (disch := omega) only [Nat.reduceAdd, uI_oth, uC_oth, uI_ni, uI_eq, uC_in]; exact h1), bV_some, cp32_15 d _ (by simp (disch := omega) only [Nat.reduceAdd, uI_oth, uC_oth, uI_ni, uI_eq, uC_in]; exact h2), bV_some, if_neg (by decide)]
  refine ⟨_, rfl, ?_, ?_, ?_, ?_, ?_, ?_, ?_, ?_⟩
  · intro j hj
    rcases hj with rfl | rfl | rfl | rfl | rfl | rfl | rfl | rfl <;> simp (disch := omega) only [Nat.reduceAdd, uI_oth, uC_oth, uI_ni, uI_eq, uC_in]
  · intro i j h1 h2 hj
    have e : i = 1 ∨ i = 2 ∨ i = 3 ∨ i = 4 := by omega
    rcases e with rfl | rfl | rfl | rfl <;> simp (disch := omega) only [Nat.reduceAdd, uI_oth, uC_oth, uI_ni, uI_eq, uC_in]
  · intro i j h1 h2 hj
    have e : i = 5 ∨ i = 6 ∨ i = 7 := by omega
    rcases e with rfl | rfl | rfl <;> simp (disch := omega) only [Nat.reduceAdd, uI_oth, uC_oth, uI_ni, uI_eq, uC_in]
  · intro j hj
    simp (disch := omega) only [Nat.reduceAdd, uI_oth, uC_oth, uI_ni, uI_eq, uC_in]
  · intro j hj
    simp (disch := omega) only [Nat.reduceAdd, uI_oth, uC_oth, uI_ni, uI_eq, uC_in]
  · intro i j hi hj
    have e : j = 0 ∨ j = 1 := by omega
    rcases hi with rfl | rfl <;> rcases e with rfl | rfl <;> simp (disch := omega) only [Nat.reduceAdd, uI_oth, uC_oth, uI_ni, uI_eq, uC_in]
  · intro i j hi hj
    rcases hi with rfl | rfl <;> simp (disch := omega) only [Nat.reduceAdd, uI_oth, uC_oth, uI_ni, uI_eq, uC_in]
  · intro k hk
    simp (disch := omega) only [Nat.reduceAdd, uI_oth, uC_oth, uI_ni, uI_eq, uC_in]
theorem RT_cp {σ τ : Nat → Nat → Int32} {t t' w v a : Nat} (h0 : τ t' 0 = σ t 0) (h1 : τ t' 1 = σ t 1) (h2 : ∀ k, k < 60 → τ (t' + 1) k = σ (t + 1) k) (hw : ∀ i, a ≤ i → i < a + 121 → τ v i = σ w i) (h : RT σ t w a) : RT τ t' v a := by
  rcases h with ⟨a1, a2⟩ | ⟨a1, n, b1, b2, b3, b4, b5, b6⟩
  · exact Or.inl ⟨h0 ▸ a1, by rw [hw a (Nat.le_refl _) (by omega)]; exact a2⟩
  · refine Or.inr ⟨h0 ▸ a1, n, b1, b2, h1 ▸ b3, by rw [hw a (Nat.le_refl _) (by omega)]; exact b4, fun k hk => ?_, ?_⟩
    · rw [h2 k (by omega), hw _ (by omega) (by omega), hw _ (by omega) (by omega)]
      exact b5 k hk
    · rw [← b6]
      have e : ∀ k, k ≤ n → tdep (fun k => τ v (a + 1 + k)) k = tdep (fun k => σ w (a + 1 + k)) k := by
        intro k
        induction k with
        | zero => intro _; rfl
        | succ k ih =>
          intro hk
          rw [tdep, tdep, ih (by omega), hw (a + 1 + k) (by omega) (by omega)]
      exact e n (Nat.le_refl _)
theorem RC_cp {S T : MS} {b c v w nf np nt nw o : Nat} (hc : Cp b c S T) {U : MS} (hb : ∀ k, b ≤ k → k < b + 17 → U.1 k = T.1 k) (hv : ∀ j, j < 401 → U.1 v j = S.1 w j) (h : RC S.1 c w nf np nt nw o) : RC U.1 b v nf np nt nw o := by
  obtain ⟨e0, e1, e5, e8, e9, ex, ey, _⟩ := hc
  obtain ⟨h1, h2, h3, h4, h5, h6⟩ := h
  refine ⟨?_, ?_, ?_, ?_, ?_, ?_⟩
  · unfold RCs at h1 ⊢
    rw [hb b (by omega) (by omega), e0 0 (by omega), e0 5 (by omega), e0 9 (by omega), e0 10 (by omega), e0 11 (by omega), e0 12 (by omega), e0 14 (by omega), e0 17 (by omega), hv 2 (by omega), hv 3 (by omega), hv 5 (by omega), hv 6 (by omega), hv 4 (by omega), hv 0 (by omega), hv 1 (by omega)]
    exact h1
  · intro f hf
    rw [hb (b + 1) (by omega) (by omega), hb (b + 2) (by omega) (by omega), hb (b + 3) (by omega) (by omega), hb (b + 4) (by omega) (by omega), e1 1 f (by omega) (by omega) hf, e1 2 f (by omega) (by omega) hf, e1 3 f (by omega) (by omega) hf, e1 4 f (by omega) (by omega) hf, hv _ (by omega), hv _ (by omega), hv _ (by omega), hv _ (by omega)]
    exact h2 f hf
  · intro p hp
    rw [hb (b + 5) (by omega) (by omega), hb (b + 6) (by omega) (by omega), hb (b + 7) (by omega) (by omega), e5 5 p (by omega) (by omega) hp, e5 6 p (by omega) (by omega) hp, e5 7 p (by omega) (by omega) hp, hv _ (by omega), hv _ (by omega), hv _ (by omega)]
    obtain ⟨g1, g2, g3, g4⟩ := h3 p hp
    refine ⟨g1, g2, g3, fun hlt => ?_⟩
    obtain ⟨fr, to, r1, r2, r3, r4, r5, r6, r7⟩ := g4 hlt
    refine ⟨fr, to, r1, r2, r3, r4, r5, ?_, ?_⟩
    · obtain ⟨n1, _⟩ := h1
      rw [hv _ (by omega), hv _ (by omega)]
      exact r6
    · rw [hv _ (by omega)]
      exact r7
  · refine ⟨fun i hi => ?_, fun i hi => ?_⟩
    · rw [hb (b + 8) (by omega) (by omega), e8 i hi, hv _ (by omega)]
      exact h4.1 i hi
    · rw [hb (b + 9) (by omega) (by omega), e9 i hi, hv _ (by omega)]
      exact h4.2 i hi
  · exact RT_cp (by rw [hb _ (by omega) (by omega), ex 11 0 (by omega) (by omega)]) (by rw [hb _ (by omega) (by omega), ex 11 1 (by omega) (by omega)]) (fun k hk => by rw [hb _ (by omega) (by omega)]; exact ey 12 k (by omega) hk) (fun i h1 h2 => hv i (by omega)) h5
  · exact RT_cp (by rw [hb _ (by omega) (by omega), ex 14 0 (by omega) (by omega)]) (by rw [hb _ (by omega) (by omega), ex 14 1 (by omega) (by omega)]) (fun k hk => by rw [hb _ (by omega) (by omega)]; exact ey 15 k (by omega) hk) (fun i h1 h2 => hv i (by omega)) h6
theorem RT_01 {σ : Nat → Nat → Int32} {t w a : Nat} (h : RT σ t w a) : σ t 0 = 0 ∨ σ t 0 = 1 := h.elim (fun z => Or.inl z.1) (fun z => Or.inr z.1)
theorem all_a (d : Nat) : ∀ n i, i + n = 401 → ∀ S : MS, ∃ T, mv (kX6_copyAll (mFn d)) 2 [(0, .ref 55), (1, .ref 56), (2, .int (nI i))] [] S = some (none, T) ∧ (∀ k, k ≠ 56 → T.1 k = S.1 k) ∧ ∀ j, T.1 56 j = if i ≤ j ∧ j < 401 then S.1 55 j else S.1 56 j := by
  intro n
  induction n with
  | zero =>
    intro i hi S
    refine ⟨S, ?_, fun _ _ => rfl, fun j => ?_⟩
    · rw [lX6_copyAll_a_2, if_pos (show (401 : Int32) ≤ nI i from nI_le (a := 401) (b := i) (by omega) (by omega))]
    · rw [if_neg (by omega)]
  | succ n ih =>
    intro i hi S
    obtain ⟨T, g1, g2, g3⟩ := ih (i + 1) (by omega) (uI S 56 i (S.1 55 i))
    refine ⟨T, ?_, fun k hk => ?_, fun j => ?_⟩
    · rw [lX6_copyAll_a_2, if_neg (show ¬ (401 : Int32) ≤ nI i from nI_ge (a := i) (b := 401) (by omega) (by decide)), if_in (by omega) (by omega), if_in (by omega) (by omega), cN (by omega), add1]
      exact g1
    · rw [g2 k hk, uI_oth hk]
    · rw [g3 j, uI_oth (by decide)]
      by_cases hj : j = i
      · subst hj
        rw [if_neg (by omega), if_pos ⟨Nat.le_refl _, by omega⟩, uI_eq]
      · rw [uI_ni _ hj]
        by_cases h2 : i + 1 ≤ j ∧ j < 401
        · rw [if_pos h2, if_pos ⟨by omega, h2.2⟩]
        · rw [if_neg h2, if_neg (by omega)]
theorem all_b (d : Nat) : ∀ n i, i + n = 401 → ∀ S : MS, ∃ T, mv (kX6_copyAll (mFn d)) 2 [(0, .ref 56), (1, .ref 55), (2, .int (nI i))] [] S = some (none, T) ∧ (∀ k, k ≠ 55 → T.1 k = S.1 k) ∧ ∀ j, T.1 55 j = if i ≤ j ∧ j < 401 then S.1 56 j else S.1 55 j := by
  intro n
  induction n with
  | zero =>
    intro i hi S
    refine ⟨S, ?_, fun _ _ => rfl, fun j => ?_⟩
    · rw [lX6_copyAll_b_2, if_pos (show (401 : Int32) ≤ nI i from nI_le (a := 401) (b := i) (by omega) (by omega))]
    · rw [if_neg (by omega)]
  | succ n ih =>
    intro i hi S
    obtain ⟨T, g1, g2, g3⟩ := ih (i + 1) (by omega) (uI S 55 i (S.1 56 i))
    refine ⟨T, ?_, fun k hk => ?_, fun j => ?_⟩
    · rw [lX6_copyAll_b_2, if_neg (show ¬ (401 : Int32) ≤ nI i from nI_ge (a := i) (b := 401) (by omega) (by decide)), if_in (by omega) (by omega), if_in (by omega) (by omega), cN (by omega), add1]
      exact g1
    · rw [g2 k hk, uI_oth hk]
    · rw [g3 j, uI_oth (by decide)]
      by_cases hj : j = i
      · subst hj
        rw [if_neg (by omega), if_pos ⟨Nat.le_refl _, by omega⟩, uI_eq]
      · rw [uI_ni _ hj]
        by_cases h2 : i + 1 ≤ j ∧ j < 401
        · rw [if_pos h2, if_pos ⟨by omega, h2.2⟩]
        · rw [if_neg h2, if_neg (by omega)]
theorem ok_image (d : Nat) : Ok2 (d + 3) 66 170 [.ref 0] [.ref 54] := by
  intro S hR
  obtain ⟨⟨nf, np, nt, nw, o, hs, hf, hp, ht, hx⟩, hI, hE, hSh, hV⟩ := id hR
  obtain ⟨b1, b2, b3, b4, b5, c0, w2, c5, w3, c14, w5, c17, w6, c9, c10, c11, c12, r4, r0⟩ := id hs
  obtain ⟨T, g1, g2⟩ := cpy_b d S (RT_01 hx.1) (RT_01 hx.2)
  have gk : ∀ k, (k < 18 ∨ 35 ≤ k) → T.1 k = S.1 k := g2.2.2.2.2.2.2.2
  obtain ⟨U, k1, k2, k3⟩ := all_a (d + 1) 401 0 (by omega) (uI T 0 2 (fAdd (S.1 0 2) 1))
  have ku : ∀ k, k ≠ 56 → k ≠ 0 → U.1 k = T.1 k := fun k h1 h2 => by rw [k2 k h1, uI_oth h2]
  refine ⟨fAdd (S.1 0 2) 1, uI T 0 2 (fAdd (S.1 0 2) 1), uI U 54 2 (fAdd (S.1 0 2) 1), ?_, ?_, ?_⟩
  · rw [fX5_image, show mFn (d + 2) 7 [.ref 18, .ref 1] S = _ from g1, bV_some, gk 0 (by omega)]
  · rw [fX6_image, show mFn (d + 2) 89 [.ref 55, .ref 56] _ = _ from (fX6_copyAll_a (d + 1) _).trans k1, bV_some, ku 54 (by decide) (by decide), gk 54 (by omega), ← hI.1]
  · have c : ∀ k, (1 ≤ k ∧ k < 18) ∨ k = 42 ∨ k = 43 ∨ (44 ≤ k ∧ k < 54) ∨ k = 55 ∨ (57 ≤ k) → (uI U 54 2 (fAdd (S.1 0 2) 1)).1 k = S.1 k := fun k hk => by rw [uI_oth (by omega), ku k (by omega) (by omega), gk k (by omega)]
    refine ⟨⟨nf, np, nt, nw, o, RC_c (fun k hk => c k (by have := hk.1; have := hk.2.1; omega)) (c 55 (by omega)) ⟨hs, hf, hp, ht, hx⟩⟩, ⟨?_, Or.inr ⟨nf, np, nt, nw, o, RC_cp g2 (fun k h1 h2 => ?_) (fun j hj => ?_) ⟨hs, hf, hp, ht, hx⟩⟩⟩, fun k hk => ?_, fun s hs => ?_, ?_⟩
    · rw [uI_eq, uI_oth (by decide), k2 0 (by decide), uI_eq]
    · rw [uI_oth (by omega), ku k (by omega) (by omega)]
    · rw [uI_oth (by decide), k3 j, if_pos ⟨Nat.zero_le _, hj⟩, uI_oth (by decide), gk 55 (by omega)]
    · rw [c 53 (by omega), c 57 (by omega)]
      exact hE k hk
    · rw [c (45 + 2 * s) (by omega), c (46 + 2 * s) (by omega), c 58 (by omega), c 59 (by omega), c 60 (by omega)]
      exact hSh s hs
    · obtain ⟨n, v1, v2, v3, v4⟩ := hV
      refine ⟨n, v1, ?_, ?_, fun i hi => ?_⟩
      · rw [c 42 (by omega)]; exact v2
      · rw [uI_ni _ (by decide), ku 54 (by decide) (by decide), gk 54 (by omega)]; exact v3
      · rw [c 43 (by omega), c 68 (by omega)]; exact v4 i hi
theorem ok_restore (d : Nat) : Ok2 (d + 3) 67 171 [.ref 0] [.ref 54] := by
  intro S hR
  obtain ⟨⟨nf, np, nt, nw, o, hs, hf, hp, ht, hx⟩, hI, hE, hSh, hV⟩ := id hR
  obtain ⟨b1, b2, b3, b4, b5, c0, w2, c5, w3, c14, w5, c17, w6, c9, c10, c11, c12, r4, r0⟩ := id hs
  by_cases h : S.1 0 2 = 0
  · refine ⟨-1000000002, uI S 53 2 (S.1 53 2 + 1), EE 2 S, ?_, ?_, Rel_EE hR⟩
    · rw [fX5_restore, if_pos h, pC_err2, bI_some]
    · rw [fX6_restore, uI_oth (by decide), ← hI.1, if_pos h, pM_err2, bI_some]
      rfl
  · rcases hI.2 with e | ⟨mf, mp, mt, mw, u, hK⟩
    · exact absurd e h
    obtain ⟨T, g1, g2⟩ := cpy_a d S (RT_01 hK.2.2.2.2.1) (RT_01 hK.2.2.2.2.2)
    have gk : ∀ k, (k < 1 ∨ 18 ≤ k) → T.1 k = S.1 k := g2.2.2.2.2.2.2.2
    obtain ⟨U, k1, k2, k3⟩ := all_b (d + 1) 401 0 (by omega) T
    refine ⟨T.1 1 11, T, U, ?_, ?_, ?_⟩
    · rw [fX5_restore, if_neg h, show mFn (d + 2) 7 [.ref 1, .ref 18] S = _ from g1, bV_some]
    · rw [fX6_restore, gk 54 (by omega), ← hI.1, if_neg h, show mFn (d + 2) 89 [.ref 56, .ref 55] _ = _ from (fX6_copyAll_b (d + 1) _).trans k1, bV_some, il0, cl0, k3 0, if_pos (by decide), gk 56 (by omega), ← hK.1.2.2.2.2.2.2.2.2.2.2.2.2.2.2.2.1, g2.1 11 (by omega)]
    · exact Rel_city hR (RC_cp g2 (fun k h1 h2 => k2 k (by omega)) (fun j hj => by rw [k3 j, if_pos ⟨Nat.zero_le _, hj⟩, gk 56 (by omega)]) hK) (fun k h1 h2 => by rw [k2 k h2, gk k (by omega)])
