/-! ===== the relation of the class's cells (base b) and the model's row (cell w) ===== -/
/-- one step of a text: the class's number, the model's act and with -/
def tcor (st ac wi : Int32) : Prop := (ac = 1 ∧ wi = st ∧ 0 ≤ st ∧ st ≤ 9999) ∨ (ac = 2 ∧ ∃ j, j < 3 ∧ wi = nI j ∧ st = -1 - nI j) ∨ (ac = 3 ∧ st = 100033) ∨ (∃ c, c < 256 ∧ 3 < c ∧ c ≠ 33 ∧ ac = nI c ∧ st = nI (100000 + c))
/-- how deep the pile is behind k steps -/
def tdep (f : Nat → Int32) : Nat → Option Nat
  | 0 => some 0
  | k + 1 => match tdep f k with
    | none => none
    | some d => if f k = 1 ∨ f k = 2 then some (d + 1) else if f k = 3 then (if 1 ≤ d then some d else none) else (if 2 ≤ d then some (d - 1) else none)
def RT (σ : Nat → Nat → Int32) (t w a : Nat) : Prop := (σ t 0 = 0 ∧ σ w a = 0) ∨ (σ t 0 = 1 ∧ ∃ n, 1 ≤ n ∧ n ≤ 60 ∧ σ t 1 = nI n ∧ σ w a = nI n ∧ (∀ k, k < n → tcor (σ (t + 1) k) (σ w (a + 1 + k)) (σ w (a + 61 + k))) ∧ tdep (fun k => σ w (a + 1 + k)) n = some 1)
def RCs (σ : Nat → Nat → Int32) (b w nf np nt nw o : Nat) : Prop := nf ≤ 8 ∧ np ≤ 9 ∧ nt ≤ 60 ∧ nw ≤ 24 ∧ o < 2 ^ np ∧ σ b 0 = nI nf ∧ σ w 2 = nI nf ∧ σ b 5 = nI np ∧ σ w 3 = nI np ∧ σ b 14 = nI nt ∧ σ w 5 = nI nt ∧ σ b 17 = nI nw ∧ σ w 6 = nI nw ∧ σ b 9 = nI o ∧ σ b 10 = σ w 4 ∧ σ b 11 = σ w 0 ∧ σ b 12 = σ w 1 ∧ (0 ≤ σ w 4 ∧ σ w 4 ≤ 9) ∧ (0 ≤ σ w 0 ∧ σ w 0 ≤ 9999)
def RCf (σ : Nat → Nat → Int32) (b w : Nat) : Prop := ∀ f, f < 8 → σ (b + 1) f = σ w (7 + 4 * f) ∧ σ (b + 2) f = σ w (8 + 4 * f) ∧ σ (b + 3) f = σ w (9 + 4 * f) ∧ σ (b + 4) f = σ w (10 + 4 * f) ∧ (0 ≤ σ w (7 + 4 * f) ∧ σ w (7 + 4 * f) ≤ 6) ∧ (0 ≤ σ w (8 + 4 * f) ∧ σ w (8 + 4 * f) ≤ 9) ∧ (0 ≤ σ w (9 + 4 * f) ∧ σ w (9 + 4 * f) ≤ 9) ∧ (0 ≤ σ w (10 + 4 * f) ∧ σ w (10 + 4 * f) ≤ 99999)
def RCp (σ : Nat → Nat → Int32) (b w nf np o : Nat) : Prop := ∀ p, p < 9 → σ (b + 5) p = σ w (39 + 4 * p) ∧ σ (b + 6) p = σ w (40 + 4 * p) ∧ σ (b + 7) p = σ w (41 + 4 * p) ∧ (p < np → ∃ fr to, fr < nf ∧ to < nf ∧ σ w (39 + 4 * p) = nI fr ∧ σ w (40 + 4 * p) = nI to ∧ (1 ≤ σ w (41 + 4 * p) ∧ σ w (41 + 4 * p) ≤ 9) ∧ σ w (9 + 4 * to) < σ w (9 + 4 * fr) ∧ σ w (42 + 4 * p) = nI (if o.testBit p then 1 else 0))
def RCt (σ : Nat → Nat → Int32) (b w : Nat) : Prop := (∀ i, i < 60 → σ (b + 8) i = σ w (75 + i) ∧ 0 ≤ σ w (75 + i) ∧ σ w (75 + i) ≤ 255) ∧ (∀ i, i < 24 → σ (b + 9) i = σ w (135 + i))
def RCx (σ : Nat → Nat → Int32) (b w : Nat) : Prop := RT σ (b + 11) w 159 ∧ RT σ (b + 14) w 280
def RC (σ : Nat → Nat → Int32) (b w nf np nt nw o : Nat) : Prop := RCs σ b w nf np nt nw o ∧ RCf σ b w ∧ RCp σ b w nf np o ∧ RCt σ b w ∧ RCx σ b w
def RI (σ : Nat → Nat → Int32) : Prop := σ 0 2 = σ 54 2 ∧ (σ 0 2 = 0 ∨ ∃ nf np nt nw o, RC σ 18 56 nf np nt nw o)
def RE (σ : Nat → Nat → Int32) : Prop := ∀ k, k < 7 → σ 53 k = σ 57 k
def RS (σ : Nat → Nat → Int32) : Prop := ∀ s, s < 4 → σ (45 + 2 * s) 0 = σ 58 s ∧ σ (45 + 2 * s) 1 = σ 59 s ∧ (σ 58 s = 0 ∨ σ 58 s = 8 ∨ σ 58 s = 16 ∨ σ 58 s = 32) ∧ (∃ n, n ≤ 24 ∧ σ 59 s = nI n ∧ (σ 58 s = 0 → n = 0)) ∧ ∀ i, i < 24 → σ (46 + 2 * s) i = σ 60 (24 * s + i)
def RV (σ : Nat → Nat → Int32) : Prop := ∃ n, n ≤ 30 ∧ σ 42 5 = nI n ∧ σ 54 20 = nI n ∧ ∀ i, i < n → σ 43 i = σ 68 i
def Rel (S : MS) : Prop := (∃ nf np nt nw o, RC S.1 1 55 nf np nt nw o) ∧ RI S.1 ∧ RE S.1 ∧ RS S.1 ∧ RV S.1
theorem uI_rd (S : MS) (k j : Nat) (x : Int32) (a b : Nat) : (uI S k j x).1 a b = if a = k then (if b = j then x else S.1 a b) else S.1 a b := rfl
theorem uI_ne {S : MS} {k j : Nat} {x : Int32} {a : Nat} (b : Nat) (h : a ≠ k) : (uI S k j x).1 a b = S.1 a b := by rw [uI_rd, if_neg h]
theorem uI_ni {S : MS} {k j : Nat} {x : Int32} {b : Nat} (a : Nat) (h : b ≠ j) : (uI S k j x).1 a b = S.1 a b := by
  rw [uI_rd, if_neg h, ite_self]
/-- what is read is the same in both: then what holds of one holds of the other -/
theorem RT_c {σ τ : Nat → Nat → Int32} {t w a : Nat} (h0 : τ t 0 = σ t 0) (h1 : τ t 1 = σ t 1) (h2 : ∀ k, τ (t + 1) k = σ (t + 1) k) (hw : ∀ i, a ≤ i → i < a + 121 → τ w i = σ w i) (h : RT σ t w a) : RT τ t w a := by
  rcases h with ⟨a1, a2⟩ | ⟨a1, n, b1, b2, b3, b4, b5, b6⟩
  · exact Or.inl ⟨h0 ▸ a1, by rw [hw a (Nat.le_refl _) (by omega)]; exact a2⟩
  · refine Or.inr ⟨h0 ▸ a1, n, b1, b2, h1 ▸ b3, by rw [hw a (Nat.le_refl _) (by omega)]; exact b4, fun k hk => ?_, ?_⟩
    · rw [h2, hw _ (by omega) (by omega), hw _ (by omega) (by omega)]
      exact b5 k hk
    · rw [← b6]
      have e : ∀ k, k ≤ n → tdep (fun k => τ w (a + 1 + k)) k = tdep (fun k => σ w (a + 1 + k)) k := by
        intro k
        induction k with
        | zero => intro _; rfl
        | succ k ih =>
          intro hk
          rw [tdep, tdep, ih (by omega), hw (a + 1 + k) (by omega) (by omega)]
      exact e n (Nat.le_refl _)
/-- which cells the relation of a city reads (not the stacks) -/
def ccell (b k : Nat) : Prop := b ≤ k ∧ k < b + 16 ∧ k ≠ b + 13
theorem RC_c {σ τ : Nat → Nat → Int32} {b w nf np nt nw o : Nat} (hc : ∀ k, ccell b k → τ k = σ k) (hw : τ w = σ w) (h : RC σ b w nf np nt nw o) : RC τ b w nf np nt nw o := by
  have c0 := hc b ⟨by omega, by omega, by omega⟩
  have c1 := hc (b + 1) ⟨by omega, by omega, by omega⟩
  have c2 := hc (b + 2) ⟨by omega, by omega, by omega⟩
  have c3 := hc (b + 3) ⟨by omega, by omega, by omega⟩
  have c4 := hc (b + 4) ⟨by omega, by omega, by omega⟩
  have c5 := hc (b + 5) ⟨by omega, by omega, by omega⟩
  have c6 := hc (b + 6) ⟨by omega, by omega, by omega⟩
  have c7 := hc (b + 7) ⟨by omega, by omega, by omega⟩
  have c8 := hc (b + 8) ⟨by omega, by omega, by omega⟩
  have c9 := hc (b + 9) ⟨by omega, by omega, by omega⟩
  have c11 := hc (b + 11) ⟨by omega, by omega, by omega⟩
  have c12 := hc (b + 12) ⟨by omega, by omega, by omega⟩
  have c14 := hc (b + 14) ⟨by omega, by omega, by omega⟩
  have c15 := hc (b + 15) ⟨by omega, by omega, by omega⟩
  obtain ⟨h1, h2, h3, h4, h5, h6⟩ := h
  refine ⟨?_, ?_, ?_, ?_, ?_, ?_⟩
  · unfold RCs at h1 ⊢; rw [c0, hw]; exact h1
  · unfold RCf at h2 ⊢; rw [c1, c2, c3, c4, hw]; exact h2
  · unfold RCp at h3 ⊢; rw [c5, c6, c7, hw]; exact h3
  · unfold RCt at h4 ⊢; rw [c8, c9, hw]; exact h4
  · exact RT_c (by rw [c11]) (by rw [c11]) (fun k => by rw [c12]) (fun i _ _ => by rw [hw]) h5
  · exact RT_c (by rw [c14]) (by rw [c14]) (fun k => by rw [c15]) (fun i _ _ => by rw [hw]) h6
/-- S' differs from S in these cells alone -/
def Fr (ks : List Nat) (S S' : MS) : Prop := ∀ k, k ∉ ks → S'.1 k = S.1 k
theorem Fr.rf {ks : List Nat} {S : MS} : Fr ks S S := fun _ _ => rfl
theorem Fr.tr {ks : List Nat} {S S1 S2 : MS} (h : Fr ks S S1) (h2 : Fr ks S1 S2) : Fr ks S S2 := fun k hk => (h2 k hk).trans (h k hk)
theorem Fr.up {ks js : List Nat} {S S1 : MS} (h : Fr ks S S1) (hs : ∀ k ∈ ks, k ∈ js) : Fr js S S1 := fun k hk => h k (fun z => hk (hs k z))
theorem Fr.put {ks : List Nat} {S S1 : MS} {k j : Nat} {x : Int32} (h : Fr ks S S1) (hk : k ∈ ks) : Fr ks S (uI S1 k j x) := by
  intro i hi
  have hne : i ≠ k := fun z => hi (by rw [z]; exact hk)
  rw [uI_oth hne]
  exact h i hi
/-- the cells that a question may leave otherwise -/
def scr : List Nat := [14, 17, 31, 34, 35, 36, 37, 38, 39, 40, 41, 42, 54, 61, 62, 63, 64, 65, 66, 67]
theorem Rel_fr {S S' : MS} (h : Fr scr S S') (h1 : S'.1 54 2 = S.1 54 2) (h2 : S'.1 54 20 = S.1 54 20) (h3 : S'.1 42 5 = S.1 42 5) (hR : Rel S) : Rel S' := by
  have g : ∀ k, k ∉ scr → S'.1 k = S.1 k := h
  have cc : ∀ b, (b = 1 ∨ b = 18) → ∀ k, ccell b k → k ∉ scr := by
    intro b hb k hk
    obtain ⟨k1, k2, k3⟩ := hk
    unfold scr
    rcases hb with rfl | rfl <;> simp <;> omega
  obtain ⟨⟨nf, np, nt, nw, o, hc⟩, hI, hE, hS, hV⟩ := hR
  refine ⟨⟨nf, np, nt, nw, o, RC_c (fun k hk => g k (cc 1 (Or.inl rfl) k hk)) (g 55 (by decide)) hc⟩, ⟨?_, ?_⟩, ?_, ?_, ?_⟩
  · rw [g 0 (by decide), h1]; exact hI.1
  · rw [g 0 (by decide)]
    rcases hI.2 with e | ⟨a1, a2, a3, a4, a5, e⟩
    · exact Or.inl e
    · exact Or.inr ⟨a1, a2, a3, a4, a5, RC_c (fun k hk => g k (cc 18 (Or.inr rfl) k hk)) (g 56 (by decide)) e⟩
  · intro k hk
    rw [g 53 (by decide), g 57 (by decide)]
    exact hE k hk
  · intro s hs
    have a1 : 45 + 2 * s ∉ scr := by unfold scr; simp; omega
    have a2 : 46 + 2 * s ∉ scr := by unfold scr; simp; omega
    rw [g _ a1, g _ a2, g 58 (by decide), g 59 (by decide), g 60 (by decide)]
    exact hS s hs
  · obtain ⟨n, v1, v2, v3, v4⟩ := hV
    refine ⟨n, v1, h3 ▸ v2, h2 ▸ v3, fun i hi => ?_⟩
    rw [g 43 (by decide), g 68 (by decide)]
    exact v4 i hi
/-- both sides told an ERROR -/
def EE (k : Nat) (S : MS) : MS := uI (uI S 53 k (S.1 53 k + 1)) 57 k (S.1 57 k + 1)
theorem Rel_EE {k : Nat} {S : MS} (hR : Rel S) : Rel (EE k S) := by
  have g : ∀ i, i ≠ 53 → i ≠ 57 → (EE k S).1 i = S.1 i := fun i h1 h2 => by unfold EE; rw [uI_oth h2, uI_oth h1]
  have cc : ∀ b, (b = 1 ∨ b = 18) → ∀ k, ccell b k → k ≠ 53 ∧ k ≠ 57 := by
    intro b hb k hk
    obtain ⟨k1, k2, k3⟩ := hk
    rcases hb with rfl | rfl <;> omega
  obtain ⟨⟨nf, np, nt, nw, o, hc⟩, hI, hE, hS, hV⟩ := hR
  refine ⟨⟨nf, np, nt, nw, o, RC_c (fun k hk => g k (cc 1 (Or.inl rfl) k hk).1 (cc 1 (Or.inl rfl) k hk).2) (g 55 (by decide) (by decide)) hc⟩, ⟨?_, ?_⟩, ?_, ?_, ?_⟩
  · rw [g 0 (by decide) (by decide), g 54 (by decide) (by decide)]; exact hI.1
  · rw [g 0 (by decide) (by decide)]
    rcases hI.2 with e | ⟨a1, a2, a3, a4, a5, e⟩
    · exact Or.inl e
    · exact Or.inr ⟨a1, a2, a3, a4, a5, RC_c (fun k hk => g k (cc 18 (Or.inr rfl) k hk).1 (cc 18 (Or.inr rfl) k hk).2) (g 56 (by decide) (by decide)) e⟩
  · intro i hi
    have e := hE i hi
    by_cases h : i = k
    · subst h
      simp [EE, uI, e]
    · simp [EE, uI, h, e]
  · intro s hs
    rw [g (45 + 2 * s) (by omega) (by omega), g (46 + 2 * s) (by omega) (by omega), g 58 (by decide) (by decide), g 59 (by decide) (by decide), g 60 (by decide) (by decide)]
    exact hS s hs
  · obtain ⟨n, v1, v2, v3, v4⟩ := hV
    refine ⟨n, v1, ?_, ?_, fun i hi => ?_⟩
    · rw [g 42 (by decide) (by decide)]; exact v2
    · rw [g 54 (by decide) (by decide)]; exact v3
    · rw [g 43 (by decide) (by decide), g 68 (by decide) (by decide)]; exact v4 i hi
/-- both sides, called one behind the other, answer alike, and the relation holds again -/
def Ok2 (D i j : Nat) (as as' : List Value) : Prop := ∀ S, Rel S → ∃ (r : Int32) (S1 S2 : MS), mFn D i as S = some (some (.int r), S1) ∧ mFn D j as' S1 = some (some (.int r), S2) ∧ Rel S2
