/-! ===== texts at work: what they give, on both sides ===== -/
theorem ite_ex {c : Prop} [Decidable c] {A B : Nat → MS → Option MR} (h1 : c → ∃ r : Int32, ∀ d S, A d S = some (some (.int r), S)) (h2 : ¬ c → ∃ r : Int32, ∀ d S, B d S = some (some (.int r), S)) : ∃ r : Int32, ∀ d S, (if c then A d S else B d S) = some (some (.int r), S) := by
  by_cases h : c
  · obtain ⟨r, g⟩ := h1 h
    exact ⟨r, fun d S => by rw [if_pos h]; exact g d S⟩
  · obtain ⟨r, g⟩ := h2 h
    exact ⟨r, fun d S => by rw [if_neg h]; exact g d S⟩
theorem two_ex (c x y : Int32) : ∃ r : Int32, ∀ d S, mFn (d + 1) 126 [.int c, .int x, .int y] S = some (some (.int r), S) := by
  simp only [fX6_twoOf]
  repeat' first
    | exact ⟨_, fun _ _ => rfl⟩
    | refine ite_ex (fun _ => ?_) (fun _ => ?_)
    | (exfalso; contradiction)
noncomputable def two (c x y : Int32) : Int32 := Classical.choose (two_ex c x y)
theorem two_M (d : Nat) (c x y : Int32) (S : MS) : mFn (d + 1) 126 [.int c, .int x, .int y] S = some (some (.int (two c x y)), S) := Classical.choose_spec (two_ex c x y) d S
theorem two_C (d : Nat) (c x y : Int32) (S : MS) : mFn (d + 1) 24 [.int c, .int x, .int y] S = some (some (.int (two c x y)), S) := by
  rw [← two_M d, fX4_joined, fX6_twoOf]
def upS (f : Nat → Int32) (j : Nat) (v : Int32) : Nat → Int32 := fun i => if i = j then v else f i
theorem upS_eq (f : Nat → Int32) (j : Nat) (v : Int32) : upS f j v j = v := if_pos rfl
theorem upS_ne {f : Nat → Int32} {j i : Nat} {v : Int32} (h : i ≠ j) : upS f j v i = f i := if_neg h
def ar (x y z : Int32) (j : Nat) : Int32 := if j = 0 then x else if j = 1 then y else z
def dp (f : Nat → Int32) (k : Nat) : Nat := (tdep f k).getD 0
noncomputable def sv (f g : Nat → Int32) (q : Nat → Int32) : Nat → Nat → Int32
  | 0 => fun _ => 0
  | k + 1 => if f k = 1 then upS (sv f g q k) (dp f k) (g k) else if f k = 2 then upS (sv f g q k) (dp f k) (q (g k).toNatClampNeg) else if f k = 3 then upS (sv f g q k) (dp f k - 1) (if sv f g q k (dp f k - 1) = 0 then 1 else 0) else upS (sv f g q k) (dp f k - 2) (two (f k) (sv f g q k (dp f k - 2)) (sv f g q k (dp f k - 1)))
theorem dp_of {f : Nat → Int32} {k p : Nat} (h : tdep f k = some p) : dp f k = p := by unfold dp; rw [h]; rfl
theorem tdep_le {f : Nat → Int32} : ∀ k p, tdep f k = some p → p ≤ k := by
  intro k
  induction k with
  | zero =>
    intro p h
    have e := Option.some.inj h
    omega
  | succ k ih =>
    intro p h
    rw [tdep] at h
    cases hd : tdep f k with
    | none => rw [hd] at h; exact absurd h (by simp)
    | some q =>
      rw [hd] at h
      have hq := ih q hd
      simp only at h
      by_cases h1 : f k = 1 ∨ f k = 2
      · rw [if_pos h1] at h
        have e := Option.some.inj h
        omega
      · rw [if_neg h1] at h
        by_cases h3 : f k = 3
        · rw [if_pos h3] at h
          by_cases h4 : 1 ≤ q
          · rw [if_pos h4] at h
            have e := Option.some.inj h
            omega
          · rw [if_neg h4] at h
            exact absurd h (by simp)
        · rw [if_neg h3] at h
          by_cases h4 : 2 ≤ q
          · rw [if_pos h4] at h
            have e := Option.some.inj h
            omega
          · rw [if_neg h4] at h
            exact absurd h (by simp)
/-- one step of the depth, backwards -/
theorem tdep_st {f : Nat → Int32} {k p : Nat} (hd : tdep f k = some p) {q : Nat} (h : tdep f (k + 1) = some q) : ((f k = 1 ∨ f k = 2) ∧ q = p + 1) ∨ (¬ (f k = 1 ∨ f k = 2) ∧ f k = 3 ∧ 1 ≤ p ∧ q = p) ∨ (¬ (f k = 1 ∨ f k = 2) ∧ f k ≠ 3 ∧ 2 ≤ p ∧ q = p - 1) := by
  rw [tdep, hd] at h
  simp only at h
  by_cases h1 : f k = 1 ∨ f k = 2
  · rw [if_pos h1] at h
    have e := Option.some.inj h
    exact Or.inl ⟨h1, by omega⟩
  · rw [if_neg h1] at h
    by_cases h3 : f k = 3
    · rw [if_pos h3] at h
      by_cases h4 : 1 ≤ p
      · rw [if_pos h4] at h
        have e := Option.some.inj h
        exact Or.inr (Or.inl ⟨h1, h3, h4, by omega⟩)
      · rw [if_neg h4] at h
        exact absurd h (by simp)
    · rw [if_neg h3] at h
      by_cases h4 : 2 ≤ p
      · rw [if_pos h4] at h
        have e := Option.some.inj h
        exact Or.inr (Or.inr ⟨h1, h3, h4, by omega⟩)
      · rw [if_neg h4] at h
        exact absurd h (by simp)
theorem tdep_pre {f : Nat → Int32} {k q : Nat} (h : tdep f (k + 1) = some q) : ∃ p, tdep f k = some p := by
  cases hd : tdep f k with
  | none => rw [tdep, hd] at h; exact absurd h (by simp)
  | some p => exact ⟨p, rfl⟩
theorem tdep_down {f : Nat → Int32} : ∀ n k q, tdep f (k + n) = some q → ∃ p, tdep f k = some p := by
  intro n
  induction n with
  | zero => intro k q h; exact ⟨q, h⟩
  | succ n ih =>
    intro k q h
    obtain ⟨p, hp⟩ := ih (k + 1) q (by rw [← h]; congr 1; omega)
    exact tdep_pre hp
theorem m1 {p : Nat} (h : 1 ≤ p) (h2 : p ≤ 1000) : nI p + (-1) = nI (p - 1) := by
  rw [show nI p + (-1) = nI p - 1 from (Int32.sub_eq_add_neg _ _).symm]
  exact fs_nn (a := p) (b := 1) h
theorem works_go (d : Nat) {a N : Nat} (ha : a ≤ 280) (hN : N ≤ 60) (f g q : Nat → Int32) (hf : tdep f N = some 1) (hg : ∀ k, k < N → f k = 2 → ∃ j, j < 3 ∧ g k = nI j) : ∀ n k, k + n = N → ∀ S : MS, S.1 55 a = nI N → (∀ k, k < N → S.1 55 (a + 1 + k) = f k) → (∀ k, k < N → S.1 55 (a + 61 + k) = g k) → (∀ j, j < 3 → S.1 63 j = q j) → ∀ p, tdep f k = some p → (∀ j, j < p → S.1 64 j = sv f g q k j) → ∃ T, mv (kX6_works (mFn (d + 1))) 4 [(0, .ref 54), (1, .int (nI a)), (2, .int (nI p)), (3, .int (nI k))] [] S = some (some (.int (sv f g q N 0)), T) ∧ Fr [64] S T := by
  intro n
  induction n with
  | zero =>
    intro k hk S hl _ _ _ p hp hst
    have e : k = N := by omega
    subst e
    have e1 : p = 1 := by rw [hp] at hf; exact Option.some.inj hf
    subst e1
    refine ⟨S, ?_, Fr.rf⟩
    rw [lX6_works_4, if_in (show a < 401 by omega) (by omega), cN (by omega), hl, if_pos (Int32.le_refl _), if_neg (by decide), cl0, hst 0 (by omega)]
  | succ n ih =>
    intro k hk S hl h1 h2 h3 p hp hst
    have hpk := tdep_le k p hp
    obtain ⟨q', hq'⟩ := tdep_down n (k + 1) 1 (by rw [← hf]; congr 1; omega)
    have st := tdep_st hp hq'
    have ed : dp f k = p := dp_of hp
    have row : ∀ R : Option MR, R = mv (kX6_works (mFn (d + 1))) 4 [(0, .ref 54), (1, .int (nI a)), (2, .int (nI p)), (3, .int (nI k))] [] S → True := fun _ _ => trivial
    have e1 : S.1 55 (a + 1 + k) = f k := h1 k (by omega)
    have e2 : S.1 55 (a + 61 + k) = g k := h2 k (by omega)
    have E1 : fAdd (fAdd (nI a) 1) (nI k) = nI (a + 1 + k) := by rw [fa_1, fa_nn]
    have E2 : fAdd (fAdd (nI a) 61) (nI k) = nI (a + 61 + k) := by rw [show fAdd (nI a) 61 = nI (a + 61) from fa_nn a 61, fa_nn]
    have next : ∀ (j : Nat) (v : Int32), (∀ i, i < q' → (uI S 64 j v).1 64 i = sv f g q (k + 1) i) → ∃ T, mv (kX6_works (mFn (d + 1))) 4 [(0, .ref 54), (1, .int (nI a)), (2, .int (nI q')), (3, .int (nI (k + 1)))] [] (uI S 64 j v) = some (some (.int (sv f g q N 0)), T) ∧ Fr [64] S T := by
      intro j v hs
      obtain ⟨T, t1, t2⟩ := ih (k + 1) (by omega) (uI S 64 j v) hl h1 h2 h3 q' hq' hs
      exact ⟨T, t1, (Fr.rf.put (by decide)).tr t2⟩
    rcases st with ⟨c, eq⟩ | ⟨c0, c, hp1, eq⟩ | ⟨c0, c, hp2, eq⟩
    · subst eq
      by_cases c1 : f k = 1
      · obtain ⟨T, t1, t2⟩ := next p (g k) (fun i hi => by
          rw [sv, if_pos c1, ed]
          by_cases hip : i = p
          · rw [hip, uI_eq, upS_eq]
          · rw [uI_ni _ hip, upS_ne hip, hst i (by omega)])
        refine ⟨T, ?_, t2⟩
        rw [lX6_works_4, if_in (show a < 401 by omega) (by omega), cN (show a ≤ 100000 by omega), hl, if_neg (nI_ge (by omega) (by omega)), E1, E2, if_in (show a + 1 + k < 401 by omega) (by omega), cN (show a + 1 + k ≤ 100000 by omega), cN (show a + 61 + k ≤ 100000 by omega), e1, if_pos c1, if_pos c1, if_in2 (show a + 61 + k < 401 by omega) (by omega), if_in (show p < 60 by omega) (by omega), cN (show p ≤ 100000 by omega), e2, add1, add1]
        exact t1
      · have c2 : f k = 2 := c.resolve_left c1
        obtain ⟨j, hj, ej⟩ := hg k (by omega) c2
        obtain ⟨T, t1, t2⟩ := next p (q (g k).toNatClampNeg) (fun i hi => by
          rw [sv, if_neg c1, if_pos c2, ed]
          by_cases hip : i = p
          · rw [hip, uI_eq, upS_eq]
          · rw [uI_ni _ hip, upS_ne hip, hst i (by omega)])
        refine ⟨T, ?_, t2⟩
        rw [lX6_works_4, if_in (show a < 401 by omega) (by omega), cN (show a ≤ 100000 by omega), hl, if_neg (nI_ge (by omega) (by omega)), E1, E2, if_in (show a + 1 + k < 401 by omega) (by omega), cN (show a + 1 + k ≤ 100000 by omega), cN (show a + 61 + k ≤ 100000 by omega), e1, if_neg c1, if_pos c2, if_neg c1, if_in2 (show a + 61 + k < 401 by omega) (by omega), e2]
        rw [ej] at t1 ⊢
        rw [if_in (show j < 3 by omega) (by omega), if_in (show p < 60 by omega) (by omega), cN (show p ≤ 100000 by omega), h3 _ (show (nI j).toNatClampNeg < 3 by rw [cN (by omega)]; exact hj), add1, add1]
        exact t1
    · subst eq
      have c1 : ¬ f k = 1 := fun z => c0 (Or.inl z)
      have c2 : ¬ f k = 2 := fun z => c0 (Or.inr z)
      obtain ⟨T, t1, t2⟩ := next (q' - 1) (if sv f g q k (q' - 1) = 0 then 1 else 0) (fun i hi => by
        rw [sv, if_neg c1, if_neg c2, if_pos c, ed]
        by_cases hip : i = q' - 1
        · rw [hip, uI_eq, upS_eq]
        · rw [uI_ni _ hip, upS_ne hip, hst i (by omega)])
      refine ⟨T, ?_, t2⟩
      rw [lX6_works_4, if_in (show a < 401 by omega) (by omega), cN (show a ≤ 100000 by omega), hl, if_neg (nI_ge (by omega) (by omega)), E1, E2, if_in (show a + 1 + k < 401 by omega) (by omega), cN (show a + 1 + k ≤ 100000 by omega), cN (show a + 61 + k ≤ 100000 by omega), e1, if_neg c1, if_neg c2, if_pos c, show fSub (nI q') 1 = nI (q' - 1) from fs_nn (a := q') (b := 1) hp1, if_in (show q' - 1 < 60 by omega) (by omega), cN (show q' - 1 ≤ 100000 by omega), hst (q' - 1) (by omega), if_in2 (show q' - 1 < 60 by omega) (by omega), if_in2 (show q' - 1 < 60 by omega) (by omega), add1]
      by_cases hz : sv f g q k (q' - 1) = 0
      · rw [if_pos hz] at t1 ⊢
        exact t1
      · rw [if_neg hz] at t1 ⊢
        exact t1
    · subst eq
      have c1 : ¬ f k = 1 := fun z => c0 (Or.inl z)
      have c2 : ¬ f k = 2 := fun z => c0 (Or.inr z)
      obtain ⟨T, t1, t2⟩ := next (p - 2) (two (f k) (sv f g q k (p - 2)) (sv f g q k (p - 1))) (fun i hi => by
        rw [sv, if_neg c1, if_neg c2, if_neg c, ed]
        by_cases hip : i = p - 2
        · rw [hip, uI_eq, upS_eq]
        · rw [uI_ni _ hip, upS_ne hip, hst i (by omega)])
      refine ⟨T, ?_, t2⟩
      rw [lX6_works_4, if_in (show a < 401 by omega) (by omega), cN (show a ≤ 100000 by omega), hl, if_neg (nI_ge (by omega) (by omega)), E1, E2, if_in (show a + 1 + k < 401 by omega) (by omega), cN (show a + 1 + k ≤ 100000 by omega), cN (show a + 61 + k ≤ 100000 by omega), e1, if_neg c1, if_neg c2, if_neg c, m1 (by omega) (by omega), lX6_works_122, show fSub (nI (p - 1)) 1 = nI (p - 2) from fs_nn (a := p - 1) (b := 1) (by omega), if_in (show p - 2 < 60 by omega) (by omega), if_in (show p - 1 < 60 by omega) (by omega), cN (show p - 2 ≤ 100000 by omega), cN (show p - 1 ≤ 100000 by omega), hst (p - 2) (by omega), hst (p - 1) (by omega), two_M, bI_some, if_in2 (show p - 2 < 60 by omega) (by omega), add1]
      exact t1
theorem value0_go (d : Nat) {N : Nat} (hN : N ≤ 60) (f g : Nat → Int32) (x y z : Int32) (hf : tdep f N = some 1) : ∀ n k, k + n = N → ∀ S : MS, S.1 12 1 = nI N → (∀ k, k < N → tcor (S.1 13 k) (f k) (g k)) → ∀ p, tdep f k = some p → (∀ j, j < p → S.1 14 j = sv f g (ar x y z) k j) → ∃ T, mv (kX4_value (mFn (d + 1))) 6 [(0, .ref 12), (1, .int x), (2, .int y), (3, .int z), (4, .int (nI p)), (5, .int (nI k))] [] S = some (some (.int (sv f g (ar x y z) N 0)), T) ∧ Fr [14] S T := by
  intro n
  induction n with
  | zero =>
    intro k hk S hl _ p hp hst
    have e : k = N := by omega
    subst e
    have e1 : p = 1 := by rw [hp] at hf; exact Option.some.inj hf
    subst e1
    refine ⟨S, ?_, Fr.rf⟩
    rw [lX4_value_0_6, hl, if_pos (Int32.le_refl _), if_neg (by decide), if_neg (by decide), cl0, hst 0 (by omega)]
  | succ n ih =>
    intro k hk S hl h1 p hp hst
    have hpk := tdep_le k p hp
    obtain ⟨q', hq'⟩ := tdep_down n (k + 1) 1 (by rw [← hf]; congr 1; omega)
    have st := tdep_st hp hq'
    have ed : dp f k = p := dp_of hp
    have next : ∀ (j : Nat) (v : Int32), (∀ i, i < q' → (uI S 14 j v).1 14 i = sv f g (ar x y z) (k + 1) i) → ∃ T, mv (kX4_value (mFn (d + 1))) 6 [(0, .ref 12), (1, .int x), (2, .int y), (3, .int z), (4, .int (nI q')), (5, .int (nI (k + 1)))] [] (uI S 14 j v) = some (some (.int (sv f g (ar x y z) N 0)), T) ∧ Fr [14] S T := by
      intro j v hs
      obtain ⟨T, t1, t2⟩ := ih (k + 1) (by omega) (uI S 14 j v) hl h1 q' hq' hs
      exact ⟨T, t1, (Fr.rf.put (by decide)).tr t2⟩
    rcases h1 k (by omega) with ⟨a1, a2, a3, a4⟩ | ⟨a1, j, hj, a2, a3⟩ | ⟨a1, a2⟩ | ⟨c, hc1, hc2, hc3, a1, a2⟩
    · have eq : q' = p + 1 := by
        rcases st with ⟨_, e⟩ | ⟨c0, _⟩ | ⟨c0, _⟩
        · exact e
        · exact absurd (Or.inl a1) c0
        · exact absurd (Or.inl a1) c0
      subst eq
      obtain ⟨T, t1, t2⟩ := next p (g k) (fun i hi => by
        rw [sv, if_pos a1, ed]
        by_cases hip : i = p
        · rw [hip, uI_eq, upS_eq]
        · rw [uI_ni _ hip, upS_ne hip, hst i (by omega)])
      refine ⟨T, ?_, t2⟩
      obtain ⟨w, hw, ew⟩ := r9999 ⟨a3, a4⟩
      rw [a2] at t1
      rw [lX4_value_0_6, hl, if_neg (nI_ge (by omega) (by omega)), if_in (show k < 60 by omega) (by omega), cN (show k ≤ 100000 by omega), add1, add1]
      rw [ew] at t1 ⊢
      rw [if_neg (show ¬ nI w = 100033 from fun z => by have := (nI_eq (a := w) (b := 100033) (by omega) (by omega)).mp z; omega), if_pos (show nI w < 100000 from nI_lt (a := w) (b := 100000) (by omega) (by decide)), if_neg (show ¬ (60 : Int32) ≤ nI p from nI_ge (a := p) (b := 60) (by omega) (by decide)), if_neg (nI_pos (by omega)), if_in (show p < 60 by omega) (by omega), cN (show p ≤ 100000 by omega)]
      exact t1
    · have eq : q' = p + 1 := by
        rcases st with ⟨_, e⟩ | ⟨c0, _⟩ | ⟨c0, _⟩
        · exact e
        · exact absurd (Or.inr a1) c0
        · exact absurd (Or.inr a1) c0
      subst eq
      obtain ⟨T, t1, t2⟩ := next p (ar x y z j) (fun i hi => by
        rw [sv, if_neg (by rw [a1]; decide), if_pos a1, ed, a2, cN (show j ≤ 100000 by omega)]
        by_cases hip : i = p
        · rw [hip, uI_eq, upS_eq]
        · rw [uI_ni _ hip, upS_ne hip, hst i (by omega)])
      refine ⟨T, ?_, t2⟩
      rw [lX4_value_0_6, hl, if_neg (nI_ge (by omega) (by omega)), if_in (show k < 60 by omega) (by omega), cN (show k ≤ 100000 by omega), add1, add1, a3, cN (show p ≤ 100000 by omega)]
      have j3 : j = 0 ∨ j = 1 ∨ j = 2 := by omega
      have i60 : ¬ (60 : Int32) ≤ nI p := nI_ge (a := p) (b := 60) (by omega) (by decide)
      rcases j3 with rfl | rfl | rfl
      · rw [if_neg (by decide), if_pos (by decide), if_neg i60, if_pos (by decide), if_pos (by decide), if_in2 (show p < 60 by omega) (by omega)]
        exact t1
      · rw [if_neg (by decide), if_pos (by decide), if_neg i60, if_pos (by decide), if_neg (by decide), if_pos (by decide), if_in2 (show p < 60 by omega) (by omega)]
        exact t1
      · rw [if_neg (by decide), if_pos (by decide), if_neg i60, if_pos (by decide), if_neg (by decide), if_neg (by decide), if_in2 (show p < 60 by omega) (by omega)]
        exact t1
    · have c0 : ¬ (f k = 1 ∨ f k = 2) := by rw [a1]; decide
      have eq : 1 ≤ p ∧ q' = p := by
        rcases st with ⟨c, _⟩ | ⟨_, _, h1, h2⟩ | ⟨_, c3, _⟩
        · exact absurd c c0
        · exact ⟨h1, h2⟩
        · exact absurd a1 c3
      obtain ⟨hp1, eq⟩ := eq
      subst eq
      obtain ⟨T, t1, t2⟩ := next (q' - 1) (if sv f g (ar x y z) k (q' - 1) = 0 then 1 else 0) (fun i hi => by
        rw [sv, if_neg (fun z => c0 (Or.inl z)), if_neg (fun z => c0 (Or.inr z)), if_pos a1, ed]
        by_cases hip : i = q' - 1
        · rw [hip, uI_eq, upS_eq]
        · rw [uI_ni _ hip, upS_ne hip, hst i (by omega)])
      refine ⟨T, ?_, t2⟩
      rw [lX4_value_0_6, hl, if_neg (nI_ge (by omega) (by omega)), if_in (show k < 60 by omega) (by omega), cN (show k ≤ 100000 by omega), add1, a2, if_pos rfl, if_neg (show ¬ nI q' ≤ 0 from nI_ge (a := 0) (b := q') (by omega) (by omega)), show fSub (nI q') 1 = nI (q' - 1) from fs_nn (a := q') (b := 1) hp1, if_in (show q' - 1 < 60 by omega) (by omega), cN (show q' - 1 ≤ 100000 by omega), hst (q' - 1) (by omega), if_in2 (show q' - 1 < 60 by omega) (by omega), if_in2 (show q' - 1 < 60 by omega) (by omega)]
      by_cases hz : sv f g (ar x y z) k (q' - 1) = 0
      · rw [if_pos hz] at t1 ⊢
        exact t1
      · rw [if_neg hz] at t1 ⊢
        exact t1
    · have n1 : ∀ m, m < 4 → ¬ f k = nI m := fun m hm z => by
        rw [a1] at z
        have := (nI_eq (a := c) (b := m) (by omega) (by omega)).mp z
        omega
      have c0 : ¬ (f k = 1 ∨ f k = 2) := fun z => z.elim (n1 1 (by omega)) (n1 2 (by omega))
      have eq : 2 ≤ p ∧ q' = p - 1 := by
        rcases st with ⟨c, _⟩ | ⟨_, c3, _⟩ | ⟨_, _, h1, h2⟩
        · exact absurd c c0
        · exact absurd c3 (n1 3 (by omega))
        · exact ⟨h1, h2⟩
      obtain ⟨hp2, eq⟩ := eq
      subst eq
      obtain ⟨T, t1, t2⟩ := next (p - 2) (two (f k) (sv f g (ar x y z) k (p - 2)) (sv f g (ar x y z) k (p - 1))) (fun i hi => by
        rw [sv, if_neg (fun z => c0 (Or.inl z)), if_neg (fun z => c0 (Or.inr z)), if_neg (show ¬ f k = 3 from n1 3 (by omega)), ed]
        by_cases hip : i = p - 2
        · rw [hip, uI_eq, upS_eq]
        · rw [uI_ni _ hip, upS_ne hip, hst i (by omega)])
      refine ⟨T, ?_, t2⟩
      rw [lX4_value_0_6, hl, if_neg (nI_ge (by omega) (by omega)), if_in (show k < 60 by omega) (by omega), cN (show k ≤ 100000 by omega), add1, a2, if_neg (show ¬ nI (100000 + c) = 100033 from fun z => by have := (nI_eq (a := 100000 + c) (b := 100033) (by omega) (by omega)).mp z; omega), if_neg (show ¬ nI (100000 + c) < 100000 from nI_nlt (a := 100000 + c) (b := 100000) (by omega) (by omega)), if_neg (show ¬ nI p ≤ 1 from nI_ge (a := 1) (b := p) (by omega) (by omega)), m1 (by omega) (by omega), lX4_value_0_81, show fSub (nI (p - 1)) 1 = nI (p - 2) from fs_nn (a := p - 1) (b := 1) (by omega), if_in (show p - 2 < 60 by omega) (by omega), if_in (show p - 1 < 60 by omega) (by omega), cN (show p - 2 ≤ 100000 by omega), cN (show p - 1 ≤ 100000 by omega), hst (p - 2) (by omega), hst (p - 1) (by omega), show fSub (nI (100000 + c)) 100000 = nI c from (fs_nn (a := 100000 + c) (b := 100000) (by omega)).trans (by rw [Nat.add_sub_cancel_left]), two_C, bI_some, if_in2 (show p - 2 < 60 by omega) (by omega), ← a1, add1]
      exact t1
theorem value1_go (d : Nat) {N : Nat} (hN : N ≤ 60) (f g : Nat → Int32) (x y z : Int32) (hf : tdep f N = some 1) : ∀ n k, k + n = N → ∀ S : MS, S.1 15 1 = nI N → (∀ k, k < N → tcor (S.1 16 k) (f k) (g k)) → ∀ p, tdep f k = some p → (∀ j, j < p → S.1 17 j = sv f g (ar x y z) k j) → ∃ T, mv (kX4_value (mFn (d + 1))) 6 [(0, .ref 15), (1, .int x), (2, .int y), (3, .int z), (4, .int (nI p)), (5, .int (nI k))] [] S = some (some (.int (sv f g (ar x y z) N 0)), T) ∧ Fr [17] S T := by
  intro n
  induction n with
  | zero =>
    intro k hk S hl _ p hp hst
    have e : k = N := by omega
    subst e
    have e1 : p = 1 := by rw [hp] at hf; exact Option.some.inj hf
    subst e1
    refine ⟨S, ?_, Fr.rf⟩
    rw [lX4_value_1_6, hl, if_pos (Int32.le_refl _), if_neg (by decide), if_neg (by decide), cl0, hst 0 (by omega)]
  | succ n ih =>
    intro k hk S hl h1 p hp hst
    have hpk := tdep_le k p hp
    obtain ⟨q', hq'⟩ := tdep_down n (k + 1) 1 (by rw [← hf]; congr 1; omega)
    have st := tdep_st hp hq'
    have ed : dp f k = p := dp_of hp
    have next : ∀ (j : Nat) (v : Int32), (∀ i, i < q' → (uI S 17 j v).1 17 i = sv f g (ar x y z) (k + 1) i) → ∃ T, mv (kX4_value (mFn (d + 1))) 6 [(0, .ref 15), (1, .int x), (2, .int y), (3, .int z), (4, .int (nI q')), (5, .int (nI (k + 1)))] [] (uI S 17 j v) = some (some (.int (sv f g (ar x y z) N 0)), T) ∧ Fr [17] S T := by
      intro j v hs
      obtain ⟨T, t1, t2⟩ := ih (k + 1) (by omega) (uI S 17 j v) hl h1 q' hq' hs
      exact ⟨T, t1, (Fr.rf.put (by decide)).tr t2⟩
    rcases h1 k (by omega) with ⟨a1, a2, a3, a4⟩ | ⟨a1, j, hj, a2, a3⟩ | ⟨a1, a2⟩ | ⟨c, hc1, hc2, hc3, a1, a2⟩
    · have eq : q' = p + 1 := by
        rcases st with ⟨_, e⟩ | ⟨c0, _⟩ | ⟨c0, _⟩
        · exact e
        · exact absurd (Or.inl a1) c0
        · exact absurd (Or.inl a1) c0
      subst eq
      obtain ⟨T, t1, t2⟩ := next p (g k) (fun i hi => by
        rw [sv, if_pos a1, ed]
        by_cases hip : i = p
        · rw [hip, uI_eq, upS_eq]
        · rw [uI_ni _ hip, upS_ne hip, hst i (by omega)])
      refine ⟨T, ?_, t2⟩
      obtain ⟨w, hw, ew⟩ := r9999 ⟨a3, a4⟩
      rw [a2] at t1
      rw [lX4_value_1_6, hl, if_neg (nI_ge (by omega) (by omega)), if_in (show k < 60 by omega) (by omega), cN (show k ≤ 100000 by omega), add1, add1]
      rw [ew] at t1 ⊢
      rw [if_neg (show ¬ nI w = 100033 from fun z => by have := (nI_eq (a := w) (b := 100033) (by omega) (by omega)).mp z; omega), if_pos (show nI w < 100000 from nI_lt (a := w) (b := 100000) (by omega) (by decide)), if_neg (show ¬ (60 : Int32) ≤ nI p from nI_ge (a := p) (b := 60) (by omega) (by decide)), if_neg (nI_pos (by omega)), if_in (show p < 60 by omega) (by omega), cN (show p ≤ 100000 by omega)]
      exact t1
    · have eq : q' = p + 1 := by
        rcases st with ⟨_, e⟩ | ⟨c0, _⟩ | ⟨c0, _⟩
        · exact e
        · exact absurd (Or.inr a1) c0
        · exact absurd (Or.inr a1) c0
      subst eq
      obtain ⟨T, t1, t2⟩ := next p (ar x y z j) (fun i hi => by
        rw [sv, if_neg (by rw [a1]; decide), if_pos a1, ed, a2, cN (show j ≤ 100000 by omega)]
        by_cases hip : i = p
        · rw [hip, uI_eq, upS_eq]
        · rw [uI_ni _ hip, upS_ne hip, hst i (by omega)])
      refine ⟨T, ?_, t2⟩
      rw [lX4_value_1_6, hl, if_neg (nI_ge (by omega) (by omega)), if_in (show k < 60 by omega) (by omega), cN (show k ≤ 100000 by omega), add1, add1, a3, cN (show p ≤ 100000 by omega)]
      have j3 : j = 0 ∨ j = 1 ∨ j = 2 := by omega
      have i60 : ¬ (60 : Int32) ≤ nI p := nI_ge (a := p) (b := 60) (by omega) (by decide)
      rcases j3 with rfl | rfl | rfl
      · rw [if_neg (by decide), if_pos (by decide), if_neg i60, if_pos (by decide), if_pos (by decide), if_in2 (show p < 60 by omega) (by omega)]
        exact t1
      · rw [if_neg (by decide), if_pos (by decide), if_neg i60, if_pos (by decide), if_neg (by decide), if_pos (by decide), if_in2 (show p < 60 by omega) (by omega)]
        exact t1
      · rw [if_neg (by decide), if_pos (by decide), if_neg i60, if_pos (by decide), if_neg (by decide), if_neg (by decide), if_in2 (show p < 60 by omega) (by omega)]
        exact t1
    · have c0 : ¬ (f k = 1 ∨ f k = 2) := by rw [a1]; decide
      have eq : 1 ≤ p ∧ q' = p := by
        rcases st with ⟨c, _⟩ | ⟨_, _, h1, h2⟩ | ⟨_, c3, _⟩
        · exact absurd c c0
        · exact ⟨h1, h2⟩
        · exact absurd a1 c3
      obtain ⟨hp1, eq⟩ := eq
      subst eq
      obtain ⟨T, t1, t2⟩ := next (q' - 1) (if sv f g (ar x y z) k (q' - 1) = 0 then 1 else 0) (fun i hi => by
        rw [sv, if_neg (fun z => c0 (Or.inl z)), if_neg (fun z => c0 (Or.inr z)), if_pos a1, ed]
        by_cases hip : i = q' - 1
        · rw [hip, uI_eq, upS_eq]
        · rw [uI_ni _ hip, upS_ne hip, hst i (by omega)])
      refine ⟨T, ?_, t2⟩
      rw [lX4_value_1_6, hl, if_neg (nI_ge (by omega) (by omega)), if_in (show k < 60 by omega) (by omega), cN (show k ≤ 100000 by omega), add1, a2, if_pos rfl, if_neg (show ¬ nI q' ≤ 0 from nI_ge (a := 0) (b := q') (by omega) (by omega)), show fSub (nI q') 1 = nI (q' - 1) from fs_nn (a := q') (b := 1) hp1, if_in (show q' - 1 < 60 by omega) (by omega), cN (show q' - 1 ≤ 100000 by omega), hst (q' - 1) (by omega), if_in2 (show q' - 1 < 60 by omega) (by omega), if_in2 (show q' - 1 < 60 by omega) (by omega)]
      by_cases hz : sv f g (ar x y z) k (q' - 1) = 0
      · rw [if_pos hz] at t1 ⊢
        exact t1
      · rw [if_neg hz] at t1 ⊢
        exact t1
    · have n1 : ∀ m, m < 4 → ¬ f k = nI m := fun m hm z => by
        rw [a1] at z
        have := (nI_eq (a := c) (b := m) (by omega) (by omega)).mp z
        omega
      have c0 : ¬ (f k = 1 ∨ f k = 2) := fun z => z.elim (n1 1 (by omega)) (n1 2 (by omega))
      have eq : 2 ≤ p ∧ q' = p - 1 := by
        rcases st with ⟨c, _⟩ | ⟨_, c3, _⟩ | ⟨_, _, h1, h2⟩
        · exact absurd c c0
        · exact absurd c3 (n1 3 (by omega))
        · exact ⟨h1, h2⟩
      obtain ⟨hp2, eq⟩ := eq
      subst eq
      obtain ⟨T, t1, t2⟩ := next (p - 2) (two (f k) (sv f g (ar x y z) k (p - 2)) (sv f g (ar x y z) k (p - 1))) (fun i hi => by
        rw [sv, if_neg (fun z => c0 (Or.inl z)), if_neg (fun z => c0 (Or.inr z)), if_neg (show ¬ f k = 3 from n1 3 (by omega)), ed]
        by_cases hip : i = p - 2
        · rw [hip, uI_eq, upS_eq]
        · rw [uI_ni _ hip, upS_ne hip, hst i (by omega)])
      refine ⟨T, ?_, t2⟩
      rw [lX4_value_1_6, hl, if_neg (nI_ge (by omega) (by omega)), if_in (show k < 60 by omega) (by omega), cN (show k ≤ 100000 by omega), add1, a2, if_neg (show ¬ nI (100000 + c) = 100033 from fun z => by have := (nI_eq (a := 100000 + c) (b := 100033) (by omega) (by omega)).mp z; omega), if_neg (show ¬ nI (100000 + c) < 100000 from nI_nlt (a := 100000 + c) (b := 100000) (by omega) (by omega)), if_neg (show ¬ nI p ≤ 1 from nI_ge (a := 1) (b := p) (by omega) (by omega)), m1 (by omega) (by omega), lX4_value_1_81, show fSub (nI (p - 1)) 1 = nI (p - 2) from fs_nn (a := p - 1) (b := 1) (by omega), if_in (show p - 2 < 60 by omega) (by omega), if_in (show p - 1 < 60 by omega) (by omega), cN (show p - 2 ≤ 100000 by omega), cN (show p - 1 ≤ 100000 by omega), hst (p - 2) (by omega), hst (p - 1) (by omega), show fSub (nI (100000 + c)) 100000 = nI c from (fs_nn (a := 100000 + c) (b := 100000) (by omega)).trans (by rw [Nat.add_sub_cancel_left]), two_C, bI_some, if_in2 (show p - 2 < 60 by omega) (by omega), ← a1, add1]
      exact t1
