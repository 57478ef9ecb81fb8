/-! ===== texts: reading, both sides in step ===== -/
abbrev TW : Type := Nat → Int32 × Int32 × Int32
def acts (W : TW) : Nat → Int32 := fun k => (W k).2.1
def upW (W : TW) (n : Nat) (t : Int32 × Int32 × Int32) : TW := fun k => if k = n then t else W k
theorem upW_eq (W : TW) (n : Nat) (t : Int32 × Int32 × Int32) : upW W n t n = t := if_pos rfl
theorem upW_ne {W : TW} {n k : Nat} {t : Int32 × Int32 × Int32} (h : k ≠ n) : upW W n t k = W k := if_neg h
theorem tdep_c {f g : Nat → Int32} : ∀ n, (∀ k, k < n → f k = g k) → tdep f n = tdep g n := by
  intro n
  induction n with
  | zero => intro _; rfl
  | succ n ih =>
    intro h
    rw [tdep, tdep, ih (fun k hk => h k (by omega)), h n (by omega)]
theorem tdep_up {W : TW} {n p : Nat} {t : Int32 × Int32 × Int32} (h : tdep (acts W) n = some p) : tdep (acts (upW W n t)) (n + 1) = (if t.2.1 = 1 ∨ t.2.1 = 2 then some (p + 1) else if t.2.1 = 3 then (if 1 ≤ p then some p else none) else (if 2 ≤ p then some (p - 1) else none)) := by
  have e : acts (upW W n t) n = t.2.1 := by unfold acts; rw [upW_eq]
  rw [tdep, tdep_c (g := acts W) n (fun k hk => by unfold acts; rw [upW_ne (by omega)]), h, e]
def pk (τ : Nat → Int32) (nt a : Nat) : Int32 := if a < nt then τ a else -1
def CT (q nt : Nat) (τ : Nat → Int32) (S : MS) (a : Nat) : Prop := (∃ T, S = rho T q) ∧ S.1 39 5 = nI nt ∧ S.1 39 6 = nI a ∧ ∀ i, i < nt → S.1 9 i = τ i
def CP (q nt : Nat) (τ : Nat → Int32) (S : MS) (a n : Nat) (W : TW) : Prop := CT q nt τ S a ∧ S.1 39 7 = 0 ∧ S.1 39 1 = nI n ∧ ∀ i, i < n → S.1 40 i = (W i).1
def CBd (q nt : Nat) (τ : Nat → Int32) (S : MS) (a : Nat) : Prop := CT q nt τ S a ∧ S.1 39 7 = 1
def MT (u nt : Nat) (τ : Nat → Int32) (S : MS) (a : Nat) : Prop := S.1 54 12 = nI a ∧ S.1 54 15 = nI u ∧ S.1 55 5 = nI nt ∧ ∀ i, i < nt → S.1 55 (75 + i) = τ i
def MP (u nt : Nat) (τ : Nat → Int32) (op : Nat) (S : MS) (a n : Nat) (W : TW) : Prop := MT u nt τ S a ∧ S.1 54 13 = nI op ∧ S.1 54 14 = 0 ∧ S.1 54 11 = nI n ∧ ∀ i, i < n → S.1 61 i = (W i).2.1 ∧ S.1 62 i = (W i).2.2
def MBd (u nt : Nat) (τ : Nat → Int32) (S : MS) (a : Nat) : Prop := MT u nt τ S a ∧ S.1 54 14 = 1 ∧ ∃ n, n ≤ 60 ∧ S.1 54 11 = nI n
def FT (S S' : MS) : Prop := Fr [54, 61, 62] S S' ∧ ∀ j, j ≠ 11 → j ≠ 12 → j ≠ 13 → j ≠ 14 → S'.1 54 j = S.1 54 j
theorem FT.rf {S : MS} : FT S S := ⟨Fr.rf, fun _ _ _ _ _ => rfl⟩
theorem FT.tr {S T U : MS} (a : FT S T) (b : FT T U) : FT S U := ⟨a.1.tr b.1, fun j h1 h2 h3 h4 => (b.2 j h1 h2 h3 h4).trans (a.2 j h1 h2 h3 h4)⟩
theorem FT.set {S T : MS} {j : Nat} {v : Int32} (a : FT S T) (hj : j = 11 ∨ j = 12 ∨ j = 13 ∨ j = 14) : FT S (uI T 54 j v) := ⟨a.1.put (by decide), fun i h1 h2 h3 h4 => by rw [uI_ni _ (by omega)]; exact a.2 i h1 h2 h3 h4⟩
theorem peekC (d : Nat) {q nt a : Nat} {τ : Nat → Int32} {S : MS} (hn : nt ≤ 60) (h : CT q nt τ S a) (ha : a ≤ 60) : mFn (d + 1) 31 [.ref 39] S = some (some (.int (pk τ nt a)), S) := by
  obtain ⟨⟨T, rfl⟩, h5, h6, h9⟩ := h
  rw [fX4_peek, h5, h6]
  unfold pk
  by_cases c : a < nt
  · rw [if_pos c, if_neg (nI_ge c (by omega)), if_in (show a < 60 by omega) (by omega), cN (by omega), h9 a c]
  · rw [if_neg c, if_pos (nI_le (by omega) (by omega))]
theorem lookM (d : Nat) {u nt a : Nat} {τ : Nat → Int32} {S : MS} (hn : nt ≤ 60) (h : MT u nt τ S a) (ha : a ≤ 60) : mFn (d + 1) 113 [.ref 54] S = some (some (.int (pk τ nt a)), S) := by
  obtain ⟨h12, h15, h5, h9⟩ := h
  rw [fX6_look, il5, cl5, h5, h12]
  unfold pk
  by_cases c : a < nt
  · rw [if_pos c, if_neg (nI_ge c (by omega)), show fAdd 75 (nI a) = nI (75 + a) from fa_nn 75 a, if_in (show 75 + a < 401 by omega) (by omega), cN (by omega), h9 a c]
  · rw [if_neg c, if_pos (nI_le (by omega) (by omega))]
theorem CT_set {q nt a j : Nat} {τ : Nat → Int32} {S : MS} {v : Int32} (h : CT q nt τ S a) (hj : j ≠ 5 ∧ j ≠ 6) : CT q nt τ (uI S 39 j v) a := by
  obtain ⟨⟨T, rfl⟩, h5, h6, h9⟩ := h
  refine ⟨⟨uI T 39 j v, rfl⟩, ?_, ?_, fun i hi => ?_⟩
  · rw [uI_ni _ (by omega)]; exact h5
  · rw [uI_ni _ (by omega)]; exact h6
  · rw [uI_oth (by decide)]; exact h9 i hi
theorem CT_at {q nt a a' : Nat} {τ : Nat → Int32} {S : MS} (h : CT q nt τ S a) : CT q nt τ (uI S 39 6 (nI a')) a' := by
  obtain ⟨⟨T, rfl⟩, h5, h6, h9⟩ := h
  refine ⟨⟨uI T 39 6 (nI a'), rfl⟩, ?_, ?_, fun i hi => ?_⟩
  · rw [uI_ni _ (by decide)]; exact h5
  · rw [uI_eq]
  · rw [uI_oth (by decide)]; exact h9 i hi
theorem CP_at {q nt a a' n : Nat} {τ : Nat → Int32} {S : MS} {W : TW} (h : CP q nt τ S a n W) : CP q nt τ (uI S 39 6 (nI a')) a' n W := by
  obtain ⟨h0, h7, h1, hw⟩ := h
  refine ⟨CT_at h0, ?_, ?_, fun i hi => ?_⟩
  · rw [uI_ni _ (by decide)]; exact h7
  · rw [uI_ni _ (by decide)]; exact h1
  · rw [uI_oth (by decide)]; exact hw i hi
theorem CP_bad {q nt a n : Nat} {τ : Nat → Int32} {S : MS} {W : TW} (h : CP q nt τ S a n W) : CBd q nt τ (uI S 39 7 1) a := ⟨CT_set h.1 ⟨by decide, by decide⟩, uI_eq _ _ _ _⟩
theorem MT_at {u nt a a' : Nat} {τ : Nat → Int32} {S : MS} (h : MT u nt τ S a) : MT u nt τ (uI S 54 12 (nI a')) a' := by
  obtain ⟨h12, h15, h5, h9⟩ := h
  refine ⟨uI_eq _ _ _ _, ?_, ?_, fun i hi => ?_⟩
  · rw [uI_ni _ (by decide)]; exact h15
  · rw [uI_oth (by decide)]; exact h5
  · rw [uI_oth (by decide)]; exact h9 i hi
theorem MT_set {u nt a j : Nat} {τ : Nat → Int32} {S : MS} {v : Int32} (h : MT u nt τ S a) (hj : j ≠ 12 ∧ j ≠ 15) : MT u nt τ (uI S 54 j v) a := by
  obtain ⟨h12, h15, h5, h9⟩ := h
  refine ⟨?_, ?_, ?_, fun i hi => ?_⟩
  · rw [uI_ni _ (by omega)]; exact h12
  · rw [uI_ni _ (by omega)]; exact h15
  · rw [uI_oth (by decide)]; exact h5
  · rw [uI_oth (by decide)]; exact h9 i hi
theorem MP_at {u nt op a a' n : Nat} {τ : Nat → Int32} {S : MS} {W : TW} (h : MP u nt τ op S a n W) : MP u nt τ op (uI S 54 12 (nI a')) a' n W := by
  obtain ⟨h0, h13, h14, h11, hw⟩ := h
  refine ⟨MT_at h0, ?_, ?_, ?_, fun i hi => ?_⟩
  · rw [uI_ni _ (by decide)]; exact h13
  · rw [uI_ni _ (by decide)]; exact h14
  · rw [uI_ni _ (by decide)]; exact h11
  · rw [uI_oth (by decide), uI_oth (by decide)]; exact hw i hi
theorem MP_op {u nt op op' a n : Nat} {τ : Nat → Int32} {S : MS} {W : TW} (h : MP u nt τ op S a n W) : MP u nt τ op' (uI S 54 13 (nI op')) a n W := by
  obtain ⟨h0, h13, h14, h11, hw⟩ := h
  refine ⟨MT_set h0 ⟨by decide, by decide⟩, uI_eq _ _ _ _, ?_, ?_, fun i hi => ?_⟩
  · rw [uI_ni _ (by decide)]; exact h14
  · rw [uI_ni _ (by decide)]; exact h11
  · rw [uI_oth (by decide), uI_oth (by decide)]; exact hw i hi
theorem MP_14 {u nt op a n : Nat} {τ : Nat → Int32} {S : MS} {W : TW} (h : MP u nt τ op S a n W) : MP u nt τ op (uI S 54 14 0) a n W := by
  obtain ⟨h0, h13, h14, h11, hw⟩ := h
  refine ⟨MT_set h0 ⟨by decide, by decide⟩, ?_, uI_eq _ _ _ _, ?_, fun i hi => ?_⟩
  · rw [uI_ni _ (by decide)]; exact h13
  · rw [uI_ni _ (by decide)]; exact h11
  · rw [uI_oth (by decide), uI_oth (by decide)]; exact hw i hi
theorem MP_bad {u nt op a n : Nat} {τ : Nat → Int32} {S : MS} {W : TW} (hn : n ≤ 60) (h : MP u nt τ op S a n W) : MBd u nt τ (uI S 54 14 1) a := by
  obtain ⟨h0, h13, h14, h11, hw⟩ := h
  exact ⟨MT_set h0 ⟨by decide, by decide⟩, uI_eq _ _ _ _, n, hn, by rw [uI_ni _ (by decide)]; exact h11⟩
theorem MBd_set {u nt a j : Nat} {τ : Nat → Int32} {S : MS} {v : Int32} (h : MBd u nt τ S a) (hj : j = 13 ∨ (j = 14 ∧ v = 1)) : MBd u nt τ (uI S 54 j v) a := by
  obtain ⟨h0, h14, n, hn, h11⟩ := h
  refine ⟨MT_set h0 ⟨by omega, by omega⟩, ?_, n, hn, by rw [uI_ni _ (by omega)]; exact h11⟩
  rcases hj with rfl | ⟨rfl, rfl⟩
  · rw [uI_ni _ (by decide)]; exact h14
  · rw [uI_eq]
theorem addC (d : Nat) {q nt a n : Nat} {τ : Nat → Int32} {S : MS} {W : TW} (h : CP q nt τ S a n W) (hn : n < 60) (x : Int32) : ∃ S', mFn (d + 1) 34 [.ref 39, .int x] S = some (none, S') ∧ (∀ y z, CP q nt τ S' a (n + 1) (upW W n (x, y, z))) ∧ Fr [39, 40] S S' := by
  obtain ⟨⟨⟨T, rfl⟩, h5, h6, h9⟩, h7, h1, hw⟩ := h
  refine ⟨uI (uI (rho T q) 40 n x) 39 1 (nI (n + 1)), ?_, fun y z => ⟨⟨⟨uI (uI T 40 n x) 39 1 (nI (n + 1)), rfl⟩, ?_, ?_, fun i hi => ?_⟩, ?_, uI_eq _ _ _ _, fun i hi => ?_⟩, (Fr.rf.put (by decide)).put (by decide)⟩
  · rw [fX4_addStep, if_pos h7, h1, if_pos (show nI n < 60 from nI_lt (a := n) (b := 60) hn (by decide)), if_in hn (by omega), cN (by omega), fa_1]
  · rw [uI_ni _ (by decide), uI_oth (by decide)]; exact h5
  · rw [uI_ni _ (by decide), uI_oth (by decide)]; exact h6
  · rw [uI_oth (by decide), uI_oth (by decide)]; exact h9 i hi
  · rw [uI_ni _ (by decide), uI_oth (by decide)]; exact h7
  · rw [uI_oth (by decide)]
    by_cases e : i = n
    · rw [e, uI_eq, upW_eq]
    · rw [uI_ni _ e, upW_ne e]
      exact hw i (by omega)
theorem addCb (d : Nat) {q nt a : Nat} {τ : Nat → Int32} {S : MS} (h : CBd q nt τ S a) (x : Int32) : mFn (d + 1) 34 [.ref 39, .int x] S = some (none, S) := by
  obtain ⟨⟨⟨T, rfl⟩, h5, h6, h9⟩, h7⟩ := h
  rw [fX4_addStep, if_neg (by rw [h7]; decide)]
theorem layM (d : Nat) {u nt op a n : Nat} {τ : Nat → Int32} {S : MS} {W : TW} (h : MP u nt τ op S a n W) (hn : n < 60) (y z : Int32) : ∃ S', mFn (d + 1) 114 [.ref 54, .int y, .int z] S = some (none, S') ∧ (∀ x, MP u nt τ op S' a (n + 1) (upW W n (x, y, z))) ∧ FT S S' := by
  obtain ⟨⟨h12, h15, h5, h9⟩, h13, h14, h11, hw⟩ := h
  refine ⟨uI (uI (uI S 61 n y) 62 n z) 54 11 (nI (n + 1)), ?_, fun x => ⟨⟨?_, ?_, ?_, fun i hi => ?_⟩, ?_, ?_, uI_eq _ _ _ _, fun i hi => ?_⟩, ((Fr.rf.put (by decide)).put (by decide)).put (by decide), fun j h1 h2 h3 h4 => ?_⟩
  · rw [fX6_lays, h11, if_neg (show ¬ Int32.ofNat 60 ≤ nI n from nI_ge (a := n) (b := 60) hn (by decide)), if_in hn (by omega), if_in hn (by omega), cN (by omega), fa_1]
  · rw [uI_ni _ (by decide), uI_oth (by decide), uI_oth (by decide)]; exact h12
  · rw [uI_ni _ (by decide), uI_oth (by decide), uI_oth (by decide)]; exact h15
  · rw [uI_oth (by decide), uI_oth (by decide), uI_oth (by decide)]; exact h5
  · rw [uI_oth (by decide), uI_oth (by decide), uI_oth (by decide)]; exact h9 i hi
  · rw [uI_ni _ (by decide), uI_oth (by decide), uI_oth (by decide)]; exact h13
  · rw [uI_ni _ (by decide), uI_oth (by decide), uI_oth (by decide)]; exact h14
  · rw [uI_oth (by decide), uI_oth (show (61 : Nat) ≠ 62 by decide), uI_oth (show (62 : Nat) ≠ 54 by decide)]
    by_cases e : i = n
    · rw [e, uI_eq, uI_eq, upW_eq]
      exact ⟨rfl, rfl⟩
    · rw [uI_ni _ e, uI_ni _ e, uI_oth (by decide), upW_ne e]
      exact hw i (by omega)
  · rw [uI_ni _ h1, uI_oth (by decide), uI_oth (by decide)]
theorem layMb (d : Nat) {u nt a : Nat} {τ : Nat → Int32} {S : MS} (h : MBd u nt τ S a) (y z : Int32) : ∃ S', mFn (d + 1) 114 [.ref 54, .int y, .int z] S = some (none, S') ∧ MBd u nt τ S' a ∧ FT S S' := by
  obtain ⟨⟨h12, h15, h5, h9⟩, h14, n, hn, h11⟩ := h
  by_cases c : n = 60
  · refine ⟨S, ?_, ⟨⟨h12, h15, h5, h9⟩, h14, n, hn, h11⟩, FT.rf⟩
    rw [fX6_lays, h11, if_pos (show Int32.ofNat 60 ≤ nI n from nI_le (a := 60) (b := n) (by omega) (by omega))]
  · have hn : n < 60 := by omega
    refine ⟨uI (uI (uI S 61 n y) 62 n z) 54 11 (nI (n + 1)), ?_, ⟨⟨?_, ?_, ?_, fun i hi => ?_⟩, ?_, n + 1, by omega, uI_eq _ _ _ _⟩, ((Fr.rf.put (by decide)).put (by decide)).put (by decide), fun j h1 h2 h3 h4 => ?_⟩
    · rw [fX6_lays, h11, if_neg (show ¬ Int32.ofNat 60 ≤ nI n from nI_ge (a := n) (b := 60) hn (by decide)), if_in hn (by omega), if_in hn (by omega), cN (by omega), fa_1]
    · rw [uI_ni _ (by decide), uI_oth (by decide), uI_oth (by decide)]; exact h12
    · rw [uI_ni _ (by decide), uI_oth (by decide), uI_oth (by decide)]; exact h15
    · rw [uI_oth (by decide), uI_oth (by decide), uI_oth (by decide)]; exact h5
    · rw [uI_oth (by decide), uI_oth (by decide), uI_oth (by decide)]; exact h9 i hi
    · rw [uI_ni _ (by decide), uI_oth (by decide), uI_oth (by decide)]; exact h14
    · rw [uI_ni _ h1, uI_oth (by decide), uI_oth (by decide)]
/-- outcomes -/
abbrev TO : Type := Nat × Option (Nat × TW)
def CO (q nt : Nat) (τ : Nat → Int32) (S : MS) (o : TO) : Prop := match o.2 with
  | none => CBd q nt τ S o.1
  | some b => CP q nt τ S o.1 b.1 b.2
def MO (u nt : Nat) (τ : Nat → Int32) (op : Nat) (S : MS) (o : TO) : Prop := match o.2 with
  | none => MBd u nt τ S o.1
  | some b => MP u nt τ op S o.1 b.1 b.2
/-- what an outcome keeps: r values on the pile already -/
def GD (nt r a n : Nat) (W : TW) (o : TO) : Prop := a ≤ o.1 ∧ o.1 ≤ nt ∧ ∀ b, o.2 = some b → n ≤ b.1 ∧ b.1 + a ≤ o.1 + n ∧ (∀ k, k < n → b.2 k = W k) ∧ (∀ k, n ≤ k → k < b.1 → tcor (b.2 k).1 (b.2 k).2.1 (b.2 k).2.2) ∧ ∀ p, tdep (acts W) n = some (p + r) → tdep (acts b.2) b.1 = some (p + 1)
def PR (q u nt : Nat) (τ : Nat → Int32) (op r a n : Nat) (W : TW) (C M : MS → Option MR) : Prop := ∃ o : TO, GD nt r a n W o ∧ (∀ S, CP q nt τ S a n W → ∃ S', C S = some (none, S') ∧ CO q nt τ S' o ∧ Fr [39, 40] S S') ∧ (∀ S, MP u nt τ op S a n W → ∃ S', M S = some (none, S') ∧ MO u nt τ op S' o ∧ FT S S')
/-- names -/
def nmI (u y : Int32) : Int32 := if y = 100 then (if u = 1 then 0 else -1) else if y = 102 then (if u = 1 then 1 else -1) else if y = 104 then (if u = 0 then 1 else 2) else if y = 107 then (if u = 0 then 2 else -1) else if y = 122 then (if u = 0 then 0 else -1) else -1
theorem nameM (d : Nat) {u : Nat} {S : MS} (h15 : S.1 54 15 = nI u) (y : Int32) : mFn (d + 1) 115 [.ref 54, .int y] S = some (some (.int (nmI (nI u) y)), S) := by
  rw [fX6_nameOf, h15]
  unfold nmI
  by_cases h1 : y = 100
  · subst h1
    rw [if_pos rfl, if_pos rfl, if_pos rfl]
    by_cases c : nI u = 1
    · rw [if_pos c, if_pos c]
    · rw [if_neg c, if_neg c]
  rw [if_neg h1, if_neg h1, if_neg h1]
  by_cases h2 : y = 102
  · subst h2
    rw [if_pos rfl, if_pos rfl]
    by_cases c : nI u = 1
    · rw [if_pos c, if_pos c]
    · rw [if_neg c, if_neg c]
  rw [if_neg h2, if_neg h2]
  by_cases h3 : y = 104
  · subst h3
    rw [if_pos rfl, if_pos rfl]
    by_cases c : nI u = 0
    · rw [if_pos c, if_pos c]
    · rw [if_neg c, if_neg c]
  rw [if_neg h3, if_neg h3]
  by_cases h4 : y = 107
  · subst h4
    rw [if_pos rfl, if_pos rfl, if_neg (show ¬ (107 : Int32) = 122 by decide)]
    by_cases c : nI u = 0
    · rw [if_pos c, if_pos c]
    · rw [if_neg c, if_neg c]
  rw [if_neg h4, if_neg h4]
  by_cases h5 : y = 122
  · subst h5
    rw [if_pos rfl, if_pos rfl, if_pos rfl]
    by_cases c : nI u = 0
    · rw [if_pos c, if_pos c]
    · rw [if_neg c, if_neg c]
  rw [if_neg h5, if_neg h5]
theorem nam_chr : ∀ c, c < 256 → ((nI c).toUInt32 % 65536).toInt32 = nI c := by decide +kernel
theorem nam_0 : ∀ c, c < 256 → nmI (nI 0) (nI c) = if 122 = (nI c).toInt8.toInt32 then 0 else if 104 = (nI c).toInt8.toInt32 then 1 else if 107 = (nI c).toInt8.toInt32 then 2 else -1 := by decide +kernel
theorem nam_1 : ∀ c, c < 256 → nmI (nI 1) (nI c) = if 100 = (nI c).toInt8.toInt32 then 0 else if 102 = (nI c).toInt8.toInt32 then 1 else if 104 = (nI c).toInt8.toInt32 then 2 else -1 := by decide +kernel
theorem idx_0 (d : Nat) {c : Nat} (hc : c < 256) (S : MS) : mFn (d + 5) 176 [.ref 1003, .int (nI c)] S = some (some (.int (nmI (nI 0) (nI c))), S) := by
  have b0 : (strB.getD 0 []).getD ((0 : Int32)).toNatClampNeg 0 = 122 := by decide
  have b1 : (strB.getD 0 []).getD ((0 + 1 : Int32)).toNatClampNeg 0 = 104 := by decide
  have b2 : (strB.getD 0 []).getD ((0 + 1 + 1 : Int32)).toNatClampNeg 0 = 107 := by decide
  have lp : mv (kJ1_indexOfChar_4cfef (mFn (d + 1))) 7 [(0, .ref 1005), (3, .int 3), (4, .int (nI c).toInt8.toInt32), (5, .int 0)] [] S = some (some (.int (nmI (nI 0) (nI c))), S) := by
    rw [nam_0 c hc, lJ1_indexOfChar_4cfef_0_7, if_neg (by decide), if_neg (by decide), b0]
    by_cases h0 : 122 = (nI c).toInt8.toInt32
    · rw [if_pos h0, if_pos h0]
    rw [if_neg h0, if_neg h0, lJ1_indexOfChar_4cfef_0_7, if_neg (by decide), if_neg (by decide), b1]
    by_cases h1 : 104 = (nI c).toInt8.toInt32
    · rw [if_pos h1, if_pos h1]; rfl
    rw [if_neg h1, if_neg h1, lJ1_indexOfChar_4cfef_0_7, if_neg (by decide), if_neg (by decide), b2]
    by_cases h2 : 107 = (nI c).toInt8.toInt32
    · rw [if_pos h2, if_pos h2]; rfl
    rw [if_neg h2, if_neg h2, lJ1_indexOfChar_4cfef_0_7, if_pos (by decide)]
  rw [fJ0_indexOf_0f7a4_0, fJ0_indexOf_7cf53_0, fJ0_isLatin1_aae02_0, bI_some, if_neg (by decide), fJ0_length_8abf5_0, fJ0_coder_7d493_0, bI_some, bI_some, show fShr 3 0 = (3 : Int32) by decide, fJ1_indexOf_4cfef_0, fJ1_canEncode_9a6ad, if_neg (nI_pos (by omega)), if_neg (show ¬ (255 : Int32) < nI c from nI_nlt (a := 255) (b := c) (by omega) (by decide)), bI_some, if_neg (show ¬ (1 : Int32) = 0 by decide), if_pos (by decide), show (if (0 : Int32) < 0 then (0 : Int32) else 0) = 0 by decide, show (if (3 : Int32) < 3 then (3 : Int32) else 3) = 3 by decide, fJ1_indexOfChar_4cfef_0, lp, bI_some, bI_some, bI_some]
theorem idx_1 (d : Nat) {c : Nat} (hc : c < 256) (S : MS) : mFn (d + 5) 176 [.ref 1004, .int (nI c)] S = some (some (.int (nmI (nI 1) (nI c))), S) := by
  have b0 : (strB.getD 1 []).getD ((0 : Int32)).toNatClampNeg 0 = 100 := by decide
  have b1 : (strB.getD 1 []).getD ((0 + 1 : Int32)).toNatClampNeg 0 = 102 := by decide
  have b2 : (strB.getD 1 []).getD ((0 + 1 + 1 : Int32)).toNatClampNeg 0 = 104 := by decide
  have lp : mv (kJ1_indexOfChar_4cfef (mFn (d + 1))) 7 [(0, .ref 1006), (3, .int 3), (4, .int (nI c).toInt8.toInt32), (5, .int 0)] [] S = some (some (.int (nmI (nI 1) (nI c))), S) := by
    rw [nam_1 c hc, lJ1_indexOfChar_4cfef_1_7, if_neg (by decide), if_neg (by decide), b0]
    by_cases h0 : 100 = (nI c).toInt8.toInt32
    · rw [if_pos h0, if_pos h0]
    rw [if_neg h0, if_neg h0, lJ1_indexOfChar_4cfef_1_7, if_neg (by decide), if_neg (by decide), b1]
    by_cases h1 : 102 = (nI c).toInt8.toInt32
    · rw [if_pos h1, if_pos h1]; rfl
    rw [if_neg h1, if_neg h1, lJ1_indexOfChar_4cfef_1_7, if_neg (by decide), if_neg (by decide), b2]
    by_cases h2 : 104 = (nI c).toInt8.toInt32
    · rw [if_pos h2, if_pos h2]; rfl
    rw [if_neg h2, if_neg h2, lJ1_indexOfChar_4cfef_1_7, if_pos (by decide)]
  rw [fJ0_indexOf_0f7a4_1, fJ0_indexOf_7cf53_1, fJ0_isLatin1_aae02_1, bI_some, if_neg (by decide), fJ0_length_8abf5_1, fJ0_coder_7d493_1, bI_some, bI_some, show fShr 3 0 = (3 : Int32) by decide, fJ1_indexOf_4cfef_1, fJ1_canEncode_9a6ad, if_neg (nI_pos (by omega)), if_neg (show ¬ (255 : Int32) < nI c from nI_nlt (a := 255) (b := c) (by omega) (by decide)), bI_some, if_neg (show ¬ (1 : Int32) = 0 by decide), if_pos (by decide), show (if (0 : Int32) < 0 then (0 : Int32) else 0) = 0 by decide, show (if (3 : Int32) < 3 then (3 : Int32) else 3) = 3 by decide, fJ1_indexOfChar_4cfef_1, lp, bI_some, bI_some, bI_some]
/-- which names: by the use -/
def QU (q u : Nat) : Prop := (q = 1003 ∧ u = 0) ∨ (q = 1004 ∧ u = 1)
theorem idx (d : Nat) {q u c : Nat} (hq : QU q u) (hc : c < 256) (S : MS) : mFn (d + 5) 176 [.ref q, .int (nI c)] S = some (some (.int (nmI (nI u) (nI c))), S) := by
  rcases hq with ⟨rfl, rfl⟩ | ⟨rfl, rfl⟩
  · exact idx_0 d hc S
  · exact idx_1 d hc S
theorem nam_r0 : ∀ c, c < 256 → nmI (nI 0) (nI c) = -1 ∨ ∃ j, j < 3 ∧ nmI (nI 0) (nI c) = nI j := by decide +kernel
theorem nam_r1 : ∀ c, c < 256 → nmI (nI 1) (nI c) = -1 ∨ ∃ j, j < 3 ∧ nmI (nI 1) (nI c) = nI j := by decide +kernel
theorem nam_r {q u c : Nat} (hq : QU q u) (hc : c < 256) : nmI (nI u) (nI c) = -1 ∨ ∃ j, j < 3 ∧ nmI (nI u) (nI c) = nI j := by
  rcases hq with ⟨rfl, rfl⟩ | ⟨rfl, rfl⟩
  · exact nam_r0 c hc
  · exact nam_r1 c hc
theorem nam_no0 : ∀ c, c < 256 → (48 ≤ c ∧ c ≤ 57) ∨ c = 33 ∨ c = 40 → nmI (nI 0) (nI c) = -1 := by decide +kernel
theorem nam_no1 : ∀ c, c < 256 → (48 ≤ c ∧ c ≤ 57) ∨ c = 33 ∨ c = 40 → nmI (nI 1) (nI c) = -1 := by decide +kernel
theorem nam_no {q u c : Nat} (hq : QU q u) (hc : c < 256) (h : (48 ≤ c ∧ c ≤ 57) ∨ c = 33 ∨ c = 40) : nmI (nI u) (nI c) = -1 := by
  rcases hq with ⟨rfl, rfl⟩ | ⟨rfl, rfl⟩
  · exact nam_no0 c hc h
  · exact nam_no1 c hc h
