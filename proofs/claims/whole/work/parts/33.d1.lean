/-! ===== what a square says, whether it says on, how slow a pipe is: both sides; calls says, goesOn, pipeIs, law, untell ===== -/
def clp (hi v : Int32) : Int32 := if (1 : Int32) < (if v < hi then v else hi) then (if v < hi then v else hi) else 1
theorem clp_held {hi v : Int32} {n : Nat} (h : hi.toInt = n) (hn : 1 ≤ n) : (if 1 ≤ v then (if v ≤ hi then v else hi) else 1) = clp hi v := by
  have e1 : (1 : Int32).toInt = 1 := by decide
  unfold clp
  by_cases a : 1 ≤ v
  · rw [if_pos a]
    by_cases b : v < hi
    · rw [if_pos (Int32.le_of_lt b), if_pos b]
      by_cases c : (1 : Int32) < v
      · rw [if_pos c]
      · rw [if_neg c, ieq]
        have := (ile _ _).mp a
        have := (ile _ _).mp (Int32.not_lt.mp c)
        omega
    · have hb := (ile _ _).mp (Int32.not_lt.mp b)
      rw [if_neg b]
      have e : (if v ≤ hi then v else hi) = hi := by
        by_cases c : v ≤ hi
        · rw [if_pos c, ieq]
          have := (ile _ _).mp c
          omega
        · rw [if_neg c]
      rw [e]
      by_cases c : (1 : Int32) < hi
      · rw [if_pos c]
      · rw [if_neg c, ieq]
        have := (ile _ _).mp (Int32.not_lt.mp c)
        omega
  · have ha := (ilt _ _).mp (Int32.not_le.mp a)
    have b : v < hi := by rw [ilt]; omega
    rw [if_neg a, if_pos b, if_neg (by rw [ilt]; omega)]
theorem held_99 (d : Nat) (v : Int32) (S : MS) : mFn (d + 1) 88 [.int v, .int 1, .int 99] S = some (some (.int (clp 99 v)), S) := by
  rw [fX6_held, ← clp_held (hi := 99) (v := v) (n := 99) (by decide) (by decide)]
  by_cases a : 1 ≤ v
  · rw [if_pos a, if_pos a]
    by_cases b : v ≤ 99
    · rw [if_pos b, if_pos b]
    · rw [if_neg b, if_neg b]
  · rw [if_neg a, if_neg a]
theorem held_20 (d : Nat) (v : Int32) (S : MS) : mFn (d + 1) 88 [.int v, .int 1, .int 20] S = some (some (.int (clp 20 v)), S) := by
  rw [fX6_held, ← clp_held (hi := 20) (v := v) (n := 20) (by decide) (by decide)]
  by_cases a : 1 ≤ v
  · rw [if_pos a, if_pos a]
    by_cases b : v ≤ 20
    · rw [if_pos b, if_pos b]
    · rw [if_neg b, if_neg b]
  · rw [if_neg a, if_neg a]
theorem clp_r {hi v : Int32} {n : Nat} (h : hi.toInt = n) (hn : 1 ≤ n) : 1 ≤ clp hi v ∧ clp hi v ≤ hi := by
  have e1 : (1 : Int32).toInt = 1 := by decide
  unfold clp
  by_cases b : v < hi
  · rw [if_pos b]
    by_cases c : (1 : Int32) < v
    · rw [if_pos c]
      exact ⟨Int32.le_of_lt c, Int32.le_of_lt b⟩
    · rw [if_neg c]
      exact ⟨Int32.le_refl _, by rw [ile]; omega⟩
  · rw [if_neg b]
    by_cases c : (1 : Int32) < hi
    · rw [if_pos c]
      exact ⟨Int32.le_of_lt c, Int32.le_refl _⟩
    · rw [if_neg c]
      exact ⟨Int32.le_refl _, by rw [ile]; omega⟩
/-- what the text that stands at a of a row gives -/
noncomputable def tv (ρ : Nat → Int32) (a : Nat) (x y z : Int32) : Int32 := if ρ a = 0 then x else sv (fun k => ρ (a + 1 + k)) (fun k => ρ (a + 61 + k)) (ar x y z) (ρ a).toNatClampNeg 0
noncomputable def gv0 (ρ : Nat → Int32) (x y z : Int32) : Int32 := clp 99 (tv ρ 159 x y z)
noncomputable def gv1 (ρ : Nat → Int32) (x y z : Int32) : Int32 := clp 20 (tv ρ 280 x y z)
/-- a text of a row stands well -/
def GW (ρ : Nat → Int32) (a : Nat) : Prop := ρ a = 0 ∨ ∃ n, 1 ≤ n ∧ n ≤ 60 ∧ ρ a = nI n ∧ (∀ k, k < n → ρ (a + 1 + k) = 2 → ∃ j, j < 3 ∧ ρ (a + 61 + k) = nI j) ∧ tdep (fun k => ρ (a + 1 + k)) n = some 1
theorem GW_of {σ : Nat → Nat → Int32} {t w a : Nat} (h : RT σ t w a) : GW (σ w) a := by
  rcases h with ⟨_, h⟩ | ⟨_, n, h1, h2, _, h4, h5, h6⟩
  · exact Or.inl h
  · refine Or.inr ⟨n, h1, h2, h4, fun k hk e => ?_, h6⟩
    rcases h5 k hk with ⟨a1, _⟩ | ⟨_, j, hj, a2, _⟩ | ⟨a1, _⟩ | ⟨c, c1, c2, _, a1, _⟩
    · rw [e] at a1
      exact absurd a1 (by decide)
    · exact ⟨j, hj, a2⟩
    · rw [e] at a1
      exact absurd a1 (by decide)
    · rw [e] at a1
      have := (nI_eq (a := 2) (b := c) (by omega) (by omega)).mp a1
      omega
theorem rv11_0 (S : MS) : rv S 11 0 = some 12 := rfl
theorem rv11_1 (S : MS) : rv S 11 1 = some 15 := rfl
theorem kO12 : kO 12 4 = true := rfl
theorem kO15 : kO 15 4 = true := rfl
theorem given_C0 (d : Nat) {S : MS} (h : RT S.1 12 55 159) (x y z : Int32) : ∃ T, mFn (d + 3) 4 [.ref 1, .int 0, .int x, .int y, .int z] S = some (some (.int (gv0 (S.1 55) x y z)), T) ∧ Fr [14, 17] S T := by
  rcases h with ⟨h0, h1⟩ | ⟨h0, n, h1, h2, h3, h4, h5, h6⟩
  · refine ⟨S, ?_, Fr.rf⟩
    rw [fX0_given, if_neg (by decide)]
    simp only [cl0, rv11_0, kO12, cond_true, h0, if_true]
    unfold gv0 tv
    rw [if_pos h1]
    rfl
  · obtain ⟨T, t1, t2⟩ := value0_go d h2 (fun k => S.1 55 (159 + 1 + k)) (fun k => S.1 55 (159 + 61 + k)) x y z h6 n 0 (by omega) S h3 h5 0 rfl (fun j hj => by omega)
    refine ⟨T, ?_, t2.up (by decide)⟩
    rw [fX0_given, if_neg (by decide)]
    simp only [cl0, rv11_0, kO12, cond_true, h0, Bool.and_true, show ¬ (1 : Int32) = 0 from by decide, if_false]
    rw [if_neg (by decide), show mFn (d + 2) 23 [.ref 12, .int x, .int y, .int z] S = _ from (fX4_value_0 (d + 1) x y z S).trans t1, bI_some]
    unfold gv0 tv
    rw [if_neg (show ¬ S.1 55 159 = 0 by rw [h4]; exact nI_ne0 (by omega) (by omega)), h4, cN (by omega)]
    rfl
theorem gives_M0 (d : Nat) {S : MS} (h : GW (S.1 55) 159) (x y z : Int32) : ∃ T, mFn (d + 3) 128 [.ref 54, .int 0, .int x, .int y, .int z] S = some (some (.int (gv0 (S.1 55) x y z)), T) ∧ Fr [63, 64] S T := by
  have ea : fAdd 159 (fMul 121 0) = nI 159 := by decide
  have fr : Fr [63, 64] S (uI (uI (uI S 63 0 x) 63 1 y) 63 2 z) := ((Fr.rf.put (by decide)).put (by decide)).put (by decide)
  rcases h with h1 | ⟨n, h1, h2, h4, h5, h6⟩
  · refine ⟨uI (uI (uI S 63 0 x) 63 1 y) 63 2 z, ?_, fr⟩
    rw [fX6_gives, if_neg (by decide), if_neg (by decide), if_neg (by decide), ea, if_in (show 159 < 401 by decide) (by omega), cN (show 159 ≤ 100000 by decide), h1, if_pos (by decide), cl0, cl1, cl2, if_pos rfl, held_99, bI_some]
    unfold gv0 tv
    rw [if_pos h1]
  · obtain ⟨T, t1, t2⟩ := works_go d (a := 159) (by decide) h2 (fun k => S.1 55 (159 + 1 + k)) (fun k => S.1 55 (159 + 61 + k)) (ar x y z) h6 h5 n 0 (by omega) (uI (uI (uI S 63 0 x) 63 1 y) 63 2 z) h4 (fun _ _ => rfl) (fun _ _ => rfl) (fun j hj => by
      have e : j = 0 ∨ j = 1 ∨ j = 2 := by omega
      rcases e with rfl | rfl | rfl
      · rw [uI_ni _ (by decide), uI_ni _ (by decide), uI_eq]; rfl
      · rw [uI_ni _ (by decide), uI_eq]; rfl
      · rw [uI_eq]; rfl) 0 rfl (fun j hj => by omega)
    refine ⟨T, ?_, fr.tr (t2.up (by decide))⟩
    rw [fX6_gives, if_neg (by decide), if_neg (by decide), if_neg (by decide), ea, if_in (show 159 < 401 by decide) (by omega), cN (show 159 ≤ 100000 by decide), h4, if_neg (show ¬ nI n ≤ 0 from nI_ge (a := 0) (b := n) (by omega) (by omega)), cl0, cl1, cl2, show mFn (d + 2) 127 [.ref 54, .int (nI 159)] (uI (uI (uI S 63 0 x) 63 1 y) 63 2 z) = _ from (fX6_works (d + 1) _ _).trans t1, bI_some, if_pos rfl, held_99, bI_some]
    unfold gv0 tv
    rw [if_neg (show ¬ S.1 55 159 = 0 by rw [h4]; exact nI_ne0 (by omega) (by omega)), h4, cN (by omega)]
theorem given_C1 (d : Nat) {S : MS} (h : RT S.1 15 55 280) (x y z : Int32) : ∃ T, mFn (d + 3) 4 [.ref 1, .int 1, .int x, .int y, .int z] S = some (some (.int (gv1 (S.1 55) x y z)), T) ∧ Fr [14, 17] S T := by
  rcases h with ⟨h0, h1⟩ | ⟨h0, n, h1, h2, h3, h4, h5, h6⟩
  · refine ⟨S, ?_, Fr.rf⟩
    rw [fX0_given, if_neg (by decide)]
    simp only [cl1, rv11_1, kO15, cond_true, h0, if_true]
    unfold gv1 tv
    rw [if_pos h1]
    rfl
  · obtain ⟨T, t1, t2⟩ := value1_go d h2 (fun k => S.1 55 (280 + 1 + k)) (fun k => S.1 55 (280 + 61 + k)) x y z h6 n 0 (by omega) S h3 h5 0 rfl (fun j hj => by omega)
    refine ⟨T, ?_, t2.up (by decide)⟩
    rw [fX0_given, if_neg (by decide)]
    simp only [cl1, rv11_1, kO15, cond_true, h0, Bool.and_true, show ¬ (1 : Int32) = 0 from by decide, if_false]
    rw [if_neg (by decide), show mFn (d + 2) 23 [.ref 15, .int x, .int y, .int z] S = _ from (fX4_value_1 (d + 1) x y z S).trans t1, bI_some]
    unfold gv1 tv
    rw [if_neg (show ¬ S.1 55 280 = 0 by rw [h4]; exact nI_ne0 (by omega) (by omega)), h4, cN (by omega)]
    rfl
theorem gives_M1 (d : Nat) {S : MS} (h : GW (S.1 55) 280) (x y z : Int32) : ∃ T, mFn (d + 3) 128 [.ref 54, .int 1, .int x, .int y, .int z] S = some (some (.int (gv1 (S.1 55) x y z)), T) ∧ Fr [63, 64] S T := by
  have ea : fAdd 159 (fMul 121 1) = nI 280 := by decide
  have fr : Fr [63, 64] S (uI (uI (uI S 63 0 x) 63 1 y) 63 2 z) := ((Fr.rf.put (by decide)).put (by decide)).put (by decide)
  rcases h with h1 | ⟨n, h1, h2, h4, h5, h6⟩
  · refine ⟨uI (uI (uI S 63 0 x) 63 1 y) 63 2 z, ?_, fr⟩
    rw [fX6_gives, if_neg (by decide), if_neg (by decide), if_neg (by decide), ea, if_in (show 280 < 401 by decide) (by omega), cN (show 280 ≤ 100000 by decide), h1, if_pos (by decide), cl0, cl1, cl2, if_neg (by decide), held_20, bI_some]
    unfold gv1 tv
    rw [if_pos h1]
  · obtain ⟨T, t1, t2⟩ := works_go d (a := 280) (by decide) h2 (fun k => S.1 55 (280 + 1 + k)) (fun k => S.1 55 (280 + 61 + k)) (ar x y z) h6 h5 n 0 (by omega) (uI (uI (uI S 63 0 x) 63 1 y) 63 2 z) h4 (fun _ _ => rfl) (fun _ _ => rfl) (fun j hj => by
      have e : j = 0 ∨ j = 1 ∨ j = 2 := by omega
      rcases e with rfl | rfl | rfl
      · rw [uI_ni _ (by decide), uI_ni _ (by decide), uI_eq]; rfl
      · rw [uI_ni _ (by decide), uI_eq]; rfl
      · rw [uI_eq]; rfl) 0 rfl (fun j hj => by omega)
    refine ⟨T, ?_, fr.tr (t2.up (by decide))⟩
    rw [fX6_gives, if_neg (by decide), if_neg (by decide), if_neg (by decide), ea, if_in (show 280 < 401 by decide) (by omega), cN (show 280 ≤ 100000 by decide), h4, if_neg (show ¬ nI n ≤ 0 from nI_ge (a := 0) (b := n) (by omega) (by omega)), cl0, cl1, cl2, show mFn (d + 2) 127 [.ref 54, .int (nI 280)] (uI (uI (uI S 63 0 x) 63 1 y) 63 2 z) = _ from (fX6_works (d + 1) _ _).trans t1, bI_some, if_neg (by decide), held_20, bI_some]
    unfold gv1 tv
    rw [if_neg (show ¬ S.1 55 280 = 0 by rw [h4]; exact nI_ne0 (by omega) (by omega)), h4, cN (by omega)]
def addv (kd m h t x : Int32) : Int32 := if kd = 1 then fAdd (fAdd x 1) m else if kd = 2 then fSub (fMul 2 (fAdd x 1)) m else if kd = 3 then fAdd x 1 else if kd = 4 then fAdd (fAdd (fAdd x 1) m) h else if kd = 5 then fAdd (fSub (fMul 2 (fAdd x 1)) m) (t - t / 5 * 5) else if kd = 6 then fAdd 1 (m - m / 3 * 3) else fAdd x 1
def onv (kd m fr x : Int32) : Int32 := if kd = 1 then (if x ≤ fr then 0 else 1) else if kd = 2 then 1 else if kd = 3 then (if x - x / (fAdd m 2) * (fAdd m 2) = 0 then 0 else 1) else if kd = 4 then (if fr < x then 1 else if m ≤ 6 then 0 else 1) else if kd = 5 then (if fAdd 60 m ≤ x then 0 else 1) else if kd = 6 then (if 8 ≤ fr then 0 else 1) else 1
noncomputable def said (ρ : Nat → Int32) (f : Nat) (x : Int32) : Int32 := gv0 ρ (addv (ρ (7 + 4 * f)) (ρ (8 + 4 * f)) (ρ (9 + 4 * f)) (ρ (10 + 4 * f)) x) (ρ (9 + 4 * f)) (ρ (7 + 4 * f))
def onn (ρ : Nat → Int32) (f : Nat) (x : Int32) : Int32 := onv (ρ (7 + 4 * f)) (ρ (8 + 4 * f)) (ρ 4) x
noncomputable def slw (ρ : Nat → Int32) (p : Nat) : Int32 := gv1 ρ (ρ (41 + 4 * p)) (ρ 4) (fSub (ρ (9 + 4 * (ρ (39 + 4 * p)).toNatClampNeg)) (ρ (9 + 4 * (ρ (40 + 4 * p)).toNatClampNeg)))
theorem said_r (ρ : Nat → Int32) (f : Nat) (x : Int32) : 1 ≤ said ρ f x ∧ said ρ f x ≤ 99 := clp_r (n := 99) (by decide) (by decide)
theorem slw_r (ρ : Nat → Int32) (p : Nat) : 1 ≤ slw ρ p ∧ slw ρ p ≤ 20 := clp_r (n := 20) (by decide) (by decide)
theorem add_C (d : Nat) {S : MS} {f : Nat} (hf : f < 8) (x : Int32) : mFn (d + 1) 1 [.ref 1, .int (nI f), .int x] S = some (some (.int (addv (S.1 2 f) (S.1 3 f) (S.1 4 f) (S.1 5 f) x)), S) := by
  rw [fX0_withAdded, if_in hf (by omega), cN (by omega)]
  have i8 : ∀ {α : Type} (a b : α), (if nI f < 0 ∨ 8 ≤ f then a else b) = b := fun a b => if_in2 hf (by decide) a b
  have n5 : ¬ (5 : Int32) = 0 := by decide
  have n3 : ¬ (3 : Int32) = 0 := by decide
  simp only [i8, n5, n3, if_false]
  unfold addv
  by_cases h1 : S.1 2 f = 1
  · rw [if_pos h1, if_pos h1]
  rw [if_neg h1, if_neg h1]
  by_cases h2 : S.1 2 f = 2
  · rw [if_pos h2, if_pos h2]
  rw [if_neg h2, if_neg h2]
  by_cases h3 : S.1 2 f = 3
  · rw [if_pos h3, if_pos h3]
  rw [if_neg h3, if_neg h3]
  by_cases h4 : S.1 2 f = 4
  · rw [if_pos h4, if_pos h4]
  rw [if_neg h4, if_neg h4]
  by_cases h5 : S.1 2 f = 5
  · rw [if_pos h5, if_pos h5]
  rw [if_neg h5, if_neg h5]
  by_cases h6 : S.1 2 f = 6
  · rw [if_pos h6, if_pos h6]
  rw [if_neg h6, if_neg h6]
theorem add_M (d : Nat) {S : MS} {f : Nat} (hf : f < 8) (x : Int32) : mFn (d + 2) 97 [.ref 54, .int (nI f), .int x] S = some (some (.int (addv (S.1 55 (7 + 4 * f)) (S.1 55 (8 + 4 * f)) (S.1 55 (9 + 4 * f)) (S.1 55 (10 + 4 * f)) x)), S) := by
  rw [fX6_addsOf, pM_of1 _ hf, bI_some, pM_of0 _ hf, bI_some, pM_of2 _ hf, pM_of3 _ hf, bI_some, bI_some]
  have n5 : ¬ (5 : Int32) = 0 := by decide
  have n3 : ¬ (3 : Int32) = 0 := by decide
  simp only [n5, n3, if_false]
  unfold addv
  by_cases h1 : S.1 55 (7 + 4 * f) = 1
  · rw [if_pos h1, if_pos h1]
  rw [if_neg h1, if_neg h1]
  by_cases h2 : S.1 55 (7 + 4 * f) = 2
  · rw [if_pos h2, if_pos h2]
  rw [if_neg h2, if_neg h2]
  by_cases h3 : S.1 55 (7 + 4 * f) = 3
  · rw [if_pos h3, if_pos h3]
  rw [if_neg h3, if_neg h3]
  by_cases h4 : S.1 55 (7 + 4 * f) = 4
  · rw [if_pos h4, if_pos h4]
  rw [if_neg h4, if_neg h4]
  by_cases h5 : S.1 55 (7 + 4 * f) = 5
  · rw [if_pos h5, if_pos h5]
  rw [if_neg h5, if_neg h5]
  by_cases h6 : S.1 55 (7 + 4 * f) = 6
  · rw [if_pos h6, if_pos h6]
  rw [if_neg h6, if_neg h6]
theorem ite_so {c : Prop} [Decidable c] (a b : Int32) (S : MS) : (if c then (some (some (Value.int a), S) : Option MR) else some (some (Value.int b), S)) = some (some (Value.int (if c then a else b)), S) := by
  by_cases h : c
  · rw [if_pos h, if_pos h]
  · rw [if_neg h, if_neg h]
theorem m2n {m : Int32} (h : 0 ≤ m ∧ m ≤ 9) : ¬ fAdd m 2 = 0 := by
  obtain ⟨a, ha, rfl⟩ := rlit 9 (n := 9) (by decide) (by decide) h.1 h.2
  rw [fa_2]
  exact nI_ne0 (by omega) (by omega)
theorem on_C (d : Nat) {S : MS} {f : Nat} (hf : f < 8) (x : Int32) (hm : 0 ≤ S.1 3 f ∧ S.1 3 f ≤ 9) : mFn (d + 1) 2 [.ref 1, .int (nI f), .int x] S = some (some (.int (onv (S.1 2 f) (S.1 3 f) (S.1 1 10) x)), S) := by
  rw [fX0_isSaidOn, if_in hf (by omega), cN (by omega)]
  have i8 : ∀ {α : Type} (a b : α), (if nI f < 0 ∨ 8 ≤ f then a else b) = b := fun a b => if_in2 hf (by decide) a b
  simp only [i8, m2n hm, if_false, ite_so]
  rfl
theorem on_M (d : Nat) {S : MS} {f : Nat} (hf : f < 8) (x : Int32) (hm : 0 ≤ S.1 55 (8 + 4 * f) ∧ S.1 55 (8 + 4 * f) ≤ 9) : mFn (d + 2) 99 [.ref 54, .int (nI f), .int x] S = some (some (.int (onn (S.1 55) f x)), S) := by
  rw [fX6_doesSayOn, pM_of1 _ hf, bI_some, pM_of0 _ hf, bI_some]
  simp only [cl4, show ¬ ((4 : Int32) < 0 ∨ 401 ≤ 4) from by decide, m2n hm, if_false, ite_so]
  rfl
theorem said_C (d : Nat) {S : MS} {f : Nat} (hf : f < 8) (x : Int32) (hc : RCf S.1 1 55) (ht : RT S.1 12 55 159) : ∃ T, mFn (d + 4) 0 [.ref 1, .int (nI f), .int x] S = some (some (.int (said (S.1 55) f x)), T) ∧ Fr [14, 17] S T := by
  obtain ⟨q1, q2, q3, q4, _⟩ := hc f hf
  obtain ⟨T, t1, t2⟩ := given_C0 d ht (addv (S.1 55 (7 + 4 * f)) (S.1 55 (8 + 4 * f)) (S.1 55 (9 + 4 * f)) (S.1 55 (10 + 4 * f)) x) (S.1 55 (9 + 4 * f)) (S.1 55 (7 + 4 * f))
  refine ⟨T, ?_, t2⟩
  rw [fX0_madeOf, add_C _ hf, bI_some, if_in hf (by omega), if_in hf (by omega), cN (by omega), show S.1 2 f = _ from q1, show S.1 3 f = _ from q2, show S.1 4 f = _ from q3, show S.1 5 f = _ from q4, t1, bI_some]
  rfl
theorem said_M (d : Nat) {S : MS} {f : Nat} (hf : f < 8) (x : Int32) (ht : GW (S.1 55) 159) : ∃ T, mFn (d + 4) 98 [.ref 54, .int (nI f), .int x] S = some (some (.int (said (S.1 55) f x)), T) ∧ Fr [63, 64] S T := by
  obtain ⟨T, t1, t2⟩ := gives_M0 d ht (addv (S.1 55 (7 + 4 * f)) (S.1 55 (8 + 4 * f)) (S.1 55 (9 + 4 * f)) (S.1 55 (10 + 4 * f)) x) (S.1 55 (9 + 4 * f)) (S.1 55 (7 + 4 * f))
  refine ⟨T, ?_, t2⟩
  rw [fX6_saidOf, add_M _ hf, bI_some, pM_of2 _ hf, bI_some, pM_of0 _ hf, bI_some, t1, bI_some]
  rfl
theorem slow_C (d : Nat) {S : MS} {nf np o p : Nat} (hp : p < np) (hn : np ≤ 9) (hnf : nf ≤ 8) (hc : RCf S.1 1 55) (hr : RCp S.1 1 55 nf np o) (h10 : S.1 1 10 = S.1 55 4) (ht : RT S.1 15 55 280) : ∃ T, mFn (d + 4) 3 [.ref 1, .int (nI p)] S = some (some (.int (slw (S.1 55) p)), T) ∧ Fr [14, 17] S T := by
  obtain ⟨e1, e2, e3, e4⟩ := hr p (by omega)
  obtain ⟨fr, to, r1, r2, r3, r4, _⟩ := e4 hp
  obtain ⟨T, t1, t2⟩ := given_C1 d ht (S.1 55 (41 + 4 * p)) (S.1 55 4) (fSub (S.1 55 (9 + 4 * fr)) (S.1 55 (9 + 4 * to)))
  refine ⟨T, ?_, t2⟩
  rw [fX0_howSlow, if_in (show p < 9 by omega) (by omega), if_in (show p < 9 by omega) (by omega), if_in (show p < 9 by omega) (by omega), cN (by omega), show S.1 6 p = _ from e1, show S.1 7 p = _ from e2, show S.1 8 p = _ from e3, r3, r4, if_in (show fr < 8 by omega) (by omega), if_in (show to < 8 by omega) (by omega), cN (by omega), cN (by omega), h10, show S.1 4 fr = _ from (hc fr (by omega)).2.2.1, show S.1 4 to = _ from (hc to (by omega)).2.2.1, t1, bI_some]
  unfold slw
  rw [r3, r4, cN (by omega), cN (by omega)]
theorem slow_M (d : Nat) {S : MS} {nf p fr to : Nat} (hp : p < 9) (hnf : nf ≤ 8) (r1 : fr < nf) (r2 : to < nf) (r3 : S.1 55 (39 + 4 * p) = nI fr) (r4 : S.1 55 (40 + 4 * p) = nI to) (ht : GW (S.1 55) 280) : ∃ T, mFn (d + 4) 100 [.ref 54, .int (nI p)] S = some (some (.int (slw (S.1 55) p)), T) ∧ Fr [63, 64] S T := by
  obtain ⟨T, t1, t2⟩ := gives_M1 d ht (S.1 55 (41 + 4 * p)) (S.1 55 4) (fSub (S.1 55 (9 + 4 * fr)) (S.1 55 (9 + 4 * to)))
  refine ⟨T, ?_, t2⟩
  rw [fX6_slowOf, pM_ab0 _ hp, bI_some, r3, pM_of2 _ (show fr < 8 by omega), bI_some, pM_ab1 _ hp, bI_some, r4, pM_of2 _ (show to < 8 by omega), bI_some, pM_ab2 _ hp, bI_some, il4, cl4, t1, bI_some]
  unfold slw
  rw [r3, r4, cN (by omega), cN (by omega)]
theorem Rel_q {S S1 S2 : MS} (h1 : Fr [14, 17] S S1) (h2 : Fr [63, 64] S1 S2) (hR : Rel S) : Rel S2 := by
  have f : Fr [14, 17, 63, 64] S S2 := (h1.up (by decide)).tr (h2.up (by decide))
  exact Rel_fr (f.up (by decide)) (by rw [f 54 (by decide)]) (by rw [f 54 (by decide)]) (by rw [f 42 (by decide)]) hR
theorem ok_says (d : Nat) (x z : Int32) : Ok2 (d + 5) 39 106 [.ref 0, .int x, .int z] [.ref 54, .int x, .int z] := by
  intro S hR
  obtain ⟨⟨nf, np, nt, nw, o, hs, hf, hp, ht, hx⟩, hI, hE, hSh, hV⟩ := id hR
  obtain ⟨b1, b2, b3, b4, b5, c0, w2, c5, w3, c14, w5, c17, w6, c9, c10, c11, c12, r4, r0⟩ := id hs
  by_cases h : 0 ≤ x ∧ x < nI nf
  · obtain ⟨f, hf1, rfl⟩ := i_rng (by omega) h.1 h.2
    by_cases hz : 1 ≤ z ∧ z ≤ 99
    · obtain ⟨T, t1, t2⟩ := said_C d (show f < 8 by omega) z hf hx.1
      have e : T.1 55 = S.1 55 := t2 55 (by decide)
      obtain ⟨U, u1, u2⟩ := said_M d (S := T) (show f < 8 by omega) z (by rw [e]; exact GW_of hx.1)
      rw [e] at u1
      refine ⟨said (S.1 55) f z, T, U, ?_, ?_, Rel_q t2 u2 hR⟩
      · rw [fX5_says, pC_isSay _ _ _ c0, bI_some, if_b2, if_pos ⟨h, hz⟩, t1, bI_some]
      · rw [fX6_says, pM_isF _ _ (show T.1 55 2 = nI nf by rw [e]; exact w2) (by omega), bI_some, if_b2, if_pos h, pM_isSize, bI_some, if_b2, if_pos hz, u1, bI_some]
    · refine ⟨-1000000001, uI S 53 1 (S.1 53 1 + 1), EE 1 S, ?_, ?_, Rel_EE hR⟩
      · rw [fX5_says, pC_isSay _ _ _ c0, bI_some, if_b2, if_neg (fun q => hz q.2), pC_err1, bI_some]
      · rw [fX6_says, pM_isF _ _ (show (uI S 53 1 (S.1 53 1 + 1)).1 55 2 = nI nf from w2) (by omega), bI_some, if_b2, if_pos h, pM_isSize, bI_some, if_b2, if_neg hz, pM_err1, bI_some]
        rfl
  · refine ⟨-1000000001, uI S 53 1 (S.1 53 1 + 1), EE 1 S, ?_, ?_, Rel_EE hR⟩
    · rw [fX5_says, pC_isSay _ _ _ c0, bI_some, if_b2, if_neg (fun q => h q.1), pC_err1, bI_some]
    · rw [fX6_says, pM_isF _ _ (show (uI S 53 1 (S.1 53 1 + 1)).1 55 2 = nI nf from w2) (by omega), bI_some, if_b2, if_neg h, pM_err1, bI_some]
      rfl
theorem ok_goesOn (d : Nat) (x z : Int32) : Ok2 (d + 5) 40 107 [.ref 0, .int x, .int z] [.ref 54, .int x, .int z] := by
  intro S hR
  obtain ⟨⟨nf, np, nt, nw, o, hs, hf, hp, ht, hx⟩, hI, hE, hSh, hV⟩ := id hR
  obtain ⟨b1, b2, b3, b4, b5, c0, w2, c5, w3, c14, w5, c17, w6, c9, c10, c11, c12, r4, r0⟩ := id hs
  by_cases h : 0 ≤ x ∧ x < nI nf
  · obtain ⟨f, hf1, rfl⟩ := i_rng (by omega) h.1 h.2
    by_cases hz : 1 ≤ z ∧ z ≤ 99
    · obtain ⟨q1, q2, q3, q4, q5, q6, _⟩ := hf f (by omega)
      refine ⟨if onn (S.1 55) f z = 0 then 0 else 1, S, S, ?_, ?_, hR⟩
      · rw [fX5_goesOn, pC_isSay _ _ _ c0, bI_some, if_b2, if_pos ⟨h, hz⟩, on_C _ (show f < 8 by omega) z (by rw [show S.1 3 f = _ from q2]; exact q6), bI_some, show S.1 2 f = _ from q1, show S.1 3 f = _ from q2, c10, ite_so]
        rfl
      · rw [fX6_goesOn, pM_isF _ _ w2 (by omega), bI_some, if_b2, if_pos h, pM_isSize, bI_some, if_b2, if_pos hz, on_M _ (show f < 8 by omega) z q6, bI_some, ite_so]
    · refine ⟨-1000000001, uI S 53 1 (S.1 53 1 + 1), EE 1 S, ?_, ?_, Rel_EE hR⟩
      · rw [fX5_goesOn, pC_isSay _ _ _ c0, bI_some, if_b2, if_neg (fun q => hz q.2), pC_err1, bI_some]
      · rw [fX6_goesOn, pM_isF _ _ (show (uI S 53 1 (S.1 53 1 + 1)).1 55 2 = nI nf from w2) (by omega), bI_some, if_b2, if_pos h, pM_isSize, bI_some, if_b2, if_neg hz, pM_err1, bI_some]
        rfl
  · refine ⟨-1000000001, uI S 53 1 (S.1 53 1 + 1), EE 1 S, ?_, ?_, Rel_EE hR⟩
    · rw [fX5_goesOn, pC_isSay _ _ _ c0, bI_some, if_b2, if_neg (fun q => h q.1), pC_err1, bI_some]
    · rw [fX6_goesOn, pM_isF _ _ (show (uI S 53 1 (S.1 53 1 + 1)).1 55 2 = nI nf from w2) (by omega), bI_some, if_b2, if_neg h, pM_err1, bI_some]
      rfl
