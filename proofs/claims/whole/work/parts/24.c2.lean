/-! ===== calls: as, become, fountain, tell ===== -/
theorem if_in2 {α : Type} {i n : Nat} (h : i < n) (hn : n ≤ 1000) (a b : α) : (if nI i < 0 ∨ n ≤ i then a else b) = b := if_neg (fun z => z.elim (fun q => nI_pos (by omega) q) (fun q => by omega))
theorem rlit (a : Int32) {x : Int32} {n : Nat} (ha : a.toInt = n) (hn : n < 1000) (h0 : 0 ≤ x) (h1 : x ≤ a) : ∃ j, j ≤ n ∧ x = nI j := by
  have e0 := (ile _ _).mp h0
  have e1 := (ile _ _).mp h1
  rw [show (0 : Int32).toInt = 0 by decide] at e0
  obtain ⟨j, hj, e⟩ := i_rng (x := x) (n := n + 1) (by omega) h0 (by rw [ilt, nI_toInt (by omega)]; omega)
  exact ⟨j, by omega, e⟩
theorem lt_of_le (a b : Int32) {x : Int32} (hb : b.toInt = a.toInt + 1) : x ≤ a ↔ x < b := by
  rw [ile, ilt]
  omega
theorem under0 (d : Nat) {a : Int32} (ha : ¬ (0 : Int32) = a) (S : MS) : ∀ (n j : Nat), j + n = 7 → mv (kX5_isUnder (mFn d)) 4 [(1, .int a), (2, .int 0), (3, .int (nI j))] [] S = some (some (.int 0), S) := by
  intro n
  induction n with
  | zero =>
    intro j hj
    have e : j = 7 := by omega
    subst e
    rw [lX5_isUnder_4, if_pos (by decide), if_neg ha]
  | succ n ih =>
    intro j hj
    rw [lX5_isUnder_4, if_neg (show ¬ (7 : Int32) ≤ nI j from nI_ge (a := j) (b := 7) (by omega) (by omega)), if_neg ha, if_neg (by decide), show aboveL.getD ((0 : Int32)).toNatClampNeg 0 = 0 by decide, add1]
    exact ih (j + 1) (by omega)
def undr (k a : Int32) : Prop := a = 0 ∨ a = k ∨ (a = 1 ∧ k = 4) ∨ (a = 2 ∧ k = 5)
theorem under_up (d : Nat) (k k2 a : Int32) (hk : ¬ (k < 0 ∨ 7 ≤ k.toNatClampNeg)) (hk2 : aboveL.getD k.toNatClampNeg 0 = k2) (h : ¬ k = a) {j : Nat} (hj : j < 7) (S : MS) : mv (kX5_isUnder (mFn d)) 4 [(1, .int a), (2, .int k), (3, .int (nI j))] [] S = mv (kX5_isUnder (mFn d)) 4 [(1, .int a), (2, .int k2), (3, .int (nI (j + 1)))] [] S := by
  rw [lX5_isUnder_4, if_neg (show ¬ (7 : Int32) ≤ nI j from nI_ge (a := j) (b := 7) (by omega) (by omega)), if_neg h, if_neg hk, hk2, add1]
theorem under_eq (d : Nat) (k : Int32) {j : Nat} (S : MS) : mv (kX5_isUnder (mFn d)) 4 [(1, .int k), (2, .int k), (3, .int (nI j))] [] S = some (some (.int 1), S) := by
  rw [lX5_isUnder_4]
  by_cases h : 7 ≤ nI j
  · rw [if_pos h, if_pos rfl]
  · rw [if_neg h, if_pos rfl, if_pos rfl]
theorem under_0 (d : Nat) (a : Int32) {j : Nat} (hj : j ≤ 7) (S : MS) : mv (kX5_isUnder (mFn d)) 4 [(1, .int a), (2, .int 0), (3, .int (nI j))] [] S = some (some (.int (if a = 0 then 1 else 0)), S) := by
  by_cases h : a = 0
  · subst h; rw [if_pos rfl]; exact under_eq d 0 S
  · rw [if_neg h]; exact under0 d (fun z => h z.symm) S (7 - j) j (by omega)
theorem pC_under (d : Nat) (a : Int32) (S : MS) : ∀ k, k < 7 → (undr (nI k) a → mFn (d + 1) 80 [.int (nI k), .int a] S = some (some (.int 1), S)) ∧ (¬ undr (nI k) a → mFn (d + 1) 80 [.int (nI k), .int a] S = some (some (.int 0), S)) := by
  have z : ∀ x, mFn (d + 1) 80 [.int x, .int a] S = mv (kX5_isUnder (mFn d)) 4 [(1, .int a), (2, .int x), (3, .int (nI 0))] [] S := fun x => fX5_isUnder d x a S
  have one : ∀ k : Int32, ¬ (k < 0 ∨ 7 ≤ k.toNatClampNeg) → aboveL.getD k.toNatClampNeg 0 = 0 → ¬ k = 4 → ¬ k = 5 → (undr k a → mFn (d + 1) 80 [.int k, .int a] S = some (some (.int 1), S)) ∧ (¬ undr k a → mFn (d + 1) 80 [.int k, .int a] S = some (some (.int 0), S)) := by
    intro k h1 h2 h4 h5
    by_cases ha : k = a
    · subst ha
      exact ⟨fun _ => by rw [z, under_eq], fun q => absurd (Or.inr (Or.inl rfl)) q⟩
    · rw [z, under_up d k 0 a h1 h2 ha (by omega), under_0 d a (by omega)]
      by_cases h0 : a = 0
      · exact ⟨fun _ => by rw [if_pos h0], fun q => absurd (Or.inl h0) q⟩
      · rw [if_neg h0]
        refine ⟨fun q => ?_, fun _ => rfl⟩
        rcases q with q | q | q | q
        · exact absurd q h0
        · exact absurd q.symm ha
        · exact absurd q.2 h4
        · exact absurd q.2 h5
  have two : ∀ k k2 : Int32, ¬ (k < 0 ∨ 7 ≤ k.toNatClampNeg) → aboveL.getD k.toNatClampNeg 0 = k2 → ¬ (k2 < 0 ∨ 7 ≤ k2.toNatClampNeg) → aboveL.getD k2.toNatClampNeg 0 = 0 → (k = 4 ∧ k2 = 1 ∨ k = 5 ∧ k2 = 2) → (undr k a → mFn (d + 1) 80 [.int k, .int a] S = some (some (.int 1), S)) ∧ (¬ undr k a → mFn (d + 1) 80 [.int k, .int a] S = some (some (.int 0), S)) := by
    intro k k2 h1 h2 h3 h4 h5
    by_cases ha : k = a
    · subst ha
      exact ⟨fun _ => by rw [z, under_eq], fun q => absurd (Or.inr (Or.inl rfl)) q⟩
    · rw [z, under_up d k k2 a h1 h2 ha (by omega)]
      by_cases hb : k2 = a
      · subst hb
        rw [under_eq]
        refine ⟨fun _ => rfl, fun q => absurd ?_ q⟩
        rcases h5 with ⟨e1, e2⟩ | ⟨e1, e2⟩
        · exact Or.inr (Or.inr (Or.inl ⟨e2, e1⟩))
        · exact Or.inr (Or.inr (Or.inr ⟨e2, e1⟩))
      · rw [under_up d k2 0 a h3 h4 hb (by omega), under_0 d a (by omega)]
        by_cases h0 : a = 0
        · exact ⟨fun _ => by rw [if_pos h0], fun q => absurd (Or.inl h0) q⟩
        · rw [if_neg h0]
          refine ⟨fun q => ?_, fun _ => rfl⟩
          rcases q with q | q | q | q
          · exact absurd q h0
          · exact absurd q.symm ha
          · rcases h5 with ⟨e1, e2⟩ | ⟨e1, e2⟩
            · exact absurd (q.1.trans e2.symm).symm hb
            · rw [e1] at q; exact absurd q.2 (by decide)
          · rcases h5 with ⟨e1, e2⟩ | ⟨e1, e2⟩
            · rw [e1] at q; exact absurd q.2 (by decide)
            · exact absurd (q.1.trans e2.symm).symm hb
  refine lt_s (lt_s (lt_s (lt_s (lt_s (lt_s (lt_s lt_0 ?_) ?_) ?_) ?_) ?_) ?_) ?_
  · exact one (nI 0) (by decide) (by decide) (by decide) (by decide)
  · exact one (nI 1) (by decide) (by decide) (by decide) (by decide)
  · exact one (nI 2) (by decide) (by decide) (by decide) (by decide)
  · exact one (nI 3) (by decide) (by decide) (by decide) (by decide)
  · exact two (nI 4) 1 (by decide) (by decide) (by decide) (by decide) (Or.inl ⟨by decide, rfl⟩)
  · exact two (nI 5) 2 (by decide) (by decide) (by decide) (by decide) (Or.inr ⟨by decide, rfl⟩)
  · exact one (nI 6) (by decide) (by decide) (by decide) (by decide)
theorem ok_as (d : Nat) (x w : Int32) : Ok2 (d + 4) 38 105 [.ref 0, .int x, .int w] [.ref 54, .int x, .int w] := by
  intro S hR
  obtain ⟨⟨nf, np, nt, nw, o, hs, hf, hp, ht, hx⟩, hI, hE, hSh, hV⟩ := id hR
  obtain ⟨b1, b2, b3, b4, b5, c0, w2, c5, w3, c14, w5, c17, w6, c9, c10, c11, c12, r4, r0⟩ := id hs
  have e1 : ∀ k, (uI S 53 k (S.1 53 k + 1)).1 55 2 = nI nf := fun k => w2
  by_cases h : 0 ≤ x ∧ x < nI nf
  · obtain ⟨f, hf1, rfl⟩ := i_rng (by omega) h.1 h.2
    have e := hf f (by omega)
    obtain ⟨k, hk, ek⟩ := rlit 6 (n := 6) (by decide) (by decide) e.2.2.2.2.1.1 e.2.2.2.2.1.2
    by_cases hw : 0 ≤ w ∧ w ≤ 6
    · have u := pC_under (d + 2) w S k (by omega)
      have tail : ∀ T : MS, T.1 55 = S.1 55 → (undr (nI k) w → mFn (d + 4) 105 [.ref 54, .int (nI f), .int w] T = some (some (.int (S.1 3 f)), T)) ∧ (¬ undr (nI k) w → mFn (d + 4) 105 [.ref 54, .int (nI f), .int w] T = some (some (.int (-1000000005)), uI T 57 5 (T.1 57 5 + 1))) := by
        intro T hT
        have m1 : ∀ d, mFn (d + 1) 95 [.ref 54, .int (nI f), .int 1] T = some (some (.int (S.1 3 f)), T) := fun d => by rw [pM_of1 _ (by omega), hT, e.2.1]
        have m0 : ∀ d, mFn (d + 1) 95 [.ref 54, .int (nI f), .int 0] T = some (some (.int (nI k)), T) := fun d => by rw [pM_of0 _ (by omega), hT, ek]
        rw [fX6_as, pM_isF _ _ (show T.1 55 2 = nI nf by rw [hT]; exact w2) (by omega), bI_some, if_b2, if_pos h, pM_in, bI_some, if_b2, if_pos hw, m0, bI_some, m1, pM_err5, bI_some, bI_some]
        unfold undr
        by_cases q0 : w = 0
        · rw [if_pos q0]; exact ⟨fun _ => rfl, fun z => absurd (Or.inl q0) z⟩
        · rw [if_neg q0]
          by_cases q1 : w = nI k
          · rw [if_pos q1]; exact ⟨fun _ => rfl, fun z => absurd (Or.inr (Or.inl q1)) z⟩
          · rw [if_neg q1]
            by_cases q2 : w = 1
            · rw [if_pos q2]
              by_cases q4 : nI k = 4
              · rw [if_pos q4]; exact ⟨fun _ => rfl, fun z => absurd (Or.inr (Or.inr (Or.inl ⟨q2, q4⟩))) z⟩
              · have q3 : ¬ w = 2 := by rw [q2]; decide
                rw [if_neg q4, if_neg q3]
                exact ⟨fun z => by rcases z with z | z | z | z <;> first | exact absurd z q0 | exact absurd z q1 | exact absurd z.2 q4 | exact absurd z.1 q3, fun _ => rfl⟩
            · rw [if_neg q2]
              by_cases q3 : w = 2
              · rw [if_pos q3]
                by_cases q5 : nI k = 5
                · rw [if_pos q5]; exact ⟨fun _ => rfl, fun z => absurd (Or.inr (Or.inr (Or.inr ⟨q3, q5⟩))) z⟩
                · rw [if_neg q5]
                  exact ⟨fun z => by rcases z with z | z | z | z <;> first | exact absurd z q0 | exact absurd z q1 | exact absurd z.1 q2 | exact absurd z.2 q5, fun _ => rfl⟩
              · rw [if_neg q3]
                exact ⟨fun z => by rcases z with z | z | z | z <;> first | exact absurd z q0 | exact absurd z q1 | exact absurd z.1 q2 | exact absurd z.1 q3, fun _ => rfl⟩
      have hcl : ∀ y, mFn (d + 3) 80 [.int (nI k), .int w] S = some (some (.int y), S) → mFn (d + 4) 38 [.ref 0, .int (nI f), .int w] S = (if y = 0 then some (some (.int (-1000000005)), uI S 53 5 (S.1 53 5 + 1)) else some (some (.int (S.1 3 f)), S)) := by
        intro y hy
        rw [fX5_as, pC_isF _ _ c0, bI_some, if_b2, if_pos h, if_neg (Int32.not_lt.mpr hw.1), if_pos ((lt_of_le 6 7 (by decide)).mp hw.2), if_in (by omega) (by omega), cN (by omega), e.1, ek, hy, bI_some, pC_err5, bI_some, if_in2 (by omega) (by omega)]
      by_cases hu : undr (nI k) w
      · refine ⟨S.1 3 f, S, S, ?_, ((tail S rfl).1 hu), hR⟩
        rw [hcl 1 (u.1 hu), if_neg (by decide)]
      · refine ⟨-1000000005, uI S 53 5 (S.1 53 5 + 1), EE 5 S, ?_, ?_, Rel_EE hR⟩
        · rw [hcl 0 (u.2 hu), if_pos rfl]
        · exact ((tail _ (by rw [uI_oth (by omega)])).2 hu).trans rfl
    · refine ⟨-1000000001, uI S 53 1 (S.1 53 1 + 1), EE 1 S, ?_, ?_, Rel_EE hR⟩
      · rw [fX5_as, pC_isF _ _ c0, bI_some, if_b2, if_pos h]
        by_cases h1 : w < 0
        · rw [if_pos h1, pC_err1, bI_some]
        · rw [if_neg h1, if_neg (fun z => hw ⟨Int32.not_lt.mp h1, (lt_of_le 6 7 (by decide)).mpr z⟩), pC_err1, bI_some]
      · rw [fX6_as, pM_isF _ _ (e1 1) (by omega), bI_some, if_b2, if_pos h, pM_in, bI_some, if_b2, if_neg hw, pM_err1, bI_some]
        rfl
  · refine ⟨-1000000001, uI S 53 1 (S.1 53 1 + 1), EE 1 S, ?_, ?_, Rel_EE hR⟩
    · rw [fX5_as, pC_isF _ _ c0, bI_some, if_b2, if_neg h, pC_err1, bI_some]
    · rw [fX6_as, pM_isF _ _ (e1 1) (by omega), bI_some, if_b2, if_neg h, pM_err1, bI_some]
      rfl
