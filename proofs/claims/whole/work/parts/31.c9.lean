/-! ===== calls: put, move, talks ===== -/
theorem nt_0 {s : Nat} (hs : s < 4) (d : Nat) {T : MS} (h : ¬ T.1 58 s = 0) (hx : 0 ≤ nI s ∧ nI s ≤ 3) : mFn (d + 3) 164 [.ref 54, .int (nI s)] T = some (some (.int 0), T) := by
  rw [fX6_notThere, pM_isSheet, bI_some, if_b2, if_pos hx, if_in hs (by omega), cN (by omega), if_neg h]
theorem nt_2 {s : Nat} (hs : s < 4) (d : Nat) {T : MS} (h : T.1 58 s = 0) (hx : 0 ≤ nI s ∧ nI s ≤ 3) : mFn (d + 3) 164 [.ref 54, .int (nI s)] T = some (some (.int (-1000000002)), T) := by
  rw [fX6_notThere, pM_isSheet, bI_some, if_b2, if_pos hx, if_in hs (by omega), cN (by omega), if_pos h]
theorem nt_1 {x : Int32} (d : Nat) (T : MS) (hx : ¬ (0 ≤ x ∧ x ≤ 3)) : mFn (d + 3) 164 [.ref 54, .int x] T = some (some (.int (-1000000001)), T) := by
  rw [fX6_notThere, pM_isSheet, bI_some, if_b2, if_neg hx]
theorem put_rel {S : MS} {s i : Nat} {v : Int32} (hs : s < 4) (hi : i < 24) (hR : Rel S) : Rel (uI (uI S (46 + 2 * s) i v) 60 (24 * s + i) v) := by
  refine Rel_sh hR (fun r hr => ?_) (fun k hk => by rw [uI_oth (by omega), uI_oth (by omega)])
  obtain ⟨q1, q2, q3, q4, q5⟩ := hR.2.2.2.1 r hr
  rw [uI_oth (show 45 + 2 * r ≠ 60 by omega), uI_oth (show 45 + 2 * r ≠ 46 + 2 * s by omega), uI_oth (show 58 ≠ 60 by omega), uI_oth (show 58 ≠ 46 + 2 * s by omega), uI_oth (show 59 ≠ 60 by omega), uI_oth (show 59 ≠ 46 + 2 * s by omega), uI_oth (show 46 + 2 * r ≠ 60 by omega)]
  refine ⟨q1, q2, q3, q4, fun j hj => ?_⟩
  by_cases hrs : r = s
  · subst hrs
    by_cases hji : j = i
    · subst hji
      rw [uI_eq, uI_eq]
    · rw [uI_ni _ hji, uI_ni _ (by omega), uI_oth (by omega)]
      exact q5 j hj
  · rw [uI_oth (by omega), uI_ni _ (by omega), uI_oth (by omega)]
    exact q5 j hj
theorem ok_put (d : Nat) (x a b : Int32) : Ok2 (d + 4) 62 165 [.ref 0, .int x, .int a, .int b] [.ref 54, .int x, .int a, .int b] := by
  intro S hR
  obtain ⟨⟨nf, np, nt, nw, o, hs, hf, hp, ht, hx⟩, hI, hE, hSh, hV⟩ := id hR
  obtain ⟨b1, b2, b3, b4, b5, c0, w2, c5, w3, c14, w5, c17, w6, c9, c10, c11, c12, r4, r0⟩ := id hs
  by_cases h : 0 ≤ x ∧ x ≤ 3
  · obtain ⟨s, hs3, rfl⟩ := rlit 3 (n := 3) (by decide) (by decide) h.1 h.2
    have hs4 : s < 4 := by omega
    obtain ⟨q1, q2, q3, ⟨n, hn, q4, q4'⟩, q5⟩ := hSh s hs4
    have i3 : ∀ {α : Type} (a b : α), (if nI s < 0 ∨ 4 ≤ s then a else b) = b := fun a b => if_in2 hs4 (by decide) a b
    have cs : (nI s).toNatClampNeg = s := cN (by omega)
    by_cases hz : S.1 58 s = 0
    · refine ⟨-1000000002, uI S 53 2 (S.1 53 2 + 1), EE 2 S, ?_, ?_, Rel_EE hR⟩
      · rw [fX5_put, pC_isSheet, bI_some, if_b2, if_pos h]
        simp only [cs, i3, rv44 hs4, kO2 hs4, Bool.and_true, cond_true, miss hs4, bI_some, if_b2, q1, hz, if_true, pC_err2]
      · rw [fX6_put, nt_2 hs4 _ (by rw [uI_oth (by decide)]; exact hz) h, bI_some, if_neg (by decide), if_neg (by decide), pM_err2, bI_some]
        rfl
    · by_cases hi : 0 ≤ a ∧ a < nI n
      · obtain ⟨i, hi1, rfl⟩ := i_rng (by omega) hi.1 hi.2
        have hneg : ¬ nI i < 0 := nI_pos (by omega)
        refine ⟨1, uI S (46 + 2 * s) i (lowb (S.1 58 s) b), uI (uI S (46 + 2 * s) i (lowb (S.1 58 s) b)) 60 (24 * s + i) (lowb (S.1 58 s) b), ?_, ?_, put_rel hs4 (by omega) hR⟩
        · rw [fX5_put, pC_isSheet, bI_some, if_b2, if_pos h]
          simp only [cs, i3, rv44 hs4, rvN hs4, kO2 hs4, kA2 hs4, ki2 hs4, Bool.and_true, cond_true, miss hs4, lowC hs4, bI_some, if_b2, q1, q2, q4, hz, if_false, hneg, hi.2, if_true, cN (show i ≤ 100000 by omega), if_in2 (show i < 24 by omega) (show 24 ≤ 1000 by decide), false_or, if_neg (show ¬ 24 ≤ i by omega)]
        · have e58 : (uI S (46 + 2 * s) i (lowb (S.1 58 s) b)).1 58 s = S.1 58 s := by rw [uI_oth (by omega)]
          have e59 : (uI S (46 + 2 * s) i (lowb (S.1 58 s) b)).1 59 s = nI n := by rw [uI_oth (by omega)]; exact q4
          rw [fX6_put, nt_0 hs4 _ (by rw [e58]; exact hz) h, bI_some, if_pos rfl, if_in hs4 (by omega), cs, e59, pM_in, bI_some, b2_congr (lt_pred (nI i) (by omega)), if_b2, if_pos hi, if_pos rfl, if_in2 hs4 (by omega), e58, i24, if_in (by omega) (by omega), cN (by omega)]
          unfold lowb
          by_cases w8 : S.1 58 s = 8
          · rw [if_pos w8, if_pos w8]
          · rw [if_neg w8, if_neg w8, if_in2 hs4 (by omega)]
            by_cases w16 : S.1 58 s = 16
            · rw [if_pos w16, if_pos w16, if_in2 (by omega) (by omega)]
            · rw [if_neg w16, if_neg w16, if_in2 (by omega) (by omega)]
      · refine ⟨-1000000001, uI S 53 1 (S.1 53 1 + 1), EE 1 S, ?_, ?_, Rel_EE hR⟩
        · rw [fX5_put, pC_isSheet, bI_some, if_b2, if_pos h]
          by_cases h0 : a < 0
          · simp only [cs, i3, rv44 hs4, kO2 hs4, Bool.and_true, cond_true, miss hs4, bI_some, if_b2, q1, hz, if_false, h0, if_true, pC_err1]
          · have h9 : ¬ a < nI n := fun z => hi ⟨Int32.not_lt.mp h0, z⟩
            simp only [cs, i3, rv44 hs4, kO2 hs4, Bool.and_true, cond_true, miss hs4, bI_some, if_b2, q1, q2, q4, hz, if_false, h0, h9, pC_err1]
        · rw [fX6_put, nt_0 hs4 _ (by rw [uI_oth (by decide)]; exact hz) h, bI_some, if_pos rfl, if_in hs4 (by omega), cs, uI_oth (by decide), q4, pM_in, bI_some, b2_congr (lt_pred a (by omega)), if_b2, if_neg hi, pM_err1, bI_some]
          rfl
  · refine ⟨-1000000001, uI S 53 1 (S.1 53 1 + 1), EE 1 S, ?_, ?_, Rel_EE hR⟩
    · rw [fX5_put, pC_isSheet, bI_some, if_b2, if_neg h, pC_err1, bI_some]
    · rw [fX6_put, nt_1 _ _ h, bI_some, if_neg (by decide), if_neg (by decide), pM_err1, bI_some]
      rfl
theorem hasC {s : Nat} (h : s < 4) (d : Nat) (a c : Int32) (S : MS) : mFn (d + 1) 16 [.ref (45 + 2 * s), .int a, .int c] S = some (some (.int (b2 (¬ c < 0 ∧ ¬ a < 0 ∧ ¬ fSub (S.1 (45 + 2 * s) 1) a < c))), S) := by
  have g : mFn (d + 1) 16 [.ref (45 + 2 * s), .int a, .int c] S = if c < 0 then some (some (.int 0), S) else if a < 0 then some (some (.int 0), S) else if fSub (S.1 (45 + 2 * s) 1) a < c then some (some (.int 0), S) else some (some (.int 1), S) := by
    rcases four h with rfl | rfl | rfl | rfl
    · exact fX2_has_0 d a c S
    · exact fX2_has_1 d a c S
    · exact fX2_has_2 d a c S
    · exact fX2_has_3 d a c S
  rw [g]
  by_cases e1 : c < 0
  · rw [if_pos e1, b2_neg (fun z => z.1 e1)]
  · by_cases e2 : a < 0
    · rw [if_neg e1, if_pos e2, b2_neg (fun z => z.2.1 e2)]
    · by_cases e3 : fSub (S.1 (45 + 2 * s) 1) a < c
      · rw [if_neg e1, if_neg e2, if_pos e3, b2_neg (fun z => z.2.2 e3)]
      · rw [if_neg e1, if_neg e2, if_neg e3, b2_pos ⟨e1, e2, e3⟩]
/-- what `has` says, in numbers -/
theorem has_n {a c : Int32} {n : Nat} (hn : n ≤ 24) (h : ¬ c < 0 ∧ ¬ a < 0 ∧ ¬ fSub (nI n) a < c) : ∃ a' c', a = nI a' ∧ c = nI c' ∧ a' + c' ≤ n := by
  obtain ⟨h1, h2, h3⟩ := h
  obtain ⟨c', hc, rfl⟩ := nI_of h1
  obtain ⟨a', ha, rfl⟩ := nI_of h2
  refine ⟨a', c', rfl, rfl, ?_⟩
  have e : (fSub (nI n) (nI a')).toInt = (n : Int) - a' := by
    show (nI n - nI a').toInt = _
    rw [Int32.toInt_sub, nI_toInt ha, nI_toInt (show n < 2 ^ 31 by omega)]
    exact Int.bmod_eq_of_le (by omega) (by omega)
  rw [ilt, e, nI_toInt hc] at h3
  omega
theorem i24' (s a i : Nat) : fAdd (fAdd (fMul 24 (nI s)) (nI a)) (nI i) = nI (24 * s + a + i) := by
  rw [i24, fa_nn]
theorem mv_f (d : Nat) {s t a b c : Nat} (hs : s < 4) (ht : t < 4) (ha : a + c ≤ 24) (hb : b + c ≤ 24) (hba : b ≤ a) (hd : ∀ p q, q < p → p < c → 24 * s + a + p ≠ 24 * t + b + q) : ∀ n i, i + n = c → ∀ S : MS, ∃ T, mv (kX6_move (mFn d)) 28 [(0, .ref 54), (1, .int (nI s)), (2, .int (nI a)), (3, .int (nI t)), (4, .int (nI b)), (5, .int (nI c)), (7, .int (nI i))] [] S = some (some (.int (nI c)), T) ∧ (∀ k, k ≠ 60 → T.1 k = S.1 k) ∧ ∀ q, T.1 60 q = if 24 * t + b + i ≤ q ∧ q < 24 * t + b + c then S.1 60 (24 * s + a + (q - (24 * t + b))) else S.1 60 q := by
  intro n
  induction n with
  | zero =>
    intro i hi S
    have e : i = c := by omega
    subst e
    exact ⟨S, by rw [lX6_move_28, if_pos (Int32.le_refl _)], fun _ _ => rfl, fun q => by rw [if_neg (by omega)]⟩
  | succ n ih =>
    intro i hi S
    obtain ⟨T, g1, g2, g3⟩ := ih (i + 1) (by omega) (uI S 60 (24 * t + b + i) (S.1 60 (24 * s + a + i)))
    refine ⟨T, ?_, fun k hk => by rw [g2 k hk, uI_oth hk], fun q => ?_⟩
    · rw [lX6_move_28, if_neg (nI_ge (by omega) (by omega)), if_pos (nI_le hba (by omega)), i24', i24', if_in (by omega) (by omega), if_in (by omega) (by omega), cN (by omega), cN (by omega), add1]
      exact g1
    · rw [g3 q]
      by_cases hq : q = 24 * t + b + i
      · subst hq
        rw [if_neg (by omega), if_pos ⟨Nat.le_refl _, by omega⟩, uI_eq, Nat.add_sub_cancel_left]
      · by_cases h2 : 24 * t + b + (i + 1) ≤ q ∧ q < 24 * t + b + c
        · rw [if_pos h2, if_pos ⟨by omega, h2.2⟩, uI_ni _ (hd (q - (24 * t + b)) i (by omega) (by omega))]
        · rw [if_neg h2, if_neg (by omega), uI_ni _ hq]
theorem mv_b (d : Nat) {s t a b c : Nat} (hs : s < 4) (ht : t < 4) (ha : a + c ≤ 24) (hb : b + c ≤ 24) (hba : a < b) (hd : ∀ p q, p < q → q < c → 24 * s + a + p ≠ 24 * t + b + q) : ∀ n i, i + n = c → ∀ S : MS, ∃ T, mv (kX6_move (mFn d)) 28 [(0, .ref 54), (1, .int (nI s)), (2, .int (nI a)), (3, .int (nI t)), (4, .int (nI b)), (5, .int (nI c)), (7, .int (nI i))] [] S = some (some (.int (nI c)), T) ∧ (∀ k, k ≠ 60 → T.1 k = S.1 k) ∧ ∀ q, T.1 60 q = if 24 * t + b ≤ q ∧ q + i < 24 * t + b + c then S.1 60 (24 * s + a + (q - (24 * t + b))) else S.1 60 q := by
  intro n
  induction n with
  | zero =>
    intro i hi S
    have e : i = c := by omega
    subst e
    exact ⟨S, by rw [lX6_move_28, if_pos (Int32.le_refl _)], fun _ _ => rfl, fun q => by rw [if_neg (by omega)]⟩
  | succ n ih =>
    intro i hi S
    obtain ⟨T, g1, g2, g3⟩ := ih (i + 1) (by omega) (uI S 60 (24 * t + b + (c - 1 - i)) (S.1 60 (24 * s + a + (c - 1 - i))))
    refine ⟨T, ?_, fun k hk => by rw [g2 k hk, uI_oth hk], fun q => ?_⟩
    · rw [lX6_move_28, if_neg (nI_ge (by omega) (by omega)), if_neg (nI_ge hba (by omega)), show fSub (nI c) 1 = nI (c - 1) from fs_nn (a := c) (b := 1) (by omega), fs_nn (by omega), i24', i24', if_in (by omega) (by omega), if_in (by omega) (by omega), cN (by omega), cN (by omega), add1]
      exact g1
    · rw [g3 q]
      by_cases hq : q = 24 * t + b + (c - 1 - i)
      · subst hq
        rw [if_neg (by omega), if_pos ⟨by omega, by omega⟩, uI_eq, Nat.add_sub_cancel_left]
      · by_cases h2 : 24 * t + b ≤ q ∧ q + (i + 1) < 24 * t + b + c
        · rw [if_pos h2, if_pos ⟨by omega, by omega⟩, uI_ni _ (hd (q - (24 * t + b)) (c - 1 - i) (by omega) (by omega))]
        · rw [if_neg h2, if_neg (by omega), uI_ni _ hq]
theorem uC_at (S : MS) (k l a b n j : Nat) : (uC S k l a b n).1 l j = if b ≤ j ∧ j < b + n then S.1 k (a + (j - b)) else S.1 l j := by
  show (if l = l then va_cpy (S.1 k) (S.1 l) a b n j else S.1 l j) = _
  rw [if_pos rfl]
  rfl
theorem move_end (d : Nat) {S : MS} {s t a b c : Nat} (hs : s < 4) (ht : t < 4) (ha : a + c ≤ 24) (hb : b + c ≤ 24) (hR : Rel S) : ∃ U, mv (kX6_move (mFn d)) 28 [(0, .ref 54), (1, .int (nI s)), (2, .int (nI a)), (3, .int (nI t)), (4, .int (nI b)), (5, .int (nI c)), (7, .int 0)] [] (uC S (46 + 2 * s) (46 + 2 * t) a b c) = some (some (.int (nI c)), U) ∧ Rel U := by
  have g : ∃ U, mv (kX6_move (mFn d)) 28 [(0, .ref 54), (1, .int (nI s)), (2, .int (nI a)), (3, .int (nI t)), (4, .int (nI b)), (5, .int (nI c)), (7, .int (nI 0))] [] (uC S (46 + 2 * s) (46 + 2 * t) a b c) = some (some (.int (nI c)), U) ∧ (∀ k, k ≠ 60 → U.1 k = (uC S (46 + 2 * s) (46 + 2 * t) a b c).1 k) ∧ ∀ q, U.1 60 q = if 24 * t + b ≤ q ∧ q < 24 * t + b + c then S.1 60 (24 * s + a + (q - (24 * t + b))) else S.1 60 q := by
    by_cases hba : b ≤ a
    · obtain ⟨U, k1, k2, k3⟩ := mv_f d hs ht ha hb hba (fun p q h1 h2 => by omega) c 0 (by omega) (uC S (46 + 2 * s) (46 + 2 * t) a b c)
      exact ⟨U, k1, k2, fun q => by rw [k3 q, uC_oth (by omega)]; rfl⟩
    · obtain ⟨U, k1, k2, k3⟩ := mv_b d hs ht ha hb (by omega) (fun p q h1 h2 => by omega) c 0 (by omega) (uC S (46 + 2 * s) (46 + 2 * t) a b c)
      exact ⟨U, k1, k2, fun q => by rw [k3 q, uC_oth (by omega)]; rfl⟩
  obtain ⟨U, k1, k2, k3⟩ := g
  refine ⟨U, k1, Rel_sh hR (fun r hr => ?_) (fun k hk => by rw [k2 k (by omega), uC_oth (by omega)])⟩
  obtain ⟨q1, q2, q3, q4, q5⟩ := hR.2.2.2.1 r hr
  rw [k2 (45 + 2 * r) (by omega), k2 58 (by omega), k2 59 (by omega), k2 (46 + 2 * r) (by omega), uC_oth (show 45 + 2 * r ≠ 46 + 2 * t by omega), uC_oth (show 58 ≠ 46 + 2 * t by omega), uC_oth (show 59 ≠ 46 + 2 * t by omega)]
  refine ⟨q1, q2, q3, q4, fun j hj => ?_⟩
  by_cases hrt : r = t
  · subst hrt
    rw [uC_at, k3]
    by_cases h2 : b ≤ j ∧ j < b + c
    · rw [if_pos h2, if_pos ⟨by omega, by omega⟩, (hR.2.2.2.1 s hs).2.2.2.2 _ (by omega), show 24 * s + a + (24 * r + j - (24 * r + b)) = 24 * s + (a + (j - b)) by omega]
    · rw [if_neg h2, if_neg (by omega)]
      exact q5 j hj
  · rw [uC_oth (by omega), k3, if_neg (by omega)]
    exact q5 j hj
theorem ok_move (d : Nat) (x y z v w : Int32) : Ok2 (d + 5) 63 167 [.ref 0, .int x, .int y, .int z, .int v, .int w] [.ref 54, .int x, .int y, .int z, .int v, .int w] := by
  intro S hR
  obtain ⟨⟨nf, np, nt, nw, o, hs, hf, hp, ht, hx⟩, hI, hE, hSh, hV⟩ := id hR
  obtain ⟨b1, b2, b3, b4, b5, c0, w2, c5, w3, c14, w5, c17, w6, c9, c10, c11, c12, r4, r0⟩ := id hs
  have nm1 : ∀ T : MS, mFn (d + 4) 166 [.ref 54, .int x, .int y, .int z, .int v, .int w] T = some (some (.int (-1000000001)), T) → mFn (d + 5) 167 [.ref 54, .int x, .int y, .int z, .int v, .int w] T = some (some (.int (-1000000001)), uI T 57 1 (T.1 57 1 + 1)) := by
    intro T hT
    rw [fX6_move, hT, bI_some, if_neg (by decide), pM_err1, bI_some]
  have nm2 : ∀ T : MS, mFn (d + 4) 166 [.ref 54, .int x, .int y, .int z, .int v, .int w] T = some (some (.int (-1000000002)), T) → mFn (d + 5) 167 [.ref 54, .int x, .int y, .int z, .int v, .int w] T = some (some (.int (-1000000002)), uI T 57 2 (T.1 57 2 + 1)) := by
    intro T hT
    rw [fX6_move, hT, bI_some, if_neg (by decide), pM_err2, bI_some]
  by_cases h : 0 ≤ x ∧ x ≤ 3
  · by_cases g : 0 ≤ z ∧ z ≤ 3
    · obtain ⟨s, hs3, rfl⟩ := rlit 3 (n := 3) (by decide) (by decide) h.1 h.2
      have hs4 : s < 4 := by omega
      obtain ⟨t, ht3, rfl⟩ := rlit 3 (n := 3) (by decide) (by decide) g.1 g.2
      have ht4 : t < 4 := by omega
      obtain ⟨q1, q2, q3, ⟨n, hn, q4, q4'⟩, q5⟩ := hSh s hs4
      obtain ⟨p1, p2, p3, ⟨m, hm, p4, p4'⟩, p5⟩ := hSh t ht4
      have i3 : ∀ {α : Type} (a b : α), (if nI s < 0 ∨ 4 ≤ s then a else b) = b := fun a b => if_in2 hs4 (by decide) a b
      have i3' : ∀ {α : Type} (a b : α), (if nI t < 0 ∨ 4 ≤ t then a else b) = b := fun a b => if_in2 ht4 (by decide) a b
      have cs : (nI s).toNatClampNeg = s := cN (by omega)
      have ct : (nI t).toNatClampNeg = t := cN (by omega)
      by_cases hz : S.1 58 s = 0
      · refine ⟨-1000000002, uI S 53 2 (S.1 53 2 + 1), EE 2 S, ?_, ?_, Rel_EE hR⟩
        · rw [fX5_move, pC_isSheet, bI_some, if_b2, if_pos h, pC_isSheet, bI_some, if_b2, if_pos g]
          simp only [cs, i3, rv44 hs4, kO2 hs4, ct, i3', rv44 ht4, kO2 ht4, Bool.and_true, cond_true, miss hs4, bI_some, if_b2, q1, hz, if_true, pC_err2]
        · rw [nm2 _ (by
            rw [fX6_notMoved, pM_isSheet, bI_some, if_b2, if_pos h, pM_isSheet, bI_some, if_b2, if_pos g, cs, i3, if_pos (by rw [uI_oth (by decide)]; exact hz)])]
          rfl
      · by_cases hy : S.1 58 t = 0
        · refine ⟨-1000000002, uI S 53 2 (S.1 53 2 + 1), EE 2 S, ?_, ?_, Rel_EE hR⟩
          · rw [fX5_move, pC_isSheet, bI_some, if_b2, if_pos h, pC_isSheet, bI_some, if_b2, if_pos g]
            simp only [cs, i3, rv44 hs4, kO2 hs4, ct, i3', rv44 ht4, kO2 ht4, Bool.and_true, cond_true, miss hs4, miss ht4, bI_some, if_b2, q1, p1, hz, hy, if_true, if_false, pC_err2]
          · rw [nm2 _ (by
              rw [fX6_notMoved, pM_isSheet, bI_some, if_b2, if_pos h, pM_isSheet, bI_some, if_b2, if_pos g, cs, i3, if_neg (by rw [uI_oth (by decide)]; exact hz), ct, i3', if_pos (by rw [uI_oth (by decide)]; exact hy)])]
            rfl
        · by_cases he : S.1 58 s = S.1 58 t
          · have e59 : ∀ j, (uI S 53 1 (S.1 53 1 + 1)).1 59 j = S.1 59 j := fun j => by rw [uI_oth (by decide)]
            by_cases P1 : ¬ w < 0 ∧ ¬ y < 0 ∧ ¬ fSub (nI n) y < w
            · by_cases P2 : ¬ w < 0 ∧ ¬ v < 0 ∧ ¬ fSub (nI m) v < w
              · have P1' := P1
                have P2' := P2
                obtain ⟨a, c, rfl, rfl, hac⟩ := has_n hn P1
                obtain ⟨b, c', rfl, ec, hbc⟩ := has_n hm P2
                have hcc : c < 2 ^ 31 := by omega
                have e : c' = c := by
                  have hc' : c' < 2 ^ 31 := by omega
                  exact ((nI_eq hcc hc').mp ec).symm
                subst e
                obtain ⟨U, k1, k2⟩ := move_end (d + 4) hs4 ht4 (show a + c' ≤ 24 by omega) (show b + c' ≤ 24 by omega) hR
                refine ⟨nI c', uC S (46 + 2 * s) (46 + 2 * t) a b c', U, ?_, ?_, k2⟩
                · rw [fX5_move, pC_isSheet, bI_some, if_b2, if_pos h, pC_isSheet, bI_some, if_b2, if_pos g]
                  simp only [cs, i3, rv44 hs4, kO2 hs4, ct, i3', rv44 ht4, kO2 ht4, Bool.and_true, cond_true, miss hs4, miss ht4, bI_some, if_b2, q1, p1, hz, hy, if_true, if_false, he, hasC hs4, hasC ht4, q2, p2, q4, p4, if_pos P1', if_pos P2', rvN hs4, rvN ht4, kA2 hs4, kA2 ht4, ki2 hs4, ki2 ht4, cN (show a ≤ 100000 by omega), cN (show b ≤ 100000 by omega), cN (show c' ≤ 100000 by omega)]
                  rw [if_neg (by
                    rintro (z | z | z | z | z)
                    · exact P1'.2.1 z
                    · exact P2'.2.1 z
                    · exact P1'.1 z
                    · omega
                    · omega)]
                · rw [fX6_move, show mFn (d + 4) 166 [.ref 54, .int (nI s), .int (nI a), .int (nI t), .int (nI b), .int (nI c')] (uC S (46 + 2 * s) (46 + 2 * t) a b c') = some (some (.int 0), uC S (46 + 2 * s) (46 + 2 * t) a b c') by
                    rw [fX6_notMoved, pM_isSheet, bI_some, if_b2, if_pos h, pM_isSheet, bI_some, if_b2, if_pos g, uC_oth (show 58 ≠ 46 + 2 * t by omega), uC_oth (show 59 ≠ 46 + 2 * t by omega)]
                    simp only [cs, i3, ct, i3', hz, hy, he, if_false, if_true, P1'.1, P1'.2.1, P2'.2.1, q4, p4, P1'.2.2, P2'.2.2]]
                  exact k1
              · refine ⟨-1000000001, uI S 53 1 (S.1 53 1 + 1), EE 1 S, ?_, ?_, Rel_EE hR⟩
                · rw [fX5_move, pC_isSheet, bI_some, if_b2, if_pos h, pC_isSheet, bI_some, if_b2, if_pos g]
                  simp only [cs, i3, rv44 hs4, kO2 hs4, ct, i3', rv44 ht4, kO2 ht4, Bool.and_true, cond_true, miss hs4, miss ht4, bI_some, if_b2, q1, p1, hz, hy, if_true, if_false, he, hasC hs4, hasC ht4, q2, p2, q4, p4, if_pos P1, if_neg P2, pC_err1]
                · rw [nm1 _ (by
                    rw [fX6_notMoved, pM_isSheet, bI_some, if_b2, if_pos h, pM_isSheet, bI_some, if_b2, if_pos g, uI_oth (by decide), uI_oth (by decide)]
                    simp only [cs, i3, ct, i3', hz, hy, he, if_false, if_true, P1.1, P1.2.1, q4, p4, P1.2.2]
                    by_cases A1 : v < 0
                    · rw [if_pos A1]
                    · rw [if_neg A1, if_pos (Decidable.not_not.mp (fun A2 => P2 ⟨P1.1, A1, A2⟩))])]
                  rfl
            · refine ⟨-1000000001, uI S 53 1 (S.1 53 1 + 1), EE 1 S, ?_, ?_, Rel_EE hR⟩
              · rw [fX5_move, pC_isSheet, bI_some, if_b2, if_pos h, pC_isSheet, bI_some, if_b2, if_pos g]
                simp only [cs, i3, rv44 hs4, kO2 hs4, ct, i3', rv44 ht4, kO2 ht4, Bool.and_true, cond_true, miss hs4, miss ht4, bI_some, if_b2, q1, p1, hz, hy, if_true, if_false, he, hasC hs4, hasC ht4, q2, p2, q4, p4, if_neg P1, pC_err1]
              · rw [nm1 _ (by
                  rw [fX6_notMoved, pM_isSheet, bI_some, if_b2, if_pos h, pM_isSheet, bI_some, if_b2, if_pos g, uI_oth (by decide), uI_oth (by decide)]
                  simp only [cs, i3, ct, i3', hz, hy, he, if_false, if_true, q4, p4]
                  by_cases A0 : w < 0
                  · rw [if_pos A0]
                  · rw [if_neg A0]
                    by_cases A1 : y < 0
                    · rw [if_pos A1]
                    · rw [if_neg A1]
                      by_cases A2 : v < 0
                      · rw [if_pos A2]
                      · rw [if_neg A2, if_pos (Decidable.not_not.mp (fun A3 => P1 ⟨A0, A1, A3⟩))])]
                rfl
          · refine ⟨-1000000005, uI S 53 5 (S.1 53 5 + 1), EE 5 S, ?_, ?_, Rel_EE hR⟩
            · rw [fX5_move, pC_isSheet, bI_some, if_b2, if_pos h, pC_isSheet, bI_some, if_b2, if_pos g]
              simp only [cs, i3, rv44 hs4, kO2 hs4, ct, i3', rv44 ht4, kO2 ht4, Bool.and_true, cond_true, miss hs4, miss ht4, bI_some, if_b2, q1, p1, hz, hy, if_false, he, pC_err5]
            · rw [fX6_move, show ∀ T : MS, T.1 58 = S.1 58 → mFn (d + 4) 166 [.ref 54, .int (nI s), .int y, .int (nI t), .int v, .int w] T = some (some (.int (-1000000005)), T) from fun T hT => by
                rw [fX6_notMoved, pM_isSheet, bI_some, if_b2, if_pos h, pM_isSheet, bI_some, if_b2, if_pos g, hT]
                simp only [cs, i3, ct, i3', hz, hy, he, if_false], bI_some, if_neg (by decide), pM_err5, bI_some]
              · rfl
              · exact uI_oth (by decide)
    · refine ⟨-1000000001, uI S 53 1 (S.1 53 1 + 1), EE 1 S, ?_, ?_, Rel_EE hR⟩
      · rw [fX5_move, pC_isSheet, bI_some, if_b2, if_pos h, pC_isSheet, bI_some, if_b2, if_neg g, pC_err1, bI_some]
      · rw [nm1 _ (by rw [fX6_notMoved, pM_isSheet, bI_some, if_b2, if_pos h, pM_isSheet, bI_some, if_b2, if_neg g])]
        rfl
  · refine ⟨-1000000001, uI S 53 1 (S.1 53 1 + 1), EE 1 S, ?_, ?_, Rel_EE hR⟩
    · rw [fX5_move, pC_isSheet, bI_some, if_b2, if_neg h, pC_err1, bI_some]
    · rw [nm1 _ (by rw [fX6_notMoved, pM_isSheet, bI_some, if_b2, if_neg h])]
      rfl
