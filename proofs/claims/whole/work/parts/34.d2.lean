/-! ===== calls: pipeIs, law, untell, talks, judge ===== -/
theorem le4 {v : Int32} (h0 : 0 ≤ v) (h4 : v ≤ 4) : v = 0 ∨ v = 1 ∨ v = 2 ∨ v = 3 ∨ v = 4 := by
  obtain ⟨a, ha, rfl⟩ := rlit 4 (n := 4) (by decide) (by decide) h0 h4
  have e : a = 0 ∨ a = 1 ∨ a = 2 ∨ a = 3 ∨ a = 4 := by omega
  rcases e with rfl | rfl | rfl | rfl | rfl
  · exact Or.inl rfl
  · exact Or.inr (Or.inl rfl)
  · exact Or.inr (Or.inr (Or.inl rfl))
  · exact Or.inr (Or.inr (Or.inr (Or.inl rfl)))
  · exact Or.inr (Or.inr (Or.inr (Or.inr rfl)))
theorem le1 {v : Int32} (h0 : 0 ≤ v) (h4 : v ≤ 1) : v = 0 ∨ v = 1 := by
  obtain ⟨a, ha, rfl⟩ := rlit 1 (n := 1) (by decide) (by decide) h0 h4
  have e : a = 0 ∨ a = 1 := by omega
  rcases e with rfl | rfl
  · exact Or.inl rfl
  · exact Or.inr rfl
theorem ok_pipeIs (d : Nat) (x v : Int32) : Ok2 (d + 5) 42 109 [.ref 0, .int x, .int v] [.ref 54, .int x, .int v] := by
  intro S hR
  obtain ⟨⟨nf, np, nt, nw, o, hs, hf, hp, ht, hx⟩, hI, hE, hSh, hV⟩ := id hR
  obtain ⟨b1, b2, b3, b4, b5, c0, w2, c5, w3, c14, w5, c17, w6, c9, c10, c11, c12, r4, r0⟩ := id hs
  have e1 : ∀ k, (uI S 53 k (S.1 53 k + 1)).1 55 3 = nI np := fun k => w3
  have o9 := pw_le b2
  by_cases h : 0 ≤ x ∧ x < nI np
  · obtain ⟨p, hp1, rfl⟩ := i_rng (by omega) h.1 h.2
    obtain ⟨q1, q2, q3, q4⟩ := hp p (by omega)
    obtain ⟨fr, to, p1, p2, p3, p4, p5, p6, p7⟩ := q4 hp1
    have hp9 : p < 9 := by omega
    by_cases hv : 0 ≤ v ∧ v ≤ 4
    · have mM : ∀ T : MS, T.1 55 = S.1 55 → ∀ R, (if 4 ≤ v then bI (mFn (d + 4) 100 [.ref 54, .int (nI p)] T) (fun y5 S5 => some (some (.int y5), S5)) else bI (mFn (d + 4) 96 [.ref 54, .int (nI p), .int v] T) (fun y6 S6 => some (some (.int y6), S6))) = R → mFn (d + 5) 109 [.ref 54, .int (nI p), .int v] T = R := by
        intro T hT R hR'
        rw [fX6_pipeIs, pM_isP _ _ (show T.1 55 3 = nI np by rw [hT]; exact w3) (by omega), bI_some, if_b2, if_pos h, pM_in, bI_some, if_b2, if_pos hv]
        exact hR'
      have cC : mFn (d + 5) 42 [.ref 0, .int (nI p), .int v] S = _ := fX5_pipeIs _ _ _ _
      rw [pC_isP _ _ c5, bI_some, if_b2, if_pos h] at cC
      rcases le4 hv.1 hv.2 with rfl | rfl | rfl | rfl | rfl
      · refine ⟨S.1 55 (39 + 4 * p), S, S, ?_, mM S rfl _ ?_, hR⟩
        · rw [cC, if_pos rfl, if_in hp9 (by omega), cN (by omega), show S.1 6 p = _ from q1]
        · rw [if_neg (by decide), pM_ab0 _ hp9, bI_some]
      · refine ⟨S.1 55 (40 + 4 * p), S, S, ?_, mM S rfl _ ?_, hR⟩
        · rw [cC, if_neg (by decide), if_pos rfl, if_in hp9 (by omega), cN (by omega), show S.1 7 p = _ from q2]
        · rw [if_neg (by decide), pM_ab1 _ hp9, bI_some]
      · refine ⟨S.1 55 (41 + 4 * p), S, S, ?_, mM S rfl _ ?_, hR⟩
        · rw [cC, if_neg (by decide), if_neg (by decide), if_pos rfl, if_in hp9 (by omega), cN (by omega), show S.1 8 p = _ from q3]
        · rw [if_neg (by decide), pM_ab2 _ hp9, bI_some]
      · refine ⟨S.1 55 (42 + 4 * p), S, S, ?_, mM S rfl _ ?_, hR⟩
        · rw [cC, if_neg (by decide), if_neg (by decide), if_neg (by decide), if_pos rfl, c9, bit_r (by omega) (by omega), p7]
        · rw [if_neg (by decide), pM_ab3 _ hp9, bI_some]
      · obtain ⟨T, t1, t2⟩ := slow_C d hp1 b2 b1 hf hp c10 hx.2
        have e : T.1 55 = S.1 55 := t2 55 (by decide)
        obtain ⟨U, u1, u2⟩ := slow_M d (S := T) hp9 b1 p1 p2 (by rw [e]; exact p3) (by rw [e]; exact p4) (by rw [e]; exact GW_of hx.2)
        rw [e] at u1
        refine ⟨slw (S.1 55) p, T, U, ?_, mM T e _ ?_, Rel_q t2 u2 hR⟩
        · rw [cC, if_neg (by decide), if_neg (by decide), if_neg (by decide), if_neg (by decide), if_pos rfl, t1, bI_some]
        · rw [if_pos (by decide), u1, bI_some]
    · have n0 : ¬ v = 0 := fun z => hv (by rw [z]; decide)
      have n1 : ¬ v = 1 := fun z => hv (by rw [z]; decide)
      have n2 : ¬ v = 2 := fun z => hv (by rw [z]; decide)
      have n3 : ¬ v = 3 := fun z => hv (by rw [z]; decide)
      have n4 : ¬ v = 4 := fun z => hv (by rw [z]; decide)
      refine ⟨-1000000001, uI S 53 1 (S.1 53 1 + 1), EE 1 S, ?_, ?_, Rel_EE hR⟩
      · rw [fX5_pipeIs, pC_isP _ _ c5, bI_some, if_b2, if_pos h, if_neg n0, if_neg n1, if_neg n2, if_neg n3, if_neg n4, pC_err1, bI_some]
      · rw [fX6_pipeIs, pM_isP _ _ (e1 1) (by omega), bI_some, if_b2, if_pos h, pM_in, bI_some, if_b2, if_neg hv, pM_err1, bI_some]
        rfl
  · refine ⟨-1000000001, uI S 53 1 (S.1 53 1 + 1), EE 1 S, ?_, ?_, Rel_EE hR⟩
    · rw [fX5_pipeIs, pC_isP _ _ c5, bI_some, if_b2, if_neg h, pC_err1, bI_some]
    · rw [fX6_pipeIs, pM_isP _ _ (e1 1) (by omega), bI_some, if_b2, if_neg h, pM_err1, bI_some]
      rfl
theorem ok_law (d : Nat) (i x y z : Int32) : Ok2 (d + 4) 48 129 [.ref 0, .int i, .int x, .int y, .int z] [.ref 54, .int i, .int x, .int y, .int z] := by
  intro S hR
  obtain ⟨⟨nf, np, nt, nw, o, hs, hf, hp, ht, hx⟩, hI, hE, hSh, hV⟩ := id hR
  obtain ⟨b1, b2, b3, b4, b5, c0, w2, c5, w3, c14, w5, c17, w6, c9, c10, c11, c12, r4, r0⟩ := id hs
  by_cases h : 0 ≤ i ∧ i ≤ 1
  · rcases le1 h.1 h.2 with rfl | rfl
    · obtain ⟨T, t1, t2⟩ := given_C0 d hx.1 x y z
      have e : T.1 55 = S.1 55 := t2 55 (by decide)
      obtain ⟨U, u1, u2⟩ := gives_M0 d (S := T) (by rw [e]; exact GW_of hx.1) x y z
      rw [e] at u1
      refine ⟨gv0 (S.1 55) x y z, T, U, ?_, ?_, Rel_q t2 u2 hR⟩
      · rw [fX5_law, pC_isBit, bI_some, if_b2, if_pos h, t1, bI_some]
      · rw [fX6_law, pM_in, bI_some, if_b2, if_pos h, u1, bI_some]
    · obtain ⟨T, t1, t2⟩ := given_C1 d hx.2 x y z
      have e : T.1 55 = S.1 55 := t2 55 (by decide)
      obtain ⟨U, u1, u2⟩ := gives_M1 d (S := T) (by rw [e]; exact GW_of hx.2) x y z
      rw [e] at u1
      refine ⟨gv1 (S.1 55) x y z, T, U, ?_, ?_, Rel_q t2 u2 hR⟩
      · rw [fX5_law, pC_isBit, bI_some, if_b2, if_pos h, t1, bI_some]
      · rw [fX6_law, pM_in, bI_some, if_b2, if_pos h, u1, bI_some]
  · refine ⟨-1000000001, uI S 53 1 (S.1 53 1 + 1), EE 1 S, ?_, ?_, Rel_EE hR⟩
    · rw [fX5_law, pC_isBit, bI_some, if_b2, if_neg h, pC_err1, bI_some]
    · rw [fX6_law, pM_in, bI_some, if_b2, if_neg h, pM_err1, bI_some]
      rfl
theorem RT_0s {σ : Nat → Nat → Int32} {t w a : Nat} (h : RT σ t w a) : (σ t 0 = 0 ∧ σ w a ≤ 0) ∨ (¬ σ t 0 = 0 ∧ ¬ σ w a ≤ 0) := by
  rcases h with ⟨h0, h1⟩ | ⟨h0, n, h1, h2, h3, h4, _⟩
  · exact Or.inl ⟨h0, by rw [h1]; decide⟩
  · refine Or.inr ⟨by rw [h0]; decide, by rw [h4]; exact nI_ge (a := 0) (b := n) (by omega) (by omega)⟩
theorem ok_untell (d : Nat) (i : Int32) : Ok2 (d + 3) 47 125 [.ref 0, .int i] [.ref 54, .int i] := by
  intro S hR
  obtain ⟨⟨nf, np, nt, nw, o, hs, hf, hp, ht, hx⟩, hI, hE, hSh, hV⟩ := id hR
  obtain ⟨b1, b2, b3, b4, b5, c0, w2, c5, w3, c14, w5, c17, w6, c9, c10, c11, c12, r4, r0⟩ := id hs
  by_cases h : 0 ≤ i ∧ i ≤ 1
  · rcases le1 h.1 h.2 with rfl | rfl
    · have ea : fAdd 159 (fMul 121 0) = nI 159 := by decide
      have rel : Rel (uI (uI S 12 0 0) 55 159 0) := Rel_city (nf := nf) (np := np) (nt := nt) (nw := nw) (o := o) hR ⟨by
      unfold RCs
      refine ⟨b1, b2, b3, b4, b5, ?_, ?_, ?_, ?_, ?_, ?_, ?_, ?_, ?_, ?_, ?_, ?_, ?_, ?_⟩ <;> (try simp (disch := omega) only [uI_oth, uI_ni, uI_eq]) <;> first | assumption | rfl, RCf_c (fun k h1 h2 => by simp (disch := omega) only [uI_oth, uI_ni, uI_eq]) (fun i h1 h2 => by simp (disch := omega) only [uI_oth, uI_ni, uI_eq]) hf, RCp_c b1 (fun k h1 h2 => by simp (disch := omega) only [uI_oth, uI_ni, uI_eq]) (fun i h1 h2 => by simp (disch := omega) only [uI_oth, uI_ni, uI_eq]) (fun f h1 => by simp (disch := omega) only [uI_oth, uI_ni, uI_eq]) hp, RCt_c (by simp (disch := omega) only [uI_oth, uI_ni, uI_eq]) (by simp (disch := omega) only [uI_oth, uI_ni, uI_eq]) (fun i h1 h2 => by simp (disch := omega) only [uI_oth, uI_ni, uI_eq]) ht, ⟨Or.inl ⟨by simp (disch := omega) only [uI_oth, uI_ni, uI_eq], by simp (disch := omega) only [uI_oth, uI_ni, uI_eq]⟩, RT_c (by simp (disch := omega) only [uI_oth, uI_ni, uI_eq]) (by simp (disch := omega) only [uI_oth, uI_ni, uI_eq]) (fun k => by simp (disch := omega) only [uI_oth, uI_ni, uI_eq]) (fun i h1 h2 => by simp (disch := omega) only [uI_oth, uI_ni, uI_eq]) hx.2⟩⟩ (fun k h1 h2 => by simp (disch := omega) only [uI_oth, uI_ni, uI_eq])
      rcases RT_0s hx.1 with ⟨z1, z2⟩ | ⟨z1, z2⟩
      · refine ⟨0, uI S 12 0 0, uI (uI S 12 0 0) 55 159 0, ?_, ?_, rel⟩
        · rw [fX5_untell, pC_isBit, bI_some, if_b2, if_pos h, if_neg (by decide)]
          simp only [cl0, rv11_0, kO12, cond_true, z1, if_true]
          rw [if_neg (by decide)]
        · rw [fX6_untell, pM_in, bI_some, if_b2, if_pos h, ea, pM_bec _ (by decide), bI_some, uI_oth (by decide), if_pos z2]
      · refine ⟨1, uI S 12 0 0, uI (uI S 12 0 0) 55 159 0, ?_, ?_, rel⟩
        · rw [fX5_untell, pC_isBit, bI_some, if_b2, if_pos h, if_neg (by decide)]
          simp only [cl0, rv11_0, kO12, cond_true, z1, if_false]
          rw [if_neg (by decide)]
        · rw [fX6_untell, pM_in, bI_some, if_b2, if_pos h, ea, pM_bec _ (by decide), bI_some, uI_oth (by decide), if_neg z2]
    · have ea : fAdd 159 (fMul 121 1) = nI 280 := by decide
      have rel : Rel (uI (uI S 15 0 0) 55 280 0) := Rel_city (nf := nf) (np := np) (nt := nt) (nw := nw) (o := o) hR ⟨by
      unfold RCs
      refine ⟨b1, b2, b3, b4, b5, ?_, ?_, ?_, ?_, ?_, ?_, ?_, ?_, ?_, ?_, ?_, ?_, ?_, ?_⟩ <;> (try simp (disch := omega) only [uI_oth, uI_ni, uI_eq]) <;> first | assumption | rfl, RCf_c (fun k h1 h2 => by simp (disch := omega) only [uI_oth, uI_ni, uI_eq]) (fun i h1 h2 => by simp (disch := omega) only [uI_oth, uI_ni, uI_eq]) hf, RCp_c b1 (fun k h1 h2 => by simp (disch := omega) only [uI_oth, uI_ni, uI_eq]) (fun i h1 h2 => by simp (disch := omega) only [uI_oth, uI_ni, uI_eq]) (fun f h1 => by simp (disch := omega) only [uI_oth, uI_ni, uI_eq]) hp, RCt_c (by simp (disch := omega) only [uI_oth, uI_ni, uI_eq]) (by simp (disch := omega) only [uI_oth, uI_ni, uI_eq]) (fun i h1 h2 => by simp (disch := omega) only [uI_oth, uI_ni, uI_eq]) ht, ⟨RT_c (by simp (disch := omega) only [uI_oth, uI_ni, uI_eq]) (by simp (disch := omega) only [uI_oth, uI_ni, uI_eq]) (fun k => by simp (disch := omega) only [uI_oth, uI_ni, uI_eq]) (fun i h1 h2 => by simp (disch := omega) only [uI_oth, uI_ni, uI_eq]) hx.1, Or.inl ⟨by simp (disch := omega) only [uI_oth, uI_ni, uI_eq], by simp (disch := omega) only [uI_oth, uI_ni, uI_eq]⟩⟩⟩ (fun k h1 h2 => by simp (disch := omega) only [uI_oth, uI_ni, uI_eq])
      rcases RT_0s hx.2 with ⟨z1, z2⟩ | ⟨z1, z2⟩
      · refine ⟨0, uI S 15 0 0, uI (uI S 15 0 0) 55 280 0, ?_, ?_, rel⟩
        · rw [fX5_untell, pC_isBit, bI_some, if_b2, if_pos h, if_neg (by decide)]
          simp only [cl1, rv11_1, kO15, cond_true, z1, if_true]
          rw [if_neg (by decide)]
        · rw [fX6_untell, pM_in, bI_some, if_b2, if_pos h, ea, pM_bec _ (by decide), bI_some, uI_oth (by decide), if_pos z2]
      · refine ⟨1, uI S 15 0 0, uI (uI S 15 0 0) 55 280 0, ?_, ?_, rel⟩
        · rw [fX5_untell, pC_isBit, bI_some, if_b2, if_pos h, if_neg (by decide)]
          simp only [cl1, rv11_1, kO15, cond_true, z1, if_false]
          rw [if_neg (by decide)]
        · rw [fX6_untell, pM_in, bI_some, if_b2, if_pos h, ea, pM_bec _ (by decide), bI_some, uI_oth (by decide), if_neg z2]
  · refine ⟨-1000000001, uI S 53 1 (S.1 53 1 + 1), EE 1 S, ?_, ?_, Rel_EE hR⟩
    · rw [fX5_untell, pC_isBit, bI_some, if_b2, if_neg h, pC_err1, bI_some]
    · rw [fX6_untell, pM_in, bI_some, if_b2, if_neg h, pM_err1, bI_some]
      rfl
theorem minI {a b : Nat} (ha : a ≤ 1000) (hb : b ≤ 1000) : (if nI a < nI b then nI a else nI b) = nI (min a b) := by
  by_cases h : a < b
  · rw [if_pos (nI_lt h (by omega)), Nat.min_eq_left (by omega)]
  · rw [if_neg (nI_nlt (by omega) (by omega)), Nat.min_eq_right (by omega)]
theorem talks_go (d : Nat) {nf n s : Nat} (hs : s < 4) (hnf : nf ≤ 8) (hn : n ≤ 24) (w : Nat → Int32) : ∀ m i, i + m = min nf n → ∃ r, i ≤ r ∧ r ≤ min nf n ∧ (∀ j, i ≤ j → j < r → 0 ≤ w j ∧ w j ≤ 99999) ∧ (∀ S : MS, (∀ j, j < 24 → S.1 (46 + 2 * s) j = w j) → ∃ T, mv (kX5_talks (mFn (d + 2))) 51 [(0, .ref 0), (2, .ref (45 + 2 * s)), (3, .int (nI (min nf n))), (4, .int (nI i))] [] S = some (some (.int (nI r)), T) ∧ (∀ k, k ≠ 5 → T.1 k = S.1 k) ∧ ∀ j, T.1 5 j = if i ≤ j ∧ j < r then w j else S.1 5 j) ∧ (∀ S : MS, (∀ j, j < 24 → S.1 60 (24 * s + j) = w j) → S.1 59 s = nI n → S.1 55 2 = nI nf → ∃ T, mv (kX6_talks (mFn (d + 2))) 18 [(0, .ref 54), (1, .int (nI s)), (3, .int (nI i))] [] S = some (some (.int (nI r)), T) ∧ (∀ k, k ≠ 55 → T.1 k = S.1 k) ∧ (∀ f, i ≤ f → f < r → T.1 55 (10 + 4 * f) = w f) ∧ ∀ j, (∀ f, i ≤ f → f < r → j ≠ 10 + 4 * f) → T.1 55 j = S.1 55 j) := by
  intro m
  have mn1 : min nf n ≤ nf := Nat.min_le_left _ _
  have mn2 : min nf n ≤ n := Nat.min_le_right _ _
  induction m with
  | zero =>
    intro i hi
    refine ⟨i, Nat.le_refl _, by omega, fun j h1 h2 => by omega, fun S hw => ⟨S, ?_, fun _ _ => rfl, fun j => by rw [if_neg (by omega)]⟩, fun S hw h9 h2 => ⟨S, ?_, fun _ _ => rfl, fun f h3 h4 => by omega, fun _ _ => rfl⟩⟩
    · rw [lX5_talks_51, if_pos (nI_le (by omega) (by omega)), show min nf n = i by omega]
    · rw [lX6_talks_18, if_in hs (by omega), cN (by omega), h9, il2, cl2, h2]
      by_cases h : n ≤ i
      · rw [if_pos (nI_le h (by omega))]
      · rw [if_neg (nI_ge (by omega) (by omega)), if_pos (nI_le (by omega) (by omega))]
  | succ m ih =>
    intro i hi
    have hi24 : i < 24 := by omega
    have hi8 : i < 8 := by omega
    by_cases hr : 0 ≤ w i ∧ w i ≤ 99999
    · obtain ⟨r, r1, r2, r3, r4, r5⟩ := ih (i + 1) (by omega)
      refine ⟨r, by omega, r2, fun j h1 h2 => ?_, fun S hw => ?_, fun S hw h9 h2 => ?_⟩
      · by_cases e : j = i
        · rw [e]; exact hr
        · exact r3 j (by omega) h2
      · obtain ⟨T, t1, t2, t3⟩ := r4 (uI S 5 i (w i)) (fun j hj => by rw [uI_oth (by omega)]; exact hw j hj)
        refine ⟨T, ?_, fun k hk => by rw [t2 k hk, uI_oth hk], fun j => ?_⟩
        · rw [lX5_talks_51, if_neg (nI_ge (by omega) (by omega))]
          simp only [kO2 hs, rvN hs, kA2 hs, ki2 hs, cond_true, cN (show i ≤ 100000 by omega), if_in2 hi24 (show 24 ≤ 1000 by decide), if_in2 hi8 (show 8 ≤ 1000 by decide), hw i hi24, if_neg (Int32.not_lt.mpr hr.1), if_pos hr.2, add1]
          exact t1
        · rw [t3]
          by_cases e : j = i
          · rw [e, if_neg (by omega), if_pos ⟨Nat.le_refl _, by omega⟩, uI_eq]
          · rw [uI_ni _ e]
            by_cases h2 : i + 1 ≤ j ∧ j < r
            · rw [if_pos h2, if_pos ⟨by omega, h2.2⟩]
            · rw [if_neg h2, if_neg (by omega)]
      · obtain ⟨T, t1, t2, t3, t4⟩ := r5 (uI S 55 (10 + 4 * i) (w i)) (fun j hj => by rw [uI_oth (by omega)]; exact hw j hj) (by rw [uI_oth (by omega)]; exact h9) (by rw [uI_ni _ (by omega)]; exact h2)
        refine ⟨T, ?_, fun k hk => by rw [t2 k hk, uI_oth hk], fun f h3 h4 => ?_, fun j hj => ?_⟩
        · rw [lX6_talks_18, if_in hs (by omega), cN (show s ≤ 100000 by omega), h9, if_neg (nI_ge (by omega) (by omega)), il2, cl2, h2, if_neg (nI_ge (by omega) (by omega)), i24, if_in (show 24 * s + i < 96 by omega) (by omega), cN (show 24 * s + i ≤ 100000 by omega), hw i hi24, pM_in, bI_some, if_b2, if_pos hr, if_in2 (show 24 * s + i < 96 by omega) (by omega), ri, fa_3, if_in (show 7 + 4 * i + 3 < 401 by omega) (by omega), cN (show 7 + 4 * i + 3 ≤ 100000 by omega), hw i hi24, add1, show 7 + 4 * i + 3 = 10 + 4 * i by omega]
          exact t1
        · by_cases e : f = i
          · rw [e, t4 _ (fun g h5 h6 => by omega), uI_eq]
          · exact t3 f (by omega) h4
        · rw [t4 j (fun f h3 h4 => hj f (by omega) h4), uI_ni _ (hj i (Nat.le_refl _) (by omega))]
    · refine ⟨i, Nat.le_refl _, by omega, fun j h1 h2 => by omega, fun S hw => ⟨S, ?_, fun _ _ => rfl, fun j => by rw [if_neg (by omega)]⟩, fun S hw h9 h2 => ⟨S, ?_, fun _ _ => rfl, fun f h3 h4 => by omega, fun _ _ => rfl⟩⟩
      · rw [lX5_talks_51, if_neg (nI_ge (by omega) (by omega))]
        simp only [kO2 hs, rvN hs, kA2 hs, ki2 hs, cond_true, cN (show i ≤ 100000 by omega), if_in2 hi24 (show 24 ≤ 1000 by decide), if_in2 hi8 (show 8 ≤ 1000 by decide), hw i hi24]
        by_cases h0 : w i < 0
        · rw [if_pos h0]
        · rw [if_neg h0, if_neg (fun z => hr ⟨Int32.not_lt.mp h0, z⟩)]
      · rw [lX6_talks_18, if_in hs (by omega), cN (show s ≤ 100000 by omega), h9, if_neg (nI_ge (by omega) (by omega)), il2, cl2, h2, if_neg (nI_ge (by omega) (by omega)), i24, if_in (show 24 * s + i < 96 by omega) (by omega), cN (show 24 * s + i ≤ 100000 by omega), hw i hi24, pM_in, bI_some, if_b2, if_neg hr]
theorem ok_talks (d : Nat) (x : Int32) : Ok2 (d + 4) 64 168 [.ref 0, .int x] [.ref 54, .int x] := by
  intro S hR
  obtain ⟨⟨nf, np, nt, nw, o, hs, hf, hp, ht, hx⟩, hI, hE, hSh, hV⟩ := id hR
  obtain ⟨b1, b2, b3, b4, b5, c0, w2, c5, w3, c14, w5, c17, w6, c9, c10, c11, c12, r4, r0⟩ := id hs
  by_cases h : 0 ≤ x ∧ x ≤ 3
  · obtain ⟨s, hs3, rfl⟩ := rlit 3 (n := 3) (by decide) (by decide) h.1 h.2
    have hs4 : s < 4 := by omega
    obtain ⟨q1, q2, q3, ⟨n, hn, q4, q4'⟩, q5⟩ := hSh s hs4
    have i3 : ∀ {α : Type} (a b : α), (if nI s < 0 ∨ 4 ≤ s then a else b) = b := fun a b => if_in2 hs4 (by decide) a b
    have cs : (nI s).toNatClampNeg = s := cN (by omega)
    by_cases hz : S.1 58 s = 0
    · refine ⟨-1000000002, uI S 53 2 (S.1 53 2 + 1), EE 2 S, ?_, ?_, Rel_EE hR⟩
      · rw [fX5_talks, pC_isSheet, bI_some, if_b2, if_pos h]
        simp only [cs, i3, rv44 hs4, kO2 hs4, Bool.and_true, cond_true, miss hs4, bI_some, if_b2, q1, hz, if_true, pC_err2]
      · rw [fX6_talks, nt_2 hs4 _ (by rw [uI_oth (by decide)]; exact hz) h, bI_some, if_neg (by decide), pM_err2, bI_some]
        rfl
    · obtain ⟨r, r1, r2, r3, r4, r5⟩ := talks_go (d + 1) hs4 b1 hn (fun j => S.1 60 (24 * s + j)) (min nf n) 0 (by omega)
      obtain ⟨T, t1, t2, t3⟩ := r4 S q5
      obtain ⟨U, u1, u2, u3, u4⟩ := r5 T (fun j hj => by rw [t2 60 (by decide)]) (by rw [t2 59 (by decide)]; exact q4) (by rw [t2 55 (by decide)]; exact w2)
      have mn1 : min nf n ≤ nf := Nat.min_le_left _ _
      have uk : ∀ k, k ≠ 55 → k ≠ 5 → U.1 k = S.1 k := fun k h1 h2 => by rw [u2 k h1, t2 k h2]
      have u55 : ∀ j, (∀ f, f < 8 → j ≠ 10 + 4 * f) → U.1 55 j = S.1 55 j := fun j h1 => by rw [u4 j (fun f h2 h3 => h1 f (by omega)), t2 55 (by decide)]
      refine ⟨nI r, T, U, ?_, ?_, Rel_city (nf := nf) (np := np) (nt := nt) (nw := nw) (o := o) hR ⟨?_, fun f hf8 => ?_, ?_, ?_, ?_⟩ (fun k h1 h2 => uk k (by omega) (by omega))⟩
      · rw [fX5_talks, pC_isSheet, bI_some, if_b2, if_pos h]
        simp only [cs, i3, rv44 hs4, kO2 hs4, Bool.and_true, cond_true, miss hs4, bI_some, if_b2, q1, hz, if_false, c0, q2, q4, minI (show nf ≤ 1000 by omega) (show n ≤ 1000 by omega)]
        exact t1
      · rw [fX6_talks, nt_0 hs4 _ (by rw [t2 58 (by decide)]; exact hz) h, bI_some, if_pos rfl]
        exact u1
      · unfold RCs
        rw [uk 1 (by decide) (by decide), u55 2 (fun f _ => by omega), u55 3 (fun f _ => by omega), u55 5 (fun f _ => by omega), u55 6 (fun f _ => by omega), u55 4 (fun f _ => by omega), u55 0 (fun f _ => by omega), u55 1 (fun f _ => by omega)]
        exact hs
      · obtain ⟨f1, f2, f3, f4, f5, f6, f7, f8⟩ := hf f hf8
        rw [uk (1 + 1) (by omega) (by omega), uk (1 + 2) (by omega) (by omega), uk (1 + 3) (by omega) (by omega), u2 (1 + 4) (by omega), t3, u55 (7 + 4 * f) (fun g _ => by omega), u55 (8 + 4 * f) (fun g _ => by omega), u55 (9 + 4 * f) (fun g _ => by omega)]
        by_cases hlt : f < r
        · rw [if_pos ⟨Nat.zero_le _, hlt⟩, u3 f (Nat.zero_le _) hlt]
          exact ⟨f1, f2, f3, rfl, f5, f6, f7, r3 f (Nat.zero_le _) hlt⟩
        · rw [if_neg (fun z => hlt z.2), u4 (10 + 4 * f) (fun g h1 h2 => by omega), t2 55 (by decide)]
          exact ⟨f1, f2, f3, f4, f5, f6, f7, f8⟩
      · exact RCp_c b1 (fun k h1 h2 => uk k (by omega) (by omega)) (fun i h1 h2 => u55 i (fun f _ => by omega)) (fun f h1 => u55 _ (fun g _ => by omega)) hp
      · exact RCt_c (uk _ (by omega) (by omega)) (uk _ (by omega) (by omega)) (fun i h1 h2 => u55 i (fun f _ => by omega)) ht
      · exact RCx_c (fun k h1 h2 h3 => uk k (by omega) (by omega)) (fun i h1 => u55 i (fun f _ => by omega)) hx
  · refine ⟨-1000000001, uI S 53 1 (S.1 53 1 + 1), EE 1 S, ?_, ?_, Rel_EE hR⟩
    · rw [fX5_talks, pC_isSheet, bI_some, if_b2, if_neg h, pC_err1, bI_some]
    · rw [fX6_talks, nt_1 _ _ h, bI_some, if_neg (by decide), pM_err1, bI_some]
      rfl
theorem judge_go (d : Nat) {S0 : MS} {nf np n s o : Nat} (hs : s < 4) (hnf : nf ≤ 8) (hnp : np ≤ 9) (hn : n ≤ 24) (hf : RCf S0.1 1 55) (hp : RCp S0.1 1 55 nf np o) (c10 : S0.1 1 10 = S0.1 55 4) (hx : RT S0.1 15 55 280) (w3 : S0.1 55 3 = nI np) (q4 : S0.1 59 s = nI n) (q5 : ∀ j, j < 24 → S0.1 (46 + 2 * s) j = S0.1 60 (24 * s + j)) : ∀ m i, i + m = min np n → ∃ r : Int32, (∀ S : MS, Fr [14, 17] S0 S → ∃ T, mv (kX5_judge (mFn (d + 4))) 51 [(0, .ref 0), (2, .ref (45 + 2 * s)), (3, .int (nI (min np n))), (4, .int (nI i))] [] S = some (some (.int r), T) ∧ Fr [14, 17] S0 T) ∧ (∀ S : MS, Fr [14, 17, 63, 64] S0 S → ∃ T, mv (kX6_judge (mFn (d + 4))) 18 [(0, .ref 54), (1, .int (nI s)), (3, .int (nI i))] [] S = some (some (.int r), T) ∧ Fr [14, 17, 63, 64] S0 T) := by
  intro m
  have mn1 : min np n ≤ np := Nat.min_le_left _ _
  have mn2 : min np n ≤ n := Nat.min_le_right _ _
  induction m with
  | zero =>
    intro i hi
    have ei : i = min np n := by omega
    refine ⟨nI i, fun S hS => ⟨S, ?_, hS⟩, fun S hS => ⟨S, ?_, hS⟩⟩
    · rw [lX5_judge_51, if_pos (nI_le (by omega) (by omega)), ei]
    · rw [lX6_judge_18, if_in hs (by omega), cN (by omega), hS 59 (by decide), q4, il3, cl3, hS 55 (by decide), w3]
      by_cases h : n ≤ i
      · rw [if_pos (nI_le h (by omega))]
      · rw [if_neg (nI_ge (by omega) (by omega)), if_pos (nI_le (by omega) (by omega))]
  | succ m ih =>
    intro i hi
    have hi24 : i < 24 := by omega
    have hi9 : i < 9 := by omega
    obtain ⟨fr, to, p1, p2, p3, p4, p5, p6, p7⟩ := (hp i hi9).2.2.2 (by omega)
    have cl : ∀ S : MS, Fr [14, 17] S0 S → ∃ T, mv (kX5_judge (mFn (d + 4))) 51 [(0, .ref 0), (2, .ref (45 + 2 * s)), (3, .int (nI (min np n))), (4, .int (nI i))] [] S = (if S0.1 60 (24 * s + i) = slw (S0.1 55) i then mv (kX5_judge (mFn (d + 4))) 51 [(0, .ref 0), (2, .ref (45 + 2 * s)), (3, .int (nI (min np n))), (4, .int (nI (i + 1)))] [] T else some (some (.int (nI i)), T)) ∧ Fr [14, 17] S0 T := by
      intro S hS
      have g : ∀ k, k ≠ 14 → k ≠ 17 → S.1 k = S0.1 k := fun k h1 h2 => hS k (by simp [h1, h2])
      obtain ⟨T, t1, t2⟩ := slow_C d (S := S) (p := i) (np := np) (nf := nf) (o := o) (by omega) hnp hnf (RCf_c (fun k h1 h2 => g k (by omega) (by omega)) (fun j h1 h2 => by rw [g 55 (by omega) (by omega)]) hf) (RCp_c hnf (fun k h1 h2 => g k (by omega) (by omega)) (fun j h1 h2 => by rw [g 55 (by omega) (by omega)]) (fun f h1 => by rw [g 55 (by omega) (by omega)]) hp) (by rw [g 1 (by omega) (by omega), g 55 (by omega) (by omega)]; exact c10) (RT_c (by rw [g 15 (by omega) (by omega)]) (by rw [g 15 (by omega) (by omega)]) (fun k => by rw [g (15 + 1) (by omega) (by omega)]) (fun j h1 h2 => by rw [g 55 (by omega) (by omega)]) hx)
      refine ⟨T, ?_, hS.tr t2⟩
      rw [lX5_judge_51, if_neg (nI_ge (by omega) (by omega))]
      simp only [kO2 hs, rvN hs, kA2 hs, ki2 hs, cond_true, cN (show i ≤ 100000 by omega), if_in2 hi24 (show 24 ≤ 1000 by decide), t1, bI_some, add1, g (46 + 2 * s) (by omega) (by omega), q5 i hi24, g 55 (by omega) (by omega)]
    have ml : ∀ S : MS, Fr [14, 17, 63, 64] S0 S → ∃ T, mv (kX6_judge (mFn (d + 4))) 18 [(0, .ref 54), (1, .int (nI s)), (3, .int (nI i))] [] S = (if S0.1 60 (24 * s + i) = slw (S0.1 55) i then mv (kX6_judge (mFn (d + 4))) 18 [(0, .ref 54), (1, .int (nI s)), (3, .int (nI (i + 1)))] [] T else some (some (.int (nI i)), T)) ∧ Fr [14, 17, 63, 64] S0 T := by
      intro S hS
      have e : S.1 55 = S0.1 55 := hS 55 (by decide)
      obtain ⟨T, t1, t2⟩ := slow_M d (S := S) hi9 hnf p1 p2 (by rw [e]; exact p3) (by rw [e]; exact p4) (by rw [e]; exact GW_of hx)
      refine ⟨T, ?_, hS.tr (t2.up (by decide))⟩
      rw [lX6_judge_18, if_in hs (by omega), cN (show s ≤ 100000 by omega), hS 59 (by decide), q4, if_neg (nI_ge (by omega) (by omega)), il3, cl3, e, w3, if_neg (nI_ge (by omega) (by omega)), i24, if_in (show 24 * s + i < 96 by omega) (by omega), cN (show 24 * s + i ≤ 100000 by omega), t1, bI_some, add1, hS 60 (by decide), e]
    by_cases hq : S0.1 60 (24 * s + i) = slw (S0.1 55) i
    · obtain ⟨r, r1, r2⟩ := ih (i + 1) (by omega)
      refine ⟨r, fun S hS => ?_, fun S hS => ?_⟩
      · obtain ⟨T, t1, t2⟩ := cl S hS
        rw [if_pos hq] at t1
        obtain ⟨U, u1, u2⟩ := r1 T t2
        exact ⟨U, t1.trans u1, u2⟩
      · obtain ⟨T, t1, t2⟩ := ml S hS
        rw [if_pos hq] at t1
        obtain ⟨U, u1, u2⟩ := r2 T t2
        exact ⟨U, t1.trans u1, u2⟩
    · refine ⟨nI i, fun S hS => ?_, fun S hS => ?_⟩
      · obtain ⟨T, t1, t2⟩ := cl S hS
        rw [if_neg hq] at t1
        exact ⟨T, t1, t2⟩
      · obtain ⟨T, t1, t2⟩ := ml S hS
        rw [if_neg hq] at t1
        exact ⟨T, t1, t2⟩
theorem ok_judge (d : Nat) (x : Int32) : Ok2 (d + 5) 65 169 [.ref 0, .int x] [.ref 54, .int x] := by
  intro S hR
  obtain ⟨⟨nf, np, nt, nw, o, hs, hf, hp, ht, hx⟩, hI, hE, hSh, hV⟩ := id hR
  obtain ⟨b1, b2, b3, b4, b5, c0, w2, c5, w3, c14, w5, c17, w6, c9, c10, c11, c12, r4, r0⟩ := id hs
  by_cases h : 0 ≤ x ∧ x ≤ 3
  · obtain ⟨s, hs3, rfl⟩ := rlit 3 (n := 3) (by decide) (by decide) h.1 h.2
    have hs4 : s < 4 := by omega
    obtain ⟨q1, q2, q3, ⟨n, hn, q4, q4'⟩, q5⟩ := hSh s hs4
    have i3 : ∀ {α : Type} (a b : α), (if nI s < 0 ∨ 4 ≤ s then a else b) = b := fun a b => if_in2 hs4 (by decide) a b
    have cs : (nI s).toNatClampNeg = s := cN (by omega)
    by_cases hz : S.1 58 s = 0
    · refine ⟨-1000000002, uI S 53 2 (S.1 53 2 + 1), EE 2 S, ?_, ?_, Rel_EE hR⟩
      · rw [fX5_judge, pC_isSheet, bI_some, if_b2, if_pos h]
        simp only [cs, i3, rv44 hs4, kO2 hs4, Bool.and_true, cond_true, miss hs4, bI_some, if_b2, q1, hz, if_true, pC_err2]
      · rw [fX6_judge, nt_2 hs4 _ (by rw [uI_oth (by decide)]; exact hz) h, bI_some, if_neg (by decide), pM_err2, bI_some]
        rfl
    · obtain ⟨r, r4, r5⟩ := judge_go d hs4 b1 b2 hn hf hp c10 hx.2 w3 q4 q5 (min np n) 0 (by omega)
      obtain ⟨T, t1, t2⟩ := r4 S Fr.rf
      obtain ⟨U, u1, u2⟩ := r5 T (t2.up (by decide))
      refine ⟨r, T, U, ?_, ?_, Rel_fr (u2.up (by decide)) (by rw [u2 54 (by decide)]) (by rw [u2 54 (by decide)]) (by rw [u2 42 (by decide)]) hR⟩
      · rw [fX5_judge, pC_isSheet, bI_some, if_b2, if_pos h]
        simp only [cs, i3, rv44 hs4, kO2 hs4, Bool.and_true, cond_true, miss hs4, bI_some, if_b2, q1, hz, if_false, c5, q2, q4, minI (show np ≤ 1000 by omega) (show n ≤ 1000 by omega)]
        exact t1
      · rw [fX6_judge, nt_0 hs4 _ (by rw [t2 58 (by decide)]; exact hz) h, bI_some, if_pos rfl]
        exact u1
  · refine ⟨-1000000001, uI S 53 1 (S.1 53 1 + 1), EE 1 S, ?_, ?_, Rel_EE hR⟩
    · rw [fX5_judge, pC_isSheet, bI_some, if_b2, if_neg h, pC_err1, bI_some]
    · rw [fX6_judge, nt_1 _ _ h, bI_some, if_neg (by decide), pM_err1, bI_some]
      rfl
