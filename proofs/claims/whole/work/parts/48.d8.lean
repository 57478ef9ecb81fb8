/-! ===== calls: reach ===== -/
noncomputable def rP (ρ : Nat → Int32) (nf np f0 z o t by' : Nat) : Nat → Bool := fun i => match sol ρ nf np f0 z (o ||| i) t with
  | none => false
  | some a => decide (a.1 ≤ by')
def rF (o : Nat) : Nat → Bool := fun i => decide (i &&& o = 0)
theorem or_512 {a b : Nat} (ha : a < 512) (hb : b < 512) : a ||| b < 512 := Nat.or_lt_two_pow (n := 9) ha hb
theorem reachC (d : Nat) {S0 : MS} {nf np o f0 z t w : Nat} (H : HB S0 nf np o) (c9 : S0.1 1 9 = nI o) (ho : o < 512) (hf0 : f0 < nf) (hz : 1 ≤ z ∧ z ≤ 99) (ht : t < nf) (hw : w ≤ 99) : ∀ n i, i + n = 2 ^ np → ∀ (S : MS) (b : Option Nat), Fr hc S0 S → (∀ y, b = some y → y < 512) → ∃ S' r, mv (kX5_fewestToOpen (mFn (d + 6))) 13 [(0, .ref 0), (1, .int (nI f0)), (2, .int (nI z)), (3, .int (nI t)), (4, .int (nI w)), (5, .int (bst b)), (6, .int (nI i))] [] S = some (some (.int (bst r)), S') ∧ Fr hc S0 S' ∧ gS (rF o) (rP (S0.1 55) nf np f0 z o t w) n i b = r := by
  have n2 := H.n2
  have n1 := H.n1
  have pw := pw_le n2
  intro n
  induction n with
  | zero =>
    intro i hi S b hS _
    refine ⟨S, b, ?_, hS, rfl⟩
    rw [lX5_fewestToOpen_13, hS 1 (by decide), H.c5, sh_l (by omega), if_pos (nI_le (by omega) (by omega))]
  | succ n ih =>
    intro i hi S b hS hb
    have hi5 : i < 512 := by omega
    have row := lX5_fewestToOpen_13 (d + 6) (nI f0) (nI z) (nI t) (nI w) (bst b) (nI i) S
    rw [hS 1 (by decide), H.c5, sh_l (by omega), if_neg (nI_ge (by omega) (by omega)), c9, show fAnd (nI i) (nI o) = nI (i &&& o) from fa_and i o, show fOr (nI o) (nI i) = nI (o ||| i) from fa_or o i, add1] at row
    rw [row, gS]
    by_cases c : i &&& o = 0
    · have hFi : rF o i = true := decide_eq_true c
      have hO := or_512 ho hi5
      rw [if_pos (z_p c)]
      obtain ⟨S1, a1, a2, a3, _⟩ := spC d (O := o ||| i) H hO hf0 hz S hS
      have e3 := a3 t ht
      have go : ∀ bb : Option Nat, (bb = none ∨ ∃ y, bb = some y ∧ pcn i < pcn y) → bb = b → ∃ S' r, bV (mFn (d + 6) 9 [.ref 35, .int (nI f0), .int (nI z), .int (nI (o ||| i))] S) (fun S5 =>
                bI (mFn (d + 6) 10 [.ref 35, .int (nI t)] S5) (fun y6 S6 =>
                  if y6 = 0 then
                    mv (kX5_fewestToOpen (mFn (d + 6))) 13 [(0, .ref 0), (1, .int (nI f0)), (2, .int (nI z)), (3, .int (nI t)), (4, .int (nI w)), (5, .int (bst b)), (6, .int (nI (i + 1)))] [] S6
                  else
                    if nI t < 0 ∨ 8 ≤ (nI t).toNatClampNeg then none else
                    if nI w < (S6.1 37 (nI t).toNatClampNeg) then
                      mv (kX5_fewestToOpen (mFn (d + 6))) 13 [(0, .ref 0), (1, .int (nI f0)), (2, .int (nI z)), (3, .int (nI t)), (4, .int (nI w)), (5, .int (bst b)), (6, .int (nI (i + 1)))] [] S6
                    else
                      mv (kX5_fewestToOpen (mFn (d + 6))) 13 [(0, .ref 0), (1, .int (nI f0)), (2, .int (nI z)), (3, .int (nI t)), (4, .int (nI w)), (5, .int (nI i)), (6, .int (nI (i + 1)))] [] S6)) = some (some (.int (bst r)), S') ∧ Fr hc S0 S' ∧ gS (rF o) (rP (S0.1 55) nf np f0 z o t w) n (i + 1) (stB (rF o) (rP (S0.1 55) nf np f0 z o t w) i b) = r := by
        intro bb hbb eb
        rw [a1, bV_some, heardC (d + 5) (show t < 8 by omega) e3, bI_some]
        cases hv : sol (S0.1 55) nf np f0 z (o ||| i) t with
        | none =>
          have hPi : rP (S0.1 55) nf np f0 z o t w i = false := by
            unfold rP
            rw [hv]
          rw [if_pos rfl, if_pos rfl, stB_no hPi]
          exact ih (i + 1) (by omega) S1 b a2 hb
        | some a =>
          rw [hv] at e3
          have e4 : a.1 < 1000 := e3.2.2.1
          rw [show (if (some a) = none then (0 : Int32) else 1) = 1 from if_neg (by simp), if_neg (show ¬ (1 : Int32) = 0 by decide), if_in (show t < 8 by omega) (by omega), cN (show t ≤ 100000 by omega), e3.1]
          by_cases l : a.1 ≤ w
          · have hPi : rP (S0.1 55) nf np f0 z o t w i = true := by
              unfold rP
              rw [hv]
              exact decide_eq_true l
            have e : stB (rF o) (rP (S0.1 55) nf np f0 z o t w) i b = some i := by
              rcases hbb with h0 | ⟨y, h0, h1⟩
              · rw [← eb, h0]; exact stB_n hFi hPi
              · rw [← eb, h0]; exact stB_y hFi h1 hPi
            rw [if_neg (nI_nlt (by omega) (by omega)), e]
            exact ih (i + 1) (by omega) S1 (some i) a2 (fun y hy => by have := Option.some.inj hy; omega)
          · have hPi : rP (S0.1 55) nf np f0 z o t w i = false := by
              unfold rP
              rw [hv]
              exact decide_eq_false l
            rw [if_pos (nI_lt (by omega) (by omega)), stB_no hPi]
            exact ih (i + 1) (by omega) S1 b a2 hb
      cases b with
      | none =>
        rw [if_pos (show bst none < 0 by decide)]
        exact go none (Or.inl rfl) rfl
      | some y =>
        have hy := hb y rfl
        have p9 := pcn_9 y
        have q9 := pcn_9 i
        rw [show bst (some y) = nI y from rfl, if_neg (nI_pos (by omega)), bcC (d + 5) hi5, bI_some, bcC (d + 5) hy, bI_some, hS 1 (by decide), c9, show fOr (nI o) (nI i) = nI (o ||| i) from fa_or o i]
        by_cases l : pcn i < pcn y
        · rw [if_pos (nI_lt l (by omega))]
          exact go (some y) (Or.inr ⟨y, rfl, l⟩) rfl
        · rw [if_neg (nI_nlt (by omega) (by omega)), stB_le l]
          exact ih (i + 1) (by omega) S (some y) hS hb
    · rw [if_neg (z_n c (by have : i &&& o ≤ i := Nat.and_le_left; omega)), stB_F _ (show rF o i = false from decide_eq_false c)]
      exact ih (i + 1) (by omega) S b hS hb
theorem reachM (d : Nat) {S0 : MS} {nf np o f0 z t w s : Nat} (H : HM S0 nf np o) (ho : o < 512) (hs : s < 512) (hf0 : f0 < nf) (hz : 1 ≤ z ∧ z ≤ 99) (ht : t < nf) (hw : w ≤ 99) (v : Int32) : ∀ n i, i + n = s + 1 → ∀ (S : MS) (b : Option Nat), Fr hm S0 S → (∀ y, b = some y → y < 512) → ∃ S', mv (kX6_reach (mFn (d + 6))) 84 [(0, .ref 54), (1, .int (nI f0)), (2, .int (nI z)), (3, .int (nI t)), (4, .int (nI w)), (5, .int v), (6, .int (nI o)), (7, .int (nI s)), (8, .int (bst b)), (9, .int (nI i))] [] S = mv (kX6_reach (mFn (d + 6))) 84 [(0, .ref 54), (1, .int (nI f0)), (2, .int (nI z)), (3, .int (nI t)), (4, .int (nI w)), (5, .int v), (6, .int (nI o)), (7, .int (nI s)), (8, .int (bst (gS (fun i => decide (andn i s = 0)) (rP (S0.1 55) nf np f0 z o t w) n i b))), (9, .int (nI (s + 1)))] [] S' ∧ Fr hm S0 S' := by
  obtain ⟨n1, n2, rf, rp, w2, w3, gw, sl⟩ := id H
  intro n
  induction n with
  | zero =>
    intro i hi S b hS _
    have e : i = s + 1 := by omega
    subst e
    exact ⟨S, rfl, hS⟩
  | succ n ih =>
    intro i hi S b hS hb
    have hi5 : i < 512 := by omega
    have row := lX6_reach_84 (d + 6) (nI f0) (nI z) (nI t) (nI w) v (nI o) (nI s) (bst b) (nI i) S
    rw [if_neg (nI_nlt (by omega) (by omega)), andn_e, show fOr (nI o) (nI i) = nI (o ||| i) from fa_or o i, add1] at row
    rw [row, gS]
    by_cases c : andn i s = 0
    · have hFi : decide (andn i s = 0) = true := decide_eq_true c
      have hO := or_512 ho hi5
      rw [if_pos (z_p c)]
      obtain ⟨S1, a1, a2, a3, _⟩ := spM d (O := o ||| i) H hO hf0 hz S hS
      have e3 := a3 t ht
      have go : ∀ bb : Option Nat, (bb = none ∨ ∃ y, bb = some y ∧ pcn i < pcn y) → bb = b → ∃ S', bV (mFn (d + 6) 133 [.ref 54, .int (nI f0), .int (nI z), .int (nI (o ||| i))] S) (fun S7 =>
                if nI t < 0 ∨ 8 ≤ (nI t).toNatClampNeg then none else
                bI (mFn (d + 6) 87 [.int (S7.1 65 (nI t).toNatClampNeg), .int 0, .int (nI w)] S7) (fun y8 S8 =>
                  if y8 = 0 then
                    mv (kX6_reach (mFn (d + 6))) 84 [(0, .ref 54), (1, .int (nI f0)), (2, .int (nI z)), (3, .int (nI t)), (4, .int (nI w)), (5, .int v), (6, .int (nI o)), (7, .int (nI s)), (8, .int (bst b)), (9, .int (nI (i + 1)))] [] S8
                  else
                    mv (kX6_reach (mFn (d + 6))) 84 [(0, .ref 54), (1, .int (nI f0)), (2, .int (nI z)), (3, .int (nI t)), (4, .int (nI w)), (5, .int v), (6, .int (nI o)), (7, .int (nI s)), (8, .int (nI i)), (9, .int (nI (i + 1)))] [] S8)) = mv (kX6_reach (mFn (d + 6))) 84 [(0, .ref 54), (1, .int (nI f0)), (2, .int (nI z)), (3, .int (nI t)), (4, .int (nI w)), (5, .int v), (6, .int (nI o)), (7, .int (nI s)), (8, .int (bst (gS (fun i => decide (andn i s = 0)) (rP (S0.1 55) nf np f0 z o t w) n (i + 1) (stB (fun i => decide (andn i s = 0)) (rP (S0.1 55) nf np f0 z o t w) i b)))), (9, .int (nI (s + 1)))] [] S' ∧ Fr hm S0 S' := by
        intro bb hbb eb
        rw [a1, bV_some, if_in (show t < 8 by omega) (by omega), cN (show t ≤ 100000 by omega), pM_in, bI_some, if_b2]
        cases hv : sol (S0.1 55) nf np f0 z (o ||| i) t with
        | none =>
          rw [hv] at e3
          have hPi : rP (S0.1 55) nf np f0 z o t w i = false := by
            unfold rP
            rw [hv]
          rw [e3.1, if_neg (fun q => absurd q.1 (by decide)), stB_no hPi]
          exact ih (i + 1) (by omega) S1 b a2 hb
        | some a =>
          rw [hv] at e3
          have e4 : a.1 < 1000 := e3.2.2.1
          rw [e3.1]
          by_cases l : a.1 ≤ w
          · have hPi : rP (S0.1 55) nf np f0 z o t w i = true := by
              unfold rP
              rw [hv]
              exact decide_eq_true l
            have e : stB (fun i => decide (andn i s = 0)) (rP (S0.1 55) nf np f0 z o t w) i b = some i := by
              rcases hbb with h0 | ⟨y, h0, h1⟩
              · rw [← eb, h0]; exact stB_n hFi hPi
              · rw [← eb, h0]; exact stB_y hFi h1 hPi
            rw [if_pos ⟨nI_pos' (by omega), nI_le l (by omega)⟩, e]
            exact ih (i + 1) (by omega) S1 (some i) a2 (fun y hy => by have := Option.some.inj hy; omega)
          · have hPi : rP (S0.1 55) nf np f0 z o t w i = false := by
              unfold rP
              rw [hv]
              exact decide_eq_false l
            rw [if_neg (fun q => nI_ge (by omega) (by omega) q.2), stB_no hPi]
            exact ih (i + 1) (by omega) S1 b a2 hb
      cases b with
      | none =>
        rw [if_pos (show bst none < 0 by decide)]
        exact go none (Or.inl rfl) rfl
      | some y =>
        have hy := hb y rfl
        have p9 := pcn_9 y
        have q9 := pcn_9 i
        rw [show bst (some y) = nI y from rfl, if_neg (nI_pos (by omega)), bcM (d + 5) hi5, bI_some, bcM (d + 5) hy, bI_some]
        by_cases l : pcn i < pcn y
        · rw [if_neg (nI_ge (by omega) (by omega))]
          exact go (some y) (Or.inr ⟨y, rfl, l⟩) rfl
        · rw [if_pos (nI_le (by omega) (by omega)), stB_le l]
          exact ih (i + 1) (by omega) S (some y) hS hb
    · rw [if_neg (z_n c (by have := andn_le i s; omega)), stB_F _ (show decide (andn i s = 0) = false from decide_eq_false c)]
      exact ih (i + 1) (by omega) S b hS hb
theorem sh_bit {np o : Nat} (h9 : np ≤ 9) (j : Nat) : (andn (2 ^ np - 1) o).testBit j = (decide (j < np) && !o.testBit j) := by
  have := pw_le h9
  rw [andn_bit (by omega), Nat.testBit_two_pow_sub_one]
theorem reach_F {np o i : Nat} (h9 : np ≤ 9) (hi : i < 2 ^ np) : rF o i = decide (andn i (andn (2 ^ np - 1) o) = 0) := by
  have pw := pw_le h9
  have e : ∀ j, (andn i (andn (2 ^ np - 1) o)).testBit j = (i &&& o).testBit j := by
    intro j
    rw [andn_bit (by omega), sh_bit h9, Nat.testBit_and]
    by_cases hj : j < np
    · rw [decide_eq_true hj]
      cases i.testBit j <;> cases o.testBit j <;> rfl
    · rw [Nat.testBit_lt_two_pow (Nat.lt_of_lt_of_le hi (Nat.pow_le_pow_right (by decide) (by omega)))]
      rfl
  unfold rF
  rw [Nat.eq_of_testBit_eq e]
theorem gS_cut {F P : Nat → Bool} {m k : Nat} {b : Option Nat} (hk : k ≤ m) (h : ∀ j, k ≤ j → j < m → F j = false) : gS F P m 0 b = gS F P k 0 b := by
  obtain ⟨n, rfl⟩ : ∃ n, m = k + n := ⟨m - k, by omega⟩
  rw [gS_add, Nat.zero_add]
  exact gS_late _ _ _ (fun j h1 h2 => h j h1 h2)
theorem cm_reach {P : Nat → Bool} {np o : Nat} (h9 : np ≤ 9) : gS (rF o) P (2 ^ np) 0 none = gS (fun i => decide (andn i (andn (2 ^ np - 1) o) = 0)) P (andn (2 ^ np - 1) o + 1) 0 none := by
  have pw := pw_le h9
  have p1 : 0 < 2 ^ np := Nat.two_pow_pos np
  have hs : andn (2 ^ np - 1) o ≤ 2 ^ np - 1 := andn_le _ _
  rw [gS_cut (k := andn (2 ^ np - 1) o + 1) (by omega) (fun j h1 h2 => by
    rw [reach_F h9 h2]
    exact decide_eq_false (fun q => by have := andn_le0 (by omega) q; omega))]
  exact gS_cong _ _ _ (fun j _ h2 => ⟨reach_F h9 (by omega), rfl⟩)
theorem gS_lt {F P : Nat → Bool} {N r : Nat} (h : gS F P N 0 none = some r) : r < N := gS_bd N 0 none (by omega) (fun y hy => by simp at hy) r h
/-- open none is NONE -/
theorem shM {np o : Nat} (h9 : np ≤ 9) : fAnd (fSub (fShl 1 (nI np)) 1) (fXor (nI o) (-1)) = nI (andn (2 ^ np - 1) o) := by
  rw [sh_l (by omega), show fSub (nI (2 ^ np)) 1 = nI (2 ^ np - 1) from fs_nn (b := 1) (Nat.two_pow_pos np), andn_e]
theorem ok_reach (d : Nat) (x z g u v : Int32) : Ok2 (d + 8) 56 145 [.ref 0, .int x, .int z, .int g, .int u, .int v] [.ref 54, .int x, .int z, .int g, .int u, .int v] := by
  intro S hR
  obtain ⟨⟨nf, np, nt, nw, o, hs, hf, hp, ht, hx⟩, hI, hE, hSh, hV⟩ := id hR
  obtain ⟨b1, b2, b3, b4, b5, c0, w2, c5, w3, c14, w5, c17, w6, c9, c10, c11, c12, r4, r0⟩ := id hs
  have pw := pw_le b2
  have w2' : (uI S 53 1 (S.1 53 1 + 1)).1 55 2 = nI nf := w2
  by_cases h : 0 ≤ x ∧ x < nI nf
  · by_cases hz : 1 ≤ z ∧ z ≤ 99
    · by_cases hg : 0 ≤ g ∧ g < nI nf
      · by_cases hu : 0 ≤ u ∧ u ≤ 99
        · by_cases hv : 0 ≤ v ∧ v ≤ 1
          · obtain ⟨f, hf1, rfl⟩ := i_rng (by omega) h.1 h.2
            obtain ⟨y, y1, y2, rfl⟩ := rlo (n := 99) (by decide) (by decide) (Int32.not_lt.mpr hz.1) hz.2
            obtain ⟨t, ht1, rfl⟩ := i_rng (by omega) hg.1 hg.2
            obtain ⟨w, hw, rfl⟩ := rlit 99 (n := 99) (by decide) (by decide) hu.1 hu.2
            obtain ⟨A, a1, a2, HA⟩ := nowC (d + 1) b1 b2 hf hp c0 c5 c10 hx
            have eA : A.1 55 = S.1 55 := a2 55 (by decide)
            have eA1 : A.1 1 = S.1 1 := a2 1 (by decide)
            obtain ⟨A', r, k1, k2, k3⟩ := reachC d (f0 := f) (z := y) (t := t) (w := w) HA (by rw [eA1]; exact c9) (by omega) hf1 ⟨y1, y2⟩ ht1 hw (2 ^ np) 0 (by omega) A none Fr.rf (fun y hy => by simp at hy)
            have k1 : mv (kX5_fewestToOpen (mFn (d + 6))) 13 [(0, .ref 0), (1, .int (nI f)), (2, .int (nI y)), (3, .int (nI t)), (4, .int (nI w)), (5, .int (-1)), (6, .int 0)] [] A = some (some (.int (bst r)), A') := k1
            rw [eA] at k3
            have fA : Fr [14, 17, 35, 36, 37, 38] S A' := (a2.up (by decide)).tr (k2.up (by decide))
            have hb : ∀ y, r = some y → y < 512 := fun y hy => by
              rw [hy] at k3
              have := gS_lt k3
              omega
            have ss : andn (2 ^ np - 1) o < 512 := by have := andn_le (2 ^ np - 1) o; omega
            have cl : mFn (d + 8) 56 [.ref 0, .int (nI f), .int (nI y), .int (nI t), .int (nI w), .int v] S = _ := fX5_reach _ _ _ _ _ _ _
            rw [pC_isSay _ _ _ c0, bI_some, if_b2, if_pos ⟨h, hz⟩, pC_isF _ _ c0, bI_some, if_b2, if_pos hg, if_neg (Int32.not_lt.mpr hu.1), if_neg (Int32.not_lt.mpr hu.2), pC_isBit, bI_some, if_b2, if_pos hv, fX5_fewestToOpen, a1, bV_some, k1, bI_some] at cl
            have ml : ∀ T : MS, Fr [14, 17, 35, 36, 37, 38, 53] S T → ∃ B', mFn (d + 8) 145 [.ref 54, .int (nI f), .int (nI y), .int (nI t), .int (nI w), .int v] T = mv (kX6_reach (mFn (d + 7))) 84 [(0, .ref 54), (1, .int (nI f)), (2, .int (nI y)), (3, .int (nI t)), (4, .int (nI w)), (5, .int v), (6, .int (nI o)), (7, .int (nI (andn (2 ^ np - 1) o))), (8, .int (bst r)), (9, .int (nI (andn (2 ^ np - 1) o + 1)))] [] B' ∧ Fr [63, 64, 65, 66, 67] T B' := by
              intro T hT
              have e55 : T.1 55 = S.1 55 := hT 55 (by decide)
              have e : T.1 55 2 = nI nf := by rw [e55]; exact w2
              obtain ⟨B, q1, q2, HB', eB, _⟩ := openM (d + 2) (T := T) (B := T) hs hf hp hx e55
              obtain ⟨B', m1, m2⟩ := reachM (d + 1) (f0 := f) (z := y) (t := t) (w := w) (s := andn (2 ^ np - 1) o) HB' (by omega) ss hf1 ⟨y1, y2⟩ ht1 hw v (andn (2 ^ np - 1) o + 1) 0 (by omega) B none Fr.rf (fun y hy => by simp at hy)
              rw [eB, ← cm_reach b2, k3] at m1
              refine ⟨B', ?_, (q2.up (by decide)).tr (m2.up (by decide))⟩
              rw [fX6_reach, pM_isF _ _ e (by omega), bI_some, if_b2, if_pos h, pM_isSize, bI_some, if_b2, if_pos hz, pM_isF _ _ e (by omega), bI_some, if_b2, if_pos hg, pM_in, bI_some, if_b2, if_pos hu, pM_in, bI_some, if_b2, if_pos hv, show mFn (d + 7) 130 [.ref 54] T = _ from q1, bV_some, pM_opened (d + 5) b2 (by rw [eB]; exact w3) (fun p hp1 => by rw [eB]; exact RCp_bits b2 hp p hp1) b5, bI_some, il3, cl3, eB, w3, shM b2]
              exact m1
            cases r with
            | none =>
              rw [if_neg (show ¬ 0 ≤ bst none by decide), pC_err2, bI_some] at cl
              have fT : Fr [14, 17, 35, 36, 37, 38, 53] S (uI A' 53 2 (A'.1 53 2 + 1)) := (fA.up (by decide)).put (by decide)
              obtain ⟨B', k1, k2⟩ := ml _ fT
              rw [lX6_reach_84, if_pos (nI_lt (by omega) (by omega)), if_neg (show ¬ 0 ≤ bst none by decide), pM_err2, bI_some] at k1
              exact ⟨_, _, _, cl, k1, Rel_eh fA k2 hR⟩
            | some q =>
              have q5 := hb q rfl
              obtain ⟨B', k1, k2⟩ := ml A' (fA.up (by decide))
              rw [show bst (some q) = nI q from rfl, if_pos (nI_pos' (by omega))] at cl
              rw [lX6_reach_84, if_pos (nI_lt (by omega) (by omega)), show bst (some q) = nI q from rfl, if_pos (nI_pos' (by omega))] at k1
              by_cases v0 : v = 0
              · rw [if_pos v0, bcC (d + 6) q5, bI_some] at cl
                rw [if_pos v0, bcM (d + 6) q5, bI_some] at k1
                exact ⟨_, A', B', cl, k1, Rel_h fA k2 hR⟩
              · rw [if_neg v0] at cl k1
                exact ⟨_, A', B', cl, k1, Rel_h fA k2 hR⟩
          · refine ⟨-1000000001, uI S 53 1 (S.1 53 1 + 1), EE 1 S, ?_, ?_, Rel_EE hR⟩
            · rw [fX5_reach, pC_isSay _ _ _ c0, bI_some, if_b2, if_pos ⟨h, hz⟩, pC_isF _ _ c0, bI_some, if_b2, if_pos hg, if_neg (Int32.not_lt.mpr hu.1), if_neg (Int32.not_lt.mpr hu.2), pC_isBit, bI_some, if_b2, if_neg hv, pC_err1, bI_some]
            · rw [fX6_reach, pM_isF _ _ w2' (by omega), bI_some, if_b2, if_pos h, pM_isSize, bI_some, if_b2, if_pos hz, pM_isF _ _ w2' (by omega), bI_some, if_b2, if_pos hg, pM_in, bI_some, if_b2, if_pos hu, pM_in, bI_some, if_b2, if_neg hv, pM_err1, bI_some]
              rfl
        · refine ⟨-1000000001, uI S 53 1 (S.1 53 1 + 1), EE 1 S, ?_, ?_, Rel_EE hR⟩
          · rw [fX5_reach, pC_isSay _ _ _ c0, bI_some, if_b2, if_pos ⟨h, hz⟩, pC_isF _ _ c0, bI_some, if_b2, if_pos hg]
            by_cases hl : u < 0
            · rw [if_pos hl, pC_err1, bI_some]
            · rw [if_neg hl, if_pos (Int32.not_le.mp (fun q => hu ⟨Int32.not_lt.mp hl, q⟩)), pC_err1, bI_some]
          · rw [fX6_reach, pM_isF _ _ w2' (by omega), bI_some, if_b2, if_pos h, pM_isSize, bI_some, if_b2, if_pos hz, pM_isF _ _ w2' (by omega), bI_some, if_b2, if_pos hg, pM_in, bI_some, if_b2, if_neg hu, pM_err1, bI_some]
            rfl
      · refine ⟨-1000000001, uI S 53 1 (S.1 53 1 + 1), EE 1 S, ?_, ?_, Rel_EE hR⟩
        · rw [fX5_reach, pC_isSay _ _ _ c0, bI_some, if_b2, if_pos ⟨h, hz⟩, pC_isF _ _ c0, bI_some, if_b2, if_neg hg, pC_err1, bI_some]
        · rw [fX6_reach, pM_isF _ _ w2' (by omega), bI_some, if_b2, if_pos h, pM_isSize, bI_some, if_b2, if_pos hz, pM_isF _ _ w2' (by omega), bI_some, if_b2, if_neg hg, pM_err1, bI_some]
          rfl
    · refine ⟨-1000000001, uI S 53 1 (S.1 53 1 + 1), EE 1 S, ?_, ?_, Rel_EE hR⟩
      · rw [fX5_reach, pC_isSay _ _ _ c0, bI_some, if_b2, if_neg (fun q => hz q.2), pC_err1, bI_some]
      · rw [fX6_reach, pM_isF _ _ w2' (by omega), bI_some, if_b2, if_pos h, pM_isSize, bI_some, if_b2, if_neg hz, pM_err1, bI_some]
        rfl
  · refine ⟨-1000000001, uI S 53 1 (S.1 53 1 + 1), EE 1 S, ?_, ?_, Rel_EE hR⟩
    · rw [fX5_reach, pC_isSay _ _ _ c0, bI_some, if_b2, if_neg (fun q => h q.1), pC_err1, bI_some]
    · rw [fX6_reach, pM_isF _ _ w2' (by omega), bI_some, if_b2, if_neg h, pM_err1, bI_some]
      rfl
