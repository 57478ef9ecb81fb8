/-! ===== calls: hush ===== -/
theorem z_p {a : Nat} (h : a = 0) : nI a = 0 := by rw [h]; rfl
theorem z_n {a : Nat} (h : ¬ a = 0) (hb : a < 1000000) : ¬ nI a = 0 := nI_ne0 (by omega) (by omega)
noncomputable def hP (ρ : Nat → Int32) (nf np f0 z o t : Nat) : Nat → Bool := fun i => (sol ρ nf np f0 z (andn o i) t).isNone
def hF (o : Nat) : Nat → Bool := fun i => decide (andn i o = 0)
theorem hushC (d : Nat) {S0 : MS} {nf np o f0 z t : Nat} (H : HB S0 nf np o) (c9 : S0.1 1 9 = nI o) (ho : o < 512) (hf0 : f0 < nf) (hz : 1 ≤ z ∧ z ≤ 99) (ht : t < nf) : ∀ n i, i + n = 2 ^ np → ∀ (S : MS) (y : Nat), Fr hc S0 S → y < 512 → ∃ S' r, mv (kX5_fewestToShut (mFn (d + 6))) 19 [(0, .ref 0), (1, .int (nI f0)), (2, .int (nI z)), (3, .int (nI t)), (4, .int (nI y)), (5, .int (nI i))] [] S = some (some (.int (nI r)), S') ∧ Fr hc S0 S' ∧ gS (hF o) (hP (S0.1 55) nf np f0 z o t) n i (some y) = some r := by
  have n2 := H.n2
  have n1 := H.n1
  have pw := pw_le n2
  intro n
  induction n with
  | zero =>
    intro i hi S y hS _
    refine ⟨S, y, ?_, hS, rfl⟩
    rw [lX5_fewestToShut_19, hS 1 (by decide), H.c5, sh_l (by omega), if_pos (nI_le (by omega) (by omega))]
  | succ n ih =>
    intro i hi S y hS hy
    have hi5 : i < 512 := by omega
    have row := lX5_fewestToShut_19 (d + 6) (nI f0) (nI z) (nI t) (nI y) (nI i) S
    rw [hS 1 (by decide), H.c5, sh_l (by omega), if_neg (nI_ge (by omega) (by omega)), c9, andn_e, bcC (d + 5) hi5, bI_some, bcC (d + 5) hy, bI_some, hS 1 (by decide), c9, andn_e, add1] at row
    rw [row]
    rw [gS]
    by_cases c : andn i o = 0
    · have hFi : hF o i = true := decide_eq_true c
      rw [if_pos (z_p c)]
      by_cases l : pcn i < pcn y
      · have p9 := pcn_9 y
        rw [if_pos (nI_lt l (by omega))]
        obtain ⟨S1, a1, a2, a3, _⟩ := spC d (O := andn o i) H (by have := andn_le o i; omega) hf0 hz S hS
        rw [a1, bV_some, heardC (d + 5) (show t < 8 by omega) (a3 t ht), bI_some]
        cases hv : sol (S0.1 55) nf np f0 z (andn o i) t with
        | none =>
          have hPi : hP (S0.1 55) nf np f0 z o t i = true := by
            unfold hP
            rw [hv]
            rfl
          rw [if_pos rfl, if_pos rfl, stB_y hFi l hPi]
          exact ih (i + 1) (by omega) S1 i a2 hi5
        | some a =>
          have hPi : hP (S0.1 55) nf np f0 z o t i = false := by
            unfold hP
            rw [hv]
            rfl
          rw [show (if (some a) = none then (0 : Int32) else 1) = 1 from if_neg (by simp), if_neg (show ¬ (1 : Int32) = 0 by decide), stB_no hPi]
          exact ih (i + 1) (by omega) S1 y a2 hy
      · rw [if_neg (nI_nlt (by omega) (by have := pcn_9 i; omega)), stB_le l]
        exact ih (i + 1) (by omega) S y hS hy
    · rw [if_neg (z_n c (by have := andn_le i o; omega)), stB_F _ (show hF o i = false from decide_eq_false c)]
      exact ih (i + 1) (by omega) S y hS hy
theorem hushM (d : Nat) {S0 : MS} {nf np o f0 z t : Nat} (H : HM S0 nf np o) (ho : o < 512) (hf0 : f0 < nf) (hz : 1 ≤ z ∧ z ≤ 99) (ht : t < nf) (v : Int32) {r : Nat} (hr : r < 512) : ∀ n i, i + n = o + 1 → ∀ (S : MS) (b : Option Nat), Fr hm S0 S → (∀ y, b = some y → y < 512) → gS (hF o) (hP (S0.1 55) nf np f0 z o t) n i b = some r → ∃ S', mv (kX6_hush (mFn (d + 6))) 68 [(0, .ref 54), (1, .int (nI f0)), (2, .int (nI z)), (3, .int (nI t)), (4, .int v), (5, .int (nI o)), (6, .int (bst b)), (7, .int (nI i))] [] S = some (some (.int (if v = 0 then nI (pcn r) else nI r)), S') ∧ Fr hm S0 S' := by
  obtain ⟨n1, n2, rf, rp, w2, w3, gw, sl⟩ := id H
  intro n
  induction n with
  | zero =>
    intro i hi S b hS _ hg
    have hg : b = some r := hg
    subst hg
    refine ⟨S, ?_, hS⟩
    rw [lX6_hush_68, if_pos (nI_lt (by omega) (by omega))]
    by_cases v0 : v = 0
    · rw [if_pos v0, if_pos v0, show bst (some r) = nI r from rfl, bcM (d + 5) hr, bI_some]
    · rw [if_neg v0, if_neg v0]
      rfl
  | succ n ih =>
    intro i hi S b hS hb hg
    have hi5 : i < 512 := by omega
    rw [gS] at hg
    have row := lX6_hush_68 (d + 6) (nI f0) (nI z) (nI t) v (nI o) (bst b) (nI i) S
    rw [if_neg (nI_nlt (by omega) (by omega)), andn_e, add1] at row
    rw [row]
    by_cases c : andn i o = 0
    · have hFi : hF o i = true := decide_eq_true c
      rw [if_pos (z_p c)]
      obtain ⟨S1, a1, a2, a3, _⟩ := spM d (O := andn o i) H (by have := andn_le o i; omega) hf0 hz S hS
      have e3 := a3 t ht
      rw [andn_e, a1, bV_some, if_in (show t < 8 by omega) (by omega), cN (show t ≤ 100000 by omega)]
      have go : ∀ bb : Option Nat, (bb = none ∨ ∃ y, bb = some y ∧ pcn i < pcn y) → bb = b → ∃ S', (if 0 ≤ S1.1 65 t then mv (kX6_hush (mFn (d + 6))) 68 [(0, .ref 54), (1, .int (nI f0)), (2, .int (nI z)), (3, .int (nI t)), (4, .int v), (5, .int (nI o)), (6, .int (bst b)), (7, .int (nI (i + 1)))] [] S1 else mv (kX6_hush (mFn (d + 6))) 68 [(0, .ref 54), (1, .int (nI f0)), (2, .int (nI z)), (3, .int (nI t)), (4, .int v), (5, .int (nI o)), (6, .int (nI i)), (7, .int (nI (i + 1)))] [] S1) = some (some (.int (if v = 0 then nI (pcn r) else nI r)), S') ∧ Fr hm S0 S' := by
        intro bb hbb eb
        cases hv : sol (S0.1 55) nf np f0 z (andn o i) t with
        | none =>
          rw [hv] at e3
          have hPi : hP (S0.1 55) nf np f0 z o t i = true := by
            unfold hP
            rw [hv]
            rfl
          have e : stB (hF o) (hP (S0.1 55) nf np f0 z o t) i b = some i := by
            rcases hbb with h0 | ⟨y, h0, h1⟩
            · rw [← eb, h0]; exact stB_n hFi hPi
            · rw [← eb, h0]; exact stB_y hFi h1 hPi
          rw [e] at hg
          rw [e3.1, if_neg (by decide)]
          exact ih (i + 1) (by omega) S1 (some i) a2 (fun y hy => by have := Option.some.inj hy; omega) hg
        | some a =>
          rw [hv] at e3
          have hPi : hP (S0.1 55) nf np f0 z o t i = false := by
            unfold hP
            rw [hv]
            rfl
          rw [stB_no hPi] at hg
          rw [e3.1, if_pos (nI_pos' (by have := e3.2.2.1; omega))]
          exact ih (i + 1) (by omega) S1 b a2 hb hg
      cases b with
      | none =>
        rw [if_pos (show bst none < 0 by decide)]
        exact go none (Or.inl rfl) rfl
      | some y =>
        have hy := hb y rfl
        have p9 := pcn_9 y
        have q9 := pcn_9 i
        rw [show bst (some y) = nI y from rfl, if_neg (nI_pos (by omega)), bcM (d + 5) hi5, bI_some, bcM (d + 5) hy, bI_some]
        by_cases l : pcn i < pcn y
        · rw [if_neg (nI_ge (by omega) (by omega)), a1, bV_some, if_in2 (show t < 8 by omega) (by omega)]
          exact go (some y) (Or.inr ⟨y, rfl, l⟩) rfl
        · rw [if_pos (nI_le (by omega) (by omega))]
          rw [stB_le l] at hg
          exact ih (i + 1) (by omega) S (some y) hS hb hg
    · rw [if_neg (z_n c (by have := andn_le i o; omega))]
      rw [stB_F _ (show hF o i = false from decide_eq_false c)] at hg
      exact ih (i + 1) (by omega) S b hS hb hg
/-- what the model's hearing stands on, in the row -/
theorem openM (d : Nat) {S T B : MS} {nf np nt nw o : Nat} (hs : RCs S.1 1 55 nf np nt nw o) (hf : RCf S.1 1 55) (hp : RCp S.1 1 55 nf np o) (hx : RCx S.1 1 55) (eT : T.1 55 = S.1 55) : ∃ B, mFn (d + 5) 130 [.ref 54] T = some (none, B) ∧ Fr [63, 64, 67] T B ∧ HM B nf np o ∧ B.1 55 = S.1 55 ∧ mFn (d + 2) 131 [.ref 54] B = some (some (.int (nI o)), B) := by
  obtain ⟨b1, b2, b3, b4, b5, c0, w2, c5, w3, c14, w5, c17, w6, c9, c10, c11, c12, r4, r0⟩ := hs
  obtain ⟨B, q1, q2, HB'⟩ := nowM d (S := T) b1 b2 (by rw [eT]; exact RFm_of hf) (by rw [eT]; exact RPm_of hp) (by rw [eT]; exact w2) (by rw [eT]; exact w3) (by rw [eT]; exact GW_of hx.1) (by rw [eT]; exact GW_of hx.2)
  have eB : B.1 55 = S.1 55 := (q2 55 (by decide)).trans eT
  exact ⟨B, q1, q2, HB', eB, pM_opened d (S := B) b2 (by rw [eB]; exact w3) (by
    intro p hp1
    rw [eB]
    exact RCp_bits b2 hp p hp1) b5⟩
theorem ok_hush (d : Nat) (x z g v : Int32) : Ok2 (d + 8) 55 144 [.ref 0, .int x, .int z, .int g, .int v] [.ref 54, .int x, .int z, .int g, .int v] := by
  intro S hR
  obtain ⟨⟨nf, np, nt, nw, o, hs, hf, hp, ht, hx⟩, hI, hE, hSh, hV⟩ := id hR
  obtain ⟨b1, b2, b3, b4, b5, c0, w2, c5, w3, c14, w5, c17, w6, c9, c10, c11, c12, r4, r0⟩ := id hs
  have pw := pw_le b2
  by_cases h : 0 ≤ x ∧ x < nI nf
  · by_cases hz : 1 ≤ z ∧ z ≤ 99
    · by_cases hg : 0 ≤ g ∧ g < nI nf
      · by_cases hv : 0 ≤ v ∧ v ≤ 1
        · obtain ⟨f, hf1, rfl⟩ := i_rng (by omega) h.1 h.2
          obtain ⟨y, y1, y2, rfl⟩ := rlo (n := 99) (by decide) (by decide) (Int32.not_lt.mpr hz.1) hz.2
          obtain ⟨t, ht1, rfl⟩ := i_rng (by omega) hg.1 hg.2
          by_cases hft : f = t
          · subst hft
            refine ⟨-1000000003, uI S 53 3 (S.1 53 3 + 1), EE 3 S, ?_, ?_, Rel_EE hR⟩
            · rw [fX5_hush, pC_isSay _ _ _ c0, bI_some, if_b2, if_pos ⟨h, hz⟩, pC_isF _ _ c0, bI_some, if_b2, if_pos hg, pC_isBit, bI_some, if_b2, if_pos hv, if_pos rfl, pC_err3, bI_some]
            · rw [fX6_hush, pM_isF _ _ (show (uI S 53 3 (S.1 53 3 + 1)).1 55 2 = nI nf from w2) (by omega), bI_some, if_b2, if_pos h, pM_isSize, bI_some, if_b2, if_pos hz, pM_isF _ _ (show (uI S 53 3 (S.1 53 3 + 1)).1 55 2 = nI nf from w2) (by omega), bI_some, if_b2, if_pos hg, pM_in, bI_some, if_b2, if_pos hv, if_pos rfl, pM_err3, bI_some]
              rfl
          · have hne : ¬ nI f = nI t := fun q => hft ((nI_eq (by omega) (by omega)).mp q)
            obtain ⟨A, a1, a2, HA⟩ := nowC (d + 1) b1 b2 hf hp c0 c5 c10 hx
            have eA : A.1 55 = S.1 55 := a2 55 (by decide)
            have eA1 : A.1 1 = S.1 1 := a2 1 (by decide)
            obtain ⟨A', r, k1, k2, k3⟩ := hushC d (f0 := f) (z := y) (t := t) HA (by rw [eA1]; exact c9) (by omega) hf1 ⟨y1, y2⟩ ht1 (2 ^ np) 0 (by omega) A o Fr.rf (by omega)
            have k1 : mv (kX5_fewestToShut (mFn (d + 6))) 19 [(0, .ref 0), (1, .int (nI f)), (2, .int (nI y)), (3, .int (nI t)), (4, .int (nI o)), (5, .int 0)] [] A = some (some (.int (nI r)), A') := k1
            have fA : Fr [14, 17, 35, 36, 37, 38] S A' := (a2.up (by decide)).tr (k2.up (by decide))
            obtain ⟨B, q1, q2, HB', eB, q3⟩ := openM (d + 2) (T := A') (B := A') hs hf hp hx (fA 55 (by decide))
            -- the sets agree
            have hsol : HDs (S.1 55) nf np f y 0 (sol (S.1 55) nf np f y 0) := by
              obtain ⟨_, _, _, _, u⟩ := spC d (O := 0) HA (by omega) hf1 ⟨y1, y2⟩ A Fr.rf
              rw [eA] at u
              exact u
            obtain ⟨g1, w, g2, g3⟩ := cm_all (F := hF o) (P := hP (S.1 55) nf np f y o t) (o := o) (m := 2 ^ np) b5 (fun i hi hFi => andn_le0 (by omega) (of_decide_eq_true hFi)) (fun i hi hFi => pcn_lt (by omega) (by omega) (andn_0 (by omega) (of_decide_eq_true hFi)) (by omega)) (decide_eq_true (andn_self (by omega))) (by
              unfold hP
              rw [andn_self (by omega), sol_0 hsol ht1 (fun q => hft q.symm)]
              rfl)
            rw [eA, g1, g3] at k3
            have hrw : w = r := Option.some.inj k3
            rw [hrw] at g3 g2
            have row2 := hushM (d + 1) (f0 := f) (z := y) (t := t) HB' (by omega) hf1 ⟨y1, y2⟩ ht1 v (r := r) (by omega) (o + 1) 0 (by omega) B none Fr.rf (fun y hy => by simp at hy) (by rw [eB]; exact g3)
            obtain ⟨B', m1, m2⟩ := row2
            have fB : Fr [63, 64, 65, 66, 67] A' B' := (q2.up (by decide)).tr (m2.up (by decide))
            refine ⟨if v = 0 then nI (pcn r) else nI r, A', B', ?_, ?_, Rel_h fA fB hR⟩
            · rw [fX5_hush, pC_isSay _ _ _ c0, bI_some, if_b2, if_pos ⟨h, hz⟩, pC_isF _ _ c0, bI_some, if_b2, if_pos hg, pC_isBit, bI_some, if_b2, if_pos hv, if_neg hne, fX5_fewestToShut, a1, bV_some, eA1, c9, k1, bI_some]
              by_cases v0 : v = 0
              · rw [if_pos v0, if_pos v0, bcC (d + 6) (by omega), bI_some]
              · rw [if_neg v0, if_neg v0]
            · have e : A'.1 55 2 = nI nf := by rw [fA 55 (by decide)]; exact w2
              rw [fX6_hush, pM_isF _ _ e (by omega), bI_some, if_b2, if_pos h, pM_isSize, bI_some, if_b2, if_pos hz, pM_isF _ _ e (by omega), bI_some, if_b2, if_pos hg, pM_in, bI_some, if_b2, if_pos hv, if_neg hne, show mFn (d + 7) 130 [.ref 54] A' = _ from q1, bV_some, pM_opened (d + 5) b2 (by rw [eB]; exact w3) (fun p hp1 => by rw [eB]; exact RCp_bits b2 hp p hp1) b5, bI_some]
              exact m1
        · refine ⟨-1000000001, uI S 53 1 (S.1 53 1 + 1), EE 1 S, ?_, ?_, Rel_EE hR⟩
          · rw [fX5_hush, pC_isSay _ _ _ c0, bI_some, if_b2, if_pos ⟨h, hz⟩, pC_isF _ _ c0, bI_some, if_b2, if_pos hg, pC_isBit, bI_some, if_b2, if_neg hv, pC_err1, bI_some]
          · rw [fX6_hush, pM_isF _ _ (show (uI S 53 1 (S.1 53 1 + 1)).1 55 2 = nI nf from w2) (by omega), bI_some, if_b2, if_pos h, pM_isSize, bI_some, if_b2, if_pos hz, pM_isF _ _ (show (uI S 53 1 (S.1 53 1 + 1)).1 55 2 = nI nf from w2) (by omega), bI_some, if_b2, if_pos hg, pM_in, bI_some, if_b2, if_neg hv, pM_err1, bI_some]
            rfl
      · refine ⟨-1000000001, uI S 53 1 (S.1 53 1 + 1), EE 1 S, ?_, ?_, Rel_EE hR⟩
        · rw [fX5_hush, pC_isSay _ _ _ c0, bI_some, if_b2, if_pos ⟨h, hz⟩, pC_isF _ _ c0, bI_some, if_b2, if_neg hg, pC_err1, bI_some]
        · rw [fX6_hush, pM_isF _ _ (show (uI S 53 1 (S.1 53 1 + 1)).1 55 2 = nI nf from w2) (by omega), bI_some, if_b2, if_pos h, pM_isSize, bI_some, if_b2, if_pos hz, pM_isF _ _ (show (uI S 53 1 (S.1 53 1 + 1)).1 55 2 = nI nf from w2) (by omega), bI_some, if_b2, if_neg hg, pM_err1, bI_some]
          rfl
    · refine ⟨-1000000001, uI S 53 1 (S.1 53 1 + 1), EE 1 S, ?_, ?_, Rel_EE hR⟩
      · rw [fX5_hush, pC_isSay _ _ _ c0, bI_some, if_b2, if_neg (fun q => hz q.2), pC_err1, bI_some]
      · rw [fX6_hush, pM_isF _ _ (show (uI S 53 1 (S.1 53 1 + 1)).1 55 2 = nI nf from w2) (by omega), bI_some, if_b2, if_pos h, pM_isSize, bI_some, if_b2, if_neg hz, pM_err1, bI_some]
        rfl
  · refine ⟨-1000000001, uI S 53 1 (S.1 53 1 + 1), EE 1 S, ?_, ?_, Rel_EE hR⟩
    · rw [fX5_hush, pC_isSay _ _ _ c0, bI_some, if_b2, if_neg (fun q => h q.1), pC_err1, bI_some]
    · rw [fX6_hush, pM_isF _ _ (show (uI S 53 1 (S.1 53 1 + 1)).1 55 2 = nI nf from w2) (by omega), bI_some, if_b2, if_neg h, pM_err1, bI_some]
      rfl
