/-! ===== calls: odds ===== -/
def MRw (ρ : Nat → Int32) (nf np o : Nat) : Prop := nf ≤ 8 ∧ np ≤ 9 ∧ RFm ρ ∧ RPm ρ nf np o ∧ ρ 2 = nI nf ∧ ρ 3 = nI np ∧ GW ρ 159 ∧ GW ρ 280 ∧ (∀ p, p < np → ρ (42 + 4 * p) = nI (if o.testBit p then 1 else 0)) ∧ o < 2 ^ np
theorem MRw_of {σ : Nat → Nat → Int32} {nf np nt nw o : Nat} (hs : RCs σ 1 55 nf np nt nw o) (hf : RCf σ 1 55) (hp : RCp σ 1 55 nf np o) (hx : RCx σ 1 55) : MRw (σ 55) nf np o := by
  obtain ⟨b1, b2, b3, b4, b5, c0, w2, c5, w3, c14, w5, c17, w6, c9, c10, c11, c12, r4, r0⟩ := hs
  exact ⟨b1, b2, RFm_of hf, RPm_of hp, w2, w3, GW_of hx.1, GW_of hx.2, RCp_bits b2 hp, b5⟩
/-- the model's hearing now, from a state with such a row -/
theorem nowSp (d : Nat) {S : MS} {nf np o f0 z : Nat} (h : MRw (S.1 55) nf np o) (hf0 : f0 < nf) (hz : 1 ≤ z ∧ z ≤ 99) : ∃ B', mFn (d + 7) 135 [.ref 54, .int (nI f0), .int (nI z)] S = some (none, B') ∧ Fr [63, 64, 65, 66, 67] S B' ∧ ∀ f, f < nf → encM B' f (sol (S.1 55) nf np f0 z o f) := by
  obtain ⟨n1, n2, rf, rp, w2, w3, g1, g2, hb, ho⟩ := h
  have pw := pw_le n2
  obtain ⟨B, q1, q2, HB'⟩ := nowM (d + 1) (S := S) n1 n2 rf rp w2 w3 g1 g2
  have eB : B.1 55 = S.1 55 := q2 55 (by decide)
  obtain ⟨B', m1, m2, m3, _⟩ := spM d (O := o) HB' (by omega) hf0 hz B Fr.rf
  rw [eB] at m3
  have op := pM_opened (d + 4) (S := B) n2 (by rw [eB]; exact w3) (fun p hp => by rw [eB]; exact hb p hp) ho
  refine ⟨B', ?_, (q2.up (by decide)).tr (m2.up (by decide)), m3⟩
  rw [fX6_spreadsNow, show mFn (d + 6) 130 [.ref 54] S = _ from q1, bV_some, show mFn (d + 6) 131 [.ref 54] B = _ from op, bI_some, m1, bV_some]
def kS (P : Nat → Bool) : Nat → Nat → Nat → Nat
  | 0, _, c => c
  | n + 1, i, c => kS P n (i + 1) (if P i then c + 1 else c)
theorem kS_le {P : Nat → Bool} : ∀ n i c, kS P n i c ≤ c + n := by
  intro n
  induction n with
  | zero => intro i c; exact Nat.le_refl _
  | succ n ih =>
    intro i c
    have h := ih (i + 1) (if P i then c + 1 else c)
    rw [kS]
    by_cases e : P i = true
    · rw [if_pos e] at h ⊢; omega
    · rw [if_neg e] at h ⊢; omega
noncomputable def oP (ρ : Nat → Int32) (nf np z o t : Nat) : Nat → Bool := fun f => (sol ρ nf np f z o t).isSome
def cdN (a b : Nat) : Nat → Nat
  | 0 => 1
  | k + 1 => if k = 0 then 1 else if a % (k + 1) = 0 ∧ b % (k + 1) = 0 then k + 1 else cdN a b k
def mdN : Nat → Nat → Nat → Nat × Nat
  | 0, a, b => (a, b)
  | k + 1, a, b => if k = 0 then (a, b) else if a % (k + 1) = 0 ∧ b % (k + 1) = 0 then mdN k (a / (k + 1)) (b / (k + 1)) else mdN k a b
theorem cm_div : ∀ a, a < 9 → ∀ b, b < 9 → 1 ≤ b → mdN b a b = (a / cdN a b b, b / cdN a b b) ∧ 1 ≤ cdN a b b ∧ cdN a b b ≤ 8 := by decide +kernel
theorem cd_go (d : Nat) {a b : Nat} (ha : a ≤ 8) (hb : b ≤ 8) (S : MS) : ∀ k, k ≤ 8 → mv (kX5_commonDivisor (mFn d)) 2 [(0, .int (nI a)), (1, .int (nI b)), (2, .int (nI k))] [] S = some (some (.int (nI (cdN a b k))), S) := by
  intro k
  induction k with
  | zero =>
    intro _
    rw [lX5_commonDivisor_2, if_pos (by decide)]
    rfl
  | succ k ih =>
    intro hk
    rw [lX5_commonDivisor_2]
    by_cases k0 : k = 0
    · subst k0
      rw [if_pos (by decide)]
      rfl
    · rw [if_neg (show ¬ nI (k + 1) ≤ 1 from nI_ge (a := 1) (b := k + 1) (by omega) (by omega))]
      simp only [if_neg (nI_ne0 (show 0 < k + 1 by omega) (show k + 1 < 2 ^ 31 by omega))]
      rw [pk_rem (by omega) (by omega) (by omega), pk_rem (by omega) (by omega) (by omega), m1 (by omega) (by omega), Nat.add_sub_cancel, ih (by omega), cdN, if_neg k0]
      have la := Nat.mod_lt a (show k + 1 > 0 by omega)
      have lb := Nat.mod_lt b (show k + 1 > 0 by omega)
      by_cases c1 : a % (k + 1) = 0
      · rw [if_pos (z_p c1)]
        by_cases c2 : b % (k + 1) = 0
        · rw [if_pos (z_p c2), if_pos ⟨c1, c2⟩]
        · rw [if_neg (z_n c2 (by omega)), if_neg (fun q => c2 q.2)]
      · rw [if_neg (z_n c1 (by omega)), if_neg (fun q => c1 q.1)]
theorem md_go (d : Nat) (v : Int32) (S : MS) : ∀ k, k ≤ 8 → ∀ a b, a ≤ 8 → b ≤ 8 → mv (kX6_odds (mFn d)) 92 [(3, .int v), (4, .int (nI a)), (5, .int (nI b)), (6, .int (nI k))] [] S = some (some (.int (if v = 0 then nI (mdN k a b).1 else nI (mdN k a b).2)), S) := by
  intro k
  induction k with
  | zero =>
    intro _ a b ha hb
    rw [lX6_odds_92, if_pos (by decide)]
    by_cases v0 : v = 0
    · rw [if_pos v0, if_pos v0]; rfl
    · rw [if_neg v0, if_neg v0]; rfl
  | succ k ih =>
    intro hk a b ha hb
    rw [lX6_odds_92]
    by_cases k0 : k = 0
    · subst k0
      rw [if_pos (by decide)]
      by_cases v0 : v = 0
      · rw [if_pos v0, if_pos v0]; rfl
      · rw [if_neg v0, if_neg v0]; rfl
    · have da : a / (k + 1) ≤ 8 := Nat.le_trans (Nat.div_le_self _ _) ha
      have db : b / (k + 1) ≤ 8 := Nat.le_trans (Nat.div_le_self _ _) hb
      rw [if_neg (show ¬ nI (k + 1) ≤ 1 from nI_ge (a := 1) (b := k + 1) (by omega) (by omega))]
      simp only [if_neg (nI_ne0 (show 0 < k + 1 by omega) (show k + 1 < 2 ^ 31 by omega))]
      rw [pk_rem (by omega) (by omega) (by omega), pk_rem (by omega) (by omega) (by omega), m1 (by omega) (by omega), Nat.add_sub_cancel, pk_div (by omega) (by omega) (by omega), pk_div (by omega) (by omega) (by omega), ih (by omega) _ _ da db, ih (by omega) _ _ ha hb, mdN, if_neg k0]
      have la := Nat.mod_lt a (show k + 1 > 0 by omega)
      have lb := Nat.mod_lt b (show k + 1 > 0 by omega)
      by_cases c1 : a % (k + 1) = 0
      · rw [if_pos (z_p c1)]
        by_cases c2 : b % (k + 1) = 0
        · rw [if_pos (z_p c2), if_pos (show a % (k + 1) = 0 ∧ b % (k + 1) = 0 from ⟨c1, c2⟩)]
        · rw [if_neg (z_n c2 (by omega)), if_neg (show ¬ (a % (k + 1) = 0 ∧ b % (k + 1) = 0) from fun q => c2 q.2)]
      · rw [if_neg (z_n c1 (by omega)), if_neg (show ¬ (a % (k + 1) = 0 ∧ b % (k + 1) = 0) from fun q => c1 q.1)]
theorem oddsC (d : Nat) {S0 : MS} {nf np o z t : Nat} (H : HB S0 nf np o) (c9 : S0.1 1 9 = nI o) (ho : o < 512) (hz : 1 ≤ z ∧ z ≤ 99) (ht : t < nf) (v : Int32) : ∀ n i, i + n = nf → ∀ (S : MS) (c : Nat), Fr hc S0 S → ∃ S', mv (kX5_odds (mFn (d + 6))) 35 [(0, .ref 0), (1, .int (nI t)), (2, .int (nI z)), (3, .int v), (4, .int (nI c)), (5, .int (nI i))] [] S = mv (kX5_odds (mFn (d + 6))) 35 [(0, .ref 0), (1, .int (nI t)), (2, .int (nI z)), (3, .int v), (4, .int (nI (kS (oP (S0.1 55) nf np z o t) n i c))), (5, .int (nI nf))] [] S' ∧ Fr hc S0 S' := by
  have n1 := H.n1
  intro n
  induction n with
  | zero =>
    intro i hi S c hS
    have e : i = nf := by omega
    subst e
    exact ⟨S, rfl, hS⟩
  | succ n ih =>
    intro i hi S c hS
    obtain ⟨S1, a1, a2, a3, _⟩ := spC d (f0 := i) (z := z) (O := o) H ho (by omega) hz S hS
    have e3 := a3 t ht
    have row := lX5_odds_35 (d + 6) (nI t) (nI z) v (nI c) (nI i) S
    rw [hS 1 (by decide), H.c0, if_neg (nI_ge (by omega) (by omega)), c9, a1, bV_some, heardC (d + 5) (show t < 8 by omega) e3, bI_some, add1, add1] at row
    rw [row, kS]
    cases hv : sol (S0.1 55) nf np i z o t with
    | none =>
      have hP : oP (S0.1 55) nf np z o t i = false := by
        unfold oP
        rw [hv]
        rfl
      rw [if_pos rfl, if_pos rfl, hP, if_neg (by decide)]
      exact ih (i + 1) (by omega) S1 c a2
    | some a =>
      have hP : oP (S0.1 55) nf np z o t i = true := by
        unfold oP
        rw [hv]
        rfl
      rw [show (if (some a) = none then (0 : Int32) else 1) = 1 from if_neg (by simp), if_neg (show ¬ (1 : Int32) = 0 by decide), hP, if_pos rfl]
      exact ih (i + 1) (by omega) S1 (c + 1) a2
theorem oddsM (d : Nat) {ρ : Nat → Int32} {nf np o z t : Nat} (H : MRw ρ nf np o) (hz : 1 ≤ z ∧ z ≤ 99) (ht : t < nf) (v u : Int32) : ∀ n i, i + n = nf → ∀ (S : MS) (c : Nat), S.1 55 = ρ → ∃ S', mv (kX6_odds (mFn (d + 7))) 45 [(0, .ref 54), (1, .int (nI t)), (2, .int (nI z)), (3, .int v), (4, .int (nI c)), (5, .int u), (6, .int (nI i))] [] S = mv (kX6_odds (mFn (d + 7))) 92 [(3, .int v), (4, .int (nI (kS (oP ρ nf np z o t) n i c))), (5, .int u), (6, .int u)] [] S' ∧ Fr [63, 64, 65, 66, 67] S S' := by
  have n1 := H.1
  have w2 := H.2.2.2.2.1
  intro n
  induction n with
  | zero =>
    intro i hi S c hS
    have e : i = nf := by omega
    subst e
    refine ⟨S, ?_, Fr.rf⟩
    rw [lX6_odds_45, il2, cl2, hS, w2, if_pos (Int32.le_refl _)]
    rfl
  | succ n ih =>
    intro i hi S c hS
    obtain ⟨S1, a1, a2, a3⟩ := nowSp d (S := S) (f0 := i) (z := z) (by rw [hS]; exact H) (by omega) hz
    rw [hS] at a3
    have e3 := a3 t ht
    have row := lX6_odds_45 (d + 7) (nI t) (nI z) v (nI c) u (nI i) S
    rw [il2, cl2, hS, w2, if_neg (nI_ge (by omega) (by omega)), a1, bV_some, if_in (show t < 8 by omega) (by omega), cN (show t ≤ 100000 by omega), add1, fa_0, Nat.add_zero, fa_1] at row
    rw [row, kS]
    have h1 : S1.1 55 = ρ := (a2 55 (by decide)).trans hS
    cases hv : sol ρ nf np i z o t with
    | none =>
      rw [hv] at e3
      have hP : oP ρ nf np z o t i = false := by
        unfold oP
        rw [hv]
        rfl
      rw [e3.1, if_pos (by decide), hP, if_neg (by decide)]
      obtain ⟨S', b1, b2⟩ := ih (i + 1) (by omega) S1 c h1
      exact ⟨S', b1, a2.tr b2⟩
    | some a =>
      rw [hv] at e3
      have hP : oP ρ nf np z o t i = true := by
        unfold oP
        rw [hv]
        rfl
      rw [e3.1, if_neg (nI_pos (by have := e3.2.2.1; omega)), hP, if_pos rfl]
      obtain ⟨S', b1, b2⟩ := ih (i + 1) (by omega) S1 (c + 1) h1
      exact ⟨S', b1, a2.tr b2⟩
theorem ok_odds (d : Nat) (x z v : Int32) : Ok2 (d + 9) 57 146 [.ref 0, .int x, .int z, .int v] [.ref 54, .int x, .int z, .int v] := by
  intro S hR
  obtain ⟨⟨nf, np, nt, nw, o, hs, hf, hp, ht, hx⟩, hI, hE, hSh, hV⟩ := id hR
  obtain ⟨b1, b2, b3, b4, b5, c0, w2, c5, w3, c14, w5, c17, w6, c9, c10, c11, c12, r4, r0⟩ := id hs
  have pw := pw_le b2
  have w2' : (uI S 53 1 (S.1 53 1 + 1)).1 55 2 = nI nf := w2
  by_cases h : 0 ≤ x ∧ x < nI nf
  · by_cases hz : 1 ≤ z ∧ z ≤ 99
    · by_cases hv : 0 ≤ v ∧ v ≤ 1
      · obtain ⟨t, ht1, rfl⟩ := i_rng (by omega) h.1 h.2
        obtain ⟨y, y1, y2, rfl⟩ := rlo (n := 99) (by decide) (by decide) (Int32.not_lt.mpr hz.1) hz.2
        obtain ⟨A, a1, a2, HA⟩ := nowC (d + 3) b1 b2 hf hp c0 c5 c10 hx
        have eA : A.1 55 = S.1 55 := a2 55 (by decide)
        have eA1 : A.1 1 = S.1 1 := a2 1 (by decide)
        obtain ⟨A', k1, k2⟩ := oddsC (d + 2) (z := y) (t := t) HA (by rw [eA1]; exact c9) (by omega) ⟨y1, y2⟩ ht1 v nf 0 (by omega) A 0 Fr.rf
        have fA : Fr [14, 17, 35, 36, 37, 38] S A' := (a2.up (by decide)).tr (k2.up (by decide))
        obtain ⟨B', m1, m2⟩ := oddsM (d + 1) (z := y) (t := t) (MRw_of hs hf hp hx) ⟨y1, y2⟩ ht1 v (nI nf) nf 0 (by omega) A' 0 (fA 55 (by decide))
        rw [eA] at k1
        have kc := kS_le (P := oP (S.1 55) nf np y o t) nf 0 0
        obtain ⟨q1, q2, q3⟩ := cm_div (kS (oP (S.1 55) nf np y o t) nf 0 0) (by omega) nf (by omega) (by omega)
        have e1 : A'.1 1 0 = nI nf := by rw [fA 1 (by decide)]; exact c0
        refine ⟨if v = 0 then nI (mdN nf (kS (oP (S.1 55) nf np y o t) nf 0 0) nf).1 else nI (mdN nf (kS (oP (S.1 55) nf np y o t) nf 0 0) nf).2, A', B', ?_, ?_, Rel_h fA m2 hR⟩
        rotate_left
        · rw [fX6_odds, pM_isF _ _ (show A'.1 55 2 = nI nf by rw [fA 55 (by decide)]; exact w2) (by omega), bI_some, if_b2, if_pos h, pM_isSize, bI_some, if_b2, if_pos hz, pM_in, bI_some, if_b2, if_pos hv, il2, cl2, fA 55 (by decide), w2]
          refine m1.trans ?_
          exact md_go (d + 8) v B' nf (by omega) _ _ (by omega) (by omega)
        · rw [fX5_odds, pC_isSay _ _ _ c0, bI_some, if_b2, if_pos ⟨h, hz⟩, pC_isBit, bI_some, if_b2, if_pos hv, a1, bV_some]
          refine k1.trans ?_
          rw [lX5_odds_35, e1, if_pos (Int32.le_refl _), fX5_commonDivisor, cd_go _ (by omega) (by omega) _ nf (by omega), bI_some, e1, if_neg (nI_ne0 (by omega) (by omega)), if_neg (nI_ne0 (by omega) (by omega)), pk_div (by omega) (by omega) (by omega), pk_div (by omega) (by omega) (by omega), q1]
          by_cases v0 : v = 0
          · rw [if_pos v0, if_pos v0]
          · rw [if_neg v0, if_neg v0]
      · refine ⟨-1000000001, uI S 53 1 (S.1 53 1 + 1), EE 1 S, ?_, ?_, Rel_EE hR⟩
        · rw [fX5_odds, pC_isSay _ _ _ c0, bI_some, if_b2, if_pos ⟨h, hz⟩, pC_isBit, bI_some, if_b2, if_neg hv, pC_err1, bI_some]
        · rw [fX6_odds, pM_isF _ _ w2' (by omega), bI_some, if_b2, if_pos h, pM_isSize, bI_some, if_b2, if_pos hz, pM_in, bI_some, if_b2, if_neg hv, pM_err1, bI_some]
          rfl
    · refine ⟨-1000000001, uI S 53 1 (S.1 53 1 + 1), EE 1 S, ?_, ?_, Rel_EE hR⟩
      · rw [fX5_odds, pC_isSay _ _ _ c0, bI_some, if_b2, if_neg (fun q => hz q.2), pC_err1, bI_some]
      · rw [fX6_odds, pM_isF _ _ w2' (by omega), bI_some, if_b2, if_pos h, pM_isSize, bI_some, if_b2, if_neg hz, pM_err1, bI_some]
        rfl
  · refine ⟨-1000000001, uI S 53 1 (S.1 53 1 + 1), EE 1 S, ?_, ?_, Rel_EE hR⟩
    · rw [fX5_odds, pC_isSay _ _ _ c0, bI_some, if_b2, if_neg (fun q => h q.1), pC_err1, bI_some]
    · rw [fX6_odds, pM_isF _ _ w2' (by omega), bI_some, if_b2, if_neg h, pM_err1, bI_some]
      rfl
