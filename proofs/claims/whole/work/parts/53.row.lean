/-! ===== the class's hearing again, where the row ρ of its city stands apart ===== -/
def RTv (S : MS) (t : Nat) (ρ : Nat → Int32) (a : Nat) : Prop := (S.1 t 0 = 0 ∧ ρ a = 0) ∨ (S.1 t 0 = 1 ∧ ∃ n, 1 ≤ n ∧ n ≤ 60 ∧ S.1 t 1 = nI n ∧ ρ a = nI n ∧ (∀ k, k < n → tcor (S.1 (t + 1) k) (ρ (a + 1 + k)) (ρ (a + 61 + k))) ∧ tdep (fun k => ρ (a + 1 + k)) n = some 1)
def CF (ρ : Nat → Int32) (S : MS) (nf np o : Nat) : Prop := nf ≤ 8 ∧ np ≤ 9 ∧ RFm ρ ∧ RPm ρ nf np o ∧ S.1 1 0 = nI nf ∧ S.1 1 5 = nI np ∧ S.1 1 10 = ρ 4 ∧ (∀ f, f < 8 → S.1 2 f = ρ (7 + 4 * f) ∧ S.1 3 f = ρ (8 + 4 * f) ∧ S.1 4 f = ρ (9 + 4 * f) ∧ S.1 5 f = ρ (10 + 4 * f)) ∧ (∀ p, p < 9 → S.1 6 p = ρ (39 + 4 * p) ∧ S.1 7 p = ρ (40 + 4 * p) ∧ S.1 8 p = ρ (41 + 4 * p)) ∧ RTv S 12 ρ 159 ∧ RTv S 15 ρ 280
theorem CF.n1 {ρ : Nat → Int32} {S0 : MS} {nf np o : Nat} (H : CF ρ S0 nf np o) : nf ≤ 8 := H.1
theorem CF.n2 {ρ : Nat → Int32} {S0 : MS} {nf np o : Nat} (H : CF ρ S0 nf np o) : np ≤ 9 := H.2.1
theorem CF.rf {ρ : Nat → Int32} {S0 : MS} {nf np o : Nat} (H : CF ρ S0 nf np o) : RFm ρ := H.2.2.1
theorem CF.rp {ρ : Nat → Int32} {S0 : MS} {nf np o : Nat} (H : CF ρ S0 nf np o) : RPm ρ nf np o := H.2.2.2.1
theorem CF.c0 {ρ : Nat → Int32} {S0 : MS} {nf np o : Nat} (H : CF ρ S0 nf np o) : S0.1 1 0 = nI nf := H.2.2.2.2.1
theorem CF.c5 {ρ : Nat → Int32} {S0 : MS} {nf np o : Nat} (H : CF ρ S0 nf np o) : S0.1 1 5 = nI np := H.2.2.2.2.2.1
theorem CF.c10 {ρ : Nat → Int32} {S0 : MS} {nf np o : Nat} (H : CF ρ S0 nf np o) : S0.1 1 10 = ρ 4 := H.2.2.2.2.2.2.1
theorem CF.fs {ρ : Nat → Int32} {S0 : MS} {nf np o : Nat} (H : CF ρ S0 nf np o) : ∀ f, f < 8 → S0.1 2 f = ρ (7 + 4 * f) ∧ S0.1 3 f = ρ (8 + 4 * f) ∧ S0.1 4 f = ρ (9 + 4 * f) ∧ S0.1 5 f = ρ (10 + 4 * f) := H.2.2.2.2.2.2.2.1
theorem CF.ps {ρ : Nat → Int32} {S0 : MS} {nf np o : Nat} (H : CF ρ S0 nf np o) : ∀ p, p < 9 → S0.1 6 p = ρ (39 + 4 * p) ∧ S0.1 7 p = ρ (40 + 4 * p) ∧ S0.1 8 p = ρ (41 + 4 * p) := H.2.2.2.2.2.2.2.2.1
theorem CF.t0 {ρ : Nat → Int32} {S0 : MS} {nf np o : Nat} (H : CF ρ S0 nf np o) : RTv S0 12 ρ 159 := H.2.2.2.2.2.2.2.2.2.1
theorem CF.t1 {ρ : Nat → Int32} {S0 : MS} {nf np o : Nat} (H : CF ρ S0 nf np o) : RTv S0 15 ρ 280 := H.2.2.2.2.2.2.2.2.2.2
theorem RTv_c {S T : MS} {t a : Nat} {ρ : Nat → Int32} (h0 : T.1 t = S.1 t) (h1 : T.1 (t + 1) = S.1 (t + 1)) (h : RTv S t ρ a) : RTv T t ρ a := by
  unfold RTv at h ⊢
  rw [h0, h1]
  exact h
theorem CF_c {ρ : Nat → Int32} {S T : MS} {nf np o : Nat} (g : ∀ k, 1 ≤ k → k ≤ 16 → k ≠ 9 → k ≠ 14 → T.1 k = S.1 k) (H : CF ρ S nf np o) : CF ρ T nf np o := by
  have g1 := g 1 (by omega) (by omega) (by omega) (by omega)
  refine ⟨H.n1, H.n2, H.rf, H.rp, by rw [g1]; exact H.c0, by rw [g1]; exact H.c5, by rw [g1]; exact H.c10, ?_, ?_, RTv_c (g 12 (by omega) (by omega) (by omega) (by omega)) (g 13 (by omega) (by omega) (by omega) (by omega)) H.t0, RTv_c (g 15 (by omega) (by omega) (by omega) (by omega)) (g 16 (by omega) (by omega) (by omega) (by omega)) H.t1⟩
  · intro f hf
    rw [g 2 (by omega) (by omega) (by omega) (by omega), g 3 (by omega) (by omega) (by omega) (by omega), g 4 (by omega) (by omega) (by omega) (by omega), g 5 (by omega) (by omega) (by omega) (by omega)]
    exact H.fs f hf
  · intro p hp
    rw [g 6 (by omega) (by omega) (by omega) (by omega), g 7 (by omega) (by omega) (by omega) (by omega), g 8 (by omega) (by omega) (by omega) (by omega)]
    exact H.ps p hp
theorem CF_of {S : MS} {nf np nt nw o : Nat} (hs : RCs S.1 1 55 nf np nt nw o) (hf : RCf S.1 1 55) (hp : RCp S.1 1 55 nf np o) (hx : RCx S.1 1 55) : CF (S.1 55) S nf np o := by
  obtain ⟨b1, b2, b3, b4, b5, c0, w2, c5, w3, c14, w5, c17, w6, c9, c10, c11, c12, r4, r0⟩ := hs
  refine ⟨b1, b2, RFm_of hf, RPm_of hp, c0, c5, c10, fun f hf1 => ?_, fun p hp1 => ?_, hx.1, hx.2⟩
  · obtain ⟨q1, q2, q3, q4, _⟩ := hf f hf1
    exact ⟨q1, q2, q3, q4⟩
  · obtain ⟨q1, q2, q3, _⟩ := hp p hp1
    exact ⟨q1, q2, q3⟩
def HR (ρ : Nat → Int32) (S0 : MS) (nf np o : Nat) : Prop := CF ρ S0 nf np o ∧ ∀ p, p < np → S0.1 36 p = nI (slN ρ p)
theorem given_R0 (d : Nat) {ρ : Nat → Int32} {S : MS} (h : RTv S 12 ρ 159) (x y z : Int32) : ∃ T, mFn (d + 3) 4 [.ref 1, .int 0, .int x, .int y, .int z] S = some (some (.int (gv0 ρ x y z)), T) ∧ Fr [14, 17] S T := by
  rcases h with ⟨h0, h1⟩ | ⟨h0, n, h1, h2, h3, h4, h5, h6⟩
  · refine ⟨S, ?_, Fr.rf⟩
    rw [fX0_given, if_neg (by decide)]
    simp only [cl0, rv11_0, kO12, cond_true, h0, if_true]
    unfold gv0 tv
    rw [if_pos h1]
    rfl
  · obtain ⟨T, t1, t2⟩ := value0_go d h2 (fun k => ρ (159 + 1 + k)) (fun k => ρ (159 + 61 + k)) x y z h6 n 0 (by omega) S h3 h5 0 rfl (fun j hj => by omega)
    refine ⟨T, ?_, t2.up (by decide)⟩
    rw [fX0_given, if_neg (by decide)]
    simp only [cl0, rv11_0, kO12, cond_true, h0, Bool.and_true, show ¬ (1 : Int32) = 0 from by decide, if_false]
    rw [if_neg (by decide), show mFn (d + 2) 23 [.ref 12, .int x, .int y, .int z] S = _ from (fX4_value_0 (d + 1) x y z S).trans t1, bI_some]
    unfold gv0 tv
    rw [if_neg (show ¬ ρ 159 = 0 by rw [h4]; exact nI_ne0 (by omega) (by omega)), h4, cN (by omega)]
    rfl
theorem given_R1 (d : Nat) {ρ : Nat → Int32} {S : MS} (h : RTv S 15 ρ 280) (x y z : Int32) : ∃ T, mFn (d + 3) 4 [.ref 1, .int 1, .int x, .int y, .int z] S = some (some (.int (gv1 ρ x y z)), T) ∧ Fr [14, 17] S T := by
  rcases h with ⟨h0, h1⟩ | ⟨h0, n, h1, h2, h3, h4, h5, h6⟩
  · refine ⟨S, ?_, Fr.rf⟩
    rw [fX0_given, if_neg (by decide)]
    simp only [cl1, rv11_1, kO15, cond_true, h0, if_true]
    unfold gv1 tv
    rw [if_pos h1]
    rfl
  · obtain ⟨T, t1, t2⟩ := value1_go d h2 (fun k => ρ (280 + 1 + k)) (fun k => ρ (280 + 61 + k)) x y z h6 n 0 (by omega) S h3 h5 0 rfl (fun j hj => by omega)
    refine ⟨T, ?_, t2.up (by decide)⟩
    rw [fX0_given, if_neg (by decide)]
    simp only [cl1, rv11_1, kO15, cond_true, h0, Bool.and_true, show ¬ (1 : Int32) = 0 from by decide, if_false]
    rw [if_neg (by decide), show mFn (d + 2) 23 [.ref 15, .int x, .int y, .int z] S = _ from (fX4_value_1 (d + 1) x y z S).trans t1, bI_some]
    unfold gv1 tv
    rw [if_neg (show ¬ ρ 280 = 0 by rw [h4]; exact nI_ne0 (by omega) (by omega)), h4, cN (by omega)]
    rfl
theorem said_R (d : Nat) {ρ : Nat → Int32} {S : MS} {nf np o : Nat} {f : Nat} (hf : f < 8) (x : Int32) (H : CF ρ S nf np o) : ∃ T, mFn (d + 4) 0 [.ref 1, .int (nI f), .int x] S = some (some (.int (said ρ f x)), T) ∧ Fr [14, 17] S T := by
  obtain ⟨q1, q2, q3, q4⟩ := H.fs f hf
  obtain ⟨T, t1, t2⟩ := given_R0 d H.t0 (addv (ρ (7 + 4 * f)) (ρ (8 + 4 * f)) (ρ (9 + 4 * f)) (ρ (10 + 4 * f)) x) (ρ (9 + 4 * f)) (ρ (7 + 4 * f))
  refine ⟨T, ?_, t2⟩
  rw [fX0_madeOf, add_C _ hf, bI_some, if_in hf (by omega), if_in hf (by omega), cN (by omega), q1, q2, q3, q4, t1, bI_some]
  rfl
theorem slow_R (d : Nat) {ρ : Nat → Int32} {S : MS} {nf np o p : Nat} (hp : p < np) (H : CF ρ S nf np o) : ∃ T, mFn (d + 4) 3 [.ref 1, .int (nI p)] S = some (some (.int (slw ρ p)), T) ∧ Fr [14, 17] S T := by
  have hn := H.n2
  have hnf := H.n1
  obtain ⟨e1, e2, e3⟩ := H.ps p (by omega)
  obtain ⟨r3, r4, r1, r2, _⟩ := pN_m H.n1 H.n2 H.rf H.rp hp
  obtain ⟨T, t1, t2⟩ := given_R1 d H.t1 (ρ (41 + 4 * p)) (ρ 4) (fSub (ρ (9 + 4 * frN ρ p)) (ρ (9 + 4 * toN ρ p)))
  refine ⟨T, ?_, t2⟩
  rw [fX0_howSlow, if_in (show p < 9 by omega) (by omega), if_in (show p < 9 by omega) (by omega), if_in (show p < 9 by omega) (by omega), cN (by omega), e1, e2, e3, r3, r4, if_in (show frN ρ p < 8 by omega) (by omega), if_in (show toN ρ p < 8 by omega) (by omega), cN (by omega), cN (by omega), H.c10, (H.fs (frN ρ p) (by omega)).2.2.1, (H.fs (toN ρ p) (by omega)).2.2.1, t1, bI_some]
  rfl
theorem sayR (d : Nat) {ρ : Nat → Int32} {S0 : MS} {nf np o O s w0 x0 : Nat} (HH : HR ρ S0 nf np o) (hs : s < nf) (hO : O < 2 ^ 9) (hon : ¬ onn ρ s (nI x0) = 0) (hw0 : w0 ≤ 180) : ∀ n i, i + n = np → ∀ (S : MS) (V : HV), Fr hc S0 S → (∀ f, f < nf → encC S f (V f)) → WV nf (hN ρ) V → V s = some (w0, x0) → ∃ S', mv (kX1_sayOver (mFn (d + 1))) 18 [(0, .ref 35), (1, .int (nI s)), (2, .int (nI O)), (3, .int (nI (sdN ρ s x0))), (4, .int (nI i))] [] S = some (none, S') ∧ Fr [37, 38] S S' ∧ ∀ f, f < nf → encC S' f (runp (frN ρ) (toN ρ) (trN ρ O) s n i V f) := by
  have H := HH.1
  have n1 := H.n1
  have n2 := H.n2
  intro n
  induction n with
  | zero =>
    intro i hi S V hS he _ _
    refine ⟨S, ?_, Fr.rf, he⟩
    rw [lX1_sayOver_18, hS 1 (by decide), H.c5, if_pos (nI_le (by omega) (by omega))]
  | succ n ih =>
    intro i hi S V hS he hw hVs
    have hi9 : i < 9 := by omega
    have hin : i < np := by omega
    obtain ⟨p1, p2, p3, p4, p5⟩ := pN_m H.n1 H.n2 H.rf H.rp hin
    have rp := H.ps i hi9
    have hWV := WV_stp (fr := frN ρ) (to := toN ρ) (tr := trN ρ O) (s := s) hin p3 (TB_m H.n1 H.n2 H.rf H.rp O) hw
    have hst : stp (frN ρ) (toN ρ) (trN ρ O) s V i s = V s := by
      unfold stp
      by_cases e : frN ρ i = s
      · rw [if_pos e, setV_ne (fun z => by rw [← z, e] at p5; omega)]
      · rw [if_neg e]
    have bit := bit_r (o := O) (p := i) (by omega) (by omega)
    have go : ∀ S1 : MS, Fr [37, 38] S S1 → (∀ f, f < nf → encC S1 f (stp (frN ρ) (toN ρ) (trN ρ O) s V i f)) → ∃ S', mv (kX1_sayOver (mFn (d + 1))) 18 [(0, .ref 35), (1, .int (nI s)), (2, .int (nI O)), (3, .int (nI (sdN ρ s x0))), (4, .int (nI (i + 1)))] [] S1 = some (none, S') ∧ Fr [37, 38] S S' ∧ ∀ f, f < nf → encC S' f (runp (frN ρ) (toN ρ) (trN ρ O) s (n + 1) i V f) := by
      intro S1 hS1 he1
      obtain ⟨S', t1, t2, t3⟩ := ih (i + 1) (by omega) S1 _ (hS.tr (hS1.up (by decide))) he1 hWV (by rw [hst]; exact hVs)
      exact ⟨S', t1, hS1.tr t2, t3⟩
    rw [lX1_sayOver_18, hS 1 (by decide), H.c5, if_neg (nI_ge (by omega) (by omega)), bit]
    by_cases hb : O.testBit i = true
    · rw [if_pos hb, if_neg (by decide), if_in hi9 (by omega), cN (by omega), hS 6 (by decide), rp.1, p1]
      by_cases e : frN ρ i = s
      · have ht8 : toN ρ i < 8 := by omega
        have hct : ctr (frN ρ) (trN ρ O) V i = some (w0 + slN ρ i, sdN ρ s x0) := by
          unfold ctr
          rw [e, hVs]
          show trN ρ O i w0 x0 = _
          unfold trN
          rw [e, if_pos ⟨hb, hon⟩]
        have s1 := slN_r ρ i
        have s2 := sdN_r ρ s x0
        have hes := he s hs
        rw [hVs] at hes
        obtain ⟨S1, a1, a2, a3, a4⟩ := arr_C d (S := S) (f := toN ρ i) (w := w0 + slN ρ i) (x := sdN ρ s x0) (v := V (toN ρ i)) ht8 (by omega) (by omega) (he _ p4)
        rw [if_pos (by rw [e]), if_in2 hi9 (by omega), if_in (show s < 8 by omega) (by omega), if_in2 hi9 (by omega), hS 7 (by decide), rp.2.1, p2, cN (show s ≤ 100000 by omega), hes.1, hS 36 (by decide), HH.2 i hin, fa_nn, a1, bV_some, add1]
        refine go S1 a2 (fun f hf => ?_)
        unfold stp
        rw [if_pos e, hct]
        by_cases ef : f = toN ρ i
        · rw [ef, setV_eq]
          exact a4
        · rw [setV_ne ef]
          exact encC_c (a3 f ef).1 (a3 f ef).2 (he f hf)
      · rw [if_neg (fun z => e ((nI_eq (by omega) (by omega)).mp z)), add1]
        refine go S Fr.rf (fun f hf => ?_)
        unfold stp
        rw [if_neg e]
        exact he f hf
    · rw [if_neg hb, if_pos (show nI 0 = 0 from rfl), add1]
      refine go S Fr.rf (fun f hf => ?_)
      unfold stp
      by_cases e : frN ρ i = s
      · have hct : ctr (frN ρ) (trN ρ O) V i = none := by
          unfold ctr
          rw [e, hVs]
          show trN ρ O i w0 x0 = _
          unfold trN
          rw [if_neg (fun z => hb z.1)]
        rw [if_pos e, hct, btr_none hw p4]
        by_cases ef : f = toN ρ i
        · rw [ef, setV_eq]
          exact he _ p4
        · rw [setV_ne ef]
          exact he f hf
      · rw [if_neg e]
        exact he f hf
theorem sprR (d : Nat) {ρ : Nat → Int32} {S0 : MS} {nf np o O f0 z : Nat} (HH : HR ρ S0 nf np o) (hO : O < 2 ^ 9) : ∀ n j, j + n = 8 → ∀ (S : MS) (V : HV) (dn w0 : Nat) (r : Int32), Fr hc S0 S → (∀ f, f < nf → encC S f (V f)) → WV nf (hN ρ) V → S.1 35 4 = nI dn → dn < 2 ^ nf → cnt dn = j → Fix nf np (frN ρ) (toN ρ) (trN ρ O) f0 z (fun p => dn.testBit (frN ρ p) = true) V → (∀ f, f < nf → dn.testBit f = true → ∃ w x, V f = some (w, x) ∧ w ≤ w0) → (∀ f, f < nf → dn.testBit f = false → ∀ w x, V f = some (w, x) → w0 ≤ w) → NX nf nf dn V r → ∃ S' V' dn', mv (kX1_spread (mFn (d + 5))) 43 [(0, .ref 35), (3, .int (nI O)), (4, .int r), (5, .int (nI j))] [] S = some (none, S') ∧ Fr hc S0 S' ∧ (∀ f, f < nf → encC S' f (V' f)) ∧ WV nf (hN ρ) V' ∧ S'.1 35 4 = nI dn' ∧ dn' < 2 ^ nf ∧ (∀ f, f < nf → (dn'.testBit f = true ↔ ¬ V' f = none)) ∧ Fix nf np (frN ρ) (toN ρ) (trN ρ O) f0 z (fun _ => True) V' := by
  have H := HH.1
  have n1 := H.n1
  have n2 := H.n2
  have fin : ∀ (S : MS) (V : HV) (dn w0 : Nat), Fr hc S0 S → (∀ f, f < nf → encC S f (V f)) → WV nf (hN ρ) V → S.1 35 4 = nI dn → dn < 2 ^ nf → Fix nf np (frN ρ) (toN ρ) (trN ρ O) f0 z (fun p => dn.testBit (frN ρ p) = true) V → (∀ f, f < nf → dn.testBit f = true → ∃ w x, V f = some (w, x) ∧ w ≤ w0) → (∀ f, f < nf → dn.testBit f = false → V f = none) → ∃ S' V' dn', (some ((none : Option Value), S) : Option MR) = some (none, S') ∧ Fr hc S0 S' ∧ (∀ f, f < nf → encC S' f (V' f)) ∧ WV nf (hN ρ) V' ∧ S'.1 35 4 = nI dn' ∧ dn' < 2 ^ nf ∧ (∀ f, f < nf → (dn'.testBit f = true ↔ ¬ V' f = none)) ∧ Fix nf np (frN ρ) (toN ρ) (trN ρ O) f0 z (fun _ => True) V' := by
    intro S V dn w0 h1 h2 h3 h4 h5 h6 h7 h8
    refine ⟨S, V, dn, rfl, h1, h2, h3, h4, h5, fun f hf => ⟨fun hd => ?_, fun hn => ?_⟩, Fix_up h6 (fun _ _ _ => trivial) (fun p hp _ hn => ?_) (fun f hf => WV_key h3 hf)⟩
    · obtain ⟨w, x, e, _⟩ := h7 f hf hd
      rw [e]
      simp
    · cases hb : dn.testBit f with
      | true => rfl
      | false => exact absurd (h8 f hf hb) hn
    · obtain ⟨_, _, p3, _, _⟩ := pN_m H.n1 H.n2 H.rf H.rp hp
      have hb : dn.testBit (frN ρ p) = false := by
        cases hh : dn.testBit (frN ρ p) with
        | false => rfl
        | true => exact absurd hh hn
      unfold ctr
      rw [h8 _ p3 hb]
  intro n
  induction n with
  | zero =>
    intro j hj S V dn w0 r h1 h2 h3 h4 h5 hc8 h6 h7 _ _
    have e : j = 8 := by omega
    subst e
    rw [lX1_spread_43, if_pos (show (8 : Int32) ≤ nI 8 from Int32.le_refl _)]
    refine fin S V dn w0 h1 h2 h3 h4 h5 h6 h7 (fun f hf hd => ?_)
    rw [cnt_8 (by omega) hc8] at hd
    exact absurd hd (by decide)
  | succ n ih =>
    intro j hj S V dn w0 r h1 h2 h3 h4 h5 hc8 h6 h7 h7' hr
    rw [lX1_spread_43, if_neg (show ¬ (8 : Int32) ≤ nI j from nI_ge (a := j) (b := 8) (by omega) (by decide))]
    rcases hr with ⟨r1, r2⟩ | ⟨s, ws, xs, r1, _, hs, hd, hv, hmin⟩
    · rw [r1, if_pos (by decide)]
      exact fin S V dn w0 h1 h2 h3 h4 h5 h6 h7 r2
    · have hs8 : s < 8 := by omega
      have hpow : 2 ^ nf ≤ 2 ^ 8 := Nat.pow_le_pow_right (by decide) n1
      have hes := h2 s hs
      rw [hv] at hes
      have hWs := h3 s hs ws xs hv
      have hw0 : w0 ≤ ws := h7' s hs hd ws xs hv
      have hdn' : dn ||| 2 ^ s < 2 ^ nf := Nat.or_lt_two_pow h5 (Nat.pow_lt_pow_right (by decide) hs)
      have hcn : cnt (dn ||| 2 ^ s) = j + 1 := by rw [cnt_or hs8 hd, hc8]
      rw [r1, if_neg (nI_pos (by omega)), if_in hs8 (by omega), cN (show s ≤ 100000 by omega), hes.2.1, h4, sh_l (by omega), show fOr (nI dn) (nI (2 ^ s)) = nI (dn ||| 2 ^ s) from fa_or _ _]
      have hS1 : Fr hc S0 (uI S 35 4 (nI (dn ||| 2 ^ s))) := h1.put (by decide)
      have he1 : ∀ f, f < nf → encC (uI S 35 4 (nI (dn ||| 2 ^ s))) f (V f) := fun f hf => encC_c (by rw [uI_oth (by decide)]) (by rw [uI_oth (by decide)]) (h2 f hf)
      obtain ⟨q1, q2, q3, q4⟩ := H.fs s hs8
      have q6 := rM_m H.rf hs8
      have on := on_C (d + 4) (S := uI S 35 4 (nI (dn ||| 2 ^ s))) hs8 (nI xs) (by rw [hS1 3 (by decide), q2]; exact q6)
      rw [hS1 2 (by decide), hS1 3 (by decide), hS1 1 (by decide), q1, q2, H.c10] at on
      rw [show mFn (d + 5) 2 [.ref 1, .int (nI s), .int (nI xs)] (uI S 35 4 (nI (dn ||| 2 ^ s))) = some (some (.int (onn ρ s (nI xs))), _) from on, bI_some]
      have dis : ∀ f, (dn ||| 2 ^ s).testBit f = false → dn.testBit f = false ∧ f ≠ s := fun f hh => by
        rw [or_bit] at hh
        cases hb : dn.testBit f with
        | true => rw [hb] at hh; exact absurd hh (by simp)
        | false => exact ⟨rfl, fun z => by rw [z] at hh; simp at hh⟩
      have dit : ∀ f, (dn ||| 2 ^ s).testBit f = true → dn.testBit f = true ∨ f = s := fun f hh => by
        rw [or_bit] at hh
        cases hb : dn.testBit f with
        | true => exact Or.inl rfl
        | false => rw [hb] at hh; simp at hh; exact Or.inr hh.symm
      have dt : ∀ f, dn.testBit f = true ∨ f = s → (dn ||| 2 ^ s).testBit f = true := fun f hh => by
        rw [or_bit]
        rcases hh with hh | hh
        · rw [hh]; rfl
        · rw [hh]; simp
      have nx : ∀ (S1 : MS) (V1 : HV), Fr hc S0 S1 → (∀ f, f < nf → encC S1 f (V1 f)) → S1.1 35 4 = nI (dn ||| 2 ^ s) → ∃ r', mFn (d + 5) 11 [.ref 35] S1 = some (some (.int r'), S1) ∧ NX nf nf (dn ||| 2 ^ s) V1 r' := by
        intro S1 V1 g1 g2 g3
        obtain ⟨r', k1, k2⟩ := nextC (d + 3) n1 (by omega) (by rw [g1 1 (by decide)]; exact H.c0) g3 g2 nf 0 (by omega) (-1) (Or.inl ⟨rfl, fun f hf => absurd hf (by omega)⟩)
        exact ⟨r', (fX1_nextToHear (d + 4) S1).trans k1, k2⟩
      by_cases ho : onn ρ s (nI xs) = 0
      · rw [if_pos ho]
        obtain ⟨r', k1, k2⟩ := nx _ V hS1 he1 (uI_eq _ _ _ _)
        rw [k1, bI_some, add1]
        refine ih (j + 1) (by omega) _ V (dn ||| 2 ^ s) ws r' hS1 he1 h3 (uI_eq _ _ _ _) hdn' hcn (Fix_up h6 (fun p _ hq => dt _ (Or.inl hq)) (fun p hp hq hn => ?_) (fun f hf => WV_key h3 hf)) (fun f hf hh => ?_) (fun f hf hh w x e => hmin f hf (dis f hh).1 w x e) k2
        · have e : frN ρ p = s := (dit _ hq).resolve_left hn
          unfold ctr
          rw [e, hv]
          show trN ρ O p ws xs = none
          unfold trN
          rw [e, if_neg (fun z => z.2 ho)]
        · rcases dit f hh with hb | e
          · obtain ⟨w, x, e1, e2⟩ := h7 f hf hb
            exact ⟨w, x, e1, by omega⟩
          · rw [e]
            exact ⟨ws, xs, hv, Nat.le_refl _⟩
      · rw [if_neg ho]
        obtain ⟨T, t1, t2⟩ := said_R (d) (S := uI S 35 4 (nI (dn ||| 2 ^ s))) hs8 (nI xs) (CF_c (fun k k1 k2 k3 k4 => by rw [uI_oth (show k ≠ 35 by omega)]; exact h1 k (by unfold hc; simp; omega)) H)
        have ht1 : Fr hc S0 T := hS1.tr (t2.up (by decide))
        rw [(sdN_r ρ s xs).1] at t1
        have he2 : ∀ f, f < nf → encC T f (V f) := fun f hf => encC_c (by rw [t2 37 (by decide)]) (by rw [t2 38 (by decide)]) (he1 f hf)
        obtain ⟨U, u1, u2, u3⟩ := sayR (d + 3) HH hs hO ho (by omega) np 0 (by omega) T V ht1 he2 h3 hv
        have row12 : mFn (d + 5) 12 [.ref 35, .int (nI s), .int (nI O)] (uI S 35 4 (nI (dn ||| 2 ^ s))) = some (none, U) := by
          rw [fX1_sayOver, if_in hs8 (by omega), cN (show s ≤ 100000 by omega), uI_oth (show (38 : Nat) ≠ 35 by decide), hes.2.1, show mFn (d + 4) 0 [.ref 1, .int (nI s), .int (nI xs)] _ = _ from t1, bI_some]
          exact u1
        have hU : Fr hc S0 U := ht1.tr (u2.up (by decide))
        have h35 : U.1 35 4 = nI (dn ||| 2 ^ s) := by rw [u2 35 (by decide), t2 35 (by decide), uI_eq]
        obtain ⟨r', k1, k2⟩ := nx U _ hU u3 h35
        rw [row12, bV_some, k1, bI_some, add1]
        have hh : ∀ p, p < np → frN ρ p < nf := fun p hp => (pN_m H.n1 H.n2 H.rf H.rp hp).2.2.1
        have hC : ∀ i, i < np → frN ρ i = s → ((dn ||| 2 ^ s).testBit (toN ρ i) = true ∧ toN ρ i < nf) → btr (V (toN ρ i)) (ctr (frN ρ) (trN ρ O) V i) = V (toN ρ i) := by
          intro i hi e hc
          have hf2 := (pN_m H.n1 H.n2 H.rf H.rp hi).2.2.2.1
          have old : ∃ w x, V (toN ρ i) = some (w, x) ∧ w ≤ ws := by
            rcases dit _ hc.1 with hb | e2
            · obtain ⟨w, x, e1, e2⟩ := h7 _ hf2 hb
              exact ⟨w, x, e1, by omega⟩
            · rw [e2]
              exact ⟨ws, xs, hv, Nat.le_refl _⟩
          obtain ⟨w, x, e1, e2⟩ := old
          have hc2 := h3 _ hf2 w x e1
          rw [e1]
          cases hct : ctr (frN ρ) (trN ρ O) V i with
          | none => exact if_neg (show ¬ 1000000000 < w * 128 + (127 - x) by omega)
          | some a =>
            unfold ctr at hct
            rw [e, hv] at hct
            have g := TB_m H.n1 H.n2 H.rf H.rp O i hi ws xs a.1 a.2 (by rw [e]; exact hWs.1) hWs.2.1 hWs.2.2 hct
            exact if_neg (show ¬ a.1 * 128 + (127 - a.2) < w * 128 + (127 - x) by omega)
        obtain ⟨v1, v2, v3⟩ := runp_ok (nf := nf) (np := np) (f0 := f0) (z := z) (Q := fun p => dn.testBit (frN ρ p) = true) (C := fun f => (dn ||| 2 ^ s).testBit f = true ∧ f < nf) (s := s) (W := V) hh (TB_m H.n1 H.n2 H.rf H.rp O) (fun p hp hq => ⟨dt _ (Or.inl hq), hh p hp⟩) ⟨dt _ (Or.inr rfl), hs⟩ hC np 0 (by omega) V (fun _ _ => rfl) h3 (Fix_up h6 (fun p hp hq => Or.inl hq) (fun p hp hq hn => absurd (hq.resolve_right (fun z => absurd z.2 (by omega))) hn) (fun f hf => WV_key h3 hf))
        · refine ih (j + 1) (by omega) U _ (dn ||| 2 ^ s) ws r' hU u3 v2 h35 hdn' hcn (Fix_up v3 (fun p hp hq => ?_) (fun p hp hq hn => ?_) (fun f hf => WV_key v2 hf)) (fun f hf hh2 => ?_) (fun f hf hh2 w x e => ?_) k2
          · rcases hq with hq | hq
            · exact dt _ (Or.inl hq)
            · exact dt _ (Or.inr hq)
          · refine absurd ?_ hn
            rcases dit _ hq with hb | e
            · exact Or.inl hb
            · exact Or.inr e
          · rw [v1 f ⟨hh2, hf⟩]
            rcases dit f hh2 with hb | e
            · obtain ⟨w, x, e1, e2⟩ := h7 f hf hb
              exact ⟨w, x, e1, by omega⟩
            · rw [e]
              exact ⟨ws, xs, hv, Nat.le_refl _⟩
          · exact runp_late (fr := frN ρ) (to := toN ρ) (tr := trN ρ O) (nf := nf) (np := np) (h := hN ρ) (w0 := ws) (x0 := xs) (s := s) hh (TB_m H.n1 H.n2 H.rf H.rp O) hs hWs (fun i hi e => by
              have q := (pN_m H.n1 H.n2 H.rf H.rp hi).2.2.2.2
              rw [e] at q
              intro z
              rw [z] at q
              omega) np 0 (by omega) V hv f hf (fun w x e => hmin f hf (dis f hh2).1 w x e) w x e
theorem learnR (d : Nat) {ρ : Nat → Int32} {S0 : MS} {nf np o : Nat} (H : CF ρ S0 nf np o) : ∀ n i, i + n = np → ∀ S : MS, Fr [14, 17, 36] S0 S → (∀ p, p < i → S.1 36 p = nI (slN ρ p)) → ∃ T, mv (kX1_learnSlow (mFn (d + 4))) 2 [(0, .ref 35), (1, .int (nI i))] [] S = some (none, T) ∧ Fr [14, 17, 36] S0 T ∧ ∀ p, p < np → T.1 36 p = nI (slN ρ p) := by
  have n1 := H.n1
  have n2 := H.n2
  have c5 := H.c5
  intro n
  induction n with
  | zero =>
    intro i hi S hS h1
    refine ⟨S, ?_, hS, fun p hp => h1 p (by omega)⟩
    rw [lX1_learnSlow_2, hS 1 (by decide), c5, if_pos (nI_le (by omega) (by omega))]
  | succ n ih =>
    intro i hi S hS h1
    have g : ∀ k, k ≠ 14 → k ≠ 17 → k ≠ 36 → S.1 k = S0.1 k := fun k h1 h2 h3 => hS k (by simp [h1, h2, h3])
    obtain ⟨T, t1, t2⟩ := slow_R d (S := S) (p := i) (np := np) (nf := nf) (o := o) (by omega) (CF_c (fun k k1 k2 k3 k4 => hS k (by simp; omega)) H)
    rw [(slN_r ρ i).1] at t1
    obtain ⟨U, u1, u2, u3⟩ := ih (i + 1) (by omega) (uI T 36 i (nI (slN ρ i))) ((hS.tr (t2.up (by decide))).put (by decide)) (fun p hp => by
      by_cases e : p = i
      · rw [e, uI_eq]
      · rw [uI_ni _ e, t2 36 (by decide)]
        exact h1 p (by omega))
    refine ⟨U, ?_, u2, u3⟩
    rw [lX1_learnSlow_2, hS 1 (by decide), c5, if_neg (nI_ge (by omega) (by omega)), t1, bI_some, if_in (show i < 9 by omega) (by omega), cN (by omega), add1]
    exact u1
def EndR (ρ : Nat → Int32) (S0 S' : MS) (nf np O f0 z : Nat) : Prop := ∃ V' dn', Fr hc S0 S' ∧ (∀ f, f < nf → encC S' f (V' f)) ∧ WV nf (hN ρ) V' ∧ S'.1 35 4 = nI dn' ∧ dn' < 2 ^ nf ∧ (∀ f, f < nf → (dn'.testBit f = true ↔ ¬ V' f = none)) ∧ Fix nf np (frN ρ) (toN ρ) (trN ρ O) f0 z (fun _ => True) V'
theorem spreadR (d : Nat) {ρ : Nat → Int32} {S0 : MS} {nf np o O f0 z : Nat} (HH : HR ρ S0 nf np o) (hO : O < 2 ^ 9) (hf0 : f0 < nf) (hz : 1 ≤ z ∧ z ≤ 99) (S : MS) (hS : Fr hc S0 S) : ∃ S', mFn (d + 6) 9 [.ref 35, .int (nI f0), .int (nI z), .int (nI O)] S = some (none, S') ∧ EndR ρ S0 S' nf np O f0 z := by
  have H := HH.1
  have n1 := H.n1
  obtain ⟨T, t1, t2, t3⟩ := clearC (d + 5) (nI f0) (nI z) (nI O) 8 0 (by omega) S
  have hT : Fr hc S0 (uI T 35 4 0) := (hS.tr (t2.up (by decide))).put (by decide)
  have e37 : ∀ j, j < 8 → (uI T 35 4 0).1 37 j = 1000000 := fun j hj => by rw [uI_oth (by decide), t3, if_pos ⟨Nat.zero_le _, hj⟩]
  obtain ⟨U, a1, a2, a3, a4⟩ := arr_C (d + 4) (S := uI T 35 4 0) (f := f0) (w := 0) (x := z) (v := none) (by omega) (by decide) hz.2 (e37 f0 (by omega))
  have hU : Fr hc S0 U := hT.tr (a2.up (by decide))
  have b0 : btr none (some (0, z)) = some (0, z) := if_pos (show 0 * 128 + (127 - z) < 1000000000 by omega)
  rw [b0] at a4
  have v0 : V0 f0 z f0 = some (0, z) := if_pos rfl
  have vn : ∀ f, f ≠ f0 → V0 f0 z f = none := fun f hf => if_neg hf
  have wv : WV nf (hN ρ) (V0 f0 z) := by
    intro f hf w x e
    by_cases ef : f = f0
    · rw [ef, v0] at e
      have e2 := Option.some.inj e
      have ew : 0 = w := congrArg Prod.fst e2
      have ex : z = x := congrArg Prod.snd e2
      have := (hN_m H.rf (f := f) (by omega)).2
      omega
    · rw [vn f ef] at e
      exact absurd e (by simp)
  obtain ⟨S', V', dn', k1, k2⟩ := sprR d (z := z) (f0 := f0) HH hO 8 0 (by omega) U (V0 f0 z) 0 0 (nI f0) hU (fun f hf => by
    by_cases ef : f = f0
    · rw [ef, v0]; exact a4
    · rw [vn f ef]
      exact (a3 f ef).1.trans (e37 f (by omega))) wv (by rw [a2 35 (by decide), uI_eq]; rfl) (Nat.two_pow_pos nf) (by decide) (Fix_up Fix_0 (fun _ _ h => h.elim) (fun p _ h _ => absurd h (by simp)) (fun f hf => WV_key wv hf)) (fun f _ h => absurd h (by simp)) (fun f _ _ w x _ => Nat.zero_le _) (Or.inr ⟨f0, 0, z, rfl, hf0, hf0, by simp, v0, fun f _ _ w' x' _ => Nat.zero_le _⟩)
  refine ⟨S', ?_, V', dn', k2⟩
  rw [fX1_spread]
  refine t1.trans ?_
  rw [lX1_spread_3, if_pos (show (8 : Int32) ≤ nI 8 from Int32.le_refl _), show mFn (d + 5) 13 [.ref 35, .int (nI f0), .int 0, .int (nI z)] (uI T 35 4 0) = _ from a1, bV_some]
  exact k1
theorem nowR (d : Nat) {ρ : Nat → Int32} {S : MS} {nf np o : Nat} (H : CF ρ S nf np o) : ∃ S1, mFn (d + 5) 8 [.ref 35] S = some (none, S1) ∧ Fr [14, 17, 36] S S1 ∧ HR ρ S1 nf np o := by
  obtain ⟨T, t1, t2, t3⟩ := learnR d H np 0 (by omega) S Fr.rf (fun p hp => by omega)
  exact ⟨T, (fX1_learnSlow (d + 4) S).trans t1, t2, CF_c (fun k k1 k2 k3 k4 => t2 k (by simp; omega)) H, t3⟩
theorem spR (d : Nat) {ρ : Nat → Int32} {S0 : MS} {nf np o O f0 z : Nat} (HH : HR ρ S0 nf np o) (hO : O < 2 ^ 9) (hf0 : f0 < nf) (hz : 1 ≤ z ∧ z ≤ 99) (S : MS) (hS : Fr hc S0 S) : ∃ S' dn, mFn (d + 6) 9 [.ref 35, .int (nI f0), .int (nI z), .int (nI O)] S = some (none, S') ∧ Fr hc S0 S' ∧ (∀ f, f < nf → encC S' f (sol ρ nf np f0 z O f)) ∧ S'.1 35 4 = nI dn ∧ dn < 2 ^ nf ∧ (∀ f, f < nf → (dn.testBit f = true ↔ ¬ sol ρ nf np f0 z O f = none)) := by
  obtain ⟨S', a1, V, dn, c1, c2, c3, c4, c5, c6, c7⟩ := spreadR d HH hO hf0 hz S hS
  have hV : HDs ρ nf np f0 z O V := ⟨c3, c7⟩
  have e := sol_of HH.1.n1 HH.1.n2 HH.1.rf HH.1.rp hV
  refine ⟨S', dn, a1, c1, fun f hf => ?_, c4, c5, fun f hf => ?_⟩
  · rw [← e f hf]
    exact c2 f hf
  · rw [← e f hf]
    exact c6 f hf
