/-! ===== calls: hears, heard ===== -/
theorem nowC (d : Nat) {S : MS} {nf np o : Nat} (n1 : nf ≤ 8) (n2 : np ≤ 9) (rf : RCf S.1 1 55) (rp : RCp S.1 1 55 nf np o) (c0 : S.1 1 0 = nI nf) (c5 : S.1 1 5 = nI np) (c10 : S.1 1 10 = S.1 55 4) (hx : RCx S.1 1 55) : ∃ S1, mFn (d + 5) 8 [.ref 35] S = some (none, S1) ∧ Fr [14, 17, 36] S S1 ∧ HB S1 nf np o := by
  obtain ⟨T, t1, t2, t3⟩ := learnC d n1 n2 rf rp c5 c10 hx.2 np 0 (by omega) S Fr.rf (fun p hp => by omega)
  have g : ∀ k, k ≠ 14 → k ≠ 17 → k ≠ 36 → T.1 k = S.1 k := fun k h1 h2 h3 => t2 k (by simp [h1, h2, h3])
  have e : T.1 55 = S.1 55 := t2 55 (by decide)
  refine ⟨T, (fX1_learnSlow (d + 4) S).trans t1, t2, n1, n2, RCf_c (fun k h1 h2 => g k (by omega) (by omega) (by omega)) (fun i _ _ => by rw [e]) rf, RCp_c n1 (fun k h1 h2 => g k (by omega) (by omega) (by omega)) (fun i _ _ => by rw [e]) (fun i _ => by rw [e]) rp, by rw [t2 1 (by decide)]; exact c0, by rw [t2 1 (by decide)]; exact c5, by rw [t2 1 (by decide), e]; exact c10, RT_c (by rw [t2 12 (by decide)]) (by rw [t2 12 (by decide)]) (fun k => by rw [t2 13 (by decide)]) (fun i _ _ => by rw [e]) hx.1, fun p hp => by rw [e]; exact t3 p hp⟩
theorem nowM (d : Nat) {S : MS} {nf np o : Nat} (n1 : nf ≤ 8) (n2 : np ≤ 9) (rf : RFm (S.1 55)) (rp : RPm (S.1 55) nf np o) (w2 : S.1 55 2 = nI nf) (w3 : S.1 55 3 = nI np) (g1 : GW (S.1 55) 159) (g2 : GW (S.1 55) 280) : ∃ S1, mFn (d + 5) 130 [.ref 54] S = some (none, S1) ∧ Fr [63, 64, 67] S S1 ∧ HM S1 nf np o := by
  obtain ⟨T, t1, t2, t3⟩ := findM d n1 n2 rf rp w3 g2 np 0 (by omega) S Fr.rf (fun p hp => by omega)
  have g : ∀ k, k ≠ 63 → k ≠ 64 → k ≠ 67 → T.1 k = S.1 k := fun k h1 h2 h3 => t2 k (by simp [h1, h2, h3])
  have e : T.1 55 = S.1 55 := t2 55 (by decide)
  exact ⟨T, (fX6_findSlow (d + 4) S).trans t1, t2, n1, n2, by rw [e]; exact rf, by rw [e]; exact rp, by rw [e]; exact w2, by rw [e]; exact w3, by rw [e]; exact g1, fun p hp => by rw [e]; exact t3 p hp⟩
theorem EndCM {A A' B B' : MS} {nf np o O f0 z : Nat} (H : HB A nf np o) (e : B.1 55 = A.1 55) (hC : EndC A A' nf np O f0 z) (hM : EndM B B' nf np O f0 z) : ∃ V dn, Fr hc A A' ∧ Fr hm B B' ∧ (∀ f, f < nf → encC A' f (V f)) ∧ (∀ f, f < nf → encM B' f (V f)) ∧ A'.1 35 4 = nI dn ∧ dn < 2 ^ nf ∧ (∀ f, f < nf → (dn.testBit f = true ↔ ¬ V f = none)) ∧ WV nf (hN (A.1 55)) V := by
  obtain ⟨V, dn, c1, c2, c3, c4, c5, c6, c7⟩ := hC
  obtain ⟨W, m1, m2, m3, m4⟩ := hM
  rw [e] at m3 m4
  have u := Fix_uniq (fun p hp => by
    obtain ⟨_, _, q1, q2, q3⟩ := pN_r H.n1 H.n2 H.rf H.rp hp
    exact ⟨q1, q2, q3⟩) (fun f hf => (hN_r H.rf (f := f) (by have := H.n1; omega)).2) c7 m4 c3 m3
  exact ⟨V, dn, c1, m1, c2, fun f hf => by rw [u (9 - hN (A.1 55) f + 1) f hf (by omega)]; exact m2 f hf, c4, c5, c6, c3⟩
theorem hearsM (d : Nat) {S : MS} {nf dn : Nat} {V : HV} (n1 : nf ≤ 8) (w2 : S.1 55 2 = nI nf) (he : ∀ f, f < nf → encM S f (V f)) (hd : dn < 2 ^ nf) (hb : ∀ f, f < nf → (dn.testBit f = true ↔ ¬ V f = none)) : ∀ n i, i + n = nf → mv (kX6_hearers (mFn d)) 4 [(0, .ref 54), (1, .int (nI (dn % 2 ^ i))), (2, .int (nI i))] [] S = some (some (.int (nI dn)), S) := by
  intro n
  induction n with
  | zero =>
    intro i hi
    have e : i = nf := by omega
    subst e
    rw [lX6_hearers_4, il2, cl2, w2, if_pos (Int32.le_refl _), Nat.mod_eq_of_lt hd]
  | succ n ih =>
    intro i hi
    have hi8 : i < 8 := by omega
    have hei := he i (by omega)
    have hbi := hb i (by omega)
    have lo := low_or dn i
    rw [lX6_hearers_4, il2, cl2, w2, if_neg (nI_ge (by omega) (by omega)), if_in hi8 (by omega), cN (by omega), add1]
    cases hv : V i with
    | none =>
      rw [hv] at hei hbi
      have hei : S.1 65 i = -1 := hei.1
      have hf : ¬ dn.testBit i = true := fun z => (hbi.mp z) rfl
      rw [if_neg hf, Nat.zero_mul, Nat.or_zero] at lo
      rw [hei, if_pos (by decide), show fOr (nI (dn % 2 ^ i)) 0 = nI (dn % 2 ^ i) from (fa_or (dn % 2 ^ i) 0).trans (by rw [Nat.or_zero]), lo]
      exact ih (i + 1) (by omega)
    | some a =>
      rw [hv] at hei hbi
      have hf : dn.testBit i = true := hbi.mpr (by simp)
      rw [if_pos hf, Nat.one_mul] at lo
      rw [hei.1, if_neg (nI_pos (by have := hei.2.2.1; omega)), sh_l (by omega), show fOr (nI (dn % 2 ^ i)) (nI (2 ^ i)) = nI (dn % 2 ^ i ||| 2 ^ i) from fa_or _ _, lo]
      exact ih (i + 1) (by omega)
/-- the hearing now, on both sides -/
theorem bothNow (d : Nat) {S : MS} {nf np nt nw o f0 z : Nat} (hs : RCs S.1 1 55 nf np nt nw o) (rf : RCf S.1 1 55) (rp : RCp S.1 1 55 nf np o) (hx : RCx S.1 1 55) (hf0 : f0 < nf) (hz : 1 ≤ z ∧ z ≤ 99) : ∃ A A' , mFn (d + 7) 8 [.ref 35] S = some (none, A) ∧ A.1 1 = S.1 1 ∧ mFn (d + 7) 9 [.ref 35, .int (nI f0), .int (nI z), .int (nI o)] A = some (none, A') ∧ Fr [14, 17, 35, 36, 37, 38] S A' ∧ ∃ V dn, (∀ f, f < nf → encC A' f (V f)) ∧ A'.1 35 4 = nI dn ∧ dn < 2 ^ nf ∧ (∀ f, f < nf → (dn.testBit f = true ↔ ¬ V f = none)) ∧ WV nf (hN (S.1 55)) V ∧ ∀ T, Fr [5, 14, 17, 35, 36, 37, 38, 53] S T → ∃ B', mFn (d + 7) 135 [.ref 54, .int (nI f0), .int (nI z)] T = some (none, B') ∧ Fr [63, 64, 65, 66, 67] T B' ∧ ∀ f, f < nf → encM B' f (V f) := by
  obtain ⟨b1, b2, b3, b4, b5, c0, w2, c5, w3, c14, w5, c17, w6, c9, c10, c11, c12, r4, r0⟩ := hs
  have o9 : 2 ^ np ≤ 2 ^ 9 := Nat.pow_le_pow_right (by decide) b2
  obtain ⟨A, a1, a2, HA⟩ := nowC (d + 2) b1 b2 rf rp c0 c5 c10 hx
  have eA : A.1 55 = S.1 55 := a2 55 (by decide)
  obtain ⟨A', k1, k2⟩ := spreadC (d + 1) (O := o) HA (by omega) hf0 hz A Fr.rf
  obtain ⟨V, dn, e1, e2, e3, e4, e5, e6, e7⟩ := id k2
  have fA : Fr [14, 17, 35, 36, 37, 38] S A' := (a2.up (by decide)).tr (e1.up (by decide))
  refine ⟨A, A', a1, a2 1 (by decide), k1, fA, V, dn, e2, e4, e5, e6, by rw [← eA]; exact e3, fun T hT => ?_⟩
  have eT : T.1 55 = S.1 55 := hT 55 (by decide)
  obtain ⟨B, q1, q2, HB'⟩ := nowM (d + 1) (S := T) b1 b2 (by rw [eT]; exact RFm_of rf) (by rw [eT]; exact RPm_of rp) (by rw [eT]; exact w2) (by rw [eT]; exact w3) (by rw [eT]; exact GW_of hx.1) (by rw [eT]; exact GW_of hx.2)
  have eB : B.1 55 = S.1 55 := (q2 55 (by decide)).trans eT
  obtain ⟨B', m1, m2⟩ := spreadM d (O := o) HB' (by omega) hf0 hz B Fr.rf
  obtain ⟨W, dn', _, f2, c1, c2, c3, c4, c5', c6⟩ := EndCM HA (eB.trans eA.symm) k2 m2
  have op := pM_opened (d + 4) (S := B) b2 (by rw [eB]; exact w3) (by
    intro p hp
    rw [eB]
    exact RCp_bits b2 rp p hp) b5
  have same : ∀ f, f < nf → V f = W f := fun f hf => by
    have x1 := e2 f hf
    have x2 := c1 f hf
    cases hv : V f with
    | none =>
      rw [hv] at x1
      have x1 : A'.1 37 f = 1000000 := x1
      cases hw : W f with
      | none => rfl
      | some b =>
        rw [hw] at x2
        rw [x2.1] at x1
        have := (nI_eq (a := b.1) (b := 1000000) (by have := x2.2.2.1; omega) (by decide)).mp x1
        have := x2.2.2.1
        omega
    | some a =>
      rw [hv] at x1
      cases hw : W f with
      | none =>
        rw [hw] at x2
        have x2 : A'.1 37 f = 1000000 := x2
        rw [x1.1] at x2
        have := (nI_eq (a := a.1) (b := 1000000) (by have := x1.2.2.1; omega) (by decide)).mp x2
        have := x1.2.2.1
        omega
      | some b =>
        rw [hw] at x2
        have l1 := x1.2.2
        have l2 := x2.2.2
        have y1 := (nI_eq (a := a.1) (b := b.1) (by omega) (by omega)).mp (x1.1.symm.trans x2.1)
        have y2 := (nI_eq (a := a.2) (b := b.2) (by omega) (by omega)).mp (x1.2.1.symm.trans x2.2.1)
        rw [show a = b from Prod.ext y1 y2]
  refine ⟨B', ?_, (q2.up (by decide)).tr (f2.up (by decide)), fun f hf => by rw [same f hf]; exact c2 f hf⟩
  rw [fX6_spreadsNow, show mFn (d + 6) 130 [.ref 54] T = _ from q1, bV_some, show mFn (d + 6) 131 [.ref 54] B = _ from op, bI_some, m1, bV_some]
theorem Rel_h {S T U : MS} (h1 : Fr [14, 17, 35, 36, 37, 38] S T) (h2 : Fr [63, 64, 65, 66, 67] T U) (hR : Rel S) : Rel U := by
  have f : Fr [14, 17, 35, 36, 37, 38, 63, 64, 65, 66, 67] S U := (h1.up (by decide)).tr (h2.up (by decide))
  exact Rel_fr (f.up (by decide)) (by rw [f 54 (by decide)]) (by rw [f 54 (by decide)]) (by rw [f 42 (by decide)]) hR
theorem ok_hears (d : Nat) (x z : Int32) : Ok2 (d + 8) 49 136 [.ref 0, .int x, .int z] [.ref 54, .int x, .int z] := by
  intro S hR
  obtain ⟨⟨nf, np, nt, nw, o, hs, hf, hp, ht, hx⟩, hI, hE, hSh, hV⟩ := id hR
  obtain ⟨b1, b2, b3, b4, b5, c0, w2, c5, w3, c14, w5, c17, w6, c9, c10, c11, c12, r4, r0⟩ := id hs
  by_cases h : 0 ≤ x ∧ x < nI nf
  · obtain ⟨f, hf1, rfl⟩ := i_rng (by omega) h.1 h.2
    by_cases hz : 1 ≤ z ∧ z ≤ 99
    · obtain ⟨y, y1, y2, rfl⟩ := rlo (n := 99) (by decide) (by decide) (Int32.not_lt.mpr hz.1) hz.2
      obtain ⟨A, A', a1, a2, a3, a4, V, dn, v1, v2, v3, v4, v5, v6⟩ := bothNow d hs hf hp hx hf1 ⟨y1, y2⟩
      obtain ⟨B', k1, k2, k3⟩ := v6 A' (a4.up (by decide))
      have e : A'.1 55 = S.1 55 := a4 55 (by decide)
      have hm := hearsM (d + 6) (S := B') b1 (by rw [k2 55 (by decide), e]; exact w2) k3 v3 v4 nf 0 (by omega)
      rw [Nat.pow_zero, Nat.mod_one] at hm
      refine ⟨nI dn, A', B', ?_, ?_, Rel_h a4 k2 hR⟩
      · rw [fX5_hears, pC_isSay _ _ _ c0, bI_some, if_b2, if_pos ⟨h, hz⟩, a1, bV_some, a2, c9, a3, bV_some, v2]
      · rw [fX6_hears, pM_isF _ _ (show A'.1 55 2 = nI nf by rw [e]; exact w2) (by omega), bI_some, if_b2, if_pos h, pM_isSize, bI_some, if_b2, if_pos hz, k1, bV_some, show mFn (d + 7) 134 [.ref 54] B' = _ from (fX6_hearers (d + 6) B').trans hm, bI_some]
    · refine ⟨-1000000001, uI S 53 1 (S.1 53 1 + 1), EE 1 S, ?_, ?_, Rel_EE hR⟩
      · rw [fX5_hears, pC_isSay _ _ _ c0, bI_some, if_b2, if_neg (fun q => hz q.2), pC_err1, bI_some]
      · rw [fX6_hears, pM_isF _ _ (show (uI S 53 1 (S.1 53 1 + 1)).1 55 2 = nI nf from w2) (by omega), bI_some, if_b2, if_pos h, pM_isSize, bI_some, if_b2, if_neg hz, pM_err1, bI_some]
        rfl
  · refine ⟨-1000000001, uI S 53 1 (S.1 53 1 + 1), EE 1 S, ?_, ?_, Rel_EE hR⟩
    · rw [fX5_hears, pC_isSay _ _ _ c0, bI_some, if_b2, if_neg (fun q => h q.1), pC_err1, bI_some]
    · rw [fX6_hears, pM_isF _ _ (show (uI S 53 1 (S.1 53 1 + 1)).1 55 2 = nI nf from w2) (by omega), bI_some, if_b2, if_neg h, pM_err1, bI_some]
      rfl
