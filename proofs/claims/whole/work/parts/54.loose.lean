/-! ===== calls: loose ===== -/
def setR (ρ : Nat → Int32) (j : Nat) (v : Int32) : Nat → Int32 := fun i => if i = j then v else ρ i
theorem setR_eq (ρ : Nat → Int32) (j : Nat) (v : Int32) : setR ρ j v j = v := if_pos rfl
theorem setR_ne {ρ : Nat → Int32} {j i : Nat} {v : Int32} (h : i ≠ j) : setR ρ j v i = ρ i := if_neg h
theorem uI55 (S : MS) (j : Nat) (v : Int32) : (uI S 55 j v).1 55 = setR (S.1 55) j v := by
  funext i
  rw [uI_rd, if_pos rfl]
  rfl
def zz (v : Int32) : Int32 := fAdd (fMul v 1103515245) 12345
def dw (v : Int32) : Nat := (fUshr v 8).toBitVec.toNat
theorem dw_e (v : Int32) : fUshr v 8 = nI (dw v) ∧ dw v < 16777216 := by
  have e : dw v = v.toBitVec.toNat / 2 ^ 8 := pk_ushr v 8 8 (by decide)
  have l : v.toBitVec.toNat < 2 ^ 32 := v.toBitVec.isLt
  have l2 : dw v < 16777216 := by omega
  refine ⟨?_, l2⟩
  apply Int32.toBitVec_inj.1
  apply BitVec.eq_of_toNat_eq
  show dw v = (BitVec.ofNat 32 (dw v)).toNat
  rw [BitVec.toNat_ofNat]
  omega
def talkR (nf : Nat) (V : HV) (ρ : Nat → Int32) : Nat → Int32 := fun i => if 10 ≤ i ∧ i < 10 + 4 * nf ∧ (i - 10) % 4 = 0 then upT (ρ i) (V ((i - 10) / 4)) else ρ i
theorem talkR_f {nf f : Nat} {V : HV} {ρ : Nat → Int32} (hf : f < nf) : talkR nf V ρ (10 + 4 * f) = upT (ρ (10 + 4 * f)) (V f) := by
  unfold talkR
  rw [if_pos ⟨by omega, by omega, by omega⟩, show (10 + 4 * f - 10) / 4 = f by omega]
theorem talkR_ne {nf j : Nat} {V : HV} {ρ : Nat → Int32} (h : ∀ f, f < nf → j ≠ 10 + 4 * f) : talkR nf V ρ j = ρ j := by
  unfold talkR
  rw [if_neg]
  rintro ⟨h1, h2, h3⟩
  exact h ((j - 10) / 4) (by omega) (by omega)
def dnv (V : HV) : Nat → Nat
  | 0 => 0
  | n + 1 => dnv V n ||| (if V n = none then 0 else 2 ^ n)
theorem dnv_lt (V : HV) : ∀ n, dnv V n < 2 ^ n := by
  intro n
  induction n with
  | zero => exact Nat.one_pos
  | succ n ih =>
    have p : 2 ^ n < 2 ^ (n + 1) := Nat.pow_lt_pow_right (by decide) (by omega)
    rw [dnv]
    refine Nat.or_lt_two_pow (by omega) ?_
    by_cases h : V n = none
    · rw [if_pos h]; omega
    · rw [if_neg h]; exact p
theorem dnv_bit (V : HV) : ∀ n f, f < n → ((dnv V n).testBit f = true ↔ ¬ V f = none) := by
  intro n
  induction n with
  | zero => intro f h; omega
  | succ n ih =>
    intro f h
    rw [dnv, Nat.testBit_or]
    by_cases e : f = n
    · subst e
      rw [Nat.testBit_lt_two_pow (dnv_lt V f), Bool.false_or]
      by_cases h : V f = none
      · rw [if_pos h, Nat.zero_testBit]; simp [h]
      · rw [if_neg h, Nat.testBit_two_pow_self]; simp [h]
    · have r : (if V n = none then 0 else 2 ^ n).testBit f = false := by
        by_cases h : V n = none
        · rw [if_pos h, Nat.zero_testBit]
        · rw [if_neg h, Nat.testBit_two_pow]
          exact decide_eq_false (fun q => e q.symm)
      rw [r, Bool.or_false]
      exact ih f (by omega)
theorem dnv_eq {V : HV} {nf dn : Nat} (h1 : dn < 2 ^ nf) (h2 : ∀ f, f < nf → (dn.testBit f = true ↔ ¬ V f = none)) : dn = dnv V nf := by
  apply Nat.eq_of_testBit_eq
  intro f
  by_cases hf : f < nf
  · have a := h2 f hf
    have b := dnv_bit V nf f hf
    cases hx : dn.testBit f <;> cases hy : (dnv V nf).testBit f <;> simp_all
  · rw [Nat.testBit_lt_two_pow (Nat.lt_of_lt_of_le h1 (Nat.pow_le_pow_right (by decide) (by omega))), Nat.testBit_lt_two_pow (Nat.lt_of_lt_of_le (dnv_lt V nf) (Nat.pow_le_pow_right (by decide) (by omega)))]
/-- one day, as it changes the row -/
def d1 (ρ : Nat → Int32) : Nat → Int32 := setR (setR ρ 1 (zz (ρ 1))) 4 (nI (dw (zz (ρ 1)) % 10))
def d3 (ρ : Nat → Int32) : Nat → Int32 := setR (setR (d1 ρ) 1 (zz (zz (ρ 1)))) 1 (zz (zz (zz (ρ 1))))
noncomputable def dV (nf np o : Nat) (ρ : Nat → Int32) : HV := sol (d3 ρ) nf np (dw (zz (zz (ρ 1))) % nf) (1 + dw (zz (zz (zz (ρ 1)))) % 20) o
noncomputable def dayR (nf np o : Nat) (ρ : Nat → Int32) : Nat → Int32 := if nf = 0 then setR (d1 ρ) 0 (fAdd (ρ 0) 1) else setR (talkR nf (dV nf np o ρ) (d3 ρ)) 0 (fAdd (ρ 0) 1)
noncomputable def dayD (nf np o : Nat) (ρ : Nat → Int32) : Nat := if nf = 0 then 0 else dnv (dV nf np o ρ) nf
/-- two rows alike but for the day, the draw, the frost and what is talked -/
def LK (ρ ρ' : Nat → Int32) : Prop := (∀ j, j ≠ 0 → j ≠ 1 → j ≠ 4 → (∀ f, f < 8 → j ≠ 10 + 4 * f) → ρ' j = ρ j) ∧ ∀ f, f < 8 → 0 ≤ ρ' (10 + 4 * f) ∧ ρ' (10 + 4 * f) ≤ 99999
theorem LK.tr {ρ ρ' ρ'' : Nat → Int32} (a : LK ρ ρ') (b : LK ρ' ρ'') : LK ρ ρ'' := ⟨fun j h1 h2 h3 h4 => (b.1 j h1 h2 h3 h4).trans (a.1 j h1 h2 h3 h4), b.2⟩
theorem rT_m {ρ : Nat → Int32} (h : RFm ρ) {f : Nat} (hf : f < 8) : 0 ≤ ρ (10 + 4 * f) ∧ ρ (10 + 4 * f) ≤ 99999 := by
  obtain ⟨_, _, _, _, _, _, _, q⟩ := h f hf
  exact q
theorem LK_set {ρ ρ' : Nat → Int32} {j : Nat} {v : Int32} (hj : j = 0 ∨ j = 1 ∨ j = 4) (h : LK ρ ρ') : LK ρ (setR ρ' j v) := by
  refine ⟨fun i h1 h2 h3 h4 => ?_, fun f hf => ?_⟩
  · rw [setR_ne (by omega)]
    exact h.1 i h1 h2 h3 h4
  · rw [setR_ne (by omega)]
    exact h.2 f hf
theorem LK.rf {ρ : Nat → Int32} (h : RFm ρ) : LK ρ ρ := ⟨fun _ _ _ _ _ => rfl, fun f hf => rT_m h hf⟩
theorem RFm_k {ρ ρ' : Nat → Int32} (k : LK ρ ρ') (h : RFm ρ) : RFm ρ' := by
  intro f hf
  obtain ⟨_, _, _, _, h5, h6, h7, h8⟩ := h f hf
  have e7 : ρ' (7 + 4 * f) = ρ (7 + 4 * f) := k.1 _ (by omega) (by omega) (by omega) (fun g _ => by omega)
  have e8 : ρ' (8 + 4 * f) = ρ (8 + 4 * f) := k.1 _ (by omega) (by omega) (by omega) (fun g _ => by omega)
  have e9 : ρ' (9 + 4 * f) = ρ (9 + 4 * f) := k.1 _ (by omega) (by omega) (by omega) (fun g _ => by omega)
  refine ⟨rfl, rfl, rfl, rfl, ?_, ?_, ?_, k.2 f hf⟩
  · show 0 ≤ ρ' (7 + 4 * f) ∧ ρ' (7 + 4 * f) ≤ 6
    rw [e7]; exact h5
  · show 0 ≤ ρ' (8 + 4 * f) ∧ ρ' (8 + 4 * f) ≤ 9
    rw [e8]; exact h6
  · show 0 ≤ ρ' (9 + 4 * f) ∧ ρ' (9 + 4 * f) ≤ 9
    rw [e9]; exact h7
theorem RPm_k {ρ ρ' : Nat → Int32} {nf np o : Nat} (hnf : nf ≤ 8) (k : LK ρ ρ') (h : RPm ρ nf np o) : RPm ρ' nf np o := by
  intro p hp
  obtain ⟨_, _, _, h4⟩ := h p hp
  refine ⟨rfl, rfl, rfl, fun hpn => ?_⟩
  obtain ⟨fr, to, r1, r2, r3, r4, r5, r6, r7⟩ := h4 hpn
  have e : ∀ j, 39 ≤ j → j < 75 → ρ' j = ρ j := fun j j1 j2 => k.1 _ (by omega) (by omega) (by omega) (fun g _ => by omega)
  have eh : ∀ f, f < 8 → ρ' (9 + 4 * f) = ρ (9 + 4 * f) := fun f hf => k.1 _ (by omega) (by omega) (by omega) (fun g _ => by omega)
  refine ⟨fr, to, r1, r2, ?_, ?_, ?_, ?_, ?_⟩
  · show ρ' (39 + 4 * p) = nI fr
    rw [e _ (by omega) (by omega)]; exact r3
  · show ρ' (40 + 4 * p) = nI to
    rw [e _ (by omega) (by omega)]; exact r4
  · show 1 ≤ ρ' (41 + 4 * p) ∧ ρ' (41 + 4 * p) ≤ 9
    rw [e _ (by omega) (by omega)]; exact r5
  · show ρ' (9 + 4 * to) < ρ' (9 + 4 * fr)
    rw [eh _ (by omega), eh _ (by omega)]; exact r6
  · show ρ' (42 + 4 * p) = _
    rw [e _ (by omega) (by omega)]; exact r7
theorem hi_k {ρ ρ' : Nat → Int32} (k : LK ρ ρ') {j : Nat} (hj : 42 ≤ j) : ρ' j = ρ j := k.1 _ (by omega) (by omega) (by omega) (fun g _ => by omega)
theorem GW_k {ρ ρ' : Nat → Int32} {a : Nat} (ha : 42 ≤ a) (k : LK ρ ρ') (h : GW ρ a) : GW ρ' a := by
  have e : ∀ j, a ≤ j → ρ' j = ρ j := fun j hj => hi_k k (by omega)
  rcases h with h | ⟨n, h1, h2, h3, h4, h5⟩
  · exact Or.inl ((e a (Nat.le_refl _)).trans h)
  · refine Or.inr ⟨n, h1, h2, (e a (Nat.le_refl _)).trans h3, fun i hi => ?_, ?_⟩
    · rw [e _ (by omega), e _ (by omega)]
      exact h4 i hi
    · rw [show (fun k => ρ' (a + 1 + k)) = (fun k => ρ (a + 1 + k)) from funext (fun k => e _ (by omega))]
      exact h5
theorem MRw_k {ρ ρ' : Nat → Int32} {nf np o : Nat} (k : LK ρ ρ') (h : MRw ρ nf np o) : MRw ρ' nf np o := by
  obtain ⟨n1, n2, rf, rp, w2, w3, g1, g2, hb, ho⟩ := h
  refine ⟨n1, n2, RFm_k k rf, RPm_k n1 k rp, ?_, ?_, GW_k (by omega) k g1, GW_k (by omega) k g2, fun p hp => ?_, ho⟩
  · rw [k.1 2 (by omega) (by omega) (by omega) (fun g _ => by omega)]; exact w2
  · rw [k.1 3 (by omega) (by omega) (by omega) (fun g _ => by omega)]; exact w3
  · rw [hi_k k (by omega)]; exact hb p hp
theorem RTv_k {S T : MS} {t a : Nat} {ρ ρ' : Nat → Int32} (ha : 42 ≤ a) (k : LK ρ ρ') (h0 : T.1 t = S.1 t) (h1 : T.1 (t + 1) = S.1 (t + 1)) (h : RTv S t ρ a) : RTv T t ρ' a := by
  have e : ∀ j, a ≤ j → ρ' j = ρ j := fun j hj => hi_k k (by omega)
  unfold RTv at h ⊢
  rw [h0, h1, e a (Nat.le_refl _), show (fun k => ρ' (a + 1 + k)) = (fun k => ρ (a + 1 + k)) from funext (fun k => e _ (by omega))]
  rcases h with h | ⟨h, n, a1, a2, a3, a4, a5, a6⟩
  · exact Or.inl h
  · refine Or.inr ⟨h, n, a1, a2, a3, a4, fun i hi => ?_, a6⟩
    rw [e _ (by omega), e _ (by omega)]
    exact a5 i hi
theorem CF_u {ρ ρ' : Nat → Int32} {S T : MS} {nf np o : Nat} (H : CF ρ S nf np o) (k : LK ρ ρ') (g : ∀ k, 2 ≤ k → k ≤ 16 → k ≠ 5 → k ≠ 9 → k ≠ 14 → T.1 k = S.1 k) (g0 : T.1 1 0 = S.1 1 0) (g5 : T.1 1 5 = S.1 1 5) (g10 : T.1 1 10 = ρ' 4) (gt : ∀ f, f < 8 → T.1 5 f = ρ' (10 + 4 * f)) : CF ρ' T nf np o := by
  refine ⟨H.n1, H.n2, RFm_k k H.rf, RPm_k H.n1 k H.rp, g0.trans H.c0, g5.trans H.c5, g10, fun f hf => ?_, fun p hp => ?_, RTv_k (by omega) k (g 12 (by omega) (by omega) (by omega) (by omega) (by omega)) (g 13 (by omega) (by omega) (by omega) (by omega) (by omega)) H.t0, RTv_k (by omega) k (g 15 (by omega) (by omega) (by omega) (by omega) (by omega)) (g 16 (by omega) (by omega) (by omega) (by omega) (by omega)) H.t1⟩
  · obtain ⟨q1, q2, q3, _⟩ := H.fs f hf
    refine ⟨?_, ?_, ?_, gt f hf⟩
    · rw [g 2 (by omega) (by omega) (by omega) (by omega) (by omega), k.1 _ (by omega) (by omega) (by omega) (fun g _ => by omega)]; exact q1
    · rw [g 3 (by omega) (by omega) (by omega) (by omega) (by omega), k.1 _ (by omega) (by omega) (by omega) (fun g _ => by omega)]; exact q2
    · rw [g 4 (by omega) (by omega) (by omega) (by omega) (by omega), k.1 _ (by omega) (by omega) (by omega) (fun g _ => by omega)]; exact q3
  · obtain ⟨q1, q2, q3⟩ := H.ps p hp
    refine ⟨?_, ?_, ?_⟩
    · rw [g 6 (by omega) (by omega) (by omega) (by omega) (by omega), k.1 _ (by omega) (by omega) (by omega) (fun g _ => by omega)]; exact q1
    · rw [g 7 (by omega) (by omega) (by omega) (by omega) (by omega), k.1 _ (by omega) (by omega) (by omega) (fun g _ => by omega)]; exact q2
    · rw [g 8 (by omega) (by omega) (by omega) (by omega) (by omega), k.1 _ (by omega) (by omega) (by omega) (fun g _ => by omega)]; exact q3
/-- let, the class's side over the row apart -/
theorem letR (d : Nat) {ρ : Nat → Int32} {S : MS} {nf np o f0 z : Nat} (H : CF ρ S nf np o) (c9 : S.1 1 9 = nI o) (ho : o < 512) (hf0 : f0 < nf) (hz : 1 ≤ z ∧ z ≤ 99) : ∃ A, mFn (d + 7) 82 [.ref 0, .int (nI f0), .int (nI z)] S = some (some (.int (nI (dnv (sol ρ nf np f0 z o) nf))), A) ∧ Fr [5, 14, 17, 35, 36, 37, 38] S A ∧ ∀ j, A.1 5 j = if j < nf then upT (S.1 5 j) (sol ρ nf np f0 z o j) else S.1 5 j := by
  obtain ⟨A, a1, a2, HA⟩ := nowR (d + 1) H
  obtain ⟨A', dn, k1, k2, k3, k4, k5, k6⟩ := spR d (O := o) HA ho hf0 hz A Fr.rf
  obtain ⟨T, t1, t2, t3⟩ := letC (d + 5) (nf := nf) (dn := dn) (V := sol ρ nf np f0 z o) H.n1 nf 0 (by omega) A' (by rw [k2 1 (by decide), a2 1 (by decide)]; exact H.c0) k4 k3
  refine ⟨T, ?_, ((a2.up (by decide)).tr (k2.up (by decide))).tr (t2.up (by decide)), fun j => ?_⟩
  · rw [fX5_letOut, a1, bV_some, a2 1 (by decide), c9, k1, bV_some, ← dnv_eq k5 k6]
    exact t1
  · rw [t3, k2 5 (by decide), a2 5 (by decide)]
    by_cases h : j < nf
    · rw [if_pos ⟨Nat.zero_le _, h⟩, if_pos h]
    · rw [if_neg (fun q => h q.2), if_neg h]
theorem letsR (d : Nat) {ρ : Nat → Int32} {S : MS} {nf np o f0 z : Nat} (H : MRw ρ nf np o) (hS : S.1 55 = ρ) (hf0 : f0 < nf) (hz : 1 ≤ z ∧ z ≤ 99) : ∃ U, mFn (d + 8) 138 [.ref 54, .int (nI f0), .int (nI z)] S = some (some (.int (nI (dnv (sol ρ nf np f0 z o) nf))), U) ∧ Fr [55, 63, 64, 65, 66, 67] S U ∧ U.1 55 = talkR nf (sol ρ nf np f0 z o) ρ ∧ ∀ f, f < nf → 0 ≤ upT (ρ (10 + 4 * f)) (sol ρ nf np f0 z o f) ∧ upT (ρ (10 + 4 * f)) (sol ρ nf np f0 z o f) ≤ 99999 := by
  have n1 := H.1
  obtain ⟨B, b1, b2, b3⟩ := nowSp d (S := S) (f0 := f0) (z := z) (by rw [hS]; exact H) hf0 hz
  rw [hS] at b3
  have eB : B.1 55 = ρ := (b2 55 (by decide)).trans hS
  obtain ⟨U, u1, u2, u3, u4⟩ := letM (d + 5) (nf := nf) (dn := dnv (sol ρ nf np f0 z o) nf) (V := sol ρ nf np f0 z o) n1 (dnv_lt _ _) (dnv_bit _ _) nf 0 (by omega) B (by rw [eB]; exact H.2.2.2.2.1) b3 (fun f hf => by rw [eB]; exact rT_m H.2.2.1 (by omega))
  rw [eB] at u3 u4
  refine ⟨U, ?_, (b2.up (by decide)).tr (u2.up (by decide)), ?_, fun f hf => (u3 f (Nat.zero_le _) hf).2⟩
  · rw [fX6_lets, b1, bV_some]
    exact u1
  · funext j
    by_cases h : ∀ f, f < nf → j ≠ 10 + 4 * f
    · rw [talkR_ne h]
      exact u4 j (fun f _ hf => h f hf)
    · have : ∃ f, f < nf ∧ j = 10 + 4 * f := Classical.byContradiction (fun q => h (fun f hf e => q ⟨f, hf, e⟩))
      obtain ⟨f, hf, rfl⟩ := this
      rw [talkR_f hf]
      exact (u3 f (Nat.zero_le _) hf).1
theorem rem10 (j : Nat) (h : j < 16777216) : nI j - nI j / 10 * 10 = nI (j % 10) := pk_rem (d := 10) (by omega) (by omega) (by omega)
theorem rem20 (j : Nat) (h : j < 16777216) : fAdd 1 (nI j - nI j / 20 * 20) = nI (1 + j % 20) := by
  rw [show nI j - nI j / 20 * 20 = nI (j % 20) from pk_rem (d := 20) (by omega) (by omega) (by omega)]
  exact fa_nn 1 (j % 20)
theorem d1_k {ρ : Nat → Int32} (h : RFm ρ) : LK ρ (d1 ρ) := LK_set (by omega) (LK_set (by omega) (LK.rf h))
theorem d3_k {ρ : Nat → Int32} (h : RFm ρ) : LK ρ (d3 ρ) := LK_set (by omega) (LK_set (by omega) (d1_k h))
/-- one day of the class -/
theorem dayC (d : Nat) {ρ : Nat → Int32} {S : MS} {nf np o acc i : Nat} {x : Int32} (H : CF ρ S nf np o) (c9 : S.1 1 9 = nI o) (c11 : S.1 1 11 = ρ 0) (c12 : S.1 1 12 = ρ 1) (ho : o < 512) (hi : ¬ x ≤ nI i) (hk : LK ρ (dayR nf np o ρ)) : ∃ S', mv (kX5_loose (mFn (d + 8))) 42 [(0, .ref 0), (1, .int x), (2, .int (nI acc)), (3, .int (nI i))] [] S = mv (kX5_loose (mFn (d + 8))) 42 [(0, .ref 0), (1, .int x), (2, .int (nI (acc ||| dayD nf np o ρ))), (3, .int (nI (i + 1)))] [] S' ∧ CF (dayR nf np o ρ) S' nf np o ∧ S'.1 1 11 = dayR nf np o ρ 0 ∧ S'.1 1 12 = dayR nf np o ρ 1 ∧ (∀ j, j ≠ 10 → j ≠ 11 → j ≠ 12 → S'.1 1 j = S.1 1 j) ∧ Fr [1, 5, 14, 17, 35, 36, 37, 38] S S' := by
  have n1 := H.n1
  obtain ⟨e1, l1⟩ := dw_e (zz (ρ 1))
  obtain ⟨e2, l2⟩ := dw_e (zz (zz (ρ 1)))
  obtain ⟨e3, l3⟩ := dw_e (zz (zz (zz (ρ 1))))
  have row := lX5_loose_42 (d + 8) x (nI acc) (nI i) S
  rw [if_neg hi, fX0_draw, bI_some, if_neg (show ¬ (10 : Int32) = 0 by decide), c12, show fAdd (fMul (ρ 1) 1103515245) 12345 = zz (ρ 1) from rfl, e1, rem10 _ l1, uI_ni _ (show (0 : Nat) ≠ 12 by decide), H.c0, add1] at row
  -- after the first draw
  generalize hT1 : uI (uI S 1 12 (zz (ρ 1))) 1 10 (nI (dw (zz (ρ 1)) % 10)) = T1 at row
  have T1k : ∀ k, k ≠ 1 → T1.1 k = S.1 k := fun k hk1 => by rw [← hT1, uI_oth hk1, uI_oth hk1]
  have T1j : ∀ j, j ≠ 10 → j ≠ 12 → T1.1 1 j = S.1 1 j := fun j h1 h2 => by rw [← hT1, uI_ni _ h1, uI_ni _ h2]
  have T10 : T1.1 1 10 = nI (dw (zz (ρ 1)) % 10) := by rw [← hT1, uI_eq]
  have T12 : T1.1 1 12 = zz (ρ 1) := by rw [← hT1, uI_ni _ (by decide), uI_eq]
  have fT1 : Fr [1] S T1 := fun k hk1 => T1k k (by simpa using hk1)
  by_cases n0 : nf = 0
  · have eD : dayD nf np o ρ = 0 := if_pos n0
    have eR : dayR nf np o ρ = setR (d1 ρ) 0 (fAdd (ρ 0) 1) := if_pos n0
    rw [eR] at hk
    rw [eD, eR, Nat.or_zero]
    rw [if_pos (show nI nf ≤ 0 by rw [n0]; decide), show (uI S 1 12 (zz (ρ 1))).1 1 11 = ρ 0 by rw [uI_ni _ (by decide)]; exact c11] at row
    refine ⟨_, row, CF_u H hk (fun k k1 k2 k3 k4 k5 => by rw [uI_oth (by omega)]; exact T1k k (by omega)) (by rw [uI_ni _ (by decide)]; exact T1j 0 (by decide) (by decide)) (by rw [uI_ni _ (by decide)]; exact T1j 5 (by decide) (by decide)) ?_ (fun f hf => ?_), ?_, ?_, fun j h1 h2 h3 => ?_, (fT1.up (by decide)).put (by decide)⟩
    · rw [uI_ni _ (by decide), T10, setR_ne (by decide)]
      exact (setR_eq _ _ _).symm
    · rw [uI_oth (by decide), T1k 5 (by decide), (H.fs f hf).2.2.2, setR_ne (by omega)]
      unfold d1
      rw [setR_ne (by omega), setR_ne (by omega)]
    · rw [uI_eq, setR_eq]
    · rw [uI_ni _ (by decide), T12, setR_ne (by decide)]
      unfold d1
      rw [setR_ne (by decide), setR_eq]
    · rw [uI_ni _ h2]
      exact T1j j h1 h3
  · have eD : dayD nf np o ρ = dnv (dV nf np o ρ) nf := if_neg n0
    have eR : dayR nf np o ρ = setR (talkR nf (dV nf np o ρ) (d3 ρ)) 0 (fAdd (ρ 0) 1) := if_neg n0
    rw [eR] at hk
    rw [eD, eR]
    rw [if_neg (show ¬ nI nf ≤ 0 from nI_ge (a := 0) (b := nf) (by omega) (by omega)), fX0_draw, bI_some, T12, show fAdd (fMul (zz (ρ 1)) 1103515245) 12345 = zz (zz (ρ 1)) from rfl, e2, uI_ni _ (show (0 : Nat) ≠ 12 by decide), T1j 0 (by decide) (by decide), H.c0, if_neg (nI_ne0 (by omega) (by omega)), fX0_draw, bI_some, if_neg (show ¬ (20 : Int32) = 0 by decide), uI_eq, show fAdd (fMul (zz (zz (ρ 1))) 1103515245) 12345 = zz (zz (zz (ρ 1))) from rfl, e3, rem20 _ l3, pk_rem (by omega) (by omega) (by omega)] at row
    generalize hT3 : uI (uI T1 1 12 (zz (zz (ρ 1)))) 1 12 (zz (zz (zz (ρ 1)))) = T3 at row
    have T3k : ∀ k, k ≠ 1 → T3.1 k = S.1 k := fun k hk1 => by rw [← hT3, uI_oth hk1, uI_oth hk1]; exact T1k k hk1
    have T3j : ∀ j, j ≠ 10 → j ≠ 12 → T3.1 1 j = S.1 1 j := fun j h1 h2 => by rw [← hT3, uI_ni _ h2, uI_ni _ h2]; exact T1j j h1 h2
    have T310 : T3.1 1 10 = nI (dw (zz (ρ 1)) % 10) := by rw [← hT3, uI_ni _ (by decide), uI_ni _ (by decide)]; exact T10
    have T312 : T3.1 1 12 = zz (zz (zz (ρ 1))) := by rw [← hT3, uI_eq]
    have fT3 : Fr [1] S T3 := fun k hk1 => T3k k (by simpa using hk1)
    have d34 : d3 ρ 4 = nI (dw (zz (ρ 1)) % 10) := by
      unfold d3 d1
      rw [setR_ne (by decide), setR_ne (by decide), setR_eq]
    have d3t : ∀ f, f < 8 → d3 ρ (10 + 4 * f) = ρ (10 + 4 * f) := fun f hf => by
      unfold d3 d1
      rw [setR_ne (by omega), setR_ne (by omega), setR_ne (by omega), setR_ne (by omega)]
    have H3 : CF (d3 ρ) T3 nf np o := CF_u H (d3_k H.rf) (fun k k1 k2 k3 k4 k5 => T3k k (by omega)) (T3j 0 (by decide) (by decide)) (T3j 5 (by decide) (by decide)) (T310.trans d34.symm) (fun f hf => by rw [T3k 5 (by decide), (H.fs f hf).2.2.2, d3t f hf])
    have lm := Nat.mod_lt (dw (zz (zz (ρ 1)))) (show nf > 0 by omega)
    have lz := Nat.mod_lt (dw (zz (zz (zz (ρ 1))))) (show 20 > 0 by omega)
    obtain ⟨A, a1, a2, a3⟩ := letR (d + 1) (f0 := dw (zz (zz (ρ 1))) % nf) (z := 1 + dw (zz (zz (zz (ρ 1)))) % 20) H3 (by rw [T3j 9 (by decide) (by decide)]; exact c9) ho lm ⟨by omega, by omega⟩
    have eA1 : A.1 1 = T3.1 1 := a2 1 (by decide)
    rw [a1, bI_some, show fOr (nI acc) (nI (dnv (sol (d3 ρ) nf np (dw (zz (zz (ρ 1))) % nf) (1 + dw (zz (zz (zz (ρ 1)))) % 20) o) nf)) = nI (acc ||| dnv (dV nf np o ρ) nf) from fa_or _ _, eA1, T3j 11 (by decide) (by decide), c11] at row
    refine ⟨_, row, CF_u H hk (fun k k1 k2 k3 k4 k5 => by rw [uI_oth (by omega), a2 k (by simp; omega)]; exact T3k k (by omega)) (by rw [uI_ni _ (by decide), eA1]; exact T3j 0 (by decide) (by decide)) (by rw [uI_ni _ (by decide), eA1]; exact T3j 5 (by decide) (by decide)) ?_ (fun f hf => ?_), ?_, ?_, fun j h1 h2 h3 => ?_, ((fT3.up (by decide)).tr (a2.up (by decide))).put (by decide)⟩
    · rw [uI_ni _ (by decide), eA1, T310, setR_ne (by decide), talkR_ne (fun f _ => by omega), d34]
    · rw [uI_oth (by decide), a3, setR_ne (by omega), T3k 5 (by decide), (H.fs f hf).2.2.2]
      by_cases hfn : f < nf
      · rw [if_pos hfn, talkR_f hfn, d3t f hf]
        rfl
      · rw [if_neg hfn, talkR_ne (fun g hg => by omega), d3t f hf]
    · rw [uI_eq, setR_eq]
    · rw [uI_ni _ (by decide), eA1, T312, setR_ne (by decide), talkR_ne (fun f _ => by omega)]
      unfold d3
      rw [setR_eq]
    · rw [uI_ni _ h2, eA1]
      exact T3j j h1 h3
