/-! ===== hearing: the class, from the city ===== -/
theorem HB_fr {S0 S1 : MS} {nf np o : Nat} (f : Fr [14, 17, 35, 37, 38] S0 S1) (H : HB S0 nf np o) : HB S1 nf np o := by
  have g : ∀ k, k ≠ 14 → k ≠ 17 → k < 35 → S1.1 k = S0.1 k := fun k h1 h2 h3 => f k (by simp; omega)
  have e : S1.1 55 = S0.1 55 := f 55 (by decide)
  refine ⟨H.n1, H.n2, RCf_c (fun k h1 h2 => g k (by omega) (by omega) (by omega)) (fun i _ _ => by rw [e]) H.rf, RCp_c H.n1 (fun k h1 h2 => g k (by omega) (by omega) (by omega)) (fun i _ _ => by rw [e]) (fun i _ => by rw [e]) H.rp, by rw [f 1 (by decide)]; exact H.c0, by rw [f 1 (by decide)]; exact H.c5, by rw [f 1 (by decide), e]; exact H.c10, RT_c (by rw [f 12 (by decide)]) (by rw [f 12 (by decide)]) (fun k => by rw [f 13 (by decide)]) (fun i _ _ => by rw [e]) H.rt, fun p hp => by rw [f 36 (by decide), e]; exact H.sl p hp⟩
theorem learnC (d : Nat) {S0 : MS} {nf np o : Nat} (n1 : nf ≤ 8) (n2 : np ≤ 9) (rf : RCf S0.1 1 55) (rp : RCp S0.1 1 55 nf np o) (c5 : S0.1 1 5 = nI np) (c10 : S0.1 1 10 = S0.1 55 4) (rt : RT S0.1 15 55 280) : ∀ n i, i + n = np → ∀ S : MS, Fr [14, 17, 36] S0 S → (∀ p, p < i → S.1 36 p = nI (slN (S0.1 55) p)) → ∃ T, mv (kX1_learnSlow (mFn (d + 4))) 2 [(0, .ref 35), (1, .int (nI i))] [] S = some (none, T) ∧ Fr [14, 17, 36] S0 T ∧ ∀ p, p < np → T.1 36 p = nI (slN (S0.1 55) p) := by
  intro n
  induction n with
  | zero =>
    intro i hi S hS h1
    refine ⟨S, ?_, hS, fun p hp => h1 p (by omega)⟩
    rw [lX1_learnSlow_2, hS 1 (by decide), c5, if_pos (nI_le (by omega) (by omega))]
  | succ n ih =>
    intro i hi S hS h1
    have g : ∀ k, k ≠ 14 → k ≠ 17 → k ≠ 36 → S.1 k = S0.1 k := fun k h1 h2 h3 => hS k (by simp [h1, h2, h3])
    obtain ⟨T, t1, t2⟩ := slow_C d (S := S) (p := i) (np := np) (nf := nf) (o := o) (by omega) n2 n1 (RCf_c (fun k h1 h2 => g k (by omega) (by omega) (by omega)) (fun j h1 h2 => by rw [g 55 (by omega) (by omega) (by omega)]) rf) (RCp_c n1 (fun k h1 h2 => g k (by omega) (by omega) (by omega)) (fun j h1 h2 => by rw [g 55 (by omega) (by omega) (by omega)]) (fun f h1 => by rw [g 55 (by omega) (by omega) (by omega)]) rp) (by rw [g 1 (by omega) (by omega) (by omega), g 55 (by omega) (by omega) (by omega)]; exact c10) (RT_c (by rw [g 15 (by omega) (by omega) (by omega)]) (by rw [g 15 (by omega) (by omega) (by omega)]) (fun k => by rw [g (15 + 1) (by omega) (by omega) (by omega)]) (fun j h1 h2 => by rw [g 55 (by omega) (by omega) (by omega)]) rt)
    rw [g 55 (by omega) (by omega) (by omega), (slN_r (S0.1 55) i).1] at t1
    obtain ⟨U, u1, u2, u3⟩ := ih (i + 1) (by omega) (uI T 36 i (nI (slN (S0.1 55) i))) ((hS.tr (t2.up (by decide))).put (by decide)) (fun p hp => by
      by_cases e : p = i
      · rw [e, uI_eq]
      · rw [uI_ni _ e, t2 36 (by decide)]
        exact h1 p (by omega))
    refine ⟨U, ?_, u2, u3⟩
    rw [lX1_learnSlow_2, hS 1 (by decide), c5, if_neg (nI_ge (by omega) (by omega)), t1, bI_some, if_in (show i < 9 by omega) (by omega), cN (by omega), add1]
    exact u1
theorem clearC (d : Nat) (a b c : Int32) : ∀ n i, i + n = 8 → ∀ S : MS, ∃ T, mv (kX1_spread (mFn d)) 3 [(0, .ref 35), (1, .int a), (2, .int b), (3, .int c), (4, .int (nI i))] [] S = mv (kX1_spread (mFn d)) 3 [(0, .ref 35), (1, .int a), (2, .int b), (3, .int c), (4, .int (nI 8))] [] T ∧ Fr [37] S T ∧ ∀ j, T.1 37 j = if i ≤ j ∧ j < 8 then 1000000 else S.1 37 j := by
  intro n
  induction n with
  | zero =>
    intro i hi S
    have e : i = 8 := by omega
    subst e
    exact ⟨S, rfl, Fr.rf, fun j => by rw [if_neg (by omega)]⟩
  | succ n ih =>
    intro i hi S
    obtain ⟨T, t1, t2, t3⟩ := ih (i + 1) (by omega) (uI S 37 i 1000000)
    refine ⟨T, ?_, (Fr.rf.put (by decide)).tr t2, fun j => ?_⟩
    · rw [lX1_spread_3, if_neg (show ¬ (8 : Int32) ≤ nI i from nI_ge (a := i) (b := 8) (by omega) (by decide)), if_in (show i < 8 by omega) (by omega), cN (by omega), add1]
      exact t1
    · rw [t3]
      by_cases e : j = i
      · rw [e, if_neg (by omega), if_pos ⟨Nat.le_refl _, by omega⟩, uI_eq]
      · rw [uI_ni _ e]
        by_cases h2 : i + 1 ≤ j ∧ j < 8
        · rw [if_pos h2, if_pos ⟨by omega, h2.2⟩]
        · rw [if_neg h2, if_neg (by omega)]
/-- what stands after a spread on the class's side -/
def EndC (S0 S' : MS) (nf np O f0 z : Nat) : Prop := ∃ V' dn', Fr hc S0 S' ∧ (∀ f, f < nf → encC S' f (V' f)) ∧ WV nf (hN (S0.1 55)) V' ∧ S'.1 35 4 = nI dn' ∧ dn' < 2 ^ nf ∧ (∀ f, f < nf → (dn'.testBit f = true ↔ ¬ V' f = none)) ∧ Fix nf np (frN (S0.1 55)) (toN (S0.1 55)) (trN (S0.1 55) O) f0 z (fun _ => True) V'
theorem spreadC (d : Nat) {S0 : MS} {nf np o O f0 z : Nat} (H : HB S0 nf np o) (hO : O < 2 ^ 9) (hf0 : f0 < nf) (hz : 1 ≤ z ∧ z ≤ 99) (S : MS) (hS : Fr hc S0 S) : ∃ S', mFn (d + 6) 9 [.ref 35, .int (nI f0), .int (nI z), .int (nI O)] S = some (none, S') ∧ EndC S0 S' nf np O f0 z := by
  have n1 := H.n1
  obtain ⟨T, t1, t2, t3⟩ := clearC (d + 5) (nI f0) (nI z) (nI O) 8 0 (by omega) S
  have hT : Fr hc S0 (uI T 35 4 0) := (hS.tr (t2.up (by decide))).put (by decide)
  have e37 : ∀ j, j < 8 → (uI T 35 4 0).1 37 j = 1000000 := fun j hj => by rw [uI_oth (by decide), t3, if_pos ⟨Nat.zero_le _, hj⟩]
  obtain ⟨U, a1, a2, a3, a4⟩ := arr_C (d + 4) (S := uI T 35 4 0) (f := f0) (w := 0) (x := z) (v := none) (by omega) (by decide) hz.2 (e37 f0 (by omega))
  have hU : Fr hc S0 U := hT.tr (a2.up (by decide))
  have b0 : btr none (some (0, z)) = some (0, z) := if_pos (show 0 * 128 + (127 - z) < 1000000000 by omega)
  rw [b0] at a4
  have v0 : V0 f0 z f0 = some (0, z) := if_pos rfl
  have vn : ∀ f, f ≠ f0 → V0 f0 z f = none := fun f hf => if_neg hf
  have wv : WV nf (hN (S0.1 55)) (V0 f0 z) := by
    intro f hf w x e
    by_cases ef : f = f0
    · rw [ef, v0] at e
      have e2 := Option.some.inj e
      have ew : 0 = w := congrArg Prod.fst e2
      have ex : z = x := congrArg Prod.snd e2
      have := (hN_r H.rf (f := f) (by omega)).2
      omega
    · rw [vn f ef] at e
      exact absurd e (by simp)
  obtain ⟨S', V', dn', k1, k2⟩ := sprC d (z := z) (f0 := f0) H hO 8 0 (by omega) U (V0 f0 z) 0 0 (nI f0) hU (fun f hf => by
    by_cases ef : f = f0
    · rw [ef, v0]; exact a4
    · rw [vn f ef]
      exact (a3 f ef).1.trans (e37 f (by omega))) wv (by rw [a2 35 (by decide), uI_eq]; rfl) (Nat.two_pow_pos nf) (by decide) (Fix_up Fix_0 (fun _ _ h => h.elim) (fun p _ h _ => absurd h (by simp)) (fun f hf => WV_key wv hf)) (fun f _ h => absurd h (by simp)) (fun f _ _ w x _ => Nat.zero_le _) (Or.inr ⟨f0, 0, z, rfl, hf0, hf0, by simp, v0, fun f _ _ w' x' _ => Nat.zero_le _⟩)
  refine ⟨S', ?_, V', dn', k2⟩
  rw [fX1_spread]
  refine t1.trans ?_
  rw [lX1_spread_3, if_pos (show (8 : Int32) ≤ nI 8 from Int32.le_refl _), show mFn (d + 5) 13 [.ref 35, .int (nI f0), .int 0, .int (nI z)] (uI T 35 4 0) = _ from a1, bV_some]
  exact k1
