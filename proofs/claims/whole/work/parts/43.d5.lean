/-! ===== calls: let ===== -/
def upT (v : Int32) : Option (Nat × Nat) → Int32
  | none => v
  | some a => if fAdd v (nI a.2) < 99999 then fAdd v (nI a.2) else 99999
theorem letC (d : Nat) {nf dn : Nat} {V : HV} (n1 : nf ≤ 8) : ∀ n i, i + n = nf → ∀ S : MS, S.1 1 0 = nI nf → S.1 35 4 = nI dn → (∀ f, f < nf → encC S f (V f)) → ∃ T, mv (kX5_letOut (mFn (d + 1))) 25 [(0, .ref 0), (3, .int (nI i))] [] S = some (some (.int (nI dn)), T) ∧ Fr [5] S T ∧ ∀ j, T.1 5 j = if i ≤ j ∧ j < nf then upT (S.1 5 j) (V j) else S.1 5 j := by
  intro n
  induction n with
  | zero =>
    intro i hi S c0 h35 he
    refine ⟨S, ?_, Fr.rf, fun j => by rw [if_neg (by omega)]⟩
    rw [lX5_letOut_25, c0, if_pos (nI_le (by omega) (by omega)), h35]
  | succ n ih =>
    intro i hi S c0 h35 he
    have hi8 : i < 8 := by omega
    have hei := he i (by omega)
    rw [lX5_letOut_25, c0, if_neg (nI_ge (by omega) (by omega)), heardC d hi8 hei, bI_some]
    cases hv : V i with
    | none =>
      obtain ⟨T, t1, t2, t3⟩ := ih (i + 1) (by omega) S c0 h35 he
      rw [if_pos rfl, if_pos rfl, add1]
      refine ⟨T, t1, t2, fun j => ?_⟩
      rw [t3]
      by_cases e : j = i
      · rw [e, if_neg (by omega), if_pos ⟨Nat.le_refl _, by omega⟩, hv]
        rfl
      · by_cases h2 : i + 1 ≤ j ∧ j < nf
        · rw [if_pos h2, if_pos ⟨by omega, h2.2⟩]
        · rw [if_neg h2, if_neg (by omega)]
    | some a =>
      rw [hv] at hei
      obtain ⟨T, t1, t2, t3⟩ := ih (i + 1) (by omega) (uI S 5 i (upT (S.1 5 i) (some a))) c0 h35 (fun f hf => encC_c rfl rfl (he f hf))
      rw [show (if (some a) = none then (0 : Int32) else 1) = 1 from if_neg (by simp), if_neg (show ¬ (1 : Int32) = 0 by decide), if_in hi8 (by omega), if_in hi8 (by omega), if_in hi8 (by omega), cN (by omega), hei.2.1, add1]
      refine ⟨T, t1, (Fr.rf.put (by decide)).tr t2, fun j => ?_⟩
      rw [t3]
      by_cases e : j = i
      · rw [e, if_neg (by omega), if_pos ⟨Nat.le_refl _, by omega⟩, hv, uI_eq]
      · rw [uI_ni _ e]
        by_cases h2 : i + 1 ≤ j ∧ j < nf
        · rw [if_pos h2, if_pos ⟨by omega, h2.2⟩]
        · rw [if_neg h2, if_neg (by omega)]
theorem held_up (d : Nat) {S : MS} {f : Nat} {v : Int32} {w : Option (Nat × Nat)} (hv : 0 ≤ v ∧ v ≤ 99999) (he : encM S f w) (T : MS) : mFn (d + 1) 88 [.int (fAdd v (S.1 66 f)), .int 0, .int 99999] T = some (some (.int (upT v w)), T) ∧ 0 ≤ upT v w ∧ upT v w ≤ 99999 := by
  obtain ⟨a, ha, rfl⟩ := r99 hv
  cases w with
  | none =>
    rw [he.2, show fAdd (nI a) 0 = nI a from fa_nn a 0, fX6_held, if_pos hv.1, if_pos hv.2]
    exact ⟨rfl, hv⟩
  | some b =>
    have hb := he.2.2.2
    rw [he.2.1, fa_nn, fX6_held, if_pos (nI_pos' (by omega))]
    have u : upT (nI a) (some b) = if nI (a + b.2) < 99999 then nI (a + b.2) else 99999 := by
      show (if fAdd (nI a) (nI b.2) < 99999 then fAdd (nI a) (nI b.2) else 99999) = _
      rw [fa_nn]
    rw [u]
    by_cases c : a + b.2 < 99999
    · rw [if_pos (show nI (a + b.2) ≤ 99999 from nI_le (a := a + b.2) (b := 99999) (by omega) (by decide)), if_pos (show nI (a + b.2) < 99999 from nI_lt (a := a + b.2) (b := 99999) c (by decide))]
      exact ⟨rfl, nI_pos' (by omega), nI_le (a := a + b.2) (b := 99999) (by omega) (by decide)⟩
    · rw [if_neg (show ¬ nI (a + b.2) < 99999 from nI_nlt (a := a + b.2) (b := 99999) (by omega) (by omega))]
      refine ⟨?_, by decide, Int32.le_refl _⟩
      by_cases e : a + b.2 = 99999
      · rw [e, if_pos (show nI 99999 ≤ 99999 from Int32.le_refl _)]
        rfl
      · rw [if_neg (show ¬ nI (a + b.2) ≤ 99999 from nI_ge (a := 99999) (b := a + b.2) (by omega) (by omega))]
theorem letM (d : Nat) {nf dn : Nat} {V : HV} (n1 : nf ≤ 8) (hd : dn < 2 ^ nf) (hb : ∀ f, f < nf → (dn.testBit f = true ↔ ¬ V f = none)) : ∀ n i, i + n = nf → ∀ S : MS, S.1 55 2 = nI nf → (∀ f, f < nf → encM S f (V f)) → (∀ f, f < nf → 0 ≤ S.1 55 (10 + 4 * f) ∧ S.1 55 (10 + 4 * f) ≤ 99999) → ∃ T, mv (kX6_lets (mFn (d + 2))) 8 [(0, .ref 54), (3, .int (nI i))] [] S = some (some (.int (nI dn)), T) ∧ Fr [55] S T ∧ (∀ f, i ≤ f → f < nf → T.1 55 (10 + 4 * f) = upT (S.1 55 (10 + 4 * f)) (V f) ∧ 0 ≤ upT (S.1 55 (10 + 4 * f)) (V f) ∧ upT (S.1 55 (10 + 4 * f)) (V f) ≤ 99999) ∧ ∀ j, (∀ f, i ≤ f → f < nf → j ≠ 10 + 4 * f) → T.1 55 j = S.1 55 j := by
  intro n
  induction n with
  | zero =>
    intro i hi S w2 he hr
    have hm := hearsM (d + 1) (S := S) n1 w2 he hd hb nf 0 (by omega)
    rw [Nat.pow_zero, Nat.mod_one] at hm
    refine ⟨S, ?_, Fr.rf, fun f h1 h2 => by omega, fun _ _ => rfl⟩
    rw [lX6_lets_8, il2, cl2, w2, if_pos (nI_le (by omega) (by omega)), show mFn (d + 2) 134 [.ref 54] S = _ from (fX6_hearers (d + 1) S).trans hm, bI_some]
  | succ n ih =>
    intro i hi S w2 he hr
    have hi8 : i < 8 := by omega
    obtain ⟨h1, h2, h3⟩ := held_up (d + 1) (hr i (by omega)) (he i (by omega)) S
    obtain ⟨T, t1, t2, t3, t4⟩ := ih (i + 1) (by omega) (uI S 55 (10 + 4 * i) (upT (S.1 55 (10 + 4 * i)) (V i))) (by rw [uI_ni _ (by omega)]; exact w2) (fun f hf => encM_c rfl rfl (he f hf)) (fun f hf => by
      by_cases e : f = i
      · rw [e, uI_eq]; exact ⟨h2, h3⟩
      · rw [uI_ni _ (by omega)]; exact hr f hf)
    refine ⟨T, ?_, (Fr.rf.put (by decide)).tr t2, fun f k1 k2 => ?_, fun j hj => ?_⟩
    · rw [lX6_lets_8, il2, cl2, w2, if_neg (nI_ge (by omega) (by omega)), ri, fa_3, show 7 + 4 * i + 3 = 10 + 4 * i by omega, if_in (show 10 + 4 * i < 401 by omega) (by omega), if_in hi8 (by omega), cN (show 10 + 4 * i ≤ 100000 by omega), cN (show i ≤ 100000 by omega), h1, bI_some, if_in2 (show 10 + 4 * i < 401 by omega) (by omega), add1]
      exact t1
    · by_cases e : f = i
      · rw [e, t4 _ (fun g h5 h6 => by omega), uI_eq]
        exact ⟨rfl, h2, h3⟩
      · have q := t3 f (by omega) k2
        rw [uI_ni _ (show 10 + 4 * f ≠ 10 + 4 * i by omega)] at q
        exact q
    · rw [t4 j (fun f h5 h6 => hj f (by omega) h6), uI_ni _ (hj i (Nat.le_refl _) (by omega))]
