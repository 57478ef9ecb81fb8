/-! ===== calls: text ===== -/
theorem Rel_text {S F : MS} {nf np nt nw o : Nat} (hR : Rel S) (hs : RCs S.1 1 55 nf np nt nw o) (hf : RCf S.1 1 55) (hp : RCp S.1 1 55 nf np o) (ht : RCt S.1 1 55) (f : Fr [1, 12, 13, 15, 16, 39, 40, 54, 55, 61, 62] S F) (f1 : ∀ j, j ≠ 14 → F.1 1 j = S.1 1 j) (f14 : F.1 1 14 = 0) (h2 : F.1 54 2 = S.1 54 2) (h20 : F.1 54 20 = S.1 54 20) (w5 : F.1 55 5 = 0) (lo : ∀ j, j ≠ 5 → j < 159 → F.1 55 j = S.1 55 j) (x0 : RT F.1 12 55 159) (x1 : RT F.1 15 55 280) : Rel F := by
  have hlt : nt ≤ 60 := hs.2.2.1
  have rc : RC F.1 1 55 nf np 0 nw o := by
    obtain ⟨b1, b2, b3, b4, b5, c0, w2, c5, w3, c14, w5', c17, w6, c9, c10, c11, c12, r4, r0⟩ := hs
    refine ⟨⟨b1, b2, by omega, b4, b5, ?_, ?_, ?_, ?_, f14, w5, ?_, ?_, ?_, ?_, ?_, ?_, ?_, ?_⟩, RCf_c (fun k h1 h2 => f k (by simp; omega)) (fun i h1 h2 => lo i (by omega) (by omega)) hf, RCp_c b1 (fun k h1 h2 => f k (by simp; omega)) (fun i h1 h2 => lo i (by omega) (by omega)) (fun g h1 => lo _ (by omega) (by omega)) hp, RCt_c (f 9 (by decide)) (f 10 (by decide)) (fun i h1 h2 => lo i (by omega) (by omega)) ht, x0, x1⟩
    · rw [f1 0 (by decide)]; exact c0
    · rw [lo 2 (by decide) (by decide)]; exact w2
    · rw [f1 5 (by decide)]; exact c5
    · rw [lo 3 (by decide) (by decide)]; exact w3
    · rw [f1 17 (by decide)]; exact c17
    · rw [lo 6 (by decide) (by decide)]; exact w6
    · rw [f1 9 (by decide)]; exact c9
    · rw [f1 10 (by decide), lo 4 (by decide) (by decide)]; exact c10
    · rw [f1 11 (by decide), lo 0 (by decide) (by decide)]; exact c11
    · rw [f1 12 (by decide), lo 1 (by decide) (by decide)]; exact c12
    · rw [lo 4 (by decide) (by decide)]; exact r4
    · rw [lo 0 (by decide) (by decide)]; exact r0
  have s0 : Rel ((fun k => if k ≤ 17 ∨ k = 55 then S.1 k else F.1 k), F.2) := by
    have f0 : Fr [39, 40, 54, 61, 62] S ((fun k => if k ≤ 17 ∨ k = 55 then S.1 k else F.1 k), F.2) := by
      intro k hk
      show (if k ≤ 17 ∨ k = 55 then S.1 k else F.1 k) = S.1 k
      by_cases e : k ≤ 17 ∨ k = 55
      · rw [if_pos e]
      · rw [if_neg e]
        exact f k (by intro q; apply hk; revert q; simp; omega)
    exact Rel_fr (f0.up (by decide)) h2 h20 (by rw [f0 42 (by decide)]) hR
  refine Rel_city s0 rc (fun k h1 h2 => ?_)
  show F.1 k = (if k ≤ 17 ∨ k = 55 then S.1 k else F.1 k)
  by_cases e : k ≤ 17 ∨ k = 55
  · rw [if_pos e]
    exact f k (by simp; omega)
  · rw [if_neg e]
theorem textM (d : Nat) {b N : Nat} (hb : b ≤ 280) (hN : N ≤ 60) : ∀ n i, i + n = N → ∀ S : MS, S.1 54 11 = nI N → ∃ T, mv (kX6_text (mFn d)) 117 [(0, .ref 54), (2, .int (nI b)), (3, .int (nI i))] [] S = some (some (.int 1), T) ∧ Fr [55] S T ∧ (∀ k, i ≤ k → k < N → T.1 55 (b + 1 + k) = S.1 61 k ∧ T.1 55 (b + 61 + k) = S.1 62 k) ∧ ∀ j, (∀ k, i ≤ k → k < N → j ≠ b + 1 + k ∧ j ≠ b + 61 + k) → T.1 55 j = S.1 55 j := by
  intro n
  induction n with
  | zero =>
    intro i hi S h11
    refine ⟨S, ?_, Fr.rf, fun k k1 k2 => by omega, fun _ _ => rfl⟩
    rw [lX6_text_117, h11, if_pos (nI_le (by omega) (by omega))]
  | succ n ih =>
    intro i hi S h11
    have i60 : i < 60 := by omega
    obtain ⟨T, t1, t2, t3, t4⟩ := ih (i + 1) (by omega) (uI (uI S 55 (b + 1 + i) (S.1 61 i)) 55 (b + 61 + i) (S.1 62 i)) h11
    refine ⟨T, ?_, ((Fr.rf.put (by decide)).put (by decide)).tr t2, fun k k1 k2 => ?_, fun j hj => ?_⟩
    · rw [lX6_text_117, h11, if_neg (nI_ge (by omega) (by omega)), show fAdd (fAdd (nI b) 1) (nI i) = nI (b + 1 + i) by rw [fa_1, fa_nn], show fAdd (fAdd (nI b) 61) (nI i) = nI (b + 61 + i) by rw [show fAdd (nI b) 61 = nI (b + 61) from fa_nn b 61, fa_nn], if_in i60 (by omega), if_in (show b + 1 + i < 401 by omega) (by omega), if_in i60 (by omega), if_in (show b + 61 + i < 401 by omega) (by omega), cN (show b + 1 + i ≤ 100000 by omega), cN (show b + 61 + i ≤ 100000 by omega), cN (show i ≤ 100000 by omega), add1]
      exact t1
    · by_cases e : k = i
      · subst e
        constructor
        · rw [t4 _ (fun k' h1 h2 => ⟨by omega, by omega⟩), uI_ni _ (by omega), uI_eq]
        · rw [t4 _ (fun k' h1 h2 => ⟨by omega, by omega⟩), uI_eq]
      · have q := t3 k (by omega) k2
        rw [uI_oth (by decide), uI_oth (by decide)] at q
        exact ⟨q.1, by rw [q.2, uI_oth (by decide), uI_oth (by decide)]⟩
    · rw [t4 j (fun k k1 k2 => hj k (by omega) k2), uI_ni _ (hj i (Nat.le_refl _) (by omega)).2, uI_ni _ (hj i (Nat.le_refl _) (by omega)).1]
theorem cp12_39 (d : Nat) (S : MS) (h : S.1 39 0 = 1) : mFn (d + 1) 22 [.ref 12, .ref 39] S = some (none, uC (uI (uI S 12 0 1) 12 1 (S.1 39 1)) 40 13 0 0 60) := by
  rw [fX4_copyFrom_12_39, if_pos (Or.inr h), if_neg (by decide), cl0, l60, h]
theorem cp15_39 (d : Nat) (S : MS) (h : S.1 39 0 = 1) : mFn (d + 1) 22 [.ref 15, .ref 39] S = some (none, uC (uI (uI S 15 0 1) 15 1 (S.1 39 1)) 40 16 0 0 60) := by
  rw [fX4_copyFrom_15_39, if_pos (Or.inr h), if_neg (by decide), cl0, l60, h]
/-- the text in the class: where it is kept, by the use -/
def UT (u q t b : Nat) : Prop := (u = 0 ∧ q = 1003 ∧ t = 12 ∧ b = 159) ∨ (u = 1 ∧ q = 1004 ∧ t = 15 ∧ b = 280)
theorem text_C (x : Nat) {u q t b nt : Nat} {S : MS} (hu : UT u q t b) (c14 : S.1 1 14 = nI nt) : mFn (x + 55) 46 [.ref 0, .int (nI u)] S = bI (bV (mFn (x + 53) 26 [.ref 39, .int 0, .int 0] (uI (uI (uI (uR (uI (uR S 39 4 (some 9)) 39 5 (nI nt)) 39 8 (some q)) 39 6 0) 39 1 0) 39 7 0)) (fun S1 =>
    if (S1.1 39 5) ≤ (S1.1 39 6) then
      if (S1.1 39 7) = 0 then
        if (S1.1 39 7) = 0 then
          some (some (.int (-1)), (uI S1 39 0 1))
        else
          some (some (.int (S1.1 39 6)), (uI S1 39 0 1))
      else
        if (S1.1 39 7) = 0 then
          some (some (.int (-1)), (uI S1 39 0 0))
        else
          some (some (.int (S1.1 39 6)), (uI S1 39 0 0))
    else
      some (some (.int (S1.1 39 6)), (uI (uI S1 39 7 1) 39 0 0)))) (fun y3 S3 => if y3 < 0 then bV (mFn (x + 54) 22 [.ref t, .ref 39] (uI S3 1 14 0)) (fun S5 => some (some (.int 1), S5)) else some (some (.int (fSub (-10) y3)), uI S3 1 14 0)) := by
  rcases hu with ⟨rfl, rfl, rfl, rfl⟩ | ⟨rfl, rfl, rfl, rfl⟩
  · rw [show ([.ref 0, .int (nI 0)] : List Value) = [.ref 0, .int 0] from rfl, fX5_text, pC_isBit, bI_some, if_b2, if_pos ⟨by decide, by decide⟩, if_pos rfl, c14, fX4_read_0]
    simp only [cl0, rv11_0, kO12, Bool.and_true, cond_true, show ¬ ((0 : Int32) < 0 ∨ 2 ≤ (0 : Nat)) from by decide, if_false]
  · rw [show ([.ref 0, .int (nI 1)] : List Value) = [.ref 0, .int 1] from rfl, fX5_text, pC_isBit, bI_some, if_b2, if_pos ⟨by decide, by decide⟩, if_neg (by decide), c14, fX4_read_1]
    simp only [cl1, rv11_1, kO15, Bool.and_true, cond_true, show ¬ ((1 : Int32) < 0 ∨ 2 ≤ (1 : Nat)) from by decide, if_false]
