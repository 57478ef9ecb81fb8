/-! ===== calls: fits ===== -/
/-- what a sheet should say of one that hears so -/
def szv : Option (Nat × Nat) → Int32
  | none => 0
  | some a => nI a.2
def isB (w : Nat → Int32) (V : HV) : Nat → Nat → Bool
  | 0, _ => true
  | n + 1, i => decide (w i = szv (V i)) && isB w V n (i + 1)
def mtc (w : Nat → Int32) (n nf : Nat) (V : HV) : Bool := decide (n ≤ nf) && isB w V n 0
theorem isB_C (d : Nat) {s n nf : Nat} (hs : s < 4) (hn : n ≤ nf) (hnf : nf ≤ 8) {S : MS} {V : HV} {w : Nat → Int32} (h1 : S.1 (45 + 2 * s) 1 = nI n) (hw : ∀ i, i < 24 → S.1 (46 + 2 * s) i = w i) (he : ∀ f, f < nf → encC S f (V f)) : ∀ m i, i + m = n → mv (kX5_isHeardAsIn (mFn (d + 1))) 18 [(0, .ref 0), (1, .ref (45 + 2 * s)), (2, .int (nI i))] [] S = some (some (.int (if isB w V m i = true then 1 else 0)), S) := by
  intro m
  induction m with
  | zero =>
    intro i hi
    have e : i = n := by omega
    subst e
    rcases four hs with rfl | rfl | rfl | rfl
    · rw [lX5_isHeardAsIn_0_18, show S.1 45 1 = _ from h1, if_pos (Int32.le_refl _)]; rfl
    · rw [lX5_isHeardAsIn_1_18, show S.1 47 1 = _ from h1, if_pos (Int32.le_refl _)]; rfl
    · rw [lX5_isHeardAsIn_2_18, show S.1 49 1 = _ from h1, if_pos (Int32.le_refl _)]; rfl
    · rw [lX5_isHeardAsIn_3_18, show S.1 51 1 = _ from h1, if_pos (Int32.le_refl _)]; rfl
  | succ m ih =>
    intro i hi
    have i8 : i < 8 := by omega
    have hwi := hw i (by omega)
    have hei := he i (by omega)
    have e1 : encC S i (V i) → V i = none ∨ ∃ a, V i = some a := fun _ => by
      cases V i with
      | none => exact Or.inl rfl
      | some a => exact Or.inr ⟨a, rfl⟩
    have row : mv (kX5_isHeardAsIn (mFn (d + 1))) 18 [(0, .ref 0), (1, .ref (45 + 2 * s)), (2, .int (nI i))] [] S = if w i = szv (V i) then mv (kX5_isHeardAsIn (mFn (d + 1))) 18 [(0, .ref 0), (1, .ref (45 + 2 * s)), (2, .int (nI (i + 1)))] [] S else some (some (.int 0), S) := by
      rcases four hs with rfl | rfl | rfl | rfl
      · rw [lX5_isHeardAsIn_0_18, show S.1 45 1 = _ from h1, if_neg (nI_ge (by omega) (by omega)), heardC d i8 hei, bI_some, if_in (show i < 24 by omega) (by omega), if_in i8 (by omega), if_in (show i < 24 by omega) (by omega), cN (by omega), show S.1 46 i = w i from hwi, add1]
        rcases e1 hei with e | ⟨a, e⟩
        · rw [e, if_pos rfl, if_pos rfl]; rfl
        · rw [e] at hei
          rw [e, show (if (some a) = none then (0 : Int32) else 1) = 1 from if_neg (by simp), if_neg (show ¬ (1 : Int32) = 0 by decide), hei.2.1]; rfl
      · rw [lX5_isHeardAsIn_1_18, show S.1 47 1 = _ from h1, if_neg (nI_ge (by omega) (by omega)), heardC d i8 hei, bI_some, if_in (show i < 24 by omega) (by omega), if_in i8 (by omega), if_in (show i < 24 by omega) (by omega), cN (by omega), show S.1 48 i = w i from hwi, add1]
        rcases e1 hei with e | ⟨a, e⟩
        · rw [e, if_pos rfl, if_pos rfl]; rfl
        · rw [e] at hei
          rw [e, show (if (some a) = none then (0 : Int32) else 1) = 1 from if_neg (by simp), if_neg (show ¬ (1 : Int32) = 0 by decide), hei.2.1]; rfl
      · rw [lX5_isHeardAsIn_2_18, show S.1 49 1 = _ from h1, if_neg (nI_ge (by omega) (by omega)), heardC d i8 hei, bI_some, if_in (show i < 24 by omega) (by omega), if_in i8 (by omega), if_in (show i < 24 by omega) (by omega), cN (by omega), show S.1 50 i = w i from hwi, add1]
        rcases e1 hei with e | ⟨a, e⟩
        · rw [e, if_pos rfl, if_pos rfl]; rfl
        · rw [e] at hei
          rw [e, show (if (some a) = none then (0 : Int32) else 1) = 1 from if_neg (by simp), if_neg (show ¬ (1 : Int32) = 0 by decide), hei.2.1]; rfl
      · rw [lX5_isHeardAsIn_3_18, show S.1 51 1 = _ from h1, if_neg (nI_ge (by omega) (by omega)), heardC d i8 hei, bI_some, if_in (show i < 24 by omega) (by omega), if_in i8 (by omega), if_in (show i < 24 by omega) (by omega), cN (by omega), show S.1 52 i = w i from hwi, add1]
        rcases e1 hei with e | ⟨a, e⟩
        · rw [e, if_pos rfl, if_pos rfl]; rfl
        · rw [e] at hei
          rw [e, show (if (some a) = none then (0 : Int32) else 1) = 1 from if_neg (by simp), if_neg (show ¬ (1 : Int32) = 0 by decide), hei.2.1]; rfl
    rw [row, isB]
    by_cases c : w i = szv (V i)
    · rw [if_pos c, ih (i + 1) (by omega), decide_eq_true c, Bool.true_and]
    · rw [if_neg c, decide_eq_false c, Bool.false_and]
      rfl
theorem mtc_C (d : Nat) {s n nf : Nat} (hs : s < 4) (hn : n ≤ 24) (hnf : nf ≤ 8) {S : MS} {V : HV} {w : Nat → Int32} (c0 : S.1 1 0 = nI nf) (h1 : S.1 (45 + 2 * s) 1 = nI n) (hw : ∀ i, i < 24 → S.1 (46 + 2 * s) i = w i) (he : ∀ f, f < nf → encC S f (V f)) : mFn (d + 2) 85 [.ref 0, .ref (45 + 2 * s)] S = some (some (.int (if mtc w n nf V = true then 1 else 0)), S) := by
  have row : mFn (d + 2) 85 [.ref 0, .ref (45 + 2 * s)] S = if nI n ≤ nI nf then mv (kX5_isHeardAsIn (mFn (d + 1))) 18 [(0, .ref 0), (1, .ref (45 + 2 * s)), (2, .int (nI 0))] [] S else some (some (.int 0), S) := by
    rcases four hs with rfl | rfl | rfl | rfl
    · rw [fX5_isHeardAsIn_0, show S.1 45 1 = _ from h1, c0]; rfl
    · rw [fX5_isHeardAsIn_1, show S.1 47 1 = _ from h1, c0]; rfl
    · rw [fX5_isHeardAsIn_2, show S.1 49 1 = _ from h1, c0]; rfl
    · rw [fX5_isHeardAsIn_3, show S.1 51 1 = _ from h1, c0]; rfl
  rw [row]
  unfold mtc
  by_cases c : n ≤ nf
  · rw [if_pos (nI_le c (by omega)), isB_C d hs c hnf h1 hw he n 0 (by omega), decide_eq_true c, Bool.true_and]
  · rw [if_neg (nI_ge (by omega) (by omega)), decide_eq_false c, Bool.false_and]
    rfl
theorem szv_M {S : MS} {f : Nat} {v : Option (Nat × Nat)} (h : encM S f v) : S.1 66 f = szv v := by
  cases v with
  | none => exact h.2
  | some a => exact h.2.1
theorem isB_M (d : Nat) {s n nf : Nat} (hs : s < 4) (hn : n ≤ nf) (hnf : nf ≤ 8) {S : MS} {V : HV} {w : Nat → Int32} (h1 : S.1 59 s = nI n) (hw : ∀ i, i < 24 → S.1 60 (24 * s + i) = w i) (he : ∀ f, f < nf → encM S f (V f)) : ∀ m i, i + m = n → mv (kX6_isSo (mFn d)) 23 [(0, .ref 54), (1, .int (nI s)), (2, .int 1), (3, .int (nI i))] [] S = some (some (.int (if isB w V m i = true then 1 else 0)), S) := by
  have z1 : ((1 : Int32) = 0 ∨ (1 : Int32) = 1) := Or.inr rfl
  have z0 : ((0 : Int32) = 0 ∨ (0 : Int32) = 1) := Or.inl rfl
  intro m
  induction m with
  | zero =>
    intro i hi
    have e : i = n := by omega
    subst e
    rw [lX6_isSo_23, if_in hs (by omega), cN (show s ≤ 100000 by omega), h1, if_pos (Int32.le_refl _), if_pos z1]
    rfl
  | succ m ih =>
    intro i hi
    have i8 : i < 8 := by omega
    have hwi := hw i (by omega)
    rw [lX6_isSo_23, if_in hs (by omega), cN (show s ≤ 100000 by omega), h1, if_neg (nI_ge (by omega) (by omega)), if_neg (show ¬ (1 : Int32) = 0 by decide), i24, if_in (show 24 * s + i < 96 by omega) (by omega), if_in i8 (by omega), cN (show 24 * s + i ≤ 100000 by omega), cN (show i ≤ 100000 by omega), hwi, szv_M (he i (by omega)), add1, isB]
    by_cases c : w i = szv (V i)
    · rw [if_pos c, ih (i + 1) (by omega), decide_eq_true c, Bool.true_and]
    · rw [if_neg c, decide_eq_false c, Bool.false_and, lX6_isSo_23, if_in hs (by omega), cN (show s ≤ 100000 by omega), if_pos rfl, if_pos z0, ite_self]
      rfl
theorem mtc_M (d : Nat) {s n nf : Nat} (hs : s < 4) (hn : n ≤ 24) (hnf : nf ≤ 8) {S : MS} {V : HV} {w : Nat → Int32} (w2 : S.1 55 2 = nI nf) (h1 : S.1 59 s = nI n) (hw : ∀ i, i < 24 → S.1 60 (24 * s + i) = w i) (he : ∀ f, f < nf → encM S f (V f)) : mFn (d + 1) 147 [.ref 54, .int (nI s)] S = some (some (.int (if mtc w n nf V = true then 1 else 0)), S) := by
  have z0 : ((0 : Int32) = 0 ∨ (0 : Int32) = 1) := Or.inl rfl
  rw [fX6_isSo, if_in hs (by omega), il2, cl2, cN (show s ≤ 100000 by omega), w2, h1]
  unfold mtc
  by_cases c : n ≤ nf
  · rw [if_neg (nI_nlt (by omega) (by omega)), show (0 : Int32) = nI 0 from rfl, isB_M d hs c hnf h1 hw he n 0 (by omega), decide_eq_true c, Bool.true_and]
    rfl
  · rw [if_pos (nI_lt (by omega) (by omega)), decide_eq_false c, Bool.false_and, lX6_isSo_23, if_in hs (by omega), cN (show s ≤ 100000 by omega), if_pos (show (0 : Int32) = 0 from rfl), if_pos z0, ite_self]
    rfl
/-- up and down over all sayings -/
def upS' (P : Nat → Bool) : Nat → Nat → Nat × Option Nat → Nat × Option Nat
  | 0, _, s => s
  | n + 1, i, s => upS' P n (i + 1) (if P i then (s.1 + 1, some (s.2.getD i)) else s)
def dnS (P : Nat → Bool) : Nat → Nat × Option Nat → Nat × Option Nat
  | 0, s => s
  | n + 1, s => dnS P n (if P n then (s.1 + 1, some n) else s)
theorem up_snoc {P : Nat → Bool} : ∀ n i s, upS' P (n + 1) i s = if P (i + n) then ((upS' P n i s).1 + 1, some ((upS' P n i s).2.getD (i + n))) else upS' P n i s := by
  intro n
  induction n with
  | zero => intro i s; rfl
  | succ n ih =>
    intro i s
    rw [upS', ih, show i + 1 + n = i + (n + 1) by omega]
    rfl
theorem dn_up {P : Nat → Bool} : ∀ n c l, dnS P n (c, l) = ((upS' P n 0 (0, none)).1 + c, (upS' P n 0 (0, none)).2.or l) := by
  intro n
  induction n with
  | zero =>
    intro c l
    show (c, l) = (0 + c, l)
    rw [Nat.zero_add]
  | succ n ih =>
    intro c l
    rw [dnS, up_snoc, Nat.zero_add]
    cases hP : P n with
    | true =>
      rw [if_pos rfl, if_pos rfl, ih]
      refine Prod.ext ?_ ?_
      · show _ + (c + 1) = _ + 1 + c
        omega
      · show ((upS' P n 0 (0, none)).2.or (some n)) = (some ((upS' P n 0 (0, none)).2.getD n)).or l
        cases (upS' P n 0 (0, none)).2 <;> rfl
    | false =>
      rw [if_neg (by decide), if_neg (by decide), ih]
theorem ud {P : Nat → Bool} (n : Nat) : dnS P n (0, none) = upS' P n 0 (0, none) := by
  rw [dn_up]
  refine Prod.ext ?_ ?_
  · rfl
  · show (upS' P n 0 (0, none)).2.or none = _
    cases (upS' P n 0 (0, none)).2 <;> rfl
/-- the number of a saying, and how it is told -/
def lsv : Option Nat → Int32
  | none => -1
  | some k => nI (100 * (k / 20) + (k % 20 + 1))
noncomputable def fP (ρ : Nat → Int32) (w : Nat → Int32) (n nf np o : Nat) : Nat → Bool := fun k => mtc w n nf (sol ρ nf np (k / 20) (k % 20 + 1) o)
theorem fitsC (d : Nat) {S0 : MS} {nf np o s n : Nat} {w : Nat → Int32} (H : HB S0 nf np o) (c9 : S0.1 1 9 = nI o) (ho : o < 512) (hs : s < 4) (hn : n ≤ 24) (h1 : S0.1 (45 + 2 * s) 1 = nI n) (hw : ∀ i, i < 24 → S0.1 (46 + 2 * s) i = w i) (v : Int32) : ∀ m f z, 20 * f + z + m = 20 * nf → z < 20 → ∀ (S : MS) (q : Nat × Option Nat), Fr hc S0 S → (∀ k, q.2 = some k → k < 160) → 1 ≤ m → ∃ S', mv (kX5_fits (mFn (d + 6))) 68 [(0, .ref 0), (1, .int (nI s)), (2, .int v), (3, .int (nI q.1)), (4, .int (lsv q.2)), (5, .int (nI f)), (6, .int (nI (z + 1)))] [] S = mv (kX5_fits (mFn (d + 6))) 53 [(0, .ref 0), (1, .int (nI s)), (2, .int v), (3, .int (nI (upS' (fP (S0.1 55) w n nf np o) m (20 * f + z) q).1)), (4, .int (lsv (upS' (fP (S0.1 55) w n nf np o) m (20 * f + z) q).2)), (5, .int (nI nf))] [] S' ∧ Fr hc S0 S' := by
  have n1 := H.n1
  have ns : ∀ k, k ∈ hc → k ≠ 45 + 2 * s ∧ k ≠ 46 + 2 * s := by
    intro k hk
    have : k = 14 ∨ k = 17 ∨ k = 35 ∨ k = 37 ∨ k = 38 := by simpa [hc] using hk
    omega
  intro m
  induction m with
  | zero => intro f z _ _ S q _ _ h; omega
  | succ m ih =>
    intro f z hm hz S q hS hq _
    have hf : f < nf := by omega
    obtain ⟨S1, a1, a2, a3, _⟩ := spC d (f0 := f) (z := z + 1) (O := o) H ho hf ⟨by omega, by omega⟩ S hS
    have e45 : S1.1 (45 + 2 * s) = S0.1 (45 + 2 * s) := a2 _ (fun q => (ns _ q).1 rfl)
    have e46 : S1.1 (46 + 2 * s) = S0.1 (46 + 2 * s) := a2 _ (fun q => (ns _ q).2 rfl)
    have mt := mtc_C (d + 4) (V := sol (S0.1 55) nf np f (z + 1) o) (w := w) hs hn n1 (S := S1) (by rw [a2 1 (by decide)]; exact H.c0) (by rw [e45]; exact h1) (fun i hi => by rw [e46]; exact hw i hi) a3
    have eP : fP (S0.1 55) w n nf np o (20 * f + z) = mtc w n nf (sol (S0.1 55) nf np f (z + 1) o) := by
      unfold fP
      rw [show (20 * f + z) / 20 = f by omega, show (20 * f + z) % 20 = z by omega]
    -- on to the next
    have nx : ∀ (T : MS) (q' : Nat × Option Nat), Fr hc S0 T → (∀ k, q'.2 = some k → k < 160) → ∃ S', mv (kX5_fits (mFn (d + 6))) 68 [(0, .ref 0), (1, .int (nI s)), (2, .int v), (3, .int (nI q'.1)), (4, .int (lsv q'.2)), (5, .int (nI f)), (6, .int (nI (z + 1 + 1)))] [] T = mv (kX5_fits (mFn (d + 6))) 53 [(0, .ref 0), (1, .int (nI s)), (2, .int v), (3, .int (nI (upS' (fP (S0.1 55) w n nf np o) m (20 * f + z + 1) q').1)), (4, .int (lsv (upS' (fP (S0.1 55) w n nf np o) m (20 * f + z + 1) q').2)), (5, .int (nI nf))] [] S' ∧ Fr hc S0 S' := by
      intro T q' hT hq'
      by_cases hz1 : z + 1 < 20
      · exact ih f (z + 1) (by omega) hz1 T q' hT hq' (by omega)
      · have ez : z = 19 := by omega
        subst ez
        rw [lX5_fits_68, if_pos (show (20 : Int32) < nI (19 + 1 + 1) by decide), add1]
        by_cases hm0 : m = 0
        · subst hm0
          refine ⟨T, ?_, hT⟩
          rw [show f + 1 = nf by omega]
          rfl
        · rw [lX5_fits_53, hT 1 (by decide), H.c0, if_neg (nI_ge (by omega) (by omega)), show (20 * f + 19 + 1) = 20 * (f + 1) + 0 by omega]
          exact ih (f + 1) 0 (by omega) (by omega) T q' hT hq' (by omega)
    have row := lX5_fits_68 (d + 6) (nI s) v (nI q.1) (lsv q.2) (nI f) (nI (z + 1)) S
    rw [if_neg (show ¬ (20 : Int32) < nI (z + 1) from nI_nlt (a := 20) (b := z + 1) (by omega) (by decide)), hS 1 (by decide), c9, a1, bV_some, if_in hs (by omega), cN (show s ≤ 100000 by omega), rv44 hs] at row
    dsimp only at row
    rw [show mFn (d + 6) 85 [.ref 0, .ref (45 + 2 * s)] S1 = _ from mt, bI_some, add1, add1, show fAdd (fMul 100 (nI f)) (nI (z + 1)) = nI (100 * f + (z + 1)) by rw [show (100 : Int32) = nI 100 from rfl, fm_nn, fa_nn]] at row
    rw [row, upS', eP]
    by_cases hM : mtc w n nf (sol (S0.1 55) nf np f (z + 1) o) = true
    · rw [hM, if_pos rfl, if_pos rfl, if_neg (show ¬ (1 : Int32) = 0 by decide)]
      cases hq2 : q.2 with
      | none =>
        rw [if_neg (show ¬ 0 ≤ lsv none by decide)]
        have e := nx S1 (q.1 + 1, some (20 * f + z)) a2 (fun k hk => by have := Option.some.inj hk; omega)
        rw [show lsv ((q.1 + 1, some (20 * f + z)) : Nat × Option Nat).2 = nI (100 * f + (z + 1)) by
          show nI (100 * ((20 * f + z) / 20) + ((20 * f + z) % 20 + 1)) = _
          rw [show (20 * f + z) / 20 = f by omega, show (20 * f + z) % 20 = z by omega]] at e
        exact e
      | some k =>
        have hk := hq k hq2
        rw [if_pos (show 0 ≤ lsv (some k) from nI_pos' (by omega))]
        exact nx S1 (q.1 + 1, some k) a2 (fun k' hk' => by have := Option.some.inj hk'; omega)
    · rw [if_neg hM, if_pos rfl, if_neg hM]
      exact nx S1 q a2 hq
theorem fitsM (d : Nat) {ρ : Nat → Int32} {nf np o s n : Nat} {w : Nat → Int32} (H : MRw ρ nf np o) (hs : s < 4) (hn : n ≤ 24) (v : Int32) : ∀ k, k < 20 * nf → ∀ (S : MS) (q : Nat × Option Nat), S.1 55 = ρ → S.1 59 s = nI n → (∀ i, i < 24 → S.1 60 (24 * s + i) = w i) → ∃ S', mv (kX6_fits (mFn (d + 7))) 63 [(0, .ref 54), (1, .int (nI s)), (2, .int v), (3, .int (nI q.1)), (4, .int (lsv q.2)), (5, .int (nI (k / 20))), (6, .int (nI (k % 20 + 1)))] [] S = mv (kX6_fits (mFn (d + 7))) 54 [(0, .ref 54), (1, .int (nI s)), (2, .int v), (3, .int (nI (dnS (fP ρ w n nf np o) (k + 1) q).1)), (4, .int (lsv (dnS (fP ρ w n nf np o) (k + 1) q).2)), (5, .int (-1))] [] S' ∧ Fr [63, 64, 65, 66, 67] S S' := by
  have n1 := H.1
  have w2 := H.2.2.2.2.1
  -- one saying
  have one : ∀ k, k < 20 * nf → ∀ (S : MS) (q : Nat × Option Nat), S.1 55 = ρ → S.1 59 s = nI n → (∀ i, i < 24 → S.1 60 (24 * s + i) = w i) → ∃ S1, mv (kX6_fits (mFn (d + 7))) 63 [(0, .ref 54), (1, .int (nI s)), (2, .int v), (3, .int (nI q.1)), (4, .int (lsv q.2)), (5, .int (nI (k / 20))), (6, .int (nI (k % 20 + 1)))] [] S = mv (kX6_fits (mFn (d + 7))) 63 [(0, .ref 54), (1, .int (nI s)), (2, .int v), (3, .int (nI (if fP ρ w n nf np o k then (q.1 + 1, some k) else q).1)), (4, .int (lsv (if fP ρ w n nf np o k then (q.1 + 1, some k) else q).2)), (5, .int (nI (k / 20))), (6, .int (nI (k % 20)))] [] S1 ∧ Fr [63, 64, 65, 66, 67] S S1 := by
    intro k hk S q h55 h59 h60
    obtain ⟨S1, a1, a2, a3⟩ := nowSp d (S := S) (f0 := k / 20) (z := k % 20 + 1) (by rw [h55]; exact H) (by omega) ⟨by omega, by omega⟩
    rw [h55] at a3
    have mt := mtc_M (d + 6) (V := sol ρ nf np (k / 20) (k % 20 + 1) o) (w := w) hs hn n1 (S := S1) (by rw [a2 55 (by decide), h55]; exact w2) (by rw [a2 59 (by decide)]; exact h59) (fun i hi => by rw [a2 60 (by decide)]; exact h60 i hi) a3
    refine ⟨S1, ?_, a2⟩
    have row := lX6_fits_63 (d + 7) (nI s) v (nI q.1) (lsv q.2) (nI (k / 20)) (nI (k % 20 + 1)) S
    rw [if_neg (show ¬ nI (k % 20 + 1) < 1 from nI_nlt (a := k % 20 + 1) (b := 1) (by omega) (by omega)), a1, bV_some, show mFn (d + 7) 147 [.ref 54, .int (nI s)] S1 = _ from mt, bI_some, m1 (by omega) (by omega), Nat.add_sub_cancel, fa_0, Nat.add_zero, fa_1, show fAdd (fMul 100 (nI (k / 20))) (nI (k % 20 + 1)) = nI (100 * (k / 20) + (k % 20 + 1)) by rw [show (100 : Int32) = nI 100 from rfl, fm_nn, fa_nn]] at row
    rw [row]
    have eP : fP ρ w n nf np o k = mtc w n nf (sol ρ nf np (k / 20) (k % 20 + 1) o) := rfl
    rw [eP]
    by_cases hM : mtc w n nf (sol ρ nf np (k / 20) (k % 20 + 1) o) = true
    · rw [hM]
      rfl
    · rw [Bool.not_eq_true] at hM
      rw [hM]
      rfl
  intro k
  induction k with
  | zero =>
    intro hk S q h55 h59 h60
    obtain ⟨S1, a1, a2⟩ := one 0 hk S q h55 h59 h60
    refine ⟨S1, ?_, a2⟩
    rw [a1, lX6_fits_63, if_pos (show nI (0 % 20) < 1 by decide), show nI (0 / 20) + (-1) = -1 by decide]
    rfl
  | succ k ih =>
    intro hk S q h55 h59 h60
    obtain ⟨S1, a1, a2⟩ := one (k + 1) hk S q h55 h59 h60
    obtain ⟨S2, b1, b2⟩ := ih (by omega) S1 (if fP ρ w n nf np o (k + 1) then (q.1 + 1, some (k + 1)) else q) ((a2 55 (by decide)).trans h55) (by rw [a2 59 (by decide)]; exact h59) (fun i hi => by rw [a2 60 (by decide)]; exact h60 i hi)
    refine ⟨S2, ?_, a2.tr b2⟩
    rw [a1]
    refine Eq.trans ?_ b1
    by_cases e : (k + 1) % 20 = 0
    · rw [e, lX6_fits_63, if_pos (show nI 0 < 1 by decide), m1 (by omega) (by omega), show (k + 1) / 20 - 1 = k / 20 by omega, lX6_fits_54, if_neg (nI_pos (by omega)), show k % 20 + 1 = 20 by omega]
      rfl
    · rw [show (k + 1) % 20 = k % 20 + 1 by omega, show (k + 1) / 20 = k / 20 by omega]
theorem up_bd {P : Nat → Bool} {N : Nat} : ∀ n i (q : Nat × Option Nat), i + n ≤ N → (∀ k, q.2 = some k → k < N) → ∀ k, (upS' P n i q).2 = some k → k < N := by
  intro n
  induction n with
  | zero => intro i q _ h k e; exact h k e
  | succ n ih =>
    intro i q hi h k e
    refine ih (i + 1) _ (by omega) (fun k' hk' => ?_) k e
    cases hP : P i with
    | true =>
      rw [hP, if_pos rfl] at hk'
      have e2 := Option.some.inj hk'
      cases hq : q.2 with
      | none =>
        rw [hq] at e2
        have e2 : i = k' := e2
        omega
      | some y =>
        rw [hq] at e2
        have e2 : y = k' := e2
        have := h y hq
        omega
    | false =>
      rw [hP, if_neg (by decide)] at hk'
      exact h k' hk'
theorem ok_fits (d : Nat) (x v : Int32) : Ok2 (d + 9) 58 148 [.ref 0, .int x, .int v] [.ref 54, .int x, .int v] := by
  intro S hR
  obtain ⟨⟨nf, np, nt, nw, o, hs, hf, hp, ht, hx⟩, hI, hE, hSh, hV⟩ := id hR
  obtain ⟨b1, b2, b3, b4, b5, c0, w2, c5, w3, c14, w5, c17, w6, c9, c10, c11, c12, r4, r0⟩ := id hs
  have pw := pw_le b2
  by_cases h : 0 ≤ x ∧ x ≤ 3
  · by_cases hv : 0 ≤ v ∧ v ≤ 1
    · obtain ⟨s, hs3, rfl⟩ := rlit 3 (n := 3) (by decide) (by decide) h.1 h.2
      have hs4 : s < 4 := by omega
      obtain ⟨q1, q2, q3, ⟨n, hn, q4, q4'⟩, q5⟩ := hSh s hs4
      have i3 : ∀ {α : Type} (a b : α), (if nI s < 0 ∨ 4 ≤ s then a else b) = b := fun a b => if_in2 hs4 (by decide) a b
      have cs : (nI s).toNatClampNeg = s := cN (by omega)
      by_cases hz : S.1 58 s = 0
      · refine ⟨-1000000002, uI S 53 2 (S.1 53 2 + 1), EE 2 S, ?_, ?_, Rel_EE hR⟩
        · rw [fX5_fits, pC_isSheet, bI_some, if_b2, if_pos h, pC_isBit, bI_some, if_b2, if_pos hv]
          simp only [cs, i3, rv44 hs4, kO2 hs4, Bool.and_true, cond_true, miss hs4, bI_some, if_b2, q1, hz, if_true, pC_err2]
        · rw [fX6_fits, pM_isSheet, bI_some, if_b2, if_pos h, pM_in, bI_some, if_b2, if_pos hv, if_in hs4 (by omega), cs, if_pos (show (uI S 53 2 (S.1 53 2 + 1)).1 58 s = 0 by rw [uI_oth (by decide)]; exact hz), pM_err2, bI_some]
          rfl
      · obtain ⟨A, a1, a2, HA⟩ := nowC (d + 3) b1 b2 hf hp c0 c5 c10 hx
        have eA : A.1 55 = S.1 55 := a2 55 (by decide)
        have eA1 : A.1 1 = S.1 1 := a2 1 (by decide)
        have g45 : A.1 (45 + 2 * s) = S.1 (45 + 2 * s) := a2 _ (by simp; omega)
        have g46 : A.1 (46 + 2 * s) = S.1 (46 + 2 * s) := a2 _ (by simp; omega)
        have cF : ∃ A', mv (kX5_fits (mFn (d + 8))) 53 [(0, .ref 0), (1, .int (nI s)), (2, .int v), (3, .int 0), (4, .int (-1)), (5, .int 0)] [] A = mv (kX5_fits (mFn (d + 8))) 53 [(0, .ref 0), (1, .int (nI s)), (2, .int v), (3, .int (nI (upS' (fP (S.1 55) (fun i => S.1 60 (24 * s + i)) n nf np o) (20 * nf) 0 (0, none)).1)), (4, .int (lsv (upS' (fP (S.1 55) (fun i => S.1 60 (24 * s + i)) n nf np o) (20 * nf) 0 (0, none)).2)), (5, .int (nI nf))] [] A' ∧ Fr hc A A' := by
          by_cases n0 : nf = 0
          · refine ⟨A, ?_, Fr.rf⟩
            rw [n0]
            rfl
          · obtain ⟨A', k1, k2⟩ := fitsC (d + 2) (w := fun i => S.1 60 (24 * s + i)) HA (by rw [eA1]; exact c9) (by omega) hs4 hn (by rw [g45, q2]; exact q4) (fun i hi => by rw [g46]; exact q5 i hi) v (20 * nf) 0 0 (by omega) (by omega) A (0, none) Fr.rf (fun k hk => by simp at hk) (by omega)
            rw [eA] at k1
            refine ⟨A', ?_, k2⟩
            rw [lX5_fits_53, eA1, c0, if_neg (show ¬ nI nf ≤ 0 from nI_ge (a := 0) (b := nf) (by omega) (by omega))]
            exact k1
        obtain ⟨A', k1, k2⟩ := cF
        have fA : Fr [14, 17, 35, 36, 37, 38] S A' := (a2.up (by decide)).tr (k2.up (by decide))
        have e1 : A'.1 1 0 = nI nf := by rw [fA 1 (by decide)]; exact c0
        have mF : ∀ T : MS, Fr [14, 17, 35, 36, 37, 38, 53] S T → ∃ B', mv (kX6_fits (mFn (d + 8))) 54 [(0, .ref 54), (1, .int (nI s)), (2, .int v), (3, .int 0), (4, .int (-1)), (5, .int (fSub (nI nf) 1))] [] T = mv (kX6_fits (mFn (d + 8))) 54 [(0, .ref 54), (1, .int (nI s)), (2, .int v), (3, .int (nI (upS' (fP (S.1 55) (fun i => S.1 60 (24 * s + i)) n nf np o) (20 * nf) 0 (0, none)).1)), (4, .int (lsv (upS' (fP (S.1 55) (fun i => S.1 60 (24 * s + i)) n nf np o) (20 * nf) 0 (0, none)).2)), (5, .int (-1))] [] B' ∧ Fr [63, 64, 65, 66, 67] T B' := by
          intro T hT
          by_cases n0 : nf = 0
          · refine ⟨T, ?_, Fr.rf⟩
            rw [n0]
            rfl
          · have e55 : T.1 55 = S.1 55 := hT 55 (by decide)
            obtain ⟨B', k1, k2⟩ := fitsM (d + 1) (w := fun i => S.1 60 (24 * s + i)) (MRw_of hs hf hp hx) hs4 hn v (20 * nf - 1) (by omega) T (0, none) e55 (by rw [hT 59 (by decide)]; exact q4) (fun i hi => by rw [hT 60 (by decide)])
            rw [show 20 * nf - 1 + 1 = 20 * nf by omega, ud, show (20 * nf - 1) / 20 = nf - 1 by omega, show (20 * nf - 1) % 20 + 1 = 20 by omega] at k1
            refine ⟨B', ?_, k2⟩
            rw [show fSub (nI nf) 1 = nI (nf - 1) from fs_nn (b := 1) (by omega), lX6_fits_54, if_neg (nI_pos (by omega))]
            exact k1
        have bd := up_bd (P := fP (S.1 55) (fun i => S.1 60 (24 * s + i)) n nf np o) (N := 160) (20 * nf) 0 (0, none) (by omega) (fun k hk => by simp at hk)
        have cl : mFn (d + 9) 58 [.ref 0, .int (nI s), .int v] S = _ := fX5_fits _ _ _ _
        rw [pC_isSheet, bI_some, if_b2, if_pos h, pC_isBit, bI_some, if_b2, if_pos hv] at cl
        simp only [cs, i3, rv44 hs4, kO2 hs4, Bool.and_true, cond_true, miss hs4, bI_some, if_b2, q1, hz, if_false, a1, bV_some, k1] at cl
        rw [lX5_fits_53, e1, if_pos (Int32.le_refl _)] at cl
        have ml : ∀ T : MS, Fr [14, 17, 35, 36, 37, 38, 53] S T → mFn (d + 9) 148 [.ref 54, .int (nI s), .int v] T = mv (kX6_fits (mFn (d + 8))) 54 [(0, .ref 54), (1, .int (nI s)), (2, .int v), (3, .int 0), (4, .int (-1)), (5, .int (fSub (nI nf) 1))] [] T := by
          intro T hT
          rw [fX6_fits, pM_isSheet, bI_some, if_b2, if_pos h, pM_in, bI_some, if_b2, if_pos hv, if_in hs4 (by omega), cs, if_neg (show ¬ T.1 58 s = 0 by rw [hT 58 (by decide)]; exact hz), il2, cl2, hT 55 (by decide), w2]
        generalize hU : upS' (fP (S.1 55) (fun i => S.1 60 (24 * s + i)) n nf np o) (20 * nf) 0 (0, none) = u at cl mF bd
        by_cases v0 : v = 0
        · obtain ⟨B', m1, m2⟩ := mF A' (fA.up (by decide))
          rw [if_pos v0] at cl
          replace m1 := (ml A' (fA.up (by decide))).trans m1
          rw [lX6_fits_54, if_pos (show (-1 : Int32) < 0 by decide), if_pos v0] at m1
          exact ⟨_, A', B', cl, m1, Rel_h fA m2 hR⟩
        · rw [if_neg v0] at cl
          cases hu : u.2 with
          | none =>
            rw [hu, if_neg (show ¬ 0 ≤ lsv none by decide), pC_err2, bI_some] at cl
            have fT : Fr [14, 17, 35, 36, 37, 38, 53] S (uI A' 53 2 (A'.1 53 2 + 1)) := (fA.up (by decide)).put (by decide)
            obtain ⟨B', m1, m2⟩ := mF _ fT
            replace m1 := (ml _ fT).trans m1
            rw [lX6_fits_54, if_pos (show (-1 : Int32) < 0 by decide), if_neg v0, hu, if_neg (show ¬ 0 ≤ lsv none by decide), pM_err2, bI_some] at m1
            exact ⟨_, _, _, cl, m1, Rel_eh fA m2 hR⟩
          | some k =>
            have hk := bd k hu
            have hl : 0 ≤ lsv (some k) := nI_pos' (by omega)
            obtain ⟨B', m1, m2⟩ := mF A' (fA.up (by decide))
            rw [hu, if_pos hl] at cl
            replace m1 := (ml A' (fA.up (by decide))).trans m1
            rw [lX6_fits_54, if_pos (show (-1 : Int32) < 0 by decide), if_neg v0, hu, if_pos hl] at m1
            exact ⟨_, A', B', cl, m1, Rel_h fA m2 hR⟩
    · refine ⟨-1000000001, uI S 53 1 (S.1 53 1 + 1), EE 1 S, ?_, ?_, Rel_EE hR⟩
      · rw [fX5_fits, pC_isSheet, bI_some, if_b2, if_pos h, pC_isBit, bI_some, if_b2, if_neg hv, pC_err1, bI_some]
      · rw [fX6_fits, pM_isSheet, bI_some, if_b2, if_pos h, pM_in, bI_some, if_b2, if_neg hv, pM_err1, bI_some]
        rfl
  · refine ⟨-1000000001, uI S 53 1 (S.1 53 1 + 1), EE 1 S, ?_, ?_, Rel_EE hR⟩
    · rw [fX5_fits, pC_isSheet, bI_some, if_b2, if_neg h, pC_err1, bI_some]
    · rw [fX6_fits, pM_isSheet, bI_some, if_b2, if_neg h, pM_err1, bI_some]
      rfl
