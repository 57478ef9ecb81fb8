/-! ===== hearing: the class ===== -/
def hN (ρ : Nat → Int32) (f : Nat) : Nat := (ρ (9 + 4 * f)).toNatClampNeg
def frN (ρ : Nat → Int32) (p : Nat) : Nat := (ρ (39 + 4 * p)).toNatClampNeg
def toN (ρ : Nat → Int32) (p : Nat) : Nat := (ρ (40 + 4 * p)).toNatClampNeg
noncomputable def slN (ρ : Nat → Int32) (p : Nat) : Nat := (slw ρ p).toNatClampNeg
noncomputable def sdN (ρ : Nat → Int32) (f x : Nat) : Nat := (said ρ f (nI x)).toNatClampNeg
noncomputable def trN (ρ : Nat → Int32) (O : Nat) : TR := fun p w x => if O.testBit p = true ∧ ¬ onn ρ (frN ρ p) (nI x) = 0 then some (w + slN ρ p, sdN ρ (frN ρ p) x) else none
theorem clI {a : Int32} {x : Int32} {n : Nat} (ha : a.toInt = n) (hn : n < 1000) (h0 : 1 ≤ x) (h1 : x ≤ a) : x = nI x.toNatClampNeg ∧ 1 ≤ x.toNatClampNeg ∧ x.toNatClampNeg ≤ n := by
  obtain ⟨j, j1, j2, rfl⟩ := rlo ha hn (Int32.not_lt.mpr h0) h1
  rw [cN (by omega)]
  exact ⟨rfl, j1, j2⟩
theorem slN_r (ρ : Nat → Int32) (p : Nat) : slw ρ p = nI (slN ρ p) ∧ 1 ≤ slN ρ p ∧ slN ρ p ≤ 20 := clI (a := 20) (n := 20) (by decide) (by decide) (slw_r ρ p).1 (slw_r ρ p).2
theorem sdN_r (ρ : Nat → Int32) (f x : Nat) : said ρ f (nI x) = nI (sdN ρ f x) ∧ 1 ≤ sdN ρ f x ∧ sdN ρ f x ≤ 99 := clI (a := 99) (n := 99) (by decide) (by decide) (said_r ρ f (nI x)).1 (said_r ρ f (nI x)).2
theorem hN_r {σ : Nat → Nat → Int32} {b w : Nat} (h : RCf σ b w) {f : Nat} (hf : f < 8) : σ w (9 + 4 * f) = nI (hN (σ w) f) ∧ hN (σ w) f ≤ 9 := by
  obtain ⟨_, _, _, _, _, _, g, _⟩ := h f hf
  obtain ⟨a, ha, e⟩ := rlit 9 (n := 9) (by decide) (by decide) g.1 g.2
  unfold hN
  rw [e, cN (by omega)]
  exact ⟨rfl, ha⟩
theorem pN_r {σ : Nat → Nat → Int32} {b w nf np o : Nat} (hnf : nf ≤ 8) (hnp : np ≤ 9) (h1 : RCf σ b w) (h : RCp σ b w nf np o) {p : Nat} (hp : p < np) : σ w (39 + 4 * p) = nI (frN (σ w) p) ∧ σ w (40 + 4 * p) = nI (toN (σ w) p) ∧ frN (σ w) p < nf ∧ toN (σ w) p < nf ∧ hN (σ w) (toN (σ w) p) < hN (σ w) (frN (σ w) p) := by
  obtain ⟨fr, to, r1, r2, r3, r4, r5, r6, r7⟩ := (h p (by omega)).2.2.2 hp
  have e1 : frN (σ w) p = fr := by unfold frN; rw [r3, cN (by omega)]
  have e2 : toN (σ w) p = to := by unfold toN; rw [r4, cN (by omega)]
  rw [e1, e2]
  refine ⟨r3, r4, r1, r2, ?_⟩
  have a := hN_r h1 (f := fr) (by omega)
  have c := hN_r h1 (f := to) (by omega)
  rw [a.1, c.1] at r6
  by_cases hlt : hN (σ w) to < hN (σ w) fr
  · exact hlt
  · exact absurd r6 (nI_nlt (by omega) (by omega))
theorem TB_N {σ : Nat → Nat → Int32} {b w nf np o : Nat} (hnf : nf ≤ 8) (hnp : np ≤ 9) (h1 : RCf σ b w) (h : RCp σ b w nf np o) (O : Nat) : TB np (frN (σ w)) (toN (σ w)) (trN (σ w) O) (hN (σ w)) := by
  intro p hp a x a' x' k1 k2 k3 e
  unfold trN at e
  obtain ⟨_, _, _, _, g⟩ := pN_r hnf hnp h1 h hp
  have s := slN_r (σ w) p
  have t := sdN_r (σ w) (frN (σ w) p) x
  by_cases c : O.testBit p = true ∧ ¬ onn (σ w) (frN (σ w) p) (nI x) = 0
  · rw [if_pos c] at e
    have e2 := Option.some.inj e
    have ea : a + slN (σ w) p = a' := congrArg Prod.fst e2
    have ex : sdN (σ w) (frN (σ w) p) x = x' := congrArg Prod.snd e2
    omega
  · rw [if_neg c] at e
    exact absurd e (by simp)
def encC (S : MS) (f : Nat) : Option (Nat × Nat) → Prop
  | none => S.1 37 f = 1000000
  | some a => S.1 37 f = nI a.1 ∧ S.1 38 f = nI a.2 ∧ a.1 < 1000 ∧ a.2 ≤ 99
theorem encC_c {S S' : MS} {f : Nat} (h1 : S'.1 37 f = S.1 37 f) (h2 : S'.1 38 f = S.1 38 f) {v : Option (Nat × Nat)} (h : encC S f v) : encC S' f v := by
  cases v with
  | none => exact h1.trans h
  | some a => exact ⟨h1.trans h.1, h2.trans h.2.1, h.2.2⟩
theorem arr_C (d : Nat) {S : MS} {f w x : Nat} {v : Option (Nat × Nat)} (hf : f < 8) (hw : w < 1000) (hx : x ≤ 99) (he : encC S f v) : ∃ S', mFn (d + 1) 13 [.ref 35, .int (nI f), .int (nI w), .int (nI x)] S = some (none, S') ∧ Fr [37, 38] S S' ∧ (∀ g, g ≠ f → S'.1 37 g = S.1 37 g ∧ S'.1 38 g = S.1 38 g) ∧ encC S' f (btr v (some (w, x))) := by
  have i8 : ∀ {α : Type} (a b : α), (if nI f < 0 ∨ 8 ≤ f then a else b) = b := fun a b => if_in2 hf (by decide) a b
  have row : mFn (d + 1) 13 [.ref 35, .int (nI f), .int (nI w), .int (nI x)] S = if S.1 37 f ≤ nI w then (if nI w = S.1 37 f then some (none, uI S 38 f (if S.1 38 f < nI x then nI x else S.1 38 f)) else some (none, S)) else some (none, uI (uI S 37 f (nI w)) 38 f (nI x)) := by
    rw [fX1_arrive]
    simp only [cN (show f ≤ 100000 by omega), i8]
  have set : (∃ S', some ((none : Option Value), uI (uI S 37 f (nI w)) 38 f (nI x)) = some (none, S') ∧ Fr [37, 38] S S' ∧ (∀ g, g ≠ f → S'.1 37 g = S.1 37 g ∧ S'.1 38 g = S.1 38 g) ∧ encC S' f (some (w, x))) := by
    refine ⟨_, rfl, (Fr.rf.put (by decide)).put (by decide), fun g hg => ⟨?_, ?_⟩, ?_, ?_, hw, hx⟩
    · rw [uI_oth (by decide), uI_ni _ hg]
    · rw [uI_ni _ hg, uI_oth (by decide)]
    · rw [uI_oth (by decide), uI_eq]
    · rw [uI_eq]
  rw [row]
  cases v with
  | none =>
    have he : S.1 37 f = 1000000 := he
    rw [he, if_neg (show ¬ (1000000 : Int32) ≤ nI w from nI_ge (a := w) (b := 1000000) (by omega) (by decide)), show btr none (some (w, x)) = some (w, x) from if_pos (show w * 128 + (127 - x) < 1000000000 by omega)]
    exact set
  | some a =>
    obtain ⟨h1, h2, h3, h4⟩ := he
    rw [h1]
    by_cases c : a.1 ≤ w
    · rw [if_pos (nI_le c (by omega))]
      by_cases e : a.1 = w
      · rw [if_pos (by rw [e]), h2]
        refine ⟨_, rfl, Fr.rf.put (by decide), fun g hg => ⟨?_, ?_⟩, ?_⟩
        · rw [uI_oth (by decide)]
        · rw [uI_ni _ hg]
        · by_cases l : a.2 < x
          · rw [if_pos (nI_lt l (by omega)), show btr (some a) (some (w, x)) = some (w, x) from if_pos (show w * 128 + (127 - x) < a.1 * 128 + (127 - a.2) by omega)]
            exact ⟨by rw [uI_oth (by decide), h1, e], by rw [uI_eq], hw, hx⟩
          · rw [if_neg (nI_nlt (by omega) (by omega)), show btr (some a) (some (w, x)) = some a from if_neg (show ¬ w * 128 + (127 - x) < a.1 * 128 + (127 - a.2) by omega)]
            exact ⟨by rw [uI_oth (by decide), h1], by rw [uI_eq], h3, h4⟩
      · rw [if_neg (fun z => e ((nI_eq (by omega) (by omega)).mp z).symm), show btr (some a) (some (w, x)) = some a from if_neg (show ¬ w * 128 + (127 - x) < a.1 * 128 + (127 - a.2) by omega)]
        exact ⟨S, rfl, Fr.rf, fun g _ => ⟨rfl, rfl⟩, h1, h2, h3, h4⟩
    · rw [if_neg (nI_ge (by omega) (by omega)), show btr (some a) (some (w, x)) = some (w, x) from if_pos (show w * 128 + (127 - x) < a.1 * 128 + (127 - a.2) by omega)]
      exact set
/-- what the class's hearing stands on: S0 with the slow of each pipe learned -/
def HB (S0 : MS) (nf np o : Nat) : Prop := nf ≤ 8 ∧ np ≤ 9 ∧ RCf S0.1 1 55 ∧ RCp S0.1 1 55 nf np o ∧ S0.1 1 0 = nI nf ∧ S0.1 1 5 = nI np ∧ S0.1 1 10 = S0.1 55 4 ∧ RT S0.1 12 55 159 ∧ ∀ p, p < np → S0.1 36 p = nI (slN (S0.1 55) p)
theorem HB.n1 {S0 : MS} {nf np o : Nat} (H : HB S0 nf np o) : nf ≤ 8 := H.1
theorem HB.n2 {S0 : MS} {nf np o : Nat} (H : HB S0 nf np o) : np ≤ 9 := H.2.1
theorem HB.rf {S0 : MS} {nf np o : Nat} (H : HB S0 nf np o) : RCf S0.1 1 55 := H.2.2.1
theorem HB.rp {S0 : MS} {nf np o : Nat} (H : HB S0 nf np o) : RCp S0.1 1 55 nf np o := H.2.2.2.1
theorem HB.c0 {S0 : MS} {nf np o : Nat} (H : HB S0 nf np o) : S0.1 1 0 = nI nf := H.2.2.2.2.1
theorem HB.c5 {S0 : MS} {nf np o : Nat} (H : HB S0 nf np o) : S0.1 1 5 = nI np := H.2.2.2.2.2.1
theorem HB.c10 {S0 : MS} {nf np o : Nat} (H : HB S0 nf np o) : S0.1 1 10 = S0.1 55 4 := H.2.2.2.2.2.2.1
theorem HB.rt {S0 : MS} {nf np o : Nat} (H : HB S0 nf np o) : RT S0.1 12 55 159 := H.2.2.2.2.2.2.2.1
theorem HB.sl {S0 : MS} {nf np o : Nat} (H : HB S0 nf np o) : ∀ p, p < np → S0.1 36 p = nI (slN (S0.1 55) p) := H.2.2.2.2.2.2.2.2
def hc : List Nat := [14, 17, 35, 37, 38]
theorem btr_none {nf : Nat} {h : Nat → Nat} {V : HV} (hw : WV nf h V) {f : Nat} (hf : f < nf) : btr (V f) none = V f := if_neg (by have := WV_key hw hf; show ¬ 1000000000 < key (V f); omega)
theorem sayO (d : Nat) {S0 : MS} {nf np o O s w0 x0 : Nat} (H : HB S0 nf np o) (hs : s < nf) (hO : O < 2 ^ 9) (hon : ¬ onn (S0.1 55) s (nI x0) = 0) (hw0 : w0 ≤ 180) : ∀ n i, i + n = np → ∀ (S : MS) (V : HV), Fr hc S0 S → (∀ f, f < nf → encC S f (V f)) → WV nf (hN (S0.1 55)) V → V s = some (w0, x0) → ∃ S', mv (kX1_sayOver (mFn (d + 1))) 18 [(0, .ref 35), (1, .int (nI s)), (2, .int (nI O)), (3, .int (nI (sdN (S0.1 55) s x0))), (4, .int (nI i))] [] S = some (none, S') ∧ Fr [37, 38] S S' ∧ ∀ f, f < nf → encC S' f (runp (frN (S0.1 55)) (toN (S0.1 55)) (trN (S0.1 55) O) s n i V f) := by
  have n1 := H.n1
  have n2 := H.n2
  intro n
  induction n with
  | zero =>
    intro i hi S V hS he _ _
    refine ⟨S, ?_, Fr.rf, he⟩
    rw [lX1_sayOver_18, hS 1 (by decide), H.c5, if_pos (nI_le (by omega) (by omega))]
  | succ n ih =>
    intro i hi S V hS he hw hVs
    have hi9 : i < 9 := by omega
    have hin : i < np := by omega
    obtain ⟨p1, p2, p3, p4, p5⟩ := pN_r H.n1 H.n2 H.rf H.rp hin
    have rp := H.rp i hi9
    have hWV := WV_stp (fr := frN (S0.1 55)) (to := toN (S0.1 55)) (tr := trN (S0.1 55) O) (s := s) hin p3 (TB_N H.n1 H.n2 H.rf H.rp O) hw
    have hst : stp (frN (S0.1 55)) (toN (S0.1 55)) (trN (S0.1 55) O) s V i s = V s := by
      unfold stp
      by_cases e : frN (S0.1 55) i = s
      · rw [if_pos e, setV_ne (fun z => by rw [← z, e] at p5; omega)]
      · rw [if_neg e]
    have bit := bit_r (o := O) (p := i) (by omega) (by omega)
    have go : ∀ S1 : MS, Fr [37, 38] S S1 → (∀ f, f < nf → encC S1 f (stp (frN (S0.1 55)) (toN (S0.1 55)) (trN (S0.1 55) O) s V i f)) → ∃ S', mv (kX1_sayOver (mFn (d + 1))) 18 [(0, .ref 35), (1, .int (nI s)), (2, .int (nI O)), (3, .int (nI (sdN (S0.1 55) s x0))), (4, .int (nI (i + 1)))] [] S1 = some (none, S') ∧ Fr [37, 38] S S' ∧ ∀ f, f < nf → encC S' f (runp (frN (S0.1 55)) (toN (S0.1 55)) (trN (S0.1 55) O) s (n + 1) i V f) := by
      intro S1 hS1 he1
      obtain ⟨S', t1, t2, t3⟩ := ih (i + 1) (by omega) S1 _ (hS.tr (hS1.up (by decide))) he1 hWV (by rw [hst]; exact hVs)
      exact ⟨S', t1, hS1.tr t2, t3⟩
    rw [lX1_sayOver_18, hS 1 (by decide), H.c5, if_neg (nI_ge (by omega) (by omega)), bit]
    by_cases hb : O.testBit i = true
    · rw [if_pos hb, if_neg (by decide), if_in hi9 (by omega), cN (by omega), hS 6 (by decide), show S0.1 6 i = _ from rp.1, p1]
      by_cases e : frN (S0.1 55) i = s
      · have ht8 : toN (S0.1 55) i < 8 := by omega
        have hct : ctr (frN (S0.1 55)) (trN (S0.1 55) O) V i = some (w0 + slN (S0.1 55) i, sdN (S0.1 55) s x0) := by
          unfold ctr
          rw [e, hVs]
          show trN (S0.1 55) O i w0 x0 = _
          unfold trN
          rw [e, if_pos ⟨hb, hon⟩]
        have s1 := slN_r (S0.1 55) i
        have s2 := sdN_r (S0.1 55) s x0
        have hes := he s hs
        rw [hVs] at hes
        obtain ⟨S1, a1, a2, a3, a4⟩ := arr_C d (S := S) (f := toN (S0.1 55) i) (w := w0 + slN (S0.1 55) i) (x := sdN (S0.1 55) s x0) (v := V (toN (S0.1 55) i)) ht8 (by omega) (by omega) (he _ p4)
        rw [if_pos (by rw [e]), if_in2 hi9 (by omega), if_in (show s < 8 by omega) (by omega), if_in2 hi9 (by omega), hS 7 (by decide), show S0.1 7 i = _ from rp.2.1, p2, cN (show s ≤ 100000 by omega), hes.1, hS 36 (by decide), H.sl i hin, fa_nn, a1, bV_some, add1]
        refine go S1 a2 (fun f hf => ?_)
        unfold stp
        rw [if_pos e, hct]
        by_cases ef : f = toN (S0.1 55) i
        · rw [ef, setV_eq]
          exact a4
        · rw [setV_ne ef]
          exact encC_c (a3 f ef).1 (a3 f ef).2 (he f hf)
      · rw [if_neg (fun z => e ((nI_eq (by omega) (by omega)).mp z)), add1]
        refine go S Fr.rf (fun f hf => ?_)
        unfold stp
        rw [if_neg e]
        exact he f hf
    · rw [if_neg hb, if_pos (show nI 0 = 0 from rfl), add1]
      refine go S Fr.rf (fun f hf => ?_)
      unfold stp
      by_cases e : frN (S0.1 55) i = s
      · have hct : ctr (frN (S0.1 55)) (trN (S0.1 55) O) V i = none := by
          unfold ctr
          rw [e, hVs]
          show trN (S0.1 55) O i w0 x0 = _
          unfold trN
          rw [if_neg (fun z => hb z.1)]
        rw [if_pos e, hct, btr_none hw p4]
        by_cases ef : f = toN (S0.1 55) i
        · rw [ef, setV_eq]
          exact he _ p4
        · rw [setV_ne ef]
          exact he f hf
      · rw [if_neg e]
        exact he f hf
