/-! ===== hearing: the class, all of it ===== -/
/-- what is reached through a pipe is reached later -/
theorem runp_late {nf np : Nat} {fr to : Nat → Nat} {tr : TR} {h : Nat → Nat} {s w0 x0 : Nat} (hfr : ∀ p, p < np → fr p < nf) (tb : TB np fr to tr h) (hs : s < nf) (hws : w0 + 20 * h s ≤ 180 ∧ 1 ≤ x0 ∧ x0 ≤ 99) (hne : ∀ i, i < np → fr i = s → to i ≠ s) : ∀ n i, i + n = np → ∀ V : HV, V s = some (w0, x0) → ∀ f, f < nf → (∀ w x, V f = some (w, x) → w0 ≤ w) → ∀ w x, runp fr to tr s n i V f = some (w, x) → w0 ≤ w := by
  intro n
  induction n with
  | zero => intro i _ V _ f _ h1 w x e; exact h1 w x e
  | succ n ih =>
    intro i hi V hV f hf h1 w x e
    refine ih (i + 1) (by omega) (stp fr to tr s V i) ?_ f hf (fun w x e => ?_) w x e
    · unfold stp
      by_cases e : fr i = s
      · rw [if_pos e, setV_ne (fun z => hne i (by omega) e z.symm)]
        exact hV
      · rw [if_neg e]
        exact hV
    · unfold stp at e
      by_cases c : fr i = s
      · rw [if_pos c] at e
        by_cases ef : f = to i
        · rw [ef, setV_eq] at e
          rcases btr_or (V (to i)) (ctr fr tr V i) with g | g
          · rw [g] at e
            exact h1 w x (by rw [ef]; exact e)
          · rw [g] at e
            unfold ctr at e
            rw [c, hV] at e
            have g := tb i (by omega) w0 x0 w x (by rw [c]; exact hws.1) hws.2.1 hws.2.2 e
            omega
        · rw [setV_ne ef] at e
          exact h1 w x e
      · rw [if_neg c] at e
        exact h1 w x e
/-- the earliest that is not done: none, or b -/
def NX (nf m : Nat) (dn : Nat) (V : HV) (r : Int32) : Prop := (r = -1 ∧ ∀ f, f < m → dn.testBit f = false → V f = none) ∨ ∃ b w x, r = nI b ∧ b < m ∧ b < nf ∧ dn.testBit b = false ∧ V b = some (w, x) ∧ ∀ f, f < m → dn.testBit f = false → ∀ w' x', V f = some (w', x') → w ≤ w'
theorem heardC (d : Nat) {S : MS} {f : Nat} {v : Option (Nat × Nat)} (hf : f < 8) (he : encC S f v) : mFn (d + 1) 10 [.ref 35, .int (nI f)] S = some (some (.int (if v = none then 0 else 1)), S) := by
  rw [fX1_isHeardAt, if_in hf (by omega), cN (by omega)]
  cases v with
  | none =>
    have he : S.1 37 f = 1000000 := he
    rw [he, if_pos (Int32.le_refl _), if_pos rfl]
  | some a =>
    rw [he.1, if_neg (show ¬ (1000000 : Int32) ≤ nI a.1 from nI_ge (a := a.1) (b := 1000000) (by have := he.2.2.1; omega) (by decide)), if_neg (by simp)]
theorem nextC (d : Nat) {S : MS} {nf dn : Nat} {V : HV} (hnf : nf ≤ 8) (hdn : dn < 2 ^ 8) (c0 : S.1 1 0 = nI nf) (h35 : S.1 35 4 = nI dn) (he : ∀ f, f < nf → encC S f (V f)) : ∀ n i, i + n = nf → ∀ r : Int32, NX nf i dn V r → ∃ r', mv (kX1_nextToHear (mFn (d + 1))) 4 [(0, .ref 35), (1, .int r), (2, .int (nI i))] [] S = some (some (.int r'), S) ∧ NX nf nf dn V r' := by
  intro n
  induction n with
  | zero =>
    intro i hi r hr
    have e : i = nf := by omega
    subst e
    exact ⟨r, by rw [lX1_nextToHear_4, c0, if_pos (Int32.le_refl _)], hr⟩
  | succ n ih =>
    intro i hi r hr
    have hi8 : i < 8 := by omega
    rw [lX1_nextToHear_4, c0, if_neg (nI_ge (by omega) (by omega)), h35, bit_r (by omega) (by omega)]
    by_cases hb : dn.testBit i = true
    · rw [if_pos hb, if_neg (by decide), add1]
      refine ih (i + 1) (by omega) r ?_
      rcases hr with ⟨h1, h2⟩ | ⟨b, w, x, h1, h2, h3, h4, h5, h6⟩
      · refine Or.inl ⟨h1, fun f hf hd => ?_⟩
        by_cases e : f = i
        · rw [e, hb] at hd; exact absurd hd (by decide)
        · exact h2 f (by omega) hd
      · refine Or.inr ⟨b, w, x, h1, by omega, h3, h4, h5, fun f hf hd => ?_⟩
        by_cases e : f = i
        · rw [e, hb] at hd; exact absurd hd (by decide)
        · exact h6 f (by omega) hd
    · have hbf : dn.testBit i = false := by
        cases hh : dn.testBit i with
        | false => rfl
        | true => exact absurd hh hb
      rw [if_neg hb, if_pos (show nI 0 = 0 from rfl), heardC d hi8 (he i (by omega)), bI_some]
      cases hv : V i with
      | none =>
        rw [if_pos rfl, if_pos rfl, add1]
        refine ih (i + 1) (by omega) r ?_
        rcases hr with ⟨h1, h2⟩ | ⟨b, w, x, h1, h2, h3, h4, h5, h6⟩
        · refine Or.inl ⟨h1, fun f hf hd => ?_⟩
          by_cases e : f = i
          · rw [e]; exact hv
          · exact h2 f (by omega) hd
        · refine Or.inr ⟨b, w, x, h1, by omega, h3, h4, h5, fun f hf hd w' x' e' => ?_⟩
          by_cases e : f = i
          · rw [e, hv] at e'; exact absurd e' (by simp)
          · exact h6 f (by omega) hd w' x' e'
      | some a =>
        have hei := he i (by omega)
        rw [hv] at hei
        rw [show (if (some a) = none then (0 : Int32) else 1) = 1 from if_neg (by simp), if_neg (show ¬ (1 : Int32) = 0 by decide)]
        rcases hr with ⟨h1, h2⟩ | ⟨b, w, x, h1, h2, h3, h4, h5, h6⟩
        · rw [h1, if_pos (by decide), add1]
          refine ih (i + 1) (by omega) _ (Or.inr ⟨i, a.1, a.2, rfl, by omega, by omega, hbf, hv, fun f hf hd w' x' e' => ?_⟩)
          by_cases e : f = i
          · rw [e, hv] at e'
            have := congrArg Prod.fst (Option.some.inj e')
            have h : a.1 = w' := this
            omega
          · rw [h2 f (by omega) hd] at e'
            exact absurd e' (by simp)
        · have heb := he b h3
          rw [h5] at heb
          rw [h1, if_neg (nI_pos (by omega)), if_in hi8 (by omega), if_in (show b < 8 by omega) (by omega), cN (show b ≤ 100000 by omega), cN (show i ≤ 100000 by omega), heb.1, hei.1, add1]
          have l1 := heb.2.2.1
          have l2 := hei.2.2.1
          by_cases c : w ≤ a.1
          · rw [if_pos (nI_le c (by omega))]
            refine ih (i + 1) (by omega) _ (Or.inr ⟨b, w, x, rfl, by omega, h3, h4, h5, fun f hf hd w' x' e' => ?_⟩)
            by_cases e : f = i
            · rw [e, hv] at e'
              have h : a.1 = w' := congrArg Prod.fst (Option.some.inj e')
              omega
            · exact h6 f (by omega) hd w' x' e'
          · rw [if_neg (nI_ge (by omega) (by omega))]
            refine ih (i + 1) (by omega) _ (Or.inr ⟨i, a.1, a.2, rfl, by omega, by omega, hbf, hv, fun f hf hd w' x' e' => ?_⟩)
            by_cases e : f = i
            · rw [e, hv] at e'
              have h : a.1 = w' := congrArg Prod.fst (Option.some.inj e')
              omega
            · have := h6 f (by omega) hd w' x' e'
              omega
/-- how many are done -/
def cnt (n : Nat) : Nat := (n.testBit 0).toNat + (n.testBit 1).toNat + (n.testBit 2).toNat + (n.testBit 3).toNat + (n.testBit 4).toNat + (n.testBit 5).toNat + (n.testBit 6).toNat + (n.testBit 7).toNat
theorem or_bit (n s i : Nat) : (n ||| 2 ^ s).testBit i = (n.testBit i || decide (s = i)) := by
  rw [Nat.testBit_or, Nat.testBit_two_pow]
theorem cnt_or {n s : Nat} (hs : s < 8) (h : n.testBit s = false) : cnt (n ||| 2 ^ s) = cnt n + 1 := by
  have e : s = 0 ∨ s = 1 ∨ s = 2 ∨ s = 3 ∨ s = 4 ∨ s = 5 ∨ s = 6 ∨ s = 7 := by omega
  unfold cnt
  simp only [or_bit]
  rcases e with rfl | rfl | rfl | rfl | rfl | rfl | rfl | rfl <;> rw [h] <;> simp <;> omega
theorem cnt_8 {n f : Nat} (hf : f < 8) (h : cnt n = 8) : n.testBit f = true := by
  have e : f = 0 ∨ f = 1 ∨ f = 2 ∨ f = 3 ∨ f = 4 ∨ f = 5 ∨ f = 6 ∨ f = 7 := by omega
  have b : ∀ c : Bool, c.toNat ≤ 1 := fun c => by cases c <;> decide
  have b1 : ∀ c : Bool, c.toNat = 1 → c = true := fun c => by cases c <;> decide
  unfold cnt at h
  have h0 := b (n.testBit 0)
  have h1 := b (n.testBit 1)
  have h2 := b (n.testBit 2)
  have h3 := b (n.testBit 3)
  have h4 := b (n.testBit 4)
  have h5 := b (n.testBit 5)
  have h6 := b (n.testBit 6)
  have h7 := b (n.testBit 7)
  rcases e with rfl | rfl | rfl | rfl | rfl | rfl | rfl | rfl <;> apply b1 <;> omega
theorem sprC (d : Nat) {S0 : MS} {nf np o O f0 z : Nat} (H : HB S0 nf np o) (hO : O < 2 ^ 9) : ∀ n j, j + n = 8 → ∀ (S : MS) (V : HV) (dn w0 : Nat) (r : Int32), Fr hc S0 S → (∀ f, f < nf → encC S f (V f)) → WV nf (hN (S0.1 55)) V → S.1 35 4 = nI dn → dn < 2 ^ nf → cnt dn = j → Fix nf np (frN (S0.1 55)) (toN (S0.1 55)) (trN (S0.1 55) O) f0 z (fun p => dn.testBit (frN (S0.1 55) p) = true) V → (∀ f, f < nf → dn.testBit f = true → ∃ w x, V f = some (w, x) ∧ w ≤ w0) → (∀ f, f < nf → dn.testBit f = false → ∀ w x, V f = some (w, x) → w0 ≤ w) → NX nf nf dn V r → ∃ S' V' dn', mv (kX1_spread (mFn (d + 5))) 43 [(0, .ref 35), (3, .int (nI O)), (4, .int r), (5, .int (nI j))] [] S = some (none, S') ∧ Fr hc S0 S' ∧ (∀ f, f < nf → encC S' f (V' f)) ∧ WV nf (hN (S0.1 55)) V' ∧ S'.1 35 4 = nI dn' ∧ dn' < 2 ^ nf ∧ (∀ f, f < nf → (dn'.testBit f = true ↔ ¬ V' f = none)) ∧ Fix nf np (frN (S0.1 55)) (toN (S0.1 55)) (trN (S0.1 55) O) f0 z (fun _ => True) V' := by
  have n1 := H.n1
  have n2 := H.n2
  have fin : ∀ (S : MS) (V : HV) (dn w0 : Nat), Fr hc S0 S → (∀ f, f < nf → encC S f (V f)) → WV nf (hN (S0.1 55)) V → S.1 35 4 = nI dn → dn < 2 ^ nf → Fix nf np (frN (S0.1 55)) (toN (S0.1 55)) (trN (S0.1 55) O) f0 z (fun p => dn.testBit (frN (S0.1 55) p) = true) V → (∀ f, f < nf → dn.testBit f = true → ∃ w x, V f = some (w, x) ∧ w ≤ w0) → (∀ f, f < nf → dn.testBit f = false → V f = none) → ∃ S' V' dn', (some ((none : Option Value), S) : Option MR) = some (none, S') ∧ Fr hc S0 S' ∧ (∀ f, f < nf → encC S' f (V' f)) ∧ WV nf (hN (S0.1 55)) V' ∧ S'.1 35 4 = nI dn' ∧ dn' < 2 ^ nf ∧ (∀ f, f < nf → (dn'.testBit f = true ↔ ¬ V' f = none)) ∧ Fix nf np (frN (S0.1 55)) (toN (S0.1 55)) (trN (S0.1 55) O) f0 z (fun _ => True) V' := by
    intro S V dn w0 h1 h2 h3 h4 h5 h6 h7 h8
    refine ⟨S, V, dn, rfl, h1, h2, h3, h4, h5, fun f hf => ⟨fun hd => ?_, fun hn => ?_⟩, Fix_up h6 (fun _ _ _ => trivial) (fun p hp _ hn => ?_) (fun f hf => WV_key h3 hf)⟩
    · obtain ⟨w, x, e, _⟩ := h7 f hf hd
      rw [e]
      simp
    · cases hb : dn.testBit f with
      | true => rfl
      | false => exact absurd (h8 f hf hb) hn
    · obtain ⟨_, _, p3, _, _⟩ := pN_r H.n1 H.n2 H.rf H.rp hp
      have hb : dn.testBit (frN (S0.1 55) p) = false := by
        cases hh : dn.testBit (frN (S0.1 55) p) with
        | false => rfl
        | true => exact absurd hh hn
      unfold ctr
      rw [h8 _ p3 hb]
  intro n
  induction n with
  | zero =>
    intro j hj S V dn w0 r h1 h2 h3 h4 h5 hc8 h6 h7 _ _
    have e : j = 8 := by omega
    subst e
    rw [lX1_spread_43, if_pos (show (8 : Int32) ≤ nI 8 from Int32.le_refl _)]
    refine fin S V dn w0 h1 h2 h3 h4 h5 h6 h7 (fun f hf hd => ?_)
    rw [cnt_8 (by omega) hc8] at hd
    exact absurd hd (by decide)
  | succ n ih =>
    intro j hj S V dn w0 r h1 h2 h3 h4 h5 hc8 h6 h7 h7' hr
    rw [lX1_spread_43, if_neg (show ¬ (8 : Int32) ≤ nI j from nI_ge (a := j) (b := 8) (by omega) (by decide))]
    rcases hr with ⟨r1, r2⟩ | ⟨s, ws, xs, r1, _, hs, hd, hv, hmin⟩
    · rw [r1, if_pos (by decide)]
      exact fin S V dn w0 h1 h2 h3 h4 h5 h6 h7 r2
    · have hs8 : s < 8 := by omega
      have hpow : 2 ^ nf ≤ 2 ^ 8 := Nat.pow_le_pow_right (by decide) n1
      have hes := h2 s hs
      rw [hv] at hes
      have hWs := h3 s hs ws xs hv
      have hw0 : w0 ≤ ws := h7' s hs hd ws xs hv
      have hdn' : dn ||| 2 ^ s < 2 ^ nf := Nat.or_lt_two_pow h5 (Nat.pow_lt_pow_right (by decide) hs)
      have hcn : cnt (dn ||| 2 ^ s) = j + 1 := by rw [cnt_or hs8 hd, hc8]
      rw [r1, if_neg (nI_pos (by omega)), if_in hs8 (by omega), cN (show s ≤ 100000 by omega), hes.2.1, h4, sh_l (by omega), show fOr (nI dn) (nI (2 ^ s)) = nI (dn ||| 2 ^ s) from fa_or _ _]
      have hS1 : Fr hc S0 (uI S 35 4 (nI (dn ||| 2 ^ s))) := h1.put (by decide)
      have he1 : ∀ f, f < nf → encC (uI S 35 4 (nI (dn ||| 2 ^ s))) f (V f) := fun f hf => encC_c (by rw [uI_oth (by decide)]) (by rw [uI_oth (by decide)]) (h2 f hf)
      obtain ⟨q1, q2, q3, q4, q5, q6, _⟩ := H.rf s hs8
      have on := on_C (d + 4) (S := uI S 35 4 (nI (dn ||| 2 ^ s))) hs8 (nI xs) (by rw [hS1 3 (by decide), show S0.1 3 s = _ from q2]; exact q6)
      rw [hS1 2 (by decide), hS1 3 (by decide), hS1 1 (by decide), show S0.1 2 s = _ from q1, show S0.1 3 s = _ from q2, H.c10] at on
      rw [show mFn (d + 5) 2 [.ref 1, .int (nI s), .int (nI xs)] (uI S 35 4 (nI (dn ||| 2 ^ s))) = some (some (.int (onn (S0.1 55) s (nI xs))), _) from on, bI_some]
      have dis : ∀ f, (dn ||| 2 ^ s).testBit f = false → dn.testBit f = false ∧ f ≠ s := fun f hh => by
        rw [or_bit] at hh
        cases hb : dn.testBit f with
        | true => rw [hb] at hh; exact absurd hh (by simp)
        | false => exact ⟨rfl, fun z => by rw [z] at hh; simp at hh⟩
      have dit : ∀ f, (dn ||| 2 ^ s).testBit f = true → dn.testBit f = true ∨ f = s := fun f hh => by
        rw [or_bit] at hh
        cases hb : dn.testBit f with
        | true => exact Or.inl rfl
        | false => rw [hb] at hh; simp at hh; exact Or.inr hh.symm
      have dt : ∀ f, dn.testBit f = true ∨ f = s → (dn ||| 2 ^ s).testBit f = true := fun f hh => by
        rw [or_bit]
        rcases hh with hh | hh
        · rw [hh]; rfl
        · rw [hh]; simp
      have nx : ∀ (S1 : MS) (V1 : HV), Fr hc S0 S1 → (∀ f, f < nf → encC S1 f (V1 f)) → S1.1 35 4 = nI (dn ||| 2 ^ s) → ∃ r', mFn (d + 5) 11 [.ref 35] S1 = some (some (.int r'), S1) ∧ NX nf nf (dn ||| 2 ^ s) V1 r' := by
        intro S1 V1 g1 g2 g3
        obtain ⟨r', k1, k2⟩ := nextC (d + 3) n1 (by omega) (by rw [g1 1 (by decide)]; exact H.c0) g3 g2 nf 0 (by omega) (-1) (Or.inl ⟨rfl, fun f hf => absurd hf (by omega)⟩)
        exact ⟨r', (fX1_nextToHear (d + 4) S1).trans k1, k2⟩
      by_cases ho : onn (S0.1 55) s (nI xs) = 0
      · rw [if_pos ho]
        obtain ⟨r', k1, k2⟩ := nx _ V hS1 he1 (uI_eq _ _ _ _)
        rw [k1, bI_some, add1]
        refine ih (j + 1) (by omega) _ V (dn ||| 2 ^ s) ws r' hS1 he1 h3 (uI_eq _ _ _ _) hdn' hcn (Fix_up h6 (fun p _ hq => dt _ (Or.inl hq)) (fun p hp hq hn => ?_) (fun f hf => WV_key h3 hf)) (fun f hf hh => ?_) (fun f hf hh w x e => hmin f hf (dis f hh).1 w x e) k2
        · have e : frN (S0.1 55) p = s := (dit _ hq).resolve_left hn
          unfold ctr
          rw [e, hv]
          show trN (S0.1 55) O p ws xs = none
          unfold trN
          rw [e, if_neg (fun z => z.2 ho)]
        · rcases dit f hh with hb | e
          · obtain ⟨w, x, e1, e2⟩ := h7 f hf hb
            exact ⟨w, x, e1, by omega⟩
          · rw [e]
            exact ⟨ws, xs, hv, Nat.le_refl _⟩
      · rw [if_neg ho]
        obtain ⟨T, t1, t2⟩ := said_C (d) (S := uI S 35 4 (nI (dn ||| 2 ^ s))) hs8 (nI xs) (RCf_c (fun k k1 k2 => hS1 k (by unfold hc; simp; omega)) (fun i _ _ => by rw [hS1 55 (by decide)]) H.rf) (RT_c (by rw [hS1 12 (by decide)]) (by rw [hS1 12 (by decide)]) (fun k => by rw [hS1 13 (by decide)]) (fun i _ _ => by rw [hS1 55 (by decide)]) H.rt)
        have ht1 : Fr hc S0 T := hS1.tr (t2.up (by decide))
        have e55 : (uI S 35 4 (nI (dn ||| 2 ^ s))).1 55 = S0.1 55 := hS1 55 (by decide)
        rw [e55, (sdN_r (S0.1 55) s xs).1] at t1
        have he2 : ∀ f, f < nf → encC T f (V f) := fun f hf => encC_c (by rw [t2 37 (by decide)]) (by rw [t2 38 (by decide)]) (he1 f hf)
        obtain ⟨U, u1, u2, u3⟩ := sayO (d + 3) H hs hO ho (by omega) np 0 (by omega) T V ht1 he2 h3 hv
        have row12 : mFn (d + 5) 12 [.ref 35, .int (nI s), .int (nI O)] (uI S 35 4 (nI (dn ||| 2 ^ s))) = some (none, U) := by
          rw [fX1_sayOver, if_in hs8 (by omega), cN (show s ≤ 100000 by omega), uI_oth (show (38 : Nat) ≠ 35 by decide), hes.2.1, show mFn (d + 4) 0 [.ref 1, .int (nI s), .int (nI xs)] _ = _ from t1, bI_some]
          exact u1
        have hU : Fr hc S0 U := ht1.tr (u2.up (by decide))
        have h35 : U.1 35 4 = nI (dn ||| 2 ^ s) := by rw [u2 35 (by decide), t2 35 (by decide), uI_eq]
        obtain ⟨r', k1, k2⟩ := nx U _ hU u3 h35
        rw [row12, bV_some, k1, bI_some, add1]
        have hh : ∀ p, p < np → frN (S0.1 55) p < nf := fun p hp => (pN_r H.n1 H.n2 H.rf H.rp hp).2.2.1
        have hC : ∀ i, i < np → frN (S0.1 55) i = s → ((dn ||| 2 ^ s).testBit (toN (S0.1 55) i) = true ∧ toN (S0.1 55) i < nf) → btr (V (toN (S0.1 55) i)) (ctr (frN (S0.1 55)) (trN (S0.1 55) O) V i) = V (toN (S0.1 55) i) := by
          intro i hi e hc
          have hf2 := (pN_r H.n1 H.n2 H.rf H.rp hi).2.2.2.1
          have old : ∃ w x, V (toN (S0.1 55) i) = some (w, x) ∧ w ≤ ws := by
            rcases dit _ hc.1 with hb | e2
            · obtain ⟨w, x, e1, e2⟩ := h7 _ hf2 hb
              exact ⟨w, x, e1, by omega⟩
            · rw [e2]
              exact ⟨ws, xs, hv, Nat.le_refl _⟩
          obtain ⟨w, x, e1, e2⟩ := old
          have hc2 := h3 _ hf2 w x e1
          rw [e1]
          cases hct : ctr (frN (S0.1 55)) (trN (S0.1 55) O) V i with
          | none => exact if_neg (show ¬ 1000000000 < w * 128 + (127 - x) by omega)
          | some a =>
            unfold ctr at hct
            rw [e, hv] at hct
            have g := TB_N H.n1 H.n2 H.rf H.rp O i hi ws xs a.1 a.2 (by rw [e]; exact hWs.1) hWs.2.1 hWs.2.2 hct
            exact if_neg (show ¬ a.1 * 128 + (127 - a.2) < w * 128 + (127 - x) by omega)
        obtain ⟨v1, v2, v3⟩ := runp_ok (nf := nf) (np := np) (f0 := f0) (z := z) (Q := fun p => dn.testBit (frN (S0.1 55) p) = true) (C := fun f => (dn ||| 2 ^ s).testBit f = true ∧ f < nf) (s := s) (W := V) hh (TB_N H.n1 H.n2 H.rf H.rp O) (fun p hp hq => ⟨dt _ (Or.inl hq), hh p hp⟩) ⟨dt _ (Or.inr rfl), hs⟩ hC np 0 (by omega) V (fun _ _ => rfl) h3 (Fix_up h6 (fun p hp hq => Or.inl hq) (fun p hp hq hn => absurd (hq.resolve_right (fun z => absurd z.2 (by omega))) hn) (fun f hf => WV_key h3 hf))
        · refine ih (j + 1) (by omega) U _ (dn ||| 2 ^ s) ws r' hU u3 v2 h35 hdn' hcn (Fix_up v3 (fun p hp hq => ?_) (fun p hp hq hn => ?_) (fun f hf => WV_key v2 hf)) (fun f hf hh2 => ?_) (fun f hf hh2 w x e => ?_) k2
          · rcases hq with hq | hq
            · exact dt _ (Or.inl hq)
            · exact dt _ (Or.inr hq)
          · refine absurd ?_ hn
            rcases dit _ hq with hb | e
            · exact Or.inl hb
            · exact Or.inr e
          · rw [v1 f ⟨hh2, hf⟩]
            rcases dit f hh2 with hb | e
            · obtain ⟨w, x, e1, e2⟩ := h7 f hf hb
              exact ⟨w, x, e1, by omega⟩
            · rw [e]
              exact ⟨ws, xs, hv, Nat.le_refl _⟩
          · exact runp_late (fr := frN (S0.1 55)) (to := toN (S0.1 55)) (tr := trN (S0.1 55) O) (nf := nf) (np := np) (h := hN (S0.1 55)) (w0 := ws) (x0 := xs) (s := s) hh (TB_N H.n1 H.n2 H.rf H.rp O) hs hWs (fun i hi e => by
              have q := (pN_r H.n1 H.n2 H.rf H.rp hi).2.2.2.2
              rw [e] at q
              intro z
              rw [z] at q
              omega) np 0 (by omega) V hv f hf (fun w x e => hmin f hf (dis f hh2).1 w x e) w x e
