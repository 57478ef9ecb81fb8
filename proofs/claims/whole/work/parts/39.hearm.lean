/-! ===== hearing: the model ===== -/
/-- facts of the row alone: a city made of it -/
def cit (ρ : Nat → Int32) (k : Nat) : Nat → Int32 := if k = 55 then ρ else if k = 2 then (fun f => ρ (7 + 4 * f)) else if k = 3 then (fun f => ρ (8 + 4 * f)) else if k = 4 then (fun f => ρ (9 + 4 * f)) else if k = 5 then (fun f => ρ (10 + 4 * f)) else if k = 6 then (fun p => ρ (39 + 4 * p)) else if k = 7 then (fun p => ρ (40 + 4 * p)) else (fun p => ρ (41 + 4 * p))
def RFm (ρ : Nat → Int32) : Prop := RCf (cit ρ) 1 55
def RPm (ρ : Nat → Int32) (nf np o : Nat) : Prop := RCp (cit ρ) 1 55 nf np o
theorem RFm_of {σ : Nat → Nat → Int32} (h : RCf σ 1 55) : RFm (σ 55) := fun f hf => by
  obtain ⟨_, _, _, _, h5⟩ := h f hf
  exact ⟨rfl, rfl, rfl, rfl, h5⟩
theorem RPm_of {σ : Nat → Nat → Int32} {nf np o : Nat} (h : RCp σ 1 55 nf np o) : RPm (σ 55) nf np o := fun p hp => by
  obtain ⟨_, _, _, h5⟩ := h p hp
  exact ⟨rfl, rfl, rfl, h5⟩
theorem hN_m {ρ : Nat → Int32} (h : RFm ρ) {f : Nat} (hf : f < 8) : ρ (9 + 4 * f) = nI (hN ρ f) ∧ hN ρ f ≤ 9 := hN_r (σ := cit ρ) (b := 1) (w := 55) h hf
theorem rM_m {ρ : Nat → Int32} (h : RFm ρ) {f : Nat} (hf : f < 8) : 0 ≤ ρ (8 + 4 * f) ∧ ρ (8 + 4 * f) ≤ 9 := by
  obtain ⟨_, _, _, _, _, q, _⟩ := h f hf
  exact q
theorem pN_m {ρ : Nat → Int32} {nf np o : Nat} (hnf : nf ≤ 8) (hnp : np ≤ 9) (h1 : RFm ρ) (h : RPm ρ nf np o) {p : Nat} (hp : p < np) : ρ (39 + 4 * p) = nI (frN ρ p) ∧ ρ (40 + 4 * p) = nI (toN ρ p) ∧ frN ρ p < nf ∧ toN ρ p < nf ∧ hN ρ (toN ρ p) < hN ρ (frN ρ p) := pN_r (σ := cit ρ) (b := 1) (w := 55) hnf hnp h1 h hp
theorem TB_m {ρ : Nat → Int32} {nf np o : Nat} (hnf : nf ≤ 8) (hnp : np ≤ 9) (h1 : RFm ρ) (h : RPm ρ nf np o) (O : Nat) : TB np (frN ρ) (toN ρ) (trN ρ O) (hN ρ) := TB_N (σ := cit ρ) (b := 1) (w := 55) hnf hnp h1 h O
def encM (S : MS) (f : Nat) : Option (Nat × Nat) → Prop
  | none => S.1 65 f = -1 ∧ S.1 66 f = 0
  | some a => S.1 65 f = nI a.1 ∧ S.1 66 f = nI a.2 ∧ a.1 < 1000 ∧ a.2 ≤ 99
theorem encM_c {S S' : MS} {f : Nat} (h1 : S'.1 65 f = S.1 65 f) (h2 : S'.1 66 f = S.1 66 f) {v : Option (Nat × Nat)} (h : encM S f v) : encM S' f v := by
  cases v with
  | none => exact ⟨h1.trans h.1, h2.trans h.2⟩
  | some a => exact ⟨h1.trans h.1, h2.trans h.2.1, h.2.2⟩
def hm : List Nat := [63, 64, 65, 66]
def HM (S0 : MS) (nf np o : Nat) : Prop := nf ≤ 8 ∧ np ≤ 9 ∧ RFm (S0.1 55) ∧ RPm (S0.1 55) nf np o ∧ S0.1 55 2 = nI nf ∧ S0.1 55 3 = nI np ∧ GW (S0.1 55) 159 ∧ ∀ p, p < np → S0.1 67 p = nI (slN (S0.1 55) p)
theorem arr_M (d : Nat) {S : MS} {nf np s i t w0 x0 w y : Nat} {O : Int32} {v : Option (Nat × Nat)} (hs : s < 8) (ht : t < 8) (hi : i < 9) (hin : i < np) (hnp : np ≤ 9) (w3 : S.1 55 3 = nI np) (p1 : S.1 55 (39 + 4 * i) = nI s) (p2 : S.1 55 (40 + 4 * i) = nI t) (hb : fAnd (fShr O (nI i)) 1 = 1) (hw0 : S.1 65 s = nI w0) (hsl : ∃ l, S.1 67 i = nI l ∧ w0 + l = w) (hw : w < 1000) (hy : y ≤ 99) (he : encM S t v) : ∃ y' w', mv (kX6_saysOn (mFn (d + 1))) 15 [(0, .ref 54), (1, .int (nI s)), (2, .int O), (3, .int (nI y)), (4, .int (nI i))] [] S = mv (kX6_saysOn (mFn (d + 1))) 15 [(0, .ref 54), (1, .int (nI s)), (2, .int O), (3, .int (nI y)), (4, .int (nI (i + 1)))] [] (uI (uI S 66 t y') 65 t w') ∧ encM (uI (uI S 66 t y') 65 t w') t (btr v (some (w, y))) := by
  obtain ⟨l, l1, l2⟩ := hsl
  have it : ∀ {α : Type} (a b : α), (if nI t < 0 ∨ 8 ≤ t then a else b) = b := fun a b => if_in2 ht (by decide) a b
  have enc : ∀ (y' w' : Int32) (a : Nat × Nat), w' = nI a.1 → y' = nI a.2 → a.1 < 1000 → a.2 ≤ 99 → encM (uI (uI S 66 t y') 65 t w') t (some a) := fun y' w' a e1 e2 e3 e4 => ⟨by rw [uI_eq, e1], by rw [uI_oth (by decide), uI_eq, e2], e3, e4⟩
  rw [lX6_saysOn_15, il3, cl3, w3, if_neg (nI_ge (by omega) (by omega)), pM_ab0 _ hi, bI_some, p1, if_pos rfl, if_pos hb, pM_ab1 _ hi, bI_some, p2, if_in hs (by omega), if_in hi (by omega), cN (show s ≤ 100000 by omega), cN (show i ≤ 100000 by omega), cN (show t ≤ 100000 by omega)]
  simp only [it]
  rw [hw0, l1, fa_nn, l2, add1]
  cases v with
  | none =>
    have he : S.1 65 t = -1 := he.1
    rw [he, if_pos (by decide)]
    refine ⟨_, _, rfl, ?_⟩
    rw [show btr none (some (w, y)) = some (w, y) from if_pos (show w * 128 + (127 - y) < 1000000000 by omega)]
    exact enc _ _ _ rfl rfl hw hy
  | some a =>
    obtain ⟨h1, h2, h3, h4⟩ := he
    rw [h1, h2, if_neg (nI_pos (by omega))]
    by_cases c : a.1 ≤ w
    · rw [if_pos (nI_le c (by omega))]
      by_cases e : a.1 = w
      · rw [if_pos (show nI w = nI a.1 by rw [e])]
        by_cases k : y ≤ a.2
        · rw [if_pos (nI_le k (by omega))]
          refine ⟨_, _, rfl, ?_⟩
          rw [show btr (some a) (some (w, y)) = some a from if_neg (show ¬ w * 128 + (127 - y) < a.1 * 128 + (127 - a.2) by omega)]
          exact enc _ _ _ rfl rfl h3 h4
        · rw [if_neg (nI_ge (by omega) (by omega))]
          refine ⟨_, _, rfl, ?_⟩
          rw [show btr (some a) (some (w, y)) = some (w, y) from if_pos (show w * 128 + (127 - y) < a.1 * 128 + (127 - a.2) by omega)]
          exact enc _ _ _ (by rw [e]) rfl hw hy
      · rw [if_neg (fun z => e ((nI_eq (by omega) (by omega)).mp z).symm)]
        refine ⟨_, _, rfl, ?_⟩
        rw [show btr (some a) (some (w, y)) = some a from if_neg (show ¬ w * 128 + (127 - y) < a.1 * 128 + (127 - a.2) by omega)]
        exact enc _ _ _ rfl rfl h3 h4
    · rw [if_neg (nI_ge (by omega) (by omega))]
      refine ⟨_, _, rfl, ?_⟩
      rw [show btr (some a) (some (w, y)) = some (w, y) from if_pos (show w * 128 + (127 - y) < a.1 * 128 + (127 - a.2) by omega)]
      exact enc _ _ _ rfl rfl hw hy
theorem sayM (d : Nat) {S0 : MS} {nf np o O s w0 x0 : Nat} (H : HM S0 nf np o) (hs : s < nf) (hO : O < 2 ^ 9) (hon : ¬ onn (S0.1 55) s (nI x0) = 0) (hw0 : w0 ≤ 180) : ∀ n i, i + n = np → ∀ (S : MS) (V : HV), Fr hm S0 S → (∀ f, f < nf → encM S f (V f)) → WV nf (hN (S0.1 55)) V → V s = some (w0, x0) → ∃ S', mv (kX6_saysOn (mFn (d + 1))) 15 [(0, .ref 54), (1, .int (nI s)), (2, .int (nI O)), (3, .int (nI (sdN (S0.1 55) s x0))), (4, .int (nI i))] [] S = some (none, S') ∧ Fr [65, 66] S S' ∧ ∀ f, f < nf → encM S' f (runp (frN (S0.1 55)) (toN (S0.1 55)) (trN (S0.1 55) O) s n i V f) := by
  obtain ⟨n1, n2, rf, rp, w2, w3, gw, sl⟩ := H
  intro n
  induction n with
  | zero =>
    intro i hi S V hS he _ _
    refine ⟨S, ?_, Fr.rf, he⟩
    rw [lX6_saysOn_15, il3, cl3, hS 55 (by decide), w3, if_pos (nI_le (by omega) (by omega))]
  | succ n ih =>
    intro i hi S V hS he hw hVs
    have hi9 : i < 9 := by omega
    have hin : i < np := by omega
    obtain ⟨p1, p2, p3, p4, p5⟩ := pN_m n1 n2 rf rp hin
    have e55 : S.1 55 = S0.1 55 := hS 55 (by decide)
    have hWV := WV_stp (fr := frN (S0.1 55)) (to := toN (S0.1 55)) (tr := trN (S0.1 55) O) (s := s) hin p3 (TB_m n1 n2 rf rp O) hw
    have hst : stp (frN (S0.1 55)) (toN (S0.1 55)) (trN (S0.1 55) O) s V i s = V s := by
      unfold stp
      by_cases e : frN (S0.1 55) i = s
      · rw [if_pos e, setV_ne (fun z => by rw [← z, e] at p5; omega)]
      · rw [if_neg e]
    have bit := bit_r (o := O) (p := i) (by omega) (by omega)
    have go : ∀ S1 : MS, Fr [65, 66] S S1 → (∀ f, f < nf → encM S1 f (stp (frN (S0.1 55)) (toN (S0.1 55)) (trN (S0.1 55) O) s V i f)) → ∃ S', mv (kX6_saysOn (mFn (d + 1))) 15 [(0, .ref 54), (1, .int (nI s)), (2, .int (nI O)), (3, .int (nI (sdN (S0.1 55) s x0))), (4, .int (nI (i + 1)))] [] S1 = some (none, S') ∧ Fr [65, 66] S S' ∧ ∀ f, f < nf → encM S' f (runp (frN (S0.1 55)) (toN (S0.1 55)) (trN (S0.1 55) O) s (n + 1) i V f) := by
      intro S1 hS1 he1
      obtain ⟨S', t1, t2, t3⟩ := ih (i + 1) (by omega) S1 _ (hS.tr (hS1.up (by decide))) he1 hWV (by rw [hst]; exact hVs)
      exact ⟨S', t1, hS1.tr t2, t3⟩
    have skip : (¬ frN (S0.1 55) i = s ∨ ¬ O.testBit i = true) → mv (kX6_saysOn (mFn (d + 1))) 15 [(0, .ref 54), (1, .int (nI s)), (2, .int (nI O)), (3, .int (nI (sdN (S0.1 55) s x0))), (4, .int (nI i))] [] S = mv (kX6_saysOn (mFn (d + 1))) 15 [(0, .ref 54), (1, .int (nI s)), (2, .int (nI O)), (3, .int (nI (sdN (S0.1 55) s x0))), (4, .int (nI (i + 1)))] [] S := by
      intro hh
      rw [lX6_saysOn_15, il3, cl3, e55, w3, if_neg (nI_ge (by omega) (by omega)), pM_ab0 _ hi9, bI_some, e55, p1, add1]
      by_cases e : frN (S0.1 55) i = s
      · rw [if_pos (by rw [e]), bit, if_neg (hh.resolve_left (fun z => z e)), if_neg (show ¬ nI 0 = 1 by decide)]
      · rw [if_neg (fun z => e ((nI_eq (by omega) (by omega)).mp z))]
    by_cases e : frN (S0.1 55) i = s
    · by_cases hb : O.testBit i = true
      · have hct : ctr (frN (S0.1 55)) (trN (S0.1 55) O) V i = some (w0 + slN (S0.1 55) i, sdN (S0.1 55) s x0) := by
          unfold ctr
          rw [e, hVs]
          show trN (S0.1 55) O i w0 x0 = _
          unfold trN
          rw [e, if_pos ⟨hb, hon⟩]
        have s1 := slN_r (S0.1 55) i
        have s2 := sdN_r (S0.1 55) s x0
        have hes := he s hs
        rw [hVs] at hes
        obtain ⟨y', w', a1, a2⟩ := arr_M d (S := S) (s := s) (t := toN (S0.1 55) i) (i := i) (np := np) (nf := nf) (x0 := x0) (w0 := w0) (w := w0 + slN (S0.1 55) i) (y := sdN (S0.1 55) s x0) (O := nI O) (v := V (toN (S0.1 55) i)) (by omega) (by omega) hi9 hin n2 (by rw [e55]; exact w3) (by rw [e55, p1, e]) (by rw [e55, p2]) (by rw [bit, if_pos hb]; rfl) hes.1 ⟨slN (S0.1 55) i, by rw [hS 67 (by decide)]; exact sl i hin, rfl⟩ (by omega) (by omega) (he _ p4)
        rw [a1]
        refine go _ ((Fr.rf.put (by decide)).put (by decide)) (fun f hf => ?_)
        unfold stp
        rw [if_pos e, hct]
        by_cases ef : f = toN (S0.1 55) i
        · rw [ef, setV_eq]
          exact a2
        · rw [setV_ne ef]
          exact encM_c (by rw [uI_ni _ ef, uI_oth (by decide)]) (by rw [uI_oth (by decide), uI_ni _ ef]) (he f hf)
      · rw [skip (Or.inr hb)]
        refine go S Fr.rf (fun f hf => ?_)
        have hct : ctr (frN (S0.1 55)) (trN (S0.1 55) O) V i = none := by
          unfold ctr
          rw [e, hVs]
          show trN (S0.1 55) O i w0 x0 = _
          unfold trN
          rw [if_neg (fun z => hb z.1)]
        unfold stp
        rw [if_pos e, hct, btr_none hw p4]
        by_cases ef : f = toN (S0.1 55) i
        · rw [ef, setV_eq]
          exact he _ p4
        · rw [setV_ne ef]
          exact he f hf
    · rw [skip (Or.inl e)]
      refine go S Fr.rf (fun f hf => ?_)
      unfold stp
      rw [if_neg e]
      exact he f hf
