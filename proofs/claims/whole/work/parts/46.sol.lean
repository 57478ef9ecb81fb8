/-! ===== what is heard of one saying, as a function of the row ===== -/
def HDs (ρ : Nat → Int32) (nf np f0 z O : Nat) (V : HV) : Prop := WV nf (hN ρ) V ∧ Fix nf np (frN ρ) (toN ρ) (trN ρ O) f0 z (fun _ => True) V
theorem sol_ex (ρ : Nat → Int32) (nf np f0 z O : Nat) : ∃ W : HV, ∀ V, HDs ρ nf np f0 z O V → HDs ρ nf np f0 z O W := by
  by_cases h : ∃ V, HDs ρ nf np f0 z O V
  · obtain ⟨V, hV⟩ := h
    exact ⟨V, fun _ _ => hV⟩
  · exact ⟨fun _ => none, fun V hV => absurd ⟨V, hV⟩ h⟩
noncomputable def sol (ρ : Nat → Int32) (nf np f0 z O : Nat) : HV := Classical.choose (sol_ex ρ nf np f0 z O)
theorem sol_ok {ρ : Nat → Int32} {nf np f0 z O : Nat} {V : HV} (h : HDs ρ nf np f0 z O V) : HDs ρ nf np f0 z O (sol ρ nf np f0 z O) := Classical.choose_spec (sol_ex ρ nf np f0 z O) V h
theorem sol_of {ρ : Nat → Int32} {nf np o f0 z O : Nat} {V : HV} (n1 : nf ≤ 8) (n2 : np ≤ 9) (rf : RFm ρ) (rp : RPm ρ nf np o) (h : HDs ρ nf np f0 z O V) : ∀ f, f < nf → V f = sol ρ nf np f0 z O f := by
  intro f hf
  have u := Fix_uniq (nf := nf) (h := hN ρ) (fun p hp => by
    obtain ⟨_, _, q1, q2, q3⟩ := pN_m n1 n2 rf rp hp
    exact ⟨q1, q2, q3⟩) (fun f hf => (hN_m rf (f := f) (by omega)).2) h.2 (sol_ok h).2 h.1 (sol_ok h).1
  exact u (9 - hN ρ f + 1) f hf (by omega)
theorem spC (d : Nat) {S0 : MS} {nf np o O f0 z : Nat} (H : HB S0 nf np o) (hO : O < 2 ^ 9) (hf0 : f0 < nf) (hz : 1 ≤ z ∧ z ≤ 99) (S : MS) (hS : Fr hc S0 S) : ∃ S', mFn (d + 6) 9 [.ref 35, .int (nI f0), .int (nI z), .int (nI O)] S = some (none, S') ∧ Fr hc S0 S' ∧ (∀ f, f < nf → encC S' f (sol (S0.1 55) nf np f0 z O f)) ∧ HDs (S0.1 55) nf np f0 z O (sol (S0.1 55) nf np f0 z O) := by
  obtain ⟨S', a1, V, dn, c1, c2, c3, c4, c5, c6, c7⟩ := spreadC d H hO hf0 hz S hS
  have hV : HDs (S0.1 55) nf np f0 z O V := ⟨c3, c7⟩
  refine ⟨S', a1, c1, fun f hf => ?_, sol_ok hV⟩
  rw [← sol_of H.n1 H.n2 (RFm_of H.rf) (RPm_of H.rp) hV f hf]
  exact c2 f hf
theorem spM (d : Nat) {S0 : MS} {nf np o O f0 z : Nat} (H : HM S0 nf np o) (hO : O < 2 ^ 9) (hf0 : f0 < nf) (hz : 1 ≤ z ∧ z ≤ 99) (S : MS) (hS : Fr hm S0 S) : ∃ S', mFn (d + 6) 133 [.ref 54, .int (nI f0), .int (nI z), .int (nI O)] S = some (none, S') ∧ Fr hm S0 S' ∧ (∀ f, f < nf → encM S' f (sol (S0.1 55) nf np f0 z O f)) ∧ HDs (S0.1 55) nf np f0 z O (sol (S0.1 55) nf np f0 z O) := by
  obtain ⟨S', a1, V, c1, c2, c3, c7⟩ := spreadM d H hO hf0 hz S hS
  obtain ⟨n1, n2, rf, rp, w2, w3, gw, sl⟩ := id H
  have hV : HDs (S0.1 55) nf np f0 z O V := ⟨c3, c7⟩
  refine ⟨S', a1, c1, fun f hf => ?_, sol_ok hV⟩
  rw [← sol_of n1 n2 rf rp hV f hf]
  exact c2 f hf
/-- with all shut, none but the first hears -/
theorem sol_0 {ρ : Nat → Int32} {nf np f0 z t : Nat} {V : HV} (h : HDs ρ nf np f0 z 0 V) (ht : t < nf) (hne : t ≠ f0) : V t = none := by
  rcases (h.2 t ht).2.2 with e | e | ⟨p, hp, _, hq, e⟩
  · exact e
  · exact absurd e.1 hne
  · rw [e]
    unfold ctr
    cases V (frN ρ p) with
    | none => rfl
    | some a =>
      show trN ρ 0 p a.1 a.2 = none
      unfold trN
      rw [if_neg (fun q => by have := q.1; rw [Nat.zero_testBit] at this; exact absurd this (by decide))]
/-! ===== sets of pipes ===== -/
def andn (o i : Nat) : Nat := o &&& (i ^^^ 4294967295)
theorem andn_e (o i : Nat) : fAnd (nI o) (fXor (nI i) (-1)) = nI (andn o i) := by
  show nI o &&& (nI i ^^^ nI 4294967295) = _
  rw [nx_xor, fa_and]
  rfl
theorem andn_le (o i : Nat) : andn o i ≤ o := Nat.and_le_left
theorem bit_big {o j : Nat} (ho : o < 512) (hj : 9 ≤ j) : o.testBit j = false := Nat.testBit_lt_two_pow (Nat.lt_of_lt_of_le (show o < 2 ^ 9 from ho) (Nat.pow_le_pow_right (by decide) hj))
theorem andn_bit {o : Nat} (ho : o < 512) (i j : Nat) : (andn o i).testBit j = (o.testBit j && !i.testBit j) := by
  unfold andn
  rw [Nat.testBit_and, Nat.testBit_xor]
  by_cases h : j < 9
  · have e : (4294967295 : Nat).testBit j = true := by
      rw [show (4294967295 : Nat) = 2 ^ 32 - 1 by decide, Nat.testBit_two_pow_sub_one]
      exact decide_eq_true (by omega)
    rw [e, Bool.xor_true]
  · rw [bit_big ho (by omega), Bool.false_and, Bool.false_and]
theorem andn_self {o : Nat} (ho : o < 512) : andn o o = 0 := by
  apply Nat.eq_of_testBit_eq
  intro j
  rw [andn_bit ho, Nat.zero_testBit, Bool.and_not_self]
theorem andn_0 {i o : Nat} (hi : i < 512) (h : andn i o = 0) : i &&& o = i := by
  apply Nat.eq_of_testBit_eq
  intro j
  have e : (andn i o).testBit j = false := by rw [h, Nat.zero_testBit]
  rw [andn_bit hi] at e
  rw [Nat.testBit_and]
  cases hx : i.testBit j <;> cases hy : o.testBit j <;> simp_all
theorem andn_le0 {i o : Nat} (hi : i < 512) (h : andn i o = 0) : i ≤ o := by
  rw [← andn_0 hi h]
  exact Nat.and_le_right
theorem nI_z {a : Nat} (h : a < 1000000) : (nI a = 0) = (a = 0) := propext ⟨fun q => by
  by_cases e : a = 0
  · exact e
  · exact absurd q (nI_ne0 (by omega) (by omega)), fun q => by rw [q]; rfl⟩
theorem tn (b : Bool) : b.toNat ≤ 1 := by cases b <;> decide
theorem pcn_9 (n : Nat) : pcn n ≤ 9 := by
  unfold pcn
  have := tn (n.testBit 0)
  have := tn (n.testBit 1)
  have := tn (n.testBit 2)
  have := tn (n.testBit 3)
  have := tn (n.testBit 4)
  have := tn (n.testBit 5)
  have := tn (n.testBit 6)
  have := tn (n.testBit 7)
  have := tn (n.testBit 8)
  omega
theorem tn_sub {i o : Nat} (h : i &&& o = i) (j : Nat) : (i.testBit j).toNat ≤ (o.testBit j).toNat ∧ ((i.testBit j).toNat = (o.testBit j).toNat → i.testBit j = o.testBit j) := by
  have e : (i &&& o).testBit j = i.testBit j := by rw [h]
  rw [Nat.testBit_and] at e
  cases hx : i.testBit j <;> cases hy : o.testBit j <;> simp_all
theorem pcn_lt {i o : Nat} (hi : i < 512) (ho : o < 512) (h : i &&& o = i) (hne : i ≠ o) : pcn i < pcn o := by
  by_cases hlt : pcn i < pcn o
  · exact hlt
  · refine absurd ?_ hne
    unfold pcn at hlt
    have b0 := tn_sub h 0
    have b1 := tn_sub h 1
    have b2 := tn_sub h 2
    have b3 := tn_sub h 3
    have b4 := tn_sub h 4
    have b5 := tn_sub h 5
    have b6 := tn_sub h 6
    have b7 := tn_sub h 7
    have b8 := tn_sub h 8
    apply Nat.eq_of_testBit_eq
    intro j
    by_cases hj : 9 ≤ j
    · rw [bit_big hi hj, bit_big ho hj]
    · have : j = 0 ∨ j = 1 ∨ j = 2 ∨ j = 3 ∨ j = 4 ∨ j = 5 ∨ j = 6 ∨ j = 7 ∨ j = 8 := by omega
      rcases this with rfl | rfl | rfl | rfl | rfl | rfl | rfl | rfl | rfl
      · exact b0.2 (by omega)
      · exact b1.2 (by omega)
      · exact b2.2 (by omega)
      · exact b3.2 (by omega)
      · exact b4.2 (by omega)
      · exact b5.2 (by omega)
      · exact b6.2 (by omega)
      · exact b7.2 (by omega)
      · exact b8.2 (by omega)
def lessB (i : Nat) : Option Nat → Bool
  | none => true
  | some y => decide (pcn i < pcn y)
def stB (F P : Nat → Bool) (i : Nat) (b : Option Nat) : Option Nat := if F i && lessB i b && P i then some i else b
def gS (F P : Nat → Bool) : Nat → Nat → Option Nat → Option Nat
  | 0, _, b => b
  | n + 1, i, b => gS F P n (i + 1) (stB F P i b)
def bst : Option Nat → Int32
  | none => -1
  | some y => nI y
theorem stB_F {F P : Nat → Bool} {i : Nat} (b : Option Nat) (h : F i = false) : stB F P i b = b := by
  unfold stB
  rw [h]
  rfl
theorem gS_late {F P : Nat → Bool} : ∀ n i b, (∀ j, i ≤ j → j < i + n → F j = false) → gS F P n i b = b := by
  intro n
  induction n with
  | zero => intro i b _; rfl
  | succ n ih =>
    intro i b h
    rw [gS, stB_F b (h i (Nat.le_refl _) (by omega))]
    exact ih (i + 1) b (fun j h1 h2 => h j (by omega) (by omega))
theorem gS_cong {F G P Q : Nat → Bool} : ∀ n i b, (∀ j, i ≤ j → j < i + n → F j = G j ∧ P j = Q j) → gS F P n i b = gS G Q n i b := by
  intro n
  induction n with
  | zero => intro i b _; rfl
  | succ n ih =>
    intro i b h
    have h0 := h i (Nat.le_refl _) (by omega)
    have e : stB F P i b = stB G Q i b := by
      unfold stB
      rw [h0.1, h0.2]
    rw [gS, gS, e]
    exact ih (i + 1) _ (fun j h1 h2 => h j (by omega) (by omega))
theorem gS_add {F P : Nat → Bool} : ∀ m n i b, gS F P (m + n) i b = gS F P n (i + m) (gS F P m i b) := by
  intro m
  induction m with
  | zero => intro n i b; rw [Nat.zero_add]; rfl
  | succ m ih =>
    intro n i b
    rw [show m + 1 + n = (m + n) + 1 by omega, gS, ih, gS, show i + 1 + m = i + (m + 1) by omega]
theorem gS_bd {F P : Nat → Bool} {N : Nat} : ∀ n i b, i + n ≤ N → (∀ y, b = some y → y < N) → ∀ r, gS F P n i b = some r → r < N := by
  intro n
  induction n with
  | zero => intro i b _ h r e; exact h r e
  | succ n ih =>
    intro i b hi h r e
    refine ih (i + 1) (stB F P i b) (by omega) (fun y hy => ?_) r e
    unfold stB at hy
    by_cases c : (F i && lessB i b && P i) = true
    · rw [if_pos c] at hy
      have := Option.some.inj hy
      omega
    · rw [if_neg c] at hy
      exact h y hy
theorem cm_go {F P : Nat → Bool} {o : Nat} (hl : ∀ i, i < o → F i = true → pcn i < pcn o) : ∀ n i, i + n = o → (gS F P n i none = none ∧ gS F P n i (some o) = some o) ∨ ∃ y, y < o ∧ gS F P n i none = some y ∧ gS F P n i (some o) = some y := by
  intro n
  induction n with
  | zero => intro i _; exact Or.inl ⟨rfl, rfl⟩
  | succ n ih =>
    intro i hi
    rw [gS, gS]
    by_cases c : F i = true ∧ P i = true
    · have e1 : stB F P i none = some i := if_pos (by rw [c.1, c.2]; rfl)
      have e2 : stB F P i (some o) = some i := if_pos (by rw [c.1, c.2]; exact (by rw [show lessB i (some o) = true from decide_eq_true (hl i (by omega) c.1)]; rfl))
      rw [e1, e2]
      cases hr : gS F P n (i + 1) (some i) with
      | none =>
        exfalso
        have : ∀ n i b, (∃ y, b = some y) → ∃ y, gS F P n i b = some y := by
          intro n
          induction n with
          | zero => intro i b h; exact h
          | succ n ih2 =>
            intro i b h
            refine ih2 (i + 1) _ ?_
            unfold stB
            by_cases c : (F i && lessB i b && P i) = true
            · rw [if_pos c]; exact ⟨i, rfl⟩
            · rw [if_neg c]; exact h
        obtain ⟨y, hy⟩ := this n (i + 1) (some i) ⟨i, rfl⟩
        rw [hy] at hr
        exact absurd hr (by simp)
      | some r =>
        exact Or.inr ⟨r, gS_bd n (i + 1) (some i) (by omega) (fun y hy => by have := Option.some.inj hy; omega) r hr, rfl, rfl⟩
    · have e1 : ∀ b, stB F P i b = b := fun b => if_neg (fun q => c (by simp only [Bool.and_eq_true] at q; exact ⟨q.1.1, q.2⟩))
      rw [e1, e1]
      exact ih (i + 1) (by omega)
/-- the one that begins with all and goes over all is the one that begins with nothing and ends at all -/
theorem cm_all {F P : Nat → Bool} {o m : Nat} (ho : o < m) (hF : ∀ i, i < m → F i = true → i ≤ o) (hl : ∀ i, i < o → F i = true → pcn i < pcn o) (ho1 : F o = true) (ho2 : P o = true) : gS F P m 0 (some o) = gS F P (o + 1) 0 none ∧ ∃ y, y ≤ o ∧ gS F P (o + 1) 0 none = some y := by
  have a : gS F P m 0 (some o) = gS F P (o + 1) 0 (some o) := by
    rw [show m = (o + 1) + (m - (o + 1)) by omega, gS_add]
    refine gS_late _ _ _ (fun j h1 h2 => ?_)
    cases hj : F j with
    | false => rfl
    | true => exact absurd (hF j (by omega) hj) (by omega)
  rw [a, gS_add o 1, gS_add o 1, Nat.zero_add]
  rcases cm_go hl (P := P) o 0 (by omega) with ⟨e1, e2⟩ | ⟨y, hy, e1, e2⟩
  · rw [e1, e2]
    have s1 : stB F P o none = some o := if_pos (by rw [ho1, ho2]; rfl)
    have s2 : stB F P o (some o) = some o := by
      unfold stB
      rw [show lessB o (some o) = false from decide_eq_false (by omega), ho1, ho2]
      rfl
    refine ⟨?_, o, Nat.le_refl _, ?_⟩
    · show stB F P o (some o) = stB F P o none
      rw [s1, s2]
    · show stB F P o none = some o
      exact s1
  · rw [e1, e2]
    refine ⟨rfl, ?_⟩
    show ∃ y', y' ≤ o ∧ stB F P o (some y) = some y'
    unfold stB
    by_cases c : (F o && lessB o (some y) && P o) = true
    · rw [if_pos c]; exact ⟨o, Nat.le_refl _, rfl⟩
    · rw [if_neg c]; exact ⟨y, by omega, rfl⟩
theorem stB_no {F P : Nat → Bool} {i : Nat} {b : Option Nat} (h : P i = false) : stB F P i b = b := by
  unfold stB
  rw [h, Bool.and_false]
  rfl
theorem stB_le {F P : Nat → Bool} {i y : Nat} (h : ¬ pcn i < pcn y) : stB F P i (some y) = some y := by
  unfold stB
  rw [show lessB i (some y) = false from decide_eq_false h, Bool.and_false]
  rfl
theorem stB_y {F P : Nat → Bool} {i y : Nat} (hF : F i = true) (h : pcn i < pcn y) (hP : P i = true) : stB F P i (some y) = some i := by
  unfold stB
  rw [show lessB i (some y) = true from decide_eq_true h, hF, hP]
  rfl
theorem stB_n {F P : Nat → Bool} {i : Nat} (hF : F i = true) (hP : P i = true) : stB F P i none = some i := by
  unfold stB
  rw [hF, hP]
  rfl
