/-! ===== how a saying spreads, in numbers ===== -/
abbrev HV : Type := Nat → Option (Nat × Nat)
def key : Option (Nat × Nat) → Nat
  | none => 1000000000
  | some a => a.1 * 128 + (127 - a.2)
def btr (v c : Option (Nat × Nat)) : Option (Nat × Nat) := if key c < key v then c else v
theorem btr_l (v c : Option (Nat × Nat)) : key (btr v c) ≤ key v := by
  unfold btr
  by_cases h : key c < key v
  · rw [if_pos h]; omega
  · rw [if_neg h]; omega
theorem btr_r (v c : Option (Nat × Nat)) : key (btr v c) ≤ key c := by
  unfold btr
  by_cases h : key c < key v
  · rw [if_pos h]; omega
  · rw [if_neg h]; omega
theorem btr_or (v c : Option (Nat × Nat)) : btr v c = v ∨ btr v c = c := by
  unfold btr
  by_cases h : key c < key v
  · rw [if_pos h]; exact Or.inr rfl
  · rw [if_neg h]; exact Or.inl rfl
def setV (V : HV) (f : Nat) (v : Option (Nat × Nat)) : HV := fun g => if g = f then v else V g
theorem setV_eq (V : HV) (f : Nat) (v : Option (Nat × Nat)) : setV V f v f = v := if_pos rfl
theorem setV_ne {V : HV} {f g : Nat} {v : Option (Nat × Nat)} (h : g ≠ f) : setV V f v g = V g := if_neg h
abbrev TR : Type := Nat → Nat → Nat → Option (Nat × Nat)
/-- what comes through a pipe -/
def ctr (fr : Nat → Nat) (tr : TR) (V : HV) (p : Nat) : Option (Nat × Nat) := match V (fr p) with
  | none => none
  | some a => tr p a.1 a.2
theorem ctr_c {fr : Nat → Nat} {tr : TR} {V V' : HV} {p : Nat} (h : V' (fr p) = V (fr p)) : ctr fr tr V' p = ctr fr tr V p := by
  unfold ctr
  rw [h]
def Fix (nf np : Nat) (fr to : Nat → Nat) (tr : TR) (f0 z : Nat) (Q : Nat → Prop) (V : HV) : Prop := ∀ f, f < nf → (∀ p, p < np → Q p → to p = f → key (V f) ≤ key (ctr fr tr V p)) ∧ (f = f0 → key (V f) ≤ key (some (0, z))) ∧ (V f = none ∨ (f = f0 ∧ V f = some (0, z)) ∨ ∃ p, p < np ∧ Q p ∧ to p = f ∧ V f = ctr fr tr V p)
theorem Fix_up {nf np : Nat} {fr to : Nat → Nat} {tr : TR} {f0 z : Nat} {Q Q' : Nat → Prop} {V : HV} (h : Fix nf np fr to tr f0 z Q V) (h1 : ∀ p, p < np → Q p → Q' p) (h2 : ∀ p, p < np → Q' p → ¬ Q p → ctr fr tr V p = none) (hk : ∀ f, f < nf → key (V f) ≤ 1000000000) : Fix nf np fr to tr f0 z Q' V := by
  intro f hf
  obtain ⟨a1, a2, a3⟩ := h f hf
  refine ⟨fun p hp hq ht => ?_, a2, ?_⟩
  · by_cases hQ : Q p
    · exact a1 p hp hQ ht
    · rw [h2 p hp hq hQ]
      exact hk f hf
  · rcases a3 with e | e | ⟨p, hp, hq, ht, e⟩
    · exact Or.inl e
    · exact Or.inr (Or.inl e)
    · exact Or.inr (Or.inr ⟨p, hp, h1 p hp hq, ht, e⟩)
theorem Fix_step {nf np : Nat} {fr to : Nat → Nat} {tr : TR} {f0 z : Nat} {Q Q' : Nat → Prop} {V : HV} {i : Nat} (hi : i < np) (h : Fix nf np fr to tr f0 z Q V) (hQ : ∀ p, p < np → (Q' p ↔ Q p ∨ p = i)) (hu : ∀ p, p < np → Q' p → setV V (to i) (btr (V (to i)) (ctr fr tr V i)) (fr p) = V (fr p)) : Fix nf np fr to tr f0 z Q' (setV V (to i) (btr (V (to i)) (ctr fr tr V i))) := by
  intro f hf
  obtain ⟨a1, a2, a3⟩ := h f hf
  by_cases hfi : f = to i
  · subst hfi
    rw [setV_eq]
    refine ⟨fun p hp hq ht => ?_, fun e => Nat.le_trans (btr_l _ _) (a2 e), ?_⟩
    · rw [ctr_c (hu p hp hq)]
      rcases (hQ p hp).mp hq with hq1 | e
      · exact Nat.le_trans (btr_l _ _) (a1 p hp hq1 ht)
      · rw [e]
        exact btr_r _ _
    · rcases btr_or (V (to i)) (ctr fr tr V i) with e | e
      · rcases a3 with e3 | e3 | ⟨p, hp, hq, ht, e3⟩
        · exact Or.inl (e.trans e3)
        · exact Or.inr (Or.inl ⟨e3.1, e.trans e3.2⟩)
        · have hq' := (hQ p hp).mpr (Or.inl hq)
          exact Or.inr (Or.inr ⟨p, hp, hq', ht, (e.trans e3).trans (ctr_c (hu p hp hq')).symm⟩)
      · have hq' := (hQ i hi).mpr (Or.inr rfl)
        exact Or.inr (Or.inr ⟨i, hi, hq', rfl, e.trans (ctr_c (hu i hi hq')).symm⟩)
  · rw [setV_ne hfi]
    refine ⟨fun p hp hq ht => ?_, a2, ?_⟩
    · rw [ctr_c (hu p hp hq)]
      rcases (hQ p hp).mp hq with hq1 | e
      · exact a1 p hp hq1 ht
      · exact absurd (by rw [← ht, e]) hfi
    · rcases a3 with e | e | ⟨p, hp, hq, ht, e⟩
      · exact Or.inl e
      · exact Or.inr (Or.inl e)
      · have hq' := (hQ p hp).mpr (Or.inl hq)
        exact Or.inr (Or.inr ⟨p, hp, hq', ht, by rw [ctr_c (hu p hp hq')]; exact e⟩)
def V0 (f0 z : Nat) : HV := fun f => if f = f0 then some (0, z) else none
theorem Fix_0 {nf np : Nat} {fr to : Nat → Nat} {tr : TR} {f0 z : Nat} : Fix nf np fr to tr f0 z (fun _ => False) (V0 f0 z) := by
  intro f hf
  refine ⟨fun p _ hq _ => hq.elim, fun e => ?_, ?_⟩
  · unfold V0
    rw [if_pos e]
    exact Nat.le_refl _
  · unfold V0
    by_cases e : f = f0
    · rw [if_pos e]
      exact Or.inr (Or.inl ⟨e, rfl⟩)
    · rw [if_neg e]
      exact Or.inl rfl
/-- sizes and times stay small -/
def WV (nf : Nat) (h : Nat → Nat) (V : HV) : Prop := ∀ f, f < nf → ∀ w x, V f = some (w, x) → w + 20 * h f ≤ 180 ∧ 1 ≤ x ∧ x ≤ 99
theorem WV_key {nf : Nat} {h : Nat → Nat} {V : HV} (hw : WV nf h V) {f : Nat} (hf : f < nf) : key (V f) ≤ 1000000000 := by
  cases e : V f with
  | none => exact Nat.le_refl _
  | some a =>
    have g := hw f hf a.1 a.2 e
    show a.1 * 128 + (127 - a.2) ≤ _
    omega
theorem key_inj {nf : Nat} {h : Nat → Nat} {V V' : HV} (hw : WV nf h V) (hw' : WV nf h V') {f : Nat} (hf : f < nf) (hk : key (V f) = key (V' f)) : V f = V' f := by
  cases e : V f with
  | none =>
    cases e' : V' f with
    | none => rfl
    | some a =>
      have g := hw' f hf a.1 a.2 e'
      rw [e, e'] at hk
      have hk : 1000000000 = a.1 * 128 + (127 - a.2) := hk
      omega
  | some a =>
    cases e' : V' f with
    | none =>
      have g := hw f hf a.1 a.2 e
      rw [e, e'] at hk
      have hk : a.1 * 128 + (127 - a.2) = 1000000000 := hk
      omega
    | some b =>
      have g := hw f hf a.1 a.2 e
      have g' := hw' f hf b.1 b.2 e'
      rw [e, e'] at hk
      have hk : a.1 * 128 + (127 - a.2) = b.1 * 128 + (127 - b.2) := hk
      have e1 : a.1 = b.1 := by omega
      have e2 : a.2 = b.2 := by omega
      rw [show a = b from Prod.ext e1 e2]
theorem Fix_uniq {nf np : Nat} {fr to : Nat → Nat} {tr : TR} {f0 z : Nat} {h : Nat → Nat} {V V' : HV} (hh : ∀ p, p < np → fr p < nf ∧ to p < nf ∧ h (to p) < h (fr p)) (h9 : ∀ f, f < nf → h f ≤ 9) (a : Fix nf np fr to tr f0 z (fun _ => True) V) (a' : Fix nf np fr to tr f0 z (fun _ => True) V') (hw : WV nf h V) (hw' : WV nf h V') : ∀ n f, f < nf → 9 - h f < n → V f = V' f := by
  intro n
  induction n with
  | zero => intro f _ hn; omega
  | succ n ih =>
    intro f hf hn
    have src : ∀ p, p < np → to p = f → V (fr p) = V' (fr p) := fun p hp ht => by
      obtain ⟨q1, q2, q3⟩ := hh p hp
      rw [ht] at q3
      have := h9 (fr p) q1
      exact ih (fr p) q1 (by omega)
    obtain ⟨u1, u2, u3⟩ := a f hf
    obtain ⟨v1, v2, v3⟩ := a' f hf
    refine key_inj hw hw' hf (Nat.le_antisymm ?_ ?_)
    · rcases v3 with e | ⟨e0, e⟩ | ⟨p, hp, _, ht, e⟩
      · rw [e]; exact WV_key hw hf
      · rw [e]; exact u2 e0
      · rw [e, ← ctr_c (src p hp ht)]; exact u1 p hp trivial ht
    · rcases u3 with e | ⟨e0, e⟩ | ⟨p, hp, _, ht, e⟩
      · rw [e]; exact WV_key hw' hf
      · rw [e]; exact v2 e0
      · rw [e, ctr_c (src p hp ht)]; exact v1 p hp trivial ht
/-- all pipes from s, in their order -/
def stp (fr to : Nat → Nat) (tr : TR) (s : Nat) (V : HV) (i : Nat) : HV := if fr i = s then setV V (to i) (btr (V (to i)) (ctr fr tr V i)) else V
def runp (fr to : Nat → Nat) (tr : TR) (s : Nat) : Nat → Nat → HV → HV
  | 0, _, V => V
  | n + 1, i, V => runp fr to tr s n (i + 1) (stp fr to tr s V i)
/-- what pipes give stays small -/
def TB (np : Nat) (fr to : Nat → Nat) (tr : TR) (h : Nat → Nat) : Prop := ∀ p, p < np → ∀ w x w' x', w + 20 * h (fr p) ≤ 180 → 1 ≤ x → x ≤ 99 → tr p w x = some (w', x') → w' + 20 * h (to p) ≤ 180 ∧ 1 ≤ x' ∧ x' ≤ 99 ∧ w < w'
theorem WV_stp {nf np : Nat} {fr to : Nat → Nat} {tr : TR} {h : Nat → Nat} {V : HV} {s i : Nat} (hi : i < np) (hfr : fr i < nf) (tb : TB np fr to tr h) (hw : WV nf h V) : WV nf h (stp fr to tr s V i) := by
  unfold stp
  by_cases e : fr i = s
  · rw [if_pos e]
    intro f hf w x hv
    by_cases ef : f = to i
    · subst ef
      rw [setV_eq] at hv
      rcases btr_or (V (to i)) (ctr fr tr V i) with g | g
      · rw [g] at hv
        exact hw _ hf w x hv
      · rw [g] at hv
        unfold ctr at hv
        cases hs : V (fr i) with
        | none => rw [hs] at hv; exact absurd hv (by simp)
        | some a =>
          rw [hs] at hv
          have k := hw (fr i) hfr a.1 a.2 hs
          have k2 := tb i hi a.1 a.2 w x k.1 k.2.1 k.2.2 hv
          exact ⟨k2.1, k2.2.1, k2.2.2.1⟩
    · rw [setV_ne ef] at hv
      exact hw f hf w x hv
  · rw [if_neg e]
    exact hw
theorem runp_ok {nf np : Nat} {fr to : Nat → Nat} {tr : TR} {f0 z : Nat} {h : Nat → Nat} {Q C : Nat → Prop} {s : Nat} {W : HV} (hfr : ∀ p, p < np → fr p < nf) (tb : TB np fr to tr h) (hQ : ∀ p, p < np → Q p → C (fr p)) (hs : C s) (hC : ∀ i, i < np → fr i = s → C (to i) → btr (W (to i)) (ctr fr tr W i) = W (to i)) : ∀ n i, i + n = np → ∀ V, (∀ f, C f → V f = W f) → WV nf h V → Fix nf np fr to tr f0 z (fun p => Q p ∨ (fr p = s ∧ p < i)) V → (∀ f, C f → runp fr to tr s n i V f = W f) ∧ WV nf h (runp fr to tr s n i V) ∧ Fix nf np fr to tr f0 z (fun p => Q p ∨ fr p = s) (runp fr to tr s n i V) := by
  intro n
  induction n with
  | zero =>
    intro i hi V h1 h2 h3
    refine ⟨h1, h2, Fix_up h3 (fun p hp hq => ?_) (fun p hp hq hn => ?_) (fun f hf => WV_key h2 hf)⟩
    · rcases hq with hq | hq
      · exact Or.inl hq
      · exact Or.inr hq.1
    · refine absurd ?_ hn
      rcases hq with hq | hq
      · exact Or.inl hq
      · exact Or.inr ⟨hq, by omega⟩
  | succ n ih =>
    intro i hi V h1 h2 h3
    have hin : i < np := by omega
    refine ih (i + 1) (by omega) (stp fr to tr s V i) ?_ (WV_stp hin (hfr i hin) tb h2) ?_
    · intro f hf
      unfold stp
      by_cases e : fr i = s
      · rw [if_pos e]
        by_cases ef : f = to i
        · subst ef
          rw [setV_eq, h1 _ hf, ctr_c (V := W) (V' := V) (by rw [e]; exact h1 s hs), hC i hin e hf]
        · rw [setV_ne ef]
          exact h1 f hf
      · rw [if_neg e]
        exact h1 f hf
    · unfold stp
      by_cases e : fr i = s
      · rw [if_pos e]
        refine Fix_step hin h3 (fun p hp => ⟨fun hq => ?_, fun hq => ?_⟩) (fun p hp hq => ?_)
        · rcases hq with hq | hq
          · exact Or.inl (Or.inl hq)
          · by_cases hpi : p = i
            · exact Or.inr hpi
            · exact Or.inl (Or.inr ⟨hq.1, by omega⟩)
        · rcases hq with (hq | hq) | hq
          · exact Or.inl hq
          · exact Or.inr ⟨hq.1, by omega⟩
          · rw [hq]
            exact Or.inr ⟨e, by omega⟩
        · have hc : C (fr p) := by
            rcases hq with hq | hq
            · exact hQ p hp hq
            · rw [hq.1]
              exact hs
          by_cases ef : fr p = to i
          · rw [ef] at hc ⊢
            rw [setV_eq, h1 _ hc, ctr_c (V := W) (V' := V) (by rw [e]; exact h1 s hs), hC i hin e hc]
          · rw [setV_ne ef]
      · rw [if_neg e]
        refine Fix_up h3 (fun p hp hq => ?_) (fun p hp hq hn => ?_) (fun f hf => WV_key h2 hf)
        · rcases hq with hq | hq
          · exact Or.inl hq
          · exact Or.inr ⟨hq.1, by omega⟩
        · refine absurd ?_ hn
          rcases hq with hq | hq
          · exact Or.inl hq
          · refine Or.inr ⟨hq.1, ?_⟩
            by_cases hpi : p = i
            · rw [hpi] at hq
              exact absurd hq.1 e
            · omega
