/-! ===== hearing: the model, level by level ===== -/
def lv (k : Nat) : Int32 := if k = 0 then -1 else nI (k - 1)
theorem lv_s (k : Nat) : lv (k + 1) = nI k := by
  unfold lv
  rw [if_neg (by omega), Nat.add_sub_cancel]
theorem lv_p {k : Nat} (h : k ≤ 100) : nI k + (-1) = lv k := by
  by_cases e : k = 0
  · subst e
    rfl
  · unfold lv
    rw [if_neg e, m1 (by omega) (by omega)]
/-- the first part of a level is done -/
theorem levM (d : Nat) {S0 : MS} {nf np o O k f0 z : Nat} (H : HM S0 nf np o) (hO : O < 2 ^ 9) (hk : k ≤ 9) : ∀ n i, i + n = nf → ∀ (S : MS) (V : HV), Fr hm S0 S → (∀ f, f < nf → encM S f (V f)) → WV nf (hN (S0.1 55)) V → Fix nf np (frN (S0.1 55)) (toN (S0.1 55)) (trN (S0.1 55) O) f0 z (fun p => k < hN (S0.1 55) (frN (S0.1 55) p) ∨ (hN (S0.1 55) (frN (S0.1 55) p) = k ∧ frN (S0.1 55) p < i)) V → ∃ S' V', mv (kX6_spreads (mFn (d + 5))) 68 [(0, .ref 54), (3, .int (nI O)), (4, .int (nI k)), (5, .int (nI i))] [] S = mv (kX6_spreads (mFn (d + 5))) 60 [(0, .ref 54), (3, .int (nI O)), (4, .int (lv k))] [] S' ∧ Fr hm S0 S' ∧ (∀ f, f < nf → encM S' f (V' f)) ∧ WV nf (hN (S0.1 55)) V' ∧ Fix nf np (frN (S0.1 55)) (toN (S0.1 55)) (trN (S0.1 55) O) f0 z (fun p => k ≤ hN (S0.1 55) (frN (S0.1 55) p)) V' := by
  obtain ⟨n1, n2, rf, rp, w2, w3, gw, sl⟩ := id H
  have hh : ∀ p, p < np → frN (S0.1 55) p < nf := fun p hp => (pN_m n1 n2 rf rp hp).2.2.1
  intro n
  induction n with
  | zero =>
    intro i hi S V hS he hw hF
    refine ⟨S, V, ?_, hS, he, hw, Fix_up hF (fun p hp hq => by omega) (fun p hp hq hn => absurd ?_ hn) (fun f hf => WV_key hw hf)⟩
    · rw [lX6_spreads_68, il2, cl2, hS 55 (by decide), w2, if_pos (nI_le (by omega) (by omega)), lv_p (by omega)]
    · have := hh p hp
      omega
  | succ n ih =>
    intro i hi S V hS he hw hF
    have hi8 : i < 8 := by omega
    have hin : i < nf := by omega
    have e55 : S.1 55 = S0.1 55 := hS 55 (by decide)
    have eh := hN_m rf (f := i) hi8
    rw [lX6_spreads_68, il2, cl2, e55, w2, if_neg (nI_ge (by omega) (by omega)), pM_of2 _ hi8, bI_some, e55, eh.1]
    by_cases ek : hN (S0.1 55) i = k
    · have qi : ∀ V', (∀ f, f < nf → WV nf (hN (S0.1 55)) V') → True := fun _ _ => trivial
      -- a source that gives nothing
      have nothing : (∀ p, p < np → frN (S0.1 55) p = i → ctr (frN (S0.1 55)) (trN (S0.1 55) O) V p = none) → Fix nf np (frN (S0.1 55)) (toN (S0.1 55)) (trN (S0.1 55) O) f0 z (fun p => k < hN (S0.1 55) (frN (S0.1 55) p) ∨ (hN (S0.1 55) (frN (S0.1 55) p) = k ∧ frN (S0.1 55) p < i + 1)) V := by
        intro g
        refine Fix_up hF (fun p hp hq => by omega) (fun p hp hq hn => g p hp ?_) (fun f hf => WV_key hw hf)
        have : ¬ (k < hN (S0.1 55) (frN (S0.1 55) p)) := fun a => hn (Or.inl a)
        have h2 : ¬ (hN (S0.1 55) (frN (S0.1 55) p) = k ∧ frN (S0.1 55) p < i) := fun a => hn (Or.inr a)
        omega
      have hei := he i hin
      rw [if_pos (show nI (hN (S0.1 55) i) = nI k by rw [ek]), if_in hi8 (by omega), if_in hi8 (by omega), cN (show i ≤ 100000 by omega), add1]
      cases hv : V i with
      | none =>
        rw [hv] at hei
        have hei : S.1 65 i = -1 := hei.1
        rw [hei, if_pos (by decide)]
        refine ih (i + 1) (by omega) S V hS he hw (nothing (fun p hp e => ?_))
        unfold ctr
        rw [e, hv]
      | some a =>
        rw [hv] at hei
        obtain ⟨x1, x2, x3, x4⟩ := hei
        have hWi := hw i hin a.1 a.2 hv
        have q6 := rM_m rf hi8
        have on := on_M (d + 3) (S := S) hi8 (nI a.2) (by rw [e55]; exact q6)
        rw [e55] at on
        rw [x1, if_neg (nI_pos (by omega)), x2, show mFn (d + 5) 99 [.ref 54, .int (nI i), .int (nI a.2)] S = _ from on, bI_some]
        by_cases ho : onn (S0.1 55) i (nI a.2) = 0
        · rw [if_pos ho]
          refine ih (i + 1) (by omega) S V hS he hw (nothing (fun p hp e => ?_))
          unfold ctr
          rw [e, hv]
          show trN (S0.1 55) O p a.1 a.2 = none
          unfold trN
          rw [e, if_neg (fun z => z.2 ho)]
        · rw [if_neg ho]
          obtain ⟨T, t1, t2⟩ := said_M d (S := S) hi8 (nI a.2) (by rw [e55]; exact gw)
          rw [e55, (sdN_r (S0.1 55) i a.2).1] at t1
          have hT : Fr hm S0 T := hS.tr (t2.up (by decide))
          have heT : ∀ f, f < nf → encM T f (V f) := fun f hf => encM_c (by rw [t2 65 (by decide)]) (by rw [t2 66 (by decide)]) (he f hf)
          obtain ⟨U, u1, u2, u3⟩ := sayM (d + 3) H hin hO ho (by omega) np 0 (by omega) T V hT heT hw hv
          have row : mFn (d + 5) 132 [.ref 54, .int (nI i), .int (nI O)] S = some (none, U) := by
            rw [fX6_saysOn, if_in hi8 (by omega), cN (show i ≤ 100000 by omega), x2, show mFn (d + 4) 98 [.ref 54, .int (nI i), .int (nI a.2)] S = _ from t1, bI_some]
            exact u1
          rw [row, bV_some]
          have hU : Fr hm S0 U := hT.tr (u2.up (by decide))
          have hC : ∀ j, j < np → frN (S0.1 55) j = i → k ≤ hN (S0.1 55) (toN (S0.1 55) j) → btr (V (toN (S0.1 55) j)) (ctr (frN (S0.1 55)) (trN (S0.1 55) O) V j) = V (toN (S0.1 55) j) := by
            intro j hj e hc
            have g := (pN_m n1 n2 rf rp hj).2.2.2.2
            rw [e, ek] at g
            omega
          obtain ⟨v1, v2, v3⟩ := runp_ok (nf := nf) (np := np) (f0 := f0) (z := z) (Q := fun p => k < hN (S0.1 55) (frN (S0.1 55) p) ∨ (hN (S0.1 55) (frN (S0.1 55) p) = k ∧ frN (S0.1 55) p < i)) (C := fun f => k ≤ hN (S0.1 55) f) (s := i) (W := V) hh (TB_m n1 n2 rf rp O) (fun p hp hq => by omega) (by omega) hC np 0 (by omega) V (fun _ _ => rfl) hw (Fix_up hF (fun p hp hq => Or.inl hq) (fun p hp hq hn => absurd (hq.resolve_right (fun z => absurd z.2 (by omega))) hn) (fun f hf => WV_key hw hf))
          refine ih (i + 1) (by omega) U _ hU u3 v2 (Fix_up v3 (fun p hp hq => ?_) (fun p hp hq hn => absurd ?_ hn) (fun f hf => WV_key v2 hf))
          · rcases hq with hq | hq
            · omega
            · rw [hq, ek]
              exact Or.inr ⟨rfl, by omega⟩
          · rcases hq with hq | hq
            · exact Or.inl (Or.inl hq)
            · by_cases e : frN (S0.1 55) p = i
              · exact Or.inr e
              · exact Or.inl (Or.inr ⟨hq.1, by omega⟩)
    · rw [if_neg (fun z => ek ((nI_eq (by omega) (by omega)).mp z)), add1]
      refine ih (i + 1) (by omega) S V hS he hw (Fix_up hF (fun p hp hq => by omega) (fun p hp hq hn => absurd ?_ hn) (fun f hf => WV_key hw hf))
      by_cases e : frN (S0.1 55) p = i
      · rw [e] at hq ⊢
        omega
      · omega
theorem allM (d : Nat) {S0 : MS} {nf np o O f0 z : Nat} (H : HM S0 nf np o) (hO : O < 2 ^ 9) : ∀ K, K ≤ 10 → ∀ (S : MS) (V : HV), Fr hm S0 S → (∀ f, f < nf → encM S f (V f)) → WV nf (hN (S0.1 55)) V → Fix nf np (frN (S0.1 55)) (toN (S0.1 55)) (trN (S0.1 55) O) f0 z (fun p => K ≤ hN (S0.1 55) (frN (S0.1 55) p)) V → ∃ S' V', mv (kX6_spreads (mFn (d + 5))) 60 [(0, .ref 54), (3, .int (nI O)), (4, .int (lv K))] [] S = some (none, S') ∧ Fr hm S0 S' ∧ (∀ f, f < nf → encM S' f (V' f)) ∧ WV nf (hN (S0.1 55)) V' ∧ Fix nf np (frN (S0.1 55)) (toN (S0.1 55)) (trN (S0.1 55) O) f0 z (fun _ => True) V' := by
  intro K
  induction K with
  | zero =>
    intro _ S V hS he hw hF
    refine ⟨S, V, ?_, hS, he, hw, Fix_up hF (fun _ _ _ => trivial) (fun p hp _ hn => absurd (Nat.zero_le _) hn) (fun f hf => WV_key hw hf)⟩
    rw [lX6_spreads_60, show lv 0 = -1 from rfl, if_pos (by decide)]
  | succ K ih =>
    intro hK S V hS he hw hF
    obtain ⟨T, W, t1, t2, t3, t4, t5⟩ := levM d (k := K) H hO (by omega) nf 0 (by omega) S V hS he hw (Fix_up hF (fun p hp hq => by omega) (fun p hp hq hn => absurd (by omega) hn) (fun f hf => WV_key hw hf))
    obtain ⟨U, X, u1, u2⟩ := ih (by omega) T W t2 t3 t4 t5
    refine ⟨U, X, ?_, u2⟩
    rw [lX6_spreads_60, lv_s, if_neg (nI_pos (by omega))]
    exact t1.trans u1
theorem initM (d : Nat) {f0 : Nat} (hf0 : f0 < 8) (z : Int32) (O : Int32) : ∀ n i, i + n = 8 → ∀ S : MS, ∃ T, mv (kX6_spreads (mFn d)) 3 [(0, .ref 54), (1, .int (nI f0)), (2, .int z), (3, .int O), (4, .int (nI i))] [] S = mv (kX6_spreads (mFn d)) 3 [(0, .ref 54), (1, .int (nI f0)), (2, .int z), (3, .int O), (4, .int (nI 8))] [] T ∧ Fr [65, 66] S T ∧ (∀ j, i ≤ j → j < 8 → T.1 65 j = (if j = f0 then 0 else -1) ∧ T.1 66 j = (if j = f0 then z else 0)) ∧ ∀ j, j < i → T.1 65 j = S.1 65 j ∧ T.1 66 j = S.1 66 j := by
  intro n
  induction n with
  | zero =>
    intro i hi S
    have e : i = 8 := by omega
    subst e
    exact ⟨S, rfl, Fr.rf, fun j h1 h2 => by omega, fun j _ => ⟨rfl, rfl⟩⟩
  | succ n ih =>
    intro i hi S
    obtain ⟨T, t1, t2, t3, t4⟩ := ih (i + 1) (by omega) (uI (uI S 65 i (if i = f0 then 0 else -1)) 66 i (if i = f0 then z else 0))
    refine ⟨T, ?_, ((Fr.rf.put (by decide)).put (by decide)).tr t2, fun j h1 h2 => ?_, fun j hj => ?_⟩
    · rw [lX6_spreads_3, if_neg (show ¬ (8 : Int32) ≤ nI i from nI_ge (a := i) (b := 8) (by omega) (by decide))]
      by_cases e : i = f0
      · rw [if_pos e, if_pos e] at t1
        rw [if_pos (show nI i = nI f0 by rw [e]), if_in (show i < 8 by omega) (by omega), if_pos (show nI i = nI f0 by rw [e]), if_in (show i < 8 by omega) (by omega), cN (show i ≤ 100000 by omega), add1]
        exact t1
      · have ne : ¬ nI i = nI f0 := fun q => e ((nI_eq (by omega) (by omega)).mp q)
        rw [if_neg e, if_neg e] at t1
        rw [if_neg ne, if_in (show i < 8 by omega) (by omega), if_neg ne, if_in (show i < 8 by omega) (by omega), cN (show i ≤ 100000 by omega), add1]
        exact t1
    · by_cases e : j = i
      · obtain ⟨a, b⟩ := t4 j (by omega)
        rw [a, b, e, uI_oth (by decide), uI_eq, uI_eq]
        exact ⟨rfl, rfl⟩
      · exact t3 j (by omega) h2
    · obtain ⟨a, b⟩ := t4 j (by omega)
      rw [a, b, uI_oth (by decide), uI_ni _ (by omega), uI_ni _ (by omega), uI_oth (by decide)]
      exact ⟨rfl, rfl⟩
def EndM (S0 S' : MS) (nf np O f0 z : Nat) : Prop := ∃ V', Fr hm S0 S' ∧ (∀ f, f < nf → encM S' f (V' f)) ∧ WV nf (hN (S0.1 55)) V' ∧ Fix nf np (frN (S0.1 55)) (toN (S0.1 55)) (trN (S0.1 55) O) f0 z (fun _ => True) V'
theorem spreadM (d : Nat) {S0 : MS} {nf np o O f0 z : Nat} (H : HM S0 nf np o) (hO : O < 2 ^ 9) (hf0 : f0 < nf) (hz : 1 ≤ z ∧ z ≤ 99) (S : MS) (hS : Fr hm S0 S) : ∃ S', mFn (d + 6) 133 [.ref 54, .int (nI f0), .int (nI z), .int (nI O)] S = some (none, S') ∧ EndM S0 S' nf np O f0 z := by
  obtain ⟨n1, n2, rf, rp, w2, w3, gw, sl⟩ := id H
  obtain ⟨T, t1, t2, t3, _⟩ := initM (d + 5) (f0 := f0) (by omega) (nI z) (nI O) 8 0 (by omega) S
  have hT : Fr hm S0 T := hS.tr (t2.up (by decide))
  have e55 : T.1 55 = S0.1 55 := hT 55 (by decide)
  have v0 : V0 f0 z f0 = some (0, z) := if_pos rfl
  have vn : ∀ f, f ≠ f0 → V0 f0 z f = none := fun f hf => if_neg hf
  have eh := hN_m rf (f := f0) (by omega)
  have wv : WV nf (hN (S0.1 55)) (V0 f0 z) := by
    intro f hf w x e
    by_cases ef : f = f0
    · rw [ef, v0] at e
      have e2 := Option.some.inj e
      have ew : 0 = w := congrArg Prod.fst e2
      have ex : z = x := congrArg Prod.snd e2
      have := (hN_m rf (f := f) (by omega)).2
      omega
    · rw [vn f ef] at e
      exact absurd e (by simp)
  obtain ⟨S', V', k1, k2⟩ := allM d (f0 := f0) (z := z) H hO (hN (S0.1 55) f0 + 1) (by omega) T (V0 f0 z) hT (fun f hf => by
    obtain ⟨a, b⟩ := t3 f (Nat.zero_le _) (by omega)
    by_cases ef : f = f0
    · rw [if_pos ef] at a b
      rw [ef, v0]
      rw [ef] at a b
      exact ⟨a, b, by show 0 < 1000; omega, hz.2⟩
    · rw [if_neg ef] at a b
      rw [vn f ef]
      exact ⟨a, b⟩) wv (Fix_up Fix_0 (fun _ _ q => q.elim) (fun p hp q _ => by
    unfold ctr
    rw [vn _ (fun e => by rw [e] at q; omega)]) (fun f hf => WV_key wv hf))
  refine ⟨S', ?_, V', k2⟩
  rw [fX6_spreads]
  refine t1.trans ?_
  rw [lX6_spreads_3, if_pos (show (8 : Int32) ≤ nI 8 from Int32.le_refl _), pM_of2 _ (show f0 < 8 by omega), bI_some, e55, eh.1, ← lv_s]
  exact k1
theorem findM (d : Nat) {S0 : MS} {nf np o : Nat} (n1 : nf ≤ 8) (n2 : np ≤ 9) (rf : RFm (S0.1 55)) (rp : RPm (S0.1 55) nf np o) (w3 : S0.1 55 3 = nI np) (gw : GW (S0.1 55) 280) : ∀ n i, i + n = np → ∀ S : MS, Fr [63, 64, 67] S0 S → (∀ p, p < i → S.1 67 p = nI (slN (S0.1 55) p)) → ∃ T, mv (kX6_findSlow (mFn (d + 4))) 2 [(0, .ref 54), (1, .int (nI i))] [] S = some (none, T) ∧ Fr [63, 64, 67] S0 T ∧ ∀ p, p < np → T.1 67 p = nI (slN (S0.1 55) p) := by
  intro n
  induction n with
  | zero =>
    intro i hi S hS h1
    refine ⟨S, ?_, hS, fun p hp => h1 p (by omega)⟩
    rw [lX6_findSlow_2, il3, cl3, hS 55 (by decide), w3, if_pos (nI_le (by omega) (by omega))]
  | succ n ih =>
    intro i hi S hS h1
    have e : S.1 55 = S0.1 55 := hS 55 (by decide)
    obtain ⟨p1, p2, p3, p4, p5⟩ := pN_m n1 n2 rf rp (p := i) (by omega)
    obtain ⟨T, t1, t2⟩ := slow_M d (S := S) (p := i) (nf := nf) (by omega) n1 p3 p4 (by rw [e]; exact p1) (by rw [e]; exact p2) (by rw [e]; exact gw)
    rw [e, (slN_r (S0.1 55) i).1] at t1
    obtain ⟨U, u1, u2, u3⟩ := ih (i + 1) (by omega) (uI T 67 i (nI (slN (S0.1 55) i))) ((hS.tr (t2.up (by decide))).put (by decide)) (fun p hp => by
      by_cases e : p = i
      · rw [e, uI_eq]
      · rw [uI_ni _ e, t2 67 (by decide)]
        exact h1 p (by omega))
    refine ⟨U, ?_, u2, u3⟩
    rw [lX6_findSlow_2, il3, cl3, e, w3, if_neg (nI_ge (by omega) (by omega)), t1, bI_some, if_in (show i < 9 by omega) (by omega), cN (by omega), add1]
    exact u1
