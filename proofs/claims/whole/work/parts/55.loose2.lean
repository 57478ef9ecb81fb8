theorem drawM (d : Nat) (S : MS) : mFn (d + 1) 141 [.ref 54] S = some (some (.int (nI (dw (zz (S.1 55 1))))), uI S 55 1 (zz (S.1 55 1))) := by
  rw [fX6_draw, il1, il1, il1, cl1, uI_eq, show fAdd (fMul (S.1 55 1) 1103515245) 12345 = zz (S.1 55 1) from rfl, (dw_e (zz (S.1 55 1))).1]
/-- one day of the model -/
theorem dayM (d : Nat) {ρ : Nat → Int32} {S : MS} {nf np o acc i : Nat} {x : Int32} (H : MRw ρ nf np o) (hS : S.1 55 = ρ) (hi : ¬ x ≤ nI i) : ∃ S', mv (kX6_loose (mFn (d + 8))) 42 [(0, .ref 54), (1, .int x), (2, .int (nI acc)), (3, .int (nI i))] [] S = mv (kX6_loose (mFn (d + 8))) 42 [(0, .ref 54), (1, .int x), (2, .int (nI (acc ||| dayD nf np o ρ))), (3, .int (nI (i + 1)))] [] S' ∧ S'.1 55 = dayR nf np o ρ ∧ Fr [55, 63, 64, 65, 66, 67] S S' := by
  have n1 := H.1
  have w2 := H.2.2.2.2.1
  obtain ⟨e1, l1⟩ := dw_e (zz (ρ 1))
  obtain ⟨e2, l2⟩ := dw_e (zz (zz (ρ 1)))
  obtain ⟨e3, l3⟩ := dw_e (zz (zz (zz (ρ 1))))
  have row := lX6_loose_42 (d + 8) x (nI acc) (nI i) S
  rw [if_neg hi, drawM, bI_some, if_neg (show ¬ (10 : Int32) = 0 by decide), il4, cl4, il2, cl2, hS, rem10 _ l1, uI_ni _ (show (2 : Nat) ≠ 4 by decide), uI_ni _ (show (2 : Nat) ≠ 1 by decide), hS, w2, add1] at row
  generalize hT1 : uI (uI S 55 1 (zz (ρ 1))) 55 4 (nI (dw (zz (ρ 1)) % 10)) = T1 at row
  have T1r : T1.1 55 = d1 ρ := by rw [← hT1, uI55, uI55, hS]; rfl
  have fT1 : Fr [55] S T1 := by
    intro k hk
    have hk : k ≠ 55 := by simpa using hk
    rw [← hT1, uI_oth hk, uI_oth hk]
  by_cases n0 : nf = 0
  · have eD : dayD nf np o ρ = 0 := if_pos n0
    have eR : dayR nf np o ρ = setR (d1 ρ) 0 (fAdd (ρ 0) 1) := if_pos n0
    rw [eD, eR, Nat.or_zero]
    rw [if_pos (show nI nf ≤ 0 by rw [n0]; decide), il0, il0, cl0, T1r, show d1 ρ 0 = ρ 0 by unfold d1; rw [setR_ne (by decide), setR_ne (by decide)]] at row
    exact ⟨_, row, by rw [uI55, T1r], (fT1.up (by decide)).put (by decide)⟩
  · have eD : dayD nf np o ρ = dnv (dV nf np o ρ) nf := if_neg n0
    have eR : dayR nf np o ρ = setR (talkR nf (dV nf np o ρ) (d3 ρ)) 0 (fAdd (ρ 0) 1) := if_neg n0
    rw [eD, eR]
    have r1 : d1 ρ 1 = zz (ρ 1) := by unfold d1; rw [setR_ne (by decide), setR_eq]
    have r2 : d1 ρ 2 = nI nf := by unfold d1; rw [setR_ne (by decide), setR_ne (by decide)]; exact w2
    rw [if_neg (show ¬ nI nf ≤ 0 from nI_ge (a := 0) (b := nf) (by omega) (by omega)), drawM, bI_some, T1r, r1, if_neg (show ¬ ((2 : Int32) < 0 ∨ 401 ≤ (2 : Nat)) by decide), uI_ni _ (show (2 : Nat) ≠ 1 by decide), T1r, r2, if_neg (nI_ne0 (by omega) (by omega)), drawM, bI_some, if_neg (show ¬ (20 : Int32) = 0 by decide), uI_eq, rem20 _ l3, pk_rem (by omega) (by omega) (by omega)] at row
    generalize hT3 : uI (uI T1 55 1 (zz (zz (ρ 1)))) 55 1 (zz (zz (zz (ρ 1)))) = T3 at row
    have T3r : T3.1 55 = d3 ρ := by rw [← hT3, uI55, uI55, T1r]; rfl
    have fT3 : Fr [55] S T3 := by
      intro k hk
      have hk' : k ≠ 55 := by simpa using hk
      rw [← hT3, uI_oth hk', uI_oth hk']
      exact fT1 k hk
    have lm := Nat.mod_lt (dw (zz (zz (ρ 1)))) (show nf > 0 by omega)
    have lz := Nat.mod_lt (dw (zz (zz (zz (ρ 1))))) (show 20 > 0 by omega)
    obtain ⟨U, u1, u2, u3, _⟩ := letsR d (f0 := dw (zz (zz (ρ 1))) % nf) (z := 1 + dw (zz (zz (zz (ρ 1)))) % 20) (MRw_k (d3_k H.2.2.1) H) T3r lm ⟨by omega, by omega⟩
    have u3 : U.1 55 = talkR nf (dV nf np o ρ) (d3 ρ) := u3
    have eU0 : U.1 55 0 = ρ 0 := by
      rw [u3, talkR_ne (fun f _ => by omega)]
      unfold d3 d1
      rw [setR_ne (by decide), setR_ne (by decide), setR_ne (by decide), setR_ne (by decide)]
    rw [u1, bI_some, il0, il0, cl0, show fOr (nI acc) (nI (dnv (sol (d3 ρ) nf np (dw (zz (zz (ρ 1))) % nf) (1 + dw (zz (zz (zz (ρ 1)))) % 20) o) nf)) = nI (acc ||| dnv (dV nf np o ρ) nf) from fa_or _ _, eU0] at row
    exact ⟨_, row, by rw [uI55, u3], ((fT3.up (by decide)).tr (u2.up (by decide))).put (by decide)⟩
theorem sol_r {ρ : Nat → Int32} {S : MS} {nf np o O f0 z : Nat} (H : CF ρ S nf np o) (hO : O < 2 ^ 9) (hf0 : f0 < nf) (hz : 1 ≤ z ∧ z ≤ 99) : ∀ f, f < nf → ∀ a, sol ρ nf np f0 z O f = some a → a.2 ≤ 99 := by
  intro f hf a ha
  obtain ⟨A, a1, a2, HA⟩ := nowR 1 H
  obtain ⟨A', dn, k1, k2, k3, _⟩ := spR 0 (O := O) HA hO hf0 hz A Fr.rf
  have e := k3 f hf
  rw [ha] at e
  exact e.2.2.2
theorem upT_r {v : Int32} {w : Option (Nat × Nat)} (hv : 0 ≤ v ∧ v ≤ 99999) (hw : ∀ a, w = some a → a.2 ≤ 99) : 0 ≤ upT v w ∧ upT v w ≤ 99999 := by
  obtain ⟨a, ha, rfl⟩ := r99 hv
  cases w with
  | none => exact hv
  | some b =>
    have hb := hw b rfl
    show 0 ≤ (if fAdd (nI a) (nI b.2) < 99999 then fAdd (nI a) (nI b.2) else 99999) ∧ (if fAdd (nI a) (nI b.2) < 99999 then fAdd (nI a) (nI b.2) else 99999) ≤ 99999
    rw [fa_nn]
    by_cases c : a + b.2 < 99999
    · rw [if_pos (show nI (a + b.2) < 99999 from nI_lt (a := a + b.2) (b := 99999) c (by decide))]
      exact ⟨nI_pos' (by omega), nI_le (a := a + b.2) (b := 99999) (by omega) (by decide)⟩
    · rw [if_neg (show ¬ nI (a + b.2) < 99999 from nI_nlt (a := a + b.2) (b := 99999) (by omega) (by omega))]
      exact ⟨by decide, Int32.le_refl _⟩
theorem day_k {ρ : Nat → Int32} {S : MS} {nf np o : Nat} (H : CF ρ S nf np o) (ho : o < 512) : LK ρ (dayR nf np o ρ) := by
  have n1 := H.n1
  unfold dayR
  by_cases n0 : nf = 0
  · rw [if_pos n0]
    exact LK_set (by omega) (d1_k H.rf)
  · rw [if_neg n0]
    refine LK_set (by omega) ⟨fun j h1 h2 h3 h4 => ?_, fun f hf => ?_⟩
    · rw [talkR_ne (fun f hf => h4 f (by omega))]
      exact (d3_k H.rf).1 j h1 h2 h3 h4
    · by_cases hfn : f < nf
      · rw [talkR_f hfn]
        have lm := Nat.mod_lt (dw (zz (zz (ρ 1)))) (show nf > 0 by omega)
        have lz := Nat.mod_lt (dw (zz (zz (zz (ρ 1))))) (show 20 > 0 by omega)
        have H3 : CF (d3 ρ) (uI S 1 10 (d3 ρ 4)) nf np o := CF_u H (d3_k H.rf) (fun k k1 k2 k3 k4 k5 => uI_oth (by omega)) (uI_ni _ (by decide)) (uI_ni _ (by decide)) (uI_eq _ _ _ _) (fun f hf => by
          rw [uI_oth (by decide), (H.fs f hf).2.2.2]
          unfold d3 d1
          rw [setR_ne (by omega), setR_ne (by omega), setR_ne (by omega), setR_ne (by omega)])
        exact upT_r ((d3_k H.rf).2 f hf) (sol_r H3 ho lm ⟨by omega, by omega⟩ f hfn)
      · rw [talkR_ne (fun g hg => by omega)]
        exact (d3_k H.rf).2 f hf
theorem day_0 (nf np o : Nat) (ρ : Nat → Int32) : dayR nf np o ρ 0 = fAdd (ρ 0) 1 := by
  unfold dayR
  by_cases n0 : nf = 0
  · rw [if_pos n0, setR_eq]
  · rw [if_neg n0, setR_eq]
theorem day_4 (nf np o : Nat) (ρ : Nat → Int32) : 0 ≤ dayR nf np o ρ 4 ∧ dayR nf np o ρ 4 ≤ 9 := by
  have e : dayR nf np o ρ 4 = nI (dw (zz (ρ 1)) % 10) := by
    unfold dayR
    by_cases n0 : nf = 0
    · rw [if_pos n0, setR_ne (by decide)]
      unfold d1
      rw [setR_eq]
    · rw [if_neg n0, setR_ne (by decide), talkR_ne (fun f _ => by omega)]
      unfold d3 d1
      rw [setR_ne (by decide), setR_ne (by decide), setR_eq]
  have := Nat.mod_lt (dw (zz (ρ 1))) (show 10 > 0 by decide)
  rw [e]
  exact ⟨nI_pos' (by omega), nI_le (a := dw (zz (ρ 1)) % 10) (b := 9) (by omega) (by decide)⟩
noncomputable def itR (nf np o : Nat) : Nat → (Nat → Int32) → Nat → (Nat → Int32) × Nat
  | 0, ρ, a => (ρ, a)
  | n + 1, ρ, a => itR nf np o n (dayR nf np o ρ) (a ||| dayD nf np o ρ)
theorem looseC (d : Nat) {nf np o x : Nat} (ho : o < 512) (hx : x ≤ 20) : ∀ n i, i + n = x → ∀ (ρ : Nat → Int32) (S : MS) (acc : Nat), CF ρ S nf np o → S.1 1 9 = nI o → S.1 1 11 = ρ 0 → S.1 1 12 = ρ 1 → (0 ≤ ρ 4 ∧ ρ 4 ≤ 9) → ∃ S', mv (kX5_loose (mFn (d + 8))) 42 [(0, .ref 0), (1, .int (nI x)), (2, .int (nI acc)), (3, .int (nI i))] [] S = some (some (.int (nI (itR nf np o n ρ acc).2)), S') ∧ CF (itR nf np o n ρ acc).1 S' nf np o ∧ LK ρ (itR nf np o n ρ acc).1 ∧ S'.1 1 11 = (itR nf np o n ρ acc).1 0 ∧ S'.1 1 12 = (itR nf np o n ρ acc).1 1 ∧ (itR nf np o n ρ acc).1 0 = fAdd (ρ 0) (nI n) ∧ (0 ≤ (itR nf np o n ρ acc).1 4 ∧ (itR nf np o n ρ acc).1 4 ≤ 9) ∧ (∀ j, j ≠ 10 → j ≠ 11 → j ≠ 12 → S'.1 1 j = S.1 1 j) ∧ Fr [1, 5, 14, 17, 35, 36, 37, 38] S S' := by
  intro n
  induction n with
  | zero =>
    intro i hi ρ S acc H _ c11 c12 r4
    refine ⟨S, ?_, H, LK.rf H.rf, c11, c12, ?_, r4, fun _ _ _ _ => rfl, Fr.rf⟩
    · rw [lX5_loose_42, if_pos (nI_le (by omega) (by omega))]
      rfl
    · show ρ 0 = fAdd (ρ 0) (nI 0)
      show ρ 0 = ρ 0 + 0
      exact (Int32.add_zero _).symm
  | succ n ih =>
    intro i hi ρ S acc H c9 c11 c12 r4
    have hk := day_k H ho
    obtain ⟨S1, a1, a2, a3, a4, a5, a6⟩ := dayC d (acc := acc) H c9 c11 c12 ho (x := nI x) (i := i) (nI_ge (by omega) (by omega)) hk
    obtain ⟨S2, b1, b2, b3, b4, b5, b6, b7, b8, b9⟩ := ih (i + 1) (by omega) (dayR nf np o ρ) S1 (acc ||| dayD nf np o ρ) a2 (by rw [a5 9 (by decide) (by decide) (by decide)]; exact c9) a3 a4 (day_4 nf np o ρ)
    refine ⟨S2, a1.trans b1, b2, hk.tr b3, b4, b5, ?_, b7, fun j h1 h2 h3 => (b8 j h1 h2 h3).trans (a5 j h1 h2 h3), a6.tr b9⟩
    rw [show (itR nf np o (n + 1) ρ acc).1 0 = (itR nf np o n (dayR nf np o ρ) (acc ||| dayD nf np o ρ)).1 0 from rfl, b6, day_0]
    show ρ 0 + 1 + nI n = ρ 0 + nI (n + 1)
    rw [← add1, Int32.add_assoc, Int32.add_comm 1 (nI n)]
theorem looseM (d : Nat) {nf np o x : Nat} (ho : o < 512) (hx : x ≤ 20) : ∀ n i, i + n = x → ∀ (ρ : Nat → Int32) (S T : MS) (acc : Nat), CF ρ T nf np o → MRw ρ nf np o → S.1 55 = ρ → (∀ ρ', LK ρ ρ' → ∃ T', CF ρ' T' nf np o) → ∃ S', mv (kX6_loose (mFn (d + 8))) 42 [(0, .ref 54), (1, .int (nI x)), (2, .int (nI acc)), (3, .int (nI i))] [] S = some (some (.int (nI (itR nf np o n ρ acc).2)), S') ∧ S'.1 55 = (itR nf np o n ρ acc).1 ∧ Fr [55, 63, 64, 65, 66, 67] S S' := by
  intro n
  induction n with
  | zero =>
    intro i hi ρ S T acc H M hS _
    refine ⟨S, ?_, hS, Fr.rf⟩
    rw [lX6_loose_42, if_pos (nI_le (by omega) (by omega))]
    rfl
  | succ n ih =>
    intro i hi ρ S T acc H M hS hT
    have hk := day_k H ho
    obtain ⟨S1, a1, a2, a3⟩ := dayM d (acc := acc) M hS (x := nI x) (i := i) (nI_ge (by omega) (by omega))
    obtain ⟨T', hT'⟩ := hT _ hk
    obtain ⟨S2, b1, b2, b3⟩ := ih (i + 1) (by omega) (dayR nf np o ρ) S1 T' (acc ||| dayD nf np o ρ) hT' (MRw_k hk M) a2 (fun ρ' h => hT ρ' (hk.tr h))
    exact ⟨S2, a1.trans b1, b2, a3.tr b3⟩
/-- a state whose city is of any such row -/
theorem CF_ex {ρ ρ' : Nat → Int32} {S : MS} {nf np o : Nat} (H : CF ρ S nf np o) (k : LK ρ ρ') : ∃ T, CF ρ' T nf np o := by
  refine ⟨((fun c => if c = 5 then (fun f => ρ' (10 + 4 * f)) else (uI S 1 10 (ρ' 4)).1 c), S.2), CF_u H k (fun c h1 h2 h3 h4 h5 => ?_) ?_ ?_ ?_ (fun f _ => rfl)⟩
  · show (if c = 5 then (fun f => ρ' (10 + 4 * f)) else (uI S 1 10 (ρ' 4)).1 c) = S.1 c
    rw [if_neg h3, uI_oth (by omega)]
  · show (uI S 1 10 (ρ' 4)).1 1 0 = S.1 1 0
    exact uI_ni _ (by decide)
  · show (uI S 1 10 (ρ' 4)).1 1 5 = S.1 1 5
    exact uI_ni _ (by decide)
  · show (uI S 1 10 (ρ' 4)).1 1 10 = ρ' 4
    exact uI_eq _ _ _ _
theorem RC_of_CF {B : MS} {nf np nt nw o : Nat} (H : CF (B.1 55) B nf np o) (ho : o < 2 ^ np) (h1 : nt ≤ 60) (h2 : nw ≤ 24) (c14 : B.1 1 14 = nI nt) (w5 : B.1 55 5 = nI nt) (c17 : B.1 1 17 = nI nw) (w6 : B.1 55 6 = nI nw) (c9 : B.1 1 9 = nI o) (c11 : B.1 1 11 = B.1 55 0) (c12 : B.1 1 12 = B.1 55 1) (r4 : 0 ≤ B.1 55 4 ∧ B.1 55 4 ≤ 9) (r0 : 0 ≤ B.1 55 0 ∧ B.1 55 0 ≤ 9999) (w2 : B.1 55 2 = nI nf) (w3 : B.1 55 3 = nI np) (ht : RCt B.1 1 55) : RC B.1 1 55 nf np nt nw o := by
  refine ⟨⟨H.n1, H.n2, h1, h2, ho, H.c0, w2, H.c5, w3, c14, w5, c17, w6, c9, H.c10, c11, c12, r4, r0⟩, fun f hf => ?_, fun p hp => ?_, ht, H.t0, H.t1⟩
  · obtain ⟨q1, q2, q3, q4⟩ := H.fs f hf
    obtain ⟨_, _, _, _, q5⟩ := H.rf f hf
    exact ⟨q1, q2, q3, q4, q5⟩
  · obtain ⟨q1, q2, q3⟩ := H.ps p hp
    obtain ⟨_, _, _, q4⟩ := H.rp p hp
    exact ⟨q1, q2, q3, q4⟩
theorem ok_loose (d : Nat) (v : Int32) : Ok2 (d + 9) 53 142 [.ref 0, .int v] [.ref 54, .int v] := by
  intro S hR
  obtain ⟨⟨nf, np, nt, nw, o, hs, hf, hp, ht, hx⟩, hI, hE, hSh, hV⟩ := id hR
  obtain ⟨b1, b2, b3, b4, b5, c0, w2, c5, w3, c14, w5, c17, w6, c9, c10, c11, c12, r4, r0⟩ := id hs
  have pw := pw_le b2
  by_cases h : 1 ≤ v ∧ v ≤ 20
  · obtain ⟨x, x1, x2, rfl⟩ := rlo (n := 20) (by decide) (by decide) (Int32.not_lt.mpr h.1) h.2
    obtain ⟨a, ha, ea⟩ := r9999 r0
    by_cases hd : a + x ≤ 9999
    · have H := CF_of hs hf hp hx
      have M := MRw_of hs hf hp hx
      obtain ⟨A, a1, a2, a3, a4, a5, a6, a7, a8, a9⟩ := looseC d (x := x) (o := o) (by omega) x2 x 0 (by omega) (S.1 55) S 0 H c9 c11 c12 r4
      have e55 : A.1 55 = S.1 55 := a9 55 (by decide)
      obtain ⟨B, m1, m2, m3⟩ := looseM d (x := x) (o := o) (by omega) x2 x 0 (by omega) (S.1 55) A S 0 H M e55 (fun ρ' k => CF_ex H k)
      have fAB : Fr [1, 5, 14, 17, 35, 36, 37, 38, 55, 63, 64, 65, 66, 67] S B := (a9.up (by decide)).tr (m3.up (by decide))
      have gB : ∀ k, k ≠ 55 → (k < 63 ∨ 67 < k) → B.1 k = A.1 k := fun k h1 h2 => m3 k (by simp; omega)
      have HB1 : CF (B.1 55) B nf np o := by
        rw [m2]
        exact CF_c (fun k k1 k2 k3 k4 => gB k (by omega) (by omega)) a2
      have hi : ∀ j, 42 ≤ j → B.1 55 j = S.1 55 j := fun j hj => by rw [m2]; exact hi_k a3 hj
      have lo : ∀ j, j = 2 ∨ j = 3 ∨ j = 5 ∨ j = 6 → B.1 55 j = S.1 55 j := fun j hj => by rw [m2]; exact a3.1 j (by omega) (by omega) (by omega) (fun f _ => by omega)
      have eB1 : B.1 1 = A.1 1 := gB 1 (by decide) (by decide)
      have e0 : B.1 55 0 = nI (a + x) := by
        rw [m2, a6, ea]
        exact fa_nn a x
      have rc : RC B.1 1 55 nf np nt nw o := by
        refine RC_of_CF HB1 b5 b3 b4 ?_ ?_ ?_ ?_ ?_ ?_ ?_ ?_ ?_ ?_ ?_ ?_
        · rw [eB1, a8 14 (by decide) (by decide) (by decide)]; exact c14
        · rw [lo 5 (by omega)]; exact w5
        · rw [eB1, a8 17 (by decide) (by decide) (by decide)]; exact c17
        · rw [lo 6 (by omega)]; exact w6
        · rw [eB1, a8 9 (by decide) (by decide) (by decide)]; exact c9
        · rw [eB1, a4, m2]
        · rw [eB1, a5, m2]
        · rw [m2]; exact a7
        · rw [e0]; exact ⟨nI_pos' (by omega), nI_le (a := a + x) (b := 9999) hd (by decide)⟩
        · rw [lo 2 (by omega)]; exact w2
        · rw [lo 3 (by omega)]; exact w3
        · exact RCt_c (fAB 9 (by decide)) (fAB 10 (by decide)) (fun i i1 i2 => hi i (by omega)) ht
      have s0 : Rel ((fun k => if k = 1 ∨ k = 5 ∨ k = 55 then S.1 k else B.1 k), B.2) := by
        have f0 : Fr [14, 17, 35, 36, 37, 38, 63, 64, 65, 66, 67] S ((fun k => if k = 1 ∨ k = 5 ∨ k = 55 then S.1 k else B.1 k), B.2) := by
          intro k hk
          show (if k = 1 ∨ k = 5 ∨ k = 55 then S.1 k else B.1 k) = S.1 k
          by_cases e : k = 1 ∨ k = 5 ∨ k = 55
          · rw [if_pos e]
          · rw [if_neg e]
            exact fAB k (by intro q; apply hk; revert q; simp; omega)
        exact Rel_fr (f0.up (by decide)) (by rw [f0 54 (by decide)]) (by rw [f0 54 (by decide)]) (by rw [f0 42 (by decide)]) hR
      have hRB : Rel B := Rel_city s0 rc (fun k h1 h2 => by
        show B.1 k = (if k = 1 ∨ k = 5 ∨ k = 55 then S.1 k else B.1 k)
        rw [if_neg (by omega)])
      have s1 : ¬ nI x < 1 := nI_nlt (a := x) (b := 1) (by omega) (by omega)
      have dle : fAdd (nI a) (nI x) ≤ 9999 := by
        rw [fa_nn]
        exact nI_le (a := a + x) (b := 9999) hd (by decide)
      refine ⟨nI (itR nf np o x (S.1 55) 0).2, A, B, ?_, ?_, hRB⟩
      rotate_left
      · rw [fX6_loose, pM_in, bI_some, if_b2, if_pos h, il0, cl0, e55, ea, if_pos dle]
        exact m1
      · rw [fX5_loose, if_neg s1, if_pos h.2, c11, ea, if_pos dle]
        exact a1
    · have dle : ¬ fAdd (nI a) (nI x) ≤ 9999 := by
        rw [fa_nn]
        exact nI_ge (a := 9999) (b := a + x) (by omega) (by omega)
      refine ⟨-1000000003, uI S 53 3 (S.1 53 3 + 1), EE 3 S, ?_, ?_, Rel_EE hR⟩
      · rw [fX5_loose, if_neg (show ¬ nI x < 1 from nI_nlt (a := x) (b := 1) (by omega) (by omega)), if_pos h.2, c11, ea, if_neg dle, pC_err3, bI_some]
      · rw [fX6_loose, pM_in, bI_some, if_b2, if_pos h, il0, cl0, show (uI S 53 3 (S.1 53 3 + 1)).1 55 0 = nI a from ea, if_neg dle, pM_err3, bI_some]
        rfl
  · refine ⟨-1000000001, uI S 53 1 (S.1 53 1 + 1), EE 1 S, ?_, ?_, Rel_EE hR⟩
    · rw [fX5_loose]
      by_cases hl : v < 1
      · rw [if_pos hl, pC_err1, bI_some]
      · rw [if_neg hl, if_neg (fun q => h ⟨Int32.not_lt.mp hl, q⟩), pC_err1, bI_some]
    · rw [fX6_loose, pM_in, bI_some, if_b2, if_neg h, pM_err1, bI_some]
      rfl
