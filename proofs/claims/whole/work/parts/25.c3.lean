/-! ===== calls: become, fountain, tell ===== -/
theorem nn0 {n : Nat} (h : n < 1000000) : 0 ≤ nI n := nI_pos' (by omega)
theorem nnl (m : Nat) {n : Nat} (h : n ≤ m) (hm : m < 1000000) : nI n ≤ nI m := nI_le h (by omega)
theorem dv10 {k : Nat} (h : k < 1000000) : nI k / 10 = nI (k / 10) := pk_div (d := 10) (by omega) (by omega) (by omega)
theorem rm10 {k : Nat} (h : k < 1000000) : nI k - nI k / 10 * 10 = nI (k % 10) := pk_rem (d := 10) (by omega) (by omega) (by omega)
theorem RCp_mono {σ : Nat → Nat → Int32} {b w nf nf' np o : Nat} (h : nf ≤ nf') (hp : RCp σ b w nf np o) : RCp σ b w nf' np o := by
  intro p hp1
  have e := hp p hp1
  refine ⟨e.1, e.2.1, e.2.2.1, fun q => ?_⟩
  obtain ⟨fr, to, e1, e2, e3⟩ := e.2.2.2 q
  exact ⟨fr, to, by omega, by omega, e3⟩
theorem ok_become (d : Nat) (x w : Int32) : Ok2 (d + 4) 37 104 [.ref 0, .int x, .int w] [.ref 54, .int x, .int w] := by
  intro S hR
  obtain ⟨⟨nf, np, nt, nw, o, hs, hf, hp, ht, hx⟩, hI, hE, hSh, hV⟩ := id hR
  obtain ⟨b1, b2, b3, b4, b5, c0, w2, c5, w3, c14, w5, c17, w6, c9, c10, c11, c12, r4, r0⟩ := id hs
  have e1 : (uI S 53 1 (S.1 53 1 + 1)).1 55 2 = nI nf := w2
  by_cases h : 0 ≤ x ∧ x < nI nf
  · obtain ⟨f, hf1, rfl⟩ := i_rng (by omega) h.1 h.2
    have e := hf f (by omega)
    by_cases hw : 0 ≤ w ∧ w ≤ 69
    · obtain ⟨k, hk, rfl⟩ := rlit 69 (n := 69) (by decide) (by decide) hw.1 hw.2
      have cl : mFn (d + 4) 37 [.ref 0, .int (nI f), .int (nI k)] S = some (some (.int (S.1 2 f)), uI (uI S 2 f (nI (k / 10))) 3 f (nI (k % 10))) := by
        rw [fX5_become, pC_isF _ _ c0, bI_some, if_b2, if_pos h, pC_isKm, bI_some, if_b2, if_pos hw, if_in (by omega) (by omega), if_in (by omega) (by omega), if_in (by omega) (by omega), i10, i10, cN (by omega), rm10 (by omega), dv10 (by omega)]
      generalize hT : uI (uI S 2 f (nI (k / 10))) 3 f (nI (k % 10)) = T at cl
      have hT55 : T.1 55 = S.1 55 := by rw [← hT, uI_oth (by omega), uI_oth (by omega)]
      have ml : mFn (d + 4) 104 [.ref 54, .int (nI f), .int (nI k)] T = some (some (.int (S.1 2 f)), uI (uI T 55 (8 + 4 * f) (nI (k % 10))) 55 (7 + 4 * f) (nI (k / 10))) := by
        rw [fX6_become, pM_isF _ _ (show T.1 55 2 = nI nf by rw [hT55]; exact w2) (by omega), bI_some, if_b2, if_pos h, pM_isKm, bI_some, if_b2, if_pos hw, i10, i10, ri, fa_1, if_in (by omega) (by omega), cN (by omega), rm10 (by omega), dv10 (by omega), pM_bec _ (by omega), bI_some, show 7 + 4 * f + 1 = 8 + 4 * f by omega, uI_ni _ (by omega), hT55, e.1]
      refine ⟨S.1 2 f, T, _, cl, ml, ?_⟩
      subst hT
      refine Rel_city (nf := nf) (np := np) (nt := nt) (nw := nw) (o := o) hR ⟨by
      unfold RCs
      refine ⟨b1, b2, b3, b4, b5, ?_, ?_, ?_, ?_, ?_, ?_, ?_, ?_, ?_, ?_, ?_, ?_, ?_, ?_⟩ <;> (try simp (disch := omega) only [uI_oth, uI_ni, uI_eq]) <;> first | assumption | rfl, ?_, RCp_c b1 (fun k h1 h2 => by simp (disch := omega) only [uI_oth, uI_ni, uI_eq]) (fun i h1 h2 => by simp (disch := omega) only [uI_oth, uI_ni, uI_eq]) (fun f h1 => by simp (disch := omega) only [uI_oth, uI_ni, uI_eq]) hp, RCt_c (by simp (disch := omega) only [uI_oth, uI_ni, uI_eq]) (by simp (disch := omega) only [uI_oth, uI_ni, uI_eq]) (fun i h1 h2 => by simp (disch := omega) only [uI_oth, uI_ni, uI_eq]) ht, RCx_c (fun k h1 h2 h3 => by simp (disch := omega) only [uI_oth, uI_ni, uI_eq]) (fun i h1 => by simp (disch := omega) only [uI_oth, uI_ni, uI_eq]) hx⟩ (fun k h1 h2 => by simp (disch := omega) only [uI_oth, uI_ni, uI_eq])
      intro g hg
      have eg := hf g hg
      by_cases hgf : g = f
      · subst hgf
        refine ⟨?_, ?_, ?_, ?_, ⟨?_, ?_⟩, ⟨?_, ?_⟩, ?_, ?_⟩ <;> simp (disch := omega) only [uI_oth, uI_ni, uI_eq]
        · exact eg.2.2.1
        · exact eg.2.2.2.1
        · exact nn0 (by omega)
        · exact nnl 6 (by omega) (by omega)
        · exact nn0 (by omega)
        · exact nnl 9 (by omega) (by omega)
        · exact eg.2.2.2.2.2.2.1
        · exact eg.2.2.2.2.2.2.2
      · simp (disch := omega) only [uI_oth, uI_ni, uI_eq]
        exact eg
    · refine ⟨-1000000001, uI S 53 1 (S.1 53 1 + 1), EE 1 S, ?_, ?_, Rel_EE hR⟩
      · rw [fX5_become, pC_isF _ _ c0, bI_some, if_b2, if_pos h, pC_isKm, bI_some, if_b2, if_neg hw, pC_err1, bI_some]
      · rw [fX6_become, pM_isF _ _ e1 (by omega), bI_some, if_b2, if_pos h, pM_isKm, bI_some, if_b2, if_neg hw, pM_err1, bI_some]
        rfl
  · refine ⟨-1000000001, uI S 53 1 (S.1 53 1 + 1), EE 1 S, ?_, ?_, Rel_EE hR⟩
    · rw [fX5_become, pC_isF _ _ c0, bI_some, if_b2, if_neg h, pC_err1, bI_some]
    · rw [fX6_become, pM_isF _ _ e1 (by omega), bI_some, if_b2, if_neg h, pM_err1, bI_some]
      rfl
theorem ok_tell (d : Nat) (v : Int32) : Ok2 (d + 3) 68 172 [.ref 0, .int v] [.ref 54, .int v] := by
  intro S hR
  obtain ⟨⟨nf, np, nt, nw, o, hs, hf, hp, ht, hx⟩, hI, hE, hSh, hV⟩ := id hR
  obtain ⟨b1, b2, b3, b4, b5, c0, w2, c5, w3, c14, w5, c17, w6, c9, c10, c11, c12, r4, r0⟩ := id hs
  by_cases h : nw < 24
  · have cl : mFn (d + 3) 68 [.ref 0, .int v] S = some (some (.int (nI (nw + 1))), uI (uI S 10 nw v) 1 17 (nI (nw + 1))) := by
      rw [fX5_tell, c17, if_pos (show nI nw < 24 from nI_lt (a := nw) (b := 24) h (by decide)), if_in h (by omega), cN (by omega), fa_1]
    generalize hT : uI (uI S 10 nw v) 1 17 (nI (nw + 1)) = T at cl
    have hT55 : T.1 55 = S.1 55 := by rw [← hT, uI_oth (by omega), uI_oth (by omega)]
    have ml : mFn (d + 3) 172 [.ref 54, .int v] T = some (some (.int (nI (nw + 1))), uI (uI T 55 (135 + nw) v) 55 6 (nI (nw + 1))) := by
      rw [fX6_tell, il6, il6, il6, il6, il6, cl6, hT55, w6, if_neg (fun z => by have := (nI_eq (a := nw) (b := 24) (by omega) (by omega)).mp z; omega), show fAdd 135 (nI nw) = nI (135 + nw) from fa_nn 135 nw, if_in (by omega) (by omega), cN (by omega), uI_eq, uI_ni _ (by omega), hT55, w6, fa_1]
    refine ⟨_, T, _, cl, ml, ?_⟩
    subst hT
    refine Rel_city (nf := nf) (np := np) (nt := nt) (nw := nw + 1) (o := o) hR ⟨by
      unfold RCs
      refine ⟨b1, b2, b3, by omega, b5, ?_, ?_, ?_, ?_, ?_, ?_, ?_, ?_, ?_, ?_, ?_, ?_, ?_, ?_⟩ <;> (try simp (disch := omega) only [uI_oth, uI_ni, uI_eq]) <;> first | assumption | rfl, RCf_c (fun k h1 h2 => by simp (disch := omega) only [uI_oth, uI_ni, uI_eq]) (fun i h1 h2 => by simp (disch := omega) only [uI_oth, uI_ni, uI_eq]) hf, RCp_c b1 (fun k h1 h2 => by simp (disch := omega) only [uI_oth, uI_ni, uI_eq]) (fun i h1 h2 => by simp (disch := omega) only [uI_oth, uI_ni, uI_eq]) (fun f h1 => by simp (disch := omega) only [uI_oth, uI_ni, uI_eq]) hp, ?_, RCx_c (fun k h1 h2 h3 => by simp (disch := omega) only [uI_oth, uI_ni, uI_eq]) (fun i h1 => by simp (disch := omega) only [uI_oth, uI_ni, uI_eq]) hx⟩ (fun k h1 h2 => by simp (disch := omega) only [uI_oth, uI_ni, uI_eq])
    refine ⟨fun i hi => ?_, fun i hi => ?_⟩
    · simp (disch := omega) only [uI_oth, uI_ni, uI_eq]
      exact ht.1 i hi
    · by_cases hi2 : i = nw
      · subst hi2
        simp (disch := omega) only [uI_oth, uI_ni, uI_eq]
      · simp (disch := omega) only [uI_oth, uI_ni, uI_eq]
        exact ht.2 i hi
  · have e : nw = 24 := by omega
    subst e
    refine ⟨-1000000004, uI S 53 4 (S.1 53 4 + 1), EE 4 S, ?_, ?_, Rel_EE hR⟩
    · rw [fX5_tell, c17, if_neg (by decide), pC_err4, bI_some]
    · rw [fX6_tell, il6, cl6, uI_oth (by omega), w6, if_pos (by decide), pM_err4, bI_some]
      rfl
theorem ok_fountain (d : Nat) (x w : Int32) : Ok2 (d + 4) 35 102 [.ref 0, .int x, .int w] [.ref 54, .int x, .int w] := by
  intro S hR
  obtain ⟨⟨nf, np, nt, nw, o, hs, hf, hp, ht, hx⟩, hI, hE, hSh, hV⟩ := id hR
  obtain ⟨b1, b2, b3, b4, b5, c0, w2, c5, w3, c14, w5, c17, w6, c9, c10, c11, c12, r4, r0⟩ := id hs
  by_cases h : 0 ≤ x ∧ x ≤ 69
  · by_cases hw : 0 ≤ w ∧ w ≤ 9
    · by_cases h8 : nf < 8
      · obtain ⟨k, hk, rfl⟩ := rlit 69 (n := 69) (by decide) (by decide) h.1 h.2
        have cl : mFn (d + 4) 35 [.ref 0, .int (nI k), .int w] S = some (some (.int (nI nf)), uI (uI (uI (uI (uI S 2 nf (nI (k / 10))) 3 nf (nI (k % 10))) 4 nf w) 5 nf 0) 1 0 (nI (nf + 1))) := by
          rw [fX5_fountain, pC_isKm, bI_some, if_b2, if_pos h, pC_isDigit, bI_some, if_b2, if_pos hw, c0, if_pos (show nI nf < 8 from nI_lt (a := nf) (b := 8) h8 (by decide)), i10, i10, if_in h8 (by omega), if_in h8 (by omega), if_in h8 (by omega), if_in h8 (by omega), cN (by omega), rm10 (by omega), dv10 (by omega), fa_1]
        generalize hT : uI (uI (uI (uI (uI S 2 nf (nI (k / 10))) 3 nf (nI (k % 10))) 4 nf w) 5 nf 0) 1 0 (nI (nf + 1)) = T at cl
        have hT55 : T.1 55 = S.1 55 := by rw [← hT, uI_oth (by omega), uI_oth (by omega), uI_oth (by omega), uI_oth (by omega), uI_oth (by omega)]
        have ml : mFn (d + 4) 102 [.ref 54, .int (nI k), .int w] T = some (some (.int (nI nf)), uI (uI (uI (uI (uI T 55 2 (nI (nf + 1))) 55 (7 + 4 * nf) (nI (k / 10))) 55 (8 + 4 * nf) (nI (k % 10))) 55 (9 + 4 * nf) w) 55 (10 + 4 * nf) 0) := by
          rw [fX6_fountain, pM_isKm, bI_some, if_b2, if_pos h, pM_in, bI_some, if_b2, if_pos hw, il2, il2, il2, cl2, hT55, w2, if_neg (fun z => by have := (nI_eq (a := nf) (b := 8) (by omega) (by omega)).mp z; omega), i10, i10, ri, fa_1, fa_1, fa_2, fa_3, if_in (by omega) (by omega), if_in (by omega) (by omega), if_in (by omega) (by omega), if_in (by omega) (by omega), cN (by omega), cN (by omega), cN (by omega), cN (by omega), rm10 (by omega), dv10 (by omega), show 7 + 4 * nf + 1 = 8 + 4 * nf by omega, show 7 + 4 * nf + 2 = 9 + 4 * nf by omega, show 7 + 4 * nf + 3 = 10 + 4 * nf by omega]
        refine ⟨nI nf, T, _, cl, ml, ?_⟩
        subst hT
        refine Rel_city (nf := nf + 1) (np := np) (nt := nt) (nw := nw) (o := o) hR ⟨by
      unfold RCs
      refine ⟨by omega, b2, b3, b4, b5, ?_, ?_, ?_, ?_, ?_, ?_, ?_, ?_, ?_, ?_, ?_, ?_, ?_, ?_⟩ <;> (try simp (disch := omega) only [uI_oth, uI_ni, uI_eq]) <;> first | assumption | rfl, ?_, RCp_mono (Nat.le_succ nf) (RCp_c b1 (fun k h1 h2 => by simp (disch := omega) only [uI_oth, uI_ni, uI_eq]) (fun i h1 h2 => by simp (disch := omega) only [uI_oth, uI_ni, uI_eq]) (fun f h1 => by simp (disch := omega) only [uI_oth, uI_ni, uI_eq]) hp), RCt_c (by simp (disch := omega) only [uI_oth, uI_ni, uI_eq]) (by simp (disch := omega) only [uI_oth, uI_ni, uI_eq]) (fun i h1 h2 => by simp (disch := omega) only [uI_oth, uI_ni, uI_eq]) ht, RCx_c (fun k h1 h2 h3 => by simp (disch := omega) only [uI_oth, uI_ni, uI_eq]) (fun i h1 => by simp (disch := omega) only [uI_oth, uI_ni, uI_eq]) hx⟩ (fun k h1 h2 => by simp (disch := omega) only [uI_oth, uI_ni, uI_eq])
        intro g hg
        have eg := hf g hg
        by_cases hgf : g = nf
        · subst hgf
          refine ⟨?_, ?_, ?_, ?_, ⟨?_, ?_⟩, ⟨?_, ?_⟩, ⟨?_, ?_⟩, ?_, ?_⟩ <;> simp (disch := omega) only [uI_oth, uI_ni, uI_eq]
          · exact nn0 (by omega)
          · exact nnl 6 (by omega) (by omega)
          · exact nn0 (by omega)
          · exact nnl 9 (by omega) (by omega)
          · exact hw.1
          · exact hw.2
          · decide
          · decide
        · simp (disch := omega) only [uI_oth, uI_ni, uI_eq]
          exact eg
      · have e : nf = 8 := by omega
        subst e
        refine ⟨-1000000004, uI S 53 4 (S.1 53 4 + 1), EE 4 S, ?_, ?_, Rel_EE hR⟩
        · rw [fX5_fountain, pC_isKm, bI_some, if_b2, if_pos h, pC_isDigit, bI_some, if_b2, if_pos hw, c0, if_neg (by decide), pC_err4, bI_some]
        · rw [fX6_fountain, pM_isKm, bI_some, if_b2, if_pos h, pM_in, bI_some, if_b2, if_pos hw, il2, cl2, uI_oth (by omega), w2, if_pos (by decide), pM_err4, bI_some]
          rfl
    · refine ⟨-1000000001, uI S 53 1 (S.1 53 1 + 1), EE 1 S, ?_, ?_, Rel_EE hR⟩
      · rw [fX5_fountain, pC_isKm, bI_some, if_b2, if_pos h, pC_isDigit, bI_some, if_b2, if_neg hw, pC_err1, bI_some]
      · rw [fX6_fountain, pM_isKm, bI_some, if_b2, if_pos h, pM_in, bI_some, if_b2, if_neg hw, pM_err1, bI_some]
        rfl
  · refine ⟨-1000000001, uI S 53 1 (S.1 53 1 + 1), EE 1 S, ?_, ?_, Rel_EE hR⟩
    · rw [fX5_fountain, pC_isKm, bI_some, if_b2, if_neg h, pC_err1, bI_some]
    · rw [fX6_fountain, pM_isKm, bI_some, if_b2, if_neg h, pM_err1, bI_some]
      rfl
