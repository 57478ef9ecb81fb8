/-! ===== calls: seed, freeze, told, fountainIs, become, fountain, tell, body ===== -/
theorem uI_eq (S : MS) (k j : Nat) (x : Int32) : (uI S k j x).1 k j = x := by rw [uI_rd, if_pos rfl, if_pos rfl]
theorem ok_seed (d : Nat) (v : Int32) : Ok2 (d + 3) 54 143 [.ref 0, .int v] [.ref 54, .int v] := by
  intro S hR
  obtain ⟨⟨nf, np, nt, nw, o, hs, hf, hp, ht, hx⟩, hI, hE, hSh, hV⟩ := id hR
  obtain ⟨b1, b2, b3, b4, b5, c0, w2, c5, w3, c14, w5, c17, w6, c9, c10, c11, c12, r4, r0⟩ := id hs
  refine ⟨S.1 1 12, uI S 1 12 v, uI (uI S 1 12 v) 55 1 v, fX5_seed _ v S, ?_, ?_⟩
  · rw [fX6_seed, show mFn (d + 2) 94 [.ref 54, .int 1, .int v] (uI S 1 12 v) = _ from pM_bec _ (i := 1) (by omega) v _, bI_some, uI_oth (by omega), c12]
  · refine Rel_city (nf := nf) (np := np) (nt := nt) (nw := nw) (o := o) hR ⟨by
      unfold RCs
      refine ⟨b1, b2, b3, b4, b5, ?_, ?_, ?_, ?_, ?_, ?_, ?_, ?_, ?_, ?_, ?_, ?_, ?_, ?_⟩ <;> (try simp (disch := omega) only [uI_oth, uI_ni, uI_eq]) <;> first | assumption | rfl, RCf_c (fun k h1 h2 => by simp (disch := omega) only [uI_oth, uI_ni, uI_eq]) (fun i h1 h2 => by simp (disch := omega) only [uI_oth, uI_ni, uI_eq]) hf, RCp_c b1 (fun k h1 h2 => by simp (disch := omega) only [uI_oth, uI_ni, uI_eq]) (fun i h1 h2 => by simp (disch := omega) only [uI_oth, uI_ni, uI_eq]) (fun f h1 => by simp (disch := omega) only [uI_oth, uI_ni, uI_eq]) hp, RCt_c (by simp (disch := omega) only [uI_oth, uI_ni, uI_eq]) (by simp (disch := omega) only [uI_oth, uI_ni, uI_eq]) (fun i h1 h2 => by simp (disch := omega) only [uI_oth, uI_ni, uI_eq]) ht, RCx_c (fun k h1 h2 h3 => by simp (disch := omega) only [uI_oth, uI_ni, uI_eq]) (fun i h1 => by simp (disch := omega) only [uI_oth, uI_ni, uI_eq]) hx⟩ (fun k h1 h2 => by simp (disch := omega) only [uI_oth, uI_ni, uI_eq])
theorem ok_freeze (d : Nat) (v : Int32) : Ok2 (d + 3) 44 111 [.ref 0, .int v] [.ref 54, .int v] := by
  intro S hR
  obtain ⟨⟨nf, np, nt, nw, o, hs, hf, hp, ht, hx⟩, hI, hE, hSh, hV⟩ := id hR
  obtain ⟨b1, b2, b3, b4, b5, c0, w2, c5, w3, c14, w5, c17, w6, c9, c10, c11, c12, r4, r0⟩ := id hs
  by_cases h : 0 ≤ v ∧ v ≤ 9
  · refine ⟨S.1 1 10, uI S 1 10 v, uI (uI S 1 10 v) 55 4 v, ?_, ?_, ?_⟩
    · rw [fX5_freeze, pC_isDigit, bI_some, if_b2, if_pos h]
    · rw [fX6_freeze, pM_in, bI_some, if_b2, if_pos h, show mFn (d + 2) 94 [.ref 54, .int 4, .int v] (uI S 1 10 v) = _ from pM_bec _ (i := 4) (by omega) v _, bI_some, uI_oth (by omega), c10]
    · refine Rel_city (nf := nf) (np := np) (nt := nt) (nw := nw) (o := o) hR ⟨by
      unfold RCs
      refine ⟨b1, b2, b3, b4, b5, ?_, ?_, ?_, ?_, ?_, ?_, ?_, ?_, ?_, ?_, ?_, ?_, ?_, ?_⟩ <;> (try simp (disch := omega) only [uI_oth, uI_ni, uI_eq]) <;> first | assumption | rfl, RCf_c (fun k h1 h2 => by simp (disch := omega) only [uI_oth, uI_ni, uI_eq]) (fun i h1 h2 => by simp (disch := omega) only [uI_oth, uI_ni, uI_eq]) hf, RCp_c b1 (fun k h1 h2 => by simp (disch := omega) only [uI_oth, uI_ni, uI_eq]) (fun i h1 h2 => by simp (disch := omega) only [uI_oth, uI_ni, uI_eq]) (fun f h1 => by simp (disch := omega) only [uI_oth, uI_ni, uI_eq]) hp, RCt_c (by simp (disch := omega) only [uI_oth, uI_ni, uI_eq]) (by simp (disch := omega) only [uI_oth, uI_ni, uI_eq]) (fun i h1 h2 => by simp (disch := omega) only [uI_oth, uI_ni, uI_eq]) ht, RCx_c (fun k h1 h2 h3 => by simp (disch := omega) only [uI_oth, uI_ni, uI_eq]) (fun i h1 => by simp (disch := omega) only [uI_oth, uI_ni, uI_eq]) hx⟩ (fun k h1 h2 => by simp (disch := omega) only [uI_oth, uI_ni, uI_eq])
  · refine ⟨-1000000001, uI S 53 1 (S.1 53 1 + 1), EE 1 S, ?_, ?_, Rel_EE hR⟩
    · rw [fX5_freeze, pC_isDigit, bI_some, if_b2, if_neg h, pC_err1, bI_some]
    · rw [fX6_freeze, pM_in, bI_some, if_b2, if_neg h, pM_err1, bI_some]
      rfl
theorem ok_told (d : Nat) (v : Int32) : Ok2 (d + 3) 71 175 [.ref 0, .int v] [.ref 54, .int v] := by
  intro S hR
  obtain ⟨⟨nf, np, nt, nw, o, hs, hf, hp, ht, hx⟩, hI, hE, hSh, hV⟩ := id hR
  obtain ⟨b1, b2, b3, b4, b5, c0, w2, c5, w3, c14, w5, c17, w6, c9, c10, c11, c12, r4, r0⟩ := id hs
  by_cases h : 1 ≤ v ∧ v ≤ 6
  · obtain ⟨j, hj, rfl⟩ : ∃ j, j < 7 ∧ v = nI j := i_rng (by decide) (by
      have a := (ile _ _).mp h.1
      rw [ile]
      rw [show (1 : Int32).toInt = 1 by decide] at a
      rw [show (0 : Int32).toInt = 0 by decide]
      omega) (by
      have a := (ile _ _).mp h.2
      rw [ilt, nI_toInt (by decide)]
      rw [show (6 : Int32).toInt = 6 by decide] at a
      omega)
    refine ⟨S.1 53 j, S, S, ?_, ?_, hR⟩
    · rw [fX5_told, if_neg (Int32.not_lt.mpr h.1), if_pos h.2, if_in hj (by omega), cN (by omega)]
    · rw [fX6_told, pM_in, bI_some, if_b2, if_pos h, if_in hj (by omega), cN (by omega), hE j hj]
  · refine ⟨-1000000001, uI S 53 1 (S.1 53 1 + 1), EE 1 S, ?_, ?_, Rel_EE hR⟩
    · rw [fX5_told]
      by_cases h1 : v < 1
      · rw [if_pos h1, pC_err1, bI_some]
      · rw [if_neg h1, if_neg (fun z => h ⟨Int32.not_lt.mp h1, z⟩), pC_err1, bI_some]
    · rw [fX6_told, pM_in, bI_some, if_b2, if_neg h, pM_err1, bI_some]
      rfl
theorem ok_body (d : Nat) (v : Int32) : Ok2 (d + 3) 60 161 [.ref 0, .int v] [.ref 54, .int v] := by
  intro S hR
  obtain ⟨⟨nf, np, nt, nw, o, hs, hf, hp, ht, hx⟩, hI, hE, hSh, hV⟩ := id hR
  obtain ⟨b1, b2, b3, b4, b5, c0, w2, c5, w3, c14, w5, c17, w6, c9, c10, c11, c12, r4, r0⟩ := id hs
  obtain ⟨n, v1, v2, v3, v4⟩ := hV
  by_cases h : 0 ≤ v ∧ v < nI n
  · obtain ⟨j, hj, rfl⟩ := i_rng (by omega) h.1 h.2
    refine ⟨S.1 43 j, S, S, ?_, ?_, hR⟩
    · rw [fX5_body, if_neg (Int32.not_lt.mpr h.1), v2, if_pos h.2, if_in (by omega) (by omega), cN (by omega)]
    · rw [fX6_body, v3, pM_in, bI_some, if_b2, if_pos ((lt_pred _ (by omega)).mpr h), if_in (by omega) (by omega), cN (by omega), v4 j hj]
  · refine ⟨-1000000002, uI S 53 2 (S.1 53 2 + 1), EE 2 S, ?_, ?_, Rel_EE hR⟩
    · rw [fX5_body]
      by_cases h1 : v < 0
      · rw [if_pos h1, pC_err2, bI_some]
      · rw [if_neg h1, v2, if_neg (fun z => h ⟨Int32.not_lt.mp h1, z⟩), pC_err2, bI_some]
    · rw [fX6_body, show (uI S 53 2 (S.1 53 2 + 1)).1 54 20 = S.1 54 20 from uI_ne _ (by decide), v3, pM_in, bI_some, if_b2, if_neg (fun z => h ((lt_pred _ (by omega)).mp z)), pM_err2, bI_some]
      rfl
theorem i03 (x : Int32) : (0 ≤ x ∧ x ≤ 3) ↔ (x = 0 ∨ x = 1 ∨ x = 2 ∨ x = 3) := by
  rw [ile, ile, ieq x 0, ieq x 1, ieq x 2, ieq x 3, show (0 : Int32).toInt = 0 by decide, show (1 : Int32).toInt = 1 by decide, show (2 : Int32).toInt = 2 by decide, show (3 : Int32).toInt = 3 by decide]
  omega
theorem ok_fountainIs (d : Nat) (x w : Int32) : Ok2 (d + 4) 36 103 [.ref 0, .int x, .int w] [.ref 54, .int x, .int w] := by
  intro S hR
  obtain ⟨⟨nf, np, nt, nw, o, hs, hf, hp, ht, hx⟩, hI, hE, hSh, hV⟩ := id hR
  obtain ⟨b1, b2, b3, b4, b5, c0, w2, c5, w3, c14, w5, c17, w6, c9, c10, c11, c12, r4, r0⟩ := id hs
  by_cases h : 0 ≤ x ∧ x < nI nf
  · obtain ⟨f, hf1, rfl⟩ := i_rng (by omega) h.1 h.2
    have e := hf f (by omega)
    by_cases hw : w = 0 ∨ w = 1 ∨ w = 2 ∨ w = 3
    · refine ⟨if w = 0 then S.1 2 f else if w = 1 then S.1 3 f else if w = 2 then S.1 4 f else S.1 5 f, S, S, ?_, ?_, hR⟩
      · rw [fX5_fountainIs, pC_isF _ _ c0, bI_some, if_b2, if_pos h, if_in (by omega) (by omega), if_in (by omega) (by omega), if_in (by omega) (by omega), if_in (by omega) (by omega), cN (by omega)]
        rcases hw with rfl | rfl | rfl | rfl <;> rfl
      · rw [fX6_fountainIs, pM_isF _ _ w2 (by omega), bI_some, if_b2, if_pos h, pM_in, bI_some, if_b2, if_pos ((i03 w).mpr hw)]
        rcases hw with rfl | rfl | rfl | rfl
        · rw [pM_of0 _ (by omega), bI_some, if_pos rfl, ← e.1]
        · rw [pM_of1 _ (by omega), bI_some, if_neg (by decide), if_pos rfl, ← e.2.1]
        · rw [pM_of2 _ (by omega), bI_some, if_neg (by decide), if_neg (by decide), if_pos rfl, ← e.2.2.1]
        · rw [pM_of3 _ (by omega), bI_some, if_neg (by decide), if_neg (by decide), if_neg (by decide), ← e.2.2.2.1]
    · refine ⟨-1000000001, uI S 53 1 (S.1 53 1 + 1), EE 1 S, ?_, ?_, Rel_EE hR⟩
      · rw [fX5_fountainIs, pC_isF _ _ c0, bI_some, if_b2, if_pos h, if_neg (fun z => hw (Or.inl z)), if_neg (fun z => hw (Or.inr (Or.inl z))), if_neg (fun z => hw (Or.inr (Or.inr (Or.inl z)))), if_neg (fun z => hw (Or.inr (Or.inr (Or.inr z)))), pC_err1, bI_some]
      · rw [fX6_fountainIs, pM_isF _ _ (show (uI S 53 1 (S.1 53 1 + 1)).1 55 2 = nI nf from w2) (by omega), bI_some, if_b2, if_pos h, pM_in, bI_some, if_b2, if_neg (fun z => hw ((i03 w).mp z)), pM_err1, bI_some]
        rfl
  · refine ⟨-1000000001, uI S 53 1 (S.1 53 1 + 1), EE 1 S, ?_, ?_, Rel_EE hR⟩
    · rw [fX5_fountainIs, pC_isF _ _ c0, bI_some, if_b2, if_neg h, pC_err1, bI_some]
    · rw [fX6_fountainIs, pM_isF _ _ (show (uI S 53 1 (S.1 53 1 + 1)).1 55 2 = nI nf from w2) (by omega), bI_some, if_b2, if_neg h, pM_err1, bI_some]
      rfl
