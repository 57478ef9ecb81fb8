theorem GD_bad {nt r a n a' : Nat} {W : TW} (h1 : a ≤ a') (h2 : a' ≤ nt) : GD nt r a n W (a', none) := ⟨h1, h2, fun b h => by simp at h⟩
theorem GD_add {nt a n a' : Nat} {W : TW} {t : Int32 × Int32 × Int32} (h1 : a + 1 ≤ a') (h2 : a' ≤ nt) (ht : tcor t.1 t.2.1 t.2.2) (h12 : t.2.1 = 1 ∨ t.2.1 = 2) : GD nt 0 a n W (a', some (n + 1, upW W n t)) := by
  refine ⟨by show a ≤ a'; omega, h2, fun b h => ?_⟩
  have e := Option.some.inj h
  subst e
  refine ⟨by show n ≤ n + 1; omega, by show n + 1 + a ≤ a' + n; omega, fun k hk => upW_ne (by omega), fun k k1 k2 => ?_, fun p hp => ?_⟩
  · have e : k = n := by
      have k2 : k < n + 1 := k2
      omega
    subst e
    show tcor (upW W k t k).1 (upW W k t k).2.1 (upW W k t k).2.2
    rw [upW_eq]
    exact ht
  · show tdep (acts (upW W n t)) (n + 1) = some (p + 1)
    rw [tdep_up hp, if_pos h12]
theorem le_nI {a b : Nat} (ha : a < 1000) (hb : b < 1000) (h : nI a ≤ nI b) : a ≤ b := by
  by_cases c : a ≤ b
  · exact c
  · exact absurd h (nI_ge (by omega) (by omega))
theorem pk_c {τ : Nat → Int32} {nt a : Nat} (hτ : ∀ i, i < nt → ∃ c, c < 256 ∧ τ i = nI c) : (nt ≤ a ∧ pk τ nt a = -1) ∨ ∃ c, a < nt ∧ c < 256 ∧ τ a = nI c ∧ pk τ nt a = nI c := by
  unfold pk
  by_cases h : a < nt
  · obtain ⟨c, c1, c2⟩ := hτ a h
    exact Or.inr ⟨c, h, c1, c2, by rw [if_pos h]; exact c2⟩
  · exact Or.inl ⟨by omega, if_neg h⟩
/-- the digits behind the first -/
theorem num_go (dc dm : Nat) {q u nt op : Nat} {τ : Nat → Int32} (hn : nt ≤ 60) (hτ : ∀ i, i < nt → ∃ c, c < 256 ∧ τ i = nI c) : ∀ m i a n w (W : TW), i + m = 4 → 1 ≤ i → w < 10 ^ i → n < 60 → a ≤ nt → ∃ a' v', a ≤ a' ∧ a' ≤ nt ∧ v' ≤ 9999 ∧ (∀ S, CP q nt τ S a n W → ∃ S', mv (kX4_readNumber (mFn (dc + 2))) 4 [(0, .ref 39), (1, .int (nI w)), (2, .int (nI i))] [] S = some (none, S') ∧ CP q nt τ S' a' (n + 1) (upW W n (nI v', 1, nI v')) ∧ Fr [39, 40] S S') ∧ (∀ S, MP u nt τ op S a n W → ∃ S', mv (kX6_number (mFn (dm + 2))) 4 [(0, .ref 54), (1, .int (nI w)), (2, .int (nI i))] [] S = some (none, S') ∧ MP u nt τ op S' a' (n + 1) (upW W n (nI v', 1, nI v')) ∧ FT S S') := by
  -- the end of a number
  have finC : ∀ a n w (W : TW) S, n < 60 → CP q nt τ S a n W → ∃ S', bV (mFn (dc + 2) 34 [.ref 39, .int (nI w)] S) (fun S1 => some (none, S1)) = some (none, S') ∧ CP q nt τ S' a (n + 1) (upW W n (nI w, 1, nI w)) ∧ Fr [39, 40] S S' := by
    intro a n w W S h1 h2
    obtain ⟨S', b1, b2, b3⟩ := addC (dc + 1) h2 h1 (nI w)
    exact ⟨S', by rw [b1, bV_some], b2 1 (nI w), b3⟩
  have finM : ∀ a n w (W : TW) S, n < 60 → MP u nt τ op S a n W → ∃ S', bV (mFn (dm + 2) 114 [.ref 54, .int 1, .int (nI w)] (uI S 54 14 0)) (fun S1 => some (none, S1)) = some (none, S') ∧ MP u nt τ op S' a (n + 1) (upW W n (nI w, 1, nI w)) ∧ FT S S' := by
    intro a n w W S h1 h2
    obtain ⟨S', b1, b2, b3⟩ := layM (dm + 1) (MP_14 h2) h1 1 (nI w)
    exact ⟨S', by rw [b1, bV_some], b2 (nI w), (FT.rf.set (by omega)).tr b3⟩
  intro m
  induction m with
  | zero =>
    intro i a n w W hi _ hw hn60 ha
    have e : i = 4 := by omega
    subst e
    refine ⟨a, w, Nat.le_refl _, ha, by omega, fun S hS => ?_, fun S hS => ?_⟩
    · obtain ⟨T, rfl⟩ := hS.1.1
      rw [lX4_readNumber_4, if_pos (show (4 : Int32) ≤ nI 4 from Int32.le_refl _)]
      exact finC a n w W _ hn60 hS
    · rw [lX6_number_4, if_pos (show (4 : Int32) ≤ nI 4 from Int32.le_refl _), if_neg (show ¬ nI 4 = 0 by decide)]
      exact finM a n w W S hn60 hS
  | succ m ih =>
    intro i a n w W hi h1 hw hn60 ha
    have hw4 : w ≤ 9999 := by
      have : 10 ^ i ≤ 10 ^ 4 := Nat.pow_le_pow_right (by decide) (by omega)
      omega
    have n4 : ¬ (4 : Int32) ≤ nI i := nI_ge (a := i) (b := 4) (by omega) (by decide)
    have ni : ¬ nI i = 0 := nI_ne0 (by omega) (by omega)
    by_cases D : 48 ≤ pk τ nt a ∧ pk τ nt a ≤ 57
    · rcases pk_c (a := a) hτ with ⟨_, e⟩ | ⟨c, ca, c1, c2, e⟩
      · rw [e] at D
        exact absurd D.1 (by decide)
      · have D1 : 48 ≤ c := le_nI (by decide) (by omega) (show nI 48 ≤ nI c by rw [← e]; exact D.1)
        have D2 : c ≤ 57 := le_nI (by omega) (by decide) (show nI c ≤ nI 57 by rw [← e]; exact D.2)
        have hw' : 10 * w + c - 48 < 10 ^ (i + 1) := by
          rw [Nat.pow_succ]
          omega
        have ev : fSub (fAdd (fMul 10 (nI w)) (nI c)) 48 = nI (10 * w + c - 48) := by
          rw [show fMul 10 (nI w) = nI (10 * w) from fm_nn 10 w, fa_nn]
          exact fs_nn (b := 48) (by omega)
        obtain ⟨a', v', g1, g2, g3, g4, g5⟩ := ih (i + 1) (a + 1) n (10 * w + c - 48) W (by omega) (by omega) hw' hn60 (by omega)
        refine ⟨a', v', by omega, g2, g3, fun S hS => ?_, fun S hS => ?_⟩
        · obtain ⟨S', b1, b2, b3⟩ := g4 _ (CP_at (a' := a + 1) hS)
          refine ⟨S', ?_, b2, (Fr.rf.put (by decide)).tr b3⟩
          have hT := hS.1
          obtain ⟨T, rfl⟩ := hS.1.1
          rw [lX4_readNumber_4, if_neg n4, peekC _ hn hT (by omega), bI_some, if_neg (Int32.not_lt.mpr D.1), peekC _ hn hT (by omega), bI_some, if_neg (Int32.not_lt.mpr D.2), peekC _ hn hT (by omega), bI_some, e, ev, hT.2.2.1, fa_1, add1]
          exact b1
        · obtain ⟨S', b1, b2, b3⟩ := g5 _ (MP_at (a' := a + 1) hS)
          refine ⟨S', ?_, b2, (FT.rf.set (by omega)).tr b3⟩
          rw [lX6_number_4, if_neg n4, lookM _ hn hS.1 (by omega), bI_some, pM_in, bI_some, if_b2, if_pos D, lookM _ hn hS.1 (by omega), bI_some, e, ev, hS.1.1, fa_1, add1]
          exact b1
    · refine ⟨a, w, Nat.le_refl _, ha, hw4, fun S hS => ?_, fun S hS => ?_⟩
      · have hT := hS.1
        obtain ⟨T, rfl⟩ := hS.1.1
        rw [lX4_readNumber_4, if_neg n4, peekC _ hn hT (by omega), bI_some]
        by_cases l : pk τ nt a < 48
        · rw [if_pos l]
          exact finC a n w W _ hn60 hS
        · rw [if_neg l, peekC _ hn hT (by omega), bI_some, if_pos (Int32.not_le.mp (fun z => D ⟨Int32.not_lt.mp l, z⟩))]
          exact finC a n w W _ hn60 hS
      · rw [lX6_number_4, if_neg n4, lookM _ hn hS.1 (by omega), bI_some, pM_in, bI_some, if_b2, if_neg D, if_neg ni]
        exact finM a n w W S hn60 hS
theorem nmI_m (u : Int32) : nmI u (-1) = -1 := by
  unfold nmI
  rw [if_neg (by decide), if_neg (by decide), if_neg (by decide), if_neg (by decide), if_neg (by decide)]
/-- one part -/
theorem part_ok (dc dm : Nat) {q u nt op : Nat} {τ : Nat → Int32} (hq : QU q u) (hn : nt ≤ 60) (hτ : ∀ i, i < nt → ∃ c, c < 256 ∧ τ i = nI c) (hop : ∀ a n (W : TW) c, n ≤ a → a < nt → (c = 33 ∨ c = 40) → PR q u nt τ op 0 a n W (mFn (dc + 6) 30 [.ref 39, .int (nI c), .int (nI op)]) (mFn (dm + 3) 117 [.ref 54, .int (nI c)])) : ∀ a n (W : TW), n ≤ a → a ≤ nt → PR q u nt τ op 0 a n W (mFn (dc + 7) 27 [.ref 39, .int (nI op)]) (mFn (dm + 4) 118 [.ref 54]) := by
  intro a n W hna ha
  -- no part here: at the end, or another byte
  have bad : ∀ y : Int32, pk τ nt a = y → ¬ (48 ≤ y ∧ y ≤ 57) → ¬ y = 33 → ¬ y = 40 → nmI (nI u) y = -1 → (∀ T, mFn (dc + 6) 29 [.ref 39, .int y] (rho T q) = some (none, uI (rho T q) 39 7 1)) → PR q u nt τ op 0 a n W (mFn (dc + 7) 27 [.ref 39, .int (nI op)]) (mFn (dm + 4) 118 [.ref 54]) := by
    intro y ey D n33 n40 hnm hrn
    refine ⟨(a, none), GD_bad (Nat.le_refl _) ha, fun S hS => ?_, fun S hS => ?_⟩
    · have hT := hS.1
      have hb := CP_bad hS
      obtain ⟨T, rfl⟩ := hS.1.1
      refine ⟨uI (rho T q) 39 7 1, ?_, hb, Fr.rf.put (by decide)⟩
      rw [fX4_readPart, if_pos hS.2.1, peekC _ hn hT (by omega), bI_some, ey]
      by_cases l : y < 48
      · rw [if_pos l, if_neg n33, if_neg n40, hrn, bV_some]
      · rw [if_neg l, if_pos (Int32.not_le.mp (fun z => D ⟨Int32.not_lt.mp l, z⟩)), if_neg n33, if_neg n40, hrn, bV_some]
    · have hb := MP_bad (by omega) hS
      obtain ⟨S', b1, b2, b3⟩ := layMb (dm + 1) hb 1 0
      refine ⟨S', ?_, b2, (FT.rf.set (by omega)).tr b3⟩
      rw [fX6_one, lookM _ hn hS.1 (by omega), bI_some, ey, nameM _ hS.1.2.1, bI_some, hnm, if_pos (by decide), if_neg n33, if_neg n40, fX6_number, lX6_number_4, if_neg (by decide), lookM _ hn hS.1 (by omega), bI_some, ey, pM_in, bI_some, if_b2, if_neg D, if_pos rfl, b1, bV_some, bV_some]
  rcases pk_c (a := a) hτ with ⟨_, e⟩ | ⟨c, ca, c1, c2, e⟩
  · exact bad (-1) e (fun z => absurd z.1 (by decide)) (by decide) (by decide) (nmI_m _) (fun T => by rw [fX4_readName, if_neg (by decide)])
  · by_cases D : 48 ≤ c ∧ c ≤ 57
    · -- a number
      have D' : 48 ≤ nI c ∧ nI c ≤ 57 := ⟨nI_le (a := 48) (b := c) D.1 (by omega), nI_le (a := c) (b := 57) D.2 (by decide)⟩
      have n33 : ¬ nI c = 33 := fun z => by have := (nI_eq (a := c) (b := 33) (by omega) (by decide)).mp z; omega
      have n40 : ¬ nI c = 40 := fun z => by have := (nI_eq (a := c) (b := 40) (by omega) (by decide)).mp z; omega
      have ev : fSub (fAdd (fMul 10 0) (nI c)) 48 = nI (c - 48) := by
        rw [show fMul (10 : Int32) 0 = nI 0 by decide, fa_nn, Nat.zero_add]
        exact fs_nn (b := 48) D.1
      have e01 : (0 : Int32) + 1 = nI 1 := by decide
      obtain ⟨a', v', g1, g2, g3, g4, g5⟩ := num_go (q := q) (u := u) (op := op) (dc + 3) (dm + 0) hn hτ 3 1 (a + 1) n (c - 48) W (by omega) (by omega) (by omega) (by omega) (by omega)
      refine ⟨(a', some (n + 1, upW W n (nI v', 1, nI v'))), GD_add g1 g2 (Or.inl ⟨rfl, rfl, nI_pos' (by omega), nI_le (a := v') (b := 9999) g3 (by decide)⟩) (Or.inl rfl), fun S hS => ?_, fun S hS => ?_⟩
      · obtain ⟨S', b1, b2, b3⟩ := g4 _ (CP_at (a' := a + 1) hS)
        refine ⟨S', ?_, b2, (Fr.rf.put (by decide)).tr b3⟩
        have hT := hS.1
        obtain ⟨T, rfl⟩ := hS.1.1
        rw [fX4_readPart, if_pos hS.2.1, peekC _ hn hT (by omega), bI_some, e, if_neg (Int32.not_lt.mpr D'.1), if_neg (Int32.not_lt.mpr D'.2), fX4_readNumber, lX4_readNumber_4, if_neg (by decide), peekC _ hn hT (by omega), bI_some, e, if_neg (Int32.not_lt.mpr D'.1), peekC _ hn hT (by omega), bI_some, e, if_neg (Int32.not_lt.mpr D'.2), peekC _ hn hT (by omega), bI_some, e, ev, hT.2.2.1, fa_1, e01, b1, bV_some]
      · obtain ⟨S', b1, b2, b3⟩ := g5 _ (MP_at (a' := a + 1) hS)
        refine ⟨S', ?_, b2, (FT.rf.set (by omega)).tr b3⟩
        rw [fX6_one, lookM _ hn hS.1 (by omega), bI_some, e, nameM _ hS.1.2.1, bI_some, nam_no hq c1 (Or.inl D), if_pos (by decide), if_neg n33, if_neg n40, fX6_number, lX6_number_4, if_neg (by decide), lookM _ hn hS.1 (by omega), bI_some, e, pM_in, bI_some, if_b2, if_pos D', lookM _ hn hS.1 (by omega), bI_some, e, ev, hS.1.1, fa_1, e01, b1, bV_some]
    · have D' : ¬ (48 ≤ nI c ∧ nI c ≤ 57) := fun z => D ⟨le_nI (by decide) (by omega) (show nI 48 ≤ nI c from z.1), le_nI (by omega) (by decide) (show nI c ≤ nI 57 from z.2)⟩
      by_cases O : c = 33 ∨ c = 40
      · obtain ⟨o, o1, o2, o3⟩ := hop a n W c hna ca O
        refine ⟨o, o1, fun S hS => ?_, fun S hS => ?_⟩
        · obtain ⟨S', b1, b2, b3⟩ := o2 S hS
          refine ⟨S', ?_, b2, b3⟩
          have hT := hS.1
          have h7 := hS.2.1
          obtain ⟨T, rfl⟩ := hS.1.1
          have l : nI c < 48 := nI_lt (a := c) (b := 48) (by omega) (by decide)
          rw [fX4_readPart, if_pos h7, peekC _ hn hT (by omega), bI_some, e, if_pos l]
          rcases O with rfl | rfl
          · rw [if_pos (show nI 33 = 33 from rfl), b1, bV_some]
          · rw [if_neg (show ¬ nI 40 = 33 by decide), if_pos (show nI 40 = 40 from rfl), b1, bV_some]
        · obtain ⟨S', b1, b2, b3⟩ := o3 S hS
          refine ⟨S', ?_, b2, b3⟩
          rw [fX6_one, lookM _ hn hS.1 (by omega), bI_some, e, nameM _ hS.1.2.1, bI_some, nam_no hq c1 (Or.inr O), if_pos (by decide)]
          rcases O with rfl | rfl
          · rw [if_pos (show nI 33 = 33 from rfl), b1, bV_some]
          · rw [if_neg (show ¬ nI 40 = 33 by decide), if_pos (show nI 40 = 40 from rfl), b1, bV_some]
      · have n33 : ¬ nI c = 33 := fun z => O (Or.inl ((nI_eq (a := c) (b := 33) (by omega) (by decide)).mp z))
        have n40 : ¬ nI c = 40 := fun z => O (Or.inr ((nI_eq (a := c) (b := 40) (by omega) (by decide)).mp z))
        have hq1 : (bif (Nat.beq q 1003 || Nat.beq q 1004) && true then (1 : Nat) else 0) = 1 := by
          rcases hq with ⟨rfl, _⟩ | ⟨rfl, _⟩ <;> rfl
        have hqb : ((Nat.beq q 1003 || Nat.beq q 1004) && true) = true := by
          rcases hq with ⟨rfl, _⟩ | ⟨rfl, _⟩ <;> rfl
        rcases nam_r hq c1 with hm | ⟨j, j3, hm⟩
        · refine bad (nI c) e D' n33 n40 hm (fun T => ?_)
          rw [fX4_readName, if_pos (nI_pos' (by omega)), hqb, cond_true, nam_chr c c1, idx (dc + 0) hq c1, bI_some, hm, if_neg (by decide)]
        · -- a name
          refine ⟨(a + 1, some (n + 1, upW W n (fSub (-1) (nI j), 2, nI j))), GD_add (Nat.le_refl _) (by omega) (Or.inr (Or.inl ⟨rfl, j, j3, rfl, rfl⟩)) (Or.inr rfl), fun S hS => ?_, fun S hS => ?_⟩
          · obtain ⟨S', b1, b2, b3⟩ := addC (dc + 4) (CP_at (a' := a + 1) hS) (by omega) (fSub (-1) (nI j))
            refine ⟨S', ?_, b2 _ _, (Fr.rf.put (by decide)).tr b3⟩
            have hT := hS.1
            have h7 := hS.2.1
            obtain ⟨T, rfl⟩ := hS.1.1
            have rn : mFn (dc + 6) 29 [.ref 39, .int (nI c)] (rho T q) = some (none, S') := by
              rw [fX4_readName, if_pos (nI_pos' (by omega)), hqb, cond_true, nam_chr c c1, idx (dc + 0) hq c1, bI_some, hm, if_pos (nI_pos' (by omega)), hT.2.2.1, fa_1, b1, bV_some]
            rw [fX4_readPart, if_pos h7, peekC _ hn hT (by omega), bI_some, e]
            by_cases l : nI c < 48
            · rw [if_pos l, if_neg n33, if_neg n40, rn, bV_some]
            · rw [if_neg l, if_pos (Int32.not_le.mp (fun z => D' ⟨Int32.not_lt.mp l, z⟩)), if_neg n33, if_neg n40, rn, bV_some]
          · obtain ⟨S', b1, b2, b3⟩ := layM (dm + 2) (MP_at (a' := a + 1) hS) (by omega) 2 (nI j)
            refine ⟨S', ?_, b2 _, (FT.rf.set (by omega)).tr b3⟩
            rw [fX6_one, lookM _ hn hS.1 (by omega), bI_some, e, nameM _ hS.1.2.1, bI_some, hm, if_neg (nI_pos (by omega)), hS.1.1, fa_1, b1, bV_some]
