theorem MBd_at {u nt a : Nat} {τ : Nat → Int32} {S : MS} (h : MBd u nt τ S a) : MBd u nt τ (uI S 54 12 (nI a)) a := by
  obtain ⟨h0, h14, n, hn, h11⟩ := h
  exact ⟨MT_at h0, by rw [uI_ni _ (by decide)]; exact h14, n, hn, by rw [uI_ni _ (by decide)]; exact h11⟩
/-- what is opened -/
theorem opened_5 (X Y : Nat) {q u nt : Nat} {τ : Nat → Int32} (hn : nt ≤ 60) (a n : Nat) (W : TW) (c : Nat) (hna : n ≤ a) (ha : a < nt) : PR q u nt τ 5 0 a n W (mFn (X + 1) 30 [.ref 39, .int (nI c), .int (nI 5)]) (mFn (Y + 1) 117 [.ref 54, .int (nI c)]) := by
  refine ⟨(a, none), GD_bad (Nat.le_refl _) (by omega), fun S hS => ?_, fun S hS => ?_⟩
  · have hb := CP_bad hS
    obtain ⟨T, rfl⟩ := hS.1.1
    refine ⟨uI (rho T q) 39 7 1, ?_, hb, Fr.rf.put (by decide)⟩
    rw [fX4_readOpened, if_neg (by decide)]
  · refine ⟨uI S 54 14 1, ?_, MP_bad (by omega) hS, FT.rf.set (by omega)⟩
    rw [fX6_opens, hS.2.1, if_pos (show nI 5 = 5 from rfl)]
theorem opened_ok (X Y : Nat) {q u nt op : Nat} {τ : Nat → Int32} (hn : nt ≤ 60) (hX : 1 ≤ X) (hY : 1 ≤ Y) (h5 : op < 5) (hpart : ∀ a n (W : TW), n ≤ a → a ≤ nt → PR q u nt τ (op + 1) 0 a n W (mFn X 27 [.ref 39, .int (nI (op + 1))]) (mFn Y 118 [.ref 54])) (hany : ∀ a n (W : TW), n ≤ a → a ≤ nt → PR q u nt τ (op + 1) 0 a n W (mFn X 26 [.ref 39, .int 0, .int (nI (op + 1))]) (mFn Y 123 [.ref 54])) (a n : Nat) (W : TW) (c : Nat) (hna : n ≤ a) (ha : a < nt) (hc : c = 33 ∨ c = 40) : PR q u nt τ op 0 a n W (mFn (X + 1) 30 [.ref 39, .int (nI c), .int (nI op)]) (mFn (Y + 1) 117 [.ref 54, .int (nI c)]) := by
  obtain ⟨x, rfl⟩ : ∃ x, X = x + 1 := ⟨X - 1, by omega⟩
  obtain ⟨y, rfl⟩ : ∃ y, Y = y + 1 := ⟨Y - 1, by omega⟩
  have l5 : nI op < 5 := nI_lt (a := op) (b := 5) h5 (by decide)
  have n5 : ¬ nI op = 5 := fun z => by have := (nI_eq (a := op) (b := 5) (by omega) (by decide)).mp z; omega
  have down : fSub (nI (op + 1)) 1 = nI op := fs_nn (a := op + 1) (b := 1) (by omega)
  rcases hc with rfl | rfl
  · obtain ⟨⟨a1, b⟩, ⟨o1, o2, o3⟩, oC, oM⟩ := hpart (a + 1) n W (by omega) (by omega)
    have o1 : a + 1 ≤ a1 := o1
    have o2 : a1 ≤ nt := o2
    cases b with
    | none =>
      refine ⟨(a1, none), GD_bad (by omega) o2, fun S hS => ?_, fun S hS => ?_⟩
      · obtain ⟨S', b1, b2, b3⟩ := oC _ (CP_at (a' := a + 1) hS)
        refine ⟨S', ?_, b2, (Fr.rf.put (by decide)).tr b3⟩
        have h6 := hS.1.2.2.1
        obtain ⟨T, rfl⟩ := hS.1.1
        rw [fX4_readOpened, if_pos l5, if_pos (show nI 33 = 33 from rfl), h6, fa_1, fa_1, b1, bV_some, addCb x b2, bV_some]
      · obtain ⟨S', b1, b2, b3⟩ := oM _ (MP_at (a' := a + 1) (MP_op (op' := op + 1) hS))
        obtain ⟨S2, c1, c2, c3⟩ := layMb y b2 3 0
        refine ⟨_, ?_, MBd_set (v := fSub (S2.1 54 13) 1) c2 (Or.inl rfl), ((((FT.rf.set (by omega)).set (by omega)).tr b3).tr c3).set (by omega)⟩
        rw [fX6_opens, hS.2.1, if_neg n5, if_pos (show nI 33 = 33 from rfl), fa_1,  hS.1.1, fa_1, b1, bV_some, c1, bV_some]
    | some b =>
      obtain ⟨g1, g2, g3, g4, g5⟩ := o3 b rfl
      have g2 : b.1 + (a + 1) ≤ a1 + n := g2
      have nb : b.1 < 60 := by omega
      refine ⟨(a1, some (b.1 + 1, upW b.2 b.1 (100033, 3, 0))), ⟨by show a ≤ a1; omega, o2, fun b' hb' => ?_⟩, fun S hS => ?_, fun S hS => ?_⟩
      · have e := Option.some.inj hb'
        subst e
        refine ⟨by show n ≤ b.1 + 1; omega, by show b.1 + 1 + a ≤ a1 + n; omega, fun k hk => ?_, fun k k1 k2 => ?_, fun p hp => ?_⟩
        · show upW b.2 b.1 (100033, 3, 0) k = W k
          rw [upW_ne (by omega)]
          exact g3 k hk
        · have k2 : k < b.1 + 1 := k2
          show tcor (upW b.2 b.1 (100033, 3, 0) k).1 (upW b.2 b.1 (100033, 3, 0) k).2.1 (upW b.2 b.1 (100033, 3, 0) k).2.2
          by_cases e : k = b.1
          · rw [e, upW_eq]
            exact Or.inr (Or.inr (Or.inl ⟨rfl, rfl⟩))
          · rw [upW_ne e]
            exact g4 k k1 (by omega)
        · show tdep (acts (upW b.2 b.1 (100033, 3, 0))) (b.1 + 1) = some (p + 1)
          rw [tdep_up (g5 p hp), if_neg (by decide), if_pos rfl, if_pos (by omega)]
      · obtain ⟨S', b1, b2, b3⟩ := oC _ (CP_at (a' := a + 1) hS)
        obtain ⟨S2, c1, c2, c3⟩ := addC x b2 nb 100033
        refine ⟨S2, ?_, c2 _ _, ((Fr.rf.put (by decide)).tr b3).tr c3⟩
        have h6 := hS.1.2.2.1
        obtain ⟨T, rfl⟩ := hS.1.1
        rw [fX4_readOpened, if_pos l5, if_pos (show nI 33 = 33 from rfl), h6, fa_1, fa_1, b1, bV_some, c1, bV_some]
      · obtain ⟨S', b1, b2, b3⟩ := oM _ (MP_at (a' := a + 1) (MP_op (op' := op + 1) hS))
        obtain ⟨S2, c1, c2, c3⟩ := layM y b2 nb 3 0
        have c2 := c2 100033
        refine ⟨uI S2 54 13 (nI op), ?_, MP_op c2, ((((FT.rf.set (by omega)).set (by omega)).tr b3).tr c3).set (by omega)⟩
        rw [fX6_opens, hS.2.1, if_neg n5, if_pos (show nI 33 = 33 from rfl), fa_1, hS.1.1, fa_1, b1, bV_some, c1, bV_some, c2.2.1, down]
  · obtain ⟨⟨a1, b⟩, ⟨o1, o2, o3⟩, oC, oM⟩ := hany (a + 1) n W (by omega) (by omega)
    have o1 : a + 1 ≤ a1 := o1
    have o2 : a1 ≤ nt := o2
    have n33 : ¬ nI 40 = 33 := by decide
    cases b with
    | none =>
      refine ⟨(a1, none), GD_bad (by omega) o2, fun S hS => ?_, fun S hS => ?_⟩
      · obtain ⟨S', b1, b2, b3⟩ := oC _ (CP_at (a' := a + 1) hS)
        refine ⟨uI S' 39 7 1, ?_, ⟨CT_set b2.1 ⟨by decide, by decide⟩, uI_eq _ _ _ _⟩, ((Fr.rf.put (by decide)).tr b3).put (by decide)⟩
        have h6 := hS.1.2.2.1
        obtain ⟨T, rfl⟩ := hS.1.1
        rw [fX4_readOpened, if_pos l5, if_neg n33, h6, fa_1, fa_1, b1, bV_some, if_neg (by rw [b2.2]; decide)]
      · obtain ⟨S', b1, b2, b3⟩ := oM _ (MP_at (a' := a + 1) (MP_op (op' := op + 1) hS))
        have b2 : MBd u nt τ S' a1 := b2
        refine ⟨_, ?_, MBd_set (v := fSub (S'.1 54 13) 1) (MBd_at (MBd_set (j := 14) (v := 1) b2 (Or.inr ⟨rfl, rfl⟩))) (Or.inl rfl), ((((FT.rf.set (by omega)).set (by omega)).tr b3).set (by omega)).set (by omega) |>.set (by omega)⟩
        rw [fX6_opens, hS.2.1, if_neg n5, if_neg n33, fa_1, hS.1.1, fa_1, b1, bV_some, if_neg (by rw [b2.2.1]; decide), b2.1.1, fa_0, Nat.add_zero]
    | some b =>
      obtain ⟨g1, g2, g3, g4, g5⟩ := o3 b rfl
      have g2 : b.1 + (a + 1) ≤ a1 + n := g2
      by_cases P : pk τ nt a1 = 41
      · have a1n : a1 < nt := by
          by_cases h : a1 < nt
          · exact h
          · unfold pk at P
            rw [if_neg h] at P
            exact absurd P (by decide)
        refine ⟨(a1 + 1, some b), ⟨by show a ≤ a1 + 1; omega, by show a1 + 1 ≤ nt; omega, fun b' hb' => ?_⟩, fun S hS => ?_, fun S hS => ?_⟩
        · have e := Option.some.inj hb'
          subst e
          exact ⟨g1, by show b.1 + a ≤ a1 + 1 + n; omega, g3, g4, g5⟩
        · obtain ⟨S', b1, b2, b3⟩ := oC _ (CP_at (a' := a + 1) hS)
          have b2 : CP q nt τ S' a1 b.1 b.2 := b2
          refine ⟨uI S' 39 6 (nI (a1 + 1)), ?_, CP_at b2, ((Fr.rf.put (by decide)).tr b3).put (by decide)⟩
          have h6 := hS.1.2.2.1
          obtain ⟨T, rfl⟩ := hS.1.1
          rw [fX4_readOpened, if_pos l5, if_neg n33, h6, fa_1, fa_1, b1, bV_some, if_pos b2.2.1, peekC _ hn b2.1 (by omega), bI_some, if_pos P, b2.1.2.2.1, fa_1]
        · obtain ⟨S', b1, b2, b3⟩ := oM _ (MP_at (a' := a + 1) (MP_op (op' := op + 1) hS))
          have b2 : MP u nt τ (op + 1) S' a1 b.1 b.2 := b2
          refine ⟨uI (uI (uI S' 54 14 0) 54 12 (nI (a1 + 1))) 54 13 (nI op), ?_, MP_op (MP_at (MP_14 b2)), ((((FT.rf.set (by omega)).set (by omega)).tr b3).set (by omega)).set (by omega) |>.set (by omega)⟩
          rw [fX6_opens, hS.2.1, if_neg n5, if_neg n33, fa_1, hS.1.1, fa_1, b1, bV_some, if_pos b2.2.2.1, lookM _ hn b2.1 (by omega), bI_some, if_pos P, b2.1.1, fa_1, b2.2.1, down]
      · refine ⟨(a1, none), GD_bad (by omega) o2, fun S hS => ?_, fun S hS => ?_⟩
        · obtain ⟨S', b1, b2, b3⟩ := oC _ (CP_at (a' := a + 1) hS)
          have b2 : CP q nt τ S' a1 b.1 b.2 := b2
          refine ⟨uI S' 39 7 1, ?_, CP_bad b2, ((Fr.rf.put (by decide)).tr b3).put (by decide)⟩
          have h6 := hS.1.2.2.1
          obtain ⟨T, rfl⟩ := hS.1.1
          rw [fX4_readOpened, if_pos l5, if_neg n33, h6, fa_1, fa_1, b1, bV_some, if_pos b2.2.1, peekC _ hn b2.1 (by omega), bI_some, if_neg P]
        · obtain ⟨S', b1, b2, b3⟩ := oM _ (MP_at (a' := a + 1) (MP_op (op' := op + 1) hS))
          have b2 : MP u nt τ (op + 1) S' a1 b.1 b.2 := b2
          refine ⟨uI (uI (uI S' 54 14 1) 54 12 (nI a1)) 54 13 (nI op), ?_, MBd_set (MBd_at (MP_bad (by omega) b2)) (Or.inl rfl), ((((FT.rf.set (by omega)).set (by omega)).tr b3).set (by omega)).set (by omega) |>.set (by omega)⟩
          rw [fX6_opens, hS.2.1, if_neg n5, if_neg n33, fa_1, hS.1.1, fa_1, b1, bV_some, if_pos b2.2.2.1, lookM _ hn b2.1 (by omega), bI_some, if_neg P, b2.1.1, fa_0, Nat.add_zero, b2.2.1, down]
/-! ===== texts: levels ===== -/
def lvI (y : Int32) : Int32 := if y = 37 then 4 else if y = 38 then 1 else if y = 42 then 4 else if y = 43 then 3 else if y = 45 then 3 else if y = 47 then 4 else if y = 60 then 2 else if y = 61 then 2 else if y = 62 then 2 else if y = 124 then 0 else 5
theorem lvlC (d : Nat) (y : Int32) (S : MS) : mFn (d + 1) 33 [.int y] S = some (some (.int (lvI y)), S) := by
  rw [fX4_levelOf]
  simp only [ite_so]
  rfl
theorem lv_sg : ∀ c, c < 256 → ¬ lvI (nI c) = 5 → 3 < c ∧ c ≠ 33 := by decide +kernel
theorem lv_m : lvI (-1) = 5 := by decide
theorem lv_4 : ∀ c, c < 256 → lvI (nI c) = 4 → c = 42 ∨ c = 47 ∨ c = 37 := by decide +kernel
theorem lv_3 : ∀ c, c < 256 → lvI (nI c) = 3 → c = 43 ∨ c = 45 := by decide +kernel
theorem lv_2 : ∀ c, c < 256 → lvI (nI c) = 2 → c = 60 ∨ c = 61 ∨ c = 62 := by decide +kernel
theorem lv_1 : ∀ c, c < 256 → lvI (nI c) = 1 → c = 38 := by decide +kernel
theorem lv_0 : ∀ c, c < 256 → lvI (nI c) = 0 → c = 124 := by decide +kernel
theorem signC (d : Nat) {q nt a n : Nat} {τ : Nat → Int32} {S : MS} {W : TW} {L : Int32} (hn : nt ≤ 60) (ha : a ≤ nt) (h : CP q nt τ S a n W) : mFn (d + 2) 32 [.ref 39, .int L] S = if lvI (pk τ nt a) = L then some (some (.int (pk τ nt a)), uI S 39 6 (nI (a + 1))) else some (some (.int 0), S) := by
  have hT := h.1
  have h7 := h.2.1
  obtain ⟨T, rfl⟩ := h.1.1
  rw [fX4_takeSign, peekC _ hn hT (by omega), bI_some, if_pos h7, lvlC, bI_some, hT.2.2.1, fa_1]
theorem signCb (d : Nat) {q nt a : Nat} {τ : Nat → Int32} {S : MS} {L : Int32} (hn : nt ≤ 60) (ha : a ≤ nt) (h : CBd q nt τ S a) : mFn (d + 2) 32 [.ref 39, .int L] S = some (some (.int 0), S) := by
  have hT := h.1
  have h7 := h.2
  obtain ⟨T, rfl⟩ := h.1.1
  rw [fX4_takeSign, peekC _ hn hT (by omega), bI_some, if_neg (by rw [h7]; decide)]
/-- no sign: the loop of a level ends -/
theorem endC (F : Nat) {q nt a : Nat} {τ : Nat → Int32} {S : MS} (h : CT q nt τ S a) (L op x4 : Int32) : mv (kX4_readLevel (mFn F)) 28 [(0, .ref 39), (1, .int L), (2, .int op), (3, .int 0), (4, .int x4)] [] S = some (none, S) := by
  obtain ⟨T, rfl⟩ := h.1
  rw [lX4_readLevel_28]
  by_cases c : 60 ≤ x4
  · rw [if_pos c]
  · rw [if_neg c, if_pos rfl]
/-- two one behind the other -/
theorem seq_ok {q u nt op : Nat} {τ : Nat → Int32} {a n : Nat} {W : TW} {C1 C2 M1 M2 : MS → Option MR} (hna : n ≤ a) (h1 : PR q u nt τ op 0 a n W C1 M1) (h2 : ∀ a n (W : TW), n ≤ a → a ≤ nt → PR q u nt τ op 1 a n W C2 M2) (hC : ∀ S a, a ≤ nt → CBd q nt τ S a → C2 S = some (none, S)) (hM : ∀ S a, a ≤ nt → MBd u nt τ S a → M2 S = some (none, S)) : PR q u nt τ op 0 a n W (fun S => bV (C1 S) C2) (fun S => bV (M1 S) M2) := by
  obtain ⟨⟨a1, b⟩, ⟨o1, o2, o3⟩, oC, oM⟩ := h1
  have o1 : a ≤ a1 := o1
  have o2 : a1 ≤ nt := o2
  cases b with
  | none =>
    refine ⟨(a1, none), GD_bad o1 o2, fun S hS => ?_, fun S hS => ?_⟩
    · obtain ⟨S', b1, b2, b3⟩ := oC S hS
      exact ⟨S', by show bV (C1 S) C2 = _; rw [b1, bV_some, hC S' a1 o2 b2], b2, b3⟩
    · obtain ⟨S', b1, b2, b3⟩ := oM S hS
      exact ⟨S', by show bV (M1 S) M2 = _; rw [b1, bV_some, hM S' a1 o2 b2], b2, b3⟩
  | some b =>
    obtain ⟨g1, g2, g3, g4, g5⟩ := o3 b rfl
    have g2 : b.1 + a ≤ a1 + n := g2
    obtain ⟨o, ⟨p1, p2, p3⟩, pC, pM⟩ := h2 a1 b.1 b.2 (by omega) o2
    refine ⟨o, ⟨by omega, p2, fun b' hb' => ?_⟩, fun S hS => ?_, fun S hS => ?_⟩
    · obtain ⟨k1, k2, k3, k4, k5⟩ := p3 b' hb'
      refine ⟨by omega, by omega, fun k hk => (k3 k (by omega)).trans (g3 k hk), fun k i1 i2 => ?_, fun p hp => k5 p (g5 p hp)⟩
      by_cases c : k < b.1
      · rw [k3 k c]
        exact g4 k i1 c
      · exact k4 k (by omega) i2
    · obtain ⟨S', b1, b2, b3⟩ := oC S hS
      obtain ⟨S2, c1, c2, c3⟩ := pC S' b2
      exact ⟨S2, by show bV (C1 S) C2 = _; rw [b1, bV_some, c1], c2, b3.tr c3⟩
    · obtain ⟨S', b1, b2, b3⟩ := oM S hS
      obtain ⟨S2, c1, c2, c3⟩ := pM S' b2
      exact ⟨S2, by show bV (M1 S) M2 = _; rw [b1, bV_some, c1], c2, b3.tr c3⟩
/-- the rest of a level behind a sign: the part, then the step -/
theorem after_ok {q u nt op : Nat} {τ : Nat → Int32} {x y a n c : Nat} {W : TW} {C1 M1 : MS → Option MR} (hn : nt ≤ 60) (hna : n ≤ a) (ha : a < nt) (hc : c < 256) (hc3 : 3 < c) (hc33 : c ≠ 33) (h1 : PR q u nt τ op 0 (a + 1) n W C1 M1) : ∃ o : TO, (o.1 ≤ nt ∧ a + 1 ≤ o.1 ∧ GD nt 1 a n W o) ∧ (∀ b, o.2 = some b → b.1 ≤ o.1) ∧ (∀ S, CP q nt τ S a n W → ∃ S', bV (C1 (uI S 39 6 (nI (a + 1)))) (fun S1 => mFn (x + 1) 34 [.ref 39, .int (fAdd 100000 (nI c))] S1) = some (none, S') ∧ CO q nt τ S' o ∧ Fr [39, 40] S S') ∧ (∀ S, MP u nt τ op S a n W → ∃ S', bV (M1 (uI S 54 12 (nI (a + 1)))) (fun S1 => mFn (y + 1) 114 [.ref 54, .int (nI c), .int 0] S1) = some (none, S') ∧ MO u nt τ op S' o ∧ FT S S') := by
  obtain ⟨⟨a1, b⟩, ⟨o1, o2, o3⟩, oC, oM⟩ := h1
  have o1 : a + 1 ≤ a1 := o1
  have o2 : a1 ≤ nt := o2
  cases b with
  | none =>
    refine ⟨(a1, none), ⟨o2, o1, GD_bad (by omega) o2⟩, fun b h => by simp at h, fun S hS => ?_, fun S hS => ?_⟩
    · obtain ⟨S', b1, b2, b3⟩ := oC _ (CP_at (a' := a + 1) hS)
      exact ⟨S', by rw [b1, bV_some, addCb x b2], b2, (Fr.rf.put (by decide)).tr b3⟩
    · obtain ⟨S', b1, b2, b3⟩ := oM _ (MP_at (a' := a + 1) hS)
      obtain ⟨S2, c1, c2, c3⟩ := layMb y b2 (nI c) 0
      exact ⟨S2, by rw [b1, bV_some, c1], c2, ((FT.rf.set (by omega)).tr b3).tr c3⟩
  | some b =>
    obtain ⟨g1, g2, g3, g4, g5⟩ := o3 b rfl
    have g2 : b.1 + (a + 1) ≤ a1 + n := g2
    have nb : b.1 < 60 := by omega
    refine ⟨(a1, some (b.1 + 1, upW b.2 b.1 (nI (100000 + c), nI c, 0))), ⟨o2, o1, by show a ≤ a1; omega, o2, fun b' hb' => ?_⟩, fun b' h => ?_, fun S hS => ?_, fun S hS => ?_⟩
    · have e := Option.some.inj hb'
      subst e
      refine ⟨by show n ≤ b.1 + 1; omega, by show b.1 + 1 + a ≤ a1 + n; omega, fun k hk => ?_, fun k k1 k2 => ?_, fun p hp => ?_⟩
      · show upW b.2 b.1 (nI (100000 + c), nI c, 0) k = W k
        rw [upW_ne (by omega)]
        exact g3 k hk
      · have k2 : k < b.1 + 1 := k2
        show tcor (upW b.2 b.1 (nI (100000 + c), nI c, 0) k).1 (upW b.2 b.1 (nI (100000 + c), nI c, 0) k).2.1 (upW b.2 b.1 (nI (100000 + c), nI c, 0) k).2.2
        by_cases e : k = b.1
        · rw [e, upW_eq]
          exact Or.inr (Or.inr (Or.inr ⟨c, hc, hc3, hc33, rfl, rfl⟩))
        · rw [upW_ne e]
          exact g4 k k1 (by omega)
      · show tdep (acts (upW b.2 b.1 (nI (100000 + c), nI c, 0))) (b.1 + 1) = some (p + 1)
        have f1 : ¬ (nI c = 1 ∨ nI c = 2) := fun z => by
          rcases z with z | z
          · have := (nI_eq (a := c) (b := 1) (by omega) (by decide)).mp z; omega
          · have := (nI_eq (a := c) (b := 2) (by omega) (by decide)).mp z; omega
        have f3 : ¬ nI c = 3 := fun z => by have := (nI_eq (a := c) (b := 3) (by omega) (by decide)).mp z; omega
        rw [tdep_up (g5 (p + 1) hp)]
        show (if nI c = 1 ∨ nI c = 2 then some (p + 1 + 1 + 1) else if nI c = 3 then (if 1 ≤ p + 1 + 1 then some (p + 1 + 1) else none) else (if 2 ≤ p + 1 + 1 then some (p + 1 + 1 - 1) else none)) = some (p + 1)
        rw [if_neg f1, if_neg f3, if_pos (by omega)]
        rfl
    · have e := Option.some.inj h
      subst e
      show b.1 + 1 ≤ a1
      omega
    · obtain ⟨S', b1, b2, b3⟩ := oC _ (CP_at (a' := a + 1) hS)
      obtain ⟨S2, c1, c2, c3⟩ := addC x b2 nb (fAdd 100000 (nI c))
      rw [show fAdd 100000 (nI c) = nI (100000 + c) from fa_nn 100000 c] at c1 c2 ⊢
      exact ⟨S2, by rw [b1, bV_some, c1], c2 _ _, ((Fr.rf.put (by decide)).tr b3).tr c3⟩
    · obtain ⟨S', b1, b2, b3⟩ := oM _ (MP_at (a' := a + 1) hS)
      obtain ⟨S2, c1, c2, c3⟩ := layM y b2 nb (nI c) 0
      exact ⟨S2, by rw [b1, bV_some, c1], c2 _, ((FT.rf.set (by omega)).tr b3).tr c3⟩
