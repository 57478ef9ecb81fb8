theorem bV_assoc (e : Option MR) (f g : MS → Option MR) : bV (bV e f) g = bV e (fun S => bV (f S) g) := by
  cases e with
  | none => rfl
  | some r =>
    obtain ⟨v, S⟩ := r
    cases v with
    | none => rfl
    | some v => rfl
theorem GD_tr {nt r a n a1 : Nat} {W : TW} {b : Nat × TW} {o : TO} (h1 : GD nt r a n W (a1, some b)) (h2 : GD nt 1 a1 b.1 b.2 o) : GD nt r a n W o := by
  obtain ⟨o1, o2, o3⟩ := h1
  obtain ⟨p1, p2, p3⟩ := h2
  have o1 : a ≤ a1 := o1
  obtain ⟨g1, g2, g3, g4, g5⟩ := o3 b rfl
  have g2 : b.1 + a ≤ a1 + n := g2
  refine ⟨by omega, p2, fun b' hb' => ?_⟩
  obtain ⟨k1, k2, k3, k4, k5⟩ := p3 b' hb'
  refine ⟨by omega, by omega, fun k hk => (k3 k (by omega)).trans (g3 k hk), fun k i1 i2 => ?_, fun p hp => k5 p (g5 p hp)⟩
  by_cases c : k < b.1
  · rw [k3 k c]
    exact g4 k i1 c
  · exact k4 k (by omega) i2
theorem goC (F : Nat) {q nt a : Nat} {τ : Nat → Int32} {S : MS} (h : CT q nt τ S a) {L op x3 x4 : Int32} (h4 : ¬ 60 ≤ x4) (h3 : ¬ x3 = 0) (hL : ¬ L = 2) : mv (kX4_readLevel (mFn F)) 28 [(0, .ref 39), (1, .int L), (2, .int op), (3, .int x3), (4, .int x4)] [] S = bV (bV (mFn F 26 [.ref 39, .int (fAdd L 1), .int op] S) (fun S1 => mFn F 34 [.ref 39, .int (fAdd 100000 x3)] S1)) (fun S2 => bI (mFn F 32 [.ref 39, .int L] S2) (fun y3 S3 => mv (kX4_readLevel (mFn F)) 28 [(0, .ref 39), (1, .int L), (2, .int op), (3, .int y3), (4, .int (x4 + 1))] [] S3)) := by
  obtain ⟨T, rfl⟩ := h.1
  rw [lX4_readLevel_28, if_neg h4, if_neg h3, bV_assoc]
  simp only [if_neg hL]
theorem go2C (F : Nat) {q nt a : Nat} {τ : Nat → Int32} {S : MS} (h : CT q nt τ S a) {op x3 x4 : Int32} (h4 : ¬ 60 ≤ x4) (h3 : ¬ x3 = 0) : mv (kX4_readLevel (mFn F)) 28 [(0, .ref 39), (1, .int 2), (2, .int op), (3, .int x3), (4, .int x4)] [] S = bV (bV (mFn F 26 [.ref 39, .int (fAdd 2 1), .int op] S) (fun S1 => mFn F 34 [.ref 39, .int (fAdd 100000 x3)] S1)) (fun S2 => mv (kX4_readLevel (mFn F)) 28 [(0, .ref 39), (1, .int 2), (2, .int op), (3, .int 0), (4, .int (x4 + 1))] [] S2) := by
  obtain ⟨T, rfl⟩ := h.1
  rw [lX4_readLevel_28, if_neg h4, if_neg h3, bV_assoc]
  simp only [if_true]
/-- the class's rest of a level -/
noncomputable def restC (F : Nat) (L op : Int32) (i : Nat) : MS → Option MR := fun S => bI (mFn F 32 [.ref 39, .int L] S) (fun y S3 => mv (kX4_readLevel (mFn F)) 28 [(0, .ref 39), (1, .int L), (2, .int op), (3, .int y), (4, .int (nI i))] [] S3)
theorem restCb (f : Nat) {q nt a : Nat} {τ : Nat → Int32} {S : MS} {L op : Int32} {i : Nat} (hn : nt ≤ 60) (ha : a ≤ nt) (h : CBd q nt τ S a) : restC (f + 2) L op i S = some (none, S) := by
  unfold restC
  rw [signCb f hn ha h, bI_some, endC _ h.1]
/-- no sign: nothing more -/
theorem rest_no (f : Nat) {q u nt op i : Nat} {τ : Nat → Int32} {L : Int32} {ML : MS → Option MR} {a n : Nat} {W : TW} (hn : nt ≤ 60) (ha : a ≤ nt) (hs : ¬ lvI (pk τ nt a) = L) (m3 : ∀ S, MP u nt τ op S a n W → ML S = some (none, S)) : PR q u nt τ op 1 a n W (restC (f + 2) L (nI op) i) ML := by
  refine ⟨(a, some (n, W)), ⟨Nat.le_refl _, ha, fun b hb => ?_⟩, fun S hS => ?_, fun S hS => ⟨S, m3 S hS, hS, FT.rf⟩⟩
  · have e := Option.some.inj hb
    subst e
    exact ⟨Nat.le_refl _, by show n + a ≤ a + n; omega, fun _ _ => rfl, fun k k1 k2 => by have k2 : k < n := k2; omega, fun p hp => hp⟩
  · refine ⟨S, ?_, hS, Fr.rf⟩
    unfold restC
    rw [signC f hn ha hS, if_neg hs, bI_some, endC _ hS.1]
theorem loop_ok (f g : Nat) {q u nt op : Nat} {τ : Nat → Int32} (hn : nt ≤ 60) (hτ : ∀ i, i < nt → ∃ c, c < 256 ∧ τ i = nI c) {Lc : Int32} (h2 : ¬ Lc = 2) (h5 : ¬ Lc = 5) {M1 ML : MS → Option MR} (sub : ∀ a n (W : TW), n ≤ a → a ≤ nt → PR q u nt τ op 0 a n W (mFn (f + 2) 26 [.ref 39, .int (fAdd Lc 1), .int (nI op)]) M1) (m1 : ∀ S a, a ≤ nt → MBd u nt τ S a → ML S = some (none, S)) (m2 : ∀ S a n (W : TW) c, a < nt → MP u nt τ op S a n W → c < 256 → pk τ nt a = nI c → lvI (nI c) = Lc → ML S = bV (bV (M1 (uI S 54 12 (nI (a + 1)))) (fun S1 => mFn (g + 1) 114 [.ref 54, .int (nI c), .int 0] S1)) ML) (m3 : ∀ S a n (W : TW), a ≤ nt → MP u nt τ op S a n W → ¬ lvI (pk τ nt a) = Lc → ML S = some (none, S)) : ∀ m a i n (W : TW), nt - a < m → a ≤ nt → i ≤ a → n ≤ a → PR q u nt τ op 1 a n W (restC (f + 2) Lc (nI op) i) ML := by
  intro m
  induction m with
  | zero => intro a i n W h; omega
  | succ m ih =>
    intro a i n W hm ha hi hna
    by_cases hs : lvI (pk τ nt a) = Lc
    · rcases pk_c (a := a) hτ with ⟨_, e⟩ | ⟨c, ca, c1, c2, e⟩
      · rw [e, lv_m] at hs
        exact absurd hs.symm h5
      · rw [e] at hs
        obtain ⟨c3, c33⟩ := lv_sg c c1 (fun z => h5 (by rw [← hs]; exact z))
        obtain ⟨⟨a1, b⟩, ⟨ho1, ho2, ho3⟩, hob, oC, oM⟩ := after_ok (q := q) (u := u) (op := op) (x := f + 1) (y := g) hn hna ca c1 c3 c33 (sub (a + 1) n W (by omega) (by omega))
        have ho1 : a1 ≤ nt := ho1
        have ho2 : a + 1 ≤ a1 := ho2
        have clo : ∀ S, CP q nt τ S a n W → restC (f + 2) Lc (nI op) i S = bV (bV (mFn (f + 2) 26 [.ref 39, .int (fAdd Lc 1), .int (nI op)] (uI S 39 6 (nI (a + 1)))) (fun S1 => mFn (f + 2) 34 [.ref 39, .int (fAdd 100000 (nI c))] S1)) (restC (f + 2) Lc (nI op) (i + 1)) := by
          intro S hS
          unfold restC
          rw [signC f hn ha hS, e, if_pos hs, bI_some, goC (f + 2) (CP_at (a' := a + 1) hS).1 (nI_ge (a := i) (b := 60) (by omega) (by decide)) (nI_ne0 (by omega) (by omega)) h2, add1]
        cases b with
        | none =>
          refine ⟨(a1, none), ho3, fun S hS => ?_, fun S hS => ?_⟩
          · obtain ⟨S', b1, b2, b3⟩ := oC S hS
            exact ⟨S', by rw [clo S hS, b1, bV_some, restCb f hn ho1 b2], b2, b3⟩
          · obtain ⟨S', b1, b2, b3⟩ := oM S hS
            exact ⟨S', by rw [m2 S a n W c ca hS c1 e hs, b1, bV_some, m1 S' a1 ho1 b2], b2, b3⟩
        | some b =>
          obtain ⟨o, p1, pC, pM⟩ := ih a1 (i + 1) b.1 b.2 (by omega) ho1 (by omega) (hob b rfl)
          refine ⟨o, GD_tr ho3 p1, fun S hS => ?_, fun S hS => ?_⟩
          · obtain ⟨S', b1, b2, b3⟩ := oC S hS
            obtain ⟨S2, d1, d2, d3⟩ := pC S' b2
            exact ⟨S2, by rw [clo S hS, b1, bV_some, d1], d2, b3.tr d3⟩
          · obtain ⟨S', b1, b2, b3⟩ := oM S hS
            obtain ⟨S2, d1, d2, d3⟩ := pM S' b2
            exact ⟨S2, by rw [m2 S a n W c ca hS c1 e hs, b1, bV_some, d1], d2, b3.tr d3⟩
    · exact rest_no f hn ha hs (fun S hS => m3 S a n W ha hS hs)
theorem level_ok (f g : Nat) {q u nt op : Nat} {τ : Nat → Int32} (hn : nt ≤ 60) {Lc : Int32} (h5 : ¬ Lc = 5) {M M1 ML : MS → Option MR} (hM : ∀ S, M S = bV (M1 S) ML) (sub : ∀ a n (W : TW), n ≤ a → a ≤ nt → PR q u nt τ op 0 a n W (mFn (f + 2) 26 [.ref 39, .int (fAdd Lc 1), .int (nI op)]) M1) (rest : ∀ a n (W : TW), n ≤ a → a ≤ nt → PR q u nt τ op 1 a n W (restC (f + 2) Lc (nI op) 0) ML) (m1 : ∀ S a, a ≤ nt → MBd u nt τ S a → ML S = some (none, S)) : ∀ a n (W : TW), n ≤ a → a ≤ nt → PR q u nt τ op 0 a n W (mFn (f + 3) 26 [.ref 39, .int Lc, .int (nI op)]) M := by
  intro a n W hna ha
  obtain ⟨o, o1, oC, oM⟩ := seq_ok hna (sub a n W hna ha) rest (fun S a ha h => restCb f hn ha h) m1
  refine ⟨o, o1, fun S hS => ?_, fun S hS => ?_⟩
  · obtain ⟨S', b1, b2, b3⟩ := oC S hS
    refine ⟨S', ?_, b2, b3⟩
    obtain ⟨T, rfl⟩ := hS.1.1
    rw [fX4_readLevel, if_neg h5]
    exact b1
  · obtain ⟨S', b1, b2, b3⟩ := oM S hS
    exact ⟨S', (hM S).trans b1, b2, b3⟩
theorem h14b {S : MS} (h : S.1 54 14 = 1) : ¬ S.1 54 14 = 0 := by rw [h]; decide
theorem times_ok (f g : Nat) {q u nt op : Nat} {τ : Nat → Int32} (hn : nt ≤ 60) (hτ : ∀ i, i < nt → ∃ c, c < 256 ∧ τ i = nI c) (sub : ∀ a n (W : TW), n ≤ a → a ≤ nt → PR q u nt τ op 0 a n W (mFn (f + 2) 26 [.ref 39, .int 5, .int (nI op)]) (mFn (g + 1) 118 [.ref 54])) : ∀ a n (W : TW), n ≤ a → a ≤ nt → PR q u nt τ op 0 a n W (mFn (f + 3) 26 [.ref 39, .int 4, .int (nI op)]) (mFn (g + 2) 119 [.ref 54]) := by
  have m1 : ∀ S a, a ≤ nt → MBd u nt τ S a → mv (kX6_times (mFn (g + 1))) 4 [(0, .ref 54)] [] S = some (none, S) := fun S a _ h => by rw [lX6_times_4, if_neg (h14b h.2.1)]
  refine level_ok (ML := fun S => mv (kX6_times (mFn (g + 1))) 4 [(0, .ref 54)] [] S) f g hn (by decide) (fun S => fX6_times (g + 1) S) sub (fun a n W hna ha => loop_ok f g hn hτ (by decide) (by decide) sub m1 (fun S a n W c ca hS c1 e hs => ?_) (fun S a n W ha hS hs => ?_) (nt - a + 1) a 0 n W (by omega) ha (Nat.zero_le _) hna) m1
  · show mv (kX6_times (mFn (g + 1))) 4 [(0, .ref 54)] [] S = _
    have e' : pk τ nt a = nI c := e
    rw [lX6_times_4, if_pos hS.2.2.1, lookM _ hn hS.1 (by omega), bI_some, bV_assoc]
    rcases lv_4 c c1 hs with rfl | rfl | rfl
    · rw [if_pos (show pk τ nt a = 42 from e'), lookM _ hn hS.1 (by omega), bI_some, hS.1.1, fa_1, e']
    · rw [if_neg (by rw [e']; decide), lookM _ hn hS.1 (by omega), bI_some, if_pos (show pk τ nt a = 47 from e'), lookM _ hn hS.1 (by omega), bI_some, hS.1.1, fa_1, e']
    · rw [if_neg (by rw [e']; decide), lookM _ hn hS.1 (by omega), bI_some, if_neg (by rw [e']; decide), lookM _ hn hS.1 (by omega), bI_some, if_pos (show pk τ nt a = 37 from e'), lookM _ hn hS.1 (by omega), bI_some, hS.1.1, fa_1, e']
  · show mv (kX6_times (mFn (g + 1))) 4 [(0, .ref 54)] [] S = _
    have k : ∀ y : Int32, lvI y = 4 → ¬ pk τ nt a = y := fun y hy z => hs (by rw [z]; exact hy)
    rw [lX6_times_4, if_pos hS.2.2.1, lookM _ hn hS.1 (by omega), bI_some, if_neg (k 42 (by decide)), lookM _ hn hS.1 (by omega), bI_some, if_neg (k 47 (by decide)), lookM _ hn hS.1 (by omega), bI_some, if_neg (k 37 (by decide))]
theorem sum_ok (f g : Nat) {q u nt op : Nat} {τ : Nat → Int32} (hn : nt ≤ 60) (hτ : ∀ i, i < nt → ∃ c, c < 256 ∧ τ i = nI c) (sub : ∀ a n (W : TW), n ≤ a → a ≤ nt → PR q u nt τ op 0 a n W (mFn (f + 2) 26 [.ref 39, .int 4, .int (nI op)]) (mFn (g + 1) 119 [.ref 54])) : ∀ a n (W : TW), n ≤ a → a ≤ nt → PR q u nt τ op 0 a n W (mFn (f + 3) 26 [.ref 39, .int 3, .int (nI op)]) (mFn (g + 2) 120 [.ref 54]) := by
  have m1 : ∀ S a, a ≤ nt → MBd u nt τ S a → mv (kX6_sum (mFn (g + 1))) 4 [(0, .ref 54)] [] S = some (none, S) := fun S a _ h => by rw [lX6_sum_4, if_neg (h14b h.2.1)]
  refine level_ok (ML := fun S => mv (kX6_sum (mFn (g + 1))) 4 [(0, .ref 54)] [] S) f g hn (by decide) (fun S => fX6_sum (g + 1) S) sub (fun a n W hna ha => loop_ok f g hn hτ (by decide) (by decide) sub m1 (fun S a n W c ca hS c1 e hs => ?_) (fun S a n W ha hS hs => ?_) (nt - a + 1) a 0 n W (by omega) ha (Nat.zero_le _) hna) m1
  · show mv (kX6_sum (mFn (g + 1))) 4 [(0, .ref 54)] [] S = _
    have e' : pk τ nt a = nI c := e
    rw [lX6_sum_4, if_pos hS.2.2.1, lookM _ hn hS.1 (by omega), bI_some, bV_assoc]
    rcases lv_3 c c1 hs with rfl | rfl
    · rw [if_pos (show pk τ nt a = 43 from e'), lookM _ hn hS.1 (by omega), bI_some, hS.1.1, fa_1, e']
    · rw [if_neg (by rw [e']; decide), lookM _ hn hS.1 (by omega), bI_some, if_pos (show pk τ nt a = 45 from e'), lookM _ hn hS.1 (by omega), bI_some, hS.1.1, fa_1, e']
  · show mv (kX6_sum (mFn (g + 1))) 4 [(0, .ref 54)] [] S = _
    have k : ∀ y : Int32, lvI y = 3 → ¬ pk τ nt a = y := fun y hy z => hs (by rw [z]; exact hy)
    rw [lX6_sum_4, if_pos hS.2.2.1, lookM _ hn hS.1 (by omega), bI_some, if_neg (k 43 (by decide)), lookM _ hn hS.1 (by omega), bI_some, if_neg (k 45 (by decide))]
theorem all_ok (f g : Nat) {q u nt op : Nat} {τ : Nat → Int32} (hn : nt ≤ 60) (hτ : ∀ i, i < nt → ∃ c, c < 256 ∧ τ i = nI c) (sub : ∀ a n (W : TW), n ≤ a → a ≤ nt → PR q u nt τ op 0 a n W (mFn (f + 2) 26 [.ref 39, .int 2, .int (nI op)]) (mFn (g + 1) 121 [.ref 54])) : ∀ a n (W : TW), n ≤ a → a ≤ nt → PR q u nt τ op 0 a n W (mFn (f + 3) 26 [.ref 39, .int 1, .int (nI op)]) (mFn (g + 2) 122 [.ref 54]) := by
  have m1 : ∀ S a, a ≤ nt → MBd u nt τ S a → mv (kX6_all (mFn (g + 1))) 4 [(0, .ref 54)] [] S = some (none, S) := fun S a _ h => by rw [lX6_all_4, if_neg (h14b h.2.1)]
  refine level_ok (ML := fun S => mv (kX6_all (mFn (g + 1))) 4 [(0, .ref 54)] [] S) f g hn (by decide) (fun S => fX6_all (g + 1) S) sub (fun a n W hna ha => loop_ok f g hn hτ (by decide) (by decide) sub m1 (fun S a n W c ca hS c1 e hs => ?_) (fun S a n W ha hS hs => ?_) (nt - a + 1) a 0 n W (by omega) ha (Nat.zero_le _) hna) m1
  · show mv (kX6_all (mFn (g + 1))) 4 [(0, .ref 54)] [] S = _
    have e' : pk τ nt a = nI c := e
    have ec := lv_1 c c1 hs
    subst ec
    rw [lX6_all_4, if_pos hS.2.2.1, lookM _ hn hS.1 (by omega), bI_some, bV_assoc, if_pos (show pk τ nt a = 38 from e'), hS.1.1, fa_1]
    rfl
  · show mv (kX6_all (mFn (g + 1))) 4 [(0, .ref 54)] [] S = _
    have k : ∀ y : Int32, lvI y = 1 → ¬ pk τ nt a = y := fun y hy z => hs (by rw [z]; exact hy)
    rw [lX6_all_4, if_pos hS.2.2.1, lookM _ hn hS.1 (by omega), bI_some, if_neg (k 38 (by decide))]
theorem any_ok (f g : Nat) {q u nt op : Nat} {τ : Nat → Int32} (hn : nt ≤ 60) (hτ : ∀ i, i < nt → ∃ c, c < 256 ∧ τ i = nI c) (sub : ∀ a n (W : TW), n ≤ a → a ≤ nt → PR q u nt τ op 0 a n W (mFn (f + 2) 26 [.ref 39, .int 1, .int (nI op)]) (mFn (g + 1) 122 [.ref 54])) : ∀ a n (W : TW), n ≤ a → a ≤ nt → PR q u nt τ op 0 a n W (mFn (f + 3) 26 [.ref 39, .int 0, .int (nI op)]) (mFn (g + 2) 123 [.ref 54]) := by
  have m1 : ∀ S a, a ≤ nt → MBd u nt τ S a → mv (kX6_any (mFn (g + 1))) 4 [(0, .ref 54)] [] S = some (none, S) := fun S a _ h => by rw [lX6_any_4, if_neg (h14b h.2.1)]
  refine level_ok (ML := fun S => mv (kX6_any (mFn (g + 1))) 4 [(0, .ref 54)] [] S) f g hn (by decide) (fun S => fX6_any (g + 1) S) sub (fun a n W hna ha => loop_ok f g hn hτ (by decide) (by decide) sub m1 (fun S a n W c ca hS c1 e hs => ?_) (fun S a n W ha hS hs => ?_) (nt - a + 1) a 0 n W (by omega) ha (Nat.zero_le _) hna) m1
  · show mv (kX6_any (mFn (g + 1))) 4 [(0, .ref 54)] [] S = _
    have e' : pk τ nt a = nI c := e
    have ec := lv_0 c c1 hs
    subst ec
    rw [lX6_any_4, if_pos hS.2.2.1, lookM _ hn hS.1 (by omega), bI_some, bV_assoc, if_pos (show pk τ nt a = 124 from e'), hS.1.1, fa_1]
    rfl
  · show mv (kX6_any (mFn (g + 1))) 4 [(0, .ref 54)] [] S = _
    have k : ∀ y : Int32, lvI y = 0 → ¬ pk τ nt a = y := fun y hy z => hs (by rw [z]; exact hy)
    rw [lX6_any_4, if_pos hS.2.2.1, lookM _ hn hS.1 (by omega), bI_some, if_neg (k 124 (by decide))]
/-- comparisons: one at most -/
noncomputable def cmpM (g : Nat) : MS → Option MR := fun S1 => bI (mFn (g + 1) 113 [.ref 54] S1) (fun y2 S2 =>
      if (S2.1 54 14) = 0 then
        if y2 = 60 then
          bV (mFn (g + 1) 120 [.ref 54] (uI S2 54 12 (fAdd (S2.1 54 12) 1))) (fun S3 =>
            bV (mFn (g + 1) 114 [.ref 54, .int y2, .int 0] S3) (fun S4 =>
              some (none, S4)))
        else
          if y2 = 61 then
            bV (mFn (g + 1) 120 [.ref 54] (uI S2 54 12 (fAdd (S2.1 54 12) 1))) (fun S5 =>
              bV (mFn (g + 1) 114 [.ref 54, .int y2, .int 0] S5) (fun S6 =>
                some (none, S6)))
          else
            if y2 = 62 then
              bV (mFn (g + 1) 120 [.ref 54] (uI S2 54 12 (fAdd (S2.1 54 12) 1))) (fun S7 =>
                bV (mFn (g + 1) 114 [.ref 54, .int y2, .int 0] S7) (fun S8 =>
                  some (none, S8)))
            else
              some (none, S2)
      else
        some (none, S2))
theorem cmp_ok (f g : Nat) {q u nt op : Nat} {τ : Nat → Int32} (hn : nt ≤ 60) (hτ : ∀ i, i < nt → ∃ c, c < 256 ∧ τ i = nI c) (sub : ∀ a n (W : TW), n ≤ a → a ≤ nt → PR q u nt τ op 0 a n W (mFn (f + 2) 26 [.ref 39, .int 3, .int (nI op)]) (mFn (g + 1) 120 [.ref 54])) : ∀ a n (W : TW), n ≤ a → a ≤ nt → PR q u nt τ op 0 a n W (mFn (f + 3) 26 [.ref 39, .int 2, .int (nI op)]) (mFn (g + 2) 121 [.ref 54]) := by
  have m1 : ∀ S a, a ≤ nt → MBd u nt τ S a → cmpM g S = some (none, S) := fun S a ha h => by
    unfold cmpM
    rw [lookM _ hn h.1 (by omega), bI_some, if_neg (h14b h.2.1)]
  refine level_ok (ML := cmpM g) f g hn (by decide) (fun S => fX6_compares (g + 1) S) sub (fun a n W hna ha => ?_) m1
  by_cases hs : lvI (pk τ nt a) = 2
  · rcases pk_c (a := a) hτ with ⟨_, e⟩ | ⟨c, ca, c1, c2, e⟩
    · rw [e, lv_m] at hs
      exact absurd hs (by decide)
    · rw [e] at hs
      obtain ⟨c3, c33⟩ := lv_sg c c1 (by rw [hs]; decide)
      obtain ⟨⟨a1, b⟩, ⟨ho1, ho2, ho3⟩, hob, oC, oM⟩ := after_ok (q := q) (u := u) (op := op) (x := f + 1) (y := g) hn hna ca c1 c3 c33 (sub (a + 1) n W (by omega) (by omega))
      have clo : ∀ S, CP q nt τ S a n W → restC (f + 2) 2 (nI op) 0 S = bV (bV (mFn (f + 2) 26 [.ref 39, .int (fAdd 2 1), .int (nI op)] (uI S 39 6 (nI (a + 1)))) (fun S1 => mFn (f + 2) 34 [.ref 39, .int (fAdd 100000 (nI c))] S1)) (fun S2 => mv (kX4_readLevel (mFn (f + 2))) 28 [(0, .ref 39), (1, .int 2), (2, .int (nI op)), (3, .int 0), (4, .int (nI 0 + 1))] [] S2) := by
        intro S hS
        unfold restC
        rw [signC f hn ha hS, e, if_pos hs, bI_some, go2C (f + 2) (CP_at (a' := a + 1) hS).1 (by decide) (nI_ne0 (by omega) (by omega))]
      have mlo : ∀ S, MP u nt τ op S a n W → cmpM g S = bV (bV (mFn (g + 1) 120 [.ref 54] (uI S 54 12 (nI (a + 1)))) (fun S1 => mFn (g + 1) 114 [.ref 54, .int (nI c), .int 0] S1)) (fun S4 => some (none, S4)) := by
        intro S hS
        unfold cmpM
        rw [lookM _ hn hS.1 (by omega), bI_some, if_pos hS.2.2.1, bV_assoc, e, hS.1.1, fa_1]
        rcases lv_2 c c1 hs with rfl | rfl | rfl
        · rw [if_pos (show nI 60 = 60 from rfl)]
        · rw [if_neg (by decide), if_pos (show nI 61 = 61 from rfl)]
        · rw [if_neg (by decide), if_neg (by decide), if_pos (show nI 62 = 62 from rfl)]
      refine ⟨(a1, b), ho3, fun S hS => ?_, fun S hS => ?_⟩
      · obtain ⟨S', b1, b2, b3⟩ := oC S hS
        refine ⟨S', ?_, b2, b3⟩
        have hT : CT q nt τ S' a1 := by
          cases b with
          | none => exact b2.1
          | some b => exact b2.1
        rw [clo S hS]
        rw [show bV (mFn (f + 2) 26 [.ref 39, .int (fAdd 2 1), .int (nI op)] (uI S 39 6 (nI (a + 1)))) (fun S1 => mFn (f + 2) 34 [.ref 39, .int (fAdd 100000 (nI c))] S1) = some (none, S') from b1, bV_some, endC _ hT]
      · obtain ⟨S', b1, b2, b3⟩ := oM S hS
        exact ⟨S', by rw [mlo S hS, b1, bV_some], b2, b3⟩
  · refine rest_no f hn ha hs (fun S hS => ?_)
    have k : ∀ y : Int32, lvI y = 2 → ¬ pk τ nt a = y := fun y hy z => hs (by rw [z]; exact hy)
    unfold cmpM
    rw [lookM _ hn hS.1 (by omega), bI_some, if_pos hS.2.2.1, if_neg (k 60 (by decide)), if_neg (k 61 (by decide)), if_neg (k 62 (by decide))]
theorem five_ok (f g : Nat) {q u nt op : Nat} {τ : Nat → Int32} {M : MS → Option MR} (sub : ∀ a n (W : TW), n ≤ a → a ≤ nt → PR q u nt τ op 0 a n W (mFn f 27 [.ref 39, .int (nI op)]) M) : ∀ a n (W : TW), n ≤ a → a ≤ nt → PR q u nt τ op 0 a n W (mFn (f + 1) 26 [.ref 39, .int 5, .int (nI op)]) M := by
  intro a n W hna ha
  obtain ⟨o, o1, oC, oM⟩ := sub a n W hna ha
  refine ⟨o, o1, fun S hS => ?_, oM⟩
  obtain ⟨S', b1, b2, b3⟩ := oC S hS
  refine ⟨S', ?_, b2, b3⟩
  obtain ⟨T, rfl⟩ := hS.1.1
  rw [fX4_readLevel, if_pos rfl, b1, bV_some]
/-- all levels at an opening, out of its parts -/
theorem from_part (X Y : Nat) {q u nt op : Nat} {τ : Nat → Int32} (hn : nt ≤ 60) (hτ : ∀ i, i < nt → ∃ c, c < 256 ∧ τ i = nI c) (hX : 1 ≤ X) (hY : 1 ≤ Y) (part : ∀ a n (W : TW), n ≤ a → a ≤ nt → PR q u nt τ op 0 a n W (mFn X 27 [.ref 39, .int (nI op)]) (mFn Y 118 [.ref 54])) : ∀ a n (W : TW), n ≤ a → a ≤ nt → PR q u nt τ op 0 a n W (mFn (X + 6) 26 [.ref 39, .int 0, .int (nI op)]) (mFn (Y + 5) 123 [.ref 54]) := by
  obtain ⟨x, rfl⟩ : ∃ x, X = x + 1 := ⟨X - 1, by omega⟩
  obtain ⟨y, rfl⟩ : ∃ y, Y = y + 1 := ⟨Y - 1, by omega⟩
  have s5 := five_ok (x + 1) 0 part
  have s4 := times_ok x y hn hτ s5
  have s3 := sum_ok (x + 1) (y + 1) hn hτ s4
  have s2 := cmp_ok (x + 2) (y + 2) hn hτ s3
  have s1 := all_ok (x + 3) (y + 3) hn hτ s2
  exact any_ok (x + 4) (y + 4) hn hτ s1
theorem reads_ok {q u nt : Nat} {τ : Nat → Int32} (hq : QU q u) (hn : nt ≤ 60) (hτ : ∀ i, i < nt → ∃ c, c < 256 ∧ τ i = nI c) : ∀ k op, op + k = 5 → ∀ X Y, 8 * k + 7 ≤ X → 7 * k + 4 ≤ Y → (∀ a n (W : TW), n ≤ a → a ≤ nt → PR q u nt τ op 0 a n W (mFn X 27 [.ref 39, .int (nI op)]) (mFn Y 118 [.ref 54])) := by
  intro k
  induction k with
  | zero =>
    intro op ho X Y hX hY
    have e : op = 5 := by omega
    subst e
    obtain ⟨x, rfl⟩ : ∃ x, X = x + 7 := ⟨X - 7, by omega⟩
    obtain ⟨y, rfl⟩ : ∃ y, Y = y + 4 := ⟨Y - 4, by omega⟩
    exact part_ok x y hq hn hτ (fun a n W c hna ha hc => opened_5 (x + 5) (y + 2) hn a n W c hna ha)
  | succ k ih =>
    intro op ho X Y hX hY
    obtain ⟨x, rfl⟩ : ∃ x, X = x + 7 := ⟨X - 7, by omega⟩
    obtain ⟨y, rfl⟩ : ∃ y, Y = y + 4 := ⟨Y - 4, by omega⟩
    refine part_ok x y hq hn hτ (fun a n W c hna ha hc => opened_ok (x + 5) (y + 2) hn (by omega) (by omega) (by omega) (ih (op + 1) (by omega) (x + 5) (y + 2) (by omega) (by omega)) ?_ a n W c hna ha hc)
    obtain ⟨x', hx'⟩ : ∃ x', x + 5 = x' + 6 := ⟨x - 1, by omega⟩
    obtain ⟨y', hy'⟩ : ∃ y', y + 2 = y' + 5 := ⟨y - 3, by omega⟩
    rw [hx', hy']
    exact from_part x' y' hn hτ (by omega) (by omega) (ih (op + 1) (by omega) x' y' (by omega) (by omega))
/-- a text, from its first byte -/
theorem read_ok (x y : Nat) {q u nt : Nat} {τ : Nat → Int32} (hq : QU q u) (hn : nt ≤ 60) (hτ : ∀ i, i < nt → ∃ c, c < 256 ∧ τ i = nI c) (a n : Nat) (W : TW) (hna : n ≤ a) (ha : a ≤ nt) : PR q u nt τ 0 0 a n W (mFn (x + 53) 26 [.ref 39, .int 0, .int (nI 0)]) (mFn (y + 44) 123 [.ref 54]) := from_part (x + 47) (y + 39) hn hτ (by omega) (by omega) (reads_ok hq hn hτ 5 0 (by omega) (x + 47) (y + 39) (by omega) (by omega)) a n W hna ha
