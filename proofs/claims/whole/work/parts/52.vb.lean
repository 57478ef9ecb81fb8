/-! ===== calls: voice ===== -/
abbrev TC : Type := Nat × (Nat → Int32)
def bgn (b : Int32) (t : TC) : TC := (t.1 + 1, fun i => if i = t.1 then b else t.2 i)
def CVp (S : MS) (kd k : Nat) (m p : Int32) (t : TC) : Prop := S.1 42 0 = nI kd ∧ S.1 42 1 = nI k ∧ S.1 42 2 = m ∧ S.1 42 3 = p ∧ S.1 42 5 = nI t.1 ∧ ∀ i, i < t.1 → S.1 43 i = t.2 i
def GoC (e : Option MR) (S : MS) (kd k : Nat) (m p r : Int32) (t : TC) : Prop := ∃ S', e = some (some (.int r), S') ∧ CVp S' kd k m p t ∧ Fr [42, 43] S S'
theorem begC' (d : Nat) {S : MS} {kd k : Nat} {m p : Int32} {t : TC} (h : CVp S kd k m p t) (ht : t.1 < 30) (b : Int32) : ∃ S', mFn (d + 1) 21 [.ref 42, .int b] S = some (none, S') ∧ CVp S' kd k m p (bgn b t) ∧ Fr [42, 43] S S' := by
  obtain ⟨h0, h1, h2, h3, h5, h6⟩ := h
  refine ⟨uI (uI S 43 t.1 b) 42 5 (nI (t.1 + 1)), ?_, ⟨?_, ?_, ?_, ?_, ?_, ?_⟩, (Fr.rf.put (by decide)).put (by decide)⟩
  · rw [fX3_begin, h5, if_pos (show nI t.1 < 30 from nI_lt (a := t.1) (b := 30) ht (by decide)), if_in ht (by omega), cN (by omega), fa_1]
  · rw [uI_ni _ (by decide), uI_oth (by decide)]; exact h0
  · rw [uI_ni _ (by decide), uI_oth (by decide)]; exact h1
  · rw [uI_ni _ (by decide), uI_oth (by decide)]; exact h2
  · rw [uI_ni _ (by decide), uI_oth (by decide)]; exact h3
  · rw [uI_eq]; rfl
  · intro i hi
    have hi : i < t.1 + 1 := hi
    rw [uI_oth (by decide)]
    show _ = if i = t.1 then b else t.2 i
    by_cases e : i = t.1
    · rw [if_pos e, e, uI_eq]
    · rw [if_neg e, uI_ni _ e]
      exact h6 i (by omega)
theorem spk_in (d : Nat) {f v x : Int32} {dep : Nat} {S : MS} (h3 : S.1 42 3 = 0) (hd : dep < 20) : mFn (d + 1) 19 [.ref 42, .int f, .int v, .int x, .int (nI dep)] S = mv (kX3_speak (mFn d)) 22 [(0, .ref 42), (2, .int v), (3, .int x), (4, .int (nI dep)), (5, .int f), (6, .int 0)] [] S := by
  rw [fX3_speak, if_pos h3, if_pos (show nI dep < 20 from nI_lt (a := dep) (b := 20) hd (by decide))]
def w0 (f : Nat) (k x : Int32) : Int32 := if f = 1 then fSub (fAdd x k) 4 else if f = 4 then fMul (fSub (fAdd x k) 4) 3 else if f = 6 then 9 else fAdd x k
def t0 (f : Nat) (t : TC) : TC := if f = 1 then bgn 10 (bgn 20 t) else if f = 4 then bgn 10 (bgn 20 (bgn 50 t)) else if f = 6 then bgn 70 t else bgn 10 t
theorem L00 (d : Nat) {S : MS} {kd k : Nat} {m : Int32} {t : TC} (h : CVp S kd k m 0 t) (ht : t.1 < 30) (x x4 x6 : Int32) : GoC (mv (kX3_speak (mFn (d + 1))) 22 [(0, .ref 42), (2, .int 0), (3, .int x), (4, .int x4), (5, .int 0), (6, .int x6)] [] S) S kd k m 0 (fAdd x (nI k)) (bgn 10 t) := by
  obtain ⟨S1, a1, a2, a3⟩ := begC' d h ht 10
  exact ⟨S1, by rw [sB_0_0 _ _ _ _ _ _ a1, a2.2.1], a2, a3⟩
theorem L01 (d : Nat) {S : MS} {kd k dep : Nat} {m : Int32} {t : TC} (h : CVp S kd k m 0 t) (ht : t.1 < 29) (hd : dep < 19) (x x6 : Int32) : GoC (mv (kX3_speak (mFn (d + 2))) 22 [(0, .ref 42), (2, .int 0), (3, .int x), (4, .int (nI dep)), (5, .int 1), (6, .int x6)] [] S) S kd k m 0 (fSub (fAdd x (nI k)) 4) (bgn 10 (bgn 20 t)) := by
  obtain ⟨S1, a1, a2, a3⟩ := begC' (d + 1) h (by omega) 20
  obtain ⟨S2, b1, b2, b3⟩ := L00 d a2 (show t.1 + 1 < 30 by omega) x (nI (dep + 1)) 0
  refine ⟨S2, ?_, b2, a3.tr b3⟩
  rw [sB_1_0 _ _ _ _ _ _ a1, fa_1, spk_in _ a2.2.2.2.1 (by omega), b1, bI_some]
theorem L04 (d : Nat) {S : MS} {kd k dep : Nat} {m : Int32} {t : TC} (h : CVp S kd k m 0 t) (ht : t.1 < 28) (hd : dep < 18) (x x6 : Int32) : GoC (mv (kX3_speak (mFn (d + 3))) 22 [(0, .ref 42), (2, .int 0), (3, .int x), (4, .int (nI dep)), (5, .int 4), (6, .int x6)] [] S) S kd k m 0 (fMul (fSub (fAdd x (nI k)) 4) 3) (bgn 10 (bgn 20 (bgn 50 t))) := by
  obtain ⟨S1, a1, a2, a3⟩ := begC' (d + 2) h (by omega) 50
  obtain ⟨S2, b1, b2, b3⟩ := L01 d (dep := dep + 1) a2 (show t.1 + 1 < 29 by omega) (by omega) x 0
  refine ⟨S2, ?_, b2, a3.tr b3⟩
  rw [sB_4_0 _ _ _ _ _ _ a1, fa_1, spk_in _ a2.2.2.2.1 (by omega), b1, bI_some]
theorem L06 (d : Nat) {S : MS} {kd k : Nat} {m : Int32} {t : TC} (h : CVp S kd k m 0 t) (ht : t.1 < 30) (x x4 x6 : Int32) : GoC (mv (kX3_speak (mFn (d + 1))) 22 [(0, .ref 42), (2, .int 0), (3, .int x), (4, .int x4), (5, .int 6), (6, .int x6)] [] S) S kd k m 0 9 (bgn 70 t) := by
  obtain ⟨S1, a1, a2, a3⟩ := begC' d h ht 70
  exact ⟨S1, sB_6_0 _ _ _ _ _ _ a1, a2, a3⟩
theorem seven {f : Nat} (h : f < 7) : f = 0 ∨ f = 1 ∨ f = 2 ∨ f = 3 ∨ f = 4 ∨ f = 5 ∨ f = 6 := by omega
theorem C0 (d : Nat) {S : MS} {kd k dep f : Nat} {m : Int32} {t : TC} (h : CVp S kd k m 0 t) (hf : f < 7) (ht : t.1 < 28) (hd : dep < 18) (x : Int32) : GoC (mv (kX3_speak (mFn (d + 3))) 22 [(0, .ref 42), (2, .int 0), (3, .int x), (4, .int (nI dep)), (5, .int (nI f)), (6, .int 0)] [] S) S kd k m 0 (w0 f (nI k) x) (t0 f t) := by
  rcases seven hf with rfl | rfl | rfl | rfl | rfl | rfl | rfl
  · exact L00 (d + 2) h (by omega) x (nI dep) 0
  · exact L01 (d + 1) h (by omega) (by omega) x 0
  · have e := sU_2_0 (d + 3) x (nI dep) (c := 0) (by omega) S
    obtain ⟨S', a1, a2⟩ := L00 (d + 2) h (by omega) x (nI dep) (nI (0 + 1))
    exact ⟨S', e.trans a1, a2⟩
  · have e := sU_3_0 (d + 3) x (nI dep) (c := 0) (by omega) S
    obtain ⟨S', a1, a2⟩ := L00 (d + 2) h (by omega) x (nI dep) (nI (0 + 1))
    exact ⟨S', e.trans a1, a2⟩
  · exact L04 d h (by omega) (by omega) x 0
  · have e := sU_5_0 (d + 3) x (nI dep) (c := 0) (by omega) S
    have e2 := sU_2_0 (d + 3) x (nI dep) (c := 0 + 1) (by omega) S
    obtain ⟨S', a1, a2⟩ := L00 (d + 2) h (by omega) x (nI dep) (nI (0 + 1 + 1))
    exact ⟨S', (e.trans e2).trans a1, a2⟩
  · exact L06 (d + 2) h (by omega) x (nI dep) 0
def q1 (kd : Nat) (k x : Int32) : Int32 := fMul (w0 kd k x) 2
def w1 (kd f : Nat) (k m x : Int32) : Int32 := if f = 2 then fSub 0 (q1 kd k x) else if f = 5 then fSub 0 (q1 kd k (fAdd x 1)) else if f = 6 then fAdd (q1 kd k x) m else q1 kd k x
def t1 (kd f : Nat) (t : TC) : TC := if f = 2 then t0 kd (bgn 11 (bgn 30 t)) else if f = 5 then t0 kd (bgn 11 (bgn 30 (bgn 60 t))) else if f = 6 then t0 kd (bgn 11 (bgn 71 t)) else t0 kd (bgn 11 t)
theorem L10 (d : Nat) {S : MS} {kd k dep : Nat} {m : Int32} {t : TC} (h : CVp S kd k m 0 t) (hk : kd < 7) (ht : t.1 < 27) (hd : dep < 17) (x x6 : Int32) : GoC (mv (kX3_speak (mFn (d + 4))) 22 [(0, .ref 42), (2, .int 1), (3, .int x), (4, .int (nI dep)), (5, .int 0), (6, .int x6)] [] S) S kd k m 0 (q1 kd (nI k) x) (t0 kd (bgn 11 t)) := by
  obtain ⟨S1, a1, a2, a3⟩ := begC' (d + 3) h (by omega) 11
  obtain ⟨S2, b1, b2, b3⟩ := C0 d (dep := dep + 1) a2 hk (show t.1 + 1 < 28 by omega) (by omega) x
  refine ⟨S2, ?_, b2, a3.tr b3⟩
  rw [sB_0_1 _ _ _ _ _ _ a1, fa_1, a2.1, spk_in _ a2.2.2.2.1 (by omega), b1, bI_some]
  rfl
theorem L12 (d : Nat) {S : MS} {kd k dep : Nat} {m : Int32} {t : TC} (h : CVp S kd k m 0 t) (hk : kd < 7) (ht : t.1 < 26) (hd : dep < 16) (x x6 : Int32) : GoC (mv (kX3_speak (mFn (d + 5))) 22 [(0, .ref 42), (2, .int 1), (3, .int x), (4, .int (nI dep)), (5, .int 2), (6, .int x6)] [] S) S kd k m 0 (fSub 0 (q1 kd (nI k) x)) (t0 kd (bgn 11 (bgn 30 t))) := by
  obtain ⟨S1, a1, a2, a3⟩ := begC' (d + 4) h (by omega) 30
  obtain ⟨S2, b1, b2, b3⟩ := L10 d (dep := dep + 1) a2 hk (show t.1 + 1 < 27 by omega) (by omega) x 0
  refine ⟨S2, ?_, b2, a3.tr b3⟩
  rw [sB_2_1 _ _ _ _ _ _ a1, fa_1, spk_in _ a2.2.2.2.1 (by omega), b1, bI_some]
theorem L15 (d : Nat) {S : MS} {kd k dep : Nat} {m : Int32} {t : TC} (h : CVp S kd k m 0 t) (hk : kd < 7) (ht : t.1 < 25) (hd : dep < 15) (x x6 : Int32) : GoC (mv (kX3_speak (mFn (d + 6))) 22 [(0, .ref 42), (2, .int 1), (3, .int x), (4, .int (nI dep)), (5, .int 5), (6, .int x6)] [] S) S kd k m 0 (fSub 0 (q1 kd (nI k) (fAdd x 1))) (t0 kd (bgn 11 (bgn 30 (bgn 60 t)))) := by
  obtain ⟨S1, a1, a2, a3⟩ := begC' (d + 5) h (by omega) 60
  obtain ⟨S2, b1, b2, b3⟩ := L12 d (dep := dep + 1) a2 hk (show t.1 + 1 < 26 by omega) (by omega) (fAdd x 1) 0
  refine ⟨S2, ?_, b2, a3.tr b3⟩
  rw [sB_5_1 _ _ _ _ _ _ a1, fa_1, spk_in _ a2.2.2.2.1 (by omega), b1, bI_some]
theorem L16 (d : Nat) {S : MS} {kd k dep : Nat} {m : Int32} {t : TC} (h : CVp S kd k m 0 t) (hk : kd < 7) (ht : t.1 < 26) (hd : dep < 16) (x x6 : Int32) : GoC (mv (kX3_speak (mFn (d + 5))) 22 [(0, .ref 42), (2, .int 1), (3, .int x), (4, .int (nI dep)), (5, .int 6), (6, .int x6)] [] S) S kd k m 0 (fAdd (q1 kd (nI k) x) m) (t0 kd (bgn 11 (bgn 71 t))) := by
  obtain ⟨S1, a1, a2, a3⟩ := begC' (d + 4) h (by omega) 71
  obtain ⟨S2, b1, b2, b3⟩ := L10 d (dep := dep + 1) a2 hk (show t.1 + 1 < 27 by omega) (by omega) x 0
  refine ⟨S2, ?_, b2, a3.tr b3⟩
  rw [sB_6_1 _ _ _ _ _ _ a1, fa_1, spk_in _ a2.2.2.2.1 (by omega), b1, bI_some, b2.2.2.1]
theorem C1 (d : Nat) {S : MS} {kd k dep f : Nat} {m : Int32} {t : TC} (h : CVp S kd k m 0 t) (hk : kd < 7) (hf : f < 7) (ht : t.1 < 25) (hd : dep < 15) (x : Int32) : GoC (mv (kX3_speak (mFn (d + 6))) 22 [(0, .ref 42), (2, .int 1), (3, .int x), (4, .int (nI dep)), (5, .int (nI f)), (6, .int 0)] [] S) S kd k m 0 (w1 kd f (nI k) m x) (t1 kd f t) := by
  rcases seven hf with rfl | rfl | rfl | rfl | rfl | rfl | rfl
  · exact L10 (d + 2) h hk (by omega) (by omega) x 0
  · have e := sU_1_1 (d + 6) x (nI dep) (c := 0) (by omega) S
    obtain ⟨S', a1, a2⟩ := L10 (d + 2) (dep := dep) h hk (by omega) (by omega) x (nI (0 + 1))
    exact ⟨S', e.trans a1, a2⟩
  · exact L12 (d + 1) h hk (by omega) (by omega) x 0
  · have e := sU_3_1 (d + 6) x (nI dep) (c := 0) (by omega) S
    obtain ⟨S', a1, a2⟩ := L10 (d + 2) (dep := dep) h hk (by omega) (by omega) x (nI (0 + 1))
    exact ⟨S', e.trans a1, a2⟩
  · have e := sU_4_1 (d + 6) x (nI dep) (c := 0) (by omega) S
    have e2 := sU_1_1 (d + 6) x (nI dep) (c := 0 + 1) (by omega) S
    obtain ⟨S', a1, a2⟩ := L10 (d + 2) (dep := dep) h hk (by omega) (by omega) x (nI (0 + 1 + 1))
    exact ⟨S', (e.trans e2).trans a1, a2⟩
  · exact L15 d h hk (by omega) (by omega) x 0
  · exact L16 (d + 1) h hk (by omega) (by omega) x 0
def q2 (kd : Nat) (k m x : Int32) : Int32 := fSub (w1 kd kd k m x) m
def w2 (kd f : Nat) (k m x : Int32) : Int32 := if f = 3 then q2 kd k m (x / 2) else if f = 4 then fXor (q2 kd k m x) k else q2 kd k m x
def t2 (kd f : Nat) (t : TC) : TC := if f = 3 then t1 kd kd (bgn 12 (bgn 40 t)) else if f = 4 then t1 kd kd (bgn 12 (bgn 51 t)) else t1 kd kd (bgn 12 t)
theorem L20 (d : Nat) {S : MS} {kd k dep : Nat} {m : Int32} {t : TC} (h : CVp S kd k m 0 t) (hk : kd < 7) (ht : t.1 < 24) (hd : dep < 14) (x x6 : Int32) : GoC (mv (kX3_speak (mFn (d + 7))) 22 [(0, .ref 42), (2, .int 2), (3, .int x), (4, .int (nI dep)), (5, .int 0), (6, .int x6)] [] S) S kd k m 0 (q2 kd (nI k) m x) (t1 kd kd (bgn 12 t)) := by
  obtain ⟨S1, a1, a2, a3⟩ := begC' (d + 6) h (by omega) 12
  obtain ⟨S2, b1, b2, b3⟩ := C1 d (dep := dep + 1) a2 hk hk (show t.1 + 1 < 25 by omega) (by omega) x
  refine ⟨S2, ?_, b2, a3.tr b3⟩
  rw [sB_0_2 _ _ _ _ _ _ a1, fa_1, a2.1, spk_in _ a2.2.2.2.1 (by omega), b1, bI_some, b2.2.2.1]
  rfl
theorem L23 (d : Nat) {S : MS} {kd k dep : Nat} {m : Int32} {t : TC} (h : CVp S kd k m 0 t) (hk : kd < 7) (ht : t.1 < 23) (hd : dep < 13) (x x6 : Int32) : GoC (mv (kX3_speak (mFn (d + 8))) 22 [(0, .ref 42), (2, .int 2), (3, .int x), (4, .int (nI dep)), (5, .int 3), (6, .int x6)] [] S) S kd k m 0 (q2 kd (nI k) m (x / 2)) (t1 kd kd (bgn 12 (bgn 40 t))) := by
  obtain ⟨S1, a1, a2, a3⟩ := begC' (d + 7) h (by omega) 40
  obtain ⟨S2, b1, b2, b3⟩ := L20 d (dep := dep + 1) a2 hk (show t.1 + 1 < 24 by omega) (by omega) (x / 2) 0
  refine ⟨S2, ?_, b2, a3.tr b3⟩
  rw [sB_3_2 _ _ _ _ _ _ a1, fa_1, spk_in _ a2.2.2.2.1 (by omega), b1, bI_some]
theorem L24 (d : Nat) {S : MS} {kd k dep : Nat} {m : Int32} {t : TC} (h : CVp S kd k m 0 t) (hk : kd < 7) (ht : t.1 < 23) (hd : dep < 13) (x x6 : Int32) : GoC (mv (kX3_speak (mFn (d + 8))) 22 [(0, .ref 42), (2, .int 2), (3, .int x), (4, .int (nI dep)), (5, .int 4), (6, .int x6)] [] S) S kd k m 0 (fXor (q2 kd (nI k) m x) (nI k)) (t1 kd kd (bgn 12 (bgn 51 t))) := by
  obtain ⟨S1, a1, a2, a3⟩ := begC' (d + 7) h (by omega) 51
  have e := sU_1_2 (d + 7) x (nI (dep + 1)) (c := 0) (by omega) S1
  obtain ⟨S2, b1, b2, b3⟩ := L20 d (dep := dep + 1) a2 hk (show t.1 + 1 < 24 by omega) (by omega) x (nI (0 + 1))
  refine ⟨S2, ?_, b2, a3.tr b3⟩
  rw [sB_4_2 _ _ _ _ _ _ a1, fa_1, spk_in _ a2.2.2.2.1 (by omega), show mv (kX3_speak (mFn (d + 7))) 22 [(0, .ref 42), (2, .int 2), (3, .int x), (4, .int (nI (dep + 1))), (5, .int 1), (6, .int 0)] [] S1 = _ from e, b1, bI_some, b2.2.1]
theorem C2 (d : Nat) {S : MS} {kd k dep f : Nat} {m : Int32} {t : TC} (h : CVp S kd k m 0 t) (hk : kd < 7) (hf : f < 7) (ht : t.1 < 23) (hd : dep < 13) (x : Int32) : GoC (mv (kX3_speak (mFn (d + 8))) 22 [(0, .ref 42), (2, .int 2), (3, .int x), (4, .int (nI dep)), (5, .int (nI f)), (6, .int 0)] [] S) S kd k m 0 (w2 kd f (nI k) m x) (t2 kd f t) := by
  have up1 : ∀ c, GoC (mv (kX3_speak (mFn (d + 8))) 22 [(0, .ref 42), (2, .int 2), (3, .int x), (4, .int (nI dep)), (5, .int 0), (6, .int c)] [] S) S kd k m 0 (q2 kd (nI k) m x) (t1 kd kd (bgn 12 t)) := fun c => L20 (d + 1) h hk (by omega) (by omega) x c
  rcases seven hf with rfl | rfl | rfl | rfl | rfl | rfl | rfl
  · exact up1 0
  · have e := sU_1_2 (d + 8) x (nI dep) (c := 0) (by omega) S
    obtain ⟨S', a1, a2⟩ := up1 (nI (0 + 1))
    exact ⟨S', e.trans a1, a2⟩
  · have e := sU_2_2 (d + 8) x (nI dep) (c := 0) (by omega) S
    obtain ⟨S', a1, a2⟩ := up1 (nI (0 + 1))
    exact ⟨S', e.trans a1, a2⟩
  · exact L23 d h hk (by omega) (by omega) x 0
  · exact L24 d h hk (by omega) (by omega) x 0
  · have e := sU_5_2 (d + 8) x (nI dep) (c := 0) (by omega) S
    have e2 := sU_2_2 (d + 8) x (nI dep) (c := 0 + 1) (by omega) S
    obtain ⟨S', a1, a2⟩ := up1 (nI (0 + 1 + 1))
    exact ⟨S', (e.trans e2).trans a1, a2⟩
  · have e := sU_6_2 (d + 8) x (nI dep) (c := 0) (by omega) S
    obtain ⟨S', a1, a2⟩ := up1 (nI (0 + 1))
    exact ⟨S', e.trans a1, a2⟩
/-- parts: 1 if it PARTED -/
def p3 (k m : Int32) : Int32 := if fSub m k = 0 then 1 else 0
def q3 (k m x : Int32) : Int32 := if fSub m k = 0 then 0 else x / fSub m k
def w3 (kd f : Nat) (k m x : Int32) : Int32 := if f = 1 ∨ f = 4 then (if fSub m k = 0 then 0 else fAdd (q3 k m x) (w1 kd kd k m 1)) else q3 k m x
def t3 (kd f : Nat) (k m : Int32) (t : TC) : TC := if f = 1 ∨ f = 4 then (if fSub m k = 0 then bgn 13 (bgn 21 t) else t1 kd kd (bgn 13 (bgn 21 t))) else bgn 13 t
theorem L30 (d : Nat) {S : MS} {kd k : Nat} {m : Int32} {t : TC} (h : CVp S kd k m 0 t) (ht : t.1 < 30) (x x4 x6 : Int32) : GoC (mv (kX3_speak (mFn (d + 1))) 22 [(0, .ref 42), (2, .int 3), (3, .int x), (4, .int x4), (5, .int 0), (6, .int x6)] [] S) S kd k m (p3 (nI k) m) (q3 (nI k) m x) (bgn 13 t) := by
  obtain ⟨S1, a1, a2, a3⟩ := begC' d h ht 13
  have e := sB_0_3 _ x x4 x6 _ _ a1
  rw [fX3_part, a2.2.2.1, a2.2.1] at e
  unfold p3 q3
  by_cases c : fSub m (nI k) = 0
  · rw [if_pos c, bI_some] at e
    rw [if_pos c, if_pos c]
    obtain ⟨h0, h1, h2, h3, h5, h6⟩ := a2
    refine ⟨uI S1 42 3 1, e, ⟨?_, ?_, ?_, ?_, ?_, ?_⟩, a3.put (by decide)⟩
    · rw [uI_ni _ (by decide)]; exact h0
    · rw [uI_ni _ (by decide)]; exact h1
    · rw [uI_ni _ (by decide)]; exact h2
    · rw [uI_eq]
    · rw [uI_ni _ (by decide)]; exact h5
    · intro i hi
      rw [uI_oth (by decide)]
      exact h6 i hi
  · rw [if_neg c, if_neg c, bI_some] at e
    rw [if_neg c, if_neg c]
    exact ⟨S1, e, a2, a3⟩
theorem L31 (d : Nat) {S : MS} {kd k dep : Nat} {m : Int32} {t : TC} (h : CVp S kd k m 0 t) (hk : kd < 7) (ht : t.1 < 23) (hd : dep < 13) (x x6 : Int32) : GoC (mv (kX3_speak (mFn (d + 7))) 22 [(0, .ref 42), (2, .int 3), (3, .int x), (4, .int (nI dep)), (5, .int 1), (6, .int x6)] [] S) S kd k m (p3 (nI k) m) (if fSub m (nI k) = 0 then 0 else fAdd (q3 (nI k) m x) (w1 kd kd (nI k) m 1)) (if fSub m (nI k) = 0 then bgn 13 (bgn 21 t) else t1 kd kd (bgn 13 (bgn 21 t))) := by
  obtain ⟨S1, a1, a2, a3⟩ := begC' (d + 6) h (by omega) 21
  obtain ⟨S2, b1, b2, b3⟩ := L30 (d + 5) a2 (show t.1 + 1 < 30 by omega) x (nI (dep + 1)) 0
  have e := sB_1_3 _ x (nI dep) x6 _ _ a1
  rw [fa_1, spk_in _ a2.2.2.2.1 (by omega), b1, bI_some, b2.1] at e
  by_cases c : fSub m (nI k) = 0
  · have hp : S2.1 42 3 = 1 := by rw [b2.2.2.2.1]; exact if_pos c
    rw [if_pos c, if_pos c]
    rw [fX3_speak, if_neg (by rw [hp]; decide), bI_some, show q3 (nI k) m x = 0 from if_pos c, show fAdd 0 0 = (0 : Int32) by decide] at e
    exact ⟨S2, e, b2, a3.tr b3⟩
  · have hp : p3 (nI k) m = 0 := if_neg c
    rw [hp] at b2 ⊢
    rw [if_neg c, if_neg c]
    obtain ⟨S3, c1, c2, c3⟩ := C1 d (dep := dep + 1) b2 hk hk (show t.1 + 1 + 1 < 25 by omega) (by omega) 1
    rw [spk_in _ b2.2.2.2.1 (by omega), c1, bI_some] at e
    exact ⟨S3, e, c2, (a3.tr b3).tr c3⟩
theorem C3 (d : Nat) {S : MS} {kd k dep f : Nat} {m : Int32} {t : TC} (h : CVp S kd k m 0 t) (hk : kd < 7) (hf : f < 7) (ht : t.1 < 23) (hd : dep < 13) (x : Int32) : GoC (mv (kX3_speak (mFn (d + 8))) 22 [(0, .ref 42), (2, .int 3), (3, .int x), (4, .int (nI dep)), (5, .int (nI f)), (6, .int 0)] [] S) S kd k m (p3 (nI k) m) (w3 kd f (nI k) m x) (t3 kd f (nI k) m t) := by
  have up1 : ∀ c, GoC (mv (kX3_speak (mFn (d + 8))) 22 [(0, .ref 42), (2, .int 3), (3, .int x), (4, .int (nI dep)), (5, .int 0), (6, .int c)] [] S) S kd k m (p3 (nI k) m) (q3 (nI k) m x) (bgn 13 t) := fun c => L30 (d + 7) h (by omega) x (nI dep) c
  have up2 : ∀ c, GoC (mv (kX3_speak (mFn (d + 8))) 22 [(0, .ref 42), (2, .int 3), (3, .int x), (4, .int (nI dep)), (5, .int 1), (6, .int c)] [] S) S kd k m (p3 (nI k) m) (if fSub m (nI k) = 0 then 0 else fAdd (q3 (nI k) m x) (w1 kd kd (nI k) m 1)) (if fSub m (nI k) = 0 then bgn 13 (bgn 21 t) else t1 kd kd (bgn 13 (bgn 21 t))) := fun c => L31 (d + 1) h hk (by omega) (by omega) x c
  rcases seven hf with rfl | rfl | rfl | rfl | rfl | rfl | rfl
  · exact up1 0
  · exact up2 0
  · have e := sU_2_3 (d + 8) x (nI dep) (c := 0) (by omega) S
    obtain ⟨S', a1, a2⟩ := up1 (nI (0 + 1))
    exact ⟨S', e.trans a1, a2⟩
  · have e := sU_3_3 (d + 8) x (nI dep) (c := 0) (by omega) S
    obtain ⟨S', a1, a2⟩ := up1 (nI (0 + 1))
    exact ⟨S', e.trans a1, a2⟩
  · have e := sU_4_3 (d + 8) x (nI dep) (c := 0) (by omega) S
    obtain ⟨S', a1, a2⟩ := up2 (nI (0 + 1))
    exact ⟨S', e.trans a1, a2⟩
  · have e := sU_5_3 (d + 8) x (nI dep) (c := 0) (by omega) S
    have e2 := sU_2_3 (d + 8) x (nI dep) (c := 0 + 1) (by omega) S
    obtain ⟨S', a1, a2⟩ := up1 (nI (0 + 1 + 1))
    exact ⟨S', (e.trans e2).trans a1, a2⟩
  · have e := sU_6_3 (d + 8) x (nI dep) (c := 0) (by omega) S
    obtain ⟨S', a1, a2⟩ := up1 (nI (0 + 1))
    exact ⟨S', e.trans a1, a2⟩
/-! ===== voices: the model ===== -/
def MVp (S : MS) (p : Int32) (t : TC) : Prop := S.1 54 21 = p ∧ S.1 54 20 = nI t.1 ∧ ∀ i, i < t.1 → S.1 68 i = t.2 i
def FV (S S' : MS) : Prop := Fr [54, 68] S S' ∧ ∀ j, j ≠ 20 → j ≠ 21 → S'.1 54 j = S.1 54 j
theorem FV.rf {S : MS} : FV S S := ⟨Fr.rf, fun _ _ _ => rfl⟩
theorem FV.tr {S T U : MS} (a : FV S T) (b : FV T U) : FV S U := ⟨a.1.tr b.1, fun j h1 h2 => (b.2 j h1 h2).trans (a.2 j h1 h2)⟩
def GoM (e : Option MR) (S : MS) (p r : Int32) (t : TC) : Prop := ∃ S', e = some (some (.int r), S') ∧ MVp S' p t ∧ FV S S'
theorem begM' (d : Nat) {S : MS} {p : Int32} {t : TC} (h : MVp S p t) (ht : t.1 < 30) (b : Int32) : ∃ S', mFn (d + 1) 149 [.ref 54, .int b] S = some (none, S') ∧ MVp S' p (bgn b t) ∧ FV S S' := by
  obtain ⟨h3, h5, h6⟩ := h
  refine ⟨uI (uI S 68 t.1 b) 54 20 (nI (t.1 + 1)), ?_, ⟨?_, ?_, ?_⟩, (Fr.rf.put (by decide)).put (by decide), fun j h1 h2 => ?_⟩
  · rw [fX6_begins, h5, if_neg (show ¬ 30 ≤ nI t.1 from nI_ge (a := t.1) (b := 30) ht (by decide)), if_in ht (by omega), cN (by omega), fa_1]
  · rw [uI_ni _ (by decide), uI_oth (by decide)]; exact h3
  · rw [uI_eq]; rfl
  · intro i hi
    have hi : i < t.1 + 1 := hi
    rw [uI_oth (by decide)]
    show _ = if i = t.1 then b else t.2 i
    by_cases e : i = t.1
    · rw [if_pos e, e, uI_eq]
    · rw [if_neg e, uI_ni _ e]
      exact h6 i (by omega)
  · rw [uI_ni _ h1, uI_oth (by decide)]
theorem neg_s (y : Int32) : -y = fSub 0 y := by
  apply Int32.toBitVec_inj.1
  show -y.toBitVec = 0#32 - y.toBitVec
  simp
/-- what the model reads of the fountain -/
def KM (S : MS) (kd k : Nat) (m : Int32) : Prop := k < 8 ∧ kd < 7 ∧ S.1 55 (7 + 4 * k) = nI kd ∧ S.1 55 (8 + 4 * k) = m
theorem KM_f {S S' : MS} {kd k : Nat} {m : Int32} (h : KM S kd k m) (f : FV S S') : KM S' kd k m := by
  unfold KM at h ⊢
  rw [f.1 55 (by decide)]
  exact h
theorem M150 (d : Nat) {S : MS} {k : Nat} {p : Int32} {t : TC} (h : MVp S p t) (ht : t.1 < 30) (x : Int32) : GoM (mFn (d + 2) 150 [.ref 54, .int (nI k), .int x] S) S p (fAdd x (nI k)) (bgn 10 t) := by
  obtain ⟨S1, a1, a2, a3⟩ := begM' d h ht 10
  exact ⟨S1, by rw [fX6_plainSplashes, a1, bV_some], a2, a3⟩
theorem M151 (d : Nat) {S : MS} {k : Nat} {p : Int32} {t : TC} (h : MVp S p t) (ht : t.1 < 29) (x : Int32) : GoM (mFn (d + 3) 151 [.ref 54, .int (nI k), .int x] S) S p (fSub (fAdd x (nI k)) 4) (bgn 10 (bgn 20 t)) := by
  obtain ⟨S1, a1, a2, a3⟩ := begM' (d + 1) h (by omega) 20
  obtain ⟨S2, b1, b2, b3⟩ := M150 d (k := k) a2 (show t.1 + 1 < 30 by omega) x
  exact ⟨S2, by rw [fX6_lionSplashes, a1, bV_some, b1, bI_some], b2, a3.tr b3⟩
theorem M152 (d : Nat) {S : MS} {kd k : Nat} {p m : Int32} {t : TC} (hk : KM S kd k m) (h : MVp S p t) (ht : t.1 < 28) (x : Int32) : GoM (mFn (d + 4) 152 [.ref 54, .int (nI k), .int x] S) S p (w0 kd (nI k) x) (t0 kd t) := by
  obtain ⟨k8, k7, e7, e8⟩ := hk
  have row := fX6_splashes (d + 3) (nI k) x S
  rw [pM_of0 _ k8, bI_some, e7] at row
  have plain : (mFn (d + 4) 152 [.ref 54, .int (nI k), .int x] S = bI (mFn (d + 3) 150 [.ref 54, .int (nI k), .int x] S) (fun y6 S6 => some (some (.int y6), S6))) → GoM (mFn (d + 4) 152 [.ref 54, .int (nI k), .int x] S) S p (fAdd x (nI k)) (bgn 10 t) := by
    intro e
    obtain ⟨S1, a1, a2⟩ := M150 (d + 1) (k := k) h (by omega) x
    exact ⟨S1, by rw [e, a1, bI_some], a2⟩
  rcases seven k7 with rfl | rfl | rfl | rfl | rfl | rfl | rfl
  · rw [if_neg (by decide), if_neg (by decide), if_neg (by decide)] at row
    exact plain row
  · rw [if_pos (by decide)] at row
    obtain ⟨S1, a1, a2⟩ := M151 d (k := k) h (by omega) x
    exact ⟨S1, by rw [row, a1, bI_some]; rfl, a2⟩
  · rw [if_neg (by decide), if_neg (by decide), if_neg (by decide)] at row
    exact plain row
  · rw [if_neg (by decide), if_neg (by decide), if_neg (by decide)] at row
    exact plain row
  · rw [if_neg (by decide), if_pos (by decide)] at row
    obtain ⟨S1, a1, a2, a3⟩ := begM' (d + 2) h (by omega) 50
    obtain ⟨S2, b1, b2, b3⟩ := M151 d (k := k) a2 (show t.1 + 1 < 29 by omega) x
    exact ⟨S2, by rw [row, a1, bV_some, b1, bI_some]; rfl, b2, a3.tr b3⟩
  · rw [if_neg (by decide), if_neg (by decide), if_neg (by decide)] at row
    exact plain row
  · rw [if_neg (by decide), if_neg (by decide), if_pos (by decide)] at row
    obtain ⟨S1, a1, a2, a3⟩ := begM' (d + 2) h (by omega) 70
    exact ⟨S1, by rw [row, a1, bV_some]; rfl, a2, a3⟩
theorem M153 (d : Nat) {S : MS} {kd k : Nat} {p m : Int32} {t : TC} (hk : KM S kd k m) (h : MVp S p t) (ht : t.1 < 27) (x : Int32) : GoM (mFn (d + 5) 153 [.ref 54, .int (nI k), .int x] S) S p (q1 kd (nI k) x) (t0 kd (bgn 11 t)) := by
  obtain ⟨S1, a1, a2, a3⟩ := begM' (d + 3) h (by omega) 11
  obtain ⟨S2, b1, b2, b3⟩ := M152 d (KM_f hk a3) a2 (show t.1 + 1 < 28 by omega) x
  exact ⟨S2, by rw [fX6_plainLisps, a1, bV_some, b1, bI_some]; rfl, b2, a3.tr b3⟩
theorem M154 (d : Nat) {S : MS} {kd k : Nat} {p m : Int32} {t : TC} (hk : KM S kd k m) (h : MVp S p t) (ht : t.1 < 26) (x : Int32) : GoM (mFn (d + 6) 154 [.ref 54, .int (nI k), .int x] S) S p (fSub 0 (q1 kd (nI k) x)) (t0 kd (bgn 11 (bgn 30 t))) := by
  obtain ⟨S1, a1, a2, a3⟩ := begM' (d + 4) h (by omega) 30
  obtain ⟨S2, b1, b2, b3⟩ := M153 d (KM_f hk a3) a2 (show t.1 + 1 < 27 by omega) x
  exact ⟨S2, by rw [fX6_dolphinLisps, a1, bV_some, b1, bI_some, neg_s], b2, a3.tr b3⟩
theorem M155 (d : Nat) {S : MS} {kd k : Nat} {p m : Int32} {t : TC} (hk : KM S kd k m) (h : MVp S p t) (ht : t.1 < 25) (x : Int32) : GoM (mFn (d + 7) 155 [.ref 54, .int (nI k), .int x] S) S p (w1 kd kd (nI k) m x) (t1 kd kd t) := by
  obtain ⟨k8, k7, e7, e8⟩ := id hk
  have row := fX6_lisps (d + 6) (nI k) x S
  rw [pM_of0 _ k8, bI_some, e7] at row
  have plain : (mFn (d + 7) 155 [.ref 54, .int (nI k), .int x] S = bI (mFn (d + 6) 153 [.ref 54, .int (nI k), .int x] S) (fun y6 S6 => some (some (.int y6), S6))) → GoM (mFn (d + 7) 155 [.ref 54, .int (nI k), .int x] S) S p (q1 kd (nI k) x) (t0 kd (bgn 11 t)) := by
    intro e
    obtain ⟨S1, a1, a2⟩ := M153 (d + 1) hk h (by omega) x
    exact ⟨S1, by rw [e, a1, bI_some], a2⟩
  rcases seven k7 with rfl | rfl | rfl | rfl | rfl | rfl | rfl
  · rw [if_neg (by decide), if_neg (by decide), if_neg (by decide), if_neg (by decide), if_neg (by decide)] at row
    exact plain row
  · rw [if_neg (by decide), if_neg (by decide), if_neg (by decide), if_neg (by decide), if_neg (by decide)] at row
    exact plain row
  · rw [if_pos (by decide)] at row
    obtain ⟨S1, a1, a2⟩ := M154 d hk h (by omega) x
    exact ⟨S1, by rw [row, a1, bI_some]; rfl, a2⟩
  · rw [if_neg (by decide), if_pos (by decide)] at row
    exact plain row
  · rw [if_neg (by decide), if_neg (by decide), if_pos (by decide)] at row
    exact plain row
  · rw [if_neg (by decide), if_neg (by decide), if_neg (by decide), if_pos (by decide)] at row
    obtain ⟨S1, a1, a2, a3⟩ := begM' (d + 5) h (by omega) 60
    obtain ⟨S2, b1, b2, b3⟩ := M154 d (KM_f hk a3) a2 (show t.1 + 1 < 26 by omega) (fAdd x 1)
    exact ⟨S2, by rw [row, a1, bV_some, b1, bI_some]; rfl, b2, a3.tr b3⟩
  · rw [if_neg (by decide), if_neg (by decide), if_neg (by decide), if_neg (by decide), if_pos (by decide)] at row
    obtain ⟨S1, a1, a2, a3⟩ := begM' (d + 5) h (by omega) 71
    obtain ⟨S2, b1, b2, b3⟩ := M153 (d + 1) (KM_f hk a3) a2 (show t.1 + 1 < 27 by omega) x
    have k2 := KM_f hk (a3.tr b3)
    exact ⟨S2, by rw [row, a1, bV_some, b1, bI_some, pM_of1 _ k8, bI_some, k2.2.2.2]; rfl, b2, a3.tr b3⟩
theorem M156 (d : Nat) {S : MS} {kd k : Nat} {p m : Int32} {t : TC} (hk : KM S kd k m) (h : MVp S p t) (ht : t.1 < 24) (x : Int32) : GoM (mFn (d + 8) 156 [.ref 54, .int (nI k), .int x] S) S p (q2 kd (nI k) m x) (t1 kd kd (bgn 12 t)) := by
  obtain ⟨S1, a1, a2, a3⟩ := begM' (d + 6) h (by omega) 12
  obtain ⟨S2, b1, b2, b3⟩ := M155 d (KM_f hk a3) a2 (show t.1 + 1 < 25 by omega) x
  have k2 := KM_f hk (a3.tr b3)
  exact ⟨S2, by rw [fX6_plainDrips, a1, bV_some, b1, bI_some, pM_of1 _ hk.1, bI_some, k2.2.2.2]; rfl, b2, a3.tr b3⟩
theorem M157 (d : Nat) {S : MS} {kd k : Nat} {p m : Int32} {t : TC} (hk : KM S kd k m) (h : MVp S p t) (ht : t.1 < 23) (x : Int32) : GoM (mFn (d + 9) 157 [.ref 54, .int (nI k), .int x] S) S p (w2 kd kd (nI k) m x) (t2 kd kd t) := by
  obtain ⟨k8, k7, e7, e8⟩ := id hk
  have row := fX6_drips (d + 8) (nI k) x S
  rw [pM_of0 _ k8, bI_some, e7] at row
  have plain : (mFn (d + 9) 157 [.ref 54, .int (nI k), .int x] S = bI (mFn (d + 8) 156 [.ref 54, .int (nI k), .int x] S) (fun y6 S6 => some (some (.int y6), S6))) → GoM (mFn (d + 9) 157 [.ref 54, .int (nI k), .int x] S) S p (q2 kd (nI k) m x) (t1 kd kd (bgn 12 t)) := by
    intro e
    obtain ⟨S1, a1, a2⟩ := M156 d hk h (by omega) x
    exact ⟨S1, by rw [e, a1, bI_some], a2⟩
  rcases seven k7 with rfl | rfl | rfl | rfl | rfl | rfl | rfl
  · rw [if_neg (by decide), if_neg (by decide)] at row
    exact plain row
  · rw [if_neg (by decide), if_neg (by decide)] at row
    exact plain row
  · rw [if_neg (by decide), if_neg (by decide)] at row
    exact plain row
  · rw [if_pos (by decide)] at row
    obtain ⟨S1, a1, a2, a3⟩ := begM' (d + 7) h (by omega) 40
    obtain ⟨S2, b1, b2, b3⟩ := M156 d (KM_f hk a3) a2 (show t.1 + 1 < 24 by omega) (x / 2)
    exact ⟨S2, by rw [row, a1, bV_some, if_neg (show ¬ (2 : Int32) = 0 by decide), b1, bI_some]; rfl, b2, a3.tr b3⟩
  · rw [if_neg (by decide), if_pos (by decide)] at row
    obtain ⟨S1, a1, a2, a3⟩ := begM' (d + 7) h (by omega) 51
    obtain ⟨S2, b1, b2, b3⟩ := M156 d (KM_f hk a3) a2 (show t.1 + 1 < 24 by omega) x
    exact ⟨S2, by rw [row, a1, bV_some, b1, bI_some]; rfl, b2, a3.tr b3⟩
  · rw [if_neg (by decide), if_neg (by decide)] at row
    exact plain row
  · rw [if_neg (by decide), if_neg (by decide)] at row
    exact plain row
theorem MVp_set {S : MS} {p : Int32} {t : TC} (h : MVp S p t) (q : Int32) : MVp (uI S 54 21 q) q t ∧ FV S (uI S 54 21 q) := by
  refine ⟨⟨?_, ?_, ?_⟩, Fr.rf.put (by decide), fun j h1 h2 => ?_⟩
  · rw [uI_eq]
  · rw [uI_ni _ (by decide)]; exact h.2.1
  · intro i hi
    rw [uI_oth (by decide)]
    exact h.2.2 i hi
  · rw [uI_ni _ h2]
theorem M158 (d : Nat) {S : MS} {kd k : Nat} {p m : Int32} {t : TC} (hk : KM S kd k m) (h : MVp S p t) (ht : t.1 < 30) (x : Int32) : GoM (mFn (d + 2) 158 [.ref 54, .int (nI k), .int x] S) S (p3 (nI k) m) (q3 (nI k) m x) (bgn 13 t) := by
  obtain ⟨S1, a1, a2, a3⟩ := begM' d h (by omega) 13
  have k2 := KM_f hk a3
  have row := fX6_plainParts (d + 1) (nI k) x S
  rw [a1, bV_some, pM_of1 _ hk.1, bI_some, k2.2.2.2] at row
  unfold p3 q3
  by_cases c : fSub m (nI k) = 0
  · rw [if_pos c] at row
    rw [if_pos c, if_pos c]
    exact ⟨_, row, (MVp_set a2 1).1, a3.tr (MVp_set a2 1).2⟩
  · rw [if_neg c, if_neg c] at row
    rw [if_neg c, if_neg c]
    exact ⟨_, row, (MVp_set a2 0).1, a3.tr (MVp_set a2 0).2⟩
theorem M159 (d : Nat) {S : MS} {kd k : Nat} {p m : Int32} {t : TC} (hk : KM S kd k m) (h : MVp S p t) (ht : t.1 < 23) (x : Int32) : GoM (mFn (d + 8) 159 [.ref 54, .int (nI k), .int x] S) S (p3 (nI k) m) (w3 kd kd (nI k) m x) (t3 kd kd (nI k) m t) := by
  obtain ⟨k8, k7, e7, e8⟩ := id hk
  have row := fX6_partsBy (d + 7) (nI k) x S
  rw [pM_of0 _ k8, bI_some, e7, pM_of0 _ k8, bI_some, e7] at row
  have plain : (mFn (d + 8) 159 [.ref 54, .int (nI k), .int x] S = bI (mFn (d + 7) 158 [.ref 54, .int (nI k), .int x] S) (fun y6 S6 => some (some (.int y6), S6))) → GoM (mFn (d + 8) 159 [.ref 54, .int (nI k), .int x] S) S (p3 (nI k) m) (q3 (nI k) m x) (bgn 13 t) := by
    intro e
    obtain ⟨S1, a1, a2⟩ := M158 (d + 5) hk h (by omega) x
    exact ⟨S1, by rw [e, a1, bI_some], a2⟩
  have two : (mFn (d + 8) 159 [.ref 54, .int (nI k), .int x] S = bV (mFn (d + 7) 149 [.ref 54, .int 21] S) (fun S2 =>
        bI (mFn (d + 7) 158 [.ref 54, .int (nI k), .int x] S2) (fun y3 S3 =>
          if (S3.1 54 21) = 0 then
            bI (mFn (d + 7) 155 [.ref 54, .int (nI k), .int 1] S3) (fun y4 S4 =>
              some (some (.int (fAdd y3 y4)), S4))
          else
            some (some (.int 0), S3)))) → GoM (mFn (d + 8) 159 [.ref 54, .int (nI k), .int x] S) S (p3 (nI k) m) (if fSub m (nI k) = 0 then 0 else fAdd (q3 (nI k) m x) (w1 kd kd (nI k) m 1)) (if fSub m (nI k) = 0 then bgn 13 (bgn 21 t) else t1 kd kd (bgn 13 (bgn 21 t))) := by
    intro e
    obtain ⟨S1, a1, a2, a3⟩ := begM' (d + 6) h (by omega) 21
    obtain ⟨S2, b1, b2, b3⟩ := M158 (d + 5) (KM_f hk a3) a2 (show t.1 + 1 < 30 by omega) x
    rw [a1, bV_some, b1, bI_some, b2.1] at e
    have hp : p3 (nI k) m = if fSub m (nI k) = 0 then 1 else 0 := rfl
    by_cases c : fSub m (nI k) = 0
    · rw [if_pos c] at hp
      rw [hp] at e b2 ⊢
      rw [if_neg (by decide)] at e
      rw [if_pos c, if_pos c]
      exact ⟨S2, e, b2, a3.tr b3⟩
    · rw [if_neg c] at hp
      rw [hp] at e b2 ⊢
      rw [if_pos rfl] at e
      obtain ⟨S3, c1, c2, c3⟩ := M155 d (KM_f hk (a3.tr b3)) b2 (show t.1 + 1 + 1 < 25 by omega) 1
      rw [c1, bI_some] at e
      rw [if_neg c, if_neg c]
      exact ⟨S3, e, c2, (a3.tr b3).tr c3⟩
  rcases seven k7 with rfl | rfl | rfl | rfl | rfl | rfl | rfl
  · rw [if_neg (by decide), if_neg (by decide)] at row
    exact plain row
  · rw [if_pos (by decide)] at row
    exact two row
  · rw [if_neg (by decide), if_neg (by decide)] at row
    exact plain row
  · rw [if_neg (by decide), if_neg (by decide)] at row
    exact plain row
  · rw [if_neg (by decide), if_pos (by decide)] at row
    exact two row
  · rw [if_neg (by decide), if_neg (by decide)] at row
    exact plain row
  · rw [if_neg (by decide), if_neg (by decide)] at row
    exact plain row
/-- after voices -/
theorem Rel_voice {S S' : MS} (hR : Rel S) (g : ∀ k, k ≠ 42 → k ≠ 43 → k ≠ 54 → k ≠ 68 → S'.1 k = S.1 k) (h2 : S'.1 54 2 = S.1 54 2) (hV : RV S'.1) : Rel S' := by
  have cc : ∀ b, (b = 1 ∨ b = 18) → ∀ k, ccell b k → k ≠ 42 ∧ k ≠ 43 ∧ k ≠ 54 ∧ k ≠ 68 := by
    intro b hb k hk
    obtain ⟨k1, k2, k3⟩ := hk
    rcases hb with rfl | rfl <;> omega
  have gc : ∀ b, (b = 1 ∨ b = 18) → ∀ k, ccell b k → S'.1 k = S.1 k := fun b hb k hk => by
    obtain ⟨x1, x2, x3, x4⟩ := cc b hb k hk
    exact g k x1 x2 x3 x4
  obtain ⟨⟨nf, np, nt, nw, o, hc⟩, hI, hE, hS, _⟩ := hR
  refine ⟨⟨nf, np, nt, nw, o, RC_c (gc 1 (Or.inl rfl)) (g 55 (by decide) (by decide) (by decide) (by decide)) hc⟩, ⟨?_, ?_⟩, ?_, ?_, hV⟩
  · rw [g 0 (by decide) (by decide) (by decide) (by decide), h2]; exact hI.1
  · rw [g 0 (by decide) (by decide) (by decide) (by decide)]
    rcases hI.2 with e | ⟨a1, a2, a3, a4, a5, e⟩
    · exact Or.inl e
    · exact Or.inr ⟨a1, a2, a3, a4, a5, RC_c (gc 18 (Or.inr rfl)) (g 56 (by decide) (by decide) (by decide) (by decide)) e⟩
  · intro k hk
    rw [g 53 (by decide) (by decide) (by decide) (by decide), g 57 (by decide) (by decide) (by decide) (by decide)]
    exact hE k hk
  · intro s hs
    rw [g (45 + 2 * s) (by omega) (by omega) (by omega) (by omega), g (46 + 2 * s) (by omega) (by omega) (by omega) (by omega), g 58 (by decide) (by decide) (by decide) (by decide), g 59 (by decide) (by decide) (by decide) (by decide), g 60 (by decide) (by decide) (by decide) (by decide)]
    exact hS s hs
theorem t0_n (kd : Nat) (t : TC) : (t0 kd t).1 ≤ t.1 + 3 := by
  unfold t0
  by_cases a : kd = 1
  · rw [if_pos a]; show t.1 + 1 + 1 ≤ _; omega
  · rw [if_neg a]
    by_cases b : kd = 4
    · rw [if_pos b]; show t.1 + 1 + 1 + 1 ≤ _; omega
    · rw [if_neg b]
      by_cases c : kd = 6
      · rw [if_pos c]; show t.1 + 1 ≤ _; omega
      · rw [if_neg c]; show t.1 + 1 ≤ _; omega
theorem t1_n (kd f : Nat) (t : TC) : (t1 kd f t).1 ≤ t.1 + 6 := by
  unfold t1
  by_cases a : f = 2
  · rw [if_pos a]; have := t0_n kd (bgn 11 (bgn 30 t)); have e : (bgn 11 (bgn 30 t)).1 = t.1 + 2 := rfl; omega
  · rw [if_neg a]
    by_cases b : f = 5
    · rw [if_pos b]; have := t0_n kd (bgn 11 (bgn 30 (bgn 60 t))); have e : (bgn 11 (bgn 30 (bgn 60 t))).1 = t.1 + 3 := rfl; omega
    · rw [if_neg b]
      by_cases c : f = 6
      · rw [if_pos c]; have := t0_n kd (bgn 11 (bgn 71 t)); have e : (bgn 11 (bgn 71 t)).1 = t.1 + 2 := rfl; omega
      · rw [if_neg c]; have := t0_n kd (bgn 11 t); have e : (bgn 11 t).1 = t.1 + 1 := rfl; omega
theorem t2_n (kd f : Nat) (t : TC) : (t2 kd f t).1 ≤ t.1 + 8 := by
  unfold t2
  by_cases a : f = 3
  · rw [if_pos a]; have := t1_n kd kd (bgn 12 (bgn 40 t)); have e : (bgn 12 (bgn 40 t)).1 = t.1 + 2 := rfl; omega
  · rw [if_neg a]
    by_cases b : f = 4
    · rw [if_pos b]; have := t1_n kd kd (bgn 12 (bgn 51 t)); have e : (bgn 12 (bgn 51 t)).1 = t.1 + 2 := rfl; omega
    · rw [if_neg b]; have := t1_n kd kd (bgn 12 t); have e : (bgn 12 t).1 = t.1 + 1 := rfl; omega
theorem t3_n (kd f : Nat) (k m : Int32) (t : TC) : (t3 kd f k m t).1 ≤ t.1 + 8 := by
  unfold t3
  by_cases a : f = 1 ∨ f = 4
  · rw [if_pos a]
    by_cases b : fSub m k = 0
    · rw [if_pos b]; show t.1 + 1 + 1 ≤ _; omega
    · rw [if_neg b]; have := t1_n kd kd (bgn 13 (bgn 21 t)); have e : (bgn 13 (bgn 21 t)).1 = t.1 + 2 := rfl; omega
  · rw [if_neg a]; show t.1 + 1 ≤ _; omega
def z0T : TC := (0, fun _ => 0)
/-- what a voice answers, both ways -/
theorem voice_C (d : Nat) {S : MS} {k kd : Nat} {v p r : Int32} {t : TC} (x : Int32) (hk : k < 8) (e2 : S.1 2 k = nI kd) (h : ∀ A : MS, CVp A kd k (S.1 3 k) 0 z0T → GoC (mFn (d + 9) 19 [.ref 42, .int (nI kd), .int v, .int x, .int (nI 0)] A) A kd k (S.1 3 k) p r t) : ∃ T, mFn (d + 10) 18 [.ref 42, .ref 1, .int (nI k), .int v, .int x] S = some (some (.int r), T) ∧ CVp T kd k (S.1 3 k) p t ∧ Fr [42, 43] S T := by
  have hA : CVp (uI (uI (uI (uI (uI S 42 0 (nI kd)) 42 1 (nI k)) 42 2 (S.1 3 k)) 42 3 0) 42 5 0) kd k (S.1 3 k) 0 z0T := by
    refine ⟨?_, ?_, ?_, ?_, ?_, fun i hi => absurd hi (Nat.not_lt_zero i)⟩
    · rw [uI_ni _ (by decide), uI_ni _ (by decide), uI_ni _ (by decide), uI_ni _ (by decide), uI_eq]
    · rw [uI_ni _ (by decide), uI_ni _ (by decide), uI_ni _ (by decide), uI_eq]
    · rw [uI_ni _ (by decide), uI_ni _ (by decide), uI_eq]
    · rw [uI_ni _ (by decide), uI_eq]
    · rw [uI_eq]; rfl
  obtain ⟨T, a1, a2, a3⟩ := h _ hA
  refine ⟨T, ?_, a2, (((((Fr.rf.put (by decide)).put (by decide)).put (by decide)).put (by decide)).put (by decide)).tr a3⟩
  rw [fX3_answer, if_in hk (by omega), if_in hk (by omega), cN (show k ≤ 100000 by omega), e2]
  rw [show mFn (d + 9) 19 [.ref 42, .int (nI kd), .int v, .int x, .int 0] (uI (uI (uI (uI (uI S 42 0 (nI kd)) 42 1 (nI k)) 42 2 (S.1 3 k)) 42 3 0) 42 5 0) = _ from a1, bI_some]
/-- both sides of a voice -/
theorem voice_2 {d : Nat} {S : MS} (hR : Rel S) {as as' : List Value} {T : MS} {kd k : Nat} {m p r : Int32} {t : TC} (ht : t.1 ≤ 30) (hp : p = 0 ∨ p = 1) (hT : CVp T kd k m p t) (fT : Fr [42, 43] S T)
    (h1 : mFn (d + 11) 59 as S = if T.1 42 3 = 0 then some (some (.int r), T) else bI (mFn (d + 10) 72 [.ref 0, .int 6] T) (fun y5 S5 => some (some (.int y5), S5)))
    (h2 : ∀ A : MS, Fr [42, 43, 53] S A → ∃ U, mFn (d + 11) 160 as' A = (if U.1 54 21 = 0 then some (some (.int r), U) else bI (mFn (d + 10) 86 [.ref 54, .int (-1000000006)] U) (fun y6 S6 => some (some (.int y6), S6))) ∧ MVp U p t ∧ FV A U) :
    ∃ (r : Int32) (S1 S2 : MS), mFn (d + 11) 59 as S = some (some (.int r), S1) ∧ mFn (d + 11) 160 as' S1 = some (some (.int r), S2) ∧ Rel S2 := by
  rcases hp with rfl | rfl
  · rw [hT.2.2.2.1, if_pos rfl] at h1
    obtain ⟨U, u1, u2, u3⟩ := h2 T (fT.up (by decide))
    rw [u2.1, if_pos rfl] at u1
    refine ⟨r, T, U, h1, u1, Rel_voice hR (fun i a b c e => by rw [u3.1 i (by simp; omega), fT i (by simp; omega)]) (by rw [u3.2 2 (by decide) (by decide), fT 54 (by decide)]) ⟨t.1, ht, by rw [u3.1 42 (by decide)]; exact hT.2.2.2.2.1, u2.2.1, fun i hi => ?_⟩⟩
    rw [u3.1 43 (by decide), hT.2.2.2.2.2 i hi, u2.2.2 i hi]
  · rw [hT.2.2.2.1, if_neg (by decide), pC_err6, bI_some] at h1
    have fA : Fr [42, 43, 53] S (uI T 53 6 (T.1 53 6 + 1)) := (fT.up (by decide)).put (by decide)
    obtain ⟨U, u1, u2, u3⟩ := h2 _ fA
    rw [u2.1, if_neg (by decide), pM_err6, bI_some] at u1
    have e57 : U.1 57 = S.1 57 := by rw [u3.1 57 (by decide), fA 57 (by decide)]
    have e53 : U.1 53 = (uI T 53 6 (T.1 53 6 + 1)).1 53 := u3.1 53 (by decide)
    have t53 : T.1 53 = S.1 53 := fT 53 (by decide)
    refine ⟨_, _, _, h1, u1, Rel_voice (Rel_EE (k := 6) hR) (fun i a b c e => ?_) ?_ ⟨t.1, ht, ?_, ?_, fun i hi => ?_⟩⟩
    · by_cases i57 : i = 57
      · subst i57
        funext j
        unfold EE
        rw [uI_rd, uI_rd, e57, uI_oth (show 57 ≠ 53 by decide)]
      · rw [uI_oth i57]
        unfold EE
        rw [uI_oth i57]
        by_cases i53 : i = 53
        · subst i53
          rw [e53]
          funext j
          rw [uI_rd, uI_rd, t53]
        · rw [uI_oth i53, u3.1 i (by simp; omega), uI_oth i53, fT i (by simp; omega)]
    · rw [uI_oth (by decide), u3.2 2 (by decide) (by decide), fA 54 (by decide)]
      unfold EE
      rw [uI_oth (by decide), uI_oth (by decide)]
    · rw [uI_oth (by decide), u3.1 42 (by decide), uI_oth (by decide)]; exact hT.2.2.2.2.1
    · rw [uI_oth (by decide)]; exact u2.2.1
    · rw [uI_oth (by decide), u3.1 43 (by decide), uI_oth (by decide), uI_oth (by decide), hT.2.2.2.2.2 i hi, u2.2.2 i hi]
theorem ok_voice (d : Nat) (x v z : Int32) : Ok2 (d + 11) 59 160 [.ref 0, .int x, .int v, .int z] [.ref 54, .int x, .int v, .int z] := by
  intro S hR
  obtain ⟨⟨nf, np, nt, nw, o, hs, hf, hp, ht, hx⟩, hI, hE, hSh, hV⟩ := id hR
  obtain ⟨b1, b2, b3, b4, b5, c0, w2, c5, w3, c14, w5, c17, w6, c9, c10, c11, c12, r4, r0⟩ := id hs
  have w2' : (uI S 53 1 (S.1 53 1 + 1)).1 55 2 = nI nf := w2
  by_cases h : 0 ≤ x ∧ x < nI nf
  · obtain ⟨k, hk1, rfl⟩ := i_rng (by omega) h.1 h.2
    by_cases hv : 0 ≤ v ∧ v ≤ 3
    · have hk8 : k < 8 := by omega
      obtain ⟨g1, g2, _, _, g5, _⟩ := hf k hk8
      obtain ⟨kd, hkd, ekd⟩ := rlit 6 (n := 6) (by decide) (by decide) g5.1 g5.2
      have g1 : S.1 2 k = nI kd := by rw [← ekd]; exact g1
      have g2 : S.1 3 k = S.1 55 (8 + 4 * k) := g2
      have cl : mFn (d + 11) 59 [.ref 0, .int (nI k), .int v, .int z] S = _ := fX5_voice _ _ _ _ _
      rw [pC_isF _ _ c0, bI_some, if_b2, if_pos h, if_neg (Int32.not_lt.mpr hv.1), if_pos hv.2] at cl
      -- the model's start
      have ms : ∀ A : MS, Fr [42, 43, 53] S A → MVp (uI (uI A 54 20 0) 54 21 0) 0 z0T ∧ FV A (uI (uI A 54 20 0) 54 21 0) ∧ KM (uI (uI A 54 20 0) 54 21 0) kd k (S.1 3 k) := by
        intro A hA
        refine ⟨⟨?_, ?_, fun i hi => absurd hi (Nat.not_lt_zero i)⟩, ⟨(Fr.rf.put (by decide)).put (by decide), fun j h1 h2 => ?_⟩, hk8, by omega, ?_, ?_⟩
        · rw [uI_eq]
        · rw [uI_ni _ (by decide), uI_eq]; rfl
        · rw [uI_ni _ h2, uI_ni _ h1]
        · rw [uI_oth (by decide), uI_oth (by decide), hA 55 (by decide)]; exact ekd
        · rw [uI_oth (by decide), uI_oth (by decide), hA 55 (by decide)]; exact g2.symm
      have ml2 : ∀ A : MS, Fr [42, 43, 53] S A → ∀ (i : Nat) (p r : Int32) (t : TC), GoM (mFn (d + 10) i [.ref 54, .int (nI k), .int z] (uI (uI A 54 20 0) 54 21 0)) (uI (uI A 54 20 0) 54 21 0) p r t → mFn (d + 11) 160 [.ref 54, .int (nI k), .int v, .int z] A = bI (mFn (d + 10) i [.ref 54, .int (nI k), .int z] (uI (uI A 54 20 0) 54 21 0)) (fun y5 S5 => if (S5.1 54 21) = 0 then some (some (.int y5), S5) else bI (mFn (d + 10) 86 [.ref 54, .int (-1000000006)] S5) (fun y6 S6 => some (some (.int y6), S6))) → ∃ U, mFn (d + 11) 160 [.ref 54, .int (nI k), .int v, .int z] A = (if U.1 54 21 = 0 then some (some (.int r), U) else bI (mFn (d + 10) 86 [.ref 54, .int (-1000000006)] U) (fun y6 S6 => some (some (.int y6), S6))) ∧ MVp U p t ∧ FV A U := by
        intro A hA i p r t hG e
        obtain ⟨U, u1, u2, u3⟩ := hG
        rw [u1, bI_some] at e
        exact ⟨U, e, u2, (ms A hA).2.1.tr u3⟩
      have e55 : ∀ A : MS, Fr [42, 43, 53] S A → A.1 55 2 = nI nf := fun A hA => by rw [hA 55 (by decide)]; exact w2
      have p01 : ∀ a b : Int32, p3 a b = 0 ∨ p3 a b = 1 := fun a b => by
        unfold p3
        by_cases c : fSub b a = 0
        · rw [if_pos c]; exact Or.inr rfl
        · rw [if_neg c]; exact Or.inl rfl
      rcases (i03 v).mp hv with rfl | rfl | rfl | rfl
      · obtain ⟨T, a1, a2, a3⟩ := voice_C d (v := 0) z hk8 g1 (fun A hA => by
          rw [spk_in _ hA.2.2.2.1 (by omega)]
          exact C0 (d + 5) (dep := 0) hA (by omega) (show (0 : Nat) < 28 by omega) (by omega) z)
        rw [a1, bI_some] at cl
        refine voice_2 hR (by have := t0_n kd z0T; have e : z0T.1 = 0 := rfl; omega) (Or.inl rfl) a2 a3 cl (fun A hA => ml2 A hA 152 _ _ _ (M152 (d + 6) (ms A hA).2.2 (ms A hA).1 (show (0 : Nat) < 28 by omega) z) ?_)
        rw [fX6_voice, pM_isF _ _ (e55 A hA) (by omega), bI_some, if_b2, if_pos h, pM_in, bI_some, if_b2, if_pos hv, if_pos rfl]
      · obtain ⟨T, a1, a2, a3⟩ := voice_C d (v := 1) z hk8 g1 (fun A hA => by
          rw [spk_in _ hA.2.2.2.1 (by omega)]
          exact C1 (d + 2) (dep := 0) hA (by omega) (by omega) (show (0 : Nat) < 25 by omega) (by omega) z)
        rw [a1, bI_some] at cl
        refine voice_2 hR (by have := t1_n kd kd z0T; have e : z0T.1 = 0 := rfl; omega) (Or.inl rfl) a2 a3 cl (fun A hA => ml2 A hA 155 _ _ _ (M155 (d + 3) (ms A hA).2.2 (ms A hA).1 (show (0 : Nat) < 25 by omega) z) ?_)
        rw [fX6_voice, pM_isF _ _ (e55 A hA) (by omega), bI_some, if_b2, if_pos h, pM_in, bI_some, if_b2, if_pos hv, if_neg (by decide), if_pos rfl]
      · obtain ⟨T, a1, a2, a3⟩ := voice_C d (v := 2) z hk8 g1 (fun A hA => by
          rw [spk_in _ hA.2.2.2.1 (by omega)]
          exact C2 d (dep := 0) hA (by omega) (by omega) (show (0 : Nat) < 23 by omega) (by omega) z)
        rw [a1, bI_some] at cl
        refine voice_2 hR (by have := t2_n kd kd z0T; have e : z0T.1 = 0 := rfl; omega) (Or.inl rfl) a2 a3 cl (fun A hA => ml2 A hA 157 _ _ _ (M157 (d + 1) (ms A hA).2.2 (ms A hA).1 (show (0 : Nat) < 23 by omega) z) ?_)
        rw [fX6_voice, pM_isF _ _ (e55 A hA) (by omega), bI_some, if_b2, if_pos h, pM_in, bI_some, if_b2, if_pos hv, if_neg (by decide), if_neg (by decide), if_pos rfl]
      · obtain ⟨T, a1, a2, a3⟩ := voice_C d (v := 3) z hk8 g1 (fun A hA => by
          rw [spk_in _ hA.2.2.2.1 (by omega)]
          exact C3 d (dep := 0) hA (by omega) (by omega) (show (0 : Nat) < 23 by omega) (by omega) z)
        rw [a1, bI_some] at cl
        refine voice_2 hR (by have := t3_n kd kd (nI k) (S.1 3 k) z0T; have e : z0T.1 = 0 := rfl; omega) (p01 _ _) a2 a3 cl (fun A hA => ml2 A hA 159 _ _ _ (M159 (d + 2) (ms A hA).2.2 (ms A hA).1 (show (0 : Nat) < 23 by omega) z) ?_)
        rw [fX6_voice, pM_isF _ _ (e55 A hA) (by omega), bI_some, if_b2, if_pos h, pM_in, bI_some, if_b2, if_pos hv, if_neg (by decide), if_neg (by decide), if_neg (by decide)]
    · refine ⟨-1000000001, uI S 53 1 (S.1 53 1 + 1), EE 1 S, ?_, ?_, Rel_EE hR⟩
      · rw [fX5_voice, pC_isF _ _ c0, bI_some, if_b2, if_pos h]
        by_cases hl : v < 0
        · rw [if_pos hl, pC_err1, bI_some]
        · rw [if_neg hl, if_neg (fun q => hv ⟨Int32.not_lt.mp hl, q⟩), pC_err1, bI_some]
      · rw [fX6_voice, pM_isF _ _ w2' (by omega), bI_some, if_b2, if_pos h, pM_in, bI_some, if_b2, if_neg hv, pM_err1, bI_some]
        rfl
  · refine ⟨-1000000001, uI S 53 1 (S.1 53 1 + 1), EE 1 S, ?_, ?_, Rel_EE hR⟩
    · rw [fX5_voice, pC_isF _ _ c0, bI_some, if_b2, if_neg h, pC_err1, bI_some]
    · rw [fX6_voice, pM_isF _ _ w2' (by omega), bI_some, if_b2, if_neg h, pM_err1, bI_some]
      rfl
