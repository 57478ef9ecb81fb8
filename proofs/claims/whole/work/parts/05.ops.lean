/-! ===== what holds in a method's walk; the ops; each op is sound ===== -/
def aboveL : List Int32 := [0, 0, 0, 0, 1, 2, 0]
def bodiesL : List Int32 := [10, 11, 12, 13, 20, 0, 0, 21, 0, 30, 0, 0, 0, 0, 40, 0, 50, 0, 51, 0, 0, 60, 0, 0, 70, 71, 0, 0]
def strB : List (List Int32) := [[122, 104, 107], [100, 102, 104]]
/-- what never changes: ABOVE at 1000, BODIES at 1001, the two texts at 1003, 1004, their bytes at 1005, 1006 -/
def mC (A : Nat → Prop) (ad : Nat → Nat) (U : State) (H : Heap) : Prop :=
  va_Z "FountainTalk" "ABOVE" "[I" (.ref (ad 1000)) A U H ∧ va_T .int (ad 1000) 7 (fun j => .int (aboveL.getD j 0)) A U H ∧
  va_Z "FountainTalk$Speaker" "BODIES" "[I" (.ref (ad 1001)) A U H ∧ va_T .int (ad 1001) 28 (fun j => .int (bodiesL.getD j 0)) A U H ∧
  va_Z "java/lang/String" "COMPACT_STRINGS" "Z" (.int 1) A U H ∧
  vk_S 2 [3, 3] strB (fun i => ad (1003 + i)) (fun i => ad (1005 + i)) A U H ∧
  vk_R "FountainTalk" 130 "zhk" (ad 1003) U ∧ vk_R "FountainTalk" 132 "dfh" (ad 1004) U ∧
  va_Nw (.fieldLinkNest "FountainTalk$Speaker" 45 "FountainTalk" "ABOVE" "[I" "FountainTalk") U
theorem mC_call {A B : Nat → Prop} {ad : Nat → Nat} {s U : State} {H : Heap} (h : mC A ad s s.heap) (hW : s.WarmedH U.vm) (hq : ∀ a : Nat, a < s.heap.size → ¬ A a → H[a]? = s.heap[a]?) (hAB : ∀ q, q < H.size → B q → A q) : mC B ad U H := by
  have hvm := hW.alike
  have hn : ∀ q, (fun q => B q ∧ q < H.size) q → A q := fun q z => hAB q z.2 z.1
  obtain ⟨h1, h2, h3, h4, h5, h6, h7, h8, h9⟩ := h
  refine ⟨?_, ?_, ?_, ?_, ?_, ?_, h7.warm hW, h8.warm hW, h9.warmF hW⟩
  · obtain ⟨cf, kf, fi, f, a, cell, g1, g2, g3, g4, g5, g6, g7, g8⟩ := (h1.moved hvm).kept hq
    exact ⟨cf, kf, fi, f, a, cell, g1, g2, g3, g4, g5, g6, g7, fun z => g8 (hAB a (Array.getElem?_eq_some_iff.mp g5).1 z)⟩
  · obtain ⟨cell, g1, g2, g3, g4, g5, g6, g7⟩ := (h2.moved hvm).kept hq
    exact ⟨cell, g1, g2, g3, g4, g5, g6, fun z => g7 (hAB _ (Array.getElem?_eq_some_iff.mp g1).1 z)⟩
  · obtain ⟨cf, kf, fi, f, a, cell, g1, g2, g3, g4, g5, g6, g7, g8⟩ := (h3.moved hvm).kept hq
    exact ⟨cf, kf, fi, f, a, cell, g1, g2, g3, g4, g5, g6, g7, fun z => g8 (hAB a (Array.getElem?_eq_some_iff.mp g5).1 z)⟩
  · obtain ⟨cell, g1, g2, g3, g4, g5, g6, g7⟩ := (h4.moved hvm).kept hq
    exact ⟨cell, g1, g2, g3, g4, g5, g6, fun z => g7 (hAB _ (Array.getElem?_eq_some_iff.mp g1).1 z)⟩
  · obtain ⟨cf, kf, fi, f, a, cell, g1, g2, g3, g4, g5, g6, g7, g8⟩ := (h5.moved hvm).kept hq
    exact ⟨cf, kf, fi, f, a, cell, g1, g2, g3, g4, g5, g6, g7, fun z => g8 (hAB a (Array.getElem?_eq_some_iff.mp g5).1 z)⟩
  · obtain ⟨k1, k2⟩ := (h6.moved hvm).kept hq
    refine ⟨fun i hi => ?_, k2⟩
    obtain ⟨⟨c1, a1, a2, a3, a4⟩, ⟨f1, f2, f3, f4, f5, f6, f7, f8, f9, f10, f11⟩, ⟨e1, e2, e3, e4, e5, e6, e7, e8, e9, e10, e11⟩, ⟨c2, b1, b2, b3, b4, b5, b6, b7⟩⟩ := k1 i hi
    exact ⟨⟨c1, a1, a2, a3, fun z => a4 (hAB _ (Array.getElem?_eq_some_iff.mp a1).1 z)⟩, ⟨f1, f2, f3, f4, f5, f6, f7, f8, f9, f10, fun z => f11 (hAB _ (Array.getElem?_eq_some_iff.mp f8).1 z)⟩, ⟨e1, e2, e3, e4, e5, e6, e7, e8, e9, e10, fun z => e11 (hAB _ (Array.getElem?_eq_some_iff.mp e8).1 z)⟩, ⟨c2, b1, b2, b3, b4, b5, b6, fun z => b7 (hAB _ (Array.getElem?_eq_some_iff.mp b1).1 z)⟩⟩
/-- what a walk has: machine, code, words, classes, cells; d: how deep its calls may go -/
def mX (p : Program) (s : State) (m : MethodId) (args : Array Value) (meth : Method) (c : Code) (R : Room) (cc : ByteArray) (nL : Nat) (own : String) (ret : Option FieldType) (A : Nat → Prop) (D : va_G) (ca : Nat → ClassId) (ad : Nat → Nat) (nc ns d : Nat) : Prop :=
  p.tables.exec = Jvm.exec ∧ c.code = cc ∧ c.maxLocals = nL ∧ s.vm.findClass own = some m.cls ∧ (∀ w ∈ mALL, w.before args s = true) ∧ meth.locks = false ∧ meth.sig.returnType = ret ∧ va_K D vwCl (mT ca) s ∧ mD ad A ∧ (∀ q, s.heap.size ≤ q → A q) ∧ mC A ad s s.heap ∧ d + 2 ≤ R.frames ∧ 50 * (d + 2) ≤ R.locals ∧ nc ≤ R.cells ∧ ns ≤ R.slots
def mAt (p : Program) (l : Launch) (e : Env) (R : Room) (s : State) (m : MethodId) (args : Array Value) (below : List Frame) (meth : Method) (c : Code) (Q : State → Prop) (A : Nat → Prop) (D : va_G) (ca : Nat → ClassId) (ad : Nat → Nat) (nc ns nL : Nat) (pc : Nat) (lv : ML) (st : List Value) (S : MS) : Prop :=
  ∀ (H : Heap) (locs : List Loc) (ls : Array Slot), va_P D vwCl (mW ad ca S) H → va_S A s.heap H locs → lv_has ls nL (tL ad lv) → W p l e R s m args below meth c H locs nc ns Q (F0 m pc ls (tS ad st))
def mSnd (T : Nat → ML → List Value → MS → Prop) (J : Option Value → MS → Prop) (pc : Nat) (op : MOp) : Prop :=
  ∀ (k : MK) (kr : MJ) (r : MR) (lv : ML) (st : List Value) (S : MS), (∀ a b c' d', k a b c' d' = some r → T a b c' d') → (∀ v S', kr v S' = some r → J v S') → op k kr lv st S = some r → T pc lv st S
/-- an op goes on at one place, or ends -/
def mTail (op : MOp) : Prop := ∀ (k : MK) (kr : MJ) (r : MR) (lv : ML) (st : List Value) (S : MS), op k kr lv st S = some r → (∃ a b c' d', k a b c' d' = some r ∧ ∀ k' : MK, k' a b c' d' = some r → op k' kr lv st S = some r) ∨ (∀ k' : MK, op k' kr lv st S = some r)
/-- the locals that are still wanted -/
def mkeep : List Nat → ML → ML
  | [], _ => []
  | i :: ks, lv => match mget lv i with
    | some v => (i, v) :: mkeep ks lv
    | none => mkeep ks lv
def oKeep (ks : List Nat) (op : MOp) : MOp := fun k kr lv st S => op k kr (mkeep ks lv) st S
theorem mkeep_mem {lv : ML} : ∀ {ks : List Nat} {q : Nat × Value}, q ∈ mkeep ks lv → q ∈ lv := by
  intro ks
  induction ks with
  | nil => intro q h; cases h
  | cons i ks ih =>
    intro q h
    unfold mkeep at h
    split at h
    · rename_i v hv
      rcases List.mem_cons.mp h with h | h
      · rw [h]; exact mget_mem hv
      · exact ih h
    · exact ih h
theorem ta_oKeep {ks : List Nat} {op : MOp} (h : mTail op) : mTail (oKeep ks op) := fun k kr r lv st S z => h k kr r (mkeep ks lv) st S z

section
variable {p : Program} {l : Launch} {e : Env} {R : Room} {s : State} {m : MethodId} {args : Array Value} {below : List Frame} {meth : Method} {c : Code} {Q : State → Prop} {A : Nat → Prop} {D : va_G} {ca : Nat → ClassId} {ad : Nat → Nat} {nL d pc nc ns : Nat} {cc : ByteArray} {own : String} {ret : Option FieldType} {J : Option Value → MS → Prop}
def oIload (i n : Nat) : MOp := fun k kr lv st S => match mget lv i with
  | some (.int x) => k n lv (.int x :: st) S
  | _ => none
def oAload (i n : Nat) : MOp := fun k kr lv st S => match mget lv i with
  | some (.ref x) => k n lv (.ref x :: st) S
  | _ => none
def oLload (i n : Nat) : MOp := fun k kr lv st S => match mget lv i with
  | some (.long x) => k n lv (.long x :: st) S
  | _ => none
theorem ta_oIload (i n : Nat) : mTail (oIload i n) := by
  intro k kr r lv st S h
  unfold oIload at h ⊢
  split at h
  · exact Or.inl ⟨_, _, _, _, h, fun k' z => z⟩
  · cases h
theorem ta_oAload (i n : Nat) : mTail (oAload i n) := by
  intro k kr r lv st S h
  unfold oAload at h ⊢
  split at h
  · exact Or.inl ⟨_, _, _, _, h, fun k' z => z⟩
  · cases h
theorem ta_oLload (i n : Nat) : mTail (oLload i n) := by
  intro k kr r lv st S h
  unfold oLload at h ⊢
  split at h
  · exact Or.inl ⟨_, _, _, _, h, fun k' z => z⟩
  · cases h
theorem s_iload (X : mX p s m args meth c R cc nL own ret A D ca ad nc ns d) {i : Nat} (hdg : decode cc pc = .ok (.iload i, 2)) : mSnd (mAt p l e R s m args below meth c Q A D ca ad nc ns nL) J pc (oIload i (pc + 2)) := by
  intro k kr r lv st S hk hr h H locs ls hP hS hl
  unfold oIload at h
  split at h
  · rename_i x hx
    exact lv_iload X.1 X.2.1 hdg (ml_at hl hx) (hk _ _ _ _ h H locs ls hP hS hl)
  · cases h
theorem s_iload_n (X : mX p s m args meth c R cc nL own ret A D ca ad nc ns d) {k : Fin 4} {i : Nat} (hdg : decode cc pc = .ok (.iload_n k, 1)) (hi : (k : Nat) = i) : mSnd (mAt p l e R s m args below meth c Q A D ca ad nc ns nL) J pc (oIload i (pc + 1)) := by
  intro k kr r lv st S hk hr h H locs ls hP hS hl
  unfold oIload at h
  split at h
  · rename_i x hx
    exact lv_iload_n X.1 X.2.1 hdg hi (ml_at hl hx) (hk _ _ _ _ h H locs ls hP hS hl)
  · cases h
theorem s_aload (X : mX p s m args meth c R cc nL own ret A D ca ad nc ns d) {i : Nat} (hdg : decode cc pc = .ok (.aload i, 2)) : mSnd (mAt p l e R s m args below meth c Q A D ca ad nc ns nL) J pc (oAload i (pc + 2)) := by
  intro k kr r lv st S hk hr h H locs ls hP hS hl
  unfold oAload at h
  split at h
  · rename_i x hx
    exact lv_aload X.1 X.2.1 hdg (ml_at hl hx) (hk _ _ _ _ h H locs ls hP hS hl)
  · cases h
theorem s_aload_n (X : mX p s m args meth c R cc nL own ret A D ca ad nc ns d) {k : Fin 4} {i : Nat} (hdg : decode cc pc = .ok (.aload_n k, 1)) (hi : (k : Nat) = i) : mSnd (mAt p l e R s m args below meth c Q A D ca ad nc ns nL) J pc (oAload i (pc + 1)) := by
  intro k kr r lv st S hk hr h H locs ls hP hS hl
  unfold oAload at h
  split at h
  · rename_i x hx
    exact lv_aload_n X.1 X.2.1 hdg hi (ml_at hl hx) (hk _ _ _ _ h H locs ls hP hS hl)
  · cases h
theorem s_lload_n (X : mX p s m args meth c R cc nL own ret A D ca ad nc ns d) {k : Fin 4} {i : Nat} (hdg : decode cc pc = .ok (.lload_n k, 1)) (hi : (k : Nat) = i) : mSnd (mAt p l e R s m args below meth c Q A D ca ad nc ns nL) J pc (oLload i (pc + 1)) := by
  intro k kr r lv st S hk hr h H locs ls hP hS hl
  unfold oLload at h
  split at h
  · rename_i x hx
    exact lv_lload_n X.1 X.2.1 hdg hi (ml_at hl hx) (hk _ _ _ _ h H locs ls hP hS hl)
  · cases h
def oIstore (i n : Nat) : MOp := fun k kr lv st S => match st with
  | .int x :: t => bif mwide lv i then none else k n (mset lv i (.int x)) t S
  | _ => none
theorem ta_oIstore (i n : Nat) : mTail (oIstore i n) := by
  intro k kr r lv st S h
  unfold oIstore at h ⊢
  split at h
  · cases hw : mwide lv i with
    | true => rw [hw] at h; cases h
    | false => rw [hw] at h; exact Or.inl ⟨_, _, _, _, h, fun k' z => z⟩
  · cases h
def oAstore (i n : Nat) : MOp := fun k kr lv st S => match st with
  | .ref x :: t => bif mwide lv i then none else k n (mset lv i (.ref x)) t S
  | _ => none
theorem ta_oAstore (i n : Nat) : mTail (oAstore i n) := by
  intro k kr r lv st S h
  unfold oAstore at h ⊢
  split at h
  · cases hw : mwide lv i with
    | true => rw [hw] at h; cases h
    | false => rw [hw] at h; exact Or.inl ⟨_, _, _, _, h, fun k' z => z⟩
  · cases h
theorem s_istore (X : mX p s m args meth c R cc nL own ret A D ca ad nc ns d) {i : Nat} (hdg : decode cc pc = .ok (.istore i, 2)) (hn : i < nL) : mSnd (mAt p l e R s m args below meth c Q A D ca ad nc ns nL) J pc (oIstore i (pc + 2)) := by
  intro k kr r lv st S hk hr h H locs ls hP hS hl
  unfold oIstore at h
  split at h
  · cases hw : mwide lv i with
    | true => rw [hw] at h; cases h
    | false =>
      rw [hw] at h
      exact lv_istore X.1 X.2.1 hdg hl hn rfl (fun ls' hl' => hk _ _ _ _ h H locs ls' hP hS (ml_set hw hl'))
  · cases h
theorem s_istore_n (X : mX p s m args meth c R cc nL own ret A D ca ad nc ns d) {k : Fin 4} {i : Nat} (hdg : decode cc pc = .ok (.istore_n k, 1)) (hi : (k : Nat) = i) (hn : i < nL) : mSnd (mAt p l e R s m args below meth c Q A D ca ad nc ns nL) J pc (oIstore i (pc + 1)) := by
  intro k kr r lv st S hk hr h H locs ls hP hS hl
  unfold oIstore at h
  split at h
  · cases hw : mwide lv i with
    | true => rw [hw] at h; cases h
    | false =>
      rw [hw] at h
      exact lv_istore_n X.1 X.2.1 hdg hi hl hn rfl (fun ls' hl' => hk _ _ _ _ h H locs ls' hP hS (ml_set hw hl'))
  · cases h
theorem s_astore (X : mX p s m args meth c R cc nL own ret A D ca ad nc ns d) {i : Nat} (hdg : decode cc pc = .ok (.astore i, 2)) (hn : i < nL) : mSnd (mAt p l e R s m args below meth c Q A D ca ad nc ns nL) J pc (oAstore i (pc + 2)) := by
  intro k kr r lv st S hk hr h H locs ls hP hS hl
  unfold oAstore at h
  split at h
  · cases hw : mwide lv i with
    | true => rw [hw] at h; cases h
    | false =>
      rw [hw] at h
      exact lv_astore X.1 X.2.1 hdg hl hn rfl (fun ls' hl' => hk _ _ _ _ h H locs ls' hP hS (ml_set hw hl'))
  · cases h
theorem s_astore_n (X : mX p s m args meth c R cc nL own ret A D ca ad nc ns d) {k : Fin 4} {i : Nat} (hdg : decode cc pc = .ok (.astore_n k, 1)) (hi : (k : Nat) = i) (hn : i < nL) : mSnd (mAt p l e R s m args below meth c Q A D ca ad nc ns nL) J pc (oAstore i (pc + 1)) := by
  intro k kr r lv st S hk hr h H locs ls hP hS hl
  unfold oAstore at h
  split at h
  · cases hw : mwide lv i with
    | true => rw [hw] at h; cases h
    | false =>
      rw [hw] at h
      exact lv_astore_n X.1 X.2.1 hdg hi hl hn rfl (fun ls' hl' => hk _ _ _ _ h H locs ls' hP hS (ml_set hw hl'))
  · cases h
def oIinc (i : Nat) (z : Int32) (n : Nat) : MOp := fun k kr lv st S => match mget lv i with
  | some (.int x) => bif mwide lv i then none else k n (mset lv i (.int (x + z))) st S
  | _ => none
theorem ta_oIinc (i : Nat) (z : Int32) (n : Nat) : mTail (oIinc i z n) := by
  intro k kr r lv st S h
  unfold oIinc at h ⊢
  split at h
  · cases hw : mwide lv i with
    | true => rw [hw] at h; cases h
    | false => rw [hw] at h; exact Or.inl ⟨_, _, _, _, h, fun k' z => z⟩
  · cases h
theorem s_iinc (X : mX p s m args meth c R cc nL own ret A D ca ad nc ns d) {i : Nat} {z : Int} {x0 : Int32} (hdg : decode cc pc = .ok (.iinc i z, 3)) (hz : Int32.ofInt z = x0) (hn : i < nL) : mSnd (mAt p l e R s m args below meth c Q A D ca ad nc ns nL) J pc (oIinc i x0 (pc + 3)) := by
  intro k kr r lv st S hk hr h H locs ls hP hS hl
  unfold oIinc at h
  split at h
  · rename_i x hx
    cases hw : mwide lv i with
    | true => rw [hw] at h; cases h
    | false =>
      rw [hw] at h
      subst hz
      have hm : (i, Value.int x) ∈ tL ad lv := List.mem_map.mpr ⟨(i, .int x), mget_mem hx, rfl⟩
      obtain ⟨j, hj⟩ := List.mem_iff_getElem?.mp hm
      exact lv_iinc X.1 X.2.1 hdg hl hj rfl hn rfl (fun ls' hl' => hk _ _ _ _ h H locs ls' hP hS (ml_set (v := .int (x + Int32.ofInt z)) hw hl'))
  · cases h
def oPush (v : Int32) (n : Nat) : MOp := fun k kr lv st S => k n lv (.int v :: st) S
def oLpush (v : Int64) (n : Nat) : MOp := fun k kr lv st S => k n lv (.long v :: st) S
def oRef (v : Nat) (n : Nat) : MOp := fun k kr lv st S => k n lv (.ref v :: st) S
theorem ta_oPush (v : Int32) (n : Nat) : mTail (oPush v n) := by
  intro k kr r lv st S h
  exact Or.inl ⟨_, _, _, _, h, fun k' z => z⟩
theorem ta_oLpush (v : Int64) (n : Nat) : mTail (oLpush v n) := by
  intro k kr r lv st S h
  exact Or.inl ⟨_, _, _, _, h, fun k' z => z⟩
theorem ta_oRef (v : Nat) (n : Nat) : mTail (oRef v n) := by
  intro k kr r lv st S h
  exact Or.inl ⟨_, _, _, _, h, fun k' z => z⟩
theorem s_iconst (X : mX p s m args meth c R cc nL own ret A D ca ad nc ns d) {z : Int} {v : Int32} (hdg : decode cc pc = .ok (.iconst z, 1)) (hv : Int32.ofInt z = v) : mSnd (mAt p l e R s m args below meth c Q A D ca ad nc ns nL) J pc (oPush v (pc + 1)) := by
  intro k kr r lv st S hk hr h H locs ls hP hS hl
  exact lv_iconst X.1 X.2.1 hdg hv (hk _ _ _ _ h H locs ls hP hS hl)
theorem s_bipush (X : mX p s m args meth c R cc nL own ret A D ca ad nc ns d) {z : Int} {v : Int32} (hdg : decode cc pc = .ok (.bipush z, 2)) (hv : (Int8.ofInt z).toInt32 = v) : mSnd (mAt p l e R s m args below meth c Q A D ca ad nc ns nL) J pc (oPush v (pc + 2)) := by
  intro k kr r lv st S hk hr h H locs ls hP hS hl
  exact lv_bipush X.1 X.2.1 hdg hv (hk _ _ _ _ h H locs ls hP hS hl)
theorem s_sipush (X : mX p s m args meth c R cc nL own ret A D ca ad nc ns d) {z : Int} {v : Int32} (hdg : decode cc pc = .ok (.sipush z, 3)) (hv : (Int16.ofInt z).toInt32 = v) : mSnd (mAt p l e R s m args below meth c Q A D ca ad nc ns nL) J pc (oPush v (pc + 3)) := by
  intro k kr r lv st S hk hr h H locs ls hP hS hl
  exact lv_sipush X.1 X.2.1 hdg hv (hk _ _ _ _ h H locs ls hP hS hl)
theorem s_ldc (X : mX p s m args meth c R cc nL own ret A D ca ad nc ns d) {idx : Nat} {v : Int32} (hw : Cond.constant own idx v ∈ mALL) (hdg : decode cc pc = .ok (.ldc idx, 2)) : mSnd (mAt p l e R s m args below meth c Q A D ca ad nc ns nL) J pc (oPush v (pc + 2)) := by
  intro k kr r lv st S hk hr h H locs ls hP hS hl
  exact lv_ldc X.1 X.2.1 X.2.2.2.1 (X.2.2.2.2.1 _ hw) hdg (hk _ _ _ _ h H locs ls hP hS hl)
theorem s_ldc_w (X : mX p s m args meth c R cc nL own ret A D ca ad nc ns d) {idx : Nat} {v : Int32} (hw : Cond.constant own idx v ∈ mALL) (hdg : decode cc pc = .ok (.ldc_w idx, 3)) : mSnd (mAt p l e R s m args below meth c Q A D ca ad nc ns nL) J pc (oPush v (pc + 3)) := by
  intro k kr r lv st S hk hr h H locs ls hP hS hl
  exact lv_ldcw X.1 X.2.1 X.2.2.2.1 (X.2.2.2.2.1 _ hw) hdg (hk _ _ _ _ h H locs ls hP hS hl)
theorem s_ldc2_w (X : mX p s m args meth c R cc nL own ret A D ca ad nc ns d) {idx : Nat} {v : Int64} (hw : Cond.constantLong own idx v ∈ mALL) (hdg : decode cc pc = .ok (.ldc2_w idx, 3)) : mSnd (mAt p l e R s m args below meth c Q A D ca ad nc ns nL) J pc (oLpush v (pc + 3)) := by
  intro k kr r lv st S hk hr h H locs ls hP hS hl
  exact lv_ldc2 X.1 X.2.1 X.2.2.2.1 (X.2.2.2.2.1 _ hw) hdg (hk _ _ _ _ h H locs ls hP hS hl)
theorem s_ldcZ (X : mX p s m args meth c R cc nL own ret A D ca ad nc ns d) (hown : own = "FountainTalk") (hdg : decode cc pc = .ok (.ldc 130, 2)) : mSnd (mAt p l e R s m args below meth c Q A D ca ad nc ns nL) J pc (oRef 1003 (pc + 2)) := by
  intro k kr r lv st S hk hr h H locs ls hP hS hl
  exact va_ldcS X.1 X.2.1 (hown ▸ X.2.2.2.1) X.2.2.2.2.2.2.2.2.2.2.1.2.2.2.2.2.2.1 hdg (hk _ _ _ _ h H locs ls hP hS hl)
theorem s_ldcD (X : mX p s m args meth c R cc nL own ret A D ca ad nc ns d) (hown : own = "FountainTalk") (hdg : decode cc pc = .ok (.ldc 132, 2)) : mSnd (mAt p l e R s m args below meth c Q A D ca ad nc ns nL) J pc (oRef 1004 (pc + 2)) := by
  intro k kr r lv st S hk hr h H locs ls hP hS hl
  exact va_ldcS X.1 X.2.1 (hown ▸ X.2.2.2.1) X.2.2.2.2.2.2.2.2.2.2.1.2.2.2.2.2.2.2.1 hdg (hk _ _ _ _ h H locs ls hP hS hl)
def oBin (f : Int32 → Int32 → Int32) (n : Nat) : MOp := fun k kr lv st S => match st with
  | .int y :: .int x :: t => k n lv (.int (f x y) :: t) S
  | _ => none
theorem ta_oBin (f : Int32 → Int32 → Int32) (n : Nat) : mTail (oBin f n) := by
  intro k kr r lv st S h
  unfold oBin at h ⊢
  split at h
  · exact Or.inl ⟨_, _, _, _, h, fun k' z => z⟩
  · cases h
def fAdd (x y : Int32) : Int32 := x + y
def fSub (x y : Int32) : Int32 := x - y
def fMul (x y : Int32) : Int32 := x * y
def fAnd (x y : Int32) : Int32 := x &&& y
def fOr (x y : Int32) : Int32 := x ||| y
def fXor (x y : Int32) : Int32 := x ^^^ y
def fShl (x y : Int32) : Int32 := x <<< (y &&& 31)
def fShr (x y : Int32) : Int32 := x >>> (y &&& 31)
def fUshr (x y : Int32) : Int32 := (x.toUInt32 >>> (y.toUInt32 &&& Int32.toUInt32 31)).toInt32
theorem s_iadd (X : mX p s m args meth c R cc nL own ret A D ca ad nc ns d) (hdg : decode cc pc = .ok (.iadd, 1)) : mSnd (mAt p l e R s m args below meth c Q A D ca ad nc ns nL) J pc (oBin fAdd (pc + 1)) := by
  intro k kr r lv st S hk hr h H locs ls hP hS hl
  unfold oBin at h
  split at h
  · exact lv_iadd X.1 X.2.1 hdg (hk _ _ _ _ h H locs ls hP hS hl)
  · cases h
theorem s_isub (X : mX p s m args meth c R cc nL own ret A D ca ad nc ns d) (hdg : decode cc pc = .ok (.isub, 1)) : mSnd (mAt p l e R s m args below meth c Q A D ca ad nc ns nL) J pc (oBin fSub (pc + 1)) := by
  intro k kr r lv st S hk hr h H locs ls hP hS hl
  unfold oBin at h
  split at h
  · exact lv_isub X.1 X.2.1 hdg (hk _ _ _ _ h H locs ls hP hS hl)
  · cases h
theorem s_imul (X : mX p s m args meth c R cc nL own ret A D ca ad nc ns d) (hdg : decode cc pc = .ok (.imul, 1)) : mSnd (mAt p l e R s m args below meth c Q A D ca ad nc ns nL) J pc (oBin fMul (pc + 1)) := by
  intro k kr r lv st S hk hr h H locs ls hP hS hl
  unfold oBin at h
  split at h
  · exact lv_imul X.1 X.2.1 hdg (hk _ _ _ _ h H locs ls hP hS hl)
  · cases h
theorem s_iand (X : mX p s m args meth c R cc nL own ret A D ca ad nc ns d) (hdg : decode cc pc = .ok (.iand, 1)) : mSnd (mAt p l e R s m args below meth c Q A D ca ad nc ns nL) J pc (oBin fAnd (pc + 1)) := by
  intro k kr r lv st S hk hr h H locs ls hP hS hl
  unfold oBin at h
  split at h
  · exact lv_iand X.1 X.2.1 hdg (hk _ _ _ _ h H locs ls hP hS hl)
  · cases h
theorem s_ior (X : mX p s m args meth c R cc nL own ret A D ca ad nc ns d) (hdg : decode cc pc = .ok (.ior, 1)) : mSnd (mAt p l e R s m args below meth c Q A D ca ad nc ns nL) J pc (oBin fOr (pc + 1)) := by
  intro k kr r lv st S hk hr h H locs ls hP hS hl
  unfold oBin at h
  split at h
  · exact lv_ior X.1 X.2.1 hdg (hk _ _ _ _ h H locs ls hP hS hl)
  · cases h
theorem s_ixor (X : mX p s m args meth c R cc nL own ret A D ca ad nc ns d) (hdg : decode cc pc = .ok (.ixor, 1)) : mSnd (mAt p l e R s m args below meth c Q A D ca ad nc ns nL) J pc (oBin fXor (pc + 1)) := by
  intro k kr r lv st S hk hr h H locs ls hP hS hl
  unfold oBin at h
  split at h
  · exact lv_ixor X.1 X.2.1 hdg (hk _ _ _ _ h H locs ls hP hS hl)
  · cases h
theorem s_ishl (X : mX p s m args meth c R cc nL own ret A D ca ad nc ns d) (hdg : decode cc pc = .ok (.ishl, 1)) : mSnd (mAt p l e R s m args below meth c Q A D ca ad nc ns nL) J pc (oBin fShl (pc + 1)) := by
  intro k kr r lv st S hk hr h H locs ls hP hS hl
  unfold oBin at h
  split at h
  · exact lv_ishl X.1 X.2.1 hdg (hk _ _ _ _ h H locs ls hP hS hl)
  · cases h
theorem s_ishr (X : mX p s m args meth c R cc nL own ret A D ca ad nc ns d) (hdg : decode cc pc = .ok (.ishr, 1)) : mSnd (mAt p l e R s m args below meth c Q A D ca ad nc ns nL) J pc (oBin fShr (pc + 1)) := by
  intro k kr r lv st S hk hr h H locs ls hP hS hl
  unfold oBin at h
  split at h
  · exact lv_ishr X.1 X.2.1 hdg (hk _ _ _ _ h H locs ls hP hS hl)
  · cases h
theorem s_iushr (X : mX p s m args meth c R cc nL own ret A D ca ad nc ns d) (hdg : decode cc pc = .ok (.iushr, 1)) : mSnd (mAt p l e R s m args below meth c Q A D ca ad nc ns nL) J pc (oBin fUshr (pc + 1)) := by
  intro k kr r lv st S hk hr h H locs ls hP hS hl
  unfold oBin at h
  split at h
  · exact lv_iushr X.1 X.2.1 hdg rfl (hk _ _ _ _ h H locs ls hP hS hl)
  · cases h
def oDiv (n : Nat) : MOp := fun k kr lv st S => match st with
  | .int y :: .int x :: t => if y = 0 then none else k n lv (.int (x / y) :: t) S
  | _ => none
def oRem (n : Nat) : MOp := fun k kr lv st S => match st with
  | .int y :: .int x :: t => if y = 0 then none else k n lv (.int (x - x / y * y) :: t) S
  | _ => none
theorem ta_oDiv (n : Nat) : mTail (oDiv n) := by
  intro k kr r lv st S h
  unfold oDiv at h ⊢
  split at h
  · split at h
    · cases h
    · rename_i hy
      simp only [if_neg hy]
      exact Or.inl ⟨_, _, _, _, h, fun k' z => z⟩
  · cases h
theorem s_idiv (X : mX p s m args meth c R cc nL own ret A D ca ad nc ns d) (hdg : decode cc pc = .ok (.idiv, 1)) : mSnd (mAt p l e R s m args below meth c Q A D ca ad nc ns nL) J pc (oDiv (pc + 1)) := by
  intro k kr r lv st S hk hr h H locs ls hP hS hl
  unfold oDiv at h
  split at h
  · split at h
    · cases h
    · rename_i hy
      exact lv_idiv X.1 X.2.1 hdg hy (hk _ _ _ _ h H locs ls hP hS hl)
  · cases h
theorem ta_oRem (n : Nat) : mTail (oRem n) := by
  intro k kr r lv st S h
  unfold oRem at h ⊢
  split at h
  · split at h
    · cases h
    · rename_i hy
      simp only [if_neg hy]
      exact Or.inl ⟨_, _, _, _, h, fun k' z => z⟩
  · cases h
theorem s_irem (X : mX p s m args meth c R cc nL own ret A D ca ad nc ns d) (hdg : decode cc pc = .ok (.irem, 1)) : mSnd (mAt p l e R s m args below meth c Q A D ca ad nc ns nL) J pc (oRem (pc + 1)) := by
  intro k kr r lv st S hk hr h H locs ls hP hS hl
  unfold oRem at h
  split at h
  · split at h
    · cases h
    · rename_i hy
      exact lv_irem X.1 X.2.1 hdg hy (hk _ _ _ _ h H locs ls hP hS hl)
  · cases h
def oIneg (n : Nat) : MOp := fun k kr lv st S => match st with
  | .int x :: t => k n lv (.int (-x) :: t) S
  | _ => none
theorem ta_oIneg (n : Nat) : mTail (oIneg n) := by
  intro k kr r lv st S h
  unfold oIneg at h ⊢
  split at h
  · exact Or.inl ⟨_, _, _, _, h, fun k' z => z⟩
  · cases h
theorem s_ineg (X : mX p s m args meth c R cc nL own ret A D ca ad nc ns d) (hdg : decode cc pc = .ok (.ineg, 1)) : mSnd (mAt p l e R s m args below meth c Q A D ca ad nc ns nL) J pc (oIneg (pc + 1)) := by
  intro k kr r lv st S hk hr h H locs ls hP hS hl
  unfold oIneg at h
  split at h
  · exact lv_ineg X.1 X.2.1 hdg (hk _ _ _ _ h H locs ls hP hS hl)
  · cases h
def oI2b (n : Nat) : MOp := fun k kr lv st S => match st with
  | .int x :: t => k n lv (.int (x.toInt8.toInt32) :: t) S
  | _ => none
theorem ta_oI2b (n : Nat) : mTail (oI2b n) := by
  intro k kr r lv st S h
  unfold oI2b at h ⊢
  split at h
  · exact Or.inl ⟨_, _, _, _, h, fun k' z => z⟩
  · cases h
theorem s_i2b (X : mX p s m args meth c R cc nL own ret A D ca ad nc ns d) (hdg : decode cc pc = .ok (.i2b, 1)) : mSnd (mAt p l e R s m args below meth c Q A D ca ad nc ns nL) J pc (oI2b (pc + 1)) := by
  intro k kr r lv st S hk hr h H locs ls hP hS hl
  unfold oI2b at h
  split at h
  · exact lv_i2b X.1 X.2.1 hdg rfl (hk _ _ _ _ h H locs ls hP hS hl)
  · cases h
def oI2s (n : Nat) : MOp := fun k kr lv st S => match st with
  | .int x :: t => k n lv (.int (x.toInt16.toInt32) :: t) S
  | _ => none
theorem ta_oI2s (n : Nat) : mTail (oI2s n) := by
  intro k kr r lv st S h
  unfold oI2s at h ⊢
  split at h
  · exact Or.inl ⟨_, _, _, _, h, fun k' z => z⟩
  · cases h
theorem s_i2s (X : mX p s m args meth c R cc nL own ret A D ca ad nc ns d) (hdg : decode cc pc = .ok (.i2s, 1)) : mSnd (mAt p l e R s m args below meth c Q A D ca ad nc ns nL) J pc (oI2s (pc + 1)) := by
  intro k kr r lv st S hk hr h H locs ls hP hS hl
  unfold oI2s at h
  split at h
  · exact lv_i2s X.1 X.2.1 hdg rfl (hk _ _ _ _ h H locs ls hP hS hl)
  · cases h
def oI2c (n : Nat) : MOp := fun k kr lv st S => match st with
  | .int x :: t => k n lv (.int ((x.toUInt32 % 65536).toInt32) :: t) S
  | _ => none
theorem ta_oI2c (n : Nat) : mTail (oI2c n) := by
  intro k kr r lv st S h
  unfold oI2c at h ⊢
  split at h
  · exact Or.inl ⟨_, _, _, _, h, fun k' z => z⟩
  · cases h
theorem s_i2c (X : mX p s m args meth c R cc nL own ret A D ca ad nc ns d) (hdg : decode cc pc = .ok (.i2c, 1)) : mSnd (mAt p l e R s m args below meth c Q A D ca ad nc ns nL) J pc (oI2c (pc + 1)) := by
  intro k kr r lv st S hk hr h H locs ls hP hS hl
  unfold oI2c at h
  split at h
  · exact lv_i2c X.1 X.2.1 hdg rfl (hk _ _ _ _ h H locs ls hP hS hl)
  · cases h
def oI2l (n : Nat) : MOp := fun k kr lv st S => match st with
  | .int x :: t => k n lv (.long (x.toInt64) :: t) S
  | _ => none
theorem ta_oI2l (n : Nat) : mTail (oI2l n) := by
  intro k kr r lv st S h
  unfold oI2l at h ⊢
  split at h
  · exact Or.inl ⟨_, _, _, _, h, fun k' z => z⟩
  · cases h
theorem s_i2l (X : mX p s m args meth c R cc nL own ret A D ca ad nc ns d) (hdg : decode cc pc = .ok (.i2l, 1)) : mSnd (mAt p l e R s m args below meth c Q A D ca ad nc ns nL) J pc (oI2l (pc + 1)) := by
  intro k kr r lv st S hk hr h H locs ls hP hS hl
  unfold oI2l at h
  split at h
  · exact lv_i2l X.1 X.2.1 hdg rfl (hk _ _ _ _ h H locs ls hP hS hl)
  · cases h
def oL2i (n : Nat) : MOp := fun k kr lv st S => match st with
  | .long x :: t => k n lv (.int (x.toInt32) :: t) S
  | _ => none
theorem ta_oL2i (n : Nat) : mTail (oL2i n) := by
  intro k kr r lv st S h
  unfold oL2i at h ⊢
  split at h
  · exact Or.inl ⟨_, _, _, _, h, fun k' z => z⟩
  · cases h
theorem s_l2i (X : mX p s m args meth c R cc nL own ret A D ca ad nc ns d) (hdg : decode cc pc = .ok (.l2i, 1)) : mSnd (mAt p l e R s m args below meth c Q A D ca ad nc ns nL) J pc (oL2i (pc + 1)) := by
  intro k kr r lv st S hk hr h H locs ls hP hS hl
  unfold oL2i at h
  split at h
  · exact lv_l2i X.1 X.2.1 hdg rfl (hk _ _ _ _ h H locs ls hP hS hl)
  · cases h
def oLbin (f : Int64 → Int64 → Int64) (n : Nat) : MOp := fun k kr lv st S => match st with
  | .long y :: .long x :: t => k n lv (.long (f x y) :: t) S
  | _ => none
theorem ta_oLbin (f : Int64 → Int64 → Int64) (n : Nat) : mTail (oLbin f n) := by
  intro k kr r lv st S h
  unfold oLbin at h ⊢
  split at h
  · exact Or.inl ⟨_, _, _, _, h, fun k' z => z⟩
  · cases h
def oLsh (f : Int64 → Int32 → Int64) (n : Nat) : MOp := fun k kr lv st S => match st with
  | .int y :: .long x :: t => k n lv (.long (f x y) :: t) S
  | _ => none
theorem ta_oLsh (f : Int64 → Int32 → Int64) (n : Nat) : mTail (oLsh f n) := by
  intro k kr r lv st S h
  unfold oLsh at h ⊢
  split at h
  · exact Or.inl ⟨_, _, _, _, h, fun k' z => z⟩
  · cases h
def lAnd (x y : Int64) : Int64 := x &&& y
def lOr (x y : Int64) : Int64 := x ||| y
def lShl (x : Int64) (y : Int32) : Int64 := x <<< (y.toInt64 &&& 63)
def lShr (x : Int64) (y : Int32) : Int64 := x >>> (y.toInt64 &&& 63)
def lUshr (x : Int64) (y : Int32) : Int64 := (x.toUInt64 >>> (y.toInt64.toUInt64 &&& Int64.toUInt64 63)).toInt64
theorem s_land (X : mX p s m args meth c R cc nL own ret A D ca ad nc ns d) (hdg : decode cc pc = .ok (.land, 1)) : mSnd (mAt p l e R s m args below meth c Q A D ca ad nc ns nL) J pc (oLbin lAnd (pc + 1)) := by
  intro k kr r lv st S hk hr h H locs ls hP hS hl
  unfold oLbin at h
  split at h
  · exact lv_land X.1 X.2.1 hdg (hk _ _ _ _ h H locs ls hP hS hl)
  · cases h
theorem s_lor (X : mX p s m args meth c R cc nL own ret A D ca ad nc ns d) (hdg : decode cc pc = .ok (.lor, 1)) : mSnd (mAt p l e R s m args below meth c Q A D ca ad nc ns nL) J pc (oLbin lOr (pc + 1)) := by
  intro k kr r lv st S hk hr h H locs ls hP hS hl
  unfold oLbin at h
  split at h
  · exact lv_lor X.1 X.2.1 hdg (hk _ _ _ _ h H locs ls hP hS hl)
  · cases h
theorem s_lshl (X : mX p s m args meth c R cc nL own ret A D ca ad nc ns d) (hdg : decode cc pc = .ok (.lshl, 1)) : mSnd (mAt p l e R s m args below meth c Q A D ca ad nc ns nL) J pc (oLsh lShl (pc + 1)) := by
  intro k kr r lv st S hk hr h H locs ls hP hS hl
  unfold oLsh at h
  split at h
  · exact lv_lshl X.1 X.2.1 hdg rfl (hk _ _ _ _ h H locs ls hP hS hl)
  · cases h
theorem s_lshr (X : mX p s m args meth c R cc nL own ret A D ca ad nc ns d) (hdg : decode cc pc = .ok (.lshr, 1)) : mSnd (mAt p l e R s m args below meth c Q A D ca ad nc ns nL) J pc (oLsh lShr (pc + 1)) := by
  intro k kr r lv st S hk hr h H locs ls hP hS hl
  unfold oLsh at h
  split at h
  · exact lv_lshr X.1 X.2.1 hdg rfl (hk _ _ _ _ h H locs ls hP hS hl)
  · cases h
theorem s_lushr (X : mX p s m args meth c R cc nL own ret A D ca ad nc ns d) (hdg : decode cc pc = .ok (.lushr, 1)) : mSnd (mAt p l e R s m args below meth c Q A D ca ad nc ns nL) J pc (oLsh lUshr (pc + 1)) := by
  intro k kr r lv st S hk hr h H locs ls hP hS hl
  unfold oLsh at h
  split at h
  · exact lv_lushr X.1 X.2.1 hdg rfl (hk _ _ _ _ h H locs ls hP hS hl)
  · cases h
def oDup (n : Nat) : MOp := fun k kr lv st S => match st with
  | .int x :: t => k n lv (.int x :: .int x :: t) S
  | .ref x :: t => k n lv (.ref x :: .ref x :: t) S
  | _ => none
theorem ta_oDup (n : Nat) : mTail (oDup n) := by
  intro k kr r lv st S h
  unfold oDup at h ⊢
  split at h
  · exact Or.inl ⟨_, _, _, _, h, fun k' z => z⟩
  · exact Or.inl ⟨_, _, _, _, h, fun k' z => z⟩
  · cases h
theorem s_dup (X : mX p s m args meth c R cc nL own ret A D ca ad nc ns d) (hdg : decode cc pc = .ok (.dup, 1)) : mSnd (mAt p l e R s m args below meth c Q A D ca ad nc ns nL) J pc (oDup (pc + 1)) := by
  intro k kr r lv st S hk hr h H locs ls hP hS hl
  unfold oDup at h
  split at h
  · exact lv_dup X.1 X.2.1 hdg rfl (hk _ _ _ _ h H locs ls hP hS hl)
  · exact lv_dup X.1 X.2.1 hdg rfl (hk _ _ _ _ h H locs ls hP hS hl)
  · cases h
def oDup2 (n : Nat) : MOp := fun k kr lv st S => match st with
  | .int y :: .ref x :: t => k n lv (.int y :: .ref x :: .int y :: .ref x :: t) S
  | _ => none
theorem ta_oDup2 (n : Nat) : mTail (oDup2 n) := by
  intro k kr r lv st S h
  unfold oDup2 at h ⊢
  split at h
  · exact Or.inl ⟨_, _, _, _, h, fun k' z => z⟩
  · cases h
theorem s_dup2 (X : mX p s m args meth c R cc nL own ret A D ca ad nc ns d) (hdg : decode cc pc = .ok (.dup2, 1)) : mSnd (mAt p l e R s m args below meth c Q A D ca ad nc ns nL) J pc (oDup2 (pc + 1)) := by
  intro k kr r lv st S hk hr h H locs ls hP hS hl
  unfold oDup2 at h
  split at h
  · exact lv_dup2_11 X.1 X.2.1 hdg rfl rfl (hk _ _ _ _ h H locs ls hP hS hl)
  · cases h
def oPop (n : Nat) : MOp := fun k kr lv st S => match st with
  | .int _ :: t => k n lv t S
  | _ => none
theorem ta_oPop (n : Nat) : mTail (oPop n) := by
  intro k kr r lv st S h
  unfold oPop at h ⊢
  split at h
  · exact Or.inl ⟨_, _, _, _, h, fun k' z => z⟩
  · cases h
theorem s_pop (X : mX p s m args meth c R cc nL own ret A D ca ad nc ns d) (hdg : decode cc pc = .ok (.pop, 1)) : mSnd (mAt p l e R s m args below meth c Q A D ca ad nc ns nL) J pc (oPop (pc + 1)) := by
  intro k kr r lv st S hk hr h H locs ls hP hS hl
  unfold oPop at h
  split at h
  · exact lv_pop X.1 X.2.1 hdg rfl (hk _ _ _ _ h H locs ls hP hS hl)
  · cases h
def oGoto (n : Nat) : MOp := fun k kr lv st S => k n lv st S
theorem ta_oGoto (n : Nat) : mTail (oGoto n) := by
  intro k kr r lv st S h
  exact Or.inl ⟨_, _, _, _, h, fun k' z => z⟩
theorem s_goto (X : mX p s m args meth c R cc nL own ret A D ca ad nc ns d) {off : Int} {t : Nat} (hdg : decode cc pc = .ok (.goto off, 3)) (ht : (pc : Int) + off = (t : Int)) : mSnd (mAt p l e R s m args below meth c Q A D ca ad nc ns nL) J pc (oGoto t) := by
  intro k kr r lv st S hk hr h H locs ls hP hS hl
  exact lv_goto X.1 X.2.1 hdg ht (hk _ _ _ _ h H locs ls hP hS hl)
def oIc_eq (t n : Nat) : MOp := fun k kr lv st S => match st with
  | .int y :: .int x :: w => if x = y then k t lv w S else k n lv w S
  | _ => none
theorem ta_oIc_eq (t n : Nat) : mTail (oIc_eq t n) := by
  intro k kr r lv st S h
  unfold oIc_eq at h ⊢
  split at h
  · split at h
    · rename_i hy
      simp only [if_pos hy]
      exact Or.inl ⟨_, _, _, _, h, fun k' z => z⟩
    · rename_i hy
      simp only [if_neg hy]
      exact Or.inl ⟨_, _, _, _, h, fun k' z => z⟩
  · cases h
theorem s_icmp_eq (X : mX p s m args meth c R cc nL own ret A D ca ad nc ns d) {off : Int} {t : Nat} (hdg : decode cc pc = .ok (.if_icmp .eq off, 3)) (ht : (pc : Int) + off = (t : Int)) : mSnd (mAt p l e R s m args below meth c Q A D ca ad nc ns nL) J pc (oIc_eq t (pc + 3)) := by
  intro k kr r lv st S hk hr h H locs ls hP hS hl
  unfold oIc_eq at h
  split at h
  · refine lv_icmp_eq X.1 X.2.1 hdg ht (fun hc => ?_) (fun hc => ?_)
    · rw [if_pos hc] at h
      exact hk _ _ _ _ h H locs ls hP hS hl
    · rw [if_neg hc] at h
      exact hk _ _ _ _ h H locs ls hP hS hl
  · cases h
def oIf_eq (t n : Nat) : MOp := fun k kr lv st S => match st with
  | .int x :: w => if x = 0 then k t lv w S else k n lv w S
  | _ => none
theorem ta_oIf_eq (t n : Nat) : mTail (oIf_eq t n) := by
  intro k kr r lv st S h
  unfold oIf_eq at h ⊢
  split at h
  · split at h
    · rename_i hy
      simp only [if_pos hy]
      exact Or.inl ⟨_, _, _, _, h, fun k' z => z⟩
    · rename_i hy
      simp only [if_neg hy]
      exact Or.inl ⟨_, _, _, _, h, fun k' z => z⟩
  · cases h
theorem s_if_eq (X : mX p s m args meth c R cc nL own ret A D ca ad nc ns d) {off : Int} {t : Nat} (hdg : decode cc pc = .ok (.ifCond .eq off, 3)) (ht : (pc : Int) + off = (t : Int)) : mSnd (mAt p l e R s m args below meth c Q A D ca ad nc ns nL) J pc (oIf_eq t (pc + 3)) := by
  intro k kr r lv st S hk hr h H locs ls hP hS hl
  unfold oIf_eq at h
  split at h
  · refine lv_if_eq X.1 X.2.1 hdg ht (fun hc => ?_) (fun hc => ?_)
    · rw [if_pos hc] at h
      exact hk _ _ _ _ h H locs ls hP hS hl
    · rw [if_neg hc] at h
      exact hk _ _ _ _ h H locs ls hP hS hl
  · cases h
def oIc_ne (t n : Nat) : MOp := fun k kr lv st S => match st with
  | .int y :: .int x :: w => if x = y then k n lv w S else k t lv w S
  | _ => none
theorem ta_oIc_ne (t n : Nat) : mTail (oIc_ne t n) := by
  intro k kr r lv st S h
  unfold oIc_ne at h ⊢
  split at h
  · split at h
    · rename_i hy
      simp only [if_pos hy]
      exact Or.inl ⟨_, _, _, _, h, fun k' z => z⟩
    · rename_i hy
      simp only [if_neg hy]
      exact Or.inl ⟨_, _, _, _, h, fun k' z => z⟩
  · cases h
theorem s_icmp_ne (X : mX p s m args meth c R cc nL own ret A D ca ad nc ns d) {off : Int} {t : Nat} (hdg : decode cc pc = .ok (.if_icmp .ne off, 3)) (ht : (pc : Int) + off = (t : Int)) : mSnd (mAt p l e R s m args below meth c Q A D ca ad nc ns nL) J pc (oIc_ne t (pc + 3)) := by
  intro k kr r lv st S hk hr h H locs ls hP hS hl
  unfold oIc_ne at h
  split at h
  · refine lv_icmp_ne X.1 X.2.1 hdg ht (fun hc => ?_) (fun hc => ?_)
    · rw [if_neg hc] at h
      exact hk _ _ _ _ h H locs ls hP hS hl
    · rw [if_pos hc] at h
      exact hk _ _ _ _ h H locs ls hP hS hl
  · cases h
def oIf_ne (t n : Nat) : MOp := fun k kr lv st S => match st with
  | .int x :: w => if x = 0 then k n lv w S else k t lv w S
  | _ => none
theorem ta_oIf_ne (t n : Nat) : mTail (oIf_ne t n) := by
  intro k kr r lv st S h
  unfold oIf_ne at h ⊢
  split at h
  · split at h
    · rename_i hy
      simp only [if_pos hy]
      exact Or.inl ⟨_, _, _, _, h, fun k' z => z⟩
    · rename_i hy
      simp only [if_neg hy]
      exact Or.inl ⟨_, _, _, _, h, fun k' z => z⟩
  · cases h
theorem s_if_ne (X : mX p s m args meth c R cc nL own ret A D ca ad nc ns d) {off : Int} {t : Nat} (hdg : decode cc pc = .ok (.ifCond .ne off, 3)) (ht : (pc : Int) + off = (t : Int)) : mSnd (mAt p l e R s m args below meth c Q A D ca ad nc ns nL) J pc (oIf_ne t (pc + 3)) := by
  intro k kr r lv st S hk hr h H locs ls hP hS hl
  unfold oIf_ne at h
  split at h
  · refine lv_if_ne X.1 X.2.1 hdg ht (fun hc => ?_) (fun hc => ?_)
    · rw [if_neg hc] at h
      exact hk _ _ _ _ h H locs ls hP hS hl
    · rw [if_pos hc] at h
      exact hk _ _ _ _ h H locs ls hP hS hl
  · cases h
def oIc_lt (t n : Nat) : MOp := fun k kr lv st S => match st with
  | .int y :: .int x :: w => if x < y then k t lv w S else k n lv w S
  | _ => none
theorem ta_oIc_lt (t n : Nat) : mTail (oIc_lt t n) := by
  intro k kr r lv st S h
  unfold oIc_lt at h ⊢
  split at h
  · split at h
    · rename_i hy
      simp only [if_pos hy]
      exact Or.inl ⟨_, _, _, _, h, fun k' z => z⟩
    · rename_i hy
      simp only [if_neg hy]
      exact Or.inl ⟨_, _, _, _, h, fun k' z => z⟩
  · cases h
theorem s_icmp_lt (X : mX p s m args meth c R cc nL own ret A D ca ad nc ns d) {off : Int} {t : Nat} (hdg : decode cc pc = .ok (.if_icmp .lt off, 3)) (ht : (pc : Int) + off = (t : Int)) : mSnd (mAt p l e R s m args below meth c Q A D ca ad nc ns nL) J pc (oIc_lt t (pc + 3)) := by
  intro k kr r lv st S hk hr h H locs ls hP hS hl
  unfold oIc_lt at h
  split at h
  · refine lv_icmp_lt X.1 X.2.1 hdg ht (fun hc => ?_) (fun hc => ?_)
    · rw [if_pos hc] at h
      exact hk _ _ _ _ h H locs ls hP hS hl
    · rw [if_neg hc] at h
      exact hk _ _ _ _ h H locs ls hP hS hl
  · cases h
def oIf_lt (t n : Nat) : MOp := fun k kr lv st S => match st with
  | .int x :: w => if x < 0 then k t lv w S else k n lv w S
  | _ => none
theorem ta_oIf_lt (t n : Nat) : mTail (oIf_lt t n) := by
  intro k kr r lv st S h
  unfold oIf_lt at h ⊢
  split at h
  · split at h
    · rename_i hy
      simp only [if_pos hy]
      exact Or.inl ⟨_, _, _, _, h, fun k' z => z⟩
    · rename_i hy
      simp only [if_neg hy]
      exact Or.inl ⟨_, _, _, _, h, fun k' z => z⟩
  · cases h
theorem s_if_lt (X : mX p s m args meth c R cc nL own ret A D ca ad nc ns d) {off : Int} {t : Nat} (hdg : decode cc pc = .ok (.ifCond .lt off, 3)) (ht : (pc : Int) + off = (t : Int)) : mSnd (mAt p l e R s m args below meth c Q A D ca ad nc ns nL) J pc (oIf_lt t (pc + 3)) := by
  intro k kr r lv st S hk hr h H locs ls hP hS hl
  unfold oIf_lt at h
  split at h
  · refine lv_if_lt X.1 X.2.1 hdg ht (fun hc => ?_) (fun hc => ?_)
    · rw [if_pos hc] at h
      exact hk _ _ _ _ h H locs ls hP hS hl
    · rw [if_neg hc] at h
      exact hk _ _ _ _ h H locs ls hP hS hl
  · cases h
def oIc_ge (t n : Nat) : MOp := fun k kr lv st S => match st with
  | .int y :: .int x :: w => if y ≤ x then k t lv w S else k n lv w S
  | _ => none
theorem ta_oIc_ge (t n : Nat) : mTail (oIc_ge t n) := by
  intro k kr r lv st S h
  unfold oIc_ge at h ⊢
  split at h
  · split at h
    · rename_i hy
      simp only [if_pos hy]
      exact Or.inl ⟨_, _, _, _, h, fun k' z => z⟩
    · rename_i hy
      simp only [if_neg hy]
      exact Or.inl ⟨_, _, _, _, h, fun k' z => z⟩
  · cases h
theorem s_icmp_ge (X : mX p s m args meth c R cc nL own ret A D ca ad nc ns d) {off : Int} {t : Nat} (hdg : decode cc pc = .ok (.if_icmp .ge off, 3)) (ht : (pc : Int) + off = (t : Int)) : mSnd (mAt p l e R s m args below meth c Q A D ca ad nc ns nL) J pc (oIc_ge t (pc + 3)) := by
  intro k kr r lv st S hk hr h H locs ls hP hS hl
  unfold oIc_ge at h
  split at h
  · refine lv_icmp_ge X.1 X.2.1 hdg ht (fun hc => ?_) (fun hc => ?_)
    · rw [if_pos hc] at h
      exact hk _ _ _ _ h H locs ls hP hS hl
    · rw [if_neg hc] at h
      exact hk _ _ _ _ h H locs ls hP hS hl
  · cases h
def oIf_ge (t n : Nat) : MOp := fun k kr lv st S => match st with
  | .int x :: w => if 0 ≤ x then k t lv w S else k n lv w S
  | _ => none
theorem ta_oIf_ge (t n : Nat) : mTail (oIf_ge t n) := by
  intro k kr r lv st S h
  unfold oIf_ge at h ⊢
  split at h
  · split at h
    · rename_i hy
      simp only [if_pos hy]
      exact Or.inl ⟨_, _, _, _, h, fun k' z => z⟩
    · rename_i hy
      simp only [if_neg hy]
      exact Or.inl ⟨_, _, _, _, h, fun k' z => z⟩
  · cases h
theorem s_if_ge (X : mX p s m args meth c R cc nL own ret A D ca ad nc ns d) {off : Int} {t : Nat} (hdg : decode cc pc = .ok (.ifCond .ge off, 3)) (ht : (pc : Int) + off = (t : Int)) : mSnd (mAt p l e R s m args below meth c Q A D ca ad nc ns nL) J pc (oIf_ge t (pc + 3)) := by
  intro k kr r lv st S hk hr h H locs ls hP hS hl
  unfold oIf_ge at h
  split at h
  · refine lv_if_ge X.1 X.2.1 hdg ht (fun hc => ?_) (fun hc => ?_)
    · rw [if_pos hc] at h
      exact hk _ _ _ _ h H locs ls hP hS hl
    · rw [if_neg hc] at h
      exact hk _ _ _ _ h H locs ls hP hS hl
  · cases h
def oIc_gt (t n : Nat) : MOp := fun k kr lv st S => match st with
  | .int y :: .int x :: w => if y < x then k t lv w S else k n lv w S
  | _ => none
theorem ta_oIc_gt (t n : Nat) : mTail (oIc_gt t n) := by
  intro k kr r lv st S h
  unfold oIc_gt at h ⊢
  split at h
  · split at h
    · rename_i hy
      simp only [if_pos hy]
      exact Or.inl ⟨_, _, _, _, h, fun k' z => z⟩
    · rename_i hy
      simp only [if_neg hy]
      exact Or.inl ⟨_, _, _, _, h, fun k' z => z⟩
  · cases h
theorem s_icmp_gt (X : mX p s m args meth c R cc nL own ret A D ca ad nc ns d) {off : Int} {t : Nat} (hdg : decode cc pc = .ok (.if_icmp .gt off, 3)) (ht : (pc : Int) + off = (t : Int)) : mSnd (mAt p l e R s m args below meth c Q A D ca ad nc ns nL) J pc (oIc_gt t (pc + 3)) := by
  intro k kr r lv st S hk hr h H locs ls hP hS hl
  unfold oIc_gt at h
  split at h
  · refine lv_icmp_gt X.1 X.2.1 hdg ht (fun hc => ?_) (fun hc => ?_)
    · rw [if_pos hc] at h
      exact hk _ _ _ _ h H locs ls hP hS hl
    · rw [if_neg hc] at h
      exact hk _ _ _ _ h H locs ls hP hS hl
  · cases h
def oIf_gt (t n : Nat) : MOp := fun k kr lv st S => match st with
  | .int x :: w => if 0 < x then k t lv w S else k n lv w S
  | _ => none
theorem ta_oIf_gt (t n : Nat) : mTail (oIf_gt t n) := by
  intro k kr r lv st S h
  unfold oIf_gt at h ⊢
  split at h
  · split at h
    · rename_i hy
      simp only [if_pos hy]
      exact Or.inl ⟨_, _, _, _, h, fun k' z => z⟩
    · rename_i hy
      simp only [if_neg hy]
      exact Or.inl ⟨_, _, _, _, h, fun k' z => z⟩
  · cases h
theorem s_if_gt (X : mX p s m args meth c R cc nL own ret A D ca ad nc ns d) {off : Int} {t : Nat} (hdg : decode cc pc = .ok (.ifCond .gt off, 3)) (ht : (pc : Int) + off = (t : Int)) : mSnd (mAt p l e R s m args below meth c Q A D ca ad nc ns nL) J pc (oIf_gt t (pc + 3)) := by
  intro k kr r lv st S hk hr h H locs ls hP hS hl
  unfold oIf_gt at h
  split at h
  · refine lv_if_gt X.1 X.2.1 hdg ht (fun hc => ?_) (fun hc => ?_)
    · rw [if_pos hc] at h
      exact hk _ _ _ _ h H locs ls hP hS hl
    · rw [if_neg hc] at h
      exact hk _ _ _ _ h H locs ls hP hS hl
  · cases h
def oIc_le (t n : Nat) : MOp := fun k kr lv st S => match st with
  | .int y :: .int x :: w => if x ≤ y then k t lv w S else k n lv w S
  | _ => none
theorem ta_oIc_le (t n : Nat) : mTail (oIc_le t n) := by
  intro k kr r lv st S h
  unfold oIc_le at h ⊢
  split at h
  · split at h
    · rename_i hy
      simp only [if_pos hy]
      exact Or.inl ⟨_, _, _, _, h, fun k' z => z⟩
    · rename_i hy
      simp only [if_neg hy]
      exact Or.inl ⟨_, _, _, _, h, fun k' z => z⟩
  · cases h
theorem s_icmp_le (X : mX p s m args meth c R cc nL own ret A D ca ad nc ns d) {off : Int} {t : Nat} (hdg : decode cc pc = .ok (.if_icmp .le off, 3)) (ht : (pc : Int) + off = (t : Int)) : mSnd (mAt p l e R s m args below meth c Q A D ca ad nc ns nL) J pc (oIc_le t (pc + 3)) := by
  intro k kr r lv st S hk hr h H locs ls hP hS hl
  unfold oIc_le at h
  split at h
  · refine lv_icmp_le X.1 X.2.1 hdg ht (fun hc => ?_) (fun hc => ?_)
    · rw [if_pos hc] at h
      exact hk _ _ _ _ h H locs ls hP hS hl
    · rw [if_neg hc] at h
      exact hk _ _ _ _ h H locs ls hP hS hl
  · cases h
def oIf_le (t n : Nat) : MOp := fun k kr lv st S => match st with
  | .int x :: w => if x ≤ 0 then k t lv w S else k n lv w S
  | _ => none
theorem ta_oIf_le (t n : Nat) : mTail (oIf_le t n) := by
  intro k kr r lv st S h
  unfold oIf_le at h ⊢
  split at h
  · split at h
    · rename_i hy
      simp only [if_pos hy]
      exact Or.inl ⟨_, _, _, _, h, fun k' z => z⟩
    · rename_i hy
      simp only [if_neg hy]
      exact Or.inl ⟨_, _, _, _, h, fun k' z => z⟩
  · cases h
theorem s_if_le (X : mX p s m args meth c R cc nL own ret A D ca ad nc ns d) {off : Int} {t : Nat} (hdg : decode cc pc = .ok (.ifCond .le off, 3)) (ht : (pc : Int) + off = (t : Int)) : mSnd (mAt p l e R s m args below meth c Q A D ca ad nc ns nL) J pc (oIf_le t (pc + 3)) := by
  intro k kr r lv st S hk hr h H locs ls hP hS hl
  unfold oIf_le at h
  split at h
  · refine lv_if_le X.1 X.2.1 hdg ht (fun hc => ?_) (fun hc => ?_)
    · rw [if_pos hc] at h
      exact hk _ _ _ _ h H locs ls hP hS hl
    · rw [if_neg hc] at h
      exact hk _ _ _ _ h H locs ls hP hS hl
  · cases h
/-- the first target whose key is it -/
def mSw (k : Nat → Option MR) (x : Int32) : List (Int32 × Nat) → Nat → Option MR
  | [], dflt => k dflt
  | q :: r, dflt => if x = q.1 then k q.2 else mSw k x r dflt
def oSw (ps : List (Int32 × Nat)) (dflt : Nat) : MOp := fun k kr lv st S => match st with
  | .int x :: w => mSw (fun t => k t lv w S) x ps dflt
  | _ => none
/-- where a switch goes: the list, read as the machine reads its table -/
def mSwT (x : Int32) : List (Int32 × Nat) → Nat → Nat
  | [], dflt => dflt
  | q :: r, dflt => if x = q.1 then q.2 else mSwT x r dflt
theorem mSw_T (k : Nat → Option MR) (x : Int32) : ∀ (ps : List (Int32 × Nat)) (dflt : Nat), mSw k x ps dflt = k (mSwT x ps dflt) := by
  intro ps
  induction ps with
  | nil => intro dflt; rfl
  | cons q ps ih =>
    intro dflt
    unfold mSw mSwT
    split
    · rfl
    · exact ih _
theorem ta_oSw (ps : List (Int32 × Nat)) (dflt : Nat) : mTail (oSw ps dflt) := by
  intro k kr r lv st S h
  unfold oSw at h ⊢
  split at h
  · rw [mSw_T] at h
    exact Or.inl ⟨_, _, _, _, h, fun k' z => by rw [mSw_T]; exact z⟩
  · cases h
/-- a list of keys that rise by one from lo, with the offsets of a table -/
def mTabOk (pc : Nat) (lo : Int) : List (Int32 × Nat) → List Int → Bool
  | [], [] => true
  | q :: r, o :: os => decide (q.1.toInt = lo) && decide ((pc : Int) + o = (q.2 : Int)) && mTabOk pc (lo + 1) r os
  | _, _ => false
theorem mTabOk_in (pc dflt : Nat) (x : Int32) : ∀ (ps : List (Int32 × Nat)) (os : List Int) (lo : Int), mTabOk pc lo ps os = true → (lo ≤ x.toInt ∧ x.toInt < lo + os.length → ∃ off, os[(x.toInt - lo).toNat]? = some off ∧ (pc : Int) + off = (mSwT x ps dflt : Int)) ∧ ((x.toInt < lo ∨ lo + os.length ≤ x.toInt) → mSwT x ps dflt = dflt) := by
  intro ps
  induction ps with
  | nil =>
    intro os lo h
    cases os with
    | nil => exact ⟨fun z => by simp at z; omega, fun _ => rfl⟩
    | cons a b => cases h
  | cons q ps ih =>
    intro os lo h
    cases os with
    | nil => cases h
    | cons o os =>
      unfold mTabOk at h
      simp only [Bool.and_eq_true, decide_eq_true_eq] at h
      obtain ⟨⟨h1, h2⟩, h3⟩ := h
      obtain ⟨i1, i2⟩ := ih os (lo + 1) h3
      unfold mSwT
      simp only [List.length_cons]
      by_cases hx : x = q.1
      · rw [if_pos hx]
        refine ⟨fun _ => ⟨o, ?_, h2⟩, fun z => ?_⟩
        · rw [hx, h1]
          simp
        · rw [hx, h1] at z
          exfalso
          push_cast at z
          omega
      · rw [if_neg hx]
        have hne : x.toInt ≠ lo := fun z => hx (Int32.toInt_inj.mp (by rw [h1, z]))
        refine ⟨fun z => ?_, fun z => i2 ?_⟩
        · push_cast at z
          obtain ⟨off, a1, a2⟩ := i1 (by omega)
          refine ⟨off, ?_, a2⟩
          rw [show (x.toInt - lo).toNat = (x.toInt - (lo + 1)).toNat + 1 by omega, List.getElem?_cons_succ]
          exact a1
        · push_cast at z
          omega
theorem s_tsw (X : mX p s m args meth c R cc nL own ret A D ca ad nc ns d) {dflt lo hi : Int} {offs : Array Int} {len : Nat} {ps : List (Int32 × Nat)} {t0 : Nat} (hdg : decode cc pc = .ok (.tableswitch dflt lo hi offs, len)) (hd : (pc : Int) + dflt = (t0 : Int)) (hh : hi + 1 = lo + offs.toList.length) (hps : mTabOk pc lo ps offs.toList = true) : mSnd (mAt p l e R s m args below meth c Q A D ca ad nc ns nL) J pc (oSw ps t0) := by
  intro k kr r lv st S hk hr h H locs ls hP hS hl
  unfold oSw at h
  split at h
  · rename_i x w
    rw [mSw_T] at h
    obtain ⟨i1, i2⟩ := mTabOk_in pc t0 x ps offs.toList lo hps
    by_cases hx : x.toInt < lo ∨ hi < x.toInt
    · refine lv_tableOut X.1 X.2.1 hdg hx hd ?_
      rw [i2 (by omega)] at h
      exact hk _ _ _ _ h H locs ls hP hS hl
    · obtain ⟨off, a1, a2⟩ := i1 (by omega)
      refine lv_tableIn X.1 X.2.1 hdg (fun z => hx (Or.inl z)) (fun z => hx (Or.inr z)) (by rw [← Array.getElem?_toList]; exact a1) a2 ?_
      exact hk _ _ _ _ h H locs ls hP hS hl
  · cases h
def mLkOk (pc : Nat) : List (Int32 × Nat) → List (Int × Int) → Bool
  | [], [] => true
  | q :: r, o :: os => decide (q.1.toInt = o.1) && decide ((pc : Int) + o.2 = (q.2 : Int)) && mLkOk pc r os
  | _, _ => false
theorem mLkOk_off (pc t0 : Nat) (dflt : Int) (hd : (pc : Int) + dflt = (t0 : Int)) (x : Int32) : ∀ (ps : List (Int32 × Nat)) (os : List (Int × Int)), mLkOk pc ps os = true → (pc : Int) + Op.lookupswitch.offset os dflt x.toInt = (mSwT x ps t0 : Int) := by
  intro ps
  induction ps with
  | nil =>
    intro os h
    cases os with
    | nil => exact hd
    | cons a b => cases h
  | cons q ps ih =>
    intro os h
    cases os with
    | nil => cases h
    | cons o os =>
      unfold mLkOk at h
      simp only [Bool.and_eq_true, decide_eq_true_eq] at h
      obtain ⟨⟨h1, h2⟩, h3⟩ := h
      unfold mSwT
      by_cases hx : x = q.1
      · rw [if_pos hx]
        obtain ⟨o1, o2⟩ := o
        have e : o1 = x.toInt := by rw [hx]; exact h1.symm
        subst e
        unfold Op.lookupswitch.offset
        simp
        exact h2
      · rw [if_neg hx]
        obtain ⟨o1, o2⟩ := o
        rw [lv_osw hx h1]
        exact ih os h3
theorem s_lsw (X : mX p s m args meth c R cc nL own ret A D ca ad nc ns d) {dflt : Int} {prs : Array (Int × Int)} {len : Nat} {ps : List (Int32 × Nat)} {t0 : Nat} (hdg : decode cc pc = .ok (.lookupswitch dflt prs, len)) (hd : (pc : Int) + dflt = (t0 : Int)) (hp : (prs.toList.zip (prs.toList.drop 1)).all (fun (a, next) => a.1 < next.1) = true) (hps : mLkOk pc ps prs.toList = true) : mSnd (mAt p l e R s m args below meth c Q A D ca ad nc ns nL) J pc (oSw ps t0) := by
  intro k kr r lv st S hk hr h H locs ls hP hS hl
  unfold oSw at h
  split at h
  · rename_i x w
    rw [mSw_T] at h
    refine lv_lookup X.1 X.2.1 hdg hp rfl (mLkOk_off pc t0 dflt hd x ps prs.toList hps) ?_
    exact hk _ _ _ _ h H locs ls hP hS hl
  · cases h
theorem s_keep {ks : List Nat} {op : MOp} (h : mSnd (mAt p l e R s m args below meth c Q A D ca ad nc ns nL) J pc op) : mSnd (mAt p l e R s m args below meth c Q A D ca ad nc ns nL) J pc (oKeep ks op) := by
  intro k kr r lv st S hk hr z H locs ls hP hS hl
  refine h k kr r (mkeep ks lv) st S hk hr z H locs ls hP hS ⟨hl.1, hl.2.1, fun q hq => hl.2.2 q ?_⟩
  obtain ⟨b, hb, rfl⟩ := List.mem_map.mp hq
  exact List.mem_map.mpr ⟨b, mkeep_mem hb, rfl⟩
end