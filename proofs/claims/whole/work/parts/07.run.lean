/-! ===== runs of a table of ops; a method's value; its contract ===== -/
def mlook : List (Nat × MOp) → Nat → Option MOp
  | [], _ => none
  | q :: l, i => bif Nat.beq q.1 i then some q.2 else mlook l i
def mrun (code : List (Nat × MOp)) : Nat → MK
  | 0 => fun _ _ _ _ => none
  | n + 1 => fun pc lv st S => match mlook code pc with
    | some op => op (mrun code n) (fun v S => some (v, S)) lv st S
    | none => none
theorem mlook_mem {code : List (Nat × MOp)} {pc : Nat} {op : MOp} (h : mlook code pc = some op) : (pc, op) ∈ code := by
  induction code with
  | nil => cases h
  | cons q l ih =>
    unfold mlook at h
    cases hb : Nat.beq q.1 pc with
    | true =>
      rw [hb] at h
      have h1 : q.2 = op := Option.some.inj h
      have h2 : q.1 = pc := Nat.eq_of_beq_eq_true hb
      rw [← h1, ← h2]
      exact List.mem_cons_self
    | false => rw [hb] at h; exact List.mem_cons_of_mem _ (ih h)
theorem mono_of {op : MOp} (h : mTail op) {k k' : MK} {kr : MJ} {r : MR} {lv : ML} {st : List Value} {S : MS} (hk : ∀ a b c' d', k a b c' d' = some r → k' a b c' d' = some r) (z : op k kr lv st S = some r) : op k' kr lv st S = some r := by
  rcases h k kr r lv st S z with ⟨a, b, c', d', h1, h2⟩ | h2
  · exact h2 k' (hk _ _ _ _ h1)
  · exact h2 k'
theorem mrun_step {code : List (Nat × MOp)} (hc : ∀ q ∈ code, mTail q.2) : ∀ (n pc : Nat) (lv : ML) (st : List Value) (S : MS) (r : MR), mrun code n pc lv st S = some r → mrun code (n + 1) pc lv st S = some r := by
  intro n
  induction n with
  | zero => intro pc lv st S r h; cases h
  | succ n ih =>
    intro pc lv st S r h
    rw [mrun] at h ⊢
    dsimp only at h ⊢
    cases ho : mlook code pc with
    | none => rw [ho] at h; cases h
    | some op =>
      rw [ho] at h
      exact mono_of (hc _ (mlook_mem ho)) (fun a b c' d' z => ih a b c' d' r z) h
theorem mrun_le {code : List (Nat × MOp)} (hc : ∀ q ∈ code, mTail q.2) {n n' pc : Nat} {lv : ML} {st : List Value} {S : MS} {r : MR} (hn : n ≤ n') (h : mrun code n pc lv st S = some r) : mrun code n' pc lv st S = some r := by
  obtain ⟨k, rfl⟩ := Nat.exists_eq_add_of_le hn
  clear hn
  induction k with
  | zero => exact h
  | succ k ih => exact mrun_step hc _ _ _ _ _ _ ih
theorem mrun_snd {T : Nat → ML → List Value → MS → Prop} {J : Option Value → MS → Prop} {code : List (Nat × MOp)} (hc : ∀ q ∈ code, mSnd T J q.1 q.2) {r : MR} (hr : J r.1 r.2) : ∀ (n pc : Nat) (lv : ML) (st : List Value) (S : MS), mrun code n pc lv st S = some r → T pc lv st S := by
  intro n
  induction n with
  | zero => intro pc lv st S h; cases h
  | succ n ih =>
    intro pc lv st S h
    rw [mrun] at h
    dsimp only at h
    cases ho : mlook code pc with
    | none => rw [ho] at h; cases h
    | some op =>
      rw [ho] at h
      exact hc _ (mlook_mem ho) _ _ r lv st S (fun a b c' d' z => ih a b c' d' z) (fun v S' z => by cases z; exact hr) h
/-- the value of a table from a place on: what its runs come to -/
noncomputable def mv (code : List (Nat × MOp)) : MK := fun pc lv st S =>
  @dite _ (∃ n, (mrun code n pc lv st S).isSome = true) (Classical.propDecidable _) (fun h => mrun code h.choose pc lv st S) (fun _ => none)
theorem mv_ex {code : List (Nat × MOp)} {pc : Nat} {lv : ML} {st : List Value} {S : MS} {r : MR} (h : mv code pc lv st S = some r) : ∃ n, mrun code n pc lv st S = some r := by
  unfold mv at h
  split at h
  · exact ⟨_, h⟩
  · cases h
theorem mv_of {code : List (Nat × MOp)} (hc : ∀ q ∈ code, mTail q.2) {pc : Nat} {lv : ML} {st : List Value} {S : MS} {r : MR} {n : Nat} (h : mrun code n pc lv st S = some r) : mv code pc lv st S = some r := by
  have hx : ∃ n, (mrun code n pc lv st S).isSome = true := ⟨n, by rw [h]; rfl⟩
  unfold mv
  rw [dif_pos hx]
  have h1 := hx.choose_spec
  cases h2 : mrun code hx.choose pc lv st S with
  | none => rw [h2] at h1; cases h1
  | some q =>
    have a := mrun_le hc (Nat.le_max_left n hx.choose) h
    have b := mrun_le hc (Nat.le_max_right n hx.choose) h2
    rw [a] at b
    exact b.symm
theorem opt_ext {α : Type} {a b : Option α} (h : ∀ r, a = some r ↔ b = some r) : a = b := by
  cases a with
  | none =>
    cases b with
    | none => rfl
    | some y => exact absurd ((h y).mpr rfl) (by simp)
  | some x => exact ((h x).mp rfl).symm
def mstp (code : List (Nat × MOp)) (k : MK) : MK := fun pc lv st S => match mlook code pc with
  | some op => op k (fun v S => some (v, S)) lv st S
  | none => none
/-- one step of the value -/
theorem mv_step {code : List (Nat × MOp)} (hc : ∀ q ∈ code, mTail q.2) : mv code = mstp code (mv code) := by
  funext pc lv st S
  refine opt_ext (fun r => ⟨fun h => ?_, fun h => ?_⟩)
  · obtain ⟨n, hn⟩ := mv_ex h
    cases n with
    | zero => cases hn
    | succ n =>
      rw [mrun] at hn
      dsimp only at hn
      unfold mstp
      cases ho : mlook code pc with
      | none => rw [ho] at hn; cases hn
      | some op =>
        rw [ho] at hn
        exact mono_of (hc _ (mlook_mem ho)) (fun a b c' d' z => mv_of hc z) hn
  · unfold mstp at h
    cases ho : mlook code pc with
    | none => rw [ho] at h; cases h
    | some op =>
      rw [ho] at h
      rcases hc _ (mlook_mem ho) _ _ _ _ _ _ h with ⟨a, b, c', d', h1, h2⟩ | h2
      · obtain ⟨n, hn⟩ := mv_ex h1
        refine mv_of hc (n := n + 1) ?_
        rw [mrun]
        dsimp only
        rw [ho]
        exact h2 _ hn
      · refine mv_of hc (n := 1) ?_
        rw [mrun]
        dsimp only
        rw [ho]
        exact h2 _
def mcut : List (Nat × List Nat) → Nat → Option (List Nat)
  | [], _ => none
  | q :: l, i => bif Nat.beq q.1 i then some q.2 else mcut l i
/-- a run that stops at the cuts, and leaves the rest to kk -/
def mrs (kk : MK) (code : List (Nat × MOp)) (cu : List (Nat × List Nat)) : Nat → MK
  | 0 => kk
  | n + 1 => fun pc lv st S => match mlook code pc with
    | some op => op (fun a b c' d' => match mcut cu a with
      | some ks => kk a (mkeep ks b) c' d'
      | none => mrs kk code cu n a b c' d') (fun v S => some (v, S)) lv st S
    | none => none
def mcuts (code : List (Nat × MOp)) (cu : List (Nat × List Nat)) : Prop := ∀ q ∈ cu, ∃ op, mlook code q.1 = some (oKeep q.2 op)
theorem mget_keep (lv : ML) : ∀ (ks : List Nat) (i : Nat), mget (mkeep ks lv) i = if i ∈ ks then mget lv i else none := by
  intro ks
  induction ks with
  | nil => intro i; rfl
  | cons j ks ih =>
    intro i
    unfold mkeep
    split
    · rename_i v hv
      show (bif Nat.beq j i then some v else mget (mkeep ks lv) i) = _
      cases hb : Nat.beq j i with
      | true =>
        have e := Nat.eq_of_beq_eq_true hb
        subst e
        simp [hv]
      | false =>
        have e : i ≠ j := fun z => by rw [z, Nat.beq_refl] at hb; cases hb
        simp only [cond_false]
        rw [ih]
        simp [e]
    · rename_i hv
      rw [ih]
      by_cases e : i = j
      · subst e
        simp [hv]
      · simp [e]
theorem mkeep_idem (lv : ML) : ∀ (ks k2 : List Nat), (∀ i ∈ ks, i ∈ k2) → mkeep ks (mkeep k2 lv) = mkeep ks lv := by
  intro ks k2
  induction ks with
  | nil => intro _; rfl
  | cons j ks ih =>
    intro h
    have h1 := mget_keep lv k2 j
    rw [if_pos (h j List.mem_cons_self)] at h1
    unfold mkeep
    rw [h1, ih (fun i hi => h i (List.mem_cons_of_mem _ hi))]
theorem mcut_mem {cu : List (Nat × List Nat)} {i : Nat} {ks : List Nat} (h : mcut cu i = some ks) : (i, ks) ∈ cu := by
  induction cu with
  | nil => cases h
  | cons q l ih =>
    unfold mcut at h
    cases hb : Nat.beq q.1 i with
    | true =>
      rw [hb] at h
      have h1 : q.2 = ks := Option.some.inj h
      have h2 : q.1 = i := Nat.eq_of_beq_eq_true hb
      rw [← h1, ← h2]
      exact List.mem_cons_self
    | false => rw [hb] at h; exact List.mem_cons_of_mem _ (ih h)
theorem mv_keep {code : List (Nat × MOp)} (hc : ∀ q ∈ code, mTail q.2) {cu : List (Nat × List Nat)} (hu : mcuts code cu) {a : Nat} {ks : List Nat} (h : mcut cu a = some ks) (b : ML) (st : List Value) (S : MS) : mv code a (mkeep ks b) st S = mv code a b st S := by
  obtain ⟨op, ho⟩ := hu _ (mcut_mem h)
  rw [mv_step hc]
  unfold mstp
  dsimp only at ho
  rw [ho]
  show op _ _ (mkeep ks (mkeep ks b)) _ _ = op _ _ (mkeep ks b) _ _
  rw [mkeep_idem b ks ks (fun _ h => h)]
theorem mv_run {code : List (Nat × MOp)} (hc : ∀ q ∈ code, mTail q.2) {cu : List (Nat × List Nat)} (hu : mcuts code cu) : ∀ n, mrs (mv code) code cu n = mv code := by
  intro n
  induction n with
  | zero => rfl
  | succ n ih =>
    have e : (fun a b c' d' => match mcut cu a with
      | some ks => mv code a (mkeep ks b) c' d'
      | none => mrs (mv code) code cu n a b c' d') = mv code := by
      funext a b c' d'
      cases h : mcut cu a with
      | none => dsimp only; rw [ih]
      | some ks => exact mv_keep hc hu h b c' d'
    rw [mrs, e]
    exact (mv_step hc).symm
/-- the way to a row of a method: its run by rfl -/
theorem mv_row {code : List (Nat × MOp)} (hc : ∀ q ∈ code, mTail q.2) {cu : List (Nat × List Nat)} (hu : mcuts code cu) (n : Nat) {pc : Nat} {lv : ML} {st : List Value} {S : MS} {t : Option MR} (h : mrs (mv code) code cu n pc lv st S = t) : mv code pc lv st S = t := by
  rw [← h, mv_run hc hu n]
theorem lg_len (ad : Nat → Nat) (as : List Value) : (lg_sl (tS ad as)).length = mcats as := by
  induction as with
  | nil => rfl
  | cons v t ih =>
    show (lg_sl (tV ad v :: tS ad t)).length = v.category + mcats t
    have e : lg_sl (tV ad v :: tS ad t) = (if (tV ad v).category = 2 then [Slot.val (tV ad v), Slot.second] else [Slot.val (tV ad v)]) ++ lg_sl (tS ad t) := by
      unfold lg_sl
      rw [List.flatMap_cons]
    rw [e, List.length_append, ih, tV_cat]
    rcases lv_cat v with h | h
    · rw [h]; rfl
    · rw [h]; rfl
theorem lv_args_t (ad : Nat → Nat) : ∀ (as : List Value) (i : Nat), lv_args i (tS ad as) = tL ad (lv_args i as) := by
  intro as
  induction as with
  | nil => intro i; rfl
  | cons v t ih =>
    intro i
    show (i, tV ad v) :: lv_args (if (tV ad v).category = 2 then i + 2 else i + 1) (tS ad t) = (i, tV ad v) :: tL ad (lv_args (if v.category = 2 then i + 2 else i + 1) t)
    rw [tV_cat, ih]
/-- a method's contract out of a run of its table -/
theorem mCon_of {l : Launch} {D : va_G} {ca : Nat → ClassId} {ad : Nat → Nat} {d : Nat} {y : MethodName} {bytes : ByteArray} {maxL : Nat} {rt : Option FieldType} {as : List Value} {S : MS} {r : MR} {own : String} {code : List (Nat × MOp)} (hy : plainName y.cls = true) (ho : y.cls = own) (hlen : mcats as ≤ maxL)
    (hsnd : ∀ (p : Program) (e : Env) (R : Room) (s : State) (m : MethodId) (args : Array Value) (below : List Frame) (meth : Method) (c : Code) (Q : State → Prop) (A : Nat → Prop), mX p s m args meth c R bytes maxL own rt A D ca ad 0 0 d → ∀ q ∈ code, mSnd (mAt p l e R s m args below meth c Q A D ca ad 0 0 maxL) (mJ p l e R s m args below meth c Q A D ca ad 0 0 bytes rt) q.1 q.2)
    (h : ∃ n, mrun code n 0 (lv_args 0 as) [] S = some r) : mCon l D ca ad (d + 1) y bytes maxL rt as S r := by
  intro sz
  refine Met.ofW (cc := bytes) (maxL := maxL) (ret := rt) hy rfl ?_
  intro p e s m args below meth c s₁ B hml hv
  obtain ⟨ha, hsz, hP, hK, hDD, hCC⟩ := hv
  have hx := B.exec
  have hb := B.bytes
  have hr := B.returns
  have hts := atoms_spec (ws := Cond.code y bytes maxL rt :: mALL) B.pre
  have hown : s.vm.findClass own = some m.cls := ho ▸ findClass_of_methodNamed B.named
  have hlocks := B.notSynchronized
  rw [hsz] at hDD hCC
  have X : mX p s m args meth c (mR (d + 1)) bytes maxL own rt (mA ad sz) D ca ad 0 0 d := ⟨hx, hb, hml, hown, fun w hw => hts w (List.mem_cons_of_mem _ hw), hlocks, hr, hK, hDD, fun q hq => Or.inr (hsz ▸ hq), hCC, Nat.le_refl _, Nat.le_refl _, Nat.le_refl _, Nat.le_refl _⟩
  obtain ⟨n, hn⟩ := h
  have hJ : mJ p l e (mR (d + 1)) s m args below meth c (MQ below (mQc D ca ad r sz) args s 0 0 (mA ad sz)) (mA ad sz) D ca ad 0 0 bytes rt r.1 r.2 := by
    intro pc H locs ls hP1 hS1
    refine ⟨fun hv hrt hdg => ?_, fun x hv hdg hty => ?_⟩
    · exact W.vret hx hb (hr.trans hrt) (fun t ht _ => ⟨by rw [hv]; rfl, by rw [ht]; exact hP1, va_S.F hS1 ht⟩) hS1.2.2 hdg hlocks
    · obtain ⟨ty, h1, h2⟩ := hty
      exact W.zret hx hb (hr.trans h1) h2 (fun t ht _ => ⟨by rw [hv]; rfl, by rw [ht]; exact hP1, va_S.F hS1 ht⟩) hS1.2.2 hdg hlocks
  have hT := mrun_snd (hsnd p e (mR (d + 1)) s m args below meth c (MQ below (mQc D ca ad r sz) args s 0 0 (mA ad sz)) (mA ad sz) X) hJ n 0 (lv_args 0 as) [] S hn
  have hl := lv_entry (tS ad as) (n := maxL) (by rw [lg_len]; exact hlen)
  rw [lv_args_t] at hl
  subst ha
  rw [lg_entry_eq]
  exact hT s.heap [] _ hP va_S.rf hl
