/-! ===== ops on cells, calls, ends ===== -/
def kO (a ci : Nat) : Bool := Nat.beq (ki a).1 3 && Nat.beq (ki a).2 ci
def kA (a : Nat) : Bool := Nat.beq (ki a).1 0
theorem kO_ki {a ci : Nat} (h : kO a ci = true) : ki a = (3, ci) := by
  unfold kO at h
  simp only [Bool.and_eq_true] at h
  exact Prod.ext (Nat.eq_of_beq_eq_true h.1) (Nat.eq_of_beq_eq_true h.2)
theorem kA_ki {a : Nat} (h : kA a = true) : ki a = (0, (ki a).2) := Prod.ext (Nat.eq_of_beq_eq_true h) rfl
theorem good_mALL {ws : List Cond} (h : ∀ w ∈ ws, w ∈ mALL) : GoodIn mALL ws := fun w hw => ⟨h w hw, good_of_word (List.mem_filter.mp (h w hw)).2⟩
def mG (D : va_G) (ca : Nat → ClassId) (ad : Nat → Nat) (S : MS) (U : State) : Prop := va_P D vwCl (mW ad ca S) U.heap ∧ va_K D vwCl (mT ca) U ∧ mD ad (mA ad U.heap.size) ∧ mC (mA ad U.heap.size) ad U U.heap
def mPc (D : va_G) (ca : Nat → ClassId) (ad : Nat → Nat) (as : List Value) (S : MS) (sz : Nat) : Array Value → State → Prop := va_Pc (tS ad as) (fun U => U.heap.size = sz ∧ mG D ca ad S U)
def mQc (D : va_G) (ca : Nat → ClassId) (ad : Nat → Nat) (r : MR) (sz : Nat) : Array Value → State → Outcome → State → Prop := fun _ st oc t => oc = .returned (r.1.map (tV ad)) ∧ va_P D vwCl (mW ad ca r.2) t.heap ∧ va_F (mA ad sz) st t
def mR (d : Nat) : Room := { frames := d + 1, cells := 0, slots := 0, locals := 50 * (d + 1) }
/-- a method's contract: from as and S it ends with r -/
def mCon (l : Launch) (D : va_G) (ca : Nat → ClassId) (ad : Nat → Nat) (d : Nat) (y : MethodName) (bytes : ByteArray) (maxL : Nat) (ret : Option FieldType) (as : List Value) (S : MS) (r : MR) : Prop :=
  ∀ sz, Met l y (Cond.code y bytes maxL ret :: mALL) (mR d) (mPc D ca ad as S sz) (mQc D ca ad r sz) 0 0 (mA ad sz)
theorem mC_fb {A : Nat → Prop} {ad : Nat → Nat} {u U : State} {H : Heap} (hv : U.vm = u.vm) (h : mC A ad u H) : mC A ad U H := by
  have hvm : u.vm.Alike U.vm := by rw [hv]; exact Vm.Alike.refl u.vm
  obtain ⟨h1, h2, h3, h4, h5, h6, h7, h8, h9⟩ := h
  exact ⟨h1.moved hvm, h2.moved hvm, h3.moved hvm, h4.moved hvm, h5.moved hvm, h6.moved hvm, h7.same hv, h8.same hv, h9.same rfl hv.symm⟩
theorem mPc_fb {D : va_G} {ca : Nat → ClassId} {ad : Nat → Nat} {as : List Value} {S : MS} {sz : Nat} : FrameBlind (mPc D ca ad as S sz) := by
  intro a U g mk h
  obtain ⟨h1, h2, h3, h4, h5, h6⟩ := h
  exact ⟨h1, h2, h3, va_K.moved (u := U) (U := U.calling g mk a) (Vm.Alike.refl U.vm) h4, h5, mC_fb (u := U) (U := U.calling g mk a) rfl h6⟩

section
variable {p : Program} {l : Launch} {e : Env} {R : Room} {s : State} {m : MethodId} {args : Array Value} {below : List Frame} {meth : Method} {c : Code} {Q : State → Prop} {A : Nat → Prop} {D : va_G} {ca : Nat → ClassId} {ad : Nat → Nat} {nL d pc nc ns : Nat} {cc : ByteArray} {own : String} {ret : Option FieldType} {J : Option Value → MS → Prop}
def oGetI (ci j n : Nat) : MOp := fun k kr lv st S => match st with
  | .ref a :: w => bif kO a ci then k n lv (.int (S.1 a j) :: w) S else none
  | _ => none
theorem ta_oGetI (ci j n : Nat) : mTail (oGetI ci j n) := by
  intro k kr r lv st S h
  unfold oGetI at h ⊢
  split at h
  · rename_i a w
    cases h0 : kO a ci with
    | false => rw [h0] at h; cases h
    | true => rw [h0] at h; exact Or.inl ⟨_, _, _, _, h, fun k' z => z⟩
  · cases h
theorem s_getI (X : mX p s m args meth c R cc nL own ret A D ca ad nc ns d) {ci j idx N : Nat} {C : String} {T : u_T} (hc : vwCl[ci]? = some (C, T, N)) (hN : nF ci = N) (hin : ∀ w ∈ u_ws C T N, w ∈ mALL) (hj : j < N) (hI : isI ci j = true) (hw : Cond.fieldLink own idx (T j).1 (T j).2.1 (T j).2.2.1 ∈ mALL) (hdg : decode cc pc = .ok (.getfield idx, 3)) : mSnd (mAt p l e R s m args below meth c Q A D ca ad nc ns nL) J pc (oGetI ci j (pc + 3)) := by
  intro k kr r lv st S hk hr h H locs ls hP hS hl
  unfold oGetI at h
  split at h
  · rename_i a w
    cases h0 : kO a ci with
    | false => rw [h0] at h; cases h
    | true =>
      rw [h0] at h
      have hki := kO_ki h0
      have hlt := ki_lt hki (by decide)
      exact va_get X.1 X.2.1 (Ts := mALL) X.2.2.2.2.1 hin X.2.2.2.1 X.2.2.2.2.2.2.2.1 hP a (by rw [mW_at hlt, mE_obj hki]) hc j hj (X.2.2.2.2.1 _ hw) (fun _ z => z) (v := .int (S.1 a j)) (by rw [mF_at (hN ▸ hj), hI]; rfl) hdg (hk _ _ _ _ h H locs ls hP hS hl)
  · cases h
def oGetR (ci j n : Nat) : MOp := fun k kr lv st S => match st with
  | .ref a :: w => bif kO a ci then (match rv S a j with
    | some r => k n lv (.ref r :: w) S
    | none => none) else none
  | _ => none
theorem ta_oGetR (ci j n : Nat) : mTail (oGetR ci j n) := by
  intro k kr r lv st S h
  unfold oGetR at h ⊢
  split at h
  · rename_i a w
    cases h0 : kO a ci with
    | false => rw [h0] at h; cases h
    | true =>
      rw [h0] at h
      simp only [cond_true] at h ⊢
      cases h1 : rv S a j with
      | none => rw [h1] at h; cases h
      | some q => rw [h1] at h; exact Or.inl ⟨_, _, _, _, h, fun k' z => z⟩
  · cases h
theorem s_getR (X : mX p s m args meth c R cc nL own ret A D ca ad nc ns d) {ci j idx N : Nat} {C : String} {T : u_T} (hc : vwCl[ci]? = some (C, T, N)) (hN : nF ci = N) (hin : ∀ w ∈ u_ws C T N, w ∈ mALL) (hj : j < N) (hI : isI ci j = false) (hw : Cond.fieldLink own idx (T j).1 (T j).2.1 (T j).2.2.1 ∈ mALL) (hdg : decode cc pc = .ok (.getfield idx, 3)) : mSnd (mAt p l e R s m args below meth c Q A D ca ad nc ns nL) J pc (oGetR ci j (pc + 3)) := by
  intro k kr r lv st S hk hr h H locs ls hP hS hl
  unfold oGetR at h
  split at h
  · rename_i a w
    cases h0 : kO a ci with
    | false => rw [h0] at h; cases h
    | true =>
      rw [h0] at h
      simp only [cond_true] at h
      have hki := kO_ki h0
      have hlt := ki_lt hki (by decide)
      cases h1 : rv S a j with
      | none => rw [h1] at h; cases h
      | some q =>
        rw [h1] at h
        exact va_get X.1 X.2.1 (Ts := mALL) X.2.2.2.2.1 hin X.2.2.2.1 X.2.2.2.2.2.2.2.1 hP a (by rw [mW_at hlt, mE_obj hki]) hc j hj (X.2.2.2.2.1 _ hw) (fun _ z => z) (v := .ref (ad q)) (by rw [mF_at (hN ▸ hj), hI, h1]; rfl) hdg (hk _ _ _ _ h H locs ls hP hS hl)
  · cases h
def oPutI (ci j n : Nat) : MOp := fun k kr lv st S => match st with
  | .int x :: .ref a :: w => bif kO a ci then k n lv w (uI S a j x) else none
  | _ => none
theorem ta_oPutI (ci j n : Nat) : mTail (oPutI ci j n) := by
  intro k kr r lv st S h
  unfold oPutI at h ⊢
  split at h
  · rename_i x a w
    cases h0 : kO a ci with
    | false => rw [h0] at h; cases h
    | true => rw [h0] at h; exact Or.inl ⟨_, _, _, _, h, fun k' z => z⟩
  · cases h
theorem mW_putI {S : MS} {a ci j : Nat} {x : Int32} (hki : ki a = (3, ci)) (hj : j < nF ci) (hI : isI ci j = true) : (mW ad ca S).set a (ad a, .inr (ci, (mF ad S a ci).set j (.int x))) = mW ad ca (uI S a j x) := by
  have hlt := ki_lt hki (by decide)
  refine mW_set hlt ?_ (fun i hi => mE_oth (uI_oth hi) rfl)
  rw [mE_obj hki, mF_ext (S := S) (S' := uI S a j x) (v := .int x) hj (by rw [hI]; simp [uI]) (fun i hi => ⟨by simp [uI, hi], rfl⟩)]
theorem mW_putR {S : MS} {a ci j q : Nat} (hki : ki a = (3, ci)) (hj : j < nF ci) (hI : isI ci j = false) (hr : rT a j = none) : (mW ad ca S).set a (ad a, .inr (ci, (mF ad S a ci).set j (.ref (ad q)))) = mW ad ca (uR S a j (some q)) := by
  have hlt := ki_lt hki (by decide)
  refine mW_set hlt ?_ (fun i hi => mE_oth rfl (uR_oth hi))
  rw [mE_obj hki, mF_ext (S := S) (S' := uR S a j (some q)) (v := .ref (ad q)) hj (by rw [hI]; unfold rv; rw [hr]; simp [uR, va_rf]) (fun i hi => ⟨rfl, by unfold rv; simp [uR, hi]⟩)]
theorem s_putI (X : mX p s m args meth c R cc nL own ret A D ca ad nc ns d) {ci j idx N : Nat} {C : String} {T : u_T} (hc : vwCl[ci]? = some (C, T, N)) (hN : nF ci = N) (hin : ∀ w ∈ u_ws C T N, w ∈ mALL) (ty0 : Nat → FieldType) (hty : ∀ k, k < N → parseFieldDescriptor (T k).2.2.1 = some (ty0 k)) (hnm : ∀ a, a < N → ∀ b, b < N → a ≠ b → (T a).2.1 ≠ (T b).2.1) (hj : j < N) (hI : isI ci j = true) (hfin : (T j).2.2.2 = false) (hd : parseFieldDescriptor (T j).2.2.1 = some .int) (hw : Cond.fieldLink own idx (T j).1 (T j).2.1 (T j).2.2.1 ∈ mALL) (hdg : decode cc pc = .ok (.putfield idx, 3)) : mSnd (mAt p l e R s m args below meth c Q A D ca ad nc ns nL) J pc (oPutI ci j (pc + 3)) := by
  intro k kr r lv st S hk hr h H locs ls hP hS hl
  unfold oPutI at h
  split at h
  · rename_i x a w
    cases h0 : kO a ci with
    | false => rw [h0] at h; cases h
    | true =>
      rw [h0] at h
      have hki := kO_ki h0
      have hlt := ki_lt hki (by decide)
      refine va_put X.1 X.2.1 (Ts := mALL) X.2.2.2.2.1 hin ty0 hty hnm X.2.2.2.1 X.2.2.2.2.2.2.2.1 hP (mD_va X.2.2.2.2.2.2.2.2.1 ca S) hS a (by rw [mW_at hlt, mE_obj hki]) hc j hj (X.2.2.2.2.1 _ hw) (fun _ z => z) hfin hd (v := .int x) rfl rfl (by rw [mF_len]; exact hN ▸ hj) hdg (fun H1 locs1 hP1 _ hS1 => ?_)
      rw [mW_putI hki (hN ▸ hj) hI] at hP1
      exact hk _ _ _ _ h H1 locs1 ls hP1 hS1 hl
  · cases h
def oPutZ (ci j n : Nat) : MOp := fun k kr lv st S => match st with
  | .int x :: .ref a :: w => bif kO a ci then (if x = 0 ∨ x = 1 then k n lv w (uI S a j x) else none) else none
  | _ => none
theorem ta_oPutZ (ci j n : Nat) : mTail (oPutZ ci j n) := by
  intro k kr r lv st S h
  unfold oPutZ at h ⊢
  split at h
  · rename_i x a w
    cases h0 : kO a ci with
    | false => rw [h0] at h; cases h
    | true =>
      rw [h0] at h
      simp only [cond_true] at h ⊢
      split at h
      · rename_i hy
        simp only [if_pos hy]
        exact Or.inl ⟨_, _, _, _, h, fun k' z => z⟩
      · cases h
  · cases h
theorem s_putZ (X : mX p s m args meth c R cc nL own ret A D ca ad nc ns d) {ci j idx N : Nat} {C : String} {T : u_T} (hc : vwCl[ci]? = some (C, T, N)) (hN : nF ci = N) (hin : ∀ w ∈ u_ws C T N, w ∈ mALL) (ty0 : Nat → FieldType) (hty : ∀ k, k < N → parseFieldDescriptor (T k).2.2.1 = some (ty0 k)) (hnm : ∀ a, a < N → ∀ b, b < N → a ≠ b → (T a).2.1 ≠ (T b).2.1) (hj : j < N) (hI : isI ci j = true) (hfin : (T j).2.2.2 = false) (hd : parseFieldDescriptor (T j).2.2.1 = some .boolean) (hw : Cond.fieldLink own idx (T j).1 (T j).2.1 (T j).2.2.1 ∈ mALL) (hdg : decode cc pc = .ok (.putfield idx, 3)) : mSnd (mAt p l e R s m args below meth c Q A D ca ad nc ns nL) J pc (oPutZ ci j (pc + 3)) := by
  intro k kr r lv st S hk hr h H locs ls hP hS hl
  unfold oPutZ at h
  split at h
  · rename_i x a w
    cases h0 : kO a ci with
    | false => rw [h0] at h; cases h
    | true =>
      rw [h0] at h
      simp only [cond_true] at h
      split at h
      · rename_i hy
        have hki := kO_ki h0
        have hlt := ki_lt hki (by decide)
        refine va_put X.1 X.2.1 (Ts := mALL) X.2.2.2.2.1 hin ty0 hty hnm X.2.2.2.1 X.2.2.2.2.2.2.2.1 hP (mD_va X.2.2.2.2.2.2.2.2.1 ca S) hS a (by rw [mW_at hlt, mE_obj hki]) hc j hj (X.2.2.2.2.1 _ hw) (fun _ z => z) hfin hd (v := .int x) (by rcases hy with rfl | rfl <;> decide) (by rcases hy with rfl | rfl <;> decide) (by rw [mF_len]; exact hN ▸ hj) hdg (fun H1 locs1 hP1 _ hS1 => ?_)
        rw [mW_putI hki (hN ▸ hj) hI] at hP1
        exact hk _ _ _ _ h H1 locs1 ls hP1 hS1 hl
      · cases h
  · cases h
def oPutR (ci j n : Nat) : MOp := fun k kr lv st S => match st with
  | .ref q :: .ref a :: w => bif kO a ci && (rT a j).isNone then k n lv w (uR S a j (some q)) else none
  | _ => none
theorem ta_oPutR (ci j n : Nat) : mTail (oPutR ci j n) := by
  intro k kr r lv st S h
  unfold oPutR at h ⊢
  split at h
  · rename_i x a w
    cases h0 : (kO a ci && (rT a j).isNone) with
    | false => rw [h0] at h; cases h
    | true => rw [h0] at h; exact Or.inl ⟨_, _, _, _, h, fun k' z => z⟩
  · cases h
theorem s_putR (X : mX p s m args meth c R cc nL own ret A D ca ad nc ns d) {ci j idx N : Nat} {C : String} {T : u_T} (hc : vwCl[ci]? = some (C, T, N)) (hN : nF ci = N) (hin : ∀ w ∈ u_ws C T N, w ∈ mALL) (ty0 : Nat → FieldType) (hty : ∀ k, k < N → parseFieldDescriptor (T k).2.2.1 = some (ty0 k)) (hnm : ∀ a, a < N → ∀ b, b < N → a ≠ b → (T a).2.1 ≠ (T b).2.1) (hj : j < N) (hI : isI ci j = false) (hfin : (T j).2.2.2 = false) {ty : FieldType} (hd : parseFieldDescriptor (T j).2.2.1 = some ty) (hn1 : ∀ q, narrow ty (.ref q) = .ref q) (hf1 : ∀ q, fits ty (.ref q) = true) (hw : Cond.fieldLink own idx (T j).1 (T j).2.1 (T j).2.2.1 ∈ mALL) (hdg : decode cc pc = .ok (.putfield idx, 3)) : mSnd (mAt p l e R s m args below meth c Q A D ca ad nc ns nL) J pc (oPutR ci j (pc + 3)) := by
  intro k kr r lv st S hk hr h H locs ls hP hS hl
  unfold oPutR at h
  split at h
  · rename_i q a w
    cases h0 : (kO a ci && (rT a j).isNone) with
    | false => rw [h0] at h; cases h
    | true =>
      rw [h0] at h
      simp only [Bool.and_eq_true] at h0
      have hki := kO_ki h0.1
      have hlt := ki_lt hki (by decide)
      refine va_put X.1 X.2.1 (Ts := mALL) X.2.2.2.2.1 hin ty0 hty hnm X.2.2.2.1 X.2.2.2.2.2.2.2.1 hP (mD_va X.2.2.2.2.2.2.2.2.1 ca S) hS a (by rw [mW_at hlt, mE_obj hki]) hc j hj (X.2.2.2.2.1 _ hw) (fun _ z => z) hfin hd (v := .ref (ad q)) (hn1 _) (hf1 _) (by rw [mF_len]; exact hN ▸ hj) hdg (fun H1 locs1 hP1 _ hS1 => ?_)
      rw [mW_putR hki (hN ▸ hj) hI (Option.isNone_iff_eq_none.mp h0.2)] at hP1
      exact hk _ _ _ _ h H1 locs1 ls hP1 hS1 hl
  · cases h
def oIald (n : Nat) : MOp := fun k kr lv st S => match st with
  | .int i :: .ref a :: w => bif kA a then (if i < 0 ∨ (ki a).2 ≤ i.toNatClampNeg then none else k n lv (.int (S.1 a i.toNatClampNeg) :: w) S)
    else bif Nat.beq a 1000 then (if i < 0 ∨ 7 ≤ i.toNatClampNeg then none else k n lv (.int (aboveL.getD i.toNatClampNeg 0) :: w) S)
    else bif Nat.beq a 1001 then (if i < 0 ∨ 28 ≤ i.toNatClampNeg then none else k n lv (.int (bodiesL.getD i.toNatClampNeg 0) :: w) S) else none
  | _ => none
theorem ta_oIald (n : Nat) : mTail (oIald n) := by
  intro k kr r lv st S h
  unfold oIald at h ⊢
  split at h
  · rename_i i a w
    cases h0 : kA a with
    | true =>
      rw [h0] at h
      simp only [cond_true] at h ⊢
      split at h
      · cases h
      · rename_i hy
        simp only [if_neg hy]
        exact Or.inl ⟨_, _, _, _, h, fun k' z => z⟩
    | false =>
      rw [h0] at h
      simp only [cond_false] at h ⊢
      cases h1 : Nat.beq a 1000 with
      | true =>
        rw [h1] at h
        simp only [cond_true] at h ⊢
        split at h
        · cases h
        · rename_i hy
          simp only [if_neg hy]
          exact Or.inl ⟨_, _, _, _, h, fun k' z => z⟩
      | false =>
        rw [h1] at h
        simp only [cond_false] at h ⊢
        cases h2 : Nat.beq a 1001 with
        | true =>
          rw [h2] at h
          simp only [cond_true] at h ⊢
          split at h
          · cases h
          · rename_i hy
            simp only [if_neg hy]
            exact Or.inl ⟨_, _, _, _, h, fun k' z => z⟩
        | false => rw [h2] at h; cases h
  · cases h
theorem s_iaload (X : mX p s m args meth c R cc nL own ret A D ca ad nc ns d) (hdg : decode cc pc = .ok (.iaload, 1)) : mSnd (mAt p l e R s m args below meth c Q A D ca ad nc ns nL) J pc (oIald (pc + 1)) := by
  intro k kr r lv st S hk hr h H locs ls hP hS hl
  unfold oIald at h
  split at h
  · rename_i i a w
    cases h0 : kA a with
    | true =>
      rw [h0] at h
      simp only [cond_true] at h
      split at h
      · cases h
      · rename_i hy
        have hki := kA_ki h0
        have hlt := ki_lt hki (by decide)
        exact va_iald X.1 X.2.1 X.2.2.2.2.2.2.2.1 hP a 0 (by rw [mW_at hlt, mE_int hki]) rfl hy hdg (hk _ _ _ _ h H locs ls hP hS hl)
    | false =>
      rw [h0] at h
      simp only [cond_false] at h
      cases h1 : Nat.beq a 1000 with
      | true =>
        rw [h1] at h
        simp only [cond_true] at h
        split at h
        · cases h
        · rename_i hy
          have e := Nat.eq_of_beq_eq_true h1
          subst e
          exact va_ti X.1 X.2.1 X.2.2.2.2.2.2.2.2.2.2.1.2.1 hS hy rfl hdg (hk _ _ _ _ h H locs ls hP hS hl)
      | false =>
        rw [h1] at h
        simp only [cond_false] at h
        cases h2 : Nat.beq a 1001 with
        | true =>
          rw [h2] at h
          simp only [cond_true] at h
          split at h
          · cases h
          · rename_i hy
            have e := Nat.eq_of_beq_eq_true h2
            subst e
            exact va_ti X.1 X.2.1 X.2.2.2.2.2.2.2.2.2.2.1.2.2.2.1 hS hy rfl hdg (hk _ _ _ _ h H locs ls hP hS hl)
        | false => rw [h2] at h; cases h
  · cases h
def oIast (n : Nat) : MOp := fun k kr lv st S => match st with
  | .int x :: .int i :: .ref a :: w => bif kA a then (if i < 0 ∨ (ki a).2 ≤ i.toNatClampNeg then none else k n lv w (uI S a i.toNatClampNeg x)) else none
  | _ => none
theorem ta_oIast (n : Nat) : mTail (oIast n) := by
  intro k kr r lv st S h
  unfold oIast at h ⊢
  split at h
  · rename_i x i a w
    cases h0 : kA a with
    | true =>
      rw [h0] at h
      simp only [cond_true] at h ⊢
      split at h
      · cases h
      · rename_i hy
        simp only [if_neg hy]
        exact Or.inl ⟨_, _, _, _, h, fun k' z => z⟩
    | false => rw [h0] at h; cases h
  · cases h
theorem mW_iast {S : MS} {a i : Nat} {x : Int32} (h0 : kA a = true) : (mW ad ca S).set a (ad a, .inl (ca 0, (ki a).2, .inl (upd (S.1 a) i x))) = mW ad ca (uI S a i x) := by
  have hki := kA_ki h0
  have hlt := ki_lt hki (by decide)
  refine mW_set hlt ?_ (fun i hi => mE_oth (uI_oth hi) rfl)
  rw [mE_int hki]
  congr 4
  funext j
  simp [uI, upd]
theorem s_iastore (X : mX p s m args meth c R cc nL own ret A D ca ad nc ns d) (hdg : decode cc pc = .ok (.iastore, 1)) : mSnd (mAt p l e R s m args below meth c Q A D ca ad nc ns nL) J pc (oIast (pc + 1)) := by
  intro k kr r lv st S hk hr h H locs ls hP hS hl
  unfold oIast at h
  split at h
  · rename_i x i a w
    cases h0 : kA a with
    | true =>
      rw [h0] at h
      simp only [cond_true] at h
      split at h
      · cases h
      · rename_i hy
        have hki := kA_ki h0
        have hlt := ki_lt hki (by decide)
        refine va_iast X.1 X.2.1 X.2.2.2.2.2.2.2.1 hP (mD_va X.2.2.2.2.2.2.2.2.1 ca S) hS a 0 (by rw [mW_at hlt, mE_int hki]) rfl hy hdg (fun H1 locs1 hP1 _ hS1 => ?_)
        rw [mW_iast h0] at hP1
        exact hk _ _ _ _ h H1 locs1 ls hP1 hS1 hl
    | false => rw [h0] at h; cases h
  · cases h
def oAald (n : Nat) : MOp := fun k kr lv st S => match st with
  | .int i :: .ref a :: w => bif Nat.beq (ki a).1 1 || Nat.beq (ki a).1 2 then (if i < 0 ∨ (ki a).2 ≤ i.toNatClampNeg then none else (match rv S a i.toNatClampNeg with
    | some q => k n lv (.ref q :: w) S
    | none => none)) else none
  | _ => none
theorem ta_oAald (n : Nat) : mTail (oAald n) := by
  intro k kr r lv st S h
  unfold oAald at h ⊢
  split at h
  · rename_i i a w
    cases h0 : (Nat.beq (ki a).1 1 || Nat.beq (ki a).1 2) with
    | true =>
      rw [h0] at h
      simp only [cond_true] at h ⊢
      split at h
      · cases h
      · rename_i hy
        simp only [if_neg hy]
        cases h1 : rv S a i.toNatClampNeg with
        | none => rw [h1] at h; cases h
        | some q => rw [h1] at h; exact Or.inl ⟨_, _, _, _, h, fun k' z => z⟩
    | false => rw [h0] at h; cases h
  · cases h
theorem s_aaload (X : mX p s m args meth c R cc nL own ret A D ca ad nc ns d) (hdg : decode cc pc = .ok (.aaload, 1)) : mSnd (mAt p l e R s m args below meth c Q A D ca ad nc ns nL) J pc (oAald (pc + 1)) := by
  intro k kr r lv st S hk hr h H locs ls hP hS hl
  unfold oAald at h
  split at h
  · rename_i i a w
    cases h0 : (Nat.beq (ki a).1 1 || Nat.beq (ki a).1 2) with
    | true =>
      rw [h0] at h
      simp only [cond_true] at h
      split at h
      · cases h
      · rename_i hy
        cases h1 : rv S a i.toNatClampNeg with
        | none => rw [h1] at h; cases h
        | some q =>
          rw [h1] at h
          have hn := hk _ _ _ _ h H locs ls hP hS hl
          have ev : va_rf ((rv S a i.toNatClampNeg).map ad) = .ref (ad q) := by rw [h1]; rfl
          rcases Bool.or_eq_true_iff.mp h0 with h2 | h2
          · have hki : ki a = (1, (ki a).2) := Prod.ext (Nat.eq_of_beq_eq_true h2) rfl
            have hlt := ki_lt hki (by decide)
            refine va_aldq X.1 X.2.1 X.2.2.2.2.2.2.2.1 hP a 1 (by rw [mW_at hlt, mE_tx hki]) rfl hy hdg ?_
            rw [ev]
            exact hn
          · have hki : ki a = (2, (ki a).2) := Prod.ext (Nat.eq_of_beq_eq_true h2) rfl
            have hlt := ki_lt hki (by decide)
            refine va_aldq X.1 X.2.1 X.2.2.2.2.2.2.2.1 hP a 2 (by rw [mW_at hlt, mE_sh hki]) rfl hy hdg ?_
            rw [ev]
            exact hn
    | false => rw [h0] at h; cases h
  · cases h
def oAlen (n : Nat) : MOp := fun k kr lv st S => match st with
  | .ref a :: w => bif kA a then k n lv (.int (Int32.ofNat (ki a).2) :: w) S else bif Nat.beq a 1005 || Nat.beq a 1006 then k n lv (.int 3 :: w) S else none
  | _ => none
theorem ta_oAlen (n : Nat) : mTail (oAlen n) := by
  intro k kr r lv st S h
  unfold oAlen at h ⊢
  split at h
  · rename_i a w
    cases h0 : kA a with
    | true => rw [h0] at h; exact Or.inl ⟨_, _, _, _, h, fun k' z => z⟩
    | false =>
      rw [h0] at h
      simp only [cond_false] at h ⊢
      cases h1 : (Nat.beq a 1005 || Nat.beq a 1006) with
      | true => rw [h1] at h; exact Or.inl ⟨_, _, _, _, h, fun k' z => z⟩
      | false => rw [h1] at h; cases h
  · cases h
theorem s_arraylength (X : mX p s m args meth c R cc nL own ret A D ca ad nc ns d) (hdg : decode cc pc = .ok (.arraylength, 1)) : mSnd (mAt p l e R s m args below meth c Q A D ca ad nc ns nL) J pc (oAlen (pc + 1)) := by
  intro k kr r lv st S hk hr h H locs ls hP hS hl
  unfold oAlen at h
  split at h
  · rename_i a w
    cases h0 : kA a with
    | true =>
      rw [h0] at h
      have hki := kA_ki h0
      have hlt := ki_lt hki (by decide)
      exact va_alen X.1 X.2.1 X.2.2.2.2.2.2.2.1 hP a 0 (x := ((ki a).2, .inl (S.1 a))) (by rw [mW_at hlt, mE_int hki]) rfl rfl hdg (hk _ _ _ _ h H locs ls hP hS hl)
    | false =>
      rw [h0] at h
      simp only [cond_false] at h
      cases h1 : (Nat.beq a 1005 || Nat.beq a 1006) with
      | true =>
        rw [h1] at h
        have hn := hk _ _ _ _ h H locs ls hP hS hl
        have hs := X.2.2.2.2.2.2.2.2.2.2.1.2.2.2.2.2.1
        rcases Bool.or_eq_true_iff.mp h1 with h2 | h2
        · have e := Nat.eq_of_beq_eq_true h2
          subst e
          exact va_tlen X.1 X.2.1 (hs.1 0 (by decide)).2.2.2 hS rfl hdg hn
        · have e := Nat.eq_of_beq_eq_true h2
          subst e
          exact va_tlen X.1 X.2.1 (hs.1 1 (by decide)).2.2.2 hS rfl hdg hn
      | false => rw [h1] at h; cases h
  · cases h
def oBald (n : Nat) : MOp := fun k kr lv st S => match st with
  | .int i :: .ref a :: w => bif Nat.beq a 1005 then (if i < 0 ∨ 3 ≤ i.toNatClampNeg then none else k n lv (.int ((strB.getD 0 []).getD i.toNatClampNeg 0) :: w) S)
    else bif Nat.beq a 1006 then (if i < 0 ∨ 3 ≤ i.toNatClampNeg then none else k n lv (.int ((strB.getD 1 []).getD i.toNatClampNeg 0) :: w) S) else none
  | _ => none
theorem ta_oBald (n : Nat) : mTail (oBald n) := by
  intro k kr r lv st S h
  unfold oBald at h ⊢
  split at h
  · rename_i i a w
    cases h1 : Nat.beq a 1005 with
    | true =>
      rw [h1] at h
      simp only [cond_true] at h ⊢
      split at h
      · cases h
      · rename_i hy
        simp only [if_neg hy]
        exact Or.inl ⟨_, _, _, _, h, fun k' z => z⟩
    | false =>
      rw [h1] at h
      simp only [cond_false] at h ⊢
      cases h2 : Nat.beq a 1006 with
      | true =>
        rw [h2] at h
        simp only [cond_true] at h ⊢
        split at h
        · cases h
        · rename_i hy
          simp only [if_neg hy]
          exact Or.inl ⟨_, _, _, _, h, fun k' z => z⟩
      | false => rw [h2] at h; cases h
  · cases h
theorem s_baload (X : mX p s m args meth c R cc nL own ret A D ca ad nc ns d) (hdg : decode cc pc = .ok (.baload, 1)) : mSnd (mAt p l e R s m args below meth c Q A D ca ad nc ns nL) J pc (oBald (pc + 1)) := by
  intro k kr r lv st S hk hr h H locs ls hP hS hl
  have hs := X.2.2.2.2.2.2.2.2.2.2.1.2.2.2.2.2.1
  unfold oBald at h
  split at h
  · rename_i i a w
    cases h1 : Nat.beq a 1005 with
    | true =>
      rw [h1] at h
      simp only [cond_true] at h
      split at h
      · cases h
      · rename_i hy
        have e := Nat.eq_of_beq_eq_true h1
        subst e
        exact va_tb X.1 X.2.1 (hs.1 0 (by decide)).2.2.2 hS hy rfl hdg (hk _ _ _ _ h H locs ls hP hS hl)
    | false =>
      rw [h1] at h
      simp only [cond_false] at h
      cases h2 : Nat.beq a 1006 with
      | true =>
        rw [h2] at h
        simp only [cond_true] at h
        split at h
        · cases h
        · rename_i hy
          have e := Nat.eq_of_beq_eq_true h2
          subst e
          exact va_tb X.1 X.2.1 (hs.1 1 (by decide)).2.2.2 hS hy rfl hdg (hk _ _ _ _ h H locs ls hP hS hl)
      | false => rw [h2] at h; cases h
  · cases h
theorem s_statAbove (X : mX p s m args meth c R cc nL own ret A D ca ad nc ns d) {idx : Nat} (hw : Cond.fieldLink own idx "FountainTalk" "ABOVE" "[I" ∈ mALL) (hdg : decode cc pc = .ok (.getstatic idx, 3)) : mSnd (mAt p l e R s m args below meth c Q A D ca ad nc ns nL) J pc (oRef 1000 (pc + 3)) := by
  intro k kr r lv st S hk hr h H locs ls hP hS hl
  exact va_gets X.1 X.2.1 X.2.2.2.2.2.2.2.2.2.2.1.1 hS X.2.2.2.1 (X.2.2.2.2.1 _ hw) (fun _ z => z) hdg (hk _ _ _ _ h H locs ls hP hS hl)
theorem s_statBodies (X : mX p s m args meth c R cc nL own ret A D ca ad nc ns d) {idx : Nat} (hw : Cond.fieldLink own idx "FountainTalk$Speaker" "BODIES" "[I" ∈ mALL) (hdg : decode cc pc = .ok (.getstatic idx, 3)) : mSnd (mAt p l e R s m args below meth c Q A D ca ad nc ns nL) J pc (oRef 1001 (pc + 3)) := by
  intro k kr r lv st S hk hr h H locs ls hP hS hl
  exact va_gets X.1 X.2.1 X.2.2.2.2.2.2.2.2.2.2.1.2.2.1 hS X.2.2.2.1 (X.2.2.2.2.1 _ hw) (fun _ z => z) hdg (hk _ _ _ _ h H locs ls hP hS hl)
theorem s_statAboveN (X : mX p s m args meth c R cc nL own ret A D ca ad nc ns d) (hown : own = "FountainTalk$Speaker") (hdg : decode cc pc = .ok (.getstatic 45, 3)) : mSnd (mAt p l e R s m args below meth c Q A D ca ad nc ns nL) J pc (oRef 1000 (pc + 3)) := by
  intro k kr r lv st S hk hr h H locs ls hP hS hl
  subst hown
  exact va_getsN X.1 X.2.1 X.2.2.2.2.2.2.2.2.2.2.1.1 hS X.2.2.2.1 (va_Nw.use rfl X.2.2.2.2.2.2.2.2.2.2.1.2.2.2.2.2.2.2.2) (fun _ z => z) hdg (hk _ _ _ _ h H locs ls hP hS hl)
theorem s_statCompact (X : mX p s m args meth c R cc nL own ret A D ca ad nc ns d) {idx : Nat} (hw : Cond.fieldLink own idx "java/lang/String" "COMPACT_STRINGS" "Z" ∈ mALL) (hdg : decode cc pc = .ok (.getstatic idx, 3)) : mSnd (mAt p l e R s m args below meth c Q A D ca ad nc ns nL) J pc (oPush 1 (pc + 3)) := by
  intro k kr r lv st S hk hr h H locs ls hP hS hl
  exact va_gets X.1 X.2.1 X.2.2.2.2.2.2.2.2.2.2.1.2.2.2.2.1 hS X.2.2.2.1 (X.2.2.2.2.1 _ hw) (fun _ z => z) hdg (hk _ _ _ _ h H locs ls hP hS hl)
def oCoder (n : Nat) : MOp := fun k kr lv st S => match st with
  | .ref a :: w => bif Nat.beq a 1003 || Nat.beq a 1004 then k n lv (.int 0 :: w) S else none
  | _ => none
def oValue (n : Nat) : MOp := fun k kr lv st S => match st with
  | .ref a :: w => bif Nat.beq a 1003 || Nat.beq a 1004 then k n lv (.ref (a + 2) :: w) S else none
  | _ => none
theorem ta_oCoder (n : Nat) : mTail (oCoder n) := by
  intro k kr r lv st S h
  unfold oCoder at h ⊢
  split at h
  · rename_i a w
    cases h1 : (Nat.beq a 1003 || Nat.beq a 1004) with
    | true => rw [h1] at h; exact Or.inl ⟨_, _, _, _, h, fun k' z => z⟩
    | false => rw [h1] at h; cases h
  · cases h
theorem ta_oValue (n : Nat) : mTail (oValue n) := by
  intro k kr r lv st S h
  unfold oValue at h ⊢
  split at h
  · rename_i a w
    cases h1 : (Nat.beq a 1003 || Nat.beq a 1004) with
    | true => rw [h1] at h; exact Or.inl ⟨_, _, _, _, h, fun k' z => z⟩
    | false => rw [h1] at h; cases h
  · cases h
theorem s_str_coder (X : mX p s m args meth c R cc nL own ret A D ca ad nc ns d) {idx : Nat} (hw : Cond.fieldLink own idx "java/lang/String" "coder" "B" ∈ mALL) (hdg : decode cc pc = .ok (.getfield idx, 3)) : mSnd (mAt p l e R s m args below meth c Q A D ca ad nc ns nL) J pc (oCoder (pc + 3)) := by
  intro k kr r lv st S hk hr h H locs ls hP hS hl
  have hs := X.2.2.2.2.2.2.2.2.2.2.1.2.2.2.2.2.1
  unfold oCoder at h
  split at h
  · rename_i a w
    cases h1 : (Nat.beq a 1003 || Nat.beq a 1004) with
    | true =>
      rw [h1] at h
      have hn := hk _ _ _ _ h H locs ls hP hS hl
      rcases Bool.or_eq_true_iff.mp h1 with h2 | h2
      · have e := Nat.eq_of_beq_eq_true h2
        subst e
        exact vk_getf X.1 X.2.1 (hs.1 0 (by decide)).2.1 hS X.2.2.2.1 (X.2.2.2.2.1 _ hw) (fun _ z => z) hdg hn
      · have e := Nat.eq_of_beq_eq_true h2
        subst e
        exact vk_getf X.1 X.2.1 (hs.1 1 (by decide)).2.1 hS X.2.2.2.1 (X.2.2.2.2.1 _ hw) (fun _ z => z) hdg hn
    | false => rw [h1] at h; cases h
  · cases h
theorem s_str_value (X : mX p s m args meth c R cc nL own ret A D ca ad nc ns d) {idx : Nat} (hw : Cond.fieldLink own idx "java/lang/String" "value" "[B" ∈ mALL) (hdg : decode cc pc = .ok (.getfield idx, 3)) : mSnd (mAt p l e R s m args below meth c Q A D ca ad nc ns nL) J pc (oValue (pc + 3)) := by
  intro k kr r lv st S hk hr h H locs ls hP hS hl
  have hs := X.2.2.2.2.2.2.2.2.2.2.1.2.2.2.2.2.1
  unfold oValue at h
  split at h
  · rename_i a w
    cases h1 : (Nat.beq a 1003 || Nat.beq a 1004) with
    | true =>
      rw [h1] at h
      have hn := hk _ _ _ _ h H locs ls hP hS hl
      rcases Bool.or_eq_true_iff.mp h1 with h2 | h2
      · have e := Nat.eq_of_beq_eq_true h2
        subst e
        exact vk_getf X.1 X.2.1 (hs.1 0 (by decide)).2.2.1 hS X.2.2.2.1 (X.2.2.2.2.1 _ hw) (fun _ z => z) hdg hn
      · have e := Nat.eq_of_beq_eq_true h2
        subst e
        exact vk_getf X.1 X.2.1 (hs.1 1 (by decide)).2.2.1 hS X.2.2.2.1 (X.2.2.2.2.1 _ hw) (fun _ z => z) hdg hn
    | false => rw [h1] at h; cases h
  · cases h
def oMin (n : Nat) : MOp := fun k kr lv st S => match st with
  | .int y :: .int x :: w => bif Nat.ble (mcats w) 8 then k n lv (.int (if y < x then y else x) :: w) S else none
  | _ => none
theorem ta_oMin (n : Nat) : mTail (oMin n) := by
  intro k kr r lv st S h
  unfold oMin at h ⊢
  split at h
  · rename_i y x w
    cases h1 : Nat.ble (mcats w) 8 with
    | true => rw [h1] at h; exact Or.inl ⟨_, _, _, _, h, fun k' z => z⟩
    | false => rw [h1] at h; cases h
  · cases h
theorem s_min (X : mX p s m args meth c R cc nL own ret A D ca ad nc ns d) {idx : Nat} (hw : Cond.methodLink own idx Lib.Math.min.name ∈ mALL) (hw1 : Cond.static Lib.Math.min.name ∈ mALL) (hw2 : Cond.initialized "java/lang/Math" ∈ mALL) (hw3 : Cond.code Lib.Math.min.name Lib.Math.min.code 2 (some .int) ∈ mALL) (hdg : decode cc pc = .ok (.invokestatic idx, 3)) : mSnd (mAt p l e R s m args below meth c Q A D ca ad nc ns nL) J pc (oMin (pc + 3)) := by
  intro k kr r lv st S hk hr h H locs ls hP hS hl
  unfold oMin at h
  split at h
  · rename_i y x w
    cases h1 : Nat.ble (mcats w) 8 with
    | true =>
      rw [h1] at h
      have h8 := Nat.le_of_ble_eq_true h1
      have f1 := X.2.2.2.2.2.2.2.2.2.2.2.1
      have f2 := X.2.2.2.2.2.2.2.2.2.2.2.2.1
      exact va_mmin X.1 X.2.1 (X.2.2.1.trans hl.1.symm) X.2.2.2.1 (X.2.2.2.2.1 _ hw) (X.2.2.2.2.1 _ hw1) (X.2.2.2.2.1 _ hw2) (X.2.2.2.2.1 _ hw3) (by omega) (by rw [mcats_eq]; omega) X.2.2.2.2.2.2.2.2.2.2.2.2.2.1 X.2.2.2.2.2.2.2.2.2.2.2.2.2.2 hdg (hk _ _ _ _ h H locs ls hP hS hl)
    | false => rw [h1] at h; cases h
  · cases h
def oMax (n : Nat) : MOp := fun k kr lv st S => match st with
  | .int y :: .int x :: w => bif Nat.ble (mcats w) 8 then k n lv (.int (if x < y then y else x) :: w) S else none
  | _ => none
theorem ta_oMax (n : Nat) : mTail (oMax n) := by
  intro k kr r lv st S h
  unfold oMax at h ⊢
  split at h
  · rename_i y x w
    cases h1 : Nat.ble (mcats w) 8 with
    | true => rw [h1] at h; exact Or.inl ⟨_, _, _, _, h, fun k' z => z⟩
    | false => rw [h1] at h; cases h
  · cases h
theorem s_max (X : mX p s m args meth c R cc nL own ret A D ca ad nc ns d) {idx : Nat} (hw : Cond.methodLink own idx Lib.Math.max.name ∈ mALL) (hw1 : Cond.static Lib.Math.max.name ∈ mALL) (hw2 : Cond.initialized "java/lang/Math" ∈ mALL) (hw3 : Cond.code Lib.Math.max.name Lib.Math.max.code 2 (some .int) ∈ mALL) (hdg : decode cc pc = .ok (.invokestatic idx, 3)) : mSnd (mAt p l e R s m args below meth c Q A D ca ad nc ns nL) J pc (oMax (pc + 3)) := by
  intro k kr r lv st S hk hr h H locs ls hP hS hl
  unfold oMax at h
  split at h
  · rename_i y x w
    cases h1 : Nat.ble (mcats w) 8 with
    | true =>
      rw [h1] at h
      have h8 := Nat.le_of_ble_eq_true h1
      have f1 := X.2.2.2.2.2.2.2.2.2.2.2.1
      have f2 := X.2.2.2.2.2.2.2.2.2.2.2.2.1
      exact va_mmax X.1 X.2.1 (X.2.2.1.trans hl.1.symm) X.2.2.2.1 (X.2.2.2.2.1 _ hw) (X.2.2.2.2.1 _ hw1) (X.2.2.2.2.1 _ hw2) (X.2.2.2.2.1 _ hw3) (by omega) (by rw [mcats_eq]; omega) X.2.2.2.2.2.2.2.2.2.2.2.2.2.1 X.2.2.2.2.2.2.2.2.2.2.2.2.2.2 hdg (hk _ _ _ _ h H locs ls hP hS hl)
    | false => rw [h1] at h; cases h
  · cases h
def oCopy (n : Nat) : MOp := fun k kr lv st S => match st with
  | .int c0 :: .int dp :: .ref b :: .int sp :: .ref a :: w => bif kA a && kA b && Nat.ble (mcats w) 8 then (if sp < 0 ∨ dp < 0 ∨ c0 < 0 ∨ (ki a).2 < sp.toNatClampNeg + c0.toNatClampNeg ∨ (ki b).2 < dp.toNatClampNeg + c0.toNatClampNeg then none else k n lv w (uC S a b sp.toNatClampNeg dp.toNatClampNeg c0.toNatClampNeg)) else none
  | _ => none
theorem ta_oCopy (n : Nat) : mTail (oCopy n) := by
  intro k kr r lv st S h
  unfold oCopy at h ⊢
  split at h
  · rename_i c0 dp b sp a w
    cases h0 : (kA a && kA b && Nat.ble (mcats w) 8) with
    | true =>
      rw [h0] at h
      simp only [cond_true] at h ⊢
      split at h
      · cases h
      · rename_i hy
        simp only [if_neg hy]
        exact Or.inl ⟨_, _, _, _, h, fun k' z => z⟩
    | false => rw [h0] at h; cases h
  · cases h
theorem mW_copy {S : MS} {a b sp dp n : Nat} (h0 : kA b = true) : (mW ad ca S).set b (ad b, .inl (ca 0, (ki b).2, .inl (va_cpy (S.1 a) (S.1 b) sp dp n))) = mW ad ca (uC S a b sp dp n) := by
  have hki := kA_ki h0
  have hlt := ki_lt hki (by decide)
  refine mW_set hlt ?_ (fun i hi => mE_oth (uC_oth hi) rfl)
  rw [mE_int hki]
  congr 4
  funext j
  simp [uC]
theorem s_copy (X : mX p s m args meth c R cc nL own ret A D ca ad nc ns d) {idx : Nat} (hw : Cond.methodLink own idx arraycopyName ∈ mALL) (hw1 : Cond.native arraycopyName ∈ mALL) (hw2 : Cond.static arraycopyName ∈ mALL) (hw3 : Cond.initialized "java/lang/System" ∈ mALL) (hdg : decode cc pc = .ok (.invokestatic idx, 3)) : mSnd (mAt p l e R s m args below meth c Q A D ca ad nc ns nL) J pc (oCopy (pc + 3)) := by
  intro k kr r lv st S hk hr h H locs ls hP hS hl
  unfold oCopy at h
  split at h
  · rename_i c0 dp b sp a w
    cases h0 : (kA a && kA b && Nat.ble (mcats w) 8) with
    | true =>
      rw [h0] at h
      simp only [cond_true] at h
      simp only [Bool.and_eq_true] at h0
      split at h
      · cases h
      · rename_i hy
        simp only [not_or, Nat.not_lt] at hy
        obtain ⟨y1, y2, y3, y4, y5⟩ := hy
        have h8 := Nat.le_of_ble_eq_true h0.2
        have f1 := X.2.2.2.2.2.2.2.2.2.2.2.1
        have f2 := X.2.2.2.2.2.2.2.2.2.2.2.2.1
        have ka := kA_ki h0.1.1
        have hnf : nativeFrameWords "java/lang/System" "arraycopy" 5 ≤ 20 := by decide +kernel
        have kb := kA_ki h0.1.2
        refine va_copyi X.1 X.2.1 (X.2.2.1.trans hl.1.symm) X.2.2.2.1 (X.2.2.2.2.1 _ hw) (X.2.2.2.2.1 _ hw1) (X.2.2.2.2.1 _ hw2) (X.2.2.2.2.1 _ hw3) X.2.2.2.2.2.2.2.1 hP (mD_va X.2.2.2.2.2.2.2.2.1 ca S) hS a b 0 0 (by rw [mW_at (ki_lt ka (by decide)), mE_int ka]) (by rw [mW_at (ki_lt kb (by decide)), mE_int kb]) rfl rfl rfl y1 y2 y3 y4 y5 (fun _ _ => rfl) (by omega) (by rw [mcats_eq]; omega) hdg (fun H1 locs1 hP1 _ hS1 => ?_)
        rw [mW_copy h0.1.2] at hP1
        exact hk _ _ _ _ h H1 locs1 ls hP1 hS1 hl
    | false => rw [h0] at h; cases h
  · cases h
def bI (o : Option MR) (f : Int32 → MS → Option MR) : Option MR := match o with
  | some (some (.int x), S) => f x S
  | _ => none
def bV (o : Option MR) (f : MS → Option MR) : Option MR := match o with
  | some (none, S) => f S
  | _ => none
def mbind (b : Bool) (o : Option MR) (f : List Value → MS → Option MR) : Option MR := bif b then bI o (fun x S => f [.int x] S) else bV o (fun S => f [] S)
theorem mbind_ex {b : Bool} {o : Option MR} {f : List Value → MS → Option MR} {r : MR} (h : mbind b o f = some r) : ∃ q, o = some q ∧ f q.1.toList q.2 = some r := by
  unfold mbind at h
  cases b with
  | true =>
    simp only [cond_true] at h
    unfold bI at h
    split at h
    · exact ⟨_, rfl, h⟩
    · cases h
  | false =>
    simp only [cond_false] at h
    unfold bV at h
    split at h
    · exact ⟨_, rfl, h⟩
    · cases h
theorem mbind_tail {b : Bool} {o : Option MR} {f : List Value → MS → Option MR} {r : MR} (h : mbind b o f = some r) : ∃ q : MR, f q.1.toList q.2 = some r ∧ ∀ g : List Value → MS → Option MR, g q.1.toList q.2 = some r → mbind b o g = some r := by
  unfold mbind at h ⊢
  cases b with
  | true =>
    simp only [cond_true] at h ⊢
    unfold bI at h ⊢
    split at h
    · exact ⟨(some (.int _), _), h, fun g z => z⟩
    · cases h
  | false =>
    simp only [cond_false] at h ⊢
    unfold bV at h ⊢
    split at h
    · exact ⟨(none, _), h, fun g z => z⟩
    · cases h
/-- behind a call, by its contract -/
theorem m_back {H : Heap} {locs : List Loc} {ls : Array Slot} {st0 rest : List Value} {sz : Nat} {r1 : MR} {aa : Array Value} {lv : ML} (X : mX p s m args meth c R cc nL own ret A D ca ad nc ns d) (hsz : H.size = sz)
    (hrun : va_Run p l e R s m args below meth c H locs nc ns 0 0 (F0 m pc ls st0) (tS ad rest) (mQc D ca ad r1 sz aa) (mA ad sz)) (hS : va_S A s.heap H locs) (hl : lv_has ls nL (tL ad lv))
    (kk : mAt p l e R s m args below meth c Q A D ca ad nc ns nL (pc + 3) lv (r1.1.toList ++ rest) r1.2) : W p l e R s m args below meth c H locs nc ns Q (F0 m pc ls st0) := by
  subst hsz
  have hAA : ∀ q, q < H.size → mA ad H.size q → A q := by
    intro q h1 h2
    rcases h2 with ⟨k, hk, rfl⟩ | h2
    · exact X.2.2.2.2.2.2.2.2.1.2 k hk
    · omega
  have hAf : ∀ q, mA ad H.size q → A q := by
    intro q h2
    rcases h2 with ⟨k, hk, rfl⟩ | h2
    · exact X.2.2.2.2.2.2.2.2.1.2 k hk
    · exact X.2.2.2.2.2.2.2.2.2.1 q (Nat.le_trans hS.1 h2)
  intro T hT Y
  obtain ⟨v, st₀, t, T', L, h0, X', hL, e1, e2, ⟨hv, hP1, hz, hk⟩, stp⟩ := hrun T hT Y
  rw [h0] at hz hk
  have hv : v = r1.1.map (tV ad) := Outcome.returned.inj hv
  subst hv
  have hS' : va_S A s.heap T'.heap (locs ++ L) := ⟨Nat.le_trans hS.1 (by rw [e1]; exact hz), fun q h1 h2 => by rw [e1, hk q (Nat.lt_of_lt_of_le h1 hS.1) (fun z => h2 (hAA q (Nat.lt_of_lt_of_le h1 hS.1) z))]; exact hS.2.1 q h1 h2, fun q hq => by
      rcases List.mem_append.mp hq with h | h
      · exact hS.2.2 q h
      · exact hAf _ (hL q h)⟩
  obtain ⟨t2, a1, b1⟩ := kk T'.heap (locs ++ L) ls (by rw [e1]; exact hP1) hS' hl T' rfl X'
  refine ⟨t2, stp t2 ?_, b1⟩
  have e3 : tS ad (r1.1.toList ++ rest) = (r1.1.map (tV ad)).toList ++ tS ad rest := by
    obtain ⟨o, w⟩ := r1
    cases o <;> rfl
  rw [e3] at a1
  exact a1
/-- what a callee may take -/
theorem m_pre {H : Heap} {locs : List Loc} {as : List Value} {S : MS} (X : mX p s m args meth c R cc nL own ret A D ca ad nc ns d) (hP : va_P D vwCl (mW ad ca S) H) (hS : va_S A s.heap H locs) : ∀ U : State, U.heap = H → s.WarmedH U.vm → mPc D ca ad as S H.size (tS ad as).toArray U := by
  intro U hU hW
  have hAA : ∀ q, q < H.size → mA ad H.size q → A q := by
    intro q h1 h2
    rcases h2 with ⟨k, hk, rfl⟩ | h2
    · exact X.2.2.2.2.2.2.2.2.1.2 k hk
    · omega
  refine ⟨rfl, by rw [hU], by rw [hU]; exact hP, va_K.moved hW.alike X.2.2.2.2.2.2.2.1, ⟨X.2.2.2.2.2.2.2.2.1.1, fun i hi => Or.inl ⟨i, hi, rfl⟩⟩, ?_⟩
  rw [hU]
  exact mC_call X.2.2.2.2.2.2.2.2.2.2.1 hW (fun a h1 h2 => hS.2.1 a h1 h2) hAA
def oCallV (b0 : Bool) (F : List Value → MS → Option MR) (ci na n : Nat) : MOp := fun k kr lv st S => match st.drop na with
  | .ref b :: w => bif kO b ci && Nat.ble (mcats w) 8 then mbind b0 (F (.ref b :: (st.take na).reverse) S) (fun u S1 => k n lv (u ++ w) S1) else none
  | _ => none
def oCallS (b0 : Bool) (F : List Value → MS → Option MR) (na n : Nat) : MOp := fun k kr lv st S => bif Nat.ble na st.length && Nat.ble (mcats (st.drop na)) 8 then mbind b0 (F (st.take na).reverse S) (fun u S1 => k n lv (u ++ st.drop na) S1) else none
def oCallK (b0 : Bool) (F : List Value → MS → Option MR) (na n : Nat) : MOp := fun k kr lv st S => match st.drop na with
  | .ref b :: w => bif (Nat.beq b 1003 || Nat.beq b 1004) && Nat.ble (mcats w) 8 then mbind b0 (F (.ref b :: (st.take na).reverse) S) (fun u S1 => k n lv (u ++ w) S1) else none
  | _ => none
theorem ta_oCallV (b0 : Bool) (F : List Value → MS → Option MR) (ci na n : Nat) : mTail (oCallV b0 F ci na n) := by
  intro k kr r lv st S h
  unfold oCallV at h ⊢
  split at h
  · rename_i b w he
    cases h0 : (kO b ci && Nat.ble (mcats w) 8) with
    | false => rw [h0] at h; cases h
    | true =>
      rw [h0] at h
      simp only [cond_true] at h ⊢
      obtain ⟨q, h2, h3⟩ := mbind_tail h
      exact Or.inl ⟨_, _, _, _, h2, fun k' z => h3 _ z⟩
  · cases h
theorem ta_oCallK (b0 : Bool) (F : List Value → MS → Option MR) (na n : Nat) : mTail (oCallK b0 F na n) := by
  intro k kr r lv st S h
  unfold oCallK at h ⊢
  split at h
  · rename_i b w he
    cases h0 : ((Nat.beq b 1003 || Nat.beq b 1004) && Nat.ble (mcats w) 8) with
    | false => rw [h0] at h; cases h
    | true =>
      rw [h0] at h
      simp only [cond_true] at h ⊢
      obtain ⟨q, h2, h3⟩ := mbind_tail h
      exact Or.inl ⟨_, _, _, _, h2, fun k' z => h3 _ z⟩
  · cases h
theorem ta_oCallS (b0 : Bool) (F : List Value → MS → Option MR) (na n : Nat) : mTail (oCallS b0 F na n) := by
  intro k kr r lv st S h
  unfold oCallS at h ⊢
  cases h0 : (Nat.ble na st.length && Nat.ble (mcats (st.drop na)) 8) with
  | false => rw [h0] at h; cases h
  | true =>
    rw [h0] at h
    simp only [cond_true] at h ⊢
    obtain ⟨q, h2, h3⟩ := mbind_tail h
    exact Or.inl ⟨_, _, _, _, h2, fun k' z => h3 _ z⟩
theorem m_args {na : Nat} {st w : List Value} {b : Nat} (he : st.drop na = .ref b :: w) : tS ad st = (tS ad (st.take na).reverse).reverse ++ .ref (ad b) :: tS ad w ∧ (tS ad (st.take na).reverse).length = na := by
  have h1 : st.length - na = w.length + 1 := by
    have := congrArg List.length he
    rw [List.length_drop] at this
    exact this
  have h2 : st = st.take na ++ .ref b :: w := by rw [← he, List.take_append_drop]
  constructor
  · rw [← List.map_reverse, List.reverse_reverse]
    show tS ad st = tS ad (st.take na) ++ tS ad (.ref b :: w)
    rw [← List.map_append, ← h2]
  · rw [List.length_map, List.length_reverse, List.length_take]
    omega
theorem s_callV (X : mX p s m args meth c R cc nL own ret A D ca ad nc ns d) {y : MethodName} {bytes : ByteArray} {maxL : Nat} {rt : Option FieldType} {idx na : Nat} {b0 : Bool} {F : List Value → MS → Option MR} (hF : ∀ as S r, F as S = some r → mCon l D ca ad d y bytes maxL rt as S r) (hw0 : Cond.code y bytes maxL rt ∈ mALL) (hw1 : Cond.methodLink own idx y ∈ mALL) {ci : Nat} {C : String} {T : u_T} {N : Nat} (hc : vwCl[ci]? = some (C, T, N)) (hw2 : Cond.instanceMethod y ∈ mALL) (hw3 : Cond.selects C y y ∈ mALL) (hw4 : Cond.initialized C ∈ mALL) (hd : y.cls = C ∧ y.cls ≠ "java/lang/invoke/MethodHandle" ∧ y.cls ≠ "java/lang/invoke/VarHandle" ∧ (parseMethodDescriptor y.desc).map (fun d => d.parameters.length) = some na) (hm : maxL ≤ 20) (hdg : decode cc pc = .ok (.invokevirtual idx, 3)) : mSnd (mAt p l e R s m args below meth c Q A D ca ad nc ns nL) J pc (oCallV b0 F ci na (pc + 3)) := by
  intro k kr r lv st S hk hr h H locs ls hP hS hl
  unfold oCallV at h
  split at h
  · rename_i b w he
    cases h0 : (kO b ci && Nat.ble (mcats w) 8) with
    | false => rw [h0] at h; cases h
    | true =>
      rw [h0] at h
      simp only [cond_true] at h
      simp only [Bool.and_eq_true] at h0
      obtain ⟨q, h1, h⟩ := mbind_ex h
      · have hki := kO_ki h0.1
        have hlt := ki_lt hki (by decide)
        have h8 := Nat.le_of_ble_eq_true h0.2
        have f1 := X.2.2.2.2.2.2.2.2.2.2.2.1
        have f2 := X.2.2.2.2.2.2.2.2.2.2.2.2.1
        obtain ⟨a1, a2⟩ := m_args (ad := ad) he
        refine m_back X rfl (va_runV (As := tS ad (st.take na).reverse) (n := na) (b := ad b) (mc := 0) (ms := 0) ⟨X.1, X.2.1, X.2.2.1, X.2.2.2.1, X.2.2.2.2.1⟩ (hF _ _ _ h1 H.size) (cwV na X.2.2.2.2.1 (good_mALL ?_) rfl rfl rfl hd ⟨?_, ?_⟩) ⟨mPc_fb, va_recv (q0 := b) X.2.2.2.2.2.2.2.1 hP hc (by rw [mW_at hlt, mE_obj hki]), fun U hU hW => m_pre X hP hS U hU hW⟩ rfl a2 hl.1 a1 (by show 2 * 0 + _ ≤ 8; rw [mcats_eq]; omega) hdg ⟨X.2.2.2.2.2.2.2.2.2.2.2.2.2.1, X.2.2.2.2.2.2.2.2.2.2.2.2.2.2⟩) hS hl (hk _ _ _ _ h)
        · intro x hx
          unfold wsV at hx
          rcases List.mem_append.mp hx with hx | hx
          · simp only [List.mem_cons, List.not_mem_nil, or_false] at hx
            rcases hx with rfl | rfl | rfl | rfl
            · exact hw1
            · exact hw2
            · exact hw3
            · exact hw4
          · rcases List.mem_cons.mp hx with rfl | hx
            · exact hw0
            · exact hx
        · show d + 1 + 1 ≤ R.frames
          exact f1
        · show 8 + (maxL + 11) + 50 * (d + 1) ≤ R.locals
          omega
  · cases h
theorem s_callK (X : mX p s m args meth c R cc nL own ret A D ca ad nc ns d) {y : MethodName} {bytes : ByteArray} {maxL : Nat} {rt : Option FieldType} {idx na : Nat} {b0 : Bool} {F : List Value → MS → Option MR} (hF : ∀ as S r, F as S = some r → mCon l D ca ad d y bytes maxL rt as S r) (hw0 : Cond.code y bytes maxL rt ∈ mALL) (hw1 : Cond.methodLink own idx y ∈ mALL) (hw2 : Cond.instanceMethod y ∈ mALL) (hw3 : Cond.selects "java/lang/String" y y ∈ mALL) (hw4 : Cond.initialized "java/lang/String" ∈ mALL) (hd : y.cls = "java/lang/String" ∧ y.cls ≠ "java/lang/invoke/MethodHandle" ∧ y.cls ≠ "java/lang/invoke/VarHandle" ∧ (parseMethodDescriptor y.desc).map (fun d => d.parameters.length) = some na) (hm : maxL ≤ 20) (hdg : decode cc pc = .ok (.invokevirtual idx, 3)) : mSnd (mAt p l e R s m args below meth c Q A D ca ad nc ns nL) J pc (oCallK b0 F na (pc + 3)) := by
  intro k kr r lv st S hk hr h H locs ls hP hS hl
  have hs := X.2.2.2.2.2.2.2.2.2.2.1.2.2.2.2.2.1
  unfold oCallK at h
  split at h
  · rename_i b w he
    cases h0 : ((Nat.beq b 1003 || Nat.beq b 1004) && Nat.ble (mcats w) 8) with
    | false => rw [h0] at h; cases h
    | true =>
      rw [h0] at h
      simp only [cond_true] at h
      simp only [Bool.and_eq_true] at h0
      obtain ⟨q, h1, h⟩ := mbind_ex h
      · have h8 := Nat.le_of_ble_eq_true h0.2
        have f1 := X.2.2.2.2.2.2.2.2.2.2.2.1
        have f2 := X.2.2.2.2.2.2.2.2.2.2.2.2.1
        obtain ⟨a1, a2⟩ := m_args (ad := ad) he
        have hrc : ∃ cell : Cell, H[ad b]? = some cell ∧ cell.vm.isStatics = false ∧ s.vm.findClass "java/lang/String" = some cell.cls := by
          rcases Bool.or_eq_true_iff.mp h0.1 with h2 | h2
          · have e := Nat.eq_of_beq_eq_true h2
            subst e
            exact vk_recv (i := 0) hs (by decide) hS
          · have e := Nat.eq_of_beq_eq_true h2
            subst e
            exact vk_recv (i := 1) hs (by decide) hS
        refine m_back X rfl (va_runV (As := tS ad (st.take na).reverse) (n := na) (b := ad b) (mc := 0) (ms := 0) ⟨X.1, X.2.1, X.2.2.1, X.2.2.2.1, X.2.2.2.2.1⟩ (hF _ _ _ h1 H.size) (cwV na X.2.2.2.2.1 (good_mALL ?_) rfl rfl rfl hd ⟨?_, ?_⟩) ⟨mPc_fb, hrc, fun U hU hW => m_pre X hP hS U hU hW⟩ rfl a2 hl.1 a1 (by show 2 * 0 + _ ≤ 8; rw [mcats_eq]; omega) hdg ⟨X.2.2.2.2.2.2.2.2.2.2.2.2.2.1, X.2.2.2.2.2.2.2.2.2.2.2.2.2.2⟩) hS hl (hk _ _ _ _ h)
        · intro x hx
          unfold wsV at hx
          rcases List.mem_append.mp hx with hx | hx
          · simp only [List.mem_cons, List.not_mem_nil, or_false] at hx
            rcases hx with rfl | rfl | rfl | rfl
            · exact hw1
            · exact hw2
            · exact hw3
            · exact hw4
          · rcases List.mem_cons.mp hx with rfl | hx
            · exact hw0
            · exact hx
        · show d + 1 + 1 ≤ R.frames
          exact f1
        · show 8 + (maxL + 11) + 50 * (d + 1) ≤ R.locals
          omega
  · cases h
theorem s_callS (X : mX p s m args meth c R cc nL own ret A D ca ad nc ns d) {y : MethodName} {bytes : ByteArray} {maxL : Nat} {rt : Option FieldType} {idx na : Nat} {b0 : Bool} {F : List Value → MS → Option MR} (hF : ∀ as S r, F as S = some r → mCon l D ca ad d y bytes maxL rt as S r) (hw0 : Cond.code y bytes maxL rt ∈ mALL) (hw1 : Cond.methodLink own idx y ∈ mALL) (hw2 : Cond.static y ∈ mALL) (hw4 : Cond.initialized y.cls ∈ mALL) (hd : y.cls ≠ "java/lang/invoke/MethodHandle" ∧ y.cls ≠ "java/lang/invoke/VarHandle" ∧ (parseMethodDescriptor y.desc).map (fun d => d.parameters.length) = some na) (hm : maxL ≤ 20) (hdg : decode cc pc = .ok (.invokestatic idx, 3)) : mSnd (mAt p l e R s m args below meth c Q A D ca ad nc ns nL) J pc (oCallS b0 F na (pc + 3)) := by
  intro k kr r lv st S hk hr h H locs ls hP hS hl
  unfold oCallS at h
  cases h0 : (Nat.ble na st.length && Nat.ble (mcats (st.drop na)) 8) with
  | false => rw [h0] at h; cases h
  | true =>
    rw [h0] at h
    simp only [cond_true] at h
    simp only [Bool.and_eq_true] at h0
    obtain ⟨q, h1, h⟩ := mbind_ex h
    · have h7 := Nat.le_of_ble_eq_true h0.1
      have h8 := Nat.le_of_ble_eq_true h0.2
      have f1 := X.2.2.2.2.2.2.2.2.2.2.2.1
      have f2 := X.2.2.2.2.2.2.2.2.2.2.2.2.1
      have a2 : (tS ad (st.take na).reverse).length = na := by
        rw [List.length_map, List.length_reverse, List.length_take]
        omega
      have a1 : tS ad st = (tS ad (st.take na).reverse).reverse ++ tS ad (st.drop na) := by
        rw [← List.map_reverse, List.reverse_reverse, ← List.map_append, List.take_append_drop]
      refine m_back X rfl (va_runS (As := tS ad (st.take na).reverse) (n := na) (mc := 0) (ms := 0) ⟨X.1, X.2.1, X.2.2.1, X.2.2.2.1, X.2.2.2.2.1⟩ (hF _ _ _ h1 H.size) ⟨callB_of na X.2.2.2.2.1 (good_mALL ?_) rfl rfl rfl (X.2.2.2.2.1 _ hw4) (X.2.2.2.2.1 _ hw1) hd ⟨?_, ?_⟩, X.2.2.2.2.1 _ hw2⟩ ⟨mPc_fb, fun U hU hW => m_pre X hP hS U hU hW⟩ rfl a2 hl.1 a1 (by show 2 * 0 + _ ≤ 8; rw [mcats_eq]; omega) hdg ⟨X.2.2.2.2.2.2.2.2.2.2.2.2.2.1, X.2.2.2.2.2.2.2.2.2.2.2.2.2.2⟩) hS hl (hk _ _ _ _ h)
      · intro x hx
        rcases List.mem_cons.mp hx with rfl | hx
        · exact hw0
        · exact hx
      · show d + 1 + 1 ≤ R.frames
        exact f1
      · show 8 + (maxL + 11) + 50 * (d + 1) ≤ R.locals
        omega
end
/-- what it means that the method may end here -/
def mJ (p : Program) (l : Launch) (e : Env) (R : Room) (s : State) (m : MethodId) (args : Array Value) (below : List Frame) (meth : Method) (c : Code) (Q : State → Prop) (A : Nat → Prop) (D : va_G) (ca : Nat → ClassId) (ad : Nat → Nat) (nc ns : Nat) (cc : ByteArray) (ret : Option FieldType) (v : Option Value) (S : MS) : Prop :=
  ∀ (pc : Nat) (H : Heap) (locs : List Loc) (ls : Array Slot), va_P D vwCl (mW ad ca S) H → va_S A s.heap H locs → (v = none → ret = none → decode cc pc = .ok (.return_, 1) → W p l e R s m args below meth c H locs nc ns Q (F0 m pc ls [])) ∧ (∀ x, v = some (.int x) → decode cc pc = .ok (.ireturn, 1) → (∃ ty, ret = some ty ∧ narrow ty (.int x) = .int x) → W p l e R s m args below meth c H locs nc ns Q (F0 m pc ls [.int x]))
section
variable {p : Program} {l : Launch} {e : Env} {R : Room} {s : State} {m : MethodId} {args : Array Value} {below : List Frame} {meth : Method} {c : Code} {Q : State → Prop} {A : Nat → Prop} {D : va_G} {ca : Nat → ClassId} {ad : Nat → Nat} {nL d pc nc ns : Nat} {cc : ByteArray} {own : String} {ret : Option FieldType} {J : Option Value → MS → Prop}
def oIret : MOp := fun k kr lv st S => match st with
  | [.int x] => kr (some (.int x)) S
  | _ => none
def oZret : MOp := fun k kr lv st S => match st with
  | [.int x] => if x = 0 ∨ x = 1 then kr (some (.int x)) S else none
  | _ => none
def oVret : MOp := fun k kr lv st S => match st with
  | [] => kr none S
  | _ => none
def oBret : MOp := fun k kr lv st S => match st with
  | [.int x] => if x = 0 then kr (some (.int x)) S else none
  | _ => none
theorem ta_oIret : mTail (oIret) := by
  intro k kr r lv st S h
  exact Or.inr (fun _ => h)
theorem ta_oZret : mTail (oZret) := by
  intro k kr r lv st S h
  exact Or.inr (fun _ => h)
theorem ta_oVret : mTail (oVret) := by
  intro k kr r lv st S h
  exact Or.inr (fun _ => h)
theorem ta_oBret : mTail (oBret) := by
  intro k kr r lv st S h
  exact Or.inr (fun _ => h)
theorem s_ireturn (hret : ret = some .int) (hdg : decode cc pc = .ok (.ireturn, 1)) : mSnd (mAt p l e R s m args below meth c Q A D ca ad nc ns nL) (mJ p l e R s m args below meth c Q A D ca ad nc ns cc ret) pc oIret := by
  intro k kr r lv st S hk hr h H locs ls hP hS hl
  unfold oIret at h
  split at h
  · exact ((hr _ _ h) pc H locs ls hP hS).2 _ rfl hdg ⟨_, hret, rfl⟩
  · cases h
theorem s_zreturn (hret : ret = some .boolean) (hdg : decode cc pc = .ok (.ireturn, 1)) : mSnd (mAt p l e R s m args below meth c Q A D ca ad nc ns nL) (mJ p l e R s m args below meth c Q A D ca ad nc ns cc ret) pc oZret := by
  intro k kr r lv st S hk hr h H locs ls hP hS hl
  unfold oZret at h
  split at h
  · split at h
    · rename_i hy
      exact ((hr _ _ h) pc H locs ls hP hS).2 _ rfl hdg ⟨_, hret, by rcases hy with rfl | rfl <;> decide⟩
    · cases h
  · cases h
theorem s_breturn (hret : ret = some .byte) (hdg : decode cc pc = .ok (.ireturn, 1)) : mSnd (mAt p l e R s m args below meth c Q A D ca ad nc ns nL) (mJ p l e R s m args below meth c Q A D ca ad nc ns cc ret) pc oBret := by
  intro k kr r lv st S hk hr h H locs ls hP hS hl
  unfold oBret at h
  split at h
  · split at h
    · rename_i hy
      exact ((hr _ _ h) pc H locs ls hP hS).2 _ rfl hdg ⟨_, hret, by rw [hy]; decide⟩
    · cases h
  · cases h
theorem s_return (hret : ret = none) (hdg : decode cc pc = .ok (.return_, 1)) : mSnd (mAt p l e R s m args below meth c Q A D ca ad nc ns nL) (mJ p l e R s m args below meth c Q A D ca ad nc ns cc ret) pc oVret := by
  intro k kr r lv st S hk hr h H locs ls hP hS hl
  unfold oVret at h
  split at h
  · exact ((hr _ _ h) pc H locs ls hP hS).1 rfl hret hdg
  · cases h
end