/-! ===== THE SMALL MACHINE: a state is numbers in numbered cells; a method is a table of ops; each op is sound over the kit's rows ===== -/
abbrev MS : Type := (Nat → Nat → Int32) × (Nat → Nat → Option Nat)
abbrev ML : Type := List (Nat × Value)
abbrev MR : Type := Option Value × MS
abbrev MK : Type := Nat → ML → List Value → MS → Option MR
abbrev MJ : Type := Option Value → MS → Option MR
abbrev MOp : Type := MK → MJ → ML → List Value → MS → Option MR
def mget : ML → Nat → Option Value
  | [], _ => none
  | q :: l, i => bif Nat.beq q.1 i then some q.2 else mget l i
def mhas : ML → Nat → Bool
  | [], _ => false
  | q :: l, i => bif Nat.beq q.1 i then true else mhas l i
def mrep : ML → Nat → Value → ML
  | [], _, _ => []
  | q :: l, i, v => (bif Nat.beq q.1 i then (i, v) else q) :: mrep l i v
def mset (lv : ML) (i : Nat) (v : Value) : ML := bif mhas lv i then mrep lv i v else lv ++ [(i, v)]
def mwide : ML → Nat → Bool
  | [], _ => false
  | q :: l, i => bif Nat.beq (q.1 + 1) i && Nat.beq q.2.category 2 then true else mwide l i
def mcats : List Value → Nat
  | [] => 0
  | v :: t => v.category + mcats t
def tV (ad : Nat → Nat) : Value → Value
  | .ref k => .ref (ad k)
  | v => v
abbrev tS (ad : Nat → Nat) (st : List Value) : List Value := st.map (tV ad)
abbrev tL (ad : Nat → Nat) (lv : ML) : ML := lv.map (fun q => (q.1, tV ad q.2))
theorem tV_cat (ad : Nat → Nat) (v : Value) : (tV ad v).category = v.category := by cases v <;> rfl
theorem mget_mem {lv : ML} {i : Nat} {v : Value} (h : mget lv i = some v) : (i, v) ∈ lv := by
  induction lv with
  | nil => cases h
  | cons q l ih =>
    unfold mget at h
    cases hb : Nat.beq q.1 i with
    | true =>
      rw [hb] at h
      have h1 : q.2 = v := Option.some.inj h
      have h2 : q.1 = i := Nat.eq_of_beq_eq_true hb
      rw [← h1, ← h2]
      exact List.mem_cons_self
    | false =>
      rw [hb] at h
      exact List.mem_cons_of_mem _ (ih h)
theorem mrep_mem {lv : ML} {i : Nat} {v : Value} {q : Nat × Value} (h : q ∈ mrep lv i v) : q = (i, v) ∨ (q ∈ lv ∧ q.1 ≠ i) := by
  induction lv with
  | nil => cases h
  | cons a l ih =>
    unfold mrep at h
    rcases List.mem_cons.mp h with h | h
    · cases hb : Nat.beq a.1 i with
      | true =>
        rw [hb] at h
        exact Or.inl h
      | false =>
        rw [hb] at h
        have h : q = a := h
        subst h
        exact Or.inr ⟨List.mem_cons_self, fun e => by rw [e, Nat.beq_refl] at hb; cases hb⟩
    · rcases ih h with h | h
      · exact Or.inl h
      · exact Or.inr ⟨List.mem_cons_of_mem _ h.1, h.2⟩
theorem mhas_mem {lv : ML} {i : Nat} (h : mhas lv i = false) : ∀ q ∈ lv, q.1 ≠ i := by
  induction lv with
  | nil => intro q hq; cases hq
  | cons a l ih =>
    unfold mhas at h
    cases hb : Nat.beq a.1 i with
    | true => rw [hb] at h; cases h
    | false =>
      rw [hb] at h
      intro q hq
      rcases List.mem_cons.mp hq with e | e
      · subst e
        exact fun e => by rw [e, Nat.beq_refl] at hb; cases hb
      · exact ih h q e
theorem mset_mem {lv : ML} {i : Nat} {v : Value} {q : Nat × Value} (h : q ∈ mset lv i v) : q = (i, v) ∨ (q ∈ lv ∧ q.1 ≠ i) := by
  unfold mset at h
  cases hb : mhas lv i with
  | true => rw [hb] at h; exact mrep_mem h
  | false =>
    rw [hb] at h
    rcases List.mem_append.mp h with e | e
    · exact Or.inr ⟨e, mhas_mem hb q e⟩
    · exact Or.inl (List.mem_singleton.mp e)
theorem mwide_mem {lv : ML} {i : Nat} (h : mwide lv i = false) : ∀ q ∈ lv, ¬ (q.1 + 1 = i ∧ q.2.category = 2) := by
  induction lv with
  | nil => intro q hq; cases hq
  | cons a l ih =>
    unfold mwide at h
    cases hb : (Nat.beq (a.1 + 1) i && Nat.beq a.2.category 2) with
    | true => rw [hb] at h; cases h
    | false =>
      rw [hb] at h
      intro q hq
      rcases List.mem_cons.mp hq with e | e
      · subst e
        intro z
        rw [z.1, z.2, Nat.beq_refl, Nat.beq_refl] at hb
        cases hb
      · exact ih h q e
theorem ml_at {ls : Array Slot} {nL : Nat} {ad : Nat → Nat} {lv : ML} (h : lv_has ls nL (tL ad lv)) {i : Nat} {v : Value} (hg : mget lv i = some v) : ls[i]? = some (.val (tV ad v)) :=
  h.2.2 (i, tV ad v) (List.mem_map.mpr ⟨(i, v), mget_mem hg, rfl⟩)
/-- after the kit's store, the small machine's list -/
theorem ml_set {ls' : Array Slot} {nL i : Nat} {ad : Nat → Nat} {lv : ML} {v : Value} (hw : mwide lv i = false) (h : lv_has ls' nL ((i, tV ad v) :: (tL ad lv).filter (fun q => !(q.1 == i) && !(q.1 + 1 == i && q.2.category == 2)))) : lv_has ls' nL (tL ad (mset lv i v)) := by
  refine ⟨h.1, h.2.1, fun q hq => h.2.2 q ?_⟩
  obtain ⟨b, hb, rfl⟩ := List.mem_map.mp hq
  rcases mset_mem hb with e | ⟨e, ne⟩
  · subst e
    exact List.mem_cons_self
  · refine List.mem_cons_of_mem _ (List.mem_filter.mpr ⟨List.mem_map.mpr ⟨b, e, rfl⟩, ?_⟩)
    have h2 := mwide_mem hw b e
    have h3 : ¬ (b.1 + 1 = i ∧ (tV ad b.2).category = 2) := by rw [tV_cat]; exact h2
    simp only [Bool.and_eq_true, Bool.not_eq_true', beq_eq_false_iff_ne, ne_eq, Bool.and_eq_false_imp, beq_iff_eq]
    exact ⟨ne, fun h4 h5 => h3 ⟨h4, h5⟩⟩
theorem mcats_eq (ad : Nat → Nat) (st : List Value) : ((tS ad st).map fun v => v.category).sum = mcats st := by
  induction st with
  | nil => rfl
  | cons v t ih =>
    show (tV ad v).category + ((tS ad t).map fun v => v.category).sum = v.category + mcats t
    rw [ih, tV_cat]

/-! the layout: 0 x, 1 city, 2 city_kind, 3 city_m, 4 city_height, 5 city_talk, 6 city_from, 7 city_to, 8 city_delay, 9 city_tape, 10 city_waiting, 11 city_texts, 12 city_t0, 13 city_t0_steps, 14 city_t0_stack, 15 city_t1, 16 city_t1_steps, 17 city_t1_stack, 18 kept, 19 kept_kind, 20 kept_m, 21 kept_height, 22 kept_talk, 23 kept_from, 24 kept_to, 25 kept_delay, 26 kept_tape, 27 kept_waiting, 28 kept_texts, 29 kept_t0, 30 kept_t0_steps, 31 kept_t0_stack, 32 kept_t1, 33 kept_t1_steps, 34 kept_t1_stack, 35 hearing, 36 h_slow, 37 h_when, 38 h_sizes, 39 draft, 40 draft_steps, 41 draft_stack, 42 speaker, 43 sp_bodies, 44 sheets, 45 sheet0, 46 sheet0_n, 47 sheet1, 48 sheet1_n, 49 sheet2, 50 sheet2_n, 51 sheet3, 52 sheet3_n, 53 errors, 54 model, 55 m_row, 56 m_kept, 57 m_errors, 58 m_bitsOf, 59 m_sizeOf, 60 m_cells, 61 m_act, 62 m_with, 63 m_facts, 64 m_pile, 65 m_when, 66 m_heardAs, 67 m_slow, 68 m_trace -/
abbrev NC : Nat := 69
/-- kind and number: 0 ints (length), 1 texts, 2 sheets, 3 object (class) -/
def kiT : List (Nat × Nat) := [(3, 5), (3, 0), (0, 8), (0, 8), (0, 8), (0, 8), (0, 9), (0, 9), (0, 9), (0, 60), (0, 24), (1, 2), (3, 4), (0, 60), (0, 60), (3, 4), (0, 60), (0, 60), (3, 0), (0, 8), (0, 8), (0, 8), (0, 8), (0, 9), (0, 9), (0, 9), (0, 60), (0, 24), (1, 2), (3, 4), (0, 60), (0, 60), (3, 4), (0, 60), (0, 60), (3, 1), (0, 9), (0, 8), (0, 8), (3, 4), (0, 60), (0, 60), (3, 3), (0, 30), (2, 4), (3, 2), (0, 24), (3, 2), (0, 24), (3, 2), (0, 24), (3, 2), (0, 24), (0, 7), (3, 6), (0, 401), (0, 401), (0, 7), (0, 4), (0, 4), (0, 96), (0, 60), (0, 60), (0, 3), (0, 60), (0, 8), (0, 8), (0, 9), (0, 30)]
def ki (k : Nat) : Nat × Nat := kiT.getD k (9, 0)
def nF (ci : Nat) : Nat := [18, 5, 3, 6, 9, 8, 22].getD ci 0
def isI (ci j : Nat) : Bool := [[0, 5, 9, 10, 11, 12, 14, 17], [4], [0, 1], [0, 1, 2, 3, 5], [0, 1, 5, 6, 7], [2], [2, 11, 12, 13, 14, 15, 20, 21]].getD ci [] |>.contains j
/-- the reference slots that never change: cell, slot to cell -/
def rTT : List (List (Nat × Nat)) := [[(0, 1), (1, 18), (3, 35), (4, 39), (5, 42), (6, 44), (7, 53)], [(1, 2), (2, 3), (3, 4), (4, 5), (6, 6), (7, 7), (8, 8), (13, 9), (15, 11), (16, 10)], [], [], [], [], [], [], [], [], [], [(0, 12), (1, 15)], [(2, 13), (3, 14)], [], [], [(2, 16), (3, 17)], [], [], [(1, 19), (2, 20), (3, 21), (4, 22), (6, 23), (7, 24), (8, 25), (13, 26), (15, 28), (16, 27)], [], [], [], [], [], [], [], [], [], [(0, 29), (1, 32)], [(2, 30), (3, 31)], [], [], [(2, 33), (3, 34)], [], [], [(0, 1), (1, 36), (2, 37), (3, 38)], [], [], [], [(2, 40), (3, 41)], [], [], [(4, 43)], [], [(0, 45), (1, 47), (2, 49), (3, 51)], [(2, 46)], [], [(2, 48)], [], [(2, 50)], [], [(2, 52)], [], [], [(0, 55), (1, 56), (3, 57), (4, 58), (5, 59), (6, 60), (7, 61), (8, 62), (9, 63), (10, 64), (16, 65), (17, 66), (18, 67), (19, 68)], [], [], [], [], [], [], [], [], [], [], [], [], [], []]
def rlk : List (Nat × Nat) → Nat → Option Nat
  | [], _ => none
  | q :: l, j => bif Nat.beq q.1 j then some q.2 else rlk l j
def rT (k j : Nat) : Option Nat := rlk (rTT.getD k []) j
def rv (S : MS) (k j : Nat) : Option Nat := match rT k j with
  | some r => some r
  | none => S.2 k j
def mF (ad : Nat → Nat) (S : MS) (k ci : Nat) : List Value := (List.range (nF ci)).map (fun j => bif isI ci j then .int (S.1 k j) else va_rf ((rv S k j).map ad))
def mE (ad : Nat → Nat) (ca : Nat → ClassId) (S : MS) (k : Nat) : va_E := match (ki k).1 with
  | 0 => .inl (ca 0, (ki k).2, .inl (S.1 k))
  | 1 => .inl (ca 1, (ki k).2, .inr (.inr (.inr (.inr (fun j => (rv S k j).map ad)))))
  | 2 => .inl (ca 2, (ki k).2, .inr (.inr (.inr (.inr (fun j => (rv S k j).map ad)))))
  | _ => .inr ((ki k).2, mF ad S k (ki k).2)
def mW (ad : Nat → Nat) (ca : Nat → ClassId) (S : MS) : va_W := (List.range NC).map (fun k => (ad k, mE ad ca S k))
def mT (ca : Nat → ClassId) : List (ClassId × FieldType) := [(ca 0, .int), (ca 1, .object "FountainTalk$Text"), (ca 2, .object "FountainTalk$Sheet")]
def mD (ad : Nat → Nat) (A : Nat → Prop) : Prop := (∀ i j, i < NC → j < NC → ad i = ad j → i = j) ∧ ∀ i, i < NC → A (ad i)
def mA (ad : Nat → Nat) (sz : Nat) : Nat → Prop := fun q => (∃ k, k < NC ∧ q = ad k) ∨ sz ≤ q
theorem mW_at {ad : Nat → Nat} {ca : Nat → ClassId} {S : MS} {k : Nat} (h : k < NC) : (mW ad ca S)[k]? = some (ad k, mE ad ca S k) := by
  unfold mW
  rw [List.getElem?_map, List.getElem?_range h]
  rfl
theorem mW_inv {ad : Nat → Nat} {ca : Nat → ClassId} {S : MS} {k : Nat} {q : Nat × va_E} (h : (mW ad ca S)[k]? = some q) : k < NC ∧ q = (ad k, mE ad ca S k) := by
  have hk : k < NC := by
    have h1 := (List.getElem?_eq_some_iff.mp h).1
    unfold mW at h1
    rw [List.length_map, List.length_range] at h1
    exact h1
  rw [mW_at hk] at h
  exact ⟨hk, (Option.some.inj h).symm⟩
theorem mD_va {ad : Nat → Nat} {A : Nat → Prop} (h : mD ad A) (ca : Nat → ClassId) (S : MS) : va_D A (mW ad ca S) := by
  refine ⟨fun i j p q hp hq e => ?_, fun k q hq => ?_⟩
  · obtain ⟨h1, rfl⟩ := mW_inv hp
    obtain ⟨h2, rfl⟩ := mW_inv hq
    exact h.1 i j h1 h2 e
  · obtain ⟨h1, rfl⟩ := mW_inv hq
    exact h.2 k h1
theorem mW_set {ad : Nat → Nat} {ca : Nat → ClassId} {S S' : MS} {k : Nat} {e : va_E} (hk : k < NC) (he : mE ad ca S' k = e) (ho : ∀ i, i ≠ k → mE ad ca S' i = mE ad ca S i) : (mW ad ca S).set k (ad k, e) = mW ad ca S' := by
  refine List.ext_getElem? (fun i => ?_)
  rw [List.getElem?_set]
  by_cases hi : k = i
  · subst hi
    have hl : k < (mW ad ca S).length := by
      unfold mW
      rw [List.length_map, List.length_range]
      exact hk
    rw [if_pos rfl, if_pos hl, mW_at hk, he]
  · rw [if_neg hi]
    by_cases h2 : i < NC
    · rw [mW_at h2, mW_at h2, ho i (fun z => hi z.symm)]
    · have l1 : (mW ad ca S).length = NC := by unfold mW; rw [List.length_map, List.length_range]
      have l2 : (mW ad ca S').length = NC := by unfold mW; rw [List.length_map, List.length_range]
      rw [List.getElem?_eq_none (by omega), List.getElem?_eq_none (by omega)]
def uI (S : MS) (k j : Nat) (x : Int32) : MS := (fun a b => if a = k then (if b = j then x else S.1 a b) else S.1 a b, S.2)
def uR (S : MS) (k j : Nat) (x : Option Nat) : MS := (S.1, fun a b => if a = k then (if b = j then x else S.2 a b) else S.2 a b)
def uC (S : MS) (src dst sp dp n : Nat) : MS := (fun a b => if a = dst then va_cpy (S.1 src) (S.1 dst) sp dp n b else S.1 a b, S.2)
theorem mE_oth {ad : Nat → Nat} {ca : Nat → ClassId} {S S' : MS} {i : Nat} (h1 : S'.1 i = S.1 i) (h2 : S'.2 i = S.2 i) : mE ad ca S' i = mE ad ca S i := by
  have h3 : ∀ j, rv S' i j = rv S i j := fun j => by unfold rv; rw [h2]
  unfold mE mF
  simp only [h1, h3]
theorem uI_oth {S : MS} {k j : Nat} {x : Int32} {i : Nat} (h : i ≠ k) : (uI S k j x).1 i = S.1 i := by
  funext b
  simp [uI, h]
theorem uR_oth {S : MS} {k j : Nat} {x : Option Nat} {i : Nat} (h : i ≠ k) : (uR S k j x).2 i = S.2 i := by
  funext b
  simp [uR, h]
theorem uC_oth {S : MS} {a k x y n : Nat} {i : Nat} (h : i ≠ k) : (uC S a k x y n).1 i = S.1 i := by
  funext b
  simp [uC, h]
theorem ki_lt {k a b : Nat} (h : ki k = (a, b)) (ha : a ≠ 9) : k < NC := by
  rcases Nat.lt_or_ge k NC with q | q
  · exact q
  · exfalso
    have e : kiT[k]? = none := List.getElem?_eq_none (show kiT.length ≤ k from q)
    unfold ki at h
    rw [List.getD_eq_getElem?_getD, e] at h
    exact ha (Prod.mk.inj h).1.symm
theorem mE_obj {ad : Nat → Nat} {ca : Nat → ClassId} {S : MS} {k ci : Nat} (h : ki k = (3, ci)) : mE ad ca S k = .inr (ci, mF ad S k ci) := by
  unfold mE
  rw [h]
  rfl
theorem mE_int {ad : Nat → Nat} {ca : Nat → ClassId} {S : MS} {k n : Nat} (h : ki k = (0, n)) : mE ad ca S k = .inl (ca 0, n, .inl (S.1 k)) := by
  unfold mE
  rw [h]
  rfl
theorem mE_tx {ad : Nat → Nat} {ca : Nat → ClassId} {S : MS} {k n : Nat} (h : ki k = (1, n)) : mE ad ca S k = .inl (ca 1, n, .inr (.inr (.inr (.inr (fun j => (rv S k j).map ad))))) := by
  unfold mE
  rw [h]
  rfl
theorem mE_sh {ad : Nat → Nat} {ca : Nat → ClassId} {S : MS} {k n : Nat} (h : ki k = (2, n)) : mE ad ca S k = .inl (ca 2, n, .inr (.inr (.inr (.inr (fun j => (rv S k j).map ad))))) := by
  unfold mE
  rw [h]
  rfl
theorem mF_at {ad : Nat → Nat} {S : MS} {k ci j : Nat} (h : j < nF ci) : (mF ad S k ci)[j]? = some (bif isI ci j then .int (S.1 k j) else va_rf ((rv S k j).map ad)) := by
  unfold mF
  rw [List.getElem?_map, List.getElem?_range h]
  rfl
theorem mF_len {ad : Nat → Nat} {S : MS} {k ci : Nat} : (mF ad S k ci).length = nF ci := by
  unfold mF
  rw [List.length_map, List.length_range]
theorem mF_ext {ad : Nat → Nat} {S S' : MS} {k ci j : Nat} {v : Value} (hj : j < nF ci) (hv : (bif isI ci j then Value.int (S'.1 k j) else va_rf ((rv S' k j).map ad)) = v) (ho : ∀ i, i ≠ j → S'.1 k i = S.1 k i ∧ rv S' k i = rv S k i) : mF ad S' k ci = (mF ad S k ci).set j v := by
  refine List.ext_getElem? (fun i => ?_)
  rw [List.getElem?_set]
  by_cases hi : j = i
  · subst hi
    rw [if_pos rfl, if_pos (by rw [mF_len]; exact hj), mF_at hj, hv]
  · rw [if_neg hi]
    by_cases h2 : i < nF ci
    · rw [mF_at h2, mF_at h2, (ho i (fun z => hi z.symm)).1, (ho i (fun z => hi z.symm)).2]
    · rw [List.getElem?_eq_none (by rw [mF_len]; omega), List.getElem?_eq_none (by rw [mF_len]; omega)]
