/-! ===== numbers as places; small rows of the model; what an act leaves ===== -/
theorem if_in {α : Type} {i n : Nat} (h : i < n) (hn : n ≤ 1000) (a b : α) : (if nI i < 0 ∨ n ≤ (nI i).toNatClampNeg then a else b) = b := if_neg (nI_in h (by omega))
theorem cN {n : Nat} (h : n ≤ 100000) : (nI n).toNatClampNeg = n := nI_clamp (by omega)
theorem fa_nn (a b : Nat) : fAdd (nI a) (nI b) = nI (a + b) := nI_add a b
theorem fm_nn (a b : Nat) : fMul (nI a) (nI b) = nI (a * b) := pk_mul a b
theorem fs_nn {a b : Nat} (h : b ≤ a) : fSub (nI a) (nI b) = nI (a - b) := pk_sub h
theorem ri (f : Nat) : fAdd 7 (fMul 4 (nI f)) = nI (7 + 4 * f) := by
  rw [show fMul 4 (nI f) = nI (4 * f) from fm_nn 4 f]
  exact fa_nn 7 (4 * f)
theorem rp (p : Nat) : fAdd 39 (fMul 4 (nI p)) = nI (39 + 4 * p) := by
  rw [show fMul 4 (nI p) = nI (4 * p) from fm_nn 4 p]
  exact fa_nn 39 (4 * p)
theorem fa_0 (a : Nat) : fAdd (nI a) 0 = nI (a + 0) := fa_nn a 0
theorem fa_1 (a : Nat) : fAdd (nI a) 1 = nI (a + 1) := fa_nn a 1
theorem fa_2 (a : Nat) : fAdd (nI a) 2 = nI (a + 2) := fa_nn a 2
theorem fa_3 (a : Nat) : fAdd (nI a) 3 = nI (a + 3) := fa_nn a 3
theorem fa_4 (a : Nat) : fAdd (nI a) 4 = nI (a + 4) := fa_nn a 4
theorem add1 (a : Nat) : nI a + 1 = nI (a + 1) := nI_1 a
theorem il0 {α : Type} (a b : α) : (if (0 : Int32) < 0 ∨ 401 ≤ ((0 : Int32)).toNatClampNeg then a else b) = b := if_neg (by decide)
theorem cl0 : ((0 : Int32)).toNatClampNeg = 0 := by decide
theorem il1 {α : Type} (a b : α) : (if (1 : Int32) < 0 ∨ 401 ≤ ((1 : Int32)).toNatClampNeg then a else b) = b := if_neg (by decide)
theorem cl1 : ((1 : Int32)).toNatClampNeg = 1 := by decide
theorem il2 {α : Type} (a b : α) : (if (2 : Int32) < 0 ∨ 401 ≤ ((2 : Int32)).toNatClampNeg then a else b) = b := if_neg (by decide)
theorem cl2 : ((2 : Int32)).toNatClampNeg = 2 := by decide
theorem il3 {α : Type} (a b : α) : (if (3 : Int32) < 0 ∨ 401 ≤ ((3 : Int32)).toNatClampNeg then a else b) = b := if_neg (by decide)
theorem cl3 : ((3 : Int32)).toNatClampNeg = 3 := by decide
theorem il4 {α : Type} (a b : α) : (if (4 : Int32) < 0 ∨ 401 ≤ ((4 : Int32)).toNatClampNeg then a else b) = b := if_neg (by decide)
theorem cl4 : ((4 : Int32)).toNatClampNeg = 4 := by decide
theorem il5 {α : Type} (a b : α) : (if (5 : Int32) < 0 ∨ 401 ≤ ((5 : Int32)).toNatClampNeg then a else b) = b := if_neg (by decide)
theorem cl5 : ((5 : Int32)).toNatClampNeg = 5 := by decide
theorem il6 {α : Type} (a b : α) : (if (6 : Int32) < 0 ∨ 401 ≤ ((6 : Int32)).toNatClampNeg then a else b) = b := if_neg (by decide)
theorem cl6 : ((6 : Int32)).toNatClampNeg = 6 := by decide
theorem il7 {α : Type} (a b : α) : (if (7 : Int32) < 0 ∨ 401 ≤ ((7 : Int32)).toNatClampNeg then a else b) = b := if_neg (by decide)
theorem cl7 : ((7 : Int32)).toNatClampNeg = 7 := by decide
theorem il8 {α : Type} (a b : α) : (if (8 : Int32) < 0 ∨ 401 ≤ ((8 : Int32)).toNatClampNeg then a else b) = b := if_neg (by decide)
theorem cl8 : ((8 : Int32)).toNatClampNeg = 8 := by decide
theorem i10 {α : Type} (a b : α) : (if (10 : Int32) = 0 then a else b) = b := if_neg (by decide)
theorem pM_of0 (d : Nat) {f : Nat} (hf : f < 8) (S : MS) : mFn (d + 1) 95 [.ref 54, .int (nI f), .int 0] S = some (some (.int (S.1 55 (7 + 4 * f))), S) := by
  rw [fX6_of, ri, fa_0, if_in (by omega) (by omega), cN (by omega), show 7 + 4 * f + 0 = 7 + 4 * f by omega]
theorem pM_ab0 (d : Nat) {p : Nat} (hp : p < 9) (S : MS) : mFn (d + 1) 96 [.ref 54, .int (nI p), .int 0] S = some (some (.int (S.1 55 (39 + 4 * p))), S) := by
  rw [fX6_about, rp, fa_0, if_in (by omega) (by omega), cN (by omega), show 39 + 4 * p + 0 = 39 + 4 * p by omega]
theorem pM_of1 (d : Nat) {f : Nat} (hf : f < 8) (S : MS) : mFn (d + 1) 95 [.ref 54, .int (nI f), .int 1] S = some (some (.int (S.1 55 (8 + 4 * f))), S) := by
  rw [fX6_of, ri, fa_1, if_in (by omega) (by omega), cN (by omega), show 7 + 4 * f + 1 = 8 + 4 * f by omega]
theorem pM_ab1 (d : Nat) {p : Nat} (hp : p < 9) (S : MS) : mFn (d + 1) 96 [.ref 54, .int (nI p), .int 1] S = some (some (.int (S.1 55 (40 + 4 * p))), S) := by
  rw [fX6_about, rp, fa_1, if_in (by omega) (by omega), cN (by omega), show 39 + 4 * p + 1 = 40 + 4 * p by omega]
theorem pM_of2 (d : Nat) {f : Nat} (hf : f < 8) (S : MS) : mFn (d + 1) 95 [.ref 54, .int (nI f), .int 2] S = some (some (.int (S.1 55 (9 + 4 * f))), S) := by
  rw [fX6_of, ri, fa_2, if_in (by omega) (by omega), cN (by omega), show 7 + 4 * f + 2 = 9 + 4 * f by omega]
theorem pM_ab2 (d : Nat) {p : Nat} (hp : p < 9) (S : MS) : mFn (d + 1) 96 [.ref 54, .int (nI p), .int 2] S = some (some (.int (S.1 55 (41 + 4 * p))), S) := by
  rw [fX6_about, rp, fa_2, if_in (by omega) (by omega), cN (by omega), show 39 + 4 * p + 2 = 41 + 4 * p by omega]
theorem pM_of3 (d : Nat) {f : Nat} (hf : f < 8) (S : MS) : mFn (d + 1) 95 [.ref 54, .int (nI f), .int 3] S = some (some (.int (S.1 55 (10 + 4 * f))), S) := by
  rw [fX6_of, ri, fa_3, if_in (by omega) (by omega), cN (by omega), show 7 + 4 * f + 3 = 10 + 4 * f by omega]
theorem pM_ab3 (d : Nat) {p : Nat} (hp : p < 9) (S : MS) : mFn (d + 1) 96 [.ref 54, .int (nI p), .int 3] S = some (some (.int (S.1 55 (42 + 4 * p))), S) := by
  rw [fX6_about, rp, fa_3, if_in (by omega) (by omega), cN (by omega), show 39 + 4 * p + 3 = 42 + 4 * p by omega]
theorem pM_bec (d : Nat) {i : Nat} (hi : i < 401) (v : Int32) (S : MS) : mFn (d + 1) 94 [.ref 54, .int (nI i), .int v] S = some (some (.int (S.1 55 i)), uI S 55 i v) := by
  rw [fX6_becomes, if_in hi (by omega), if_in hi (by omega), cN (by omega)]
theorem RCf_c {σ τ : Nat → Nat → Int32} {b w : Nat} (hc : ∀ k, b + 1 ≤ k → k ≤ b + 4 → τ k = σ k) (hw : ∀ i, 7 ≤ i → i < 39 → τ w i = σ w i) (h : RCf σ b w) : RCf τ b w := by
  intro f hf
  have e := h f hf
  rw [hc (b + 1) (by omega) (by omega), hc (b + 2) (by omega) (by omega), hc (b + 3) (by omega) (by omega), hc (b + 4) (by omega) (by omega), hw (7 + 4 * f) (by omega) (by omega), hw (8 + 4 * f) (by omega) (by omega), hw (9 + 4 * f) (by omega) (by omega), hw (10 + 4 * f) (by omega) (by omega)]
  exact e
theorem RCp_c {σ τ : Nat → Nat → Int32} {b w nf np o : Nat} (hnf : nf ≤ 8) (hc : ∀ k, b + 5 ≤ k → k ≤ b + 7 → τ k = σ k) (hw : ∀ i, 39 ≤ i → i < 75 → τ w i = σ w i) (hh : ∀ f, f < nf → τ w (9 + 4 * f) = σ w (9 + 4 * f)) (h : RCp σ b w nf np o) : RCp τ b w nf np o := by
  intro p hp
  have e := h p hp
  rw [hc (b + 5) (by omega) (by omega), hc (b + 6) (by omega) (by omega), hc (b + 7) (by omega) (by omega), hw (39 + 4 * p) (by omega) (by omega), hw (40 + 4 * p) (by omega) (by omega), hw (41 + 4 * p) (by omega) (by omega), hw (42 + 4 * p) (by omega) (by omega)]
  refine ⟨e.1, e.2.1, e.2.2.1, fun q => ?_⟩
  obtain ⟨fr, to, e1, e2, e3, e4, e5, e6, e7⟩ := e.2.2.2 q
  exact ⟨fr, to, e1, e2, e3, e4, e5, by rw [hh to e2, hh fr e1]; exact e6, e7⟩
theorem RCt_c {σ τ : Nat → Nat → Int32} {b w : Nat} (h8 : τ (b + 8) = σ (b + 8)) (h9 : τ (b + 9) = σ (b + 9)) (hw : ∀ i, 75 ≤ i → i < 159 → τ w i = σ w i) (h : RCt σ b w) : RCt τ b w := by
  refine ⟨fun i hi => ?_, fun i hi => ?_⟩
  · rw [h8, hw _ (by omega) (by omega)]
    exact h.1 i hi
  · rw [h9, hw _ (by omega) (by omega)]
    exact h.2 i hi
theorem RCx_c {σ τ : Nat → Nat → Int32} {b w : Nat} (hc : ∀ k, b + 11 ≤ k → k ≤ b + 15 → k ≠ b + 13 → τ k = σ k) (hw : ∀ i, 159 ≤ i → τ w i = σ w i) (h : RCx σ b w) : RCx τ b w :=
  ⟨RT_c (by rw [hc (b + 11) (by omega) (by omega) (by omega)]) (by rw [hc (b + 11) (by omega) (by omega) (by omega)]) (fun k => by rw [hc (b + 11 + 1) (by omega) (by omega) (by omega)]) (fun i h1 _ => hw i h1) h.1,
   RT_c (by rw [hc (b + 14) (by omega) (by omega) (by omega)]) (by rw [hc (b + 14) (by omega) (by omega) (by omega)]) (fun k => by rw [hc (b + 14 + 1) (by omega) (by omega) (by omega)]) (fun i h1 _ => hw i (by omega)) h.2⟩
/-- an act that writes in the city and the row alone -/
theorem Rel_city {S S' : MS} {nf np nt nw o : Nat} (hR : Rel S) (hRC : RC S'.1 1 55 nf np nt nw o) (g : ∀ k, (k < 1 ∨ 17 < k) → k ≠ 55 → S'.1 k = S.1 k) : Rel S' := by
  obtain ⟨_, hI, hE, hS, hV⟩ := hR
  refine ⟨⟨nf, np, nt, nw, o, hRC⟩, ⟨?_, ?_⟩, ?_, ?_, ?_⟩
  · rw [g 0 (by omega) (by omega), g 54 (by omega) (by omega)]; exact hI.1
  · rw [g 0 (by omega) (by omega)]
    rcases hI.2 with e | ⟨a1, a2, a3, a4, a5, e⟩
    · exact Or.inl e
    · exact Or.inr ⟨a1, a2, a3, a4, a5, RC_c (fun k hk => g k (by have := hk.1; omega) (by have := hk.2.1; omega)) (g 56 (by omega) (by omega)) e⟩
  · intro k hk
    rw [g 53 (by omega) (by omega), g 57 (by omega) (by omega)]
    exact hE k hk
  · intro s hs
    rw [g (45 + 2 * s) (by omega) (by omega), g (46 + 2 * s) (by omega) (by omega), g 58 (by omega) (by omega), g 59 (by omega) (by omega), g 60 (by omega) (by omega)]
    exact hS s hs
  · obtain ⟨n, v1, v2, v3, v4⟩ := hV
    refine ⟨n, v1, ?_, ?_, fun i hi => ?_⟩
    · rw [g 42 (by omega) (by omega)]; exact v2
    · rw [g 54 (by omega) (by omega)]; exact v3
    · rw [g 43 (by omega) (by omega), g 68 (by omega) (by omega)]; exact v4 i hi

