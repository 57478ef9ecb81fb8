/-! ===== voices: the class's speaker, step by step ===== -/
set_option maxRecDepth 100000 in
theorem sB_0_0 (d : Nat) (x x4 x6 : Int32) (S S1 : MS) (hb : mFn d 21 [.ref 42, .int 10] S = some (none, S1)) : mv (kX3_speak (mFn d)) 22 [(0, .ref 42), (2, .int 0), (3, .int x), (4, .int x4), (5, .int 0), (6, .int x6)] [] S = some (some (.int (fAdd x (S1.1 42 1))), S1) := by
  have g : bodiesL.getD ((fAdd (fMul 4 0) 0)).toNatClampNeg 0 = 10 := by decide
  rw [lX3_speak_22, g]
  by_cases h : 7 ≤ x6
  · rw [if_pos h, if_neg (by decide), hb, bV_some, if_neg (by decide), if_pos (by decide)]
  · rw [if_neg h, if_neg (by decide), if_neg (by decide), if_neg (by decide), hb, bV_some, if_neg (by decide), if_pos (by decide)]
set_option maxRecDepth 100000 in
theorem sB_0_1 (d : Nat) (x x4 x6 : Int32) (S S1 : MS) (hb : mFn d 21 [.ref 42, .int 11] S = some (none, S1)) : mv (kX3_speak (mFn d)) 22 [(0, .ref 42), (2, .int 1), (3, .int x), (4, .int x4), (5, .int 0), (6, .int x6)] [] S = bI (mFn d 19 [.ref 42, .int (S1.1 42 0), .int 0, .int x, .int (fAdd x4 1)] S1) (fun y2 S2 => some (some (.int (fMul y2 2)), S2)) := by
  have g : bodiesL.getD ((fAdd (fMul 4 0) 1)).toNatClampNeg 0 = 11 := by decide
  rw [lX3_speak_22, g]
  by_cases h : 7 ≤ x6
  · rw [if_pos h, if_neg (by decide), hb, bV_some, if_neg (by decide), if_neg (by decide), if_pos (by decide)]
  · rw [if_neg h, if_neg (by decide), if_neg (by decide), if_neg (by decide), hb, bV_some, if_neg (by decide), if_neg (by decide), if_pos (by decide)]
set_option maxRecDepth 100000 in
theorem sB_0_2 (d : Nat) (x x4 x6 : Int32) (S S1 : MS) (hb : mFn d 21 [.ref 42, .int 12] S = some (none, S1)) : mv (kX3_speak (mFn d)) 22 [(0, .ref 42), (2, .int 2), (3, .int x), (4, .int x4), (5, .int 0), (6, .int x6)] [] S = bI (mFn d 19 [.ref 42, .int (S1.1 42 0), .int 1, .int x, .int (fAdd x4 1)] S1) (fun y2 S2 => some (some (.int (fSub y2 (S2.1 42 2))), S2)) := by
  have g : bodiesL.getD ((fAdd (fMul 4 0) 2)).toNatClampNeg 0 = 12 := by decide
  rw [lX3_speak_22, g]
  by_cases h : 7 ≤ x6
  · rw [if_pos h, if_neg (by decide), hb, bV_some, if_neg (by decide), if_neg (by decide), if_neg (by decide), if_pos (by decide)]
  · rw [if_neg h, if_neg (by decide), if_neg (by decide), if_neg (by decide), hb, bV_some, if_neg (by decide), if_neg (by decide), if_neg (by decide), if_pos (by decide)]
set_option maxRecDepth 100000 in
theorem sB_0_3 (d : Nat) (x x4 x6 : Int32) (S S1 : MS) (hb : mFn d 21 [.ref 42, .int 13] S = some (none, S1)) : mv (kX3_speak (mFn d)) 22 [(0, .ref 42), (2, .int 3), (3, .int x), (4, .int x4), (5, .int 0), (6, .int x6)] [] S = bI (mFn d 20 [.ref 42, .int x] S1) (fun y2 S2 => some (some (.int y2), S2)) := by
  have g : bodiesL.getD ((fAdd (fMul 4 0) 3)).toNatClampNeg 0 = 13 := by decide
  rw [lX3_speak_22, g]
  by_cases h : 7 ≤ x6
  · rw [if_pos h, if_neg (by decide), hb, bV_some, if_neg (by decide), if_neg (by decide), if_neg (by decide), if_neg (by decide), if_pos (by decide)]
  · rw [if_neg h, if_neg (by decide), if_neg (by decide), if_neg (by decide), hb, bV_some, if_neg (by decide), if_neg (by decide), if_neg (by decide), if_neg (by decide), if_pos (by decide)]
set_option maxRecDepth 100000 in
theorem sB_1_0 (d : Nat) (x x4 x6 : Int32) (S S1 : MS) (hb : mFn d 21 [.ref 42, .int 20] S = some (none, S1)) : mv (kX3_speak (mFn d)) 22 [(0, .ref 42), (2, .int 0), (3, .int x), (4, .int x4), (5, .int 1), (6, .int x6)] [] S = bI (mFn d 19 [.ref 42, .int 0, .int 0, .int x, .int (fAdd x4 1)] S1) (fun y2 S2 => some (some (.int (fSub y2 4)), S2)) := by
  have g : bodiesL.getD ((fAdd (fMul 4 1) 0)).toNatClampNeg 0 = 20 := by decide
  have a : aboveL.getD ((1 : Int32)).toNatClampNeg 0 = 0 := by decide
  rw [lX3_speak_22, g]
  by_cases h : 7 ≤ x6
  · rw [if_pos h, if_neg (by decide), hb, bV_some, if_neg (by decide), if_neg (by decide), if_neg (by decide), if_neg (by decide), if_neg (by decide), if_pos (by decide), a]
  · rw [if_neg h, if_neg (by decide), if_neg (by decide), if_neg (by decide), hb, bV_some, if_neg (by decide), if_neg (by decide), if_neg (by decide), if_neg (by decide), if_neg (by decide), if_pos (by decide), a]
set_option maxRecDepth 100000 in
theorem sU_1_1 (d : Nat) (x x4 : Int32) {c : Nat} (hc : c < 7) (S : MS) : mv (kX3_speak (mFn d)) 22 [(0, .ref 42), (2, .int 1), (3, .int x), (4, .int x4), (5, .int 1), (6, .int (nI c))] [] S = mv (kX3_speak (mFn d)) 22 [(0, .ref 42), (2, .int 1), (3, .int x), (4, .int x4), (5, .int 0), (6, .int (nI (c + 1)))] [] S := by
  have g : bodiesL.getD ((fAdd (fMul 4 1) 1)).toNatClampNeg 0 = 0 := by decide
  have a : aboveL.getD ((1 : Int32)).toNatClampNeg 0 = 0 := by decide
  rw [lX3_speak_22, if_neg (show ¬ (7 : Int32) ≤ nI c from nI_ge (a := c) (b := 7) hc (by decide)), if_neg (by decide), g, if_pos rfl, if_neg (by decide), a, add1]
set_option maxRecDepth 100000 in
theorem sU_1_2 (d : Nat) (x x4 : Int32) {c : Nat} (hc : c < 7) (S : MS) : mv (kX3_speak (mFn d)) 22 [(0, .ref 42), (2, .int 2), (3, .int x), (4, .int x4), (5, .int 1), (6, .int (nI c))] [] S = mv (kX3_speak (mFn d)) 22 [(0, .ref 42), (2, .int 2), (3, .int x), (4, .int x4), (5, .int 0), (6, .int (nI (c + 1)))] [] S := by
  have g : bodiesL.getD ((fAdd (fMul 4 1) 2)).toNatClampNeg 0 = 0 := by decide
  have a : aboveL.getD ((1 : Int32)).toNatClampNeg 0 = 0 := by decide
  rw [lX3_speak_22, if_neg (show ¬ (7 : Int32) ≤ nI c from nI_ge (a := c) (b := 7) hc (by decide)), if_neg (by decide), g, if_pos rfl, if_neg (by decide), a, add1]
set_option maxRecDepth 100000 in
theorem sB_1_3 (d : Nat) (x x4 x6 : Int32) (S S1 : MS) (hb : mFn d 21 [.ref 42, .int 21] S = some (none, S1)) : mv (kX3_speak (mFn d)) 22 [(0, .ref 42), (2, .int 3), (3, .int x), (4, .int x4), (5, .int 1), (6, .int x6)] [] S = bI (mFn d 19 [.ref 42, .int 0, .int 3, .int x, .int (fAdd x4 1)] S1) (fun y2 S2 => bI (mFn d 19 [.ref 42, .int (S2.1 42 0), .int 1, .int 1, .int (fAdd x4 1)] S2) (fun y3 S3 => some (some (.int (fAdd y2 y3)), S3))) := by
  have g : bodiesL.getD ((fAdd (fMul 4 1) 3)).toNatClampNeg 0 = 21 := by decide
  have a : aboveL.getD ((1 : Int32)).toNatClampNeg 0 = 0 := by decide
  rw [lX3_speak_22, g]
  by_cases h : 7 ≤ x6
  · rw [if_pos h, if_neg (by decide), hb, bV_some, if_neg (by decide), if_neg (by decide), if_neg (by decide), if_neg (by decide), if_neg (by decide), if_neg (by decide), if_pos (by decide), a]
  · rw [if_neg h, if_neg (by decide), if_neg (by decide), if_neg (by decide), hb, bV_some, if_neg (by decide), if_neg (by decide), if_neg (by decide), if_neg (by decide), if_neg (by decide), if_neg (by decide), if_pos (by decide), a]
set_option maxRecDepth 100000 in
theorem sU_2_0 (d : Nat) (x x4 : Int32) {c : Nat} (hc : c < 7) (S : MS) : mv (kX3_speak (mFn d)) 22 [(0, .ref 42), (2, .int 0), (3, .int x), (4, .int x4), (5, .int 2), (6, .int (nI c))] [] S = mv (kX3_speak (mFn d)) 22 [(0, .ref 42), (2, .int 0), (3, .int x), (4, .int x4), (5, .int 0), (6, .int (nI (c + 1)))] [] S := by
  have g : bodiesL.getD ((fAdd (fMul 4 2) 0)).toNatClampNeg 0 = 0 := by decide
  have a : aboveL.getD ((2 : Int32)).toNatClampNeg 0 = 0 := by decide
  rw [lX3_speak_22, if_neg (show ¬ (7 : Int32) ≤ nI c from nI_ge (a := c) (b := 7) hc (by decide)), if_neg (by decide), g, if_pos rfl, if_neg (by decide), a, add1]
set_option maxRecDepth 100000 in
theorem sB_2_1 (d : Nat) (x x4 x6 : Int32) (S S1 : MS) (hb : mFn d 21 [.ref 42, .int 30] S = some (none, S1)) : mv (kX3_speak (mFn d)) 22 [(0, .ref 42), (2, .int 1), (3, .int x), (4, .int x4), (5, .int 2), (6, .int x6)] [] S = bI (mFn d 19 [.ref 42, .int 0, .int 1, .int x, .int (fAdd x4 1)] S1) (fun y2 S2 => some (some (.int (fSub 0 y2)), S2)) := by
  have g : bodiesL.getD ((fAdd (fMul 4 2) 1)).toNatClampNeg 0 = 30 := by decide
  have a : aboveL.getD ((2 : Int32)).toNatClampNeg 0 = 0 := by decide
  rw [lX3_speak_22, g]
  by_cases h : 7 ≤ x6
  · rw [if_pos h, if_neg (by decide), hb, bV_some, if_neg (by decide), if_neg (by decide), if_neg (by decide), if_neg (by decide), if_neg (by decide), if_neg (by decide), if_neg (by decide), if_pos (by decide), a]
  · rw [if_neg h, if_neg (by decide), if_neg (by decide), if_neg (by decide), hb, bV_some, if_neg (by decide), if_neg (by decide), if_neg (by decide), if_neg (by decide), if_neg (by decide), if_neg (by decide), if_neg (by decide), if_pos (by decide), a]
set_option maxRecDepth 100000 in
theorem sU_2_2 (d : Nat) (x x4 : Int32) {c : Nat} (hc : c < 7) (S : MS) : mv (kX3_speak (mFn d)) 22 [(0, .ref 42), (2, .int 2), (3, .int x), (4, .int x4), (5, .int 2), (6, .int (nI c))] [] S = mv (kX3_speak (mFn d)) 22 [(0, .ref 42), (2, .int 2), (3, .int x), (4, .int x4), (5, .int 0), (6, .int (nI (c + 1)))] [] S := by
  have g : bodiesL.getD ((fAdd (fMul 4 2) 2)).toNatClampNeg 0 = 0 := by decide
  have a : aboveL.getD ((2 : Int32)).toNatClampNeg 0 = 0 := by decide
  rw [lX3_speak_22, if_neg (show ¬ (7 : Int32) ≤ nI c from nI_ge (a := c) (b := 7) hc (by decide)), if_neg (by decide), g, if_pos rfl, if_neg (by decide), a, add1]
set_option maxRecDepth 100000 in
theorem sU_2_3 (d : Nat) (x x4 : Int32) {c : Nat} (hc : c < 7) (S : MS) : mv (kX3_speak (mFn d)) 22 [(0, .ref 42), (2, .int 3), (3, .int x), (4, .int x4), (5, .int 2), (6, .int (nI c))] [] S = mv (kX3_speak (mFn d)) 22 [(0, .ref 42), (2, .int 3), (3, .int x), (4, .int x4), (5, .int 0), (6, .int (nI (c + 1)))] [] S := by
  have g : bodiesL.getD ((fAdd (fMul 4 2) 3)).toNatClampNeg 0 = 0 := by decide
  have a : aboveL.getD ((2 : Int32)).toNatClampNeg 0 = 0 := by decide
  rw [lX3_speak_22, if_neg (show ¬ (7 : Int32) ≤ nI c from nI_ge (a := c) (b := 7) hc (by decide)), if_neg (by decide), g, if_pos rfl, if_neg (by decide), a, add1]
set_option maxRecDepth 100000 in
theorem sU_3_0 (d : Nat) (x x4 : Int32) {c : Nat} (hc : c < 7) (S : MS) : mv (kX3_speak (mFn d)) 22 [(0, .ref 42), (2, .int 0), (3, .int x), (4, .int x4), (5, .int 3), (6, .int (nI c))] [] S = mv (kX3_speak (mFn d)) 22 [(0, .ref 42), (2, .int 0), (3, .int x), (4, .int x4), (5, .int 0), (6, .int (nI (c + 1)))] [] S := by
  have g : bodiesL.getD ((fAdd (fMul 4 3) 0)).toNatClampNeg 0 = 0 := by decide
  have a : aboveL.getD ((3 : Int32)).toNatClampNeg 0 = 0 := by decide
  rw [lX3_speak_22, if_neg (show ¬ (7 : Int32) ≤ nI c from nI_ge (a := c) (b := 7) hc (by decide)), if_neg (by decide), g, if_pos rfl, if_neg (by decide), a, add1]
set_option maxRecDepth 100000 in
theorem sU_3_1 (d : Nat) (x x4 : Int32) {c : Nat} (hc : c < 7) (S : MS) : mv (kX3_speak (mFn d)) 22 [(0, .ref 42), (2, .int 1), (3, .int x), (4, .int x4), (5, .int 3), (6, .int (nI c))] [] S = mv (kX3_speak (mFn d)) 22 [(0, .ref 42), (2, .int 1), (3, .int x), (4, .int x4), (5, .int 0), (6, .int (nI (c + 1)))] [] S := by
  have g : bodiesL.getD ((fAdd (fMul 4 3) 1)).toNatClampNeg 0 = 0 := by decide
  have a : aboveL.getD ((3 : Int32)).toNatClampNeg 0 = 0 := by decide
  rw [lX3_speak_22, if_neg (show ¬ (7 : Int32) ≤ nI c from nI_ge (a := c) (b := 7) hc (by decide)), if_neg (by decide), g, if_pos rfl, if_neg (by decide), a, add1]
set_option maxRecDepth 100000 in
theorem sB_3_2 (d : Nat) (x x4 x6 : Int32) (S S1 : MS) (hb : mFn d 21 [.ref 42, .int 40] S = some (none, S1)) : mv (kX3_speak (mFn d)) 22 [(0, .ref 42), (2, .int 2), (3, .int x), (4, .int x4), (5, .int 3), (6, .int x6)] [] S = bI (mFn d 19 [.ref 42, .int 0, .int 2, .int (x / 2), .int (fAdd x4 1)] S1) (fun y2 S2 => some (some (.int y2), S2)) := by
  have g : bodiesL.getD ((fAdd (fMul 4 3) 2)).toNatClampNeg 0 = 40 := by decide
  have a : aboveL.getD ((3 : Int32)).toNatClampNeg 0 = 0 := by decide
  rw [lX3_speak_22, g]
  by_cases h : 7 ≤ x6
  · rw [if_pos h, if_neg (by decide), hb, bV_some, if_neg (by decide), if_neg (by decide), if_neg (by decide), if_neg (by decide), if_neg (by decide), if_neg (by decide), if_neg (by decide), if_neg (by decide), if_pos (by decide), if_neg (by decide), a]
  · rw [if_neg h, if_neg (by decide), if_neg (by decide), if_neg (by decide), hb, bV_some, if_neg (by decide), if_neg (by decide), if_neg (by decide), if_neg (by decide), if_neg (by decide), if_neg (by decide), if_neg (by decide), if_neg (by decide), if_pos (by decide), if_neg (by decide), a]
set_option maxRecDepth 100000 in
theorem sU_3_3 (d : Nat) (x x4 : Int32) {c : Nat} (hc : c < 7) (S : MS) : mv (kX3_speak (mFn d)) 22 [(0, .ref 42), (2, .int 3), (3, .int x), (4, .int x4), (5, .int 3), (6, .int (nI c))] [] S = mv (kX3_speak (mFn d)) 22 [(0, .ref 42), (2, .int 3), (3, .int x), (4, .int x4), (5, .int 0), (6, .int (nI (c + 1)))] [] S := by
  have g : bodiesL.getD ((fAdd (fMul 4 3) 3)).toNatClampNeg 0 = 0 := by decide
  have a : aboveL.getD ((3 : Int32)).toNatClampNeg 0 = 0 := by decide
  rw [lX3_speak_22, if_neg (show ¬ (7 : Int32) ≤ nI c from nI_ge (a := c) (b := 7) hc (by decide)), if_neg (by decide), g, if_pos rfl, if_neg (by decide), a, add1]
set_option maxRecDepth 100000 in
theorem sB_4_0 (d : Nat) (x x4 x6 : Int32) (S S1 : MS) (hb : mFn d 21 [.ref 42, .int 50] S = some (none, S1)) : mv (kX3_speak (mFn d)) 22 [(0, .ref 42), (2, .int 0), (3, .int x), (4, .int x4), (5, .int 4), (6, .int x6)] [] S = bI (mFn d 19 [.ref 42, .int 1, .int 0, .int x, .int (fAdd x4 1)] S1) (fun y2 S2 => some (some (.int (fMul y2 3)), S2)) := by
  have g : bodiesL.getD ((fAdd (fMul 4 4) 0)).toNatClampNeg 0 = 50 := by decide
  have a : aboveL.getD ((4 : Int32)).toNatClampNeg 0 = 1 := by decide
  rw [lX3_speak_22, g]
  by_cases h : 7 ≤ x6
  · rw [if_pos h, if_neg (by decide), hb, bV_some, if_neg (by decide), if_neg (by decide), if_neg (by decide), if_neg (by decide), if_neg (by decide), if_neg (by decide), if_neg (by decide), if_neg (by decide), if_neg (by decide), if_pos (by decide), a]
  · rw [if_neg h, if_neg (by decide), if_neg (by decide), if_neg (by decide), hb, bV_some, if_neg (by decide), if_neg (by decide), if_neg (by decide), if_neg (by decide), if_neg (by decide), if_neg (by decide), if_neg (by decide), if_neg (by decide), if_neg (by decide), if_pos (by decide), a]
set_option maxRecDepth 100000 in
theorem sU_4_1 (d : Nat) (x x4 : Int32) {c : Nat} (hc : c < 7) (S : MS) : mv (kX3_speak (mFn d)) 22 [(0, .ref 42), (2, .int 1), (3, .int x), (4, .int x4), (5, .int 4), (6, .int (nI c))] [] S = mv (kX3_speak (mFn d)) 22 [(0, .ref 42), (2, .int 1), (3, .int x), (4, .int x4), (5, .int 1), (6, .int (nI (c + 1)))] [] S := by
  have g : bodiesL.getD ((fAdd (fMul 4 4) 1)).toNatClampNeg 0 = 0 := by decide
  have a : aboveL.getD ((4 : Int32)).toNatClampNeg 0 = 1 := by decide
  rw [lX3_speak_22, if_neg (show ¬ (7 : Int32) ≤ nI c from nI_ge (a := c) (b := 7) hc (by decide)), if_neg (by decide), g, if_pos rfl, if_neg (by decide), a, add1]
set_option maxRecDepth 100000 in
theorem sB_4_2 (d : Nat) (x x4 x6 : Int32) (S S1 : MS) (hb : mFn d 21 [.ref 42, .int 51] S = some (none, S1)) : mv (kX3_speak (mFn d)) 22 [(0, .ref 42), (2, .int 2), (3, .int x), (4, .int x4), (5, .int 4), (6, .int x6)] [] S = bI (mFn d 19 [.ref 42, .int 1, .int 2, .int x, .int (fAdd x4 1)] S1) (fun y2 S2 => some (some (.int (fXor y2 (S2.1 42 1))), S2)) := by
  have g : bodiesL.getD ((fAdd (fMul 4 4) 2)).toNatClampNeg 0 = 51 := by decide
  have a : aboveL.getD ((4 : Int32)).toNatClampNeg 0 = 1 := by decide
  rw [lX3_speak_22, g]
  by_cases h : 7 ≤ x6
  · rw [if_pos h, if_neg (by decide), hb, bV_some, if_neg (by decide), if_neg (by decide), if_neg (by decide), if_neg (by decide), if_neg (by decide), if_neg (by decide), if_neg (by decide), if_neg (by decide), if_neg (by decide), if_neg (by decide), if_pos (by decide), a]
  · rw [if_neg h, if_neg (by decide), if_neg (by decide), if_neg (by decide), hb, bV_some, if_neg (by decide), if_neg (by decide), if_neg (by decide), if_neg (by decide), if_neg (by decide), if_neg (by decide), if_neg (by decide), if_neg (by decide), if_neg (by decide), if_neg (by decide), if_pos (by decide), a]
set_option maxRecDepth 100000 in
theorem sU_4_3 (d : Nat) (x x4 : Int32) {c : Nat} (hc : c < 7) (S : MS) : mv (kX3_speak (mFn d)) 22 [(0, .ref 42), (2, .int 3), (3, .int x), (4, .int x4), (5, .int 4), (6, .int (nI c))] [] S = mv (kX3_speak (mFn d)) 22 [(0, .ref 42), (2, .int 3), (3, .int x), (4, .int x4), (5, .int 1), (6, .int (nI (c + 1)))] [] S := by
  have g : bodiesL.getD ((fAdd (fMul 4 4) 3)).toNatClampNeg 0 = 0 := by decide
  have a : aboveL.getD ((4 : Int32)).toNatClampNeg 0 = 1 := by decide
  rw [lX3_speak_22, if_neg (show ¬ (7 : Int32) ≤ nI c from nI_ge (a := c) (b := 7) hc (by decide)), if_neg (by decide), g, if_pos rfl, if_neg (by decide), a, add1]
set_option maxRecDepth 100000 in
theorem sU_5_0 (d : Nat) (x x4 : Int32) {c : Nat} (hc : c < 7) (S : MS) : mv (kX3_speak (mFn d)) 22 [(0, .ref 42), (2, .int 0), (3, .int x), (4, .int x4), (5, .int 5), (6, .int (nI c))] [] S = mv (kX3_speak (mFn d)) 22 [(0, .ref 42), (2, .int 0), (3, .int x), (4, .int x4), (5, .int 2), (6, .int (nI (c + 1)))] [] S := by
  have g : bodiesL.getD ((fAdd (fMul 4 5) 0)).toNatClampNeg 0 = 0 := by decide
  have a : aboveL.getD ((5 : Int32)).toNatClampNeg 0 = 2 := by decide
  rw [lX3_speak_22, if_neg (show ¬ (7 : Int32) ≤ nI c from nI_ge (a := c) (b := 7) hc (by decide)), if_neg (by decide), g, if_pos rfl, if_neg (by decide), a, add1]
set_option maxRecDepth 100000 in
theorem sB_5_1 (d : Nat) (x x4 x6 : Int32) (S S1 : MS) (hb : mFn d 21 [.ref 42, .int 60] S = some (none, S1)) : mv (kX3_speak (mFn d)) 22 [(0, .ref 42), (2, .int 1), (3, .int x), (4, .int x4), (5, .int 5), (6, .int x6)] [] S = bI (mFn d 19 [.ref 42, .int 2, .int 1, .int (fAdd x 1), .int (fAdd x4 1)] S1) (fun y2 S2 => some (some (.int y2), S2)) := by
  have g : bodiesL.getD ((fAdd (fMul 4 5) 1)).toNatClampNeg 0 = 60 := by decide
  have a : aboveL.getD ((5 : Int32)).toNatClampNeg 0 = 2 := by decide
  rw [lX3_speak_22, g]
  by_cases h : 7 ≤ x6
  · rw [if_pos h, if_neg (by decide), hb, bV_some, if_neg (by decide), if_neg (by decide), if_neg (by decide), if_neg (by decide), if_neg (by decide), if_neg (by decide), if_neg (by decide), if_neg (by decide), if_neg (by decide), if_neg (by decide), if_neg (by decide), if_pos (by decide), a]
  · rw [if_neg h, if_neg (by decide), if_neg (by decide), if_neg (by decide), hb, bV_some, if_neg (by decide), if_neg (by decide), if_neg (by decide), if_neg (by decide), if_neg (by decide), if_neg (by decide), if_neg (by decide), if_neg (by decide), if_neg (by decide), if_neg (by decide), if_neg (by decide), if_pos (by decide), a]
set_option maxRecDepth 100000 in
theorem sU_5_2 (d : Nat) (x x4 : Int32) {c : Nat} (hc : c < 7) (S : MS) : mv (kX3_speak (mFn d)) 22 [(0, .ref 42), (2, .int 2), (3, .int x), (4, .int x4), (5, .int 5), (6, .int (nI c))] [] S = mv (kX3_speak (mFn d)) 22 [(0, .ref 42), (2, .int 2), (3, .int x), (4, .int x4), (5, .int 2), (6, .int (nI (c + 1)))] [] S := by
  have g : bodiesL.getD ((fAdd (fMul 4 5) 2)).toNatClampNeg 0 = 0 := by decide
  have a : aboveL.getD ((5 : Int32)).toNatClampNeg 0 = 2 := by decide
  rw [lX3_speak_22, if_neg (show ¬ (7 : Int32) ≤ nI c from nI_ge (a := c) (b := 7) hc (by decide)), if_neg (by decide), g, if_pos rfl, if_neg (by decide), a, add1]
set_option maxRecDepth 100000 in
theorem sU_5_3 (d : Nat) (x x4 : Int32) {c : Nat} (hc : c < 7) (S : MS) : mv (kX3_speak (mFn d)) 22 [(0, .ref 42), (2, .int 3), (3, .int x), (4, .int x4), (5, .int 5), (6, .int (nI c))] [] S = mv (kX3_speak (mFn d)) 22 [(0, .ref 42), (2, .int 3), (3, .int x), (4, .int x4), (5, .int 2), (6, .int (nI (c + 1)))] [] S := by
  have g : bodiesL.getD ((fAdd (fMul 4 5) 3)).toNatClampNeg 0 = 0 := by decide
  have a : aboveL.getD ((5 : Int32)).toNatClampNeg 0 = 2 := by decide
  rw [lX3_speak_22, if_neg (show ¬ (7 : Int32) ≤ nI c from nI_ge (a := c) (b := 7) hc (by decide)), if_neg (by decide), g, if_pos rfl, if_neg (by decide), a, add1]
set_option maxRecDepth 100000 in
theorem sB_6_0 (d : Nat) (x x4 x6 : Int32) (S S1 : MS) (hb : mFn d 21 [.ref 42, .int 70] S = some (none, S1)) : mv (kX3_speak (mFn d)) 22 [(0, .ref 42), (2, .int 0), (3, .int x), (4, .int x4), (5, .int 6), (6, .int x6)] [] S = some (some (.int 9), S1) := by
  have g : bodiesL.getD ((fAdd (fMul 4 6) 0)).toNatClampNeg 0 = 70 := by decide
  rw [lX3_speak_22, g]
  by_cases h : 7 ≤ x6
  · rw [if_pos h, if_neg (by decide), hb, bV_some, if_neg (by decide), if_neg (by decide), if_neg (by decide), if_neg (by decide), if_neg (by decide), if_neg (by decide), if_neg (by decide), if_neg (by decide), if_neg (by decide), if_neg (by decide), if_neg (by decide), if_neg (by decide), if_pos (by decide)]
  · rw [if_neg h, if_neg (by decide), if_neg (by decide), if_neg (by decide), hb, bV_some, if_neg (by decide), if_neg (by decide), if_neg (by decide), if_neg (by decide), if_neg (by decide), if_neg (by decide), if_neg (by decide), if_neg (by decide), if_neg (by decide), if_neg (by decide), if_neg (by decide), if_neg (by decide), if_pos (by decide)]
set_option maxRecDepth 100000 in
theorem sB_6_1 (d : Nat) (x x4 x6 : Int32) (S S1 : MS) (hb : mFn d 21 [.ref 42, .int 71] S = some (none, S1)) : mv (kX3_speak (mFn d)) 22 [(0, .ref 42), (2, .int 1), (3, .int x), (4, .int x4), (5, .int 6), (6, .int x6)] [] S = bI (mFn d 19 [.ref 42, .int 0, .int 1, .int x, .int (fAdd x4 1)] S1) (fun y2 S2 => some (some (.int (fAdd y2 (S2.1 42 2))), S2)) := by
  have g : bodiesL.getD ((fAdd (fMul 4 6) 1)).toNatClampNeg 0 = 71 := by decide
  have a : aboveL.getD ((6 : Int32)).toNatClampNeg 0 = 0 := by decide
  rw [lX3_speak_22, g]
  by_cases h : 7 ≤ x6
  · rw [if_pos h, if_neg (by decide), hb, bV_some, if_neg (by decide), if_neg (by decide), if_neg (by decide), if_neg (by decide), if_neg (by decide), if_neg (by decide), if_neg (by decide), if_neg (by decide), if_neg (by decide), if_neg (by decide), if_neg (by decide), if_neg (by decide), if_neg (by decide), if_pos (by decide), a]
  · rw [if_neg h, if_neg (by decide), if_neg (by decide), if_neg (by decide), hb, bV_some, if_neg (by decide), if_neg (by decide), if_neg (by decide), if_neg (by decide), if_neg (by decide), if_neg (by decide), if_neg (by decide), if_neg (by decide), if_neg (by decide), if_neg (by decide), if_neg (by decide), if_neg (by decide), if_neg (by decide), if_pos (by decide), a]
set_option maxRecDepth 100000 in
theorem sU_6_2 (d : Nat) (x x4 : Int32) {c : Nat} (hc : c < 7) (S : MS) : mv (kX3_speak (mFn d)) 22 [(0, .ref 42), (2, .int 2), (3, .int x), (4, .int x4), (5, .int 6), (6, .int (nI c))] [] S = mv (kX3_speak (mFn d)) 22 [(0, .ref 42), (2, .int 2), (3, .int x), (4, .int x4), (5, .int 0), (6, .int (nI (c + 1)))] [] S := by
  have g : bodiesL.getD ((fAdd (fMul 4 6) 2)).toNatClampNeg 0 = 0 := by decide
  have a : aboveL.getD ((6 : Int32)).toNatClampNeg 0 = 0 := by decide
  rw [lX3_speak_22, if_neg (show ¬ (7 : Int32) ≤ nI c from nI_ge (a := c) (b := 7) hc (by decide)), if_neg (by decide), g, if_pos rfl, if_neg (by decide), a, add1]
set_option maxRecDepth 100000 in
theorem sU_6_3 (d : Nat) (x x4 : Int32) {c : Nat} (hc : c < 7) (S : MS) : mv (kX3_speak (mFn d)) 22 [(0, .ref 42), (2, .int 3), (3, .int x), (4, .int x4), (5, .int 6), (6, .int (nI c))] [] S = mv (kX3_speak (mFn d)) 22 [(0, .ref 42), (2, .int 3), (3, .int x), (4, .int x4), (5, .int 0), (6, .int (nI (c + 1)))] [] S := by
  have g : bodiesL.getD ((fAdd (fMul 4 6) 3)).toNatClampNeg 0 = 0 := by decide
  have a : aboveL.getD ((6 : Int32)).toNatClampNeg 0 = 0 := by decide
  rw [lX3_speak_22, if_neg (show ¬ (7 : Int32) ≤ nI c from nI_ge (a := c) (b := 7) hc (by decide)), if_neg (by decide), g, if_pos rfl, if_neg (by decide), a, add1]
