/-! ===== rows: FountainTalk ===== -/
theorem cuX5_fountain (F : Nat → List Value → MS → Option MR) : mcuts (kX5_fountain F) [] := fun _ h => absurd h List.not_mem_nil
set_option maxRecDepth 100000 in
theorem fX5_fountain (d : Nat) (x1 : Int32) (x2 : Int32) (S : MS) : mFn (d + 1) 35 [.ref 0, .int x1, .int x2] S =
  bI ((mFn d) 75 [.int x1] S) (fun y1 S1 =>
    if y1 = 0 then
      bI ((mFn d) 72 [.ref 0, .int 1] S1) (fun y2 S2 =>
        some (some (.int y2), S2))
    else
      bI ((mFn d) 74 [.int x2] S1) (fun y3 S3 =>
        if y3 = 0 then
          bI ((mFn d) 72 [.ref 0, .int 1] S3) (fun y4 S4 =>
            some (some (.int y4), S4))
        else
          if (S3.1 1 0) < 8 then
            if (10 : Int32) = 0 then none else
            if (S3.1 1 0) < 0 ∨ 8 ≤ ((S3.1 1 0)).toNatClampNeg then none else
            if (10 : Int32) = 0 then none else
            if (S3.1 1 0) < 0 ∨ 8 ≤ ((S3.1 1 0)).toNatClampNeg then none else
            if (S3.1 1 0) < 0 ∨ 8 ≤ ((S3.1 1 0)).toNatClampNeg then none else
            if (S3.1 1 0) < 0 ∨ 8 ≤ ((S3.1 1 0)).toNatClampNeg then none else
            some (some (.int (S3.1 1 0)), (uI (uI (uI (uI (uI S3 2 ((S3.1 1 0)).toNatClampNeg (x1 / 10)) 3 ((S3.1 1 0)).toNatClampNeg (x1 - x1 / 10 * 10)) 4 ((S3.1 1 0)).toNatClampNeg x2) 5 ((S3.1 1 0)).toNatClampNeg 0) 1 0 (fAdd (S3.1 1 0) 1)))
          else
            bI ((mFn d) 72 [.ref 0, .int 4] S3) (fun y5 S5 =>
              some (some (.int y5), S5)))) := (mFn_eq rfl).trans (mv_row (code := kX5_fountain (mFn d)) (mmX5_fountain (mFn d)) (cuX5_fountain (mFn d)) 53 rfl)
theorem cuX5_fountainIs (F : Nat → List Value → MS → Option MR) : mcuts (kX5_fountainIs F) [] := fun _ h => absurd h List.not_mem_nil
set_option maxRecDepth 100000 in
theorem fX5_fountainIs (d : Nat) (x1 : Int32) (x2 : Int32) (S : MS) : mFn (d + 1) 36 [.ref 0, .int x1, .int x2] S =
  bI ((mFn d) 76 [.ref 0, .int x1] S) (fun y1 S1 =>
    if y1 = 0 then
      bI ((mFn d) 72 [.ref 0, .int 1] S1) (fun y2 S2 =>
        some (some (.int y2), S2))
    else
      if x2 = 0 then
        if x1 < 0 ∨ 8 ≤ (x1).toNatClampNeg then none else
        some (some (.int (S1.1 2 (x1).toNatClampNeg)), S1)
      else if x2 = 1 then
        if x1 < 0 ∨ 8 ≤ (x1).toNatClampNeg then none else
        some (some (.int (S1.1 3 (x1).toNatClampNeg)), S1)
      else if x2 = 2 then
        if x1 < 0 ∨ 8 ≤ (x1).toNatClampNeg then none else
        some (some (.int (S1.1 4 (x1).toNatClampNeg)), S1)
      else if x2 = 3 then
        if x1 < 0 ∨ 8 ≤ (x1).toNatClampNeg then none else
        some (some (.int (S1.1 5 (x1).toNatClampNeg)), S1)
      else 
        bI ((mFn d) 72 [.ref 0, .int 1] S1) (fun y3 S3 =>
          some (some (.int y3), S3))) := (mFn_eq rfl).trans (mv_row (code := kX5_fountainIs (mFn d)) (mmX5_fountainIs (mFn d)) (cuX5_fountainIs (mFn d)) 13 rfl)
theorem cuX5_become (F : Nat → List Value → MS → Option MR) : mcuts (kX5_become F) [] := fun _ h => absurd h List.not_mem_nil
set_option maxRecDepth 100000 in
theorem fX5_become (d : Nat) (x1 : Int32) (x2 : Int32) (S : MS) : mFn (d + 1) 37 [.ref 0, .int x1, .int x2] S =
  bI ((mFn d) 76 [.ref 0, .int x1] S) (fun y1 S1 =>
    if y1 = 0 then
      bI ((mFn d) 72 [.ref 0, .int 1] S1) (fun y2 S2 =>
        some (some (.int y2), S2))
    else
      bI ((mFn d) 75 [.int x2] S1) (fun y3 S3 =>
        if y3 = 0 then
          bI ((mFn d) 72 [.ref 0, .int 1] S3) (fun y4 S4 =>
            some (some (.int y4), S4))
        else
          if x1 < 0 ∨ 8 ≤ (x1).toNatClampNeg then none else
          if (10 : Int32) = 0 then none else
          if x1 < 0 ∨ 8 ≤ (x1).toNatClampNeg then none else
          if (10 : Int32) = 0 then none else
          if x1 < 0 ∨ 8 ≤ (x1).toNatClampNeg then none else
          some (some (.int (S3.1 2 (x1).toNatClampNeg)), (uI (uI S3 2 (x1).toNatClampNeg (x2 / 10)) 3 (x1).toNatClampNeg (x2 - x2 / 10 * 10))))) := (mFn_eq rfl).trans (mv_row (code := kX5_become (mFn d)) (mmX5_become (mFn d)) (cuX5_become (mFn d)) 32 rfl)
theorem cuX5_as (F : Nat → List Value → MS → Option MR) : mcuts (kX5_as F) [] := fun _ h => absurd h List.not_mem_nil
set_option maxRecDepth 100000 in
theorem fX5_as (d : Nat) (x1 : Int32) (x2 : Int32) (S : MS) : mFn (d + 1) 38 [.ref 0, .int x1, .int x2] S =
  bI ((mFn d) 76 [.ref 0, .int x1] S) (fun y1 S1 =>
    if y1 = 0 then
      bI ((mFn d) 72 [.ref 0, .int 1] S1) (fun y2 S2 =>
        some (some (.int y2), S2))
    else
      if x2 < 0 then
        bI ((mFn d) 72 [.ref 0, .int 1] S1) (fun y3 S3 =>
          some (some (.int y3), S3))
      else
        if x2 < 7 then
          if x1 < 0 ∨ 8 ≤ (x1).toNatClampNeg then none else
          bI ((mFn d) 80 [.int (S1.1 2 (x1).toNatClampNeg), .int x2] S1) (fun y4 S4 =>
            if y4 = 0 then
              bI ((mFn d) 72 [.ref 0, .int 5] S4) (fun y5 S5 =>
                some (some (.int y5), S5))
            else
              if x1 < 0 ∨ 8 ≤ (x1).toNatClampNeg then none else
              some (some (.int (S4.1 3 (x1).toNatClampNeg)), S4))
        else
          bI ((mFn d) 72 [.ref 0, .int 1] S1) (fun y6 S6 =>
            some (some (.int y6), S6))) := (mFn_eq rfl).trans (mv_row (code := kX5_as (mFn d)) (mmX5_as (mFn d)) (cuX5_as (mFn d)) 24 rfl)
theorem cuX5_says (F : Nat → List Value → MS → Option MR) : mcuts (kX5_says F) [] := fun _ h => absurd h List.not_mem_nil
set_option maxRecDepth 100000 in
theorem fX5_says (d : Nat) (x1 : Int32) (x2 : Int32) (S : MS) : mFn (d + 1) 39 [.ref 0, .int x1, .int x2] S =
  bI ((mFn d) 78 [.ref 0, .int x1, .int x2] S) (fun y1 S1 =>
    if y1 = 0 then
      bI ((mFn d) 72 [.ref 0, .int 1] S1) (fun y2 S2 =>
        some (some (.int y2), S2))
    else
      bI ((mFn d) 0 [.ref 1, .int x1, .int x2] S1) (fun y3 S3 =>
        some (some (.int y3), S3))) := (mFn_eq rfl).trans (mv_row (code := kX5_says (mFn d)) (mmX5_says (mFn d)) (cuX5_says (mFn d)) 12 rfl)
theorem cuX5_goesOn (F : Nat → List Value → MS → Option MR) : mcuts (kX5_goesOn F) [] := fun _ h => absurd h List.not_mem_nil
set_option maxRecDepth 100000 in
theorem fX5_goesOn (d : Nat) (x1 : Int32) (x2 : Int32) (S : MS) : mFn (d + 1) 40 [.ref 0, .int x1, .int x2] S =
  bI ((mFn d) 78 [.ref 0, .int x1, .int x2] S) (fun y1 S1 =>
    if y1 = 0 then
      bI ((mFn d) 72 [.ref 0, .int 1] S1) (fun y2 S2 =>
        some (some (.int y2), S2))
    else
      bI ((mFn d) 2 [.ref 1, .int x1, .int x2] S1) (fun y3 S3 =>
        if y3 = 0 then
          some (some (.int 0), S3)
        else
          some (some (.int 1), S3))) := (mFn_eq rfl).trans (mv_row (code := kX5_goesOn (mFn d)) (mmX5_goesOn (mFn d)) (cuX5_goesOn (mFn d)) 15 rfl)
theorem cuX5_pipe (F : Nat → List Value → MS → Option MR) : mcuts (kX5_pipe F) [] := fun _ h => absurd h List.not_mem_nil
set_option maxRecDepth 100000 in
theorem fX5_pipe (d : Nat) (x1 : Int32) (x2 : Int32) (x3 : Int32) (S : MS) : mFn (d + 1) 41 [.ref 0, .int x1, .int x2, .int x3] S =
  bI ((mFn d) 76 [.ref 0, .int x1] S) (fun y1 S1 =>
    if y1 = 0 then
      bI ((mFn d) 72 [.ref 0, .int 1] S1) (fun y2 S2 =>
        some (some (.int y2), S2))
    else
      bI ((mFn d) 76 [.ref 0, .int x2] S1) (fun y3 S3 =>
        if y3 = 0 then
          bI ((mFn d) 72 [.ref 0, .int 1] S3) (fun y4 S4 =>
            some (some (.int y4), S4))
        else
          if x3 < 1 then
            bI ((mFn d) 72 [.ref 0, .int 1] S3) (fun y5 S5 =>
              some (some (.int y5), S5))
          else
            if x3 ≤ 9 then
              if x2 < 0 ∨ 8 ≤ (x2).toNatClampNeg then none else
              if x1 < 0 ∨ 8 ≤ (x1).toNatClampNeg then none else
              if (S3.1 4 (x2).toNatClampNeg) < (S3.1 4 (x1).toNatClampNeg) then
                if (S3.1 1 5) < 9 then
                  if (S3.1 1 5) < 0 ∨ 9 ≤ ((S3.1 1 5)).toNatClampNeg then none else
                  if (S3.1 1 5) < 0 ∨ 9 ≤ ((S3.1 1 5)).toNatClampNeg then none else
                  if (S3.1 1 5) < 0 ∨ 9 ≤ ((S3.1 1 5)).toNatClampNeg then none else
                  some (some (.int (S3.1 1 5)), (uI (uI (uI (uI (uI S3 6 ((S3.1 1 5)).toNatClampNeg x1) 7 ((S3.1 1 5)).toNatClampNeg x2) 8 ((S3.1 1 5)).toNatClampNeg x3) 1 9 (fOr (S3.1 1 9) (fShl 1 (S3.1 1 5)))) 1 5 (fAdd (S3.1 1 5) 1)))
                else
                  bI ((mFn d) 72 [.ref 0, .int 4] S3) (fun y6 S6 =>
                    some (some (.int y6), S6))
              else
                bI ((mFn d) 72 [.ref 0, .int 3] S3) (fun y7 S7 =>
                  some (some (.int y7), S7))
            else
              bI ((mFn d) 72 [.ref 0, .int 1] S3) (fun y8 S8 =>
                some (some (.int y8), S8)))) := (mFn_eq rfl).trans (mv_row (code := kX5_pipe (mFn d)) (mmX5_pipe (mFn d)) (cuX5_pipe (mFn d)) 71 rfl)
theorem cuX5_pipeIs (F : Nat → List Value → MS → Option MR) : mcuts (kX5_pipeIs F) [] := fun _ h => absurd h List.not_mem_nil
set_option maxRecDepth 100000 in
theorem fX5_pipeIs (d : Nat) (x1 : Int32) (x2 : Int32) (S : MS) : mFn (d + 1) 42 [.ref 0, .int x1, .int x2] S =
  bI ((mFn d) 77 [.ref 0, .int x1] S) (fun y1 S1 =>
    if y1 = 0 then
      bI ((mFn d) 72 [.ref 0, .int 1] S1) (fun y2 S2 =>
        some (some (.int y2), S2))
    else
      if x2 = 0 then
        if x1 < 0 ∨ 9 ≤ (x1).toNatClampNeg then none else
        some (some (.int (S1.1 6 (x1).toNatClampNeg)), S1)
      else if x2 = 1 then
        if x1 < 0 ∨ 9 ≤ (x1).toNatClampNeg then none else
        some (some (.int (S1.1 7 (x1).toNatClampNeg)), S1)
      else if x2 = 2 then
        if x1 < 0 ∨ 9 ≤ (x1).toNatClampNeg then none else
        some (some (.int (S1.1 8 (x1).toNatClampNeg)), S1)
      else if x2 = 3 then
        some (some (.int (fAnd (fShr (S1.1 1 9) x1) 1)), S1)
      else if x2 = 4 then
        bI ((mFn d) 3 [.ref 1, .int x1] S1) (fun y3 S3 =>
          some (some (.int y3), S3))
      else 
        bI ((mFn d) 72 [.ref 0, .int 1] S1) (fun y4 S4 =>
          some (some (.int y4), S4))) := (mFn_eq rfl).trans (mv_row (code := kX5_pipeIs (mFn d)) (mmX5_pipeIs (mFn d)) (cuX5_pipeIs (mFn d)) 15 rfl)
theorem cuX5_turn (F : Nat → List Value → MS → Option MR) : mcuts (kX5_turn F) [] := fun _ h => absurd h List.not_mem_nil
set_option maxRecDepth 100000 in
theorem fX5_turn (d : Nat) (x1 : Int32) (x2 : Int32) (S : MS) : mFn (d + 1) 43 [.ref 0, .int x1, .int x2] S =
  bI ((mFn d) 77 [.ref 0, .int x1] S) (fun y1 S1 =>
    if y1 = 0 then
      bI ((mFn d) 72 [.ref 0, .int 1] S1) (fun y2 S2 =>
        some (some (.int y2), S2))
    else
      bI ((mFn d) 73 [.int x2] S1) (fun y3 S3 =>
        if y3 = 0 then
          bI ((mFn d) 72 [.ref 0, .int 1] S3) (fun y4 S4 =>
            some (some (.int y4), S4))
        else
          if x2 = (fAnd (fShr (S3.1 1 9) x1) 1) then
            some (some (.int (fAnd (fShr (S3.1 1 9) x1) 1)), S3)
          else
            some (some (.int (fAnd (fShr (S3.1 1 9) x1) 1)), (uI S3 1 9 (fXor (S3.1 1 9) (fShl 1 x1)))))) := (mFn_eq rfl).trans (mv_row (code := kX5_turn (mFn d)) (mmX5_turn (mFn d)) (cuX5_turn (mFn d)) 30 rfl)
theorem cuX5_freeze (F : Nat → List Value → MS → Option MR) : mcuts (kX5_freeze F) [] := fun _ h => absurd h List.not_mem_nil
set_option maxRecDepth 100000 in
theorem fX5_freeze (d : Nat) (x1 : Int32) (S : MS) : mFn (d + 1) 44 [.ref 0, .int x1] S =
  bI ((mFn d) 74 [.int x1] S) (fun y1 S1 =>
    if y1 = 0 then
      bI ((mFn d) 72 [.ref 0, .int 1] S1) (fun y2 S2 =>
        some (some (.int y2), S2))
    else
      some (some (.int (S1.1 1 10)), (uI S1 1 10 x1))) := (mFn_eq rfl).trans (mv_row (code := kX5_freeze (mFn d)) (mmX5_freeze (mFn d)) (cuX5_freeze (mFn d)) 14 rfl)
theorem cuX5_feed (F : Nat → List Value → MS → Option MR) : mcuts (kX5_feed F) [(40, [0, 1, 3, 4])] := List.forall_mem_cons.mpr ⟨⟨oIload 4 42, rfl⟩, fun _ h => absurd h List.not_mem_nil⟩
set_option maxRecDepth 100000 in
theorem fX5_feed (d : Nat) (x1 : Int64) (x2 : Int32) (S : MS) : mFn (d + 1) 45 [.ref 0, .long x1, .int x2] S =
  if x2 < 1 then
    bI ((mFn d) 72 [.ref 0, .int 1] S) (fun y1 S1 =>
      some (some (.int y1), S1))
  else
    if x2 ≤ 8 then
      if (fAdd (S.1 1 14) x2) ≤ 60 then
        mv (kX5_feed (mFn d)) 40 [(0, .ref 0), (1, .long x1), (3, .int x2), (4, .int 0)] [] S
      else
        bI ((mFn d) 72 [.ref 0, .int 4] S) (fun y2 S2 =>
          some (some (.int y2), S2))
    else
      bI ((mFn d) 72 [.ref 0, .int 1] S) (fun y3 S3 =>
        some (some (.int y3), S3)) := (mFn_eq rfl).trans (mv_row (code := kX5_feed (mFn d)) (mmX5_feed (mFn d)) (cuX5_feed (mFn d)) 18 rfl)
set_option maxRecDepth 100000 in
theorem lX5_feed_40 (d : Nat) (x1 : Int64) (x3 : Int32) (x4 : Int32) (S : MS) : mv (kX5_feed (mFn d)) 40 [(0, .ref 0), (1, .long x1), (3, .int x3), (4, .int x4)] [] S =
  if x3 ≤ x4 then
    some (some (.int (fAdd (S.1 1 14) x3)), (uI S 1 14 (fAdd (S.1 1 14) x3)))
  else
    if (fAdd (S.1 1 14) x4) < 0 ∨ 60 ≤ ((fAdd (S.1 1 14) x4)).toNatClampNeg then none else
    mv (kX5_feed (mFn d)) 40 [(0, .ref 0), (1, .long x1), (3, .int x3), (4, .int (x4 + 1))] [] (uI S 9 ((fAdd (S.1 1 14) x4)).toNatClampNeg (fAnd ((lUshr x1 (fMul 8 x4))).toInt32 255)) := mv_row (mmX5_feed (mFn d)) (cuX5_feed (mFn d)) 23 rfl
theorem cuX5_text (F : Nat → List Value → MS → Option MR) : mcuts (kX5_text F) [] := fun _ h => absurd h List.not_mem_nil
set_option maxRecDepth 100000 in
theorem fX5_text (d : Nat) (x1 : Int32) (S : MS) : mFn (d + 1) 46 [.ref 0, .int x1] S =
  bI ((mFn d) 73 [.int x1] S) (fun y1 S1 =>
    if y1 = 0 then
      bI ((mFn d) 72 [.ref 0, .int 1] S1) (fun y2 S2 =>
        some (some (.int y2), S2))
    else
      if x1 = 0 then
        bI ((mFn d) 25 [.ref 39, .ref 9, .int (S1.1 1 14), .ref 1003] S1) (fun y3 S3 =>
          if y3 < 0 then
            if x1 < 0 ∨ 2 ≤ (x1).toNatClampNeg then none else
            (match rv (uI S3 1 14 0) 11 (x1).toNatClampNeg with
            | some q4 => bif kO q4 4 && true then
                bV ((mFn d) 22 [.ref q4, .ref 39] (uI S3 1 14 0)) (fun S5 =>
                some (some (.int 1), S5))
              else none
            | none => none)
          else
            some (some (.int (fSub (-10) y3)), (uI S3 1 14 0)))
      else
        bI ((mFn d) 25 [.ref 39, .ref 9, .int (S1.1 1 14), .ref 1004] S1) (fun y6 S6 =>
          if y6 < 0 then
            if x1 < 0 ∨ 2 ≤ (x1).toNatClampNeg then none else
            (match rv (uI S6 1 14 0) 11 (x1).toNatClampNeg with
            | some q7 => bif kO q7 4 && true then
                bV ((mFn d) 22 [.ref q7, .ref 39] (uI S6 1 14 0)) (fun S8 =>
                some (some (.int 1), S8))
              else none
            | none => none)
          else
            some (some (.int (fSub (-10) y6)), (uI S6 1 14 0)))) := (mFn_eq rfl).trans (mv_row (code := kX5_text (mFn d)) (mmX5_text (mFn d)) (cuX5_text (mFn d)) 34 rfl)
theorem cuX5_untell (F : Nat → List Value → MS → Option MR) : mcuts (kX5_untell F) [] := fun _ h => absurd h List.not_mem_nil
set_option maxRecDepth 100000 in
theorem fX5_untell (d : Nat) (x1 : Int32) (S : MS) : mFn (d + 1) 47 [.ref 0, .int x1] S =
  bI ((mFn d) 73 [.int x1] S) (fun y1 S1 =>
    if y1 = 0 then
      bI ((mFn d) 72 [.ref 0, .int 1] S1) (fun y2 S2 =>
        some (some (.int y2), S2))
    else
      if x1 < 0 ∨ 2 ≤ (x1).toNatClampNeg then none else
      (match rv S1 11 (x1).toNatClampNeg with
      | some q3 => bif kO q3 4 then
          if (S1.1 q3 0) = 0 then
            if x1 < 0 ∨ 2 ≤ (x1).toNatClampNeg then none else
            (match rv S1 11 (x1).toNatClampNeg with
            | some q4 => bif kO q4 4 then
                some (some (.int 0), (uI S1 q4 0 0))
              else none
            | none => none)
          else
            if x1 < 0 ∨ 2 ≤ (x1).toNatClampNeg then none else
            (match rv S1 11 (x1).toNatClampNeg with
            | some q5 => bif kO q5 4 then
                some (some (.int 1), (uI S1 q5 0 0))
              else none
            | none => none)
        else none
      | none => none)) := (mFn_eq rfl).trans (mv_row (code := kX5_untell (mFn d)) (mmX5_untell (mFn d)) (cuX5_untell (mFn d)) 23 rfl)
theorem cuX5_law (F : Nat → List Value → MS → Option MR) : mcuts (kX5_law F) [] := fun _ h => absurd h List.not_mem_nil
set_option maxRecDepth 100000 in
theorem fX5_law (d : Nat) (x1 : Int32) (x2 : Int32) (x3 : Int32) (x4 : Int32) (S : MS) : mFn (d + 1) 48 [.ref 0, .int x1, .int x2, .int x3, .int x4] S =
  bI ((mFn d) 73 [.int x1] S) (fun y1 S1 =>
    if y1 = 0 then
      bI ((mFn d) 72 [.ref 0, .int 1] S1) (fun y2 S2 =>
        some (some (.int y2), S2))
    else
      bI ((mFn d) 4 [.ref 1, .int x1, .int x2, .int x3, .int x4] S1) (fun y3 S3 =>
        some (some (.int y3), S3))) := (mFn_eq rfl).trans (mv_row (code := kX5_law (mFn d)) (mmX5_law (mFn d)) (cuX5_law (mFn d)) 12 rfl)
theorem cuX5_hears (F : Nat → List Value → MS → Option MR) : mcuts (kX5_hears F) [] := fun _ h => absurd h List.not_mem_nil
set_option maxRecDepth 100000 in
theorem fX5_hears (d : Nat) (x1 : Int32) (x2 : Int32) (S : MS) : mFn (d + 1) 49 [.ref 0, .int x1, .int x2] S =
  bI ((mFn d) 78 [.ref 0, .int x1, .int x2] S) (fun y1 S1 =>
    if y1 = 0 then
      bI ((mFn d) 72 [.ref 0, .int 1] S1) (fun y2 S2 =>
        some (some (.int y2), S2))
    else
      bV ((mFn d) 8 [.ref 35] S1) (fun S3 =>
        bV ((mFn d) 9 [.ref 35, .int x1, .int x2, .int (S3.1 1 9)] S3) (fun S4 =>
          some (some (.int (S4.1 35 4)), S4)))) := (mFn_eq rfl).trans (mv_row (code := kX5_hears (mFn d)) (mmX5_hears (mFn d)) (cuX5_hears (mFn d)) 21 rfl)
theorem cuX5_heard (F : Nat → List Value → MS → Option MR) : mcuts (kX5_heard F) [] := fun _ h => absurd h List.not_mem_nil
set_option maxRecDepth 100000 in
theorem fX5_heard (d : Nat) (x1 : Int32) (x2 : Int32) (x3 : Int32) (x4 : Int32) (S : MS) : mFn (d + 1) 50 [.ref 0, .int x1, .int x2, .int x3, .int x4] S =
  bI ((mFn d) 78 [.ref 0, .int x1, .int x2] S) (fun y1 S1 =>
    if y1 = 0 then
      bI ((mFn d) 72 [.ref 0, .int 1] S1) (fun y2 S2 =>
        some (some (.int y2), S2))
    else
      bI ((mFn d) 76 [.ref 0, .int x3] S1) (fun y3 S3 =>
        if y3 = 0 then
          bI ((mFn d) 72 [.ref 0, .int 1] S3) (fun y4 S4 =>
            some (some (.int y4), S4))
        else
          bI ((mFn d) 73 [.int x4] S3) (fun y5 S5 =>
            if y5 = 0 then
              bI ((mFn d) 72 [.ref 0, .int 1] S5) (fun y6 S6 =>
                some (some (.int y6), S6))
            else
              bV ((mFn d) 8 [.ref 35] S5) (fun S7 =>
                bV ((mFn d) 9 [.ref 35, .int x1, .int x2, .int (S7.1 1 9)] S7) (fun S8 =>
                  bI ((mFn d) 10 [.ref 35, .int x3] S8) (fun y9 S9 =>
                    if y9 = 0 then
                      bI ((mFn d) 72 [.ref 0, .int 2] S9) (fun y10 S10 =>
                        some (some (.int y10), S10))
                    else
                      if x4 = 0 then
                        if x3 < 0 ∨ 8 ≤ (x3).toNatClampNeg then none else
                        some (some (.int (S9.1 37 (x3).toNatClampNeg)), S9)
                      else
                        if x3 < 0 ∨ 8 ≤ (x3).toNatClampNeg then none else
                        some (some (.int (S9.1 38 (x3).toNatClampNeg)), S9))))))) := (mFn_eq rfl).trans (mv_row (code := kX5_heard (mFn d)) (mmX5_heard (mFn d)) (cuX5_heard (mFn d)) 38 rfl)
theorem cuX5_let (F : Nat → List Value → MS → Option MR) : mcuts (kX5_let F) [] := fun _ h => absurd h List.not_mem_nil
set_option maxRecDepth 100000 in
theorem fX5_let (d : Nat) (x1 : Int32) (x2 : Int32) (S : MS) : mFn (d + 1) 51 [.ref 0, .int x1, .int x2] S =
  bI ((mFn d) 78 [.ref 0, .int x1, .int x2] S) (fun y1 S1 =>
    if y1 = 0 then
      bI ((mFn d) 72 [.ref 0, .int 1] S1) (fun y2 S2 =>
        some (some (.int y2), S2))
    else
      bI ((mFn d) 82 [.ref 0, .int x1, .int x2] S1) (fun y3 S3 =>
        some (some (.int y3), S3))) := (mFn_eq rfl).trans (mv_row (code := kX5_let (mFn d)) (mmX5_let (mFn d)) (cuX5_let (mFn d)) 11 rfl)
theorem cuX5_days (F : Nat → List Value → MS → Option MR) : mcuts (kX5_days F) [(40, [0, 1, 2])] := List.forall_mem_cons.mpr ⟨⟨oIload 2 41, rfl⟩, fun _ h => absurd h List.not_mem_nil⟩
set_option maxRecDepth 100000 in
theorem fX5_days (d : Nat) (x1 : Int32) (S : MS) : mFn (d + 1) 52 [.ref 0, .int x1] S =
  if x1 < 1 then
    bI ((mFn d) 72 [.ref 0, .int 1] S) (fun y1 S1 =>
      some (some (.int y1), S1))
  else
    if x1 ≤ 30 then
      if (fAdd (S.1 1 11) x1) ≤ 9999 then
        mv (kX5_days (mFn d)) 40 [(0, .ref 0), (1, .int x1), (2, .int 0)] [] S
      else
        bI ((mFn d) 72 [.ref 0, .int 3] S) (fun y2 S2 =>
          some (some (.int y2), S2))
    else
      bI ((mFn d) 72 [.ref 0, .int 1] S) (fun y3 S3 =>
        some (some (.int y3), S3)) := (mFn_eq rfl).trans (mv_row (code := kX5_days (mFn d)) (mmX5_days (mFn d)) (cuX5_days (mFn d)) 18 rfl)
set_option maxRecDepth 100000 in
theorem lX5_days_40 (d : Nat) (x1 : Int32) (x2 : Int32) (S : MS) : mv (kX5_days (mFn d)) 40 [(0, .ref 0), (1, .int x1), (2, .int x2)] [] S =
  if x1 ≤ x2 then
    some (some (.int (S.1 1 11)), S)
  else
    bV ((mFn d) 5 [.ref 1] S) (fun S1 =>
      mv (kX5_days (mFn d)) 40 [(0, .ref 0), (1, .int x1), (2, .int (x2 + 1))] [] S1) := mv_row (mmX5_days (mFn d)) (cuX5_days (mFn d)) 9 rfl
theorem cuX5_loose (F : Nat → List Value → MS → Option MR) : mcuts (kX5_loose F) [(42, [0, 1, 2, 3])] := List.forall_mem_cons.mpr ⟨⟨oIload 3 43, rfl⟩, fun _ h => absurd h List.not_mem_nil⟩
set_option maxRecDepth 100000 in
theorem fX5_loose (d : Nat) (x1 : Int32) (S : MS) : mFn (d + 1) 53 [.ref 0, .int x1] S =
  if x1 < 1 then
    bI ((mFn d) 72 [.ref 0, .int 1] S) (fun y1 S1 =>
      some (some (.int y1), S1))
  else
    if x1 ≤ 20 then
      if (fAdd (S.1 1 11) x1) ≤ 9999 then
        mv (kX5_loose (mFn d)) 42 [(0, .ref 0), (1, .int x1), (2, .int 0), (3, .int 0)] [] S
      else
        bI ((mFn d) 72 [.ref 0, .int 3] S) (fun y2 S2 =>
          some (some (.int y2), S2))
    else
      bI ((mFn d) 72 [.ref 0, .int 1] S) (fun y3 S3 =>
        some (some (.int y3), S3)) := (mFn_eq rfl).trans (mv_row (code := kX5_loose (mFn d)) (mmX5_loose (mFn d)) (cuX5_loose (mFn d)) 18 rfl)
set_option maxRecDepth 100000 in
theorem lX5_loose_42 (d : Nat) (x1 : Int32) (x2 : Int32) (x3 : Int32) (S : MS) : mv (kX5_loose (mFn d)) 42 [(0, .ref 0), (1, .int x1), (2, .int x2), (3, .int x3)] [] S =
  if x1 ≤ x3 then
    some (some (.int x2), S)
  else
    bI ((mFn d) 6 [.ref 1] S) (fun y1 S1 =>
      if (10 : Int32) = 0 then none else
      if (S1.1 1 0) ≤ 0 then
        mv (kX5_loose (mFn d)) 42 [(0, .ref 0), (1, .int x1), (2, .int x2), (3, .int (x3 + 1))] [] (uI (uI S1 1 10 (y1 - y1 / 10 * 10)) 1 11 (fAdd (S1.1 1 11) 1))
      else
        bI ((mFn d) 6 [.ref 1] (uI S1 1 10 (y1 - y1 / 10 * 10))) (fun y2 S2 =>
          if (S2.1 1 0) = 0 then none else
          bI ((mFn d) 6 [.ref 1] S2) (fun y3 S3 =>
            if (20 : Int32) = 0 then none else
            bI ((mFn d) 82 [.ref 0, .int (y2 - y2 / (S2.1 1 0) * (S2.1 1 0)), .int (fAdd 1 (y3 - y3 / 20 * 20))] S3) (fun y4 S4 =>
              mv (kX5_loose (mFn d)) 42 [(0, .ref 0), (1, .int x1), (2, .int (fOr x2 y4)), (3, .int (x3 + 1))] [] (uI S4 1 11 (fAdd (S4.1 1 11) 1)))))) := mv_row (mmX5_loose (mFn d)) (cuX5_loose (mFn d)) 46 rfl
theorem cuX5_seed (F : Nat → List Value → MS → Option MR) : mcuts (kX5_seed F) [] := fun _ h => absurd h List.not_mem_nil
set_option maxRecDepth 100000 in
theorem fX5_seed (d : Nat) (x1 : Int32) (S : MS) : mFn (d + 1) 54 [.ref 0, .int x1] S =
  some (some (.int (S.1 1 12)), (uI S 1 12 x1)) := (mFn_eq rfl).trans (mv_row (code := kX5_seed (mFn d)) (mmX5_seed (mFn d)) (cuX5_seed (mFn d)) 11 rfl)
theorem cuX5_hush (F : Nat → List Value → MS → Option MR) : mcuts (kX5_hush F) [] := fun _ h => absurd h List.not_mem_nil
set_option maxRecDepth 100000 in
theorem fX5_hush (d : Nat) (x1 : Int32) (x2 : Int32) (x3 : Int32) (x4 : Int32) (S : MS) : mFn (d + 1) 55 [.ref 0, .int x1, .int x2, .int x3, .int x4] S =
  bI ((mFn d) 78 [.ref 0, .int x1, .int x2] S) (fun y1 S1 =>
    if y1 = 0 then
      bI ((mFn d) 72 [.ref 0, .int 1] S1) (fun y2 S2 =>
        some (some (.int y2), S2))
    else
      bI ((mFn d) 76 [.ref 0, .int x3] S1) (fun y3 S3 =>
        if y3 = 0 then
          bI ((mFn d) 72 [.ref 0, .int 1] S3) (fun y4 S4 =>
            some (some (.int y4), S4))
        else
          bI ((mFn d) 73 [.int x4] S3) (fun y5 S5 =>
            if y5 = 0 then
              bI ((mFn d) 72 [.ref 0, .int 1] S5) (fun y6 S6 =>
                some (some (.int y6), S6))
            else
              if x1 = x3 then
                bI ((mFn d) 72 [.ref 0, .int 3] S5) (fun y7 S7 =>
                  some (some (.int y7), S7))
              else
                bI ((mFn d) 83 [.ref 0, .int x1, .int x2, .int x3] S5) (fun y8 S8 =>
                  if x4 = 0 then
                    bI ((mFn d) 184 [.int y8] S8) (fun y9 S9 =>
                      some (some (.int y9), S9))
                  else
                    some (some (.int y8), S8))))) := (mFn_eq rfl).trans (mv_row (code := kX5_hush (mFn d)) (mmX5_hush (mFn d)) (cuX5_hush (mFn d)) 28 rfl)
theorem cuX5_reach (F : Nat → List Value → MS → Option MR) : mcuts (kX5_reach F) [] := fun _ h => absurd h List.not_mem_nil
set_option maxRecDepth 100000 in
theorem fX5_reach (d : Nat) (x1 : Int32) (x2 : Int32) (x3 : Int32) (x4 : Int32) (x5 : Int32) (S : MS) : mFn (d + 1) 56 [.ref 0, .int x1, .int x2, .int x3, .int x4, .int x5] S =
  bI ((mFn d) 78 [.ref 0, .int x1, .int x2] S) (fun y1 S1 =>
    if y1 = 0 then
      bI ((mFn d) 72 [.ref 0, .int 1] S1) (fun y2 S2 =>
        some (some (.int y2), S2))
    else
      bI ((mFn d) 76 [.ref 0, .int x3] S1) (fun y3 S3 =>
        if y3 = 0 then
          bI ((mFn d) 72 [.ref 0, .int 1] S3) (fun y4 S4 =>
            some (some (.int y4), S4))
        else
          if x4 < 0 then
            bI ((mFn d) 72 [.ref 0, .int 1] S3) (fun y5 S5 =>
              some (some (.int y5), S5))
          else
            if 99 < x4 then
              bI ((mFn d) 72 [.ref 0, .int 1] S3) (fun y6 S6 =>
                some (some (.int y6), S6))
            else
              bI ((mFn d) 73 [.int x5] S3) (fun y7 S7 =>
                if y7 = 0 then
                  bI ((mFn d) 72 [.ref 0, .int 1] S7) (fun y8 S8 =>
                    some (some (.int y8), S8))
                else
                  bI ((mFn d) 84 [.ref 0, .int x1, .int x2, .int x3, .int x4] S7) (fun y9 S9 =>
                    if 0 ≤ y9 then
                      if x5 = 0 then
                        bI ((mFn d) 184 [.int y9] S9) (fun y10 S10 =>
                          some (some (.int y10), S10))
                      else
                        some (some (.int y9), S9)
                    else
                      bI ((mFn d) 72 [.ref 0, .int 2] S9) (fun y11 S11 =>
                        some (some (.int y11), S11)))))) := (mFn_eq rfl).trans (mv_row (code := kX5_reach (mFn d)) (mmX5_reach (mFn d)) (cuX5_reach (mFn d)) 33 rfl)
theorem cuX5_odds (F : Nat → List Value → MS → Option MR) : mcuts (kX5_odds F) [(35, [0, 1, 2, 3, 4, 5])] := List.forall_mem_cons.mpr ⟨⟨oIload 5 37, rfl⟩, fun _ h => absurd h List.not_mem_nil⟩
set_option maxRecDepth 100000 in
theorem fX5_odds (d : Nat) (x1 : Int32) (x2 : Int32) (x3 : Int32) (S : MS) : mFn (d + 1) 57 [.ref 0, .int x1, .int x2, .int x3] S =
  bI ((mFn d) 78 [.ref 0, .int x1, .int x2] S) (fun y1 S1 =>
    if y1 = 0 then
      bI ((mFn d) 72 [.ref 0, .int 1] S1) (fun y2 S2 =>
        some (some (.int y2), S2))
    else
      bI ((mFn d) 73 [.int x3] S1) (fun y3 S3 =>
        if y3 = 0 then
          bI ((mFn d) 72 [.ref 0, .int 1] S3) (fun y4 S4 =>
            some (some (.int y4), S4))
        else
          bV ((mFn d) 8 [.ref 35] S3) (fun S5 =>
            mv (kX5_odds (mFn d)) 35 [(0, .ref 0), (1, .int x1), (2, .int x2), (3, .int x3), (4, .int 0), (5, .int 0)] [] S5))) := (mFn_eq rfl).trans (mv_row (code := kX5_odds (mFn d)) (mmX5_odds (mFn d)) (cuX5_odds (mFn d)) 16 rfl)
set_option maxRecDepth 100000 in
theorem lX5_odds_35 (d : Nat) (x1 : Int32) (x2 : Int32) (x3 : Int32) (x4 : Int32) (x5 : Int32) (S : MS) : mv (kX5_odds (mFn d)) 35 [(0, .ref 0), (1, .int x1), (2, .int x2), (3, .int x3), (4, .int x4), (5, .int x5)] [] S =
  if (S.1 1 0) ≤ x5 then
    bI ((mFn d) 81 [.int x4, .int (S.1 1 0)] S) (fun y1 S1 =>
      if x3 = 0 then
        if y1 = 0 then none else
        some (some (.int (x4 / y1)), S1)
      else
        if y1 = 0 then none else
        some (some (.int ((S1.1 1 0) / y1)), S1))
  else
    bV ((mFn d) 9 [.ref 35, .int x5, .int x2, .int (S.1 1 9)] S) (fun S2 =>
      bI ((mFn d) 10 [.ref 35, .int x1] S2) (fun y3 S3 =>
        if y3 = 0 then
          mv (kX5_odds (mFn d)) 35 [(0, .ref 0), (1, .int x1), (2, .int x2), (3, .int x3), (4, .int x4), (5, .int (x5 + 1))] [] S3
        else
          mv (kX5_odds (mFn d)) 35 [(0, .ref 0), (1, .int x1), (2, .int x2), (3, .int x3), (4, .int (x4 + 1)), (5, .int (x5 + 1))] [] S3)) := mv_row (mmX5_odds (mFn d)) (cuX5_odds (mFn d)) 22 rfl
theorem cuX5_fits (F : Nat → List Value → MS → Option MR) : mcuts (kX5_fits F) [(53, [0, 1, 2, 3, 4, 5]), (68, [0, 1, 2, 3, 4, 5, 6])] := List.forall_mem_cons.mpr ⟨⟨oIload 5 55, rfl⟩, List.forall_mem_cons.mpr ⟨⟨oIload 6 70, rfl⟩, fun _ h => absurd h List.not_mem_nil⟩⟩
set_option maxRecDepth 100000 in
theorem fX5_fits (d : Nat) (x1 : Int32) (x2 : Int32) (S : MS) : mFn (d + 1) 58 [.ref 0, .int x1, .int x2] S =
  bI ((mFn d) 79 [.int x1] S) (fun y1 S1 =>
    if y1 = 0 then
      bI ((mFn d) 72 [.ref 0, .int 1] S1) (fun y2 S2 =>
        some (some (.int y2), S2))
    else
      bI ((mFn d) 73 [.int x2] S1) (fun y3 S3 =>
        if y3 = 0 then
          bI ((mFn d) 72 [.ref 0, .int 1] S3) (fun y4 S4 =>
            some (some (.int y4), S4))
        else
          if x1 < 0 ∨ 4 ≤ (x1).toNatClampNeg then none else
          (match rv S3 44 (x1).toNatClampNeg with
          | some q5 => bif kO q5 2 && true then
              bI ((mFn d) 15 [.ref q5] S3) (fun y6 S6 =>
              if y6 = 0 then
                bV ((mFn d) 8 [.ref 35] S6) (fun S7 =>
                  mv (kX5_fits (mFn d)) 53 [(0, .ref 0), (1, .int x1), (2, .int x2), (3, .int 0), (4, .int (-1)), (5, .int 0)] [] S7)
              else
                bI ((mFn d) 72 [.ref 0, .int 2] S6) (fun y8 S8 =>
                  some (some (.int y8), S8)))
            else none
          | none => none))) := (mFn_eq rfl).trans (mv_row (code := kX5_fits (mFn d)) (mmX5_fits (mFn d)) (cuX5_fits (mFn d)) 22 rfl)
set_option maxRecDepth 100000 in
theorem lX5_fits_53 (d : Nat) (x1 : Int32) (x2 : Int32) (x3 : Int32) (x4 : Int32) (x5 : Int32) (S : MS) : mv (kX5_fits (mFn d)) 53 [(0, .ref 0), (1, .int x1), (2, .int x2), (3, .int x3), (4, .int x4), (5, .int x5)] [] S =
  if (S.1 1 0) ≤ x5 then
    if x2 = 0 then
      some (some (.int x3), S)
    else
      if 0 ≤ x4 then
        some (some (.int x4), S)
      else
        bI ((mFn d) 72 [.ref 0, .int 2] S) (fun y1 S1 =>
          some (some (.int y1), S1))
  else
    mv (kX5_fits (mFn d)) 68 [(0, .ref 0), (1, .int x1), (2, .int x2), (3, .int x3), (4, .int x4), (5, .int x5), (6, .int 1)] [] S := mv_row (mmX5_fits (mFn d)) (cuX5_fits (mFn d)) 15 rfl
set_option maxRecDepth 100000 in
theorem lX5_fits_68 (d : Nat) (x1 : Int32) (x2 : Int32) (x3 : Int32) (x4 : Int32) (x5 : Int32) (x6 : Int32) (S : MS) : mv (kX5_fits (mFn d)) 68 [(0, .ref 0), (1, .int x1), (2, .int x2), (3, .int x3), (4, .int x4), (5, .int x5), (6, .int x6)] [] S =
  if 20 < x6 then
    mv (kX5_fits (mFn d)) 53 [(0, .ref 0), (1, .int x1), (2, .int x2), (3, .int x3), (4, .int x4), (5, .int (x5 + 1))] [] S
  else
    bV ((mFn d) 9 [.ref 35, .int x5, .int x6, .int (S.1 1 9)] S) (fun S1 =>
      if x1 < 0 ∨ 4 ≤ (x1).toNatClampNeg then none else
      (match rv S1 44 (x1).toNatClampNeg with
      | some q2 => bI ((mFn d) 85 [.ref 0, .ref q2] S1) (fun y3 S3 =>
          if y3 = 0 then
            mv (kX5_fits (mFn d)) 68 [(0, .ref 0), (1, .int x1), (2, .int x2), (3, .int x3), (4, .int x4), (5, .int x5), (6, .int (x6 + 1))] [] S3
          else
            if 0 ≤ x4 then
              mv (kX5_fits (mFn d)) 68 [(0, .ref 0), (1, .int x1), (2, .int x2), (3, .int (x3 + 1)), (4, .int x4), (5, .int x5), (6, .int (x6 + 1))] [] S3
            else
              mv (kX5_fits (mFn d)) 68 [(0, .ref 0), (1, .int x1), (2, .int x2), (3, .int (x3 + 1)), (4, .int (fAdd (fMul 100 x5) x6)), (5, .int x5), (6, .int (x6 + 1))] [] S3)
      | none => none)) := mv_row (mmX5_fits (mFn d)) (cuX5_fits (mFn d)) 30 rfl
theorem cuX5_voice (F : Nat → List Value → MS → Option MR) : mcuts (kX5_voice F) [] := fun _ h => absurd h List.not_mem_nil
set_option maxRecDepth 100000 in
theorem fX5_voice (d : Nat) (x1 : Int32) (x2 : Int32) (x3 : Int32) (S : MS) : mFn (d + 1) 59 [.ref 0, .int x1, .int x2, .int x3] S =
  bI ((mFn d) 76 [.ref 0, .int x1] S) (fun y1 S1 =>
    if y1 = 0 then
      bI ((mFn d) 72 [.ref 0, .int 1] S1) (fun y2 S2 =>
        some (some (.int y2), S2))
    else
      if x2 < 0 then
        bI ((mFn d) 72 [.ref 0, .int 1] S1) (fun y3 S3 =>
          some (some (.int y3), S3))
      else
        if x2 ≤ 3 then
          bI ((mFn d) 18 [.ref 42, .ref 1, .int x1, .int x2, .int x3] S1) (fun y4 S4 =>
            if (S4.1 42 3) = 0 then
              some (some (.int y4), S4)
            else
              bI ((mFn d) 72 [.ref 0, .int 6] S4) (fun y5 S5 =>
                some (some (.int y5), S5)))
        else
          bI ((mFn d) 72 [.ref 0, .int 1] S1) (fun y6 S6 =>
            some (some (.int y6), S6))) := (mFn_eq rfl).trans (mv_row (code := kX5_voice (mFn d)) (mmX5_voice (mFn d)) (cuX5_voice (mFn d)) 28 rfl)
theorem cuX5_body (F : Nat → List Value → MS → Option MR) : mcuts (kX5_body F) [] := fun _ h => absurd h List.not_mem_nil
set_option maxRecDepth 100000 in
theorem fX5_body (d : Nat) (x1 : Int32) (S : MS) : mFn (d + 1) 60 [.ref 0, .int x1] S =
  if x1 < 0 then
    bI ((mFn d) 72 [.ref 0, .int 2] S) (fun y1 S1 =>
      some (some (.int y1), S1))
  else
    if x1 < (S.1 42 5) then
      if x1 < 0 ∨ 30 ≤ (x1).toNatClampNeg then none else
      some (some (.int (S.1 43 (x1).toNatClampNeg)), S)
    else
      bI ((mFn d) 72 [.ref 0, .int 2] S) (fun y2 S2 =>
        some (some (.int y2), S2)) := (mFn_eq rfl).trans (mv_row (code := kX5_body (mFn d)) (mmX5_body (mFn d)) (cuX5_body (mFn d)) 14 rfl)
theorem cuX5_sheet (F : Nat → List Value → MS → Option MR) : mcuts (kX5_sheet F) [] := fun _ h => absurd h List.not_mem_nil
set_option maxRecDepth 100000 in
theorem fX5_sheet (d : Nat) (x1 : Int32) (x2 : Int32) (x3 : Int32) (S : MS) : mFn (d + 1) 61 [.ref 0, .int x1, .int x2, .int x3] S =
  bI ((mFn d) 79 [.int x1] S) (fun y1 S1 =>
    if y1 = 0 then
      bI ((mFn d) 72 [.ref 0, .int 1] S1) (fun y2 S2 =>
        some (some (.int y2), S2))
    else
      if x2 = 0 then
        if x2 = 0 then
          if x2 = 0 then
            if x1 < 0 ∨ 4 ≤ (x1).toNatClampNeg then none else
            (match rv S1 44 (x1).toNatClampNeg with
            | some q3 => if x2 = 0 then
                bif kO q3 2 && true then
                  bV ((mFn d) 14 [.ref q3, .int x2, .int 0] S1) (fun S4 =>
                  some (some (.int 1), S4))
                else none
              else
                bif kO q3 2 && true then
                  bV ((mFn d) 14 [.ref q3, .int x2, .int x3] S1) (fun S5 =>
                  some (some (.int 1), S5))
                else none
            | none => none)
          else
            if x3 ≤ 24 then
              if x1 < 0 ∨ 4 ≤ (x1).toNatClampNeg then none else
              (match rv S1 44 (x1).toNatClampNeg with
              | some q6 => if x2 = 0 then
                  bif kO q6 2 && true then
                    bV ((mFn d) 14 [.ref q6, .int x2, .int 0] S1) (fun S7 =>
                    some (some (.int 1), S7))
                  else none
                else
                  bif kO q6 2 && true then
                    bV ((mFn d) 14 [.ref q6, .int x2, .int x3] S1) (fun S8 =>
                    some (some (.int 1), S8))
                  else none
              | none => none)
            else
              bI ((mFn d) 72 [.ref 0, .int 1] S1) (fun y9 S9 =>
                some (some (.int y9), S9))
        else
          if 0 ≤ x3 then
            if x2 = 0 then
              if x1 < 0 ∨ 4 ≤ (x1).toNatClampNeg then none else
              (match rv S1 44 (x1).toNatClampNeg with
              | some q10 => if x2 = 0 then
                  bif kO q10 2 && true then
                    bV ((mFn d) 14 [.ref q10, .int x2, .int 0] S1) (fun S11 =>
                    some (some (.int 1), S11))
                  else none
                else
                  bif kO q10 2 && true then
                    bV ((mFn d) 14 [.ref q10, .int x2, .int x3] S1) (fun S12 =>
                    some (some (.int 1), S12))
                  else none
              | none => none)
            else
              if x3 ≤ 24 then
                if x1 < 0 ∨ 4 ≤ (x1).toNatClampNeg then none else
                (match rv S1 44 (x1).toNatClampNeg with
                | some q13 => if x2 = 0 then
                    bif kO q13 2 && true then
                      bV ((mFn d) 14 [.ref q13, .int x2, .int 0] S1) (fun S14 =>
                      some (some (.int 1), S14))
                    else none
                  else
                    bif kO q13 2 && true then
                      bV ((mFn d) 14 [.ref q13, .int x2, .int x3] S1) (fun S15 =>
                      some (some (.int 1), S15))
                    else none
                | none => none)
              else
                bI ((mFn d) 72 [.ref 0, .int 1] S1) (fun y16 S16 =>
                  some (some (.int y16), S16))
          else
            bI ((mFn d) 72 [.ref 0, .int 3] S1) (fun y17 S17 =>
              some (some (.int y17), S17))
      else
        if x2 = 8 then
          if x2 = 0 then
            if x2 = 0 then
              if x1 < 0 ∨ 4 ≤ (x1).toNatClampNeg then none else
              (match rv S1 44 (x1).toNatClampNeg with
              | some q18 => if x2 = 0 then
                  bif kO q18 2 && true then
                    bV ((mFn d) 14 [.ref q18, .int x2, .int 0] S1) (fun S19 =>
                    some (some (.int 1), S19))
                  else none
                else
                  bif kO q18 2 && true then
                    bV ((mFn d) 14 [.ref q18, .int x2, .int x3] S1) (fun S20 =>
                    some (some (.int 1), S20))
                  else none
              | none => none)
            else
              if x3 ≤ 24 then
                if x1 < 0 ∨ 4 ≤ (x1).toNatClampNeg then none else
                (match rv S1 44 (x1).toNatClampNeg with
                | some q21 => if x2 = 0 then
                    bif kO q21 2 && true then
                      bV ((mFn d) 14 [.ref q21, .int x2, .int 0] S1) (fun S22 =>
                      some (some (.int 1), S22))
                    else none
                  else
                    bif kO q21 2 && true then
                      bV ((mFn d) 14 [.ref q21, .int x2, .int x3] S1) (fun S23 =>
                      some (some (.int 1), S23))
                    else none
                | none => none)
              else
                bI ((mFn d) 72 [.ref 0, .int 1] S1) (fun y24 S24 =>
                  some (some (.int y24), S24))
          else
            if 0 ≤ x3 then
              if x2 = 0 then
                if x1 < 0 ∨ 4 ≤ (x1).toNatClampNeg then none else
                (match rv S1 44 (x1).toNatClampNeg with
                | some q25 => if x2 = 0 then
                    bif kO q25 2 && true then
                      bV ((mFn d) 14 [.ref q25, .int x2, .int 0] S1) (fun S26 =>
                      some (some (.int 1), S26))
                    else none
                  else
                    bif kO q25 2 && true then
                      bV ((mFn d) 14 [.ref q25, .int x2, .int x3] S1) (fun S27 =>
                      some (some (.int 1), S27))
                    else none
                | none => none)
              else
                if x3 ≤ 24 then
                  if x1 < 0 ∨ 4 ≤ (x1).toNatClampNeg then none else
                  (match rv S1 44 (x1).toNatClampNeg with
                  | some q28 => if x2 = 0 then
                      bif kO q28 2 && true then
                        bV ((mFn d) 14 [.ref q28, .int x2, .int 0] S1) (fun S29 =>
                        some (some (.int 1), S29))
                      else none
                    else
                      bif kO q28 2 && true then
                        bV ((mFn d) 14 [.ref q28, .int x2, .int x3] S1) (fun S30 =>
                        some (some (.int 1), S30))
                      else none
                  | none => none)
                else
                  bI ((mFn d) 72 [.ref 0, .int 1] S1) (fun y31 S31 =>
                    some (some (.int y31), S31))
            else
              bI ((mFn d) 72 [.ref 0, .int 3] S1) (fun y32 S32 =>
                some (some (.int y32), S32))
        else
          if x2 = 16 then
            if x2 = 0 then
              if x2 = 0 then
                if x1 < 0 ∨ 4 ≤ (x1).toNatClampNeg then none else
                (match rv S1 44 (x1).toNatClampNeg with
                | some q33 => if x2 = 0 then
                    bif kO q33 2 && true then
                      bV ((mFn d) 14 [.ref q33, .int x2, .int 0] S1) (fun S34 =>
                      some (some (.int 1), S34))
                    else none
                  else
                    bif kO q33 2 && true then
                      bV ((mFn d) 14 [.ref q33, .int x2, .int x3] S1) (fun S35 =>
                      some (some (.int 1), S35))
                    else none
                | none => none)
              else
                if x3 ≤ 24 then
                  if x1 < 0 ∨ 4 ≤ (x1).toNatClampNeg then none else
                  (match rv S1 44 (x1).toNatClampNeg with
                  | some q36 => if x2 = 0 then
                      bif kO q36 2 && true then
                        bV ((mFn d) 14 [.ref q36, .int x2, .int 0] S1) (fun S37 =>
                        some (some (.int 1), S37))
                      else none
                    else
                      bif kO q36 2 && true then
                        bV ((mFn d) 14 [.ref q36, .int x2, .int x3] S1) (fun S38 =>
                        some (some (.int 1), S38))
                      else none
                  | none => none)
                else
                  bI ((mFn d) 72 [.ref 0, .int 1] S1) (fun y39 S39 =>
                    some (some (.int y39), S39))
            else
              if 0 ≤ x3 then
                if x2 = 0 then
                  if x1 < 0 ∨ 4 ≤ (x1).toNatClampNeg then none else
                  (match rv S1 44 (x1).toNatClampNeg with
                  | some q40 => if x2 = 0 then
                      bif kO q40 2 && true then
                        bV ((mFn d) 14 [.ref q40, .int x2, .int 0] S1) (fun S41 =>
                        some (some (.int 1), S41))
                      else none
                    else
                      bif kO q40 2 && true then
                        bV ((mFn d) 14 [.ref q40, .int x2, .int x3] S1) (fun S42 =>
                        some (some (.int 1), S42))
                      else none
                  | none => none)
                else
                  if x3 ≤ 24 then
                    if x1 < 0 ∨ 4 ≤ (x1).toNatClampNeg then none else
                    (match rv S1 44 (x1).toNatClampNeg with
                    | some q43 => if x2 = 0 then
                        bif kO q43 2 && true then
                          bV ((mFn d) 14 [.ref q43, .int x2, .int 0] S1) (fun S44 =>
                          some (some (.int 1), S44))
                        else none
                      else
                        bif kO q43 2 && true then
                          bV ((mFn d) 14 [.ref q43, .int x2, .int x3] S1) (fun S45 =>
                          some (some (.int 1), S45))
                        else none
                    | none => none)
                  else
                    bI ((mFn d) 72 [.ref 0, .int 1] S1) (fun y46 S46 =>
                      some (some (.int y46), S46))
              else
                bI ((mFn d) 72 [.ref 0, .int 3] S1) (fun y47 S47 =>
                  some (some (.int y47), S47))
          else
            if x2 = 32 then
              if x2 = 0 then
                if x2 = 0 then
                  if x1 < 0 ∨ 4 ≤ (x1).toNatClampNeg then none else
                  (match rv S1 44 (x1).toNatClampNeg with
                  | some q48 => if x2 = 0 then
                      bif kO q48 2 && true then
                        bV ((mFn d) 14 [.ref q48, .int x2, .int 0] S1) (fun S49 =>
                        some (some (.int 1), S49))
                      else none
                    else
                      bif kO q48 2 && true then
                        bV ((mFn d) 14 [.ref q48, .int x2, .int x3] S1) (fun S50 =>
                        some (some (.int 1), S50))
                      else none
                  | none => none)
                else
                  if x3 ≤ 24 then
                    if x1 < 0 ∨ 4 ≤ (x1).toNatClampNeg then none else
                    (match rv S1 44 (x1).toNatClampNeg with
                    | some q51 => if x2 = 0 then
                        bif kO q51 2 && true then
                          bV ((mFn d) 14 [.ref q51, .int x2, .int 0] S1) (fun S52 =>
                          some (some (.int 1), S52))
                        else none
                      else
                        bif kO q51 2 && true then
                          bV ((mFn d) 14 [.ref q51, .int x2, .int x3] S1) (fun S53 =>
                          some (some (.int 1), S53))
                        else none
                    | none => none)
                  else
                    bI ((mFn d) 72 [.ref 0, .int 1] S1) (fun y54 S54 =>
                      some (some (.int y54), S54))
              else
                if 0 ≤ x3 then
                  if x2 = 0 then
                    if x1 < 0 ∨ 4 ≤ (x1).toNatClampNeg then none else
                    (match rv S1 44 (x1).toNatClampNeg with
                    | some q55 => if x2 = 0 then
                        bif kO q55 2 && true then
                          bV ((mFn d) 14 [.ref q55, .int x2, .int 0] S1) (fun S56 =>
                          some (some (.int 1), S56))
                        else none
                      else
                        bif kO q55 2 && true then
                          bV ((mFn d) 14 [.ref q55, .int x2, .int x3] S1) (fun S57 =>
                          some (some (.int 1), S57))
                        else none
                    | none => none)
                  else
                    if x3 ≤ 24 then
                      if x1 < 0 ∨ 4 ≤ (x1).toNatClampNeg then none else
                      (match rv S1 44 (x1).toNatClampNeg with
                      | some q58 => if x2 = 0 then
                          bif kO q58 2 && true then
                            bV ((mFn d) 14 [.ref q58, .int x2, .int 0] S1) (fun S59 =>
                            some (some (.int 1), S59))
                          else none
                        else
                          bif kO q58 2 && true then
                            bV ((mFn d) 14 [.ref q58, .int x2, .int x3] S1) (fun S60 =>
                            some (some (.int 1), S60))
                          else none
                      | none => none)
                    else
                      bI ((mFn d) 72 [.ref 0, .int 1] S1) (fun y61 S61 =>
                        some (some (.int y61), S61))
                else
                  bI ((mFn d) 72 [.ref 0, .int 3] S1) (fun y62 S62 =>
                    some (some (.int y62), S62))
            else
              bI ((mFn d) 72 [.ref 0, .int 1] S1) (fun y63 S63 =>
                some (some (.int y63), S63))) := (mFn_eq rfl).trans (mv_row (code := kX5_sheet (mFn d)) (mmX5_sheet (mFn d)) (cuX5_sheet (mFn d)) 36 rfl)
theorem cuX5_put (F : Nat → List Value → MS → Option MR) : mcuts (kX5_put F) [] := fun _ h => absurd h List.not_mem_nil
set_option maxRecDepth 100000 in
theorem fX5_put (d : Nat) (x1 : Int32) (x2 : Int32) (x3 : Int32) (S : MS) : mFn (d + 1) 62 [.ref 0, .int x1, .int x2, .int x3] S =
  bI ((mFn d) 79 [.int x1] S) (fun y1 S1 =>
    if y1 = 0 then
      bI ((mFn d) 72 [.ref 0, .int 1] S1) (fun y2 S2 =>
        some (some (.int y2), S2))
    else
      if x1 < 0 ∨ 4 ≤ (x1).toNatClampNeg then none else
      (match rv S1 44 (x1).toNatClampNeg with
      | some q3 => bif kO q3 2 && true then
          bI ((mFn d) 15 [.ref q3] S1) (fun y4 S4 =>
          if y4 = 0 then
            if x2 < 0 then
              bI ((mFn d) 72 [.ref 0, .int 1] S4) (fun y5 S5 =>
                some (some (.int y5), S5))
            else
              bif kO q3 2 then
                if x2 < (S4.1 q3 1) then
                  bif kO q3 2 then
                    (match rv S4 q3 2 with
                    | some q6 => bif kO q3 2 && true then
                      bI ((mFn d) 17 [.ref q3, .int x3] S4) (fun y7 S7 =>
                      bif kA q6 then (if x2 < 0 ∨ (ki q6).2 ≤ (x2).toNatClampNeg then none else
                      some (some (.int 1), (uI S7 q6 (x2).toNatClampNeg y7)))
                      else none)
                    else none
                    | none => none)
                  else none
                else
                  bI ((mFn d) 72 [.ref 0, .int 1] S4) (fun y8 S8 =>
                    some (some (.int y8), S8))
              else none
          else
            bI ((mFn d) 72 [.ref 0, .int 2] S4) (fun y9 S9 =>
              some (some (.int y9), S9)))
        else none
      | none => none)) := (mFn_eq rfl).trans (mv_row (code := kX5_put (mFn d)) (mmX5_put (mFn d)) (cuX5_put (mFn d)) 27 rfl)
theorem cuX5_move (F : Nat → List Value → MS → Option MR) : mcuts (kX5_move F) [] := fun _ h => absurd h List.not_mem_nil
set_option maxRecDepth 100000 in
theorem fX5_move (d : Nat) (x1 : Int32) (x2 : Int32) (x3 : Int32) (x4 : Int32) (x5 : Int32) (S : MS) : mFn (d + 1) 63 [.ref 0, .int x1, .int x2, .int x3, .int x4, .int x5] S =
  bI ((mFn d) 79 [.int x1] S) (fun y1 S1 =>
    if y1 = 0 then
      bI ((mFn d) 72 [.ref 0, .int 1] S1) (fun y2 S2 =>
        some (some (.int y2), S2))
    else
      bI ((mFn d) 79 [.int x3] S1) (fun y3 S3 =>
        if y3 = 0 then
          bI ((mFn d) 72 [.ref 0, .int 1] S3) (fun y4 S4 =>
            some (some (.int y4), S4))
        else
          if x1 < 0 ∨ 4 ≤ (x1).toNatClampNeg then none else
          (match rv S3 44 (x1).toNatClampNeg with
          | some q5 => if x3 < 0 ∨ 4 ≤ (x3).toNatClampNeg then none else
            (match rv S3 44 (x3).toNatClampNeg with
            | some q6 => bif kO q5 2 && true then
                bI ((mFn d) 15 [.ref q5] S3) (fun y7 S7 =>
                if y7 = 0 then
                  bif kO q6 2 && true then
                    bI ((mFn d) 15 [.ref q6] S7) (fun y8 S8 =>
                    if y8 = 0 then
                      bif kO q5 2 then
                        bif kO q6 2 then
                          if (S8.1 q5 0) = (S8.1 q6 0) then
                            bif kO q5 2 && true then
                              bI ((mFn d) 16 [.ref q5, .int x2, .int x5] S8) (fun y9 S9 =>
                              if y9 = 0 then
                                bI ((mFn d) 72 [.ref 0, .int 1] S9) (fun y10 S10 =>
                                  some (some (.int y10), S10))
                              else
                                bif kO q6 2 && true then
                                  bI ((mFn d) 16 [.ref q6, .int x4, .int x5] S9) (fun y11 S11 =>
                                  if y11 = 0 then
                                    bI ((mFn d) 72 [.ref 0, .int 1] S11) (fun y12 S12 =>
                                      some (some (.int y12), S12))
                                  else
                                    bif kO q5 2 then
                                      (match rv S11 q5 2 with
                                      | some q13 => bif kO q6 2 then
                                        (match rv S11 q6 2 with
                                        | some q14 => bif kA q13 && kA q14 && true then
                                          if x2 < 0 ∨ x4 < 0 ∨ x5 < 0 ∨ (ki q13).2 < (x2).toNatClampNeg + (x5).toNatClampNeg ∨ (ki q14).2 < (x4).toNatClampNeg + (x5).toNatClampNeg then none else
                                          some (some (.int x5), (uC S11 q13 q14 (x2).toNatClampNeg (x4).toNatClampNeg (x5).toNatClampNeg))
                                        else none
                                        | none => none)
                                      else none
                                      | none => none)
                                    else none)
                                else none)
                            else none
                          else
                            bI ((mFn d) 72 [.ref 0, .int 5] S8) (fun y15 S15 =>
                              some (some (.int y15), S15))
                        else none
                      else none
                    else
                      bI ((mFn d) 72 [.ref 0, .int 2] S8) (fun y16 S16 =>
                        some (some (.int y16), S16)))
                  else none
                else
                  bI ((mFn d) 72 [.ref 0, .int 2] S7) (fun y17 S17 =>
                    some (some (.int y17), S17)))
              else none
            | none => none)
          | none => none))) := (mFn_eq rfl).trans (mv_row (code := kX5_move (mFn d)) (mmX5_move (mFn d)) (cuX5_move (mFn d)) 48 rfl)
theorem cuX5_talks (F : Nat → List Value → MS → Option MR) : mcuts (kX5_talks F) [(51, [0, 2, 3, 4])] := List.forall_mem_cons.mpr ⟨⟨oIload 4 53, rfl⟩, fun _ h => absurd h List.not_mem_nil⟩
set_option maxRecDepth 100000 in
theorem fX5_talks (d : Nat) (x1 : Int32) (S : MS) : mFn (d + 1) 64 [.ref 0, .int x1] S =
  bI ((mFn d) 79 [.int x1] S) (fun y1 S1 =>
    if y1 = 0 then
      bI ((mFn d) 72 [.ref 0, .int 1] S1) (fun y2 S2 =>
        some (some (.int y2), S2))
    else
      if x1 < 0 ∨ 4 ≤ (x1).toNatClampNeg then none else
      (match rv S1 44 (x1).toNatClampNeg with
      | some q3 => bif kO q3 2 && true then
          bI ((mFn d) 15 [.ref q3] S1) (fun y4 S4 =>
          if y4 = 0 then
            bif kO q3 2 then
              mv (kX5_talks (mFn d)) 51 [(0, .ref 0), (2, .ref q3), (3, .int (if (S4.1 1 0) < (S4.1 q3 1) then (S4.1 1 0) else (S4.1 q3 1))), (4, .int 0)] [] S4
            else none
          else
            bI ((mFn d) 72 [.ref 0, .int 2] S4) (fun y5 S5 =>
              some (some (.int y5), S5)))
        else none
      | none => none)) := (mFn_eq rfl).trans (mv_row (code := kX5_talks (mFn d)) (mmX5_talks (mFn d)) (cuX5_talks (mFn d)) 21 rfl)
set_option maxRecDepth 100000 in
theorem lX5_talks_51 (d : Nat) (a2 : Nat) (x3 : Int32) (x4 : Int32) (S : MS) : mv (kX5_talks (mFn d)) 51 [(0, .ref 0), (2, .ref a2), (3, .int x3), (4, .int x4)] [] S =
  if x3 ≤ x4 then
    some (some (.int x3), S)
  else
    bif kO a2 2 then
      (match rv S a2 2 with
      | some q1 => bif kA q1 then (if x4 < 0 ∨ (ki q1).2 ≤ (x4).toNatClampNeg then none else
      if (S.1 q1 (x4).toNatClampNeg) < 0 then
        some (some (.int x4), S)
      else
        if (S.1 q1 (x4).toNatClampNeg) ≤ 99999 then
          if x4 < 0 ∨ 8 ≤ (x4).toNatClampNeg then none else
          mv (kX5_talks (mFn d)) 51 [(0, .ref 0), (2, .ref a2), (3, .int x3), (4, .int (x4 + 1))] [] (uI S 5 (x4).toNatClampNeg (S.1 q1 (x4).toNatClampNeg))
        else
          some (some (.int x4), S))
      else bif Nat.beq q1 1000 then (if x4 < 0 ∨ 7 ≤ (x4).toNatClampNeg then none else
      if (aboveL.getD (x4).toNatClampNeg 0) < 0 then
        some (some (.int x4), S)
      else
        if (aboveL.getD (x4).toNatClampNeg 0) ≤ 99999 then
          if x4 < 0 ∨ 8 ≤ (x4).toNatClampNeg then none else
          mv (kX5_talks (mFn d)) 51 [(0, .ref 0), (2, .ref a2), (3, .int x3), (4, .int (x4 + 1))] [] (uI S 5 (x4).toNatClampNeg (aboveL.getD (x4).toNatClampNeg 0))
        else
          some (some (.int x4), S))
      else bif Nat.beq q1 1001 then (if x4 < 0 ∨ 28 ≤ (x4).toNatClampNeg then none else
      if (bodiesL.getD (x4).toNatClampNeg 0) < 0 then
        some (some (.int x4), S)
      else
        if (bodiesL.getD (x4).toNatClampNeg 0) ≤ 99999 then
          if x4 < 0 ∨ 8 ≤ (x4).toNatClampNeg then none else
          mv (kX5_talks (mFn d)) 51 [(0, .ref 0), (2, .ref a2), (3, .int x3), (4, .int (x4 + 1))] [] (uI S 5 (x4).toNatClampNeg (bodiesL.getD (x4).toNatClampNeg 0))
        else
          some (some (.int x4), S))
      else none
      | none => none)
    else none := mv_row (mmX5_talks (mFn d)) (cuX5_talks (mFn d)) 22 rfl
theorem cuX5_judge (F : Nat → List Value → MS → Option MR) : mcuts (kX5_judge F) [(51, [0, 2, 3, 4])] := List.forall_mem_cons.mpr ⟨⟨oIload 4 53, rfl⟩, fun _ h => absurd h List.not_mem_nil⟩
set_option maxRecDepth 100000 in
theorem fX5_judge (d : Nat) (x1 : Int32) (S : MS) : mFn (d + 1) 65 [.ref 0, .int x1] S =
  bI ((mFn d) 79 [.int x1] S) (fun y1 S1 =>
    if y1 = 0 then
      bI ((mFn d) 72 [.ref 0, .int 1] S1) (fun y2 S2 =>
        some (some (.int y2), S2))
    else
      if x1 < 0 ∨ 4 ≤ (x1).toNatClampNeg then none else
      (match rv S1 44 (x1).toNatClampNeg with
      | some q3 => bif kO q3 2 && true then
          bI ((mFn d) 15 [.ref q3] S1) (fun y4 S4 =>
          if y4 = 0 then
            bif kO q3 2 then
              mv (kX5_judge (mFn d)) 51 [(0, .ref 0), (2, .ref q3), (3, .int (if (S4.1 1 5) < (S4.1 q3 1) then (S4.1 1 5) else (S4.1 q3 1))), (4, .int 0)] [] S4
            else none
          else
            bI ((mFn d) 72 [.ref 0, .int 2] S4) (fun y5 S5 =>
              some (some (.int y5), S5)))
        else none
      | none => none)) := (mFn_eq rfl).trans (mv_row (code := kX5_judge (mFn d)) (mmX5_judge (mFn d)) (cuX5_judge (mFn d)) 21 rfl)
set_option maxRecDepth 100000 in
theorem lX5_judge_51 (d : Nat) (a2 : Nat) (x3 : Int32) (x4 : Int32) (S : MS) : mv (kX5_judge (mFn d)) 51 [(0, .ref 0), (2, .ref a2), (3, .int x3), (4, .int x4)] [] S =
  if x3 ≤ x4 then
    some (some (.int x3), S)
  else
    bif kO a2 2 then
      (match rv S a2 2 with
      | some q1 => bif kA q1 then (if x4 < 0 ∨ (ki q1).2 ≤ (x4).toNatClampNeg then none else
      bI ((mFn d) 3 [.ref 1, .int x4] S) (fun y2 S2 =>
        if (S.1 q1 (x4).toNatClampNeg) = y2 then
          mv (kX5_judge (mFn d)) 51 [(0, .ref 0), (2, .ref a2), (3, .int x3), (4, .int (x4 + 1))] [] S2
        else
          some (some (.int x4), S2)))
      else bif Nat.beq q1 1000 then (if x4 < 0 ∨ 7 ≤ (x4).toNatClampNeg then none else
      bI ((mFn d) 3 [.ref 1, .int x4] S) (fun y3 S3 =>
        if (aboveL.getD (x4).toNatClampNeg 0) = y3 then
          mv (kX5_judge (mFn d)) 51 [(0, .ref 0), (2, .ref a2), (3, .int x3), (4, .int (x4 + 1))] [] S3
        else
          some (some (.int x4), S3)))
      else bif Nat.beq q1 1001 then (if x4 < 0 ∨ 28 ≤ (x4).toNatClampNeg then none else
      bI ((mFn d) 3 [.ref 1, .int x4] S) (fun y4 S4 =>
        if (bodiesL.getD (x4).toNatClampNeg 0) = y4 then
          mv (kX5_judge (mFn d)) 51 [(0, .ref 0), (2, .ref a2), (3, .int x3), (4, .int (x4 + 1))] [] S4
        else
          some (some (.int x4), S4)))
      else none
      | none => none)
    else none := mv_row (mmX5_judge (mFn d)) (cuX5_judge (mFn d)) 15 rfl
theorem cuX5_image (F : Nat → List Value → MS → Option MR) : mcuts (kX5_image F) [] := fun _ h => absurd h List.not_mem_nil
set_option maxRecDepth 100000 in
theorem fX5_image (d : Nat) (S : MS) : mFn (d + 1) 66 [.ref 0] S =
  bV ((mFn d) 7 [.ref 18, .ref 1] S) (fun S1 =>
    some (some (.int (fAdd (S1.1 0 2) 1)), (uI S1 0 2 (fAdd (S1.1 0 2) 1)))) := (mFn_eq rfl).trans (mv_row (code := kX5_image (mFn d)) (mmX5_image (mFn d)) (cuX5_image (mFn d)) 15 rfl)
theorem cuX5_restore (F : Nat → List Value → MS → Option MR) : mcuts (kX5_restore F) [] := fun _ h => absurd h List.not_mem_nil
set_option maxRecDepth 100000 in
theorem fX5_restore (d : Nat) (S : MS) : mFn (d + 1) 67 [.ref 0] S =
  if (S.1 0 2) = 0 then
    bI ((mFn d) 72 [.ref 0, .int 2] S) (fun y1 S1 =>
      some (some (.int y1), S1))
  else
    bV ((mFn d) 7 [.ref 1, .ref 18] S) (fun S2 =>
      some (some (.int (S2.1 1 11)), S2)) := (mFn_eq rfl).trans (mv_row (code := kX5_restore (mFn d)) (mmX5_restore (mFn d)) (cuX5_restore (mFn d)) 13 rfl)
theorem cuX5_tell (F : Nat → List Value → MS → Option MR) : mcuts (kX5_tell F) [] := fun _ h => absurd h List.not_mem_nil
set_option maxRecDepth 100000 in
theorem fX5_tell (d : Nat) (x1 : Int32) (S : MS) : mFn (d + 1) 68 [.ref 0, .int x1] S =
  if (S.1 1 17) < 24 then
    if (S.1 1 17) < 0 ∨ 24 ≤ ((S.1 1 17)).toNatClampNeg then none else
    some (some (.int (fAdd (S.1 1 17) 1)), (uI (uI S 10 ((S.1 1 17)).toNatClampNeg x1) 1 17 (fAdd (S.1 1 17) 1)))
  else
    bI ((mFn d) 72 [.ref 0, .int 4] S) (fun y1 S1 =>
      some (some (.int y1), S1)) := (mFn_eq rfl).trans (mv_row (code := kX5_tell (mFn d)) (mmX5_tell (mFn d)) (cuX5_tell (mFn d)) 25 rfl)
theorem cuX5_check (F : Nat → List Value → MS → Option MR) : mcuts (kX5_check F) [(18, [0, 1, 2])] := List.forall_mem_cons.mpr ⟨⟨oIload 2 19, rfl⟩, fun _ h => absurd h List.not_mem_nil⟩
set_option maxRecDepth 100000 in
theorem fX5_check (d : Nat) (S : MS) : mFn (d + 1) 69 [.ref 0] S =
  mv (kX5_check (mFn d)) 18 [(0, .ref 0), (1, .int (S.1 1 17)), (2, .int 0)] [] (uI S 1 17 0) := (mFn_eq rfl).trans (mv_row (code := kX5_check (mFn d)) (mmX5_check (mFn d)) (cuX5_check (mFn d)) 11 rfl)
set_option maxRecDepth 100000 in
theorem lX5_check_18 (d : Nat) (x1 : Int32) (x2 : Int32) (S : MS) : mv (kX5_check (mFn d)) 18 [(0, .ref 0), (1, .int x1), (2, .int x2)] [] S =
  if x1 ≤ x2 then
    some (some (.int 0), S)
  else
    if (S.1 1 0) ≤ x2 then
      some (some (.int (fAdd 1 x2)), S)
    else
      if x2 < 0 ∨ 24 ≤ (x2).toNatClampNeg then none else
      if x2 < 0 ∨ 8 ≤ (x2).toNatClampNeg then none else
      if (S.1 10 (x2).toNatClampNeg) = (S.1 5 (x2).toNatClampNeg) then
        mv (kX5_check (mFn d)) 18 [(0, .ref 0), (1, .int x1), (2, .int (x2 + 1))] [] S
      else
        some (some (.int (fAdd 1 x2)), S) := mv_row (mmX5_check (mFn d)) (cuX5_check (mFn d)) 24 rfl
theorem cuX5_count (F : Nat → List Value → MS → Option MR) : mcuts (kX5_count F) [] := fun _ h => absurd h List.not_mem_nil
set_option maxRecDepth 100000 in
theorem fX5_count (d : Nat) (x1 : Int32) (S : MS) : mFn (d + 1) 70 [.ref 0, .int x1] S =
  if x1 = 0 then
    some (some (.int (S.1 1 0)), S)
  else if x1 = 1 then
    some (some (.int (S.1 1 5)), S)
  else if x1 = 2 then
    some (some (.int (S.1 1 10)), S)
  else if x1 = 3 then
    some (some (.int (S.1 1 11)), S)
  else if x1 = 4 then
    some (some (.int (S.1 1 9)), S)
  else if x1 = 5 then
    some (some (.int (S.1 1 14)), S)
  else if x1 = 6 then
    some (some (.int (S.1 1 17)), S)
  else if x1 = 7 then
    some (some (.int (S.1 42 5)), S)
  else if x1 = 8 then
    some (some (.int (S.1 1 12)), S)
  else 
    bI ((mFn d) 72 [.ref 0, .int 1] S) (fun y1 S1 =>
      some (some (.int y1), S1)) := (mFn_eq rfl).trans (mv_row (code := kX5_count (mFn d)) (mmX5_count (mFn d)) (cuX5_count (mFn d)) 7 rfl)
theorem cuX5_told (F : Nat → List Value → MS → Option MR) : mcuts (kX5_told F) [] := fun _ h => absurd h List.not_mem_nil
set_option maxRecDepth 100000 in
theorem fX5_told (d : Nat) (x1 : Int32) (S : MS) : mFn (d + 1) 71 [.ref 0, .int x1] S =
  if x1 < 1 then
    bI ((mFn d) 72 [.ref 0, .int 1] S) (fun y1 S1 =>
      some (some (.int y1), S1))
  else
    if x1 ≤ 6 then
      if x1 < 0 ∨ 7 ≤ (x1).toNatClampNeg then none else
      some (some (.int (S.1 53 (x1).toNatClampNeg)), S)
    else
      bI ((mFn d) 72 [.ref 0, .int 1] S) (fun y2 S2 =>
        some (some (.int y2), S2)) := (mFn_eq rfl).trans (mv_row (code := kX5_told (mFn d)) (mmX5_told (mFn d)) (cuX5_told (mFn d)) 12 rfl)
theorem cuX5_error (F : Nat → List Value → MS → Option MR) : mcuts (kX5_error F) [] := fun _ h => absurd h List.not_mem_nil
set_option maxRecDepth 100000 in
theorem fX5_error (d : Nat) (x1 : Int32) (S : MS) : mFn (d + 1) 72 [.ref 0, .int x1] S =
  if x1 < 0 ∨ 7 ≤ (x1).toNatClampNeg then none else
  if x1 < 0 ∨ 7 ≤ (x1).toNatClampNeg then none else
  some (some (.int (fSub (-1000000000) x1)), (uI S 53 (x1).toNatClampNeg (fAdd (S.1 53 (x1).toNatClampNeg) 1))) := (mFn_eq rfl).trans (mv_row (code := kX5_error (mFn d)) (mmX5_error (mFn d)) (cuX5_error (mFn d)) 13 rfl)
theorem cuX5_isBit (F : Nat → List Value → MS → Option MR) : mcuts (kX5_isBit F) [] := fun _ h => absurd h List.not_mem_nil
set_option maxRecDepth 100000 in
theorem fX5_isBit (d : Nat) (x1 : Int32) (S : MS) : mFn (d + 1) 73 [.int x1] S =
  if x1 = 0 then
    some (some (.int 1), S)
  else
    if x1 = 1 then
      some (some (.int 1), S)
    else
      some (some (.int 0), S) := (mFn_eq rfl).trans (mv_row (code := kX5_isBit (mFn d)) (mmX5_isBit (mFn d)) (cuX5_isBit (mFn d)) 9 rfl)
theorem cuX5_isDigit (F : Nat → List Value → MS → Option MR) : mcuts (kX5_isDigit F) [] := fun _ h => absurd h List.not_mem_nil
set_option maxRecDepth 100000 in
theorem fX5_isDigit (d : Nat) (x1 : Int32) (S : MS) : mFn (d + 1) 74 [.int x1] S =
  if x1 < 0 then
    some (some (.int 0), S)
  else
    if 9 < x1 then
      some (some (.int 0), S)
    else
      some (some (.int 1), S) := (mFn_eq rfl).trans (mv_row (code := kX5_isDigit (mFn d)) (mmX5_isDigit (mFn d)) (cuX5_isDigit (mFn d)) 9 rfl)
theorem cuX5_isKindAndM (F : Nat → List Value → MS → Option MR) : mcuts (kX5_isKindAndM F) [] := fun _ h => absurd h List.not_mem_nil
set_option maxRecDepth 100000 in
theorem fX5_isKindAndM (d : Nat) (x1 : Int32) (S : MS) : mFn (d + 1) 75 [.int x1] S =
  if x1 < 0 then
    some (some (.int 0), S)
  else
    if 70 ≤ x1 then
      some (some (.int 0), S)
    else
      some (some (.int 1), S) := (mFn_eq rfl).trans (mv_row (code := kX5_isKindAndM (mFn d)) (mmX5_isKindAndM (mFn d)) (cuX5_isKindAndM (mFn d)) 9 rfl)
theorem cuX5_isFountain (F : Nat → List Value → MS → Option MR) : mcuts (kX5_isFountain F) [] := fun _ h => absurd h List.not_mem_nil
set_option maxRecDepth 100000 in
theorem fX5_isFountain (d : Nat) (x1 : Int32) (S : MS) : mFn (d + 1) 76 [.ref 0, .int x1] S =
  if x1 < 0 then
    some (some (.int 0), S)
  else
    if (S.1 1 0) ≤ x1 then
      some (some (.int 0), S)
    else
      some (some (.int 1), S) := (mFn_eq rfl).trans (mv_row (code := kX5_isFountain (mFn d)) (mmX5_isFountain (mFn d)) (cuX5_isFountain (mFn d)) 11 rfl)
theorem cuX5_isPipe (F : Nat → List Value → MS → Option MR) : mcuts (kX5_isPipe F) [] := fun _ h => absurd h List.not_mem_nil
set_option maxRecDepth 100000 in
theorem fX5_isPipe (d : Nat) (x1 : Int32) (S : MS) : mFn (d + 1) 77 [.ref 0, .int x1] S =
  if x1 < 0 then
    some (some (.int 0), S)
  else
    if (S.1 1 5) ≤ x1 then
      some (some (.int 0), S)
    else
      some (some (.int 1), S) := (mFn_eq rfl).trans (mv_row (code := kX5_isPipe (mFn d)) (mmX5_isPipe (mFn d)) (cuX5_isPipe (mFn d)) 11 rfl)
theorem cuX5_isSaying (F : Nat → List Value → MS → Option MR) : mcuts (kX5_isSaying F) [] := fun _ h => absurd h List.not_mem_nil
set_option maxRecDepth 100000 in
theorem fX5_isSaying (d : Nat) (x1 : Int32) (x2 : Int32) (S : MS) : mFn (d + 1) 78 [.ref 0, .int x1, .int x2] S =
  bI ((mFn d) 76 [.ref 0, .int x1] S) (fun y1 S1 =>
    if y1 = 0 then
      some (some (.int 0), S1)
    else
      if x2 < 1 then
        some (some (.int 0), S1)
      else
        if 99 < x2 then
          some (some (.int 0), S1)
        else
          some (some (.int 1), S1)) := (mFn_eq rfl).trans (mv_row (code := kX5_isSaying (mFn d)) (mmX5_isSaying (mFn d)) (cuX5_isSaying (mFn d)) 14 rfl)
theorem cuX5_isSheet (F : Nat → List Value → MS → Option MR) : mcuts (kX5_isSheet F) [] := fun _ h => absurd h List.not_mem_nil
set_option maxRecDepth 100000 in
theorem fX5_isSheet (d : Nat) (x1 : Int32) (S : MS) : mFn (d + 1) 79 [.int x1] S =
  if x1 < 0 then
    some (some (.int 0), S)
  else
    if 4 ≤ x1 then
      some (some (.int 0), S)
    else
      some (some (.int 1), S) := (mFn_eq rfl).trans (mv_row (code := kX5_isSheet (mFn d)) (mmX5_isSheet (mFn d)) (cuX5_isSheet (mFn d)) 9 rfl)
theorem cuX5_isUnder (F : Nat → List Value → MS → Option MR) : mcuts (kX5_isUnder F) [(4, [1, 2, 3])] := List.forall_mem_cons.mpr ⟨⟨oIload 3 5, rfl⟩, fun _ h => absurd h List.not_mem_nil⟩
set_option maxRecDepth 100000 in
theorem fX5_isUnder (d : Nat) (x1 : Int32) (x2 : Int32) (S : MS) : mFn (d + 1) 80 [.int x1, .int x2] S =
  mv (kX5_isUnder (mFn d)) 4 [(1, .int x2), (2, .int x1), (3, .int 0)] [] S := (mFn_eq rfl).trans (mv_row (code := kX5_isUnder (mFn d)) (mmX5_isUnder (mFn d)) (cuX5_isUnder (mFn d)) 5 rfl)
set_option maxRecDepth 100000 in
theorem lX5_isUnder_4 (d : Nat) (x1 : Int32) (x2 : Int32) (x3 : Int32) (S : MS) : mv (kX5_isUnder (mFn d)) 4 [(1, .int x1), (2, .int x2), (3, .int x3)] [] S =
  if 7 ≤ x3 then
    if x2 = x1 then
      some (some (.int 1), S)
    else
      some (some (.int 0), S)
  else
    if x2 = x1 then
      if x2 = x1 then
        some (some (.int 1), S)
      else
        some (some (.int 0), S)
    else
      if x2 < 0 ∨ 7 ≤ (x2).toNatClampNeg then none else
      mv (kX5_isUnder (mFn d)) 4 [(1, .int x1), (2, .int (aboveL.getD (x2).toNatClampNeg 0)), (3, .int (x3 + 1))] [] S := mv_row (mmX5_isUnder (mFn d)) (cuX5_isUnder (mFn d)) 13 rfl
theorem cuX5_commonDivisor (F : Nat → List Value → MS → Option MR) : mcuts (kX5_commonDivisor F) [(2, [0, 1, 2])] := List.forall_mem_cons.mpr ⟨⟨oIload 2 3, rfl⟩, fun _ h => absurd h List.not_mem_nil⟩
set_option maxRecDepth 100000 in
theorem fX5_commonDivisor (d : Nat) (x1 : Int32) (x2 : Int32) (S : MS) : mFn (d + 1) 81 [.int x1, .int x2] S =
  mv (kX5_commonDivisor (mFn d)) 2 [(0, .int x1), (1, .int x2), (2, .int x2)] [] S := (mFn_eq rfl).trans (mv_row (code := kX5_commonDivisor (mFn d)) (mmX5_commonDivisor (mFn d)) (cuX5_commonDivisor (mFn d)) 3 rfl)
set_option maxRecDepth 100000 in
theorem lX5_commonDivisor_2 (d : Nat) (x0 : Int32) (x1 : Int32) (x2 : Int32) (S : MS) : mv (kX5_commonDivisor (mFn d)) 2 [(0, .int x0), (1, .int x1), (2, .int x2)] [] S =
  if x2 ≤ 1 then
    some (some (.int 1), S)
  else
    if x2 = 0 then none else
    if (x0 - x0 / x2 * x2) = 0 then
      if x2 = 0 then none else
      if (x1 - x1 / x2 * x2) = 0 then
        some (some (.int x2), S)
      else
        mv (kX5_commonDivisor (mFn d)) 2 [(0, .int x0), (1, .int x1), (2, .int (x2 + (-1)))] [] S
    else
      mv (kX5_commonDivisor (mFn d)) 2 [(0, .int x0), (1, .int x1), (2, .int (x2 + (-1)))] [] S := mv_row (mmX5_commonDivisor (mFn d)) (cuX5_commonDivisor (mFn d)) 14 rfl
theorem cuX5_letOut (F : Nat → List Value → MS → Option MR) : mcuts (kX5_letOut F) [(25, [0, 3])] := List.forall_mem_cons.mpr ⟨⟨oIload 3 26, rfl⟩, fun _ h => absurd h List.not_mem_nil⟩
set_option maxRecDepth 100000 in
theorem fX5_letOut (d : Nat) (x1 : Int32) (x2 : Int32) (S : MS) : mFn (d + 1) 82 [.ref 0, .int x1, .int x2] S =
  bV ((mFn d) 8 [.ref 35] S) (fun S1 =>
    bV ((mFn d) 9 [.ref 35, .int x1, .int x2, .int (S1.1 1 9)] S1) (fun S2 =>
      mv (kX5_letOut (mFn d)) 25 [(0, .ref 0), (3, .int 0)] [] S2)) := (mFn_eq rfl).trans (mv_row (code := kX5_letOut (mFn d)) (mmX5_letOut (mFn d)) (cuX5_letOut (mFn d)) 14 rfl)
set_option maxRecDepth 100000 in
theorem lX5_letOut_25 (d : Nat) (x3 : Int32) (S : MS) : mv (kX5_letOut (mFn d)) 25 [(0, .ref 0), (3, .int x3)] [] S =
  if (S.1 1 0) ≤ x3 then
    some (some (.int (S.1 35 4)), S)
  else
    bI ((mFn d) 10 [.ref 35, .int x3] S) (fun y1 S1 =>
      if y1 = 0 then
        mv (kX5_letOut (mFn d)) 25 [(0, .ref 0), (3, .int (x3 + 1))] [] S1
      else
        if x3 < 0 ∨ 8 ≤ (x3).toNatClampNeg then none else
        if x3 < 0 ∨ 8 ≤ (x3).toNatClampNeg then none else
        if x3 < 0 ∨ 8 ≤ (x3).toNatClampNeg then none else
        mv (kX5_letOut (mFn d)) 25 [(0, .ref 0), (3, .int (x3 + 1))] [] (uI S1 5 (x3).toNatClampNeg (if (fAdd (S1.1 5 (x3).toNatClampNeg) (S1.1 38 (x3).toNatClampNeg)) < 99999 then (fAdd (S1.1 5 (x3).toNatClampNeg) (S1.1 38 (x3).toNatClampNeg)) else 99999))) := mv_row (mmX5_letOut (mFn d)) (cuX5_letOut (mFn d)) 31 rfl
theorem cuX5_fewestToShut (F : Nat → List Value → MS → Option MR) : mcuts (kX5_fewestToShut F) [(19, [0, 1, 2, 3, 4, 5])] := List.forall_mem_cons.mpr ⟨⟨oIload 5 21, rfl⟩, fun _ h => absurd h List.not_mem_nil⟩
set_option maxRecDepth 100000 in
theorem fX5_fewestToShut (d : Nat) (x1 : Int32) (x2 : Int32) (x3 : Int32) (S : MS) : mFn (d + 1) 83 [.ref 0, .int x1, .int x2, .int x3] S =
  bV ((mFn d) 8 [.ref 35] S) (fun S1 =>
    mv (kX5_fewestToShut (mFn d)) 19 [(0, .ref 0), (1, .int x1), (2, .int x2), (3, .int x3), (4, .int (S1.1 1 9)), (5, .int 0)] [] S1) := (mFn_eq rfl).trans (mv_row (code := kX5_fewestToShut (mFn d)) (mmX5_fewestToShut (mFn d)) (cuX5_fewestToShut (mFn d)) 10 rfl)
set_option maxRecDepth 100000 in
theorem lX5_fewestToShut_19 (d : Nat) (x1 : Int32) (x2 : Int32) (x3 : Int32) (x4 : Int32) (x5 : Int32) (S : MS) : mv (kX5_fewestToShut (mFn d)) 19 [(0, .ref 0), (1, .int x1), (2, .int x2), (3, .int x3), (4, .int x4), (5, .int x5)] [] S =
  if (fShl 1 (S.1 1 5)) ≤ x5 then
    some (some (.int x4), S)
  else
    if (fAnd x5 (fXor (S.1 1 9) (-1))) = 0 then
      bI ((mFn d) 184 [.int x5] S) (fun y1 S1 =>
        bI ((mFn d) 184 [.int x4] S1) (fun y2 S2 =>
          if y1 < y2 then
            bV ((mFn d) 9 [.ref 35, .int x1, .int x2, .int (fAnd (S2.1 1 9) (fXor x5 (-1)))] S2) (fun S3 =>
              bI ((mFn d) 10 [.ref 35, .int x3] S3) (fun y4 S4 =>
                if y4 = 0 then
                  mv (kX5_fewestToShut (mFn d)) 19 [(0, .ref 0), (1, .int x1), (2, .int x2), (3, .int x3), (4, .int x5), (5, .int (x5 + 1))] [] S4
                else
                  mv (kX5_fewestToShut (mFn d)) 19 [(0, .ref 0), (1, .int x1), (2, .int x2), (3, .int x3), (4, .int x4), (5, .int (x5 + 1))] [] S4))
          else
            mv (kX5_fewestToShut (mFn d)) 19 [(0, .ref 0), (1, .int x1), (2, .int x2), (3, .int x3), (4, .int x4), (5, .int (x5 + 1))] [] S2))
    else
      mv (kX5_fewestToShut (mFn d)) 19 [(0, .ref 0), (1, .int x1), (2, .int x2), (3, .int x3), (4, .int x4), (5, .int (x5 + 1))] [] S := mv_row (mmX5_fewestToShut (mFn d)) (cuX5_fewestToShut (mFn d)) 42 rfl
theorem cuX5_fewestToOpen (F : Nat → List Value → MS → Option MR) : mcuts (kX5_fewestToOpen F) [(13, [0, 1, 2, 3, 4, 5, 6])] := List.forall_mem_cons.mpr ⟨⟨oIload 6 15, rfl⟩, fun _ h => absurd h List.not_mem_nil⟩
set_option maxRecDepth 100000 in
theorem fX5_fewestToOpen (d : Nat) (x1 : Int32) (x2 : Int32) (x3 : Int32) (x4 : Int32) (S : MS) : mFn (d + 1) 84 [.ref 0, .int x1, .int x2, .int x3, .int x4] S =
  bV ((mFn d) 8 [.ref 35] S) (fun S1 =>
    mv (kX5_fewestToOpen (mFn d)) 13 [(0, .ref 0), (1, .int x1), (2, .int x2), (3, .int x3), (4, .int x4), (5, .int (-1)), (6, .int 0)] [] S1) := (mFn_eq rfl).trans (mv_row (code := kX5_fewestToOpen (mFn d)) (mmX5_fewestToOpen (mFn d)) (cuX5_fewestToOpen (mFn d)) 8 rfl)
set_option maxRecDepth 100000 in
theorem lX5_fewestToOpen_13 (d : Nat) (x1 : Int32) (x2 : Int32) (x3 : Int32) (x4 : Int32) (x5 : Int32) (x6 : Int32) (S : MS) : mv (kX5_fewestToOpen (mFn d)) 13 [(0, .ref 0), (1, .int x1), (2, .int x2), (3, .int x3), (4, .int x4), (5, .int x5), (6, .int x6)] [] S =
  if (fShl 1 (S.1 1 5)) ≤ x6 then
    some (some (.int x5), S)
  else
    if (fAnd x6 (S.1 1 9)) = 0 then
      if x5 < 0 then
        bV ((mFn d) 9 [.ref 35, .int x1, .int x2, .int (fOr (S.1 1 9) x6)] S) (fun S1 =>
          bI ((mFn d) 10 [.ref 35, .int x3] S1) (fun y2 S2 =>
            if y2 = 0 then
              mv (kX5_fewestToOpen (mFn d)) 13 [(0, .ref 0), (1, .int x1), (2, .int x2), (3, .int x3), (4, .int x4), (5, .int x5), (6, .int (x6 + 1))] [] S2
            else
              if x3 < 0 ∨ 8 ≤ (x3).toNatClampNeg then none else
              if x4 < (S2.1 37 (x3).toNatClampNeg) then
                mv (kX5_fewestToOpen (mFn d)) 13 [(0, .ref 0), (1, .int x1), (2, .int x2), (3, .int x3), (4, .int x4), (5, .int x5), (6, .int (x6 + 1))] [] S2
              else
                mv (kX5_fewestToOpen (mFn d)) 13 [(0, .ref 0), (1, .int x1), (2, .int x2), (3, .int x3), (4, .int x4), (5, .int x6), (6, .int (x6 + 1))] [] S2))
      else
        bI ((mFn d) 184 [.int x6] S) (fun y3 S3 =>
          bI ((mFn d) 184 [.int x5] S3) (fun y4 S4 =>
            if y3 < y4 then
              bV ((mFn d) 9 [.ref 35, .int x1, .int x2, .int (fOr (S4.1 1 9) x6)] S4) (fun S5 =>
                bI ((mFn d) 10 [.ref 35, .int x3] S5) (fun y6 S6 =>
                  if y6 = 0 then
                    mv (kX5_fewestToOpen (mFn d)) 13 [(0, .ref 0), (1, .int x1), (2, .int x2), (3, .int x3), (4, .int x4), (5, .int x5), (6, .int (x6 + 1))] [] S6
                  else
                    if x3 < 0 ∨ 8 ≤ (x3).toNatClampNeg then none else
                    if x4 < (S6.1 37 (x3).toNatClampNeg) then
                      mv (kX5_fewestToOpen (mFn d)) 13 [(0, .ref 0), (1, .int x1), (2, .int x2), (3, .int x3), (4, .int x4), (5, .int x5), (6, .int (x6 + 1))] [] S6
                    else
                      mv (kX5_fewestToOpen (mFn d)) 13 [(0, .ref 0), (1, .int x1), (2, .int x2), (3, .int x3), (4, .int x4), (5, .int x6), (6, .int (x6 + 1))] [] S6))
            else
              mv (kX5_fewestToOpen (mFn d)) 13 [(0, .ref 0), (1, .int x1), (2, .int x2), (3, .int x3), (4, .int x4), (5, .int x5), (6, .int (x6 + 1))] [] S4))
    else
      mv (kX5_fewestToOpen (mFn d)) 13 [(0, .ref 0), (1, .int x1), (2, .int x2), (3, .int x3), (4, .int x4), (5, .int x5), (6, .int (x6 + 1))] [] S := mv_row (mmX5_fewestToOpen (mFn d)) (cuX5_fewestToOpen (mFn d)) 47 rfl
theorem cuX5_isHeardAsIn (F : Nat → List Value → MS → Option MR) : mcuts (kX5_isHeardAsIn F) [(18, [0, 1, 2])] := List.forall_mem_cons.mpr ⟨⟨oIload 2 19, rfl⟩, fun _ h => absurd h List.not_mem_nil⟩
set_option maxRecDepth 100000 in
theorem fX5_isHeardAsIn_0 (d : Nat) (S : MS) : mFn (d + 1) 85 [.ref 0, .ref 45] S =
  if (S.1 45 1) ≤ (S.1 1 0) then
    mv (kX5_isHeardAsIn (mFn d)) 18 [(0, .ref 0), (1, .ref 45), (2, .int 0)] [] S
  else
    some (some (.int 0), S) := (mFn_eq rfl).trans (mv_row (code := kX5_isHeardAsIn (mFn d)) (mmX5_isHeardAsIn (mFn d)) (cuX5_isHeardAsIn (mFn d)) 9 rfl)
set_option maxRecDepth 100000 in
theorem lX5_isHeardAsIn_0_18 (d : Nat) (x2 : Int32) (S : MS) : mv (kX5_isHeardAsIn (mFn d)) 18 [(0, .ref 0), (1, .ref 45), (2, .int x2)] [] S =
  if (S.1 45 1) ≤ x2 then
    some (some (.int 1), S)
  else
    bI ((mFn d) 10 [.ref 35, .int x2] S) (fun y1 S1 =>
      if y1 = 0 then
        if x2 < 0 ∨ 24 ≤ (x2).toNatClampNeg then none else
        if (S1.1 46 (x2).toNatClampNeg) = 0 then
          mv (kX5_isHeardAsIn (mFn d)) 18 [(0, .ref 0), (1, .ref 45), (2, .int (x2 + 1))] [] S1
        else
          some (some (.int 0), S1)
      else
        if x2 < 0 ∨ 8 ≤ (x2).toNatClampNeg then none else
        if x2 < 0 ∨ 24 ≤ (x2).toNatClampNeg then none else
        if (S1.1 46 (x2).toNatClampNeg) = (S1.1 38 (x2).toNatClampNeg) then
          mv (kX5_isHeardAsIn (mFn d)) 18 [(0, .ref 0), (1, .ref 45), (2, .int (x2 + 1))] [] S1
        else
          some (some (.int 0), S1)) := mv_row (mmX5_isHeardAsIn (mFn d)) (cuX5_isHeardAsIn (mFn d)) 25 rfl
set_option maxRecDepth 100000 in
theorem fX5_isHeardAsIn_1 (d : Nat) (S : MS) : mFn (d + 1) 85 [.ref 0, .ref 47] S =
  if (S.1 47 1) ≤ (S.1 1 0) then
    mv (kX5_isHeardAsIn (mFn d)) 18 [(0, .ref 0), (1, .ref 47), (2, .int 0)] [] S
  else
    some (some (.int 0), S) := (mFn_eq rfl).trans (mv_row (code := kX5_isHeardAsIn (mFn d)) (mmX5_isHeardAsIn (mFn d)) (cuX5_isHeardAsIn (mFn d)) 9 rfl)
set_option maxRecDepth 100000 in
theorem lX5_isHeardAsIn_1_18 (d : Nat) (x2 : Int32) (S : MS) : mv (kX5_isHeardAsIn (mFn d)) 18 [(0, .ref 0), (1, .ref 47), (2, .int x2)] [] S =
  if (S.1 47 1) ≤ x2 then
    some (some (.int 1), S)
  else
    bI ((mFn d) 10 [.ref 35, .int x2] S) (fun y1 S1 =>
      if y1 = 0 then
        if x2 < 0 ∨ 24 ≤ (x2).toNatClampNeg then none else
        if (S1.1 48 (x2).toNatClampNeg) = 0 then
          mv (kX5_isHeardAsIn (mFn d)) 18 [(0, .ref 0), (1, .ref 47), (2, .int (x2 + 1))] [] S1
        else
          some (some (.int 0), S1)
      else
        if x2 < 0 ∨ 8 ≤ (x2).toNatClampNeg then none else
        if x2 < 0 ∨ 24 ≤ (x2).toNatClampNeg then none else
        if (S1.1 48 (x2).toNatClampNeg) = (S1.1 38 (x2).toNatClampNeg) then
          mv (kX5_isHeardAsIn (mFn d)) 18 [(0, .ref 0), (1, .ref 47), (2, .int (x2 + 1))] [] S1
        else
          some (some (.int 0), S1)) := mv_row (mmX5_isHeardAsIn (mFn d)) (cuX5_isHeardAsIn (mFn d)) 25 rfl
set_option maxRecDepth 100000 in
theorem fX5_isHeardAsIn_2 (d : Nat) (S : MS) : mFn (d + 1) 85 [.ref 0, .ref 49] S =
  if (S.1 49 1) ≤ (S.1 1 0) then
    mv (kX5_isHeardAsIn (mFn d)) 18 [(0, .ref 0), (1, .ref 49), (2, .int 0)] [] S
  else
    some (some (.int 0), S) := (mFn_eq rfl).trans (mv_row (code := kX5_isHeardAsIn (mFn d)) (mmX5_isHeardAsIn (mFn d)) (cuX5_isHeardAsIn (mFn d)) 9 rfl)
set_option maxRecDepth 100000 in
theorem lX5_isHeardAsIn_2_18 (d : Nat) (x2 : Int32) (S : MS) : mv (kX5_isHeardAsIn (mFn d)) 18 [(0, .ref 0), (1, .ref 49), (2, .int x2)] [] S =
  if (S.1 49 1) ≤ x2 then
    some (some (.int 1), S)
  else
    bI ((mFn d) 10 [.ref 35, .int x2] S) (fun y1 S1 =>
      if y1 = 0 then
        if x2 < 0 ∨ 24 ≤ (x2).toNatClampNeg then none else
        if (S1.1 50 (x2).toNatClampNeg) = 0 then
          mv (kX5_isHeardAsIn (mFn d)) 18 [(0, .ref 0), (1, .ref 49), (2, .int (x2 + 1))] [] S1
        else
          some (some (.int 0), S1)
      else
        if x2 < 0 ∨ 8 ≤ (x2).toNatClampNeg then none else
        if x2 < 0 ∨ 24 ≤ (x2).toNatClampNeg then none else
        if (S1.1 50 (x2).toNatClampNeg) = (S1.1 38 (x2).toNatClampNeg) then
          mv (kX5_isHeardAsIn (mFn d)) 18 [(0, .ref 0), (1, .ref 49), (2, .int (x2 + 1))] [] S1
        else
          some (some (.int 0), S1)) := mv_row (mmX5_isHeardAsIn (mFn d)) (cuX5_isHeardAsIn (mFn d)) 25 rfl
set_option maxRecDepth 100000 in
theorem fX5_isHeardAsIn_3 (d : Nat) (S : MS) : mFn (d + 1) 85 [.ref 0, .ref 51] S =
  if (S.1 51 1) ≤ (S.1 1 0) then
    mv (kX5_isHeardAsIn (mFn d)) 18 [(0, .ref 0), (1, .ref 51), (2, .int 0)] [] S
  else
    some (some (.int 0), S) := (mFn_eq rfl).trans (mv_row (code := kX5_isHeardAsIn (mFn d)) (mmX5_isHeardAsIn (mFn d)) (cuX5_isHeardAsIn (mFn d)) 9 rfl)
set_option maxRecDepth 100000 in
theorem lX5_isHeardAsIn_3_18 (d : Nat) (x2 : Int32) (S : MS) : mv (kX5_isHeardAsIn (mFn d)) 18 [(0, .ref 0), (1, .ref 51), (2, .int x2)] [] S =
  if (S.1 51 1) ≤ x2 then
    some (some (.int 1), S)
  else
    bI ((mFn d) 10 [.ref 35, .int x2] S) (fun y1 S1 =>
      if y1 = 0 then
        if x2 < 0 ∨ 24 ≤ (x2).toNatClampNeg then none else
        if (S1.1 52 (x2).toNatClampNeg) = 0 then
          mv (kX5_isHeardAsIn (mFn d)) 18 [(0, .ref 0), (1, .ref 51), (2, .int (x2 + 1))] [] S1
        else
          some (some (.int 0), S1)
      else
        if x2 < 0 ∨ 8 ≤ (x2).toNatClampNeg then none else
        if x2 < 0 ∨ 24 ≤ (x2).toNatClampNeg then none else
        if (S1.1 52 (x2).toNatClampNeg) = (S1.1 38 (x2).toNatClampNeg) then
          mv (kX5_isHeardAsIn (mFn d)) 18 [(0, .ref 0), (1, .ref 51), (2, .int (x2 + 1))] [] S1
        else
          some (some (.int 0), S1)) := mv_row (mmX5_isHeardAsIn (mFn d)) (cuX5_isHeardAsIn (mFn d)) 25 rfl
