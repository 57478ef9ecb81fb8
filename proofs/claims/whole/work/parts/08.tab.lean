/-! ===== the methods, by number: name, bytes, locals, what they return ===== -/
def oStuck : MOp := fun _ _ _ _ _ => none
theorem ta_oStuck : mTail oStuck := fun _ _ _ _ _ _ h => by cases h
theorem s_stuck {T : Nat → ML → List Value → MS → Prop} {J : Option Value → MS → Prop} {pc : Nat} : mSnd T J pc oStuck := fun _ _ _ _ _ _ _ _ h => by cases h
def mY : Nat → MethodName := fun i => match i with
  | 0 => yX0_madeOf
  | 1 => yX0_withAdded
  | 2 => yX0_isSaidOn
  | 3 => yX0_howSlow
  | 4 => yX0_given
  | 5 => yX0_passDay
  | 6 => yX0_draw
  | 7 => yX0_copyFrom
  | 8 => yX1_learnSlow
  | 9 => yX1_spread
  | 10 => yX1_isHeardAt
  | 11 => yX1_nextToHear
  | 12 => yX1_sayOver
  | 13 => yX1_arrive
  | 14 => yX2_begin
  | 15 => yX2_isMissing
  | 16 => yX2_has
  | 17 => yX2_lowestBits
  | 18 => yX3_answer
  | 19 => yX3_speak
  | 20 => yX3_part
  | 21 => yX3_begin
  | 22 => yX4_copyFrom
  | 23 => yX4_value
  | 24 => yX4_joined
  | 25 => yX4_read
  | 26 => yX4_readLevel
  | 27 => yX4_readPart
  | 28 => yX4_readNumber
  | 29 => yX4_readName
  | 30 => yX4_readOpened
  | 31 => yX4_peek
  | 32 => yX4_takeSign
  | 33 => yX4_levelOf
  | 34 => yX4_addStep
  | 35 => yX5_fountain
  | 36 => yX5_fountainIs
  | 37 => yX5_become
  | 38 => yX5_as
  | 39 => yX5_says
  | 40 => yX5_goesOn
  | 41 => yX5_pipe
  | 42 => yX5_pipeIs
  | 43 => yX5_turn
  | 44 => yX5_freeze
  | 45 => yX5_feed
  | 46 => yX5_text
  | 47 => yX5_untell
  | 48 => yX5_law
  | 49 => yX5_hears
  | 50 => yX5_heard
  | 51 => yX5_let
  | 52 => yX5_days
  | 53 => yX5_loose
  | 54 => yX5_seed
  | 55 => yX5_hush
  | 56 => yX5_reach
  | 57 => yX5_odds
  | 58 => yX5_fits
  | 59 => yX5_voice
  | 60 => yX5_body
  | 61 => yX5_sheet
  | 62 => yX5_put
  | 63 => yX5_move
  | 64 => yX5_talks
  | 65 => yX5_judge
  | 66 => yX5_image
  | 67 => yX5_restore
  | 68 => yX5_tell
  | 69 => yX5_check
  | 70 => yX5_count
  | 71 => yX5_told
  | 72 => yX5_error
  | 73 => yX5_isBit
  | 74 => yX5_isDigit
  | 75 => yX5_isKindAndM
  | 76 => yX5_isFountain
  | 77 => yX5_isPipe
  | 78 => yX5_isSaying
  | 79 => yX5_isSheet
  | 80 => yX5_isUnder
  | 81 => yX5_commonDivisor
  | 82 => yX5_letOut
  | 83 => yX5_fewestToShut
  | 84 => yX5_fewestToOpen
  | 85 => yX5_isHeardAsIn
  | 86 => yX6_error
  | 87 => yX6_in
  | 88 => yX6_held
  | 89 => yX6_copyAll
  | 90 => yX6_bits
  | 91 => yX6_isFountain
  | 92 => yX6_isPipe
  | 93 => yX6_isSize
  | 94 => yX6_becomes
  | 95 => yX6_of
  | 96 => yX6_about
  | 97 => yX6_addsOf
  | 98 => yX6_saidOf
  | 99 => yX6_doesSayOn
  | 100 => yX6_slowOf
  | 101 => yX6_isKm
  | 102 => yX6_fountain
  | 103 => yX6_fountainIs
  | 104 => yX6_become
  | 105 => yX6_as
  | 106 => yX6_says
  | 107 => yX6_goesOn
  | 108 => yX6_pipe
  | 109 => yX6_pipeIs
  | 110 => yX6_turn
  | 111 => yX6_freeze
  | 112 => yX6_feed
  | 113 => yX6_look
  | 114 => yX6_lays
  | 115 => yX6_nameOf
  | 116 => yX6_number
  | 117 => yX6_opens
  | 118 => yX6_one
  | 119 => yX6_times
  | 120 => yX6_sum
  | 121 => yX6_compares
  | 122 => yX6_all
  | 123 => yX6_any
  | 124 => yX6_text
  | 125 => yX6_untell
  | 126 => yX6_twoOf
  | 127 => yX6_works
  | 128 => yX6_gives
  | 129 => yX6_law
  | 130 => yX6_findSlow
  | 131 => yX6_opened
  | 132 => yX6_saysOn
  | 133 => yX6_spreads
  | 134 => yX6_hearers
  | 135 => yX6_spreadsNow
  | 136 => yX6_hears
  | 137 => yX6_heard
  | 138 => yX6_lets
  | 139 => yX6_let
  | 140 => yX6_days
  | 141 => yX6_draw
  | 142 => yX6_loose
  | 143 => yX6_seed
  | 144 => yX6_hush
  | 145 => yX6_reach
  | 146 => yX6_odds
  | 147 => yX6_isSo
  | 148 => yX6_fits
  | 149 => yX6_begins
  | 150 => yX6_plainSplashes
  | 151 => yX6_lionSplashes
  | 152 => yX6_splashes
  | 153 => yX6_plainLisps
  | 154 => yX6_dolphinLisps
  | 155 => yX6_lisps
  | 156 => yX6_plainDrips
  | 157 => yX6_drips
  | 158 => yX6_plainParts
  | 159 => yX6_partsBy
  | 160 => yX6_voice
  | 161 => yX6_body
  | 162 => yX6_isSheet
  | 163 => yX6_sheet
  | 164 => yX6_notThere
  | 165 => yX6_put
  | 166 => yX6_notMoved
  | 167 => yX6_move
  | 168 => yX6_talks
  | 169 => yX6_judge
  | 170 => yX6_image
  | 171 => yX6_restore
  | 172 => yX6_tell
  | 173 => yX6_check
  | 174 => yX6_count
  | 175 => yX6_told
  | 176 => yJ0_indexOf_0f7a4
  | 177 => yJ0_indexOf_7cf53
  | 178 => yJ0_isLatin1_aae02
  | 179 => yJ0_length_8abf5
  | 180 => yJ0_coder_7d493
  | 181 => yJ1_canEncode_9a6ad
  | 182 => yJ1_indexOf_4cfef
  | 183 => yJ1_indexOfChar_4cfef
  | _ => yJ6_bitCount_0f7a4
def mB : Nat → ByteArray := fun i => match i with
  | 0 => cX0_madeOf
  | 1 => cX0_withAdded
  | 2 => cX0_isSaidOn
  | 3 => cX0_howSlow
  | 4 => cX0_given
  | 5 => cX0_passDay
  | 6 => cX0_draw
  | 7 => cX0_copyFrom
  | 8 => cX1_learnSlow
  | 9 => cX1_spread
  | 10 => cX1_isHeardAt
  | 11 => cX1_nextToHear
  | 12 => cX1_sayOver
  | 13 => cX1_arrive
  | 14 => cX2_begin
  | 15 => cX2_isMissing
  | 16 => cX2_has
  | 17 => cX2_lowestBits
  | 18 => cX3_answer
  | 19 => cX3_speak
  | 20 => cX3_part
  | 21 => cX3_begin
  | 22 => cX4_copyFrom
  | 23 => cX4_value
  | 24 => cX4_joined
  | 25 => cX4_read
  | 26 => cX4_readLevel
  | 27 => cX4_readPart
  | 28 => cX4_readNumber
  | 29 => cX4_readName
  | 30 => cX4_readOpened
  | 31 => cX4_peek
  | 32 => cX4_takeSign
  | 33 => cX4_levelOf
  | 34 => cX4_addStep
  | 35 => cX5_fountain
  | 36 => cX5_fountainIs
  | 37 => cX5_become
  | 38 => cX5_as
  | 39 => cX5_says
  | 40 => cX5_goesOn
  | 41 => cX5_pipe
  | 42 => cX5_pipeIs
  | 43 => cX5_turn
  | 44 => cX5_freeze
  | 45 => cX5_feed
  | 46 => cX5_text
  | 47 => cX5_untell
  | 48 => cX5_law
  | 49 => cX5_hears
  | 50 => cX5_heard
  | 51 => cX5_let
  | 52 => cX5_days
  | 53 => cX5_loose
  | 54 => cX5_seed
  | 55 => cX5_hush
  | 56 => cX5_reach
  | 57 => cX5_odds
  | 58 => cX5_fits
  | 59 => cX5_voice
  | 60 => cX5_body
  | 61 => cX5_sheet
  | 62 => cX5_put
  | 63 => cX5_move
  | 64 => cX5_talks
  | 65 => cX5_judge
  | 66 => cX5_image
  | 67 => cX5_restore
  | 68 => cX5_tell
  | 69 => cX5_check
  | 70 => cX5_count
  | 71 => cX5_told
  | 72 => cX5_error
  | 73 => cX5_isBit
  | 74 => cX5_isDigit
  | 75 => cX5_isKindAndM
  | 76 => cX5_isFountain
  | 77 => cX5_isPipe
  | 78 => cX5_isSaying
  | 79 => cX5_isSheet
  | 80 => cX5_isUnder
  | 81 => cX5_commonDivisor
  | 82 => cX5_letOut
  | 83 => cX5_fewestToShut
  | 84 => cX5_fewestToOpen
  | 85 => cX5_isHeardAsIn
  | 86 => cX6_error
  | 87 => cX6_in
  | 88 => cX6_held
  | 89 => cX6_copyAll
  | 90 => cX6_bits
  | 91 => cX6_isFountain
  | 92 => cX6_isPipe
  | 93 => cX6_isSize
  | 94 => cX6_becomes
  | 95 => cX6_of
  | 96 => cX6_about
  | 97 => cX6_addsOf
  | 98 => cX6_saidOf
  | 99 => cX6_doesSayOn
  | 100 => cX6_slowOf
  | 101 => cX6_isKm
  | 102 => cX6_fountain
  | 103 => cX6_fountainIs
  | 104 => cX6_become
  | 105 => cX6_as
  | 106 => cX6_says
  | 107 => cX6_goesOn
  | 108 => cX6_pipe
  | 109 => cX6_pipeIs
  | 110 => cX6_turn
  | 111 => cX6_freeze
  | 112 => cX6_feed
  | 113 => cX6_look
  | 114 => cX6_lays
  | 115 => cX6_nameOf
  | 116 => cX6_number
  | 117 => cX6_opens
  | 118 => cX6_one
  | 119 => cX6_times
  | 120 => cX6_sum
  | 121 => cX6_compares
  | 122 => cX6_all
  | 123 => cX6_any
  | 124 => cX6_text
  | 125 => cX6_untell
  | 126 => cX6_twoOf
  | 127 => cX6_works
  | 128 => cX6_gives
  | 129 => cX6_law
  | 130 => cX6_findSlow
  | 131 => cX6_opened
  | 132 => cX6_saysOn
  | 133 => cX6_spreads
  | 134 => cX6_hearers
  | 135 => cX6_spreadsNow
  | 136 => cX6_hears
  | 137 => cX6_heard
  | 138 => cX6_lets
  | 139 => cX6_let
  | 140 => cX6_days
  | 141 => cX6_draw
  | 142 => cX6_loose
  | 143 => cX6_seed
  | 144 => cX6_hush
  | 145 => cX6_reach
  | 146 => cX6_odds
  | 147 => cX6_isSo
  | 148 => cX6_fits
  | 149 => cX6_begins
  | 150 => cX6_plainSplashes
  | 151 => cX6_lionSplashes
  | 152 => cX6_splashes
  | 153 => cX6_plainLisps
  | 154 => cX6_dolphinLisps
  | 155 => cX6_lisps
  | 156 => cX6_plainDrips
  | 157 => cX6_drips
  | 158 => cX6_plainParts
  | 159 => cX6_partsBy
  | 160 => cX6_voice
  | 161 => cX6_body
  | 162 => cX6_isSheet
  | 163 => cX6_sheet
  | 164 => cX6_notThere
  | 165 => cX6_put
  | 166 => cX6_notMoved
  | 167 => cX6_move
  | 168 => cX6_talks
  | 169 => cX6_judge
  | 170 => cX6_image
  | 171 => cX6_restore
  | 172 => cX6_tell
  | 173 => cX6_check
  | 174 => cX6_count
  | 175 => cX6_told
  | 176 => cJ0_indexOf_0f7a4
  | 177 => cJ0_indexOf_7cf53
  | 178 => cJ0_isLatin1_aae02
  | 179 => cJ0_length_8abf5
  | 180 => cJ0_coder_7d493
  | 181 => cJ1_canEncode_9a6ad
  | 182 => cJ1_indexOf_4cfef
  | 183 => cJ1_indexOfChar_4cfef
  | _ => cJ6_bitCount_0f7a4
def mL (i : Nat) : Nat := [3, 3, 3, 2, 6, 2, 1, 2, 2, 6, 2, 3, 5, 4, 4, 1, 3, 2, 5, 9, 3, 2, 2, 7, 3, 4, 5, 3, 3, 3, 3, 1, 3, 1, 2, 4, 3, 4, 3, 3, 3, 5, 3, 4, 3, 5, 3, 3, 5, 3, 5, 3, 3, 5, 3, 6, 7, 6, 7, 5, 2, 4, 5, 8, 6, 5, 1, 1, 2, 3, 2, 2, 2, 1, 1, 1, 2, 2, 3, 1, 4, 3, 4, 6, 7, 4, 2, 3, 3, 3, 3, 2, 2, 1, 4, 3, 3, 5, 3, 4, 3, 1, 4, 3, 3, 5, 3, 3, 5, 3, 3, 2, 5, 1, 3, 2, 3, 2, 3, 2, 2, 2, 1, 1, 4, 2, 3, 5, 7, 5, 2, 3, 8, 6, 3, 3, 3, 5, 5, 3, 4, 1, 5, 2, 8, 10, 7, 4, 8, 2, 3, 3, 3, 3, 3, 3, 3, 3, 4, 4, 5, 2, 1, 5, 2, 5, 7, 9, 4, 4, 1, 1, 2, 3, 2, 2, 2, 3, 1, 1, 1, 1, 4, 6, 1].getD i 0
def mRt : Nat → Option FieldType := fun i => match i with
  | 0 => (some .int)
  | 1 => (some .int)
  | 2 => (some .boolean)
  | 3 => (some .int)
  | 4 => (some .int)
  | 5 => none
  | 6 => (some .int)
  | 7 => none
  | 8 => none
  | 9 => none
  | 10 => (some .boolean)
  | 11 => (some .int)
  | 12 => none
  | 13 => none
  | 14 => none
  | 15 => (some .boolean)
  | 16 => (some .boolean)
  | 17 => (some .int)
  | 18 => (some .int)
  | 19 => (some .int)
  | 20 => (some .int)
  | 21 => none
  | 22 => none
  | 23 => (some .int)
  | 24 => (some .int)
  | 25 => (some .int)
  | 26 => none
  | 27 => none
  | 28 => none
  | 29 => none
  | 30 => none
  | 31 => (some .int)
  | 32 => (some .int)
  | 33 => (some .int)
  | 34 => none
  | 35 => (some .int)
  | 36 => (some .int)
  | 37 => (some .int)
  | 38 => (some .int)
  | 39 => (some .int)
  | 40 => (some .int)
  | 41 => (some .int)
  | 42 => (some .int)
  | 43 => (some .int)
  | 44 => (some .int)
  | 45 => (some .int)
  | 46 => (some .int)
  | 47 => (some .int)
  | 48 => (some .int)
  | 49 => (some .int)
  | 50 => (some .int)
  | 51 => (some .int)
  | 52 => (some .int)
  | 53 => (some .int)
  | 54 => (some .int)
  | 55 => (some .int)
  | 56 => (some .int)
  | 57 => (some .int)
  | 58 => (some .int)
  | 59 => (some .int)
  | 60 => (some .int)
  | 61 => (some .int)
  | 62 => (some .int)
  | 63 => (some .int)
  | 64 => (some .int)
  | 65 => (some .int)
  | 66 => (some .int)
  | 67 => (some .int)
  | 68 => (some .int)
  | 69 => (some .int)
  | 70 => (some .int)
  | 71 => (some .int)
  | 72 => (some .int)
  | 73 => (some .boolean)
  | 74 => (some .boolean)
  | 75 => (some .boolean)
  | 76 => (some .boolean)
  | 77 => (some .boolean)
  | 78 => (some .boolean)
  | 79 => (some .boolean)
  | 80 => (some .boolean)
  | 81 => (some .int)
  | 82 => (some .int)
  | 83 => (some .int)
  | 84 => (some .int)
  | 85 => (some .boolean)
  | 86 => (some .int)
  | 87 => (some .boolean)
  | 88 => (some .int)
  | 89 => none
  | 90 => (some .int)
  | 91 => (some .boolean)
  | 92 => (some .boolean)
  | 93 => (some .boolean)
  | 94 => (some .int)
  | 95 => (some .int)
  | 96 => (some .int)
  | 97 => (some .int)
  | 98 => (some .int)
  | 99 => (some .boolean)
  | 100 => (some .int)
  | 101 => (some .boolean)
  | 102 => (some .int)
  | 103 => (some .int)
  | 104 => (some .int)
  | 105 => (some .int)
  | 106 => (some .int)
  | 107 => (some .int)
  | 108 => (some .int)
  | 109 => (some .int)
  | 110 => (some .int)
  | 111 => (some .int)
  | 112 => (some .int)
  | 113 => (some .int)
  | 114 => none
  | 115 => (some .int)
  | 116 => none
  | 117 => none
  | 118 => none
  | 119 => none
  | 120 => none
  | 121 => none
  | 122 => none
  | 123 => none
  | 124 => (some .int)
  | 125 => (some .int)
  | 126 => (some .int)
  | 127 => (some .int)
  | 128 => (some .int)
  | 129 => (some .int)
  | 130 => none
  | 131 => (some .int)
  | 132 => none
  | 133 => none
  | 134 => (some .int)
  | 135 => none
  | 136 => (some .int)
  | 137 => (some .int)
  | 138 => (some .int)
  | 139 => (some .int)
  | 140 => (some .int)
  | 141 => (some .int)
  | 142 => (some .int)
  | 143 => (some .int)
  | 144 => (some .int)
  | 145 => (some .int)
  | 146 => (some .int)
  | 147 => (some .boolean)
  | 148 => (some .int)
  | 149 => none
  | 150 => (some .int)
  | 151 => (some .int)
  | 152 => (some .int)
  | 153 => (some .int)
  | 154 => (some .int)
  | 155 => (some .int)
  | 156 => (some .int)
  | 157 => (some .int)
  | 158 => (some .int)
  | 159 => (some .int)
  | 160 => (some .int)
  | 161 => (some .int)
  | 162 => (some .boolean)
  | 163 => (some .int)
  | 164 => (some .int)
  | 165 => (some .int)
  | 166 => (some .int)
  | 167 => (some .int)
  | 168 => (some .int)
  | 169 => (some .int)
  | 170 => (some .int)
  | 171 => (some .int)
  | 172 => (some .int)
  | 173 => (some .int)
  | 174 => (some .int)
  | 175 => (some .int)
  | 176 => (some .int)
  | 177 => (some .int)
  | 178 => (some .boolean)
  | 179 => (some .int)
  | 180 => (some .byte)
  | 181 => (some .boolean)
  | 182 => (some .int)
  | 183 => (some .int)
  | _ => (some .int)
abbrev NM : Nat := 185
def HF (l : Launch) (D : va_G) (ca : Nat → ClassId) (ad : Nat → Nat) (d : Nat) (F : Nat → List Value → MS → Option MR) : Prop := ∀ i, i < NM → ∀ as S r, F i as S = some r → mCon l D ca ad d (mY i) (mB i) (mL i) (mRt i) as S r
section
variable {l : Launch} {D : va_G} {ca : Nat → ClassId} {ad : Nat → Nat} {d : Nat} {F : Nat → List Value → MS → Option MR}
theorem hF_X0_madeOf (hF : HF l D ca ad d F) : ∀ as S r, F 0 as S = some r → mCon l D ca ad d yX0_madeOf cX0_madeOf 3 (some .int) as S r := hF 0 (by decide)
theorem hF_X0_withAdded (hF : HF l D ca ad d F) : ∀ as S r, F 1 as S = some r → mCon l D ca ad d yX0_withAdded cX0_withAdded 3 (some .int) as S r := hF 1 (by decide)
theorem hF_X0_isSaidOn (hF : HF l D ca ad d F) : ∀ as S r, F 2 as S = some r → mCon l D ca ad d yX0_isSaidOn cX0_isSaidOn 3 (some .boolean) as S r := hF 2 (by decide)
theorem hF_X0_howSlow (hF : HF l D ca ad d F) : ∀ as S r, F 3 as S = some r → mCon l D ca ad d yX0_howSlow cX0_howSlow 2 (some .int) as S r := hF 3 (by decide)
theorem hF_X0_given (hF : HF l D ca ad d F) : ∀ as S r, F 4 as S = some r → mCon l D ca ad d yX0_given cX0_given 6 (some .int) as S r := hF 4 (by decide)
theorem hF_X0_passDay (hF : HF l D ca ad d F) : ∀ as S r, F 5 as S = some r → mCon l D ca ad d yX0_passDay cX0_passDay 2 none as S r := hF 5 (by decide)
theorem hF_X0_draw (hF : HF l D ca ad d F) : ∀ as S r, F 6 as S = some r → mCon l D ca ad d yX0_draw cX0_draw 1 (some .int) as S r := hF 6 (by decide)
theorem hF_X0_copyFrom (hF : HF l D ca ad d F) : ∀ as S r, F 7 as S = some r → mCon l D ca ad d yX0_copyFrom cX0_copyFrom 2 none as S r := hF 7 (by decide)
theorem hF_X1_learnSlow (hF : HF l D ca ad d F) : ∀ as S r, F 8 as S = some r → mCon l D ca ad d yX1_learnSlow cX1_learnSlow 2 none as S r := hF 8 (by decide)
theorem hF_X1_spread (hF : HF l D ca ad d F) : ∀ as S r, F 9 as S = some r → mCon l D ca ad d yX1_spread cX1_spread 6 none as S r := hF 9 (by decide)
theorem hF_X1_isHeardAt (hF : HF l D ca ad d F) : ∀ as S r, F 10 as S = some r → mCon l D ca ad d yX1_isHeardAt cX1_isHeardAt 2 (some .boolean) as S r := hF 10 (by decide)
theorem hF_X1_nextToHear (hF : HF l D ca ad d F) : ∀ as S r, F 11 as S = some r → mCon l D ca ad d yX1_nextToHear cX1_nextToHear 3 (some .int) as S r := hF 11 (by decide)
theorem hF_X1_sayOver (hF : HF l D ca ad d F) : ∀ as S r, F 12 as S = some r → mCon l D ca ad d yX1_sayOver cX1_sayOver 5 none as S r := hF 12 (by decide)
theorem hF_X1_arrive (hF : HF l D ca ad d F) : ∀ as S r, F 13 as S = some r → mCon l D ca ad d yX1_arrive cX1_arrive 4 none as S r := hF 13 (by decide)
theorem hF_X2_begin (hF : HF l D ca ad d F) : ∀ as S r, F 14 as S = some r → mCon l D ca ad d yX2_begin cX2_begin 4 none as S r := hF 14 (by decide)
theorem hF_X2_isMissing (hF : HF l D ca ad d F) : ∀ as S r, F 15 as S = some r → mCon l D ca ad d yX2_isMissing cX2_isMissing 1 (some .boolean) as S r := hF 15 (by decide)
theorem hF_X2_has (hF : HF l D ca ad d F) : ∀ as S r, F 16 as S = some r → mCon l D ca ad d yX2_has cX2_has 3 (some .boolean) as S r := hF 16 (by decide)
theorem hF_X2_lowestBits (hF : HF l D ca ad d F) : ∀ as S r, F 17 as S = some r → mCon l D ca ad d yX2_lowestBits cX2_lowestBits 2 (some .int) as S r := hF 17 (by decide)
theorem hF_X3_answer (hF : HF l D ca ad d F) : ∀ as S r, F 18 as S = some r → mCon l D ca ad d yX3_answer cX3_answer 5 (some .int) as S r := hF 18 (by decide)
theorem hF_X3_speak (hF : HF l D ca ad d F) : ∀ as S r, F 19 as S = some r → mCon l D ca ad d yX3_speak cX3_speak 9 (some .int) as S r := hF 19 (by decide)
theorem hF_X3_part (hF : HF l D ca ad d F) : ∀ as S r, F 20 as S = some r → mCon l D ca ad d yX3_part cX3_part 3 (some .int) as S r := hF 20 (by decide)
theorem hF_X3_begin (hF : HF l D ca ad d F) : ∀ as S r, F 21 as S = some r → mCon l D ca ad d yX3_begin cX3_begin 2 none as S r := hF 21 (by decide)
theorem hF_X4_copyFrom (hF : HF l D ca ad d F) : ∀ as S r, F 22 as S = some r → mCon l D ca ad d yX4_copyFrom cX4_copyFrom 2 none as S r := hF 22 (by decide)
theorem hF_X4_value (hF : HF l D ca ad d F) : ∀ as S r, F 23 as S = some r → mCon l D ca ad d yX4_value cX4_value 7 (some .int) as S r := hF 23 (by decide)
theorem hF_X4_joined (hF : HF l D ca ad d F) : ∀ as S r, F 24 as S = some r → mCon l D ca ad d yX4_joined cX4_joined 3 (some .int) as S r := hF 24 (by decide)
theorem hF_X4_read (hF : HF l D ca ad d F) : ∀ as S r, F 25 as S = some r → mCon l D ca ad d yX4_read cX4_read 4 (some .int) as S r := hF 25 (by decide)
theorem hF_X4_readLevel (hF : HF l D ca ad d F) : ∀ as S r, F 26 as S = some r → mCon l D ca ad d yX4_readLevel cX4_readLevel 5 none as S r := hF 26 (by decide)
theorem hF_X4_readPart (hF : HF l D ca ad d F) : ∀ as S r, F 27 as S = some r → mCon l D ca ad d yX4_readPart cX4_readPart 3 none as S r := hF 27 (by decide)
theorem hF_X4_readNumber (hF : HF l D ca ad d F) : ∀ as S r, F 28 as S = some r → mCon l D ca ad d yX4_readNumber cX4_readNumber 3 none as S r := hF 28 (by decide)
theorem hF_X4_readName (hF : HF l D ca ad d F) : ∀ as S r, F 29 as S = some r → mCon l D ca ad d yX4_readName cX4_readName 3 none as S r := hF 29 (by decide)
theorem hF_X4_readOpened (hF : HF l D ca ad d F) : ∀ as S r, F 30 as S = some r → mCon l D ca ad d yX4_readOpened cX4_readOpened 3 none as S r := hF 30 (by decide)
theorem hF_X4_peek (hF : HF l D ca ad d F) : ∀ as S r, F 31 as S = some r → mCon l D ca ad d yX4_peek cX4_peek 1 (some .int) as S r := hF 31 (by decide)
theorem hF_X4_takeSign (hF : HF l D ca ad d F) : ∀ as S r, F 32 as S = some r → mCon l D ca ad d yX4_takeSign cX4_takeSign 3 (some .int) as S r := hF 32 (by decide)
theorem hF_X4_levelOf (hF : HF l D ca ad d F) : ∀ as S r, F 33 as S = some r → mCon l D ca ad d yX4_levelOf cX4_levelOf 1 (some .int) as S r := hF 33 (by decide)
theorem hF_X4_addStep (hF : HF l D ca ad d F) : ∀ as S r, F 34 as S = some r → mCon l D ca ad d yX4_addStep cX4_addStep 2 none as S r := hF 34 (by decide)
theorem hF_X5_fountain (hF : HF l D ca ad d F) : ∀ as S r, F 35 as S = some r → mCon l D ca ad d yX5_fountain cX5_fountain 4 (some .int) as S r := hF 35 (by decide)
theorem hF_X5_fountainIs (hF : HF l D ca ad d F) : ∀ as S r, F 36 as S = some r → mCon l D ca ad d yX5_fountainIs cX5_fountainIs 3 (some .int) as S r := hF 36 (by decide)
theorem hF_X5_become (hF : HF l D ca ad d F) : ∀ as S r, F 37 as S = some r → mCon l D ca ad d yX5_become cX5_become 4 (some .int) as S r := hF 37 (by decide)
theorem hF_X5_as (hF : HF l D ca ad d F) : ∀ as S r, F 38 as S = some r → mCon l D ca ad d yX5_as cX5_as 3 (some .int) as S r := hF 38 (by decide)
theorem hF_X5_says (hF : HF l D ca ad d F) : ∀ as S r, F 39 as S = some r → mCon l D ca ad d yX5_says cX5_says 3 (some .int) as S r := hF 39 (by decide)
theorem hF_X5_goesOn (hF : HF l D ca ad d F) : ∀ as S r, F 40 as S = some r → mCon l D ca ad d yX5_goesOn cX5_goesOn 3 (some .int) as S r := hF 40 (by decide)
theorem hF_X5_pipe (hF : HF l D ca ad d F) : ∀ as S r, F 41 as S = some r → mCon l D ca ad d yX5_pipe cX5_pipe 5 (some .int) as S r := hF 41 (by decide)
theorem hF_X5_pipeIs (hF : HF l D ca ad d F) : ∀ as S r, F 42 as S = some r → mCon l D ca ad d yX5_pipeIs cX5_pipeIs 3 (some .int) as S r := hF 42 (by decide)
theorem hF_X5_turn (hF : HF l D ca ad d F) : ∀ as S r, F 43 as S = some r → mCon l D ca ad d yX5_turn cX5_turn 4 (some .int) as S r := hF 43 (by decide)
theorem hF_X5_freeze (hF : HF l D ca ad d F) : ∀ as S r, F 44 as S = some r → mCon l D ca ad d yX5_freeze cX5_freeze 3 (some .int) as S r := hF 44 (by decide)
theorem hF_X5_feed (hF : HF l D ca ad d F) : ∀ as S r, F 45 as S = some r → mCon l D ca ad d yX5_feed cX5_feed 5 (some .int) as S r := hF 45 (by decide)
theorem hF_X5_text (hF : HF l D ca ad d F) : ∀ as S r, F 46 as S = some r → mCon l D ca ad d yX5_text cX5_text 3 (some .int) as S r := hF 46 (by decide)
theorem hF_X5_untell (hF : HF l D ca ad d F) : ∀ as S r, F 47 as S = some r → mCon l D ca ad d yX5_untell cX5_untell 3 (some .int) as S r := hF 47 (by decide)
theorem hF_X5_law (hF : HF l D ca ad d F) : ∀ as S r, F 48 as S = some r → mCon l D ca ad d yX5_law cX5_law 5 (some .int) as S r := hF 48 (by decide)
theorem hF_X5_hears (hF : HF l D ca ad d F) : ∀ as S r, F 49 as S = some r → mCon l D ca ad d yX5_hears cX5_hears 3 (some .int) as S r := hF 49 (by decide)
theorem hF_X5_heard (hF : HF l D ca ad d F) : ∀ as S r, F 50 as S = some r → mCon l D ca ad d yX5_heard cX5_heard 5 (some .int) as S r := hF 50 (by decide)
theorem hF_X5_let (hF : HF l D ca ad d F) : ∀ as S r, F 51 as S = some r → mCon l D ca ad d yX5_let cX5_let 3 (some .int) as S r := hF 51 (by decide)
theorem hF_X5_days (hF : HF l D ca ad d F) : ∀ as S r, F 52 as S = some r → mCon l D ca ad d yX5_days cX5_days 3 (some .int) as S r := hF 52 (by decide)
theorem hF_X5_loose (hF : HF l D ca ad d F) : ∀ as S r, F 53 as S = some r → mCon l D ca ad d yX5_loose cX5_loose 5 (some .int) as S r := hF 53 (by decide)
theorem hF_X5_seed (hF : HF l D ca ad d F) : ∀ as S r, F 54 as S = some r → mCon l D ca ad d yX5_seed cX5_seed 3 (some .int) as S r := hF 54 (by decide)
theorem hF_X5_hush (hF : HF l D ca ad d F) : ∀ as S r, F 55 as S = some r → mCon l D ca ad d yX5_hush cX5_hush 6 (some .int) as S r := hF 55 (by decide)
theorem hF_X5_reach (hF : HF l D ca ad d F) : ∀ as S r, F 56 as S = some r → mCon l D ca ad d yX5_reach cX5_reach 7 (some .int) as S r := hF 56 (by decide)
theorem hF_X5_odds (hF : HF l D ca ad d F) : ∀ as S r, F 57 as S = some r → mCon l D ca ad d yX5_odds cX5_odds 6 (some .int) as S r := hF 57 (by decide)
theorem hF_X5_fits (hF : HF l D ca ad d F) : ∀ as S r, F 58 as S = some r → mCon l D ca ad d yX5_fits cX5_fits 7 (some .int) as S r := hF 58 (by decide)
theorem hF_X5_voice (hF : HF l D ca ad d F) : ∀ as S r, F 59 as S = some r → mCon l D ca ad d yX5_voice cX5_voice 5 (some .int) as S r := hF 59 (by decide)
theorem hF_X5_body (hF : HF l D ca ad d F) : ∀ as S r, F 60 as S = some r → mCon l D ca ad d yX5_body cX5_body 2 (some .int) as S r := hF 60 (by decide)
theorem hF_X5_sheet (hF : HF l D ca ad d F) : ∀ as S r, F 61 as S = some r → mCon l D ca ad d yX5_sheet cX5_sheet 4 (some .int) as S r := hF 61 (by decide)
theorem hF_X5_put (hF : HF l D ca ad d F) : ∀ as S r, F 62 as S = some r → mCon l D ca ad d yX5_put cX5_put 5 (some .int) as S r := hF 62 (by decide)
theorem hF_X5_move (hF : HF l D ca ad d F) : ∀ as S r, F 63 as S = some r → mCon l D ca ad d yX5_move cX5_move 8 (some .int) as S r := hF 63 (by decide)
theorem hF_X5_talks (hF : HF l D ca ad d F) : ∀ as S r, F 64 as S = some r → mCon l D ca ad d yX5_talks cX5_talks 6 (some .int) as S r := hF 64 (by decide)
theorem hF_X5_judge (hF : HF l D ca ad d F) : ∀ as S r, F 65 as S = some r → mCon l D ca ad d yX5_judge cX5_judge 5 (some .int) as S r := hF 65 (by decide)
theorem hF_X5_image (hF : HF l D ca ad d F) : ∀ as S r, F 66 as S = some r → mCon l D ca ad d yX5_image cX5_image 1 (some .int) as S r := hF 66 (by decide)
theorem hF_X5_restore (hF : HF l D ca ad d F) : ∀ as S r, F 67 as S = some r → mCon l D ca ad d yX5_restore cX5_restore 1 (some .int) as S r := hF 67 (by decide)
theorem hF_X5_tell (hF : HF l D ca ad d F) : ∀ as S r, F 68 as S = some r → mCon l D ca ad d yX5_tell cX5_tell 2 (some .int) as S r := hF 68 (by decide)
theorem hF_X5_check (hF : HF l D ca ad d F) : ∀ as S r, F 69 as S = some r → mCon l D ca ad d yX5_check cX5_check 3 (some .int) as S r := hF 69 (by decide)
theorem hF_X5_count (hF : HF l D ca ad d F) : ∀ as S r, F 70 as S = some r → mCon l D ca ad d yX5_count cX5_count 2 (some .int) as S r := hF 70 (by decide)
theorem hF_X5_told (hF : HF l D ca ad d F) : ∀ as S r, F 71 as S = some r → mCon l D ca ad d yX5_told cX5_told 2 (some .int) as S r := hF 71 (by decide)
theorem hF_X5_error (hF : HF l D ca ad d F) : ∀ as S r, F 72 as S = some r → mCon l D ca ad d yX5_error cX5_error 2 (some .int) as S r := hF 72 (by decide)
theorem hF_X5_isBit (hF : HF l D ca ad d F) : ∀ as S r, F 73 as S = some r → mCon l D ca ad d yX5_isBit cX5_isBit 1 (some .boolean) as S r := hF 73 (by decide)
theorem hF_X5_isDigit (hF : HF l D ca ad d F) : ∀ as S r, F 74 as S = some r → mCon l D ca ad d yX5_isDigit cX5_isDigit 1 (some .boolean) as S r := hF 74 (by decide)
theorem hF_X5_isKindAndM (hF : HF l D ca ad d F) : ∀ as S r, F 75 as S = some r → mCon l D ca ad d yX5_isKindAndM cX5_isKindAndM 1 (some .boolean) as S r := hF 75 (by decide)
theorem hF_X5_isFountain (hF : HF l D ca ad d F) : ∀ as S r, F 76 as S = some r → mCon l D ca ad d yX5_isFountain cX5_isFountain 2 (some .boolean) as S r := hF 76 (by decide)
theorem hF_X5_isPipe (hF : HF l D ca ad d F) : ∀ as S r, F 77 as S = some r → mCon l D ca ad d yX5_isPipe cX5_isPipe 2 (some .boolean) as S r := hF 77 (by decide)
theorem hF_X5_isSaying (hF : HF l D ca ad d F) : ∀ as S r, F 78 as S = some r → mCon l D ca ad d yX5_isSaying cX5_isSaying 3 (some .boolean) as S r := hF 78 (by decide)
theorem hF_X5_isSheet (hF : HF l D ca ad d F) : ∀ as S r, F 79 as S = some r → mCon l D ca ad d yX5_isSheet cX5_isSheet 1 (some .boolean) as S r := hF 79 (by decide)
theorem hF_X5_isUnder (hF : HF l D ca ad d F) : ∀ as S r, F 80 as S = some r → mCon l D ca ad d yX5_isUnder cX5_isUnder 4 (some .boolean) as S r := hF 80 (by decide)
theorem hF_X5_commonDivisor (hF : HF l D ca ad d F) : ∀ as S r, F 81 as S = some r → mCon l D ca ad d yX5_commonDivisor cX5_commonDivisor 3 (some .int) as S r := hF 81 (by decide)
theorem hF_X5_letOut (hF : HF l D ca ad d F) : ∀ as S r, F 82 as S = some r → mCon l D ca ad d yX5_letOut cX5_letOut 4 (some .int) as S r := hF 82 (by decide)
theorem hF_X5_fewestToShut (hF : HF l D ca ad d F) : ∀ as S r, F 83 as S = some r → mCon l D ca ad d yX5_fewestToShut cX5_fewestToShut 6 (some .int) as S r := hF 83 (by decide)
theorem hF_X5_fewestToOpen (hF : HF l D ca ad d F) : ∀ as S r, F 84 as S = some r → mCon l D ca ad d yX5_fewestToOpen cX5_fewestToOpen 7 (some .int) as S r := hF 84 (by decide)
theorem hF_X5_isHeardAsIn (hF : HF l D ca ad d F) : ∀ as S r, F 85 as S = some r → mCon l D ca ad d yX5_isHeardAsIn cX5_isHeardAsIn 4 (some .boolean) as S r := hF 85 (by decide)
theorem hF_X6_error (hF : HF l D ca ad d F) : ∀ as S r, F 86 as S = some r → mCon l D ca ad d yX6_error cX6_error 2 (some .int) as S r := hF 86 (by decide)
theorem hF_X6_in (hF : HF l D ca ad d F) : ∀ as S r, F 87 as S = some r → mCon l D ca ad d yX6_in cX6_in 3 (some .boolean) as S r := hF 87 (by decide)
theorem hF_X6_held (hF : HF l D ca ad d F) : ∀ as S r, F 88 as S = some r → mCon l D ca ad d yX6_held cX6_held 3 (some .int) as S r := hF 88 (by decide)
theorem hF_X6_copyAll (hF : HF l D ca ad d F) : ∀ as S r, F 89 as S = some r → mCon l D ca ad d yX6_copyAll cX6_copyAll 3 none as S r := hF 89 (by decide)
theorem hF_X6_bits (hF : HF l D ca ad d F) : ∀ as S r, F 90 as S = some r → mCon l D ca ad d yX6_bits cX6_bits 3 (some .int) as S r := hF 90 (by decide)
theorem hF_X6_isFountain (hF : HF l D ca ad d F) : ∀ as S r, F 91 as S = some r → mCon l D ca ad d yX6_isFountain cX6_isFountain 2 (some .boolean) as S r := hF 91 (by decide)
theorem hF_X6_isPipe (hF : HF l D ca ad d F) : ∀ as S r, F 92 as S = some r → mCon l D ca ad d yX6_isPipe cX6_isPipe 2 (some .boolean) as S r := hF 92 (by decide)
theorem hF_X6_isSize (hF : HF l D ca ad d F) : ∀ as S r, F 93 as S = some r → mCon l D ca ad d yX6_isSize cX6_isSize 1 (some .boolean) as S r := hF 93 (by decide)
theorem hF_X6_becomes (hF : HF l D ca ad d F) : ∀ as S r, F 94 as S = some r → mCon l D ca ad d yX6_becomes cX6_becomes 4 (some .int) as S r := hF 94 (by decide)
theorem hF_X6_of (hF : HF l D ca ad d F) : ∀ as S r, F 95 as S = some r → mCon l D ca ad d yX6_of cX6_of 3 (some .int) as S r := hF 95 (by decide)
theorem hF_X6_about (hF : HF l D ca ad d F) : ∀ as S r, F 96 as S = some r → mCon l D ca ad d yX6_about cX6_about 3 (some .int) as S r := hF 96 (by decide)
theorem hF_X6_addsOf (hF : HF l D ca ad d F) : ∀ as S r, F 97 as S = some r → mCon l D ca ad d yX6_addsOf cX6_addsOf 5 (some .int) as S r := hF 97 (by decide)
theorem hF_X6_saidOf (hF : HF l D ca ad d F) : ∀ as S r, F 98 as S = some r → mCon l D ca ad d yX6_saidOf cX6_saidOf 3 (some .int) as S r := hF 98 (by decide)
theorem hF_X6_doesSayOn (hF : HF l D ca ad d F) : ∀ as S r, F 99 as S = some r → mCon l D ca ad d yX6_doesSayOn cX6_doesSayOn 4 (some .boolean) as S r := hF 99 (by decide)
theorem hF_X6_slowOf (hF : HF l D ca ad d F) : ∀ as S r, F 100 as S = some r → mCon l D ca ad d yX6_slowOf cX6_slowOf 3 (some .int) as S r := hF 100 (by decide)
theorem hF_X6_isKm (hF : HF l D ca ad d F) : ∀ as S r, F 101 as S = some r → mCon l D ca ad d yX6_isKm cX6_isKm 1 (some .boolean) as S r := hF 101 (by decide)
theorem hF_X6_fountain (hF : HF l D ca ad d F) : ∀ as S r, F 102 as S = some r → mCon l D ca ad d yX6_fountain cX6_fountain 4 (some .int) as S r := hF 102 (by decide)
theorem hF_X6_fountainIs (hF : HF l D ca ad d F) : ∀ as S r, F 103 as S = some r → mCon l D ca ad d yX6_fountainIs cX6_fountainIs 3 (some .int) as S r := hF 103 (by decide)
theorem hF_X6_become (hF : HF l D ca ad d F) : ∀ as S r, F 104 as S = some r → mCon l D ca ad d yX6_become cX6_become 3 (some .int) as S r := hF 104 (by decide)
theorem hF_X6_as (hF : HF l D ca ad d F) : ∀ as S r, F 105 as S = some r → mCon l D ca ad d yX6_as cX6_as 5 (some .int) as S r := hF 105 (by decide)
theorem hF_X6_says (hF : HF l D ca ad d F) : ∀ as S r, F 106 as S = some r → mCon l D ca ad d yX6_says cX6_says 3 (some .int) as S r := hF 106 (by decide)
theorem hF_X6_goesOn (hF : HF l D ca ad d F) : ∀ as S r, F 107 as S = some r → mCon l D ca ad d yX6_goesOn cX6_goesOn 3 (some .int) as S r := hF 107 (by decide)
theorem hF_X6_pipe (hF : HF l D ca ad d F) : ∀ as S r, F 108 as S = some r → mCon l D ca ad d yX6_pipe cX6_pipe 5 (some .int) as S r := hF 108 (by decide)
theorem hF_X6_pipeIs (hF : HF l D ca ad d F) : ∀ as S r, F 109 as S = some r → mCon l D ca ad d yX6_pipeIs cX6_pipeIs 3 (some .int) as S r := hF 109 (by decide)
theorem hF_X6_turn (hF : HF l D ca ad d F) : ∀ as S r, F 110 as S = some r → mCon l D ca ad d yX6_turn cX6_turn 3 (some .int) as S r := hF 110 (by decide)
theorem hF_X6_freeze (hF : HF l D ca ad d F) : ∀ as S r, F 111 as S = some r → mCon l D ca ad d yX6_freeze cX6_freeze 2 (some .int) as S r := hF 111 (by decide)
theorem hF_X6_feed (hF : HF l D ca ad d F) : ∀ as S r, F 112 as S = some r → mCon l D ca ad d yX6_feed cX6_feed 5 (some .int) as S r := hF 112 (by decide)
theorem hF_X6_look (hF : HF l D ca ad d F) : ∀ as S r, F 113 as S = some r → mCon l D ca ad d yX6_look cX6_look 1 (some .int) as S r := hF 113 (by decide)
theorem hF_X6_lays (hF : HF l D ca ad d F) : ∀ as S r, F 114 as S = some r → mCon l D ca ad d yX6_lays cX6_lays 3 none as S r := hF 114 (by decide)
theorem hF_X6_nameOf (hF : HF l D ca ad d F) : ∀ as S r, F 115 as S = some r → mCon l D ca ad d yX6_nameOf cX6_nameOf 2 (some .int) as S r := hF 115 (by decide)
theorem hF_X6_number (hF : HF l D ca ad d F) : ∀ as S r, F 116 as S = some r → mCon l D ca ad d yX6_number cX6_number 3 none as S r := hF 116 (by decide)
theorem hF_X6_opens (hF : HF l D ca ad d F) : ∀ as S r, F 117 as S = some r → mCon l D ca ad d yX6_opens cX6_opens 2 none as S r := hF 117 (by decide)
theorem hF_X6_one (hF : HF l D ca ad d F) : ∀ as S r, F 118 as S = some r → mCon l D ca ad d yX6_one cX6_one 3 none as S r := hF 118 (by decide)
theorem hF_X6_times (hF : HF l D ca ad d F) : ∀ as S r, F 119 as S = some r → mCon l D ca ad d yX6_times cX6_times 2 none as S r := hF 119 (by decide)
theorem hF_X6_sum (hF : HF l D ca ad d F) : ∀ as S r, F 120 as S = some r → mCon l D ca ad d yX6_sum cX6_sum 2 none as S r := hF 120 (by decide)
theorem hF_X6_compares (hF : HF l D ca ad d F) : ∀ as S r, F 121 as S = some r → mCon l D ca ad d yX6_compares cX6_compares 2 none as S r := hF 121 (by decide)
theorem hF_X6_all (hF : HF l D ca ad d F) : ∀ as S r, F 122 as S = some r → mCon l D ca ad d yX6_all cX6_all 1 none as S r := hF 122 (by decide)
theorem hF_X6_any (hF : HF l D ca ad d F) : ∀ as S r, F 123 as S = some r → mCon l D ca ad d yX6_any cX6_any 1 none as S r := hF 123 (by decide)
theorem hF_X6_text (hF : HF l D ca ad d F) : ∀ as S r, F 124 as S = some r → mCon l D ca ad d yX6_text cX6_text 4 (some .int) as S r := hF 124 (by decide)
theorem hF_X6_untell (hF : HF l D ca ad d F) : ∀ as S r, F 125 as S = some r → mCon l D ca ad d yX6_untell cX6_untell 2 (some .int) as S r := hF 125 (by decide)
theorem hF_X6_twoOf (hF : HF l D ca ad d F) : ∀ as S r, F 126 as S = some r → mCon l D ca ad d yX6_twoOf cX6_twoOf 3 (some .int) as S r := hF 126 (by decide)
theorem hF_X6_works (hF : HF l D ca ad d F) : ∀ as S r, F 127 as S = some r → mCon l D ca ad d yX6_works cX6_works 5 (some .int) as S r := hF 127 (by decide)
theorem hF_X6_gives (hF : HF l D ca ad d F) : ∀ as S r, F 128 as S = some r → mCon l D ca ad d yX6_gives cX6_gives 7 (some .int) as S r := hF 128 (by decide)
theorem hF_X6_law (hF : HF l D ca ad d F) : ∀ as S r, F 129 as S = some r → mCon l D ca ad d yX6_law cX6_law 5 (some .int) as S r := hF 129 (by decide)
theorem hF_X6_findSlow (hF : HF l D ca ad d F) : ∀ as S r, F 130 as S = some r → mCon l D ca ad d yX6_findSlow cX6_findSlow 2 none as S r := hF 130 (by decide)
theorem hF_X6_opened (hF : HF l D ca ad d F) : ∀ as S r, F 131 as S = some r → mCon l D ca ad d yX6_opened cX6_opened 3 (some .int) as S r := hF 131 (by decide)
theorem hF_X6_saysOn (hF : HF l D ca ad d F) : ∀ as S r, F 132 as S = some r → mCon l D ca ad d yX6_saysOn cX6_saysOn 8 none as S r := hF 132 (by decide)
theorem hF_X6_spreads (hF : HF l D ca ad d F) : ∀ as S r, F 133 as S = some r → mCon l D ca ad d yX6_spreads cX6_spreads 6 none as S r := hF 133 (by decide)
theorem hF_X6_hearers (hF : HF l D ca ad d F) : ∀ as S r, F 134 as S = some r → mCon l D ca ad d yX6_hearers cX6_hearers 3 (some .int) as S r := hF 134 (by decide)
theorem hF_X6_spreadsNow (hF : HF l D ca ad d F) : ∀ as S r, F 135 as S = some r → mCon l D ca ad d yX6_spreadsNow cX6_spreadsNow 3 none as S r := hF 135 (by decide)
theorem hF_X6_hears (hF : HF l D ca ad d F) : ∀ as S r, F 136 as S = some r → mCon l D ca ad d yX6_hears cX6_hears 3 (some .int) as S r := hF 136 (by decide)
theorem hF_X6_heard (hF : HF l D ca ad d F) : ∀ as S r, F 137 as S = some r → mCon l D ca ad d yX6_heard cX6_heard 5 (some .int) as S r := hF 137 (by decide)
theorem hF_X6_lets (hF : HF l D ca ad d F) : ∀ as S r, F 138 as S = some r → mCon l D ca ad d yX6_lets cX6_lets 5 (some .int) as S r := hF 138 (by decide)
theorem hF_X6_let (hF : HF l D ca ad d F) : ∀ as S r, F 139 as S = some r → mCon l D ca ad d yX6_let cX6_let 3 (some .int) as S r := hF 139 (by decide)
theorem hF_X6_days (hF : HF l D ca ad d F) : ∀ as S r, F 140 as S = some r → mCon l D ca ad d yX6_days cX6_days 4 (some .int) as S r := hF 140 (by decide)
theorem hF_X6_draw (hF : HF l D ca ad d F) : ∀ as S r, F 141 as S = some r → mCon l D ca ad d yX6_draw cX6_draw 1 (some .int) as S r := hF 141 (by decide)
theorem hF_X6_loose (hF : HF l D ca ad d F) : ∀ as S r, F 142 as S = some r → mCon l D ca ad d yX6_loose cX6_loose 5 (some .int) as S r := hF 142 (by decide)
theorem hF_X6_seed (hF : HF l D ca ad d F) : ∀ as S r, F 143 as S = some r → mCon l D ca ad d yX6_seed cX6_seed 2 (some .int) as S r := hF 143 (by decide)
theorem hF_X6_hush (hF : HF l D ca ad d F) : ∀ as S r, F 144 as S = some r → mCon l D ca ad d yX6_hush cX6_hush 8 (some .int) as S r := hF 144 (by decide)
theorem hF_X6_reach (hF : HF l D ca ad d F) : ∀ as S r, F 145 as S = some r → mCon l D ca ad d yX6_reach cX6_reach 10 (some .int) as S r := hF 145 (by decide)
theorem hF_X6_odds (hF : HF l D ca ad d F) : ∀ as S r, F 146 as S = some r → mCon l D ca ad d yX6_odds cX6_odds 7 (some .int) as S r := hF 146 (by decide)
theorem hF_X6_isSo (hF : HF l D ca ad d F) : ∀ as S r, F 147 as S = some r → mCon l D ca ad d yX6_isSo cX6_isSo 4 (some .boolean) as S r := hF 147 (by decide)
theorem hF_X6_fits (hF : HF l D ca ad d F) : ∀ as S r, F 148 as S = some r → mCon l D ca ad d yX6_fits cX6_fits 8 (some .int) as S r := hF 148 (by decide)
theorem hF_X6_begins (hF : HF l D ca ad d F) : ∀ as S r, F 149 as S = some r → mCon l D ca ad d yX6_begins cX6_begins 2 none as S r := hF 149 (by decide)
theorem hF_X6_plainSplashes (hF : HF l D ca ad d F) : ∀ as S r, F 150 as S = some r → mCon l D ca ad d yX6_plainSplashes cX6_plainSplashes 3 (some .int) as S r := hF 150 (by decide)
theorem hF_X6_lionSplashes (hF : HF l D ca ad d F) : ∀ as S r, F 151 as S = some r → mCon l D ca ad d yX6_lionSplashes cX6_lionSplashes 3 (some .int) as S r := hF 151 (by decide)
theorem hF_X6_splashes (hF : HF l D ca ad d F) : ∀ as S r, F 152 as S = some r → mCon l D ca ad d yX6_splashes cX6_splashes 3 (some .int) as S r := hF 152 (by decide)
theorem hF_X6_plainLisps (hF : HF l D ca ad d F) : ∀ as S r, F 153 as S = some r → mCon l D ca ad d yX6_plainLisps cX6_plainLisps 3 (some .int) as S r := hF 153 (by decide)
theorem hF_X6_dolphinLisps (hF : HF l D ca ad d F) : ∀ as S r, F 154 as S = some r → mCon l D ca ad d yX6_dolphinLisps cX6_dolphinLisps 3 (some .int) as S r := hF 154 (by decide)
theorem hF_X6_lisps (hF : HF l D ca ad d F) : ∀ as S r, F 155 as S = some r → mCon l D ca ad d yX6_lisps cX6_lisps 3 (some .int) as S r := hF 155 (by decide)
theorem hF_X6_plainDrips (hF : HF l D ca ad d F) : ∀ as S r, F 156 as S = some r → mCon l D ca ad d yX6_plainDrips cX6_plainDrips 3 (some .int) as S r := hF 156 (by decide)
theorem hF_X6_drips (hF : HF l D ca ad d F) : ∀ as S r, F 157 as S = some r → mCon l D ca ad d yX6_drips cX6_drips 3 (some .int) as S r := hF 157 (by decide)
theorem hF_X6_plainParts (hF : HF l D ca ad d F) : ∀ as S r, F 158 as S = some r → mCon l D ca ad d yX6_plainParts cX6_plainParts 4 (some .int) as S r := hF 158 (by decide)
theorem hF_X6_partsBy (hF : HF l D ca ad d F) : ∀ as S r, F 159 as S = some r → mCon l D ca ad d yX6_partsBy cX6_partsBy 4 (some .int) as S r := hF 159 (by decide)
theorem hF_X6_voice (hF : HF l D ca ad d F) : ∀ as S r, F 160 as S = some r → mCon l D ca ad d yX6_voice cX6_voice 5 (some .int) as S r := hF 160 (by decide)
theorem hF_X6_body (hF : HF l D ca ad d F) : ∀ as S r, F 161 as S = some r → mCon l D ca ad d yX6_body cX6_body 2 (some .int) as S r := hF 161 (by decide)
theorem hF_X6_isSheet (hF : HF l D ca ad d F) : ∀ as S r, F 162 as S = some r → mCon l D ca ad d yX6_isSheet cX6_isSheet 1 (some .boolean) as S r := hF 162 (by decide)
theorem hF_X6_sheet (hF : HF l D ca ad d F) : ∀ as S r, F 163 as S = some r → mCon l D ca ad d yX6_sheet cX6_sheet 5 (some .int) as S r := hF 163 (by decide)
theorem hF_X6_notThere (hF : HF l D ca ad d F) : ∀ as S r, F 164 as S = some r → mCon l D ca ad d yX6_notThere cX6_notThere 2 (some .int) as S r := hF 164 (by decide)
theorem hF_X6_put (hF : HF l D ca ad d F) : ∀ as S r, F 165 as S = some r → mCon l D ca ad d yX6_put cX6_put 5 (some .int) as S r := hF 165 (by decide)
theorem hF_X6_notMoved (hF : HF l D ca ad d F) : ∀ as S r, F 166 as S = some r → mCon l D ca ad d yX6_notMoved cX6_notMoved 7 (some .int) as S r := hF 166 (by decide)
theorem hF_X6_move (hF : HF l D ca ad d F) : ∀ as S r, F 167 as S = some r → mCon l D ca ad d yX6_move cX6_move 9 (some .int) as S r := hF 167 (by decide)
theorem hF_X6_talks (hF : HF l D ca ad d F) : ∀ as S r, F 168 as S = some r → mCon l D ca ad d yX6_talks cX6_talks 4 (some .int) as S r := hF 168 (by decide)
theorem hF_X6_judge (hF : HF l D ca ad d F) : ∀ as S r, F 169 as S = some r → mCon l D ca ad d yX6_judge cX6_judge 4 (some .int) as S r := hF 169 (by decide)
theorem hF_X6_image (hF : HF l D ca ad d F) : ∀ as S r, F 170 as S = some r → mCon l D ca ad d yX6_image cX6_image 1 (some .int) as S r := hF 170 (by decide)
theorem hF_X6_restore (hF : HF l D ca ad d F) : ∀ as S r, F 171 as S = some r → mCon l D ca ad d yX6_restore cX6_restore 1 (some .int) as S r := hF 171 (by decide)
theorem hF_X6_tell (hF : HF l D ca ad d F) : ∀ as S r, F 172 as S = some r → mCon l D ca ad d yX6_tell cX6_tell 2 (some .int) as S r := hF 172 (by decide)
theorem hF_X6_check (hF : HF l D ca ad d F) : ∀ as S r, F 173 as S = some r → mCon l D ca ad d yX6_check cX6_check 3 (some .int) as S r := hF 173 (by decide)
theorem hF_X6_count (hF : HF l D ca ad d F) : ∀ as S r, F 174 as S = some r → mCon l D ca ad d yX6_count cX6_count 2 (some .int) as S r := hF 174 (by decide)
theorem hF_X6_told (hF : HF l D ca ad d F) : ∀ as S r, F 175 as S = some r → mCon l D ca ad d yX6_told cX6_told 2 (some .int) as S r := hF 175 (by decide)
theorem hF_J0_indexOf_0f7a4 (hF : HF l D ca ad d F) : ∀ as S r, F 176 as S = some r → mCon l D ca ad d yJ0_indexOf_0f7a4 cJ0_indexOf_0f7a4 2 (some .int) as S r := hF 176 (by decide)
theorem hF_J0_indexOf_7cf53 (hF : HF l D ca ad d F) : ∀ as S r, F 177 as S = some r → mCon l D ca ad d yJ0_indexOf_7cf53 cJ0_indexOf_7cf53 3 (some .int) as S r := hF 177 (by decide)
theorem hF_J0_isLatin1_aae02 (hF : HF l D ca ad d F) : ∀ as S r, F 178 as S = some r → mCon l D ca ad d yJ0_isLatin1_aae02 cJ0_isLatin1_aae02 1 (some .boolean) as S r := hF 178 (by decide)
theorem hF_J0_length_8abf5 (hF : HF l D ca ad d F) : ∀ as S r, F 179 as S = some r → mCon l D ca ad d yJ0_length_8abf5 cJ0_length_8abf5 1 (some .int) as S r := hF 179 (by decide)
theorem hF_J0_coder_7d493 (hF : HF l D ca ad d F) : ∀ as S r, F 180 as S = some r → mCon l D ca ad d yJ0_coder_7d493 cJ0_coder_7d493 1 (some .byte) as S r := hF 180 (by decide)
theorem hF_J1_canEncode_9a6ad (hF : HF l D ca ad d F) : ∀ as S r, F 181 as S = some r → mCon l D ca ad d yJ1_canEncode_9a6ad cJ1_canEncode_9a6ad 1 (some .boolean) as S r := hF 181 (by decide)
theorem hF_J1_indexOf_4cfef (hF : HF l D ca ad d F) : ∀ as S r, F 182 as S = some r → mCon l D ca ad d yJ1_indexOf_4cfef cJ1_indexOf_4cfef 4 (some .int) as S r := hF 182 (by decide)
theorem hF_J1_indexOfChar_4cfef (hF : HF l D ca ad d F) : ∀ as S r, F 183 as S = some r → mCon l D ca ad d yJ1_indexOfChar_4cfef cJ1_indexOfChar_4cfef 6 (some .int) as S r := hF 183 (by decide)
theorem hF_J6_bitCount_0f7a4 (hF : HF l D ca ad d F) : ∀ as S r, F 184 as S = some r → mCon l D ca ad d yJ6_bitCount_0f7a4 cJ6_bitCount_0f7a4 1 (some .int) as S r := hF 184 (by decide)
end
