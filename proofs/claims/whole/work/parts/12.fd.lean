/-! ===== all methods: their values by the depth of calls, and that the machine does what they say ===== -/
def mprog (F : Nat → List Value → MS → Option MR) : Nat → List (Nat × MOp) := fun i => match i with
  | 0 => kX0_madeOf F
  | 1 => kX0_withAdded F
  | 2 => kX0_isSaidOn F
  | 3 => kX0_howSlow F
  | 4 => kX0_given F
  | 5 => kX0_passDay F
  | 6 => kX0_draw F
  | 7 => kX0_copyFrom F
  | 8 => kX1_learnSlow F
  | 9 => kX1_spread F
  | 10 => kX1_isHeardAt F
  | 11 => kX1_nextToHear F
  | 12 => kX1_sayOver F
  | 13 => kX1_arrive F
  | 14 => kX2_begin F
  | 15 => kX2_isMissing F
  | 16 => kX2_has F
  | 17 => kX2_lowestBits F
  | 18 => kX3_answer F
  | 19 => kX3_speak F
  | 20 => kX3_part F
  | 21 => kX3_begin F
  | 22 => kX4_copyFrom F
  | 23 => kX4_value F
  | 24 => kX4_joined F
  | 25 => kX4_read F
  | 26 => kX4_readLevel F
  | 27 => kX4_readPart F
  | 28 => kX4_readNumber F
  | 29 => kX4_readName F
  | 30 => kX4_readOpened F
  | 31 => kX4_peek F
  | 32 => kX4_takeSign F
  | 33 => kX4_levelOf F
  | 34 => kX4_addStep F
  | 35 => kX5_fountain F
  | 36 => kX5_fountainIs F
  | 37 => kX5_become F
  | 38 => kX5_as F
  | 39 => kX5_says F
  | 40 => kX5_goesOn F
  | 41 => kX5_pipe F
  | 42 => kX5_pipeIs F
  | 43 => kX5_turn F
  | 44 => kX5_freeze F
  | 45 => kX5_feed F
  | 46 => kX5_text F
  | 47 => kX5_untell F
  | 48 => kX5_law F
  | 49 => kX5_hears F
  | 50 => kX5_heard F
  | 51 => kX5_let F
  | 52 => kX5_days F
  | 53 => kX5_loose F
  | 54 => kX5_seed F
  | 55 => kX5_hush F
  | 56 => kX5_reach F
  | 57 => kX5_odds F
  | 58 => kX5_fits F
  | 59 => kX5_voice F
  | 60 => kX5_body F
  | 61 => kX5_sheet F
  | 62 => kX5_put F
  | 63 => kX5_move F
  | 64 => kX5_talks F
  | 65 => kX5_judge F
  | 66 => kX5_image F
  | 67 => kX5_restore F
  | 68 => kX5_tell F
  | 69 => kX5_check F
  | 70 => kX5_count F
  | 71 => kX5_told F
  | 72 => kX5_error F
  | 73 => kX5_isBit F
  | 74 => kX5_isDigit F
  | 75 => kX5_isKindAndM F
  | 76 => kX5_isFountain F
  | 77 => kX5_isPipe F
  | 78 => kX5_isSaying F
  | 79 => kX5_isSheet F
  | 80 => kX5_isUnder F
  | 81 => kX5_commonDivisor F
  | 82 => kX5_letOut F
  | 83 => kX5_fewestToShut F
  | 84 => kX5_fewestToOpen F
  | 85 => kX5_isHeardAsIn F
  | 86 => kX6_error F
  | 87 => kX6_in F
  | 88 => kX6_held F
  | 89 => kX6_copyAll F
  | 90 => kX6_bits F
  | 91 => kX6_isFountain F
  | 92 => kX6_isPipe F
  | 93 => kX6_isSize F
  | 94 => kX6_becomes F
  | 95 => kX6_of F
  | 96 => kX6_about F
  | 97 => kX6_addsOf F
  | 98 => kX6_saidOf F
  | 99 => kX6_doesSayOn F
  | 100 => kX6_slowOf F
  | 101 => kX6_isKm F
  | 102 => kX6_fountain F
  | 103 => kX6_fountainIs F
  | 104 => kX6_become F
  | 105 => kX6_as F
  | 106 => kX6_says F
  | 107 => kX6_goesOn F
  | 108 => kX6_pipe F
  | 109 => kX6_pipeIs F
  | 110 => kX6_turn F
  | 111 => kX6_freeze F
  | 112 => kX6_feed F
  | 113 => kX6_look F
  | 114 => kX6_lays F
  | 115 => kX6_nameOf F
  | 116 => kX6_number F
  | 117 => kX6_opens F
  | 118 => kX6_one F
  | 119 => kX6_times F
  | 120 => kX6_sum F
  | 121 => kX6_compares F
  | 122 => kX6_all F
  | 123 => kX6_any F
  | 124 => kX6_text F
  | 125 => kX6_untell F
  | 126 => kX6_twoOf F
  | 127 => kX6_works F
  | 128 => kX6_gives F
  | 129 => kX6_law F
  | 130 => kX6_findSlow F
  | 131 => kX6_opened F
  | 132 => kX6_saysOn F
  | 133 => kX6_spreads F
  | 134 => kX6_hearers F
  | 135 => kX6_spreadsNow F
  | 136 => kX6_hears F
  | 137 => kX6_heard F
  | 138 => kX6_lets F
  | 139 => kX6_let F
  | 140 => kX6_days F
  | 141 => kX6_draw F
  | 142 => kX6_loose F
  | 143 => kX6_seed F
  | 144 => kX6_hush F
  | 145 => kX6_reach F
  | 146 => kX6_odds F
  | 147 => kX6_isSo F
  | 148 => kX6_fits F
  | 149 => kX6_begins F
  | 150 => kX6_plainSplashes F
  | 151 => kX6_lionSplashes F
  | 152 => kX6_splashes F
  | 153 => kX6_plainLisps F
  | 154 => kX6_dolphinLisps F
  | 155 => kX6_lisps F
  | 156 => kX6_plainDrips F
  | 157 => kX6_drips F
  | 158 => kX6_plainParts F
  | 159 => kX6_partsBy F
  | 160 => kX6_voice F
  | 161 => kX6_body F
  | 162 => kX6_isSheet F
  | 163 => kX6_sheet F
  | 164 => kX6_notThere F
  | 165 => kX6_put F
  | 166 => kX6_notMoved F
  | 167 => kX6_move F
  | 168 => kX6_talks F
  | 169 => kX6_judge F
  | 170 => kX6_image F
  | 171 => kX6_restore F
  | 172 => kX6_tell F
  | 173 => kX6_check F
  | 174 => kX6_count F
  | 175 => kX6_told F
  | 176 => kJ0_indexOf_0f7a4 F
  | 177 => kJ0_indexOf_7cf53 F
  | 178 => kJ0_isLatin1_aae02 F
  | 179 => kJ0_length_8abf5 F
  | 180 => kJ0_coder_7d493 F
  | 181 => kJ1_canEncode_9a6ad F
  | 182 => kJ1_indexOf_4cfef F
  | 183 => kJ1_indexOfChar_4cfef F
  | _ => kJ6_bitCount_0f7a4 F
theorem mprog_mono (F : Nat → List Value → MS → Option MR) : ∀ i, i < NM → ∀ q ∈ mprog F i, mTail q.2 :=
  lt_s (lt_s (lt_s (lt_s (lt_s (lt_s (lt_s (lt_s (lt_s (lt_s (lt_s (lt_s (lt_s (lt_s (lt_s (lt_s (lt_s (lt_s (lt_s (lt_s (lt_s (lt_s (lt_s (lt_s (lt_s (lt_s (lt_s (lt_s (lt_s (lt_s (lt_s (lt_s (lt_s (lt_s (lt_s (lt_s (lt_s (lt_s (lt_s (lt_s (lt_s (lt_s (lt_s (lt_s (lt_s (lt_s (lt_s (lt_s (lt_s (lt_s (lt_s (lt_s (lt_s (lt_s (lt_s (lt_s (lt_s (lt_s (lt_s (lt_s (lt_s (lt_s (lt_s (lt_s (lt_s (lt_s (lt_s (lt_s (lt_s (lt_s (lt_s (lt_s (lt_s (lt_s (lt_s (lt_s (lt_s (lt_s (lt_s (lt_s (lt_s (lt_s (lt_s (lt_s (lt_s (lt_s (lt_s (lt_s (lt_s (lt_s (lt_s (lt_s (lt_s (lt_s (lt_s (lt_s (lt_s (lt_s (lt_s (lt_s (lt_s (lt_s (lt_s (lt_s (lt_s (lt_s (lt_s (lt_s (lt_s (lt_s (lt_s (lt_s (lt_s (lt_s (lt_s (lt_s (lt_s (lt_s (lt_s (lt_s (lt_s (lt_s (lt_s (lt_s (lt_s (lt_s (lt_s (lt_s (lt_s (lt_s (lt_s (lt_s (lt_s (lt_s (lt_s (lt_s (lt_s (lt_s (lt_s (lt_s (lt_s (lt_s (lt_s (lt_s (lt_s (lt_s (lt_s (lt_s (lt_s (lt_s (lt_s (lt_s (lt_s (lt_s (lt_s (lt_s (lt_s (lt_s (lt_s (lt_s (lt_s (lt_s (lt_s (lt_s (lt_s (lt_s (lt_s (lt_s (lt_s (lt_s (lt_s (lt_s (lt_s (lt_s (lt_s (lt_s (lt_s (lt_s (lt_s (lt_s (lt_s (lt_s (lt_s (lt_s (lt_s (lt_0) (mmX0_madeOf F)) (mmX0_withAdded F)) (mmX0_isSaidOn F)) (mmX0_howSlow F)) (mmX0_given F)) (mmX0_passDay F)) (mmX0_draw F)) (mmX0_copyFrom F)) (mmX1_learnSlow F)) (mmX1_spread F)) (mmX1_isHeardAt F)) (mmX1_nextToHear F)) (mmX1_sayOver F)) (mmX1_arrive F)) (mmX2_begin F)) (mmX2_isMissing F)) (mmX2_has F)) (mmX2_lowestBits F)) (mmX3_answer F)) (mmX3_speak F)) (mmX3_part F)) (mmX3_begin F)) (mmX4_copyFrom F)) (mmX4_value F)) (mmX4_joined F)) (mmX4_read F)) (mmX4_readLevel F)) (mmX4_readPart F)) (mmX4_readNumber F)) (mmX4_readName F)) (mmX4_readOpened F)) (mmX4_peek F)) (mmX4_takeSign F)) (mmX4_levelOf F)) (mmX4_addStep F)) (mmX5_fountain F)) (mmX5_fountainIs F)) (mmX5_become F)) (mmX5_as F)) (mmX5_says F)) (mmX5_goesOn F)) (mmX5_pipe F)) (mmX5_pipeIs F)) (mmX5_turn F)) (mmX5_freeze F)) (mmX5_feed F)) (mmX5_text F)) (mmX5_untell F)) (mmX5_law F)) (mmX5_hears F)) (mmX5_heard F)) (mmX5_let F)) (mmX5_days F)) (mmX5_loose F)) (mmX5_seed F)) (mmX5_hush F)) (mmX5_reach F)) (mmX5_odds F)) (mmX5_fits F)) (mmX5_voice F)) (mmX5_body F)) (mmX5_sheet F)) (mmX5_put F)) (mmX5_move F)) (mmX5_talks F)) (mmX5_judge F)) (mmX5_image F)) (mmX5_restore F)) (mmX5_tell F)) (mmX5_check F)) (mmX5_count F)) (mmX5_told F)) (mmX5_error F)) (mmX5_isBit F)) (mmX5_isDigit F)) (mmX5_isKindAndM F)) (mmX5_isFountain F)) (mmX5_isPipe F)) (mmX5_isSaying F)) (mmX5_isSheet F)) (mmX5_isUnder F)) (mmX5_commonDivisor F)) (mmX5_letOut F)) (mmX5_fewestToShut F)) (mmX5_fewestToOpen F)) (mmX5_isHeardAsIn F)) (mmX6_error F)) (mmX6_in F)) (mmX6_held F)) (mmX6_copyAll F)) (mmX6_bits F)) (mmX6_isFountain F)) (mmX6_isPipe F)) (mmX6_isSize F)) (mmX6_becomes F)) (mmX6_of F)) (mmX6_about F)) (mmX6_addsOf F)) (mmX6_saidOf F)) (mmX6_doesSayOn F)) (mmX6_slowOf F)) (mmX6_isKm F)) (mmX6_fountain F)) (mmX6_fountainIs F)) (mmX6_become F)) (mmX6_as F)) (mmX6_says F)) (mmX6_goesOn F)) (mmX6_pipe F)) (mmX6_pipeIs F)) (mmX6_turn F)) (mmX6_freeze F)) (mmX6_feed F)) (mmX6_look F)) (mmX6_lays F)) (mmX6_nameOf F)) (mmX6_number F)) (mmX6_opens F)) (mmX6_one F)) (mmX6_times F)) (mmX6_sum F)) (mmX6_compares F)) (mmX6_all F)) (mmX6_any F)) (mmX6_text F)) (mmX6_untell F)) (mmX6_twoOf F)) (mmX6_works F)) (mmX6_gives F)) (mmX6_law F)) (mmX6_findSlow F)) (mmX6_opened F)) (mmX6_saysOn F)) (mmX6_spreads F)) (mmX6_hearers F)) (mmX6_spreadsNow F)) (mmX6_hears F)) (mmX6_heard F)) (mmX6_lets F)) (mmX6_let F)) (mmX6_days F)) (mmX6_draw F)) (mmX6_loose F)) (mmX6_seed F)) (mmX6_hush F)) (mmX6_reach F)) (mmX6_odds F)) (mmX6_isSo F)) (mmX6_fits F)) (mmX6_begins F)) (mmX6_plainSplashes F)) (mmX6_lionSplashes F)) (mmX6_splashes F)) (mmX6_plainLisps F)) (mmX6_dolphinLisps F)) (mmX6_lisps F)) (mmX6_plainDrips F)) (mmX6_drips F)) (mmX6_plainParts F)) (mmX6_partsBy F)) (mmX6_voice F)) (mmX6_body F)) (mmX6_isSheet F)) (mmX6_sheet F)) (mmX6_notThere F)) (mmX6_put F)) (mmX6_notMoved F)) (mmX6_move F)) (mmX6_talks F)) (mmX6_judge F)) (mmX6_image F)) (mmX6_restore F)) (mmX6_tell F)) (mmX6_check F)) (mmX6_count F)) (mmX6_told F)) (mmJ0_indexOf_0f7a4 F)) (mmJ0_indexOf_7cf53 F)) (mmJ0_isLatin1_aae02 F)) (mmJ0_length_8abf5 F)) (mmJ0_coder_7d493 F)) (mmJ1_canEncode_9a6ad F)) (mmJ1_indexOf_4cfef F)) (mmJ1_indexOfChar_4cfef F)) (mmJ6_bitCount_0f7a4 F)
noncomputable def mFn : Nat → Nat → List Value → MS → Option MR
  | 0 => fun _ _ _ => none
  | d + 1 => fun i as S => bif Nat.ble (mcats as) (mL i) then mv (mprog (mFn d) i) 0 (lv_args 0 as) [] S else none
theorem mcon_all {l : Launch} {D : va_G} {ca : Nat → ClassId} {ad : Nat → Nat} {d : Nat} {F : Nat → List Value → MS → Option MR} (hF : HF l D ca ad d F) : ∀ i, i < NM → ∀ (as : List Value) (S : MS) (r : MR), mcats as ≤ mL i → (∃ n, mrun (mprog F i) n 0 (lv_args 0 as) [] S = some r) → mCon l D ca ad (d + 1) (mY i) (mB i) (mL i) (mRt i) as S r :=
  lt_s (lt_s (lt_s (lt_s (lt_s (lt_s (lt_s (lt_s (lt_s (lt_s (lt_s (lt_s (lt_s (lt_s (lt_s (lt_s (lt_s (lt_s (lt_s (lt_s (lt_s (lt_s (lt_s (lt_s (lt_s (lt_s (lt_s (lt_s (lt_s (lt_s (lt_s (lt_s (lt_s (lt_s (lt_s (lt_s (lt_s (lt_s (lt_s (lt_s (lt_s (lt_s (lt_s (lt_s (lt_s (lt_s (lt_s (lt_s (lt_s (lt_s (lt_s (lt_s (lt_s (lt_s (lt_s (lt_s (lt_s (lt_s (lt_s (lt_s (lt_s (lt_s (lt_s (lt_s (lt_s (lt_s (lt_s (lt_s (lt_s (lt_s (lt_s (lt_s (lt_s (lt_s (lt_s (lt_s (lt_s (lt_s (lt_s (lt_s (lt_s (lt_s (lt_s (lt_s (lt_s (lt_s (lt_s (lt_s (lt_s (lt_s (lt_s (lt_s (lt_s (lt_s (lt_s (lt_s (lt_s (lt_s (lt_s (lt_s (lt_s (lt_s (lt_s (lt_s (lt_s (lt_s (lt_s (lt_s (lt_s (lt_s (lt_s (lt_s (lt_s (lt_s (lt_s (lt_s (lt_s (lt_s (lt_s (lt_s (lt_s (lt_s (lt_s (lt_s (lt_s (lt_s (lt_s (lt_s (lt_s (lt_s (lt_s (lt_s (lt_s (lt_s (lt_s (lt_s (lt_s (lt_s (lt_s (lt_s (lt_s (lt_s (lt_s (lt_s (lt_s (lt_s (lt_s (lt_s (lt_s (lt_s (lt_s (lt_s (lt_s (lt_s (lt_s (lt_s (lt_s (lt_s (lt_s (lt_s (lt_s (lt_s (lt_s (lt_s (lt_s (lt_s (lt_s (lt_s (lt_s (lt_s (lt_s (lt_s (lt_s (lt_s (lt_s (lt_s (lt_s (lt_s (lt_s (lt_s (lt_s (lt_s (lt_s (lt_s (lt_s (lt_0)
  (fun as S r hl h => mCon_of (y := yX0_madeOf) (bytes := cX0_madeOf) (maxL := 3) (rt := (some .int)) (code := kX0_madeOf F) (by decide +kernel) rfl hl (fun _ _ _ _ _ _ _ _ _ _ _ X => sdX0_madeOf hF X) h))
  (fun as S r hl h => mCon_of (y := yX0_withAdded) (bytes := cX0_withAdded) (maxL := 3) (rt := (some .int)) (code := kX0_withAdded F) (by decide +kernel) rfl hl (fun _ _ _ _ _ _ _ _ _ _ _ X => sdX0_withAdded hF X) h))
  (fun as S r hl h => mCon_of (y := yX0_isSaidOn) (bytes := cX0_isSaidOn) (maxL := 3) (rt := (some .boolean)) (code := kX0_isSaidOn F) (by decide +kernel) rfl hl (fun _ _ _ _ _ _ _ _ _ _ _ X => sdX0_isSaidOn hF X) h))
  (fun as S r hl h => mCon_of (y := yX0_howSlow) (bytes := cX0_howSlow) (maxL := 2) (rt := (some .int)) (code := kX0_howSlow F) (by decide +kernel) rfl hl (fun _ _ _ _ _ _ _ _ _ _ _ X => sdX0_howSlow hF X) h))
  (fun as S r hl h => mCon_of (y := yX0_given) (bytes := cX0_given) (maxL := 6) (rt := (some .int)) (code := kX0_given F) (by decide +kernel) rfl hl (fun _ _ _ _ _ _ _ _ _ _ _ X => sdX0_given hF X) h))
  (fun as S r hl h => mCon_of (y := yX0_passDay) (bytes := cX0_passDay) (maxL := 2) (rt := none) (code := kX0_passDay F) (by decide +kernel) rfl hl (fun _ _ _ _ _ _ _ _ _ _ _ X => sdX0_passDay hF X) h))
  (fun as S r hl h => mCon_of (y := yX0_draw) (bytes := cX0_draw) (maxL := 1) (rt := (some .int)) (code := kX0_draw F) (by decide +kernel) rfl hl (fun _ _ _ _ _ _ _ _ _ _ _ X => sdX0_draw hF X) h))
  (fun as S r hl h => mCon_of (y := yX0_copyFrom) (bytes := cX0_copyFrom) (maxL := 2) (rt := none) (code := kX0_copyFrom F) (by decide +kernel) rfl hl (fun _ _ _ _ _ _ _ _ _ _ _ X => sdX0_copyFrom hF X) h))
  (fun as S r hl h => mCon_of (y := yX1_learnSlow) (bytes := cX1_learnSlow) (maxL := 2) (rt := none) (code := kX1_learnSlow F) (by decide +kernel) rfl hl (fun _ _ _ _ _ _ _ _ _ _ _ X => sdX1_learnSlow hF X) h))
  (fun as S r hl h => mCon_of (y := yX1_spread) (bytes := cX1_spread) (maxL := 6) (rt := none) (code := kX1_spread F) (by decide +kernel) rfl hl (fun _ _ _ _ _ _ _ _ _ _ _ X => sdX1_spread hF X) h))
  (fun as S r hl h => mCon_of (y := yX1_isHeardAt) (bytes := cX1_isHeardAt) (maxL := 2) (rt := (some .boolean)) (code := kX1_isHeardAt F) (by decide +kernel) rfl hl (fun _ _ _ _ _ _ _ _ _ _ _ X => sdX1_isHeardAt hF X) h))
  (fun as S r hl h => mCon_of (y := yX1_nextToHear) (bytes := cX1_nextToHear) (maxL := 3) (rt := (some .int)) (code := kX1_nextToHear F) (by decide +kernel) rfl hl (fun _ _ _ _ _ _ _ _ _ _ _ X => sdX1_nextToHear hF X) h))
  (fun as S r hl h => mCon_of (y := yX1_sayOver) (bytes := cX1_sayOver) (maxL := 5) (rt := none) (code := kX1_sayOver F) (by decide +kernel) rfl hl (fun _ _ _ _ _ _ _ _ _ _ _ X => sdX1_sayOver hF X) h))
  (fun as S r hl h => mCon_of (y := yX1_arrive) (bytes := cX1_arrive) (maxL := 4) (rt := none) (code := kX1_arrive F) (by decide +kernel) rfl hl (fun _ _ _ _ _ _ _ _ _ _ _ X => sdX1_arrive hF X) h))
  (fun as S r hl h => mCon_of (y := yX2_begin) (bytes := cX2_begin) (maxL := 4) (rt := none) (code := kX2_begin F) (by decide +kernel) rfl hl (fun _ _ _ _ _ _ _ _ _ _ _ X => sdX2_begin hF X) h))
  (fun as S r hl h => mCon_of (y := yX2_isMissing) (bytes := cX2_isMissing) (maxL := 1) (rt := (some .boolean)) (code := kX2_isMissing F) (by decide +kernel) rfl hl (fun _ _ _ _ _ _ _ _ _ _ _ X => sdX2_isMissing hF X) h))
  (fun as S r hl h => mCon_of (y := yX2_has) (bytes := cX2_has) (maxL := 3) (rt := (some .boolean)) (code := kX2_has F) (by decide +kernel) rfl hl (fun _ _ _ _ _ _ _ _ _ _ _ X => sdX2_has hF X) h))
  (fun as S r hl h => mCon_of (y := yX2_lowestBits) (bytes := cX2_lowestBits) (maxL := 2) (rt := (some .int)) (code := kX2_lowestBits F) (by decide +kernel) rfl hl (fun _ _ _ _ _ _ _ _ _ _ _ X => sdX2_lowestBits hF X) h))
  (fun as S r hl h => mCon_of (y := yX3_answer) (bytes := cX3_answer) (maxL := 5) (rt := (some .int)) (code := kX3_answer F) (by decide +kernel) rfl hl (fun _ _ _ _ _ _ _ _ _ _ _ X => sdX3_answer hF X) h))
  (fun as S r hl h => mCon_of (y := yX3_speak) (bytes := cX3_speak) (maxL := 9) (rt := (some .int)) (code := kX3_speak F) (by decide +kernel) rfl hl (fun _ _ _ _ _ _ _ _ _ _ _ X => sdX3_speak hF X) h))
  (fun as S r hl h => mCon_of (y := yX3_part) (bytes := cX3_part) (maxL := 3) (rt := (some .int)) (code := kX3_part F) (by decide +kernel) rfl hl (fun _ _ _ _ _ _ _ _ _ _ _ X => sdX3_part hF X) h))
  (fun as S r hl h => mCon_of (y := yX3_begin) (bytes := cX3_begin) (maxL := 2) (rt := none) (code := kX3_begin F) (by decide +kernel) rfl hl (fun _ _ _ _ _ _ _ _ _ _ _ X => sdX3_begin hF X) h))
  (fun as S r hl h => mCon_of (y := yX4_copyFrom) (bytes := cX4_copyFrom) (maxL := 2) (rt := none) (code := kX4_copyFrom F) (by decide +kernel) rfl hl (fun _ _ _ _ _ _ _ _ _ _ _ X => sdX4_copyFrom hF X) h))
  (fun as S r hl h => mCon_of (y := yX4_value) (bytes := cX4_value) (maxL := 7) (rt := (some .int)) (code := kX4_value F) (by decide +kernel) rfl hl (fun _ _ _ _ _ _ _ _ _ _ _ X => sdX4_value hF X) h))
  (fun as S r hl h => mCon_of (y := yX4_joined) (bytes := cX4_joined) (maxL := 3) (rt := (some .int)) (code := kX4_joined F) (by decide +kernel) rfl hl (fun _ _ _ _ _ _ _ _ _ _ _ X => sdX4_joined hF X) h))
  (fun as S r hl h => mCon_of (y := yX4_read) (bytes := cX4_read) (maxL := 4) (rt := (some .int)) (code := kX4_read F) (by decide +kernel) rfl hl (fun _ _ _ _ _ _ _ _ _ _ _ X => sdX4_read hF X) h))
  (fun as S r hl h => mCon_of (y := yX4_readLevel) (bytes := cX4_readLevel) (maxL := 5) (rt := none) (code := kX4_readLevel F) (by decide +kernel) rfl hl (fun _ _ _ _ _ _ _ _ _ _ _ X => sdX4_readLevel hF X) h))
  (fun as S r hl h => mCon_of (y := yX4_readPart) (bytes := cX4_readPart) (maxL := 3) (rt := none) (code := kX4_readPart F) (by decide +kernel) rfl hl (fun _ _ _ _ _ _ _ _ _ _ _ X => sdX4_readPart hF X) h))
  (fun as S r hl h => mCon_of (y := yX4_readNumber) (bytes := cX4_readNumber) (maxL := 3) (rt := none) (code := kX4_readNumber F) (by decide +kernel) rfl hl (fun _ _ _ _ _ _ _ _ _ _ _ X => sdX4_readNumber hF X) h))
  (fun as S r hl h => mCon_of (y := yX4_readName) (bytes := cX4_readName) (maxL := 3) (rt := none) (code := kX4_readName F) (by decide +kernel) rfl hl (fun _ _ _ _ _ _ _ _ _ _ _ X => sdX4_readName hF X) h))
  (fun as S r hl h => mCon_of (y := yX4_readOpened) (bytes := cX4_readOpened) (maxL := 3) (rt := none) (code := kX4_readOpened F) (by decide +kernel) rfl hl (fun _ _ _ _ _ _ _ _ _ _ _ X => sdX4_readOpened hF X) h))
  (fun as S r hl h => mCon_of (y := yX4_peek) (bytes := cX4_peek) (maxL := 1) (rt := (some .int)) (code := kX4_peek F) (by decide +kernel) rfl hl (fun _ _ _ _ _ _ _ _ _ _ _ X => sdX4_peek hF X) h))
  (fun as S r hl h => mCon_of (y := yX4_takeSign) (bytes := cX4_takeSign) (maxL := 3) (rt := (some .int)) (code := kX4_takeSign F) (by decide +kernel) rfl hl (fun _ _ _ _ _ _ _ _ _ _ _ X => sdX4_takeSign hF X) h))
  (fun as S r hl h => mCon_of (y := yX4_levelOf) (bytes := cX4_levelOf) (maxL := 1) (rt := (some .int)) (code := kX4_levelOf F) (by decide +kernel) rfl hl (fun _ _ _ _ _ _ _ _ _ _ _ X => sdX4_levelOf hF X) h))
  (fun as S r hl h => mCon_of (y := yX4_addStep) (bytes := cX4_addStep) (maxL := 2) (rt := none) (code := kX4_addStep F) (by decide +kernel) rfl hl (fun _ _ _ _ _ _ _ _ _ _ _ X => sdX4_addStep hF X) h))
  (fun as S r hl h => mCon_of (y := yX5_fountain) (bytes := cX5_fountain) (maxL := 4) (rt := (some .int)) (code := kX5_fountain F) (by decide +kernel) rfl hl (fun _ _ _ _ _ _ _ _ _ _ _ X => sdX5_fountain hF X) h))
  (fun as S r hl h => mCon_of (y := yX5_fountainIs) (bytes := cX5_fountainIs) (maxL := 3) (rt := (some .int)) (code := kX5_fountainIs F) (by decide +kernel) rfl hl (fun _ _ _ _ _ _ _ _ _ _ _ X => sdX5_fountainIs hF X) h))
  (fun as S r hl h => mCon_of (y := yX5_become) (bytes := cX5_become) (maxL := 4) (rt := (some .int)) (code := kX5_become F) (by decide +kernel) rfl hl (fun _ _ _ _ _ _ _ _ _ _ _ X => sdX5_become hF X) h))
  (fun as S r hl h => mCon_of (y := yX5_as) (bytes := cX5_as) (maxL := 3) (rt := (some .int)) (code := kX5_as F) (by decide +kernel) rfl hl (fun _ _ _ _ _ _ _ _ _ _ _ X => sdX5_as hF X) h))
  (fun as S r hl h => mCon_of (y := yX5_says) (bytes := cX5_says) (maxL := 3) (rt := (some .int)) (code := kX5_says F) (by decide +kernel) rfl hl (fun _ _ _ _ _ _ _ _ _ _ _ X => sdX5_says hF X) h))
  (fun as S r hl h => mCon_of (y := yX5_goesOn) (bytes := cX5_goesOn) (maxL := 3) (rt := (some .int)) (code := kX5_goesOn F) (by decide +kernel) rfl hl (fun _ _ _ _ _ _ _ _ _ _ _ X => sdX5_goesOn hF X) h))
  (fun as S r hl h => mCon_of (y := yX5_pipe) (bytes := cX5_pipe) (maxL := 5) (rt := (some .int)) (code := kX5_pipe F) (by decide +kernel) rfl hl (fun _ _ _ _ _ _ _ _ _ _ _ X => sdX5_pipe hF X) h))
  (fun as S r hl h => mCon_of (y := yX5_pipeIs) (bytes := cX5_pipeIs) (maxL := 3) (rt := (some .int)) (code := kX5_pipeIs F) (by decide +kernel) rfl hl (fun _ _ _ _ _ _ _ _ _ _ _ X => sdX5_pipeIs hF X) h))
  (fun as S r hl h => mCon_of (y := yX5_turn) (bytes := cX5_turn) (maxL := 4) (rt := (some .int)) (code := kX5_turn F) (by decide +kernel) rfl hl (fun _ _ _ _ _ _ _ _ _ _ _ X => sdX5_turn hF X) h))
  (fun as S r hl h => mCon_of (y := yX5_freeze) (bytes := cX5_freeze) (maxL := 3) (rt := (some .int)) (code := kX5_freeze F) (by decide +kernel) rfl hl (fun _ _ _ _ _ _ _ _ _ _ _ X => sdX5_freeze hF X) h))
  (fun as S r hl h => mCon_of (y := yX5_feed) (bytes := cX5_feed) (maxL := 5) (rt := (some .int)) (code := kX5_feed F) (by decide +kernel) rfl hl (fun _ _ _ _ _ _ _ _ _ _ _ X => sdX5_feed hF X) h))
  (fun as S r hl h => mCon_of (y := yX5_text) (bytes := cX5_text) (maxL := 3) (rt := (some .int)) (code := kX5_text F) (by decide +kernel) rfl hl (fun _ _ _ _ _ _ _ _ _ _ _ X => sdX5_text hF X) h))
  (fun as S r hl h => mCon_of (y := yX5_untell) (bytes := cX5_untell) (maxL := 3) (rt := (some .int)) (code := kX5_untell F) (by decide +kernel) rfl hl (fun _ _ _ _ _ _ _ _ _ _ _ X => sdX5_untell hF X) h))
  (fun as S r hl h => mCon_of (y := yX5_law) (bytes := cX5_law) (maxL := 5) (rt := (some .int)) (code := kX5_law F) (by decide +kernel) rfl hl (fun _ _ _ _ _ _ _ _ _ _ _ X => sdX5_law hF X) h))
  (fun as S r hl h => mCon_of (y := yX5_hears) (bytes := cX5_hears) (maxL := 3) (rt := (some .int)) (code := kX5_hears F) (by decide +kernel) rfl hl (fun _ _ _ _ _ _ _ _ _ _ _ X => sdX5_hears hF X) h))
  (fun as S r hl h => mCon_of (y := yX5_heard) (bytes := cX5_heard) (maxL := 5) (rt := (some .int)) (code := kX5_heard F) (by decide +kernel) rfl hl (fun _ _ _ _ _ _ _ _ _ _ _ X => sdX5_heard hF X) h))
  (fun as S r hl h => mCon_of (y := yX5_let) (bytes := cX5_let) (maxL := 3) (rt := (some .int)) (code := kX5_let F) (by decide +kernel) rfl hl (fun _ _ _ _ _ _ _ _ _ _ _ X => sdX5_let hF X) h))
  (fun as S r hl h => mCon_of (y := yX5_days) (bytes := cX5_days) (maxL := 3) (rt := (some .int)) (code := kX5_days F) (by decide +kernel) rfl hl (fun _ _ _ _ _ _ _ _ _ _ _ X => sdX5_days hF X) h))
  (fun as S r hl h => mCon_of (y := yX5_loose) (bytes := cX5_loose) (maxL := 5) (rt := (some .int)) (code := kX5_loose F) (by decide +kernel) rfl hl (fun _ _ _ _ _ _ _ _ _ _ _ X => sdX5_loose hF X) h))
  (fun as S r hl h => mCon_of (y := yX5_seed) (bytes := cX5_seed) (maxL := 3) (rt := (some .int)) (code := kX5_seed F) (by decide +kernel) rfl hl (fun _ _ _ _ _ _ _ _ _ _ _ X => sdX5_seed hF X) h))
  (fun as S r hl h => mCon_of (y := yX5_hush) (bytes := cX5_hush) (maxL := 6) (rt := (some .int)) (code := kX5_hush F) (by decide +kernel) rfl hl (fun _ _ _ _ _ _ _ _ _ _ _ X => sdX5_hush hF X) h))
  (fun as S r hl h => mCon_of (y := yX5_reach) (bytes := cX5_reach) (maxL := 7) (rt := (some .int)) (code := kX5_reach F) (by decide +kernel) rfl hl (fun _ _ _ _ _ _ _ _ _ _ _ X => sdX5_reach hF X) h))
  (fun as S r hl h => mCon_of (y := yX5_odds) (bytes := cX5_odds) (maxL := 6) (rt := (some .int)) (code := kX5_odds F) (by decide +kernel) rfl hl (fun _ _ _ _ _ _ _ _ _ _ _ X => sdX5_odds hF X) h))
  (fun as S r hl h => mCon_of (y := yX5_fits) (bytes := cX5_fits) (maxL := 7) (rt := (some .int)) (code := kX5_fits F) (by decide +kernel) rfl hl (fun _ _ _ _ _ _ _ _ _ _ _ X => sdX5_fits hF X) h))
  (fun as S r hl h => mCon_of (y := yX5_voice) (bytes := cX5_voice) (maxL := 5) (rt := (some .int)) (code := kX5_voice F) (by decide +kernel) rfl hl (fun _ _ _ _ _ _ _ _ _ _ _ X => sdX5_voice hF X) h))
  (fun as S r hl h => mCon_of (y := yX5_body) (bytes := cX5_body) (maxL := 2) (rt := (some .int)) (code := kX5_body F) (by decide +kernel) rfl hl (fun _ _ _ _ _ _ _ _ _ _ _ X => sdX5_body hF X) h))
  (fun as S r hl h => mCon_of (y := yX5_sheet) (bytes := cX5_sheet) (maxL := 4) (rt := (some .int)) (code := kX5_sheet F) (by decide +kernel) rfl hl (fun _ _ _ _ _ _ _ _ _ _ _ X => sdX5_sheet hF X) h))
  (fun as S r hl h => mCon_of (y := yX5_put) (bytes := cX5_put) (maxL := 5) (rt := (some .int)) (code := kX5_put F) (by decide +kernel) rfl hl (fun _ _ _ _ _ _ _ _ _ _ _ X => sdX5_put hF X) h))
  (fun as S r hl h => mCon_of (y := yX5_move) (bytes := cX5_move) (maxL := 8) (rt := (some .int)) (code := kX5_move F) (by decide +kernel) rfl hl (fun _ _ _ _ _ _ _ _ _ _ _ X => sdX5_move hF X) h))
  (fun as S r hl h => mCon_of (y := yX5_talks) (bytes := cX5_talks) (maxL := 6) (rt := (some .int)) (code := kX5_talks F) (by decide +kernel) rfl hl (fun _ _ _ _ _ _ _ _ _ _ _ X => sdX5_talks hF X) h))
  (fun as S r hl h => mCon_of (y := yX5_judge) (bytes := cX5_judge) (maxL := 5) (rt := (some .int)) (code := kX5_judge F) (by decide +kernel) rfl hl (fun _ _ _ _ _ _ _ _ _ _ _ X => sdX5_judge hF X) h))
  (fun as S r hl h => mCon_of (y := yX5_image) (bytes := cX5_image) (maxL := 1) (rt := (some .int)) (code := kX5_image F) (by decide +kernel) rfl hl (fun _ _ _ _ _ _ _ _ _ _ _ X => sdX5_image hF X) h))
  (fun as S r hl h => mCon_of (y := yX5_restore) (bytes := cX5_restore) (maxL := 1) (rt := (some .int)) (code := kX5_restore F) (by decide +kernel) rfl hl (fun _ _ _ _ _ _ _ _ _ _ _ X => sdX5_restore hF X) h))
  (fun as S r hl h => mCon_of (y := yX5_tell) (bytes := cX5_tell) (maxL := 2) (rt := (some .int)) (code := kX5_tell F) (by decide +kernel) rfl hl (fun _ _ _ _ _ _ _ _ _ _ _ X => sdX5_tell hF X) h))
  (fun as S r hl h => mCon_of (y := yX5_check) (bytes := cX5_check) (maxL := 3) (rt := (some .int)) (code := kX5_check F) (by decide +kernel) rfl hl (fun _ _ _ _ _ _ _ _ _ _ _ X => sdX5_check hF X) h))
  (fun as S r hl h => mCon_of (y := yX5_count) (bytes := cX5_count) (maxL := 2) (rt := (some .int)) (code := kX5_count F) (by decide +kernel) rfl hl (fun _ _ _ _ _ _ _ _ _ _ _ X => sdX5_count hF X) h))
  (fun as S r hl h => mCon_of (y := yX5_told) (bytes := cX5_told) (maxL := 2) (rt := (some .int)) (code := kX5_told F) (by decide +kernel) rfl hl (fun _ _ _ _ _ _ _ _ _ _ _ X => sdX5_told hF X) h))
  (fun as S r hl h => mCon_of (y := yX5_error) (bytes := cX5_error) (maxL := 2) (rt := (some .int)) (code := kX5_error F) (by decide +kernel) rfl hl (fun _ _ _ _ _ _ _ _ _ _ _ X => sdX5_error hF X) h))
  (fun as S r hl h => mCon_of (y := yX5_isBit) (bytes := cX5_isBit) (maxL := 1) (rt := (some .boolean)) (code := kX5_isBit F) (by decide +kernel) rfl hl (fun _ _ _ _ _ _ _ _ _ _ _ X => sdX5_isBit hF X) h))
  (fun as S r hl h => mCon_of (y := yX5_isDigit) (bytes := cX5_isDigit) (maxL := 1) (rt := (some .boolean)) (code := kX5_isDigit F) (by decide +kernel) rfl hl (fun _ _ _ _ _ _ _ _ _ _ _ X => sdX5_isDigit hF X) h))
  (fun as S r hl h => mCon_of (y := yX5_isKindAndM) (bytes := cX5_isKindAndM) (maxL := 1) (rt := (some .boolean)) (code := kX5_isKindAndM F) (by decide +kernel) rfl hl (fun _ _ _ _ _ _ _ _ _ _ _ X => sdX5_isKindAndM hF X) h))
  (fun as S r hl h => mCon_of (y := yX5_isFountain) (bytes := cX5_isFountain) (maxL := 2) (rt := (some .boolean)) (code := kX5_isFountain F) (by decide +kernel) rfl hl (fun _ _ _ _ _ _ _ _ _ _ _ X => sdX5_isFountain hF X) h))
  (fun as S r hl h => mCon_of (y := yX5_isPipe) (bytes := cX5_isPipe) (maxL := 2) (rt := (some .boolean)) (code := kX5_isPipe F) (by decide +kernel) rfl hl (fun _ _ _ _ _ _ _ _ _ _ _ X => sdX5_isPipe hF X) h))
  (fun as S r hl h => mCon_of (y := yX5_isSaying) (bytes := cX5_isSaying) (maxL := 3) (rt := (some .boolean)) (code := kX5_isSaying F) (by decide +kernel) rfl hl (fun _ _ _ _ _ _ _ _ _ _ _ X => sdX5_isSaying hF X) h))
  (fun as S r hl h => mCon_of (y := yX5_isSheet) (bytes := cX5_isSheet) (maxL := 1) (rt := (some .boolean)) (code := kX5_isSheet F) (by decide +kernel) rfl hl (fun _ _ _ _ _ _ _ _ _ _ _ X => sdX5_isSheet hF X) h))
  (fun as S r hl h => mCon_of (y := yX5_isUnder) (bytes := cX5_isUnder) (maxL := 4) (rt := (some .boolean)) (code := kX5_isUnder F) (by decide +kernel) rfl hl (fun _ _ _ _ _ _ _ _ _ _ _ X => sdX5_isUnder hF X) h))
  (fun as S r hl h => mCon_of (y := yX5_commonDivisor) (bytes := cX5_commonDivisor) (maxL := 3) (rt := (some .int)) (code := kX5_commonDivisor F) (by decide +kernel) rfl hl (fun _ _ _ _ _ _ _ _ _ _ _ X => sdX5_commonDivisor hF X) h))
  (fun as S r hl h => mCon_of (y := yX5_letOut) (bytes := cX5_letOut) (maxL := 4) (rt := (some .int)) (code := kX5_letOut F) (by decide +kernel) rfl hl (fun _ _ _ _ _ _ _ _ _ _ _ X => sdX5_letOut hF X) h))
  (fun as S r hl h => mCon_of (y := yX5_fewestToShut) (bytes := cX5_fewestToShut) (maxL := 6) (rt := (some .int)) (code := kX5_fewestToShut F) (by decide +kernel) rfl hl (fun _ _ _ _ _ _ _ _ _ _ _ X => sdX5_fewestToShut hF X) h))
  (fun as S r hl h => mCon_of (y := yX5_fewestToOpen) (bytes := cX5_fewestToOpen) (maxL := 7) (rt := (some .int)) (code := kX5_fewestToOpen F) (by decide +kernel) rfl hl (fun _ _ _ _ _ _ _ _ _ _ _ X => sdX5_fewestToOpen hF X) h))
  (fun as S r hl h => mCon_of (y := yX5_isHeardAsIn) (bytes := cX5_isHeardAsIn) (maxL := 4) (rt := (some .boolean)) (code := kX5_isHeardAsIn F) (by decide +kernel) rfl hl (fun _ _ _ _ _ _ _ _ _ _ _ X => sdX5_isHeardAsIn hF X) h))
  (fun as S r hl h => mCon_of (y := yX6_error) (bytes := cX6_error) (maxL := 2) (rt := (some .int)) (code := kX6_error F) (by decide +kernel) rfl hl (fun _ _ _ _ _ _ _ _ _ _ _ X => sdX6_error hF X) h))
  (fun as S r hl h => mCon_of (y := yX6_in) (bytes := cX6_in) (maxL := 3) (rt := (some .boolean)) (code := kX6_in F) (by decide +kernel) rfl hl (fun _ _ _ _ _ _ _ _ _ _ _ X => sdX6_in hF X) h))
  (fun as S r hl h => mCon_of (y := yX6_held) (bytes := cX6_held) (maxL := 3) (rt := (some .int)) (code := kX6_held F) (by decide +kernel) rfl hl (fun _ _ _ _ _ _ _ _ _ _ _ X => sdX6_held hF X) h))
  (fun as S r hl h => mCon_of (y := yX6_copyAll) (bytes := cX6_copyAll) (maxL := 3) (rt := none) (code := kX6_copyAll F) (by decide +kernel) rfl hl (fun _ _ _ _ _ _ _ _ _ _ _ X => sdX6_copyAll hF X) h))
  (fun as S r hl h => mCon_of (y := yX6_bits) (bytes := cX6_bits) (maxL := 3) (rt := (some .int)) (code := kX6_bits F) (by decide +kernel) rfl hl (fun _ _ _ _ _ _ _ _ _ _ _ X => sdX6_bits hF X) h))
  (fun as S r hl h => mCon_of (y := yX6_isFountain) (bytes := cX6_isFountain) (maxL := 2) (rt := (some .boolean)) (code := kX6_isFountain F) (by decide +kernel) rfl hl (fun _ _ _ _ _ _ _ _ _ _ _ X => sdX6_isFountain hF X) h))
  (fun as S r hl h => mCon_of (y := yX6_isPipe) (bytes := cX6_isPipe) (maxL := 2) (rt := (some .boolean)) (code := kX6_isPipe F) (by decide +kernel) rfl hl (fun _ _ _ _ _ _ _ _ _ _ _ X => sdX6_isPipe hF X) h))
  (fun as S r hl h => mCon_of (y := yX6_isSize) (bytes := cX6_isSize) (maxL := 1) (rt := (some .boolean)) (code := kX6_isSize F) (by decide +kernel) rfl hl (fun _ _ _ _ _ _ _ _ _ _ _ X => sdX6_isSize hF X) h))
  (fun as S r hl h => mCon_of (y := yX6_becomes) (bytes := cX6_becomes) (maxL := 4) (rt := (some .int)) (code := kX6_becomes F) (by decide +kernel) rfl hl (fun _ _ _ _ _ _ _ _ _ _ _ X => sdX6_becomes hF X) h))
  (fun as S r hl h => mCon_of (y := yX6_of) (bytes := cX6_of) (maxL := 3) (rt := (some .int)) (code := kX6_of F) (by decide +kernel) rfl hl (fun _ _ _ _ _ _ _ _ _ _ _ X => sdX6_of hF X) h))
  (fun as S r hl h => mCon_of (y := yX6_about) (bytes := cX6_about) (maxL := 3) (rt := (some .int)) (code := kX6_about F) (by decide +kernel) rfl hl (fun _ _ _ _ _ _ _ _ _ _ _ X => sdX6_about hF X) h))
  (fun as S r hl h => mCon_of (y := yX6_addsOf) (bytes := cX6_addsOf) (maxL := 5) (rt := (some .int)) (code := kX6_addsOf F) (by decide +kernel) rfl hl (fun _ _ _ _ _ _ _ _ _ _ _ X => sdX6_addsOf hF X) h))
  (fun as S r hl h => mCon_of (y := yX6_saidOf) (bytes := cX6_saidOf) (maxL := 3) (rt := (some .int)) (code := kX6_saidOf F) (by decide +kernel) rfl hl (fun _ _ _ _ _ _ _ _ _ _ _ X => sdX6_saidOf hF X) h))
  (fun as S r hl h => mCon_of (y := yX6_doesSayOn) (bytes := cX6_doesSayOn) (maxL := 4) (rt := (some .boolean)) (code := kX6_doesSayOn F) (by decide +kernel) rfl hl (fun _ _ _ _ _ _ _ _ _ _ _ X => sdX6_doesSayOn hF X) h))
  (fun as S r hl h => mCon_of (y := yX6_slowOf) (bytes := cX6_slowOf) (maxL := 3) (rt := (some .int)) (code := kX6_slowOf F) (by decide +kernel) rfl hl (fun _ _ _ _ _ _ _ _ _ _ _ X => sdX6_slowOf hF X) h))
  (fun as S r hl h => mCon_of (y := yX6_isKm) (bytes := cX6_isKm) (maxL := 1) (rt := (some .boolean)) (code := kX6_isKm F) (by decide +kernel) rfl hl (fun _ _ _ _ _ _ _ _ _ _ _ X => sdX6_isKm hF X) h))
  (fun as S r hl h => mCon_of (y := yX6_fountain) (bytes := cX6_fountain) (maxL := 4) (rt := (some .int)) (code := kX6_fountain F) (by decide +kernel) rfl hl (fun _ _ _ _ _ _ _ _ _ _ _ X => sdX6_fountain hF X) h))
  (fun as S r hl h => mCon_of (y := yX6_fountainIs) (bytes := cX6_fountainIs) (maxL := 3) (rt := (some .int)) (code := kX6_fountainIs F) (by decide +kernel) rfl hl (fun _ _ _ _ _ _ _ _ _ _ _ X => sdX6_fountainIs hF X) h))
  (fun as S r hl h => mCon_of (y := yX6_become) (bytes := cX6_become) (maxL := 3) (rt := (some .int)) (code := kX6_become F) (by decide +kernel) rfl hl (fun _ _ _ _ _ _ _ _ _ _ _ X => sdX6_become hF X) h))
  (fun as S r hl h => mCon_of (y := yX6_as) (bytes := cX6_as) (maxL := 5) (rt := (some .int)) (code := kX6_as F) (by decide +kernel) rfl hl (fun _ _ _ _ _ _ _ _ _ _ _ X => sdX6_as hF X) h))
  (fun as S r hl h => mCon_of (y := yX6_says) (bytes := cX6_says) (maxL := 3) (rt := (some .int)) (code := kX6_says F) (by decide +kernel) rfl hl (fun _ _ _ _ _ _ _ _ _ _ _ X => sdX6_says hF X) h))
  (fun as S r hl h => mCon_of (y := yX6_goesOn) (bytes := cX6_goesOn) (maxL := 3) (rt := (some .int)) (code := kX6_goesOn F) (by decide +kernel) rfl hl (fun _ _ _ _ _ _ _ _ _ _ _ X => sdX6_goesOn hF X) h))
  (fun as S r hl h => mCon_of (y := yX6_pipe) (bytes := cX6_pipe) (maxL := 5) (rt := (some .int)) (code := kX6_pipe F) (by decide +kernel) rfl hl (fun _ _ _ _ _ _ _ _ _ _ _ X => sdX6_pipe hF X) h))
  (fun as S r hl h => mCon_of (y := yX6_pipeIs) (bytes := cX6_pipeIs) (maxL := 3) (rt := (some .int)) (code := kX6_pipeIs F) (by decide +kernel) rfl hl (fun _ _ _ _ _ _ _ _ _ _ _ X => sdX6_pipeIs hF X) h))
  (fun as S r hl h => mCon_of (y := yX6_turn) (bytes := cX6_turn) (maxL := 3) (rt := (some .int)) (code := kX6_turn F) (by decide +kernel) rfl hl (fun _ _ _ _ _ _ _ _ _ _ _ X => sdX6_turn hF X) h))
  (fun as S r hl h => mCon_of (y := yX6_freeze) (bytes := cX6_freeze) (maxL := 2) (rt := (some .int)) (code := kX6_freeze F) (by decide +kernel) rfl hl (fun _ _ _ _ _ _ _ _ _ _ _ X => sdX6_freeze hF X) h))
  (fun as S r hl h => mCon_of (y := yX6_feed) (bytes := cX6_feed) (maxL := 5) (rt := (some .int)) (code := kX6_feed F) (by decide +kernel) rfl hl (fun _ _ _ _ _ _ _ _ _ _ _ X => sdX6_feed hF X) h))
  (fun as S r hl h => mCon_of (y := yX6_look) (bytes := cX6_look) (maxL := 1) (rt := (some .int)) (code := kX6_look F) (by decide +kernel) rfl hl (fun _ _ _ _ _ _ _ _ _ _ _ X => sdX6_look hF X) h))
  (fun as S r hl h => mCon_of (y := yX6_lays) (bytes := cX6_lays) (maxL := 3) (rt := none) (code := kX6_lays F) (by decide +kernel) rfl hl (fun _ _ _ _ _ _ _ _ _ _ _ X => sdX6_lays hF X) h))
  (fun as S r hl h => mCon_of (y := yX6_nameOf) (bytes := cX6_nameOf) (maxL := 2) (rt := (some .int)) (code := kX6_nameOf F) (by decide +kernel) rfl hl (fun _ _ _ _ _ _ _ _ _ _ _ X => sdX6_nameOf hF X) h))
  (fun as S r hl h => mCon_of (y := yX6_number) (bytes := cX6_number) (maxL := 3) (rt := none) (code := kX6_number F) (by decide +kernel) rfl hl (fun _ _ _ _ _ _ _ _ _ _ _ X => sdX6_number hF X) h))
  (fun as S r hl h => mCon_of (y := yX6_opens) (bytes := cX6_opens) (maxL := 2) (rt := none) (code := kX6_opens F) (by decide +kernel) rfl hl (fun _ _ _ _ _ _ _ _ _ _ _ X => sdX6_opens hF X) h))
  (fun as S r hl h => mCon_of (y := yX6_one) (bytes := cX6_one) (maxL := 3) (rt := none) (code := kX6_one F) (by decide +kernel) rfl hl (fun _ _ _ _ _ _ _ _ _ _ _ X => sdX6_one hF X) h))
  (fun as S r hl h => mCon_of (y := yX6_times) (bytes := cX6_times) (maxL := 2) (rt := none) (code := kX6_times F) (by decide +kernel) rfl hl (fun _ _ _ _ _ _ _ _ _ _ _ X => sdX6_times hF X) h))
  (fun as S r hl h => mCon_of (y := yX6_sum) (bytes := cX6_sum) (maxL := 2) (rt := none) (code := kX6_sum F) (by decide +kernel) rfl hl (fun _ _ _ _ _ _ _ _ _ _ _ X => sdX6_sum hF X) h))
  (fun as S r hl h => mCon_of (y := yX6_compares) (bytes := cX6_compares) (maxL := 2) (rt := none) (code := kX6_compares F) (by decide +kernel) rfl hl (fun _ _ _ _ _ _ _ _ _ _ _ X => sdX6_compares hF X) h))
  (fun as S r hl h => mCon_of (y := yX6_all) (bytes := cX6_all) (maxL := 1) (rt := none) (code := kX6_all F) (by decide +kernel) rfl hl (fun _ _ _ _ _ _ _ _ _ _ _ X => sdX6_all hF X) h))
  (fun as S r hl h => mCon_of (y := yX6_any) (bytes := cX6_any) (maxL := 1) (rt := none) (code := kX6_any F) (by decide +kernel) rfl hl (fun _ _ _ _ _ _ _ _ _ _ _ X => sdX6_any hF X) h))
  (fun as S r hl h => mCon_of (y := yX6_text) (bytes := cX6_text) (maxL := 4) (rt := (some .int)) (code := kX6_text F) (by decide +kernel) rfl hl (fun _ _ _ _ _ _ _ _ _ _ _ X => sdX6_text hF X) h))
  (fun as S r hl h => mCon_of (y := yX6_untell) (bytes := cX6_untell) (maxL := 2) (rt := (some .int)) (code := kX6_untell F) (by decide +kernel) rfl hl (fun _ _ _ _ _ _ _ _ _ _ _ X => sdX6_untell hF X) h))
  (fun as S r hl h => mCon_of (y := yX6_twoOf) (bytes := cX6_twoOf) (maxL := 3) (rt := (some .int)) (code := kX6_twoOf F) (by decide +kernel) rfl hl (fun _ _ _ _ _ _ _ _ _ _ _ X => sdX6_twoOf hF X) h))
  (fun as S r hl h => mCon_of (y := yX6_works) (bytes := cX6_works) (maxL := 5) (rt := (some .int)) (code := kX6_works F) (by decide +kernel) rfl hl (fun _ _ _ _ _ _ _ _ _ _ _ X => sdX6_works hF X) h))
  (fun as S r hl h => mCon_of (y := yX6_gives) (bytes := cX6_gives) (maxL := 7) (rt := (some .int)) (code := kX6_gives F) (by decide +kernel) rfl hl (fun _ _ _ _ _ _ _ _ _ _ _ X => sdX6_gives hF X) h))
  (fun as S r hl h => mCon_of (y := yX6_law) (bytes := cX6_law) (maxL := 5) (rt := (some .int)) (code := kX6_law F) (by decide +kernel) rfl hl (fun _ _ _ _ _ _ _ _ _ _ _ X => sdX6_law hF X) h))
  (fun as S r hl h => mCon_of (y := yX6_findSlow) (bytes := cX6_findSlow) (maxL := 2) (rt := none) (code := kX6_findSlow F) (by decide +kernel) rfl hl (fun _ _ _ _ _ _ _ _ _ _ _ X => sdX6_findSlow hF X) h))
  (fun as S r hl h => mCon_of (y := yX6_opened) (bytes := cX6_opened) (maxL := 3) (rt := (some .int)) (code := kX6_opened F) (by decide +kernel) rfl hl (fun _ _ _ _ _ _ _ _ _ _ _ X => sdX6_opened hF X) h))
  (fun as S r hl h => mCon_of (y := yX6_saysOn) (bytes := cX6_saysOn) (maxL := 8) (rt := none) (code := kX6_saysOn F) (by decide +kernel) rfl hl (fun _ _ _ _ _ _ _ _ _ _ _ X => sdX6_saysOn hF X) h))
  (fun as S r hl h => mCon_of (y := yX6_spreads) (bytes := cX6_spreads) (maxL := 6) (rt := none) (code := kX6_spreads F) (by decide +kernel) rfl hl (fun _ _ _ _ _ _ _ _ _ _ _ X => sdX6_spreads hF X) h))
  (fun as S r hl h => mCon_of (y := yX6_hearers) (bytes := cX6_hearers) (maxL := 3) (rt := (some .int)) (code := kX6_hearers F) (by decide +kernel) rfl hl (fun _ _ _ _ _ _ _ _ _ _ _ X => sdX6_hearers hF X) h))
  (fun as S r hl h => mCon_of (y := yX6_spreadsNow) (bytes := cX6_spreadsNow) (maxL := 3) (rt := none) (code := kX6_spreadsNow F) (by decide +kernel) rfl hl (fun _ _ _ _ _ _ _ _ _ _ _ X => sdX6_spreadsNow hF X) h))
  (fun as S r hl h => mCon_of (y := yX6_hears) (bytes := cX6_hears) (maxL := 3) (rt := (some .int)) (code := kX6_hears F) (by decide +kernel) rfl hl (fun _ _ _ _ _ _ _ _ _ _ _ X => sdX6_hears hF X) h))
  (fun as S r hl h => mCon_of (y := yX6_heard) (bytes := cX6_heard) (maxL := 5) (rt := (some .int)) (code := kX6_heard F) (by decide +kernel) rfl hl (fun _ _ _ _ _ _ _ _ _ _ _ X => sdX6_heard hF X) h))
  (fun as S r hl h => mCon_of (y := yX6_lets) (bytes := cX6_lets) (maxL := 5) (rt := (some .int)) (code := kX6_lets F) (by decide +kernel) rfl hl (fun _ _ _ _ _ _ _ _ _ _ _ X => sdX6_lets hF X) h))
  (fun as S r hl h => mCon_of (y := yX6_let) (bytes := cX6_let) (maxL := 3) (rt := (some .int)) (code := kX6_let F) (by decide +kernel) rfl hl (fun _ _ _ _ _ _ _ _ _ _ _ X => sdX6_let hF X) h))
  (fun as S r hl h => mCon_of (y := yX6_days) (bytes := cX6_days) (maxL := 4) (rt := (some .int)) (code := kX6_days F) (by decide +kernel) rfl hl (fun _ _ _ _ _ _ _ _ _ _ _ X => sdX6_days hF X) h))
  (fun as S r hl h => mCon_of (y := yX6_draw) (bytes := cX6_draw) (maxL := 1) (rt := (some .int)) (code := kX6_draw F) (by decide +kernel) rfl hl (fun _ _ _ _ _ _ _ _ _ _ _ X => sdX6_draw hF X) h))
  (fun as S r hl h => mCon_of (y := yX6_loose) (bytes := cX6_loose) (maxL := 5) (rt := (some .int)) (code := kX6_loose F) (by decide +kernel) rfl hl (fun _ _ _ _ _ _ _ _ _ _ _ X => sdX6_loose hF X) h))
  (fun as S r hl h => mCon_of (y := yX6_seed) (bytes := cX6_seed) (maxL := 2) (rt := (some .int)) (code := kX6_seed F) (by decide +kernel) rfl hl (fun _ _ _ _ _ _ _ _ _ _ _ X => sdX6_seed hF X) h))
  (fun as S r hl h => mCon_of (y := yX6_hush) (bytes := cX6_hush) (maxL := 8) (rt := (some .int)) (code := kX6_hush F) (by decide +kernel) rfl hl (fun _ _ _ _ _ _ _ _ _ _ _ X => sdX6_hush hF X) h))
  (fun as S r hl h => mCon_of (y := yX6_reach) (bytes := cX6_reach) (maxL := 10) (rt := (some .int)) (code := kX6_reach F) (by decide +kernel) rfl hl (fun _ _ _ _ _ _ _ _ _ _ _ X => sdX6_reach hF X) h))
  (fun as S r hl h => mCon_of (y := yX6_odds) (bytes := cX6_odds) (maxL := 7) (rt := (some .int)) (code := kX6_odds F) (by decide +kernel) rfl hl (fun _ _ _ _ _ _ _ _ _ _ _ X => sdX6_odds hF X) h))
  (fun as S r hl h => mCon_of (y := yX6_isSo) (bytes := cX6_isSo) (maxL := 4) (rt := (some .boolean)) (code := kX6_isSo F) (by decide +kernel) rfl hl (fun _ _ _ _ _ _ _ _ _ _ _ X => sdX6_isSo hF X) h))
  (fun as S r hl h => mCon_of (y := yX6_fits) (bytes := cX6_fits) (maxL := 8) (rt := (some .int)) (code := kX6_fits F) (by decide +kernel) rfl hl (fun _ _ _ _ _ _ _ _ _ _ _ X => sdX6_fits hF X) h))
  (fun as S r hl h => mCon_of (y := yX6_begins) (bytes := cX6_begins) (maxL := 2) (rt := none) (code := kX6_begins F) (by decide +kernel) rfl hl (fun _ _ _ _ _ _ _ _ _ _ _ X => sdX6_begins hF X) h))
  (fun as S r hl h => mCon_of (y := yX6_plainSplashes) (bytes := cX6_plainSplashes) (maxL := 3) (rt := (some .int)) (code := kX6_plainSplashes F) (by decide +kernel) rfl hl (fun _ _ _ _ _ _ _ _ _ _ _ X => sdX6_plainSplashes hF X) h))
  (fun as S r hl h => mCon_of (y := yX6_lionSplashes) (bytes := cX6_lionSplashes) (maxL := 3) (rt := (some .int)) (code := kX6_lionSplashes F) (by decide +kernel) rfl hl (fun _ _ _ _ _ _ _ _ _ _ _ X => sdX6_lionSplashes hF X) h))
  (fun as S r hl h => mCon_of (y := yX6_splashes) (bytes := cX6_splashes) (maxL := 3) (rt := (some .int)) (code := kX6_splashes F) (by decide +kernel) rfl hl (fun _ _ _ _ _ _ _ _ _ _ _ X => sdX6_splashes hF X) h))
  (fun as S r hl h => mCon_of (y := yX6_plainLisps) (bytes := cX6_plainLisps) (maxL := 3) (rt := (some .int)) (code := kX6_plainLisps F) (by decide +kernel) rfl hl (fun _ _ _ _ _ _ _ _ _ _ _ X => sdX6_plainLisps hF X) h))
  (fun as S r hl h => mCon_of (y := yX6_dolphinLisps) (bytes := cX6_dolphinLisps) (maxL := 3) (rt := (some .int)) (code := kX6_dolphinLisps F) (by decide +kernel) rfl hl (fun _ _ _ _ _ _ _ _ _ _ _ X => sdX6_dolphinLisps hF X) h))
  (fun as S r hl h => mCon_of (y := yX6_lisps) (bytes := cX6_lisps) (maxL := 3) (rt := (some .int)) (code := kX6_lisps F) (by decide +kernel) rfl hl (fun _ _ _ _ _ _ _ _ _ _ _ X => sdX6_lisps hF X) h))
  (fun as S r hl h => mCon_of (y := yX6_plainDrips) (bytes := cX6_plainDrips) (maxL := 3) (rt := (some .int)) (code := kX6_plainDrips F) (by decide +kernel) rfl hl (fun _ _ _ _ _ _ _ _ _ _ _ X => sdX6_plainDrips hF X) h))
  (fun as S r hl h => mCon_of (y := yX6_drips) (bytes := cX6_drips) (maxL := 3) (rt := (some .int)) (code := kX6_drips F) (by decide +kernel) rfl hl (fun _ _ _ _ _ _ _ _ _ _ _ X => sdX6_drips hF X) h))
  (fun as S r hl h => mCon_of (y := yX6_plainParts) (bytes := cX6_plainParts) (maxL := 4) (rt := (some .int)) (code := kX6_plainParts F) (by decide +kernel) rfl hl (fun _ _ _ _ _ _ _ _ _ _ _ X => sdX6_plainParts hF X) h))
  (fun as S r hl h => mCon_of (y := yX6_partsBy) (bytes := cX6_partsBy) (maxL := 4) (rt := (some .int)) (code := kX6_partsBy F) (by decide +kernel) rfl hl (fun _ _ _ _ _ _ _ _ _ _ _ X => sdX6_partsBy hF X) h))
  (fun as S r hl h => mCon_of (y := yX6_voice) (bytes := cX6_voice) (maxL := 5) (rt := (some .int)) (code := kX6_voice F) (by decide +kernel) rfl hl (fun _ _ _ _ _ _ _ _ _ _ _ X => sdX6_voice hF X) h))
  (fun as S r hl h => mCon_of (y := yX6_body) (bytes := cX6_body) (maxL := 2) (rt := (some .int)) (code := kX6_body F) (by decide +kernel) rfl hl (fun _ _ _ _ _ _ _ _ _ _ _ X => sdX6_body hF X) h))
  (fun as S r hl h => mCon_of (y := yX6_isSheet) (bytes := cX6_isSheet) (maxL := 1) (rt := (some .boolean)) (code := kX6_isSheet F) (by decide +kernel) rfl hl (fun _ _ _ _ _ _ _ _ _ _ _ X => sdX6_isSheet hF X) h))
  (fun as S r hl h => mCon_of (y := yX6_sheet) (bytes := cX6_sheet) (maxL := 5) (rt := (some .int)) (code := kX6_sheet F) (by decide +kernel) rfl hl (fun _ _ _ _ _ _ _ _ _ _ _ X => sdX6_sheet hF X) h))
  (fun as S r hl h => mCon_of (y := yX6_notThere) (bytes := cX6_notThere) (maxL := 2) (rt := (some .int)) (code := kX6_notThere F) (by decide +kernel) rfl hl (fun _ _ _ _ _ _ _ _ _ _ _ X => sdX6_notThere hF X) h))
  (fun as S r hl h => mCon_of (y := yX6_put) (bytes := cX6_put) (maxL := 5) (rt := (some .int)) (code := kX6_put F) (by decide +kernel) rfl hl (fun _ _ _ _ _ _ _ _ _ _ _ X => sdX6_put hF X) h))
  (fun as S r hl h => mCon_of (y := yX6_notMoved) (bytes := cX6_notMoved) (maxL := 7) (rt := (some .int)) (code := kX6_notMoved F) (by decide +kernel) rfl hl (fun _ _ _ _ _ _ _ _ _ _ _ X => sdX6_notMoved hF X) h))
  (fun as S r hl h => mCon_of (y := yX6_move) (bytes := cX6_move) (maxL := 9) (rt := (some .int)) (code := kX6_move F) (by decide +kernel) rfl hl (fun _ _ _ _ _ _ _ _ _ _ _ X => sdX6_move hF X) h))
  (fun as S r hl h => mCon_of (y := yX6_talks) (bytes := cX6_talks) (maxL := 4) (rt := (some .int)) (code := kX6_talks F) (by decide +kernel) rfl hl (fun _ _ _ _ _ _ _ _ _ _ _ X => sdX6_talks hF X) h))
  (fun as S r hl h => mCon_of (y := yX6_judge) (bytes := cX6_judge) (maxL := 4) (rt := (some .int)) (code := kX6_judge F) (by decide +kernel) rfl hl (fun _ _ _ _ _ _ _ _ _ _ _ X => sdX6_judge hF X) h))
  (fun as S r hl h => mCon_of (y := yX6_image) (bytes := cX6_image) (maxL := 1) (rt := (some .int)) (code := kX6_image F) (by decide +kernel) rfl hl (fun _ _ _ _ _ _ _ _ _ _ _ X => sdX6_image hF X) h))
  (fun as S r hl h => mCon_of (y := yX6_restore) (bytes := cX6_restore) (maxL := 1) (rt := (some .int)) (code := kX6_restore F) (by decide +kernel) rfl hl (fun _ _ _ _ _ _ _ _ _ _ _ X => sdX6_restore hF X) h))
  (fun as S r hl h => mCon_of (y := yX6_tell) (bytes := cX6_tell) (maxL := 2) (rt := (some .int)) (code := kX6_tell F) (by decide +kernel) rfl hl (fun _ _ _ _ _ _ _ _ _ _ _ X => sdX6_tell hF X) h))
  (fun as S r hl h => mCon_of (y := yX6_check) (bytes := cX6_check) (maxL := 3) (rt := (some .int)) (code := kX6_check F) (by decide +kernel) rfl hl (fun _ _ _ _ _ _ _ _ _ _ _ X => sdX6_check hF X) h))
  (fun as S r hl h => mCon_of (y := yX6_count) (bytes := cX6_count) (maxL := 2) (rt := (some .int)) (code := kX6_count F) (by decide +kernel) rfl hl (fun _ _ _ _ _ _ _ _ _ _ _ X => sdX6_count hF X) h))
  (fun as S r hl h => mCon_of (y := yX6_told) (bytes := cX6_told) (maxL := 2) (rt := (some .int)) (code := kX6_told F) (by decide +kernel) rfl hl (fun _ _ _ _ _ _ _ _ _ _ _ X => sdX6_told hF X) h))
  (fun as S r hl h => mCon_of (y := yJ0_indexOf_0f7a4) (bytes := cJ0_indexOf_0f7a4) (maxL := 2) (rt := (some .int)) (code := kJ0_indexOf_0f7a4 F) (by decide +kernel) rfl hl (fun _ _ _ _ _ _ _ _ _ _ _ X => sdJ0_indexOf_0f7a4 hF X) h))
  (fun as S r hl h => mCon_of (y := yJ0_indexOf_7cf53) (bytes := cJ0_indexOf_7cf53) (maxL := 3) (rt := (some .int)) (code := kJ0_indexOf_7cf53 F) (by decide +kernel) rfl hl (fun _ _ _ _ _ _ _ _ _ _ _ X => sdJ0_indexOf_7cf53 hF X) h))
  (fun as S r hl h => mCon_of (y := yJ0_isLatin1_aae02) (bytes := cJ0_isLatin1_aae02) (maxL := 1) (rt := (some .boolean)) (code := kJ0_isLatin1_aae02 F) (by decide +kernel) rfl hl (fun _ _ _ _ _ _ _ _ _ _ _ X => sdJ0_isLatin1_aae02 hF X) h))
  (fun as S r hl h => mCon_of (y := yJ0_length_8abf5) (bytes := cJ0_length_8abf5) (maxL := 1) (rt := (some .int)) (code := kJ0_length_8abf5 F) (by decide +kernel) rfl hl (fun _ _ _ _ _ _ _ _ _ _ _ X => sdJ0_length_8abf5 hF X) h))
  (fun as S r hl h => mCon_of (y := yJ0_coder_7d493) (bytes := cJ0_coder_7d493) (maxL := 1) (rt := (some .byte)) (code := kJ0_coder_7d493 F) (by decide +kernel) rfl hl (fun _ _ _ _ _ _ _ _ _ _ _ X => sdJ0_coder_7d493 hF X) h))
  (fun as S r hl h => mCon_of (y := yJ1_canEncode_9a6ad) (bytes := cJ1_canEncode_9a6ad) (maxL := 1) (rt := (some .boolean)) (code := kJ1_canEncode_9a6ad F) (by decide +kernel) rfl hl (fun _ _ _ _ _ _ _ _ _ _ _ X => sdJ1_canEncode_9a6ad hF X) h))
  (fun as S r hl h => mCon_of (y := yJ1_indexOf_4cfef) (bytes := cJ1_indexOf_4cfef) (maxL := 4) (rt := (some .int)) (code := kJ1_indexOf_4cfef F) (by decide +kernel) rfl hl (fun _ _ _ _ _ _ _ _ _ _ _ X => sdJ1_indexOf_4cfef hF X) h))
  (fun as S r hl h => mCon_of (y := yJ1_indexOfChar_4cfef) (bytes := cJ1_indexOfChar_4cfef) (maxL := 6) (rt := (some .int)) (code := kJ1_indexOfChar_4cfef F) (by decide +kernel) rfl hl (fun _ _ _ _ _ _ _ _ _ _ _ X => sdJ1_indexOfChar_4cfef hF X) h))
  (fun as S r hl h => mCon_of (y := yJ6_bitCount_0f7a4) (bytes := cJ6_bitCount_0f7a4) (maxL := 1) (rt := (some .int)) (code := kJ6_bitCount_0f7a4 F) (by decide +kernel) rfl hl (fun _ _ _ _ _ _ _ _ _ _ _ X => sdJ6_bitCount_0f7a4 hF X) h)
theorem mFn_HF (l : Launch) (D : va_G) (ca : Nat → ClassId) (ad : Nat → Nat) : ∀ d, HF l D ca ad d (mFn d) := by
  intro d
  induction d with
  | zero => intro i hi as S r h; cases h
  | succ d ih =>
    intro i hi as S r h
    rw [mFn] at h
    dsimp only at h
    cases hb : Nat.ble (mcats as) (mL i) with
    | false => rw [hb] at h; cases h
    | true =>
      rw [hb] at h
      exact mcon_all ih i hi as S r (Nat.le_of_ble_eq_true hb) (mv_ex h)
/-- a method's value is its table's -/
theorem mFn_eq {d i : Nat} {as : List Value} {S : MS} (hb : Nat.ble (mcats as) (mL i) = true) : mFn (d + 1) i as S = mv (mprog (mFn d) i) 0 (lv_args 0 as) [] S := by
  rw [mFn]
  dsimp only
  rw [hb]
  rfl
