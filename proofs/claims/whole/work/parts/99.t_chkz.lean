theorem qq0 (M : Nat) (h : 0 ≤ M) (h2 : M < 20) : (tab M).1 = [] ∨ chkM M = true := by
  rcases (show M = 0 ∨ M = 1 ∨ M = 2 ∨ M = 3 ∨ M = 4 ∨ M = 5 ∨ M = 6 ∨ M = 7 ∨ M = 8 ∨ M = 9 ∨ M = 10 ∨ M = 11 ∨ M = 12 ∨ M = 13 ∨ M = 14 ∨ M = 15 ∨ M = 16 ∨ M = 17 ∨ M = 18 ∨ M = 19 by omega) with rfl | rfl | rfl | rfl | rfl | rfl | rfl | rfl | rfl | rfl | rfl | rfl | rfl | rfl | rfl | rfl | rfl | rfl | rfl | rfl
  · exact Or.inr qX0_init
  · exact Or.inr qX0_begin
  · exact Or.inr qX0_bringNear
  · exact Or.inr qX0_countNear
  · exact Or.inr qX0_leaveByLeastFill
  · exact Or.inr qX0_fillOf
  · exact Or.inr qX0_leave
  · exact Or.inr qX0_costOf
  · exact Or.inr qX1_init
  · exact Or.inr qX1_has
  · exact Or.inr qX1_hasOrNone
  · exact Or.inr qX1_begin
  · exact Or.inr qX1_beginRows
  · exact Or.inr qX1_beginRow
  · exact Or.inr qX1_made
  · exact Or.inr qX1_setRow
  · exact Or.inr qX1_setHints
  · exact Or.inr qX1_isHinted
  · exact Or.inr qX1_isEvidence
  · exact Or.inr qX1_numberOf
theorem qq1 (M : Nat) (h : 20 ≤ M) (h2 : M < 40) : (tab M).1 = [] ∨ chkM M = true := by
  rcases (show M = 20 ∨ M = 21 ∨ M = 22 ∨ M = 23 ∨ M = 24 ∨ M = 25 ∨ M = 26 ∨ M = 27 ∨ M = 28 ∨ M = 29 ∨ M = 30 ∨ M = 31 ∨ M = 32 ∨ M = 33 ∨ M = 34 ∨ M = 35 ∨ M = 36 ∨ M = 37 ∨ M = 38 ∨ M = 39 by omega) with rfl | rfl | rfl | rfl | rfl | rfl | rfl | rfl | rfl | rfl | rfl | rfl | rfl | rfl | rfl | rfl | rfl | rfl | rfl | rfl
  · exact Or.inr qX1_become
  · exact Or.inr qX1_printTo
  · exact Or.inr qX2_init
  · exact Or.inr qX2_isMissing
  · exact Or.inr qX2_has
  · exact Or.inr qX2_hasRun
  · exact Or.inr qX2_become
  · exact Or.inr qX2_set
  · exact Or.inr qX3_init
  · exact Or.inr qX3_add
  · exact Or.inr qX3_findFault
  · exact Or.inr qX3_readClause
  · exact Or.inr qX3_readToken
  · exact Or.inr qX3_readNumber
  · exact Or.inr qX3_findWord
  · exact Or.inr qX3_isRead
  · exact Or.inr qX3_wordOf
  · exact Or.inr qX3_isLetter
  · exact Or.inr qX3_isDigit
  · exact Or.inr qX4_init
theorem qq2 (M : Nat) (h : 40 ≤ M) (h2 : M < 60) : (tab M).1 = [] ∨ chkM M = true := by
  rcases (show M = 40 ∨ M = 41 ∨ M = 42 ∨ M = 43 ∨ M = 44 ∨ M = 45 ∨ M = 46 ∨ M = 47 ∨ M = 48 ∨ M = 49 ∨ M = 50 ∨ M = 51 ∨ M = 52 ∨ M = 53 ∨ M = 54 ∨ M = 55 ∨ M = 56 ∨ M = 57 ∨ M = 58 ∨ M = 59 by omega) with rfl | rfl | rfl | rfl | rfl | rfl | rfl | rfl | rfl | rfl | rfl | rfl | rfl | rfl | rfl | rfl | rfl | rfl | rfl | rfl
  · exact Or.inr qX4_grow
  · exact Or.inr qX4_isInOne
  · exact Or.inr qX4_joinNext
  · exact Or.inr qX5_leads
  · exact Or.inr qX5_leadsOn
  · exact Or.inr qX5_isOpen
  · exact Or.inr qX6_init
  · exact Or.inr qX6_has
  · exact Or.inr qX6_hasOrNone
  · exact Or.inr qX6_hasValue
  · exact Or.inr qX6_add
  · exact Or.inr qX6_become
  · exact Or.inr qX6_numberIn
  · exact Or.inr qX6_factorIn
  · exact Or.inr qX6_isParent
  · exact Or.inr qX6_heeds
  · exact Or.inr qX6_hasEvidenceFrom
  · exact Or.inr qX6_heedsAny
  · exact Or.inr qX6_countFindings
  · exact Or.inr qX6_countDone
theorem qq3 (M : Nat) (h : 60 ≤ M) (h2 : M < 80) : (tab M).1 = [] ∨ chkM M = true := by
  rcases (show M = 60 ∨ M = 61 ∨ M = 62 ∨ M = 63 ∨ M = 64 ∨ M = 65 ∨ M = 66 ∨ M = 67 ∨ M = 68 ∨ M = 69 ∨ M = 70 ∨ M = 71 ∨ M = 72 ∨ M = 73 ∨ M = 74 ∨ M = 75 ∨ M = 76 ∨ M = 77 ∨ M = 78 ∨ M = 79 by omega) with rfl | rfl | rfl | rfl | rfl | rfl | rfl | rfl | rfl | rfl | rfl | rfl | rfl | rfl | rfl | rfl | rfl | rfl | rfl | rfl
  · exact Or.inr qX6_countHinted
  · exact Or.inr qX6_countWorlds
  · exact Or.inr qX7_init
  · exact Or.inr qX7_weighAll
  · exact Or.inr qX7_weighBoth
  · exact Or.inr qX7_weighGuesses
  · exact Or.inr qX7_weighWanted
  · exact Or.inr qX7_weighFrom
  · exact Or.inr qX7_findLikeliest
  · exact Or.inr qX7_seekLikeliest
  · exact Or.inr qX7_draw
  · exact Or.inr qX7_drawOne
  · exact Or.inr qX7_fitsFindings
  · exact Or.inr qX8_init
  · exact Or.inr qX8_node
  · exact Or.inr qX8_row
  · exact Or.inr qX8_told
  · exact Or.inr qX8_done
  · exact Or.inr qX8_hint
  · exact Or.inr qX8_feed
theorem qq4 (M : Nat) (h : 80 ≤ M) (h2 : M < 100) : (tab M).1 = [] ∨ chkM M = true := by
  rcases (show M = 80 ∨ M = 81 ∨ M = 82 ∨ M = 83 ∨ M = 84 ∨ M = 85 ∨ M = 86 ∨ M = 87 ∨ M = 88 ∨ M = 89 ∨ M = 90 ∨ M = 91 ∨ M = 92 ∨ M = 93 ∨ M = 94 ∨ M = 95 ∨ M = 96 ∨ M = 97 ∨ M = 98 ∨ M = 99 by omega) with rfl | rfl | rfl | rfl | rfl | rfl | rfl | rfl | rfl | rfl | rfl | rfl | rfl | rfl | rfl | rfl | rfl | rfl | rfl | rfl
  · exact Or.inr qX8_text
  · exact Or.inr qX8_of
  · exact Or.inr qX8_cell
  · exact Or.inr qX8_print
  · exact Or.inr qX8_weight
  · exact Or.inr qX8_power
  · exact Or.inr qX8_odds
  · exact Or.inr qX8_both
  · exact Or.inr qX8_shown
  · exact Or.inr qX8_would
  · exact Or.inr qX8_without
  · exact Or.inr qX8_likely
  · exact Or.inr qX8_apart
  · exact Or.inr qX8_tells
  · exact Or.inr qX8_telling
  · exact Or.inr qX8_leaves
  · exact Or.inr qX8_cluster
  · exact Or.inr qX8_cost
  · exact Or.inr qX8_drawn
  · exact Or.inr qX8_chance
theorem qq5 (M : Nat) (h : 100 ≤ M) (h2 : M < 120) : (tab M).1 = [] ∨ chkM M = true := by
  rcases (show M = 100 ∨ M = 101 ∨ M = 102 ∨ M = 103 ∨ M = 104 ∨ M = 105 ∨ M = 106 ∨ M = 107 ∨ M = 108 ∨ M = 109 ∨ M = 110 ∨ M = 111 ∨ M = 112 ∨ M = 113 ∨ M = 114 ∨ M = 115 ∨ M = 116 ∨ M = 117 ∨ M = 118 ∨ M = 119 by omega) with rfl | rfl | rfl | rfl | rfl | rfl | rfl | rfl | rfl | rfl | rfl | rfl | rfl | rfl | rfl | rfl | rfl | rfl | rfl | rfl
  · exact Or.inr qX8_film
  · exact Or.inr qX8_lay
  · exact Or.inr qX8_image
  · exact Or.inr qX8_back
  · exact Or.inr qX8_count
  · exact Or.inr qX8_sheet
  · exact Or.inr qX8_put
  · exact Or.inr qX8_item
  · exact Or.inr qX8_copy
  · exact Or.inr qX8_isTwelfths
  · exact Or.inr qX8_isHint
  · exact Or.inr qX8_isLine
  · exact Or.inr qX8_isSheet
  · exact Or.inr qX8_isSort
  · exact Or.inr qX8_fraction
  · exact Or.inr qX8_greatestDivisor
  · exact Or.inr qX8_oddsIn
  · exact Or.inr qX8_tellsValues
  · exact Or.inr qX8_tellsEachNodeOnce
  · exact Or.inr qX8_doClause
theorem qq6 (M : Nat) (h : 120 ≤ M) (h2 : M < 140) : (tab M).1 = [] ∨ chkM M = true := by
  rcases (show M = 120 ∨ M = 121 ∨ M = 122 ∨ M = 123 ∨ M = 124 ∨ M = 125 ∨ M = 126 ∨ M = 127 ∨ M = 128 ∨ M = 129 ∨ M = 130 ∨ M = 131 ∨ M = 132 ∨ M = 133 ∨ M = 134 ∨ M = 135 ∨ M = 136 ∨ M = 137 ∨ M = 138 ∨ M = 139 by omega) with rfl | rfl | rfl | rfl | rfl | rfl | rfl | rfl | rfl | rfl | rfl | rfl | rfl | rfl | rfl | rfl | rfl | rfl | rfl | rfl
  · exact Or.inr qX8_noneIfNine
  · exact Or.inr qX9_in
  · exact Or.inr qX9_has
  · exact Or.inr qX9_bits
  · exact Or.inr qX9_init
  · exact Or.inr qX9_copies
  · exact Or.inr qX9_many
  · exact Or.inr qX9_is
  · exact Or.inr qX9_isNode
  · exact Or.inr qX9_isValue
  · exact Or.inr qX9_rowsOf
  · exact Or.inr qX9_isParent
  · exact Or.inr qX9_node
  · exact Or.inr qX9_row
  · exact Or.inr qX9_becomes
  · exact Or.inr qX9_told
  · exact Or.inr qX9_done
  · exact Or.inr qX9_isHinted
  · exact Or.inr qX9_hint
  · exact Or.inr qX9_of
theorem qq7 (M : Nat) (h : 140 ≤ M) (h2 : M < 160) : (tab M).1 = [] ∨ chkM M = true := by
  rcases (show M = 140 ∨ M = 141 ∨ M = 142 ∨ M = 143 ∨ M = 144 ∨ M = 145 ∨ M = 146 ∨ M = 147 ∨ M = 148 ∨ M = 149 ∨ M = 150 ∨ M = 151 ∨ M = 152 ∨ M = 153 ∨ M = 154 ∨ M = 155 ∨ M = 156 ∨ M = 157 ∨ M = 158 ∨ M = 159 by omega) with rfl | rfl | rfl | rfl | rfl | rfl | rfl | rfl | rfl | rfl | rfl | rfl | rfl | rfl | rfl | rfl | rfl | rfl | rfl | rfl
  · exact Or.inr qX9_cell
  · exact Or.inr qX9_feed
  · exact Or.inr qX9_byteAt
  · exact Or.inr qX9_blanks
  · exact Or.inr qX9_wrong
  · exact Or.inr qX9_isLetter
  · exact Or.inr qX9_isWord
  · exact Or.inr qX9_word
  · exact Or.inr qX9_number
  · exact Or.inr qX9_needed
  · exact Or.inr qX9_clause
  · exact Or.inr qX9_orNone
  · exact Or.inr qX9_isDone
  · exact Or.inr qX9_text
  · exact Or.inr qX9_puts
  · exact Or.inr qX9_spells
  · exact Or.inr qX9_prints
  · exact Or.inr qX9_print
  · exact Or.inr qX9_numberOf
  · exact Or.inr qX9_same
theorem qq8 (M : Nat) (h : 160 ≤ M) (h2 : M < 180) : (tab M).1 = [] ∨ chkM M = true := by
  rcases (show M = 160 ∨ M = 161 ∨ M = 162 ∨ M = 163 ∨ M = 164 ∨ M = 165 ∨ M = 166 ∨ M = 167 ∨ M = 168 ∨ M = 169 ∨ M = 170 ∨ M = 171 ∨ M = 172 ∨ M = 173 ∨ M = 174 ∨ M = 175 ∨ M = 176 ∨ M = 177 ∨ M = 178 ∨ M = 179 by omega) with rfl | rfl | rfl | rfl | rfl | rfl | rfl | rfl | rfl | rfl | rfl | rfl | rfl | rfl | rfl | rfl | rfl | rfl | rfl | rfl
  · exact Or.inr qX9_numberNow
  · exact Or.inr qX9_factor
  · exact Or.inr qX9_stands
  · exact Or.inr qX9_goes
  · exact Or.inr qX9_all
  · exact Or.inr qX9_free
  · exact Or.inr qX9_weight
  · exact Or.inr qX9_power
  · exact Or.inr qX9_lowest
  · exact Or.inr qX9_oddsNow
  · exact Or.inr qX9_isAsked
  · exact Or.inr qX9_odds
  · exact Or.inr qX9_both
  · exact Or.inr qX9_isTold
  · exact Or.inr qX9_shown
  · exact Or.inr qX9_would
  · exact Or.inr qX9_without
  · exact Or.inr qX9_likely
  · exact Or.inr qX9_isOver
  · exact Or.inr qX9_isHeard
theorem qq9 (M : Nat) (h : 180 ≤ M) (h2 : M < 200) : (tab M).1 = [] ∨ chkM M = true := by
  rcases (show M = 180 ∨ M = 181 ∨ M = 182 ∨ M = 183 ∨ M = 184 ∨ M = 185 ∨ M = 186 ∨ M = 187 ∨ M = 188 ∨ M = 189 ∨ M = 190 ∨ M = 191 ∨ M = 192 ∨ M = 193 ∨ M = 194 ∨ M = 195 ∨ M = 196 ∨ M = 197 ∨ M = 198 ∨ M = 199 by omega) with rfl | rfl | rfl | rfl | rfl | rfl | rfl | rfl | rfl | rfl | rfl | rfl | rfl | rfl | rfl | rfl | rfl | rfl | rfl | rfl
  · exact Or.inr qX9_isThrough
  · exact Or.inr qX9_isWay
  · exact Or.inr qX9_apart
  · exact Or.inr qX9_byTwos
  · exact Or.inr qX9_tellsOf
  · exact Or.inr qX9_tells
  · exact Or.inr qX9_telling
  · exact Or.inr qX9_pairs
  · exact Or.inr qX9_nears
  · exact Or.inr qX9_nearPairs
  · exact Or.inr qX9_fillOf
  · exact Or.inr qX9_leavesAs
  · exact Or.inr qX9_order
  · exact Or.inr qX9_leaves
  · exact Or.inr qX9_cluster
  · exact Or.inr qX9_cluster_
  · exact Or.inr qX9_costNow
  · exact Or.inr qX9_isOrder
  · exact Or.inr qX9_cost
  · exact Or.inr qX9_draws
theorem qq10 (M : Nat) (h : 200 ≤ M) (h2 : M < 220) : (tab M).1 = [] ∨ chkM M = true := by
  rcases (show M = 200 ∨ M = 201 ∨ M = 202 ∨ M = 203 ∨ M = 204 ∨ M = 205 ∨ M = 206 ∨ M = 207 ∨ M = 208 ∨ M = 209 ∨ M = 210 ∨ M = 211 ∨ M = 212 ∨ M = 213 ∨ M = 214 ∨ M = 215 ∨ M = 216 ∨ M = 217 ∨ M = 218 ∨ M = 219 by omega) with rfl | rfl | rfl | rfl | rfl | rfl | rfl | rfl | rfl | rfl | rfl | rfl | rfl | rfl | rfl | rfl | rfl | rfl | rfl | rfl
  · exact Or.inr qX9_drawn
  · exact Or.inr qX9_isAsFound
  · exact Or.inr qX9_chance
  · exact Or.inr qX9_film
  · exact Or.inr qX9_founds
  · exact Or.inr qX9_lay
  · exact Or.inr qX9_image
  · exact Or.inr qX9_back
  · exact Or.inr qX9_countsOf
  · exact Or.inr qX9_worlds
  · exact Or.inr qX9_count
  · exact Or.inr qX9_isSheet
  · exact Or.inr qX9_sheet
  · exact Or.inr qX9_put
  · exact Or.inr qX9_item
  · exact Or.inr qX9_copy
  · exact Or.inr qJ5_init_d00df
  · exact Or.inr qJ5_length_8abf5
  · exact Or.inr qJ5_ensureCapacityInternal_d00df
  · exact Or.inr qJ5_newCapacity_0f7a4
theorem qq11 (M : Nat) (h : 220 ≤ M) (h2 : M < 240) : (tab M).1 = [] ∨ chkM M = true := by
  rcases (show M = 220 ∨ M = 221 ∨ M = 222 ∨ M = 223 ∨ M = 224 ∨ M = 225 ∨ M = 226 ∨ M = 227 ∨ M = 228 ∨ M = 229 ∨ M = 230 ∨ M = 231 ∨ M = 232 ∨ M = 233 ∨ M = 234 ∨ M = 235 ∨ M = 236 ∨ M = 237 ∨ M = 238 ∨ M = 239 by omega) with rfl | rfl | rfl | rfl | rfl | rfl | rfl | rfl | rfl | rfl | rfl | rfl | rfl | rfl | rfl | rfl | rfl | rfl | rfl | rfl
  · exact Or.inl rfl
  · exact Or.inr qJ5_setLength_d00df
  · exact Or.inr qJ5_charAt_5068e
  · exact Or.inr qJ5_append_cf1ce
  · exact Or.inl rfl
  · exact Or.inr qJ5_append_3fe6f
  · exact Or.inr qJ5_append_c97b9
  · exact Or.inr qJ5_isLatin1_aae02
  · exact Or.inr qJ5_inflateIfNeededFor_a7421
  · exact Or.inr qJ5_putStringAt_47b60
  · exact Or.inr qJ6_getChars_ba4f3
  · exact Or.inr qJ6_stringSize_0f7a4
  · exact Or.inr qJ6_bitCount_0f7a4
  · exact Or.inl rfl
  · exact Or.inl rfl
  · exact Or.inl rfl
  · exact Or.inr qJ0_length_8abf5
  · exact Or.inr qJ0_charAt_5068e
  · exact Or.inr qJ0_getBytes_840e7
  · exact Or.inr qJ0_coder_7d493
theorem qq12 (M : Nat) (h : 240 ≤ M) (h2 : M < 260) : (tab M).1 = [] ∨ chkM M = true := by
  rcases (show M = 240 ∨ M = 241 ∨ M = 242 ∨ M = 243 ∨ M = 244 ∨ M = 245 ∨ M = 246 ∨ M = 247 ∨ M = 248 ∨ M = 249 ∨ M = 250 ∨ M = 251 ∨ M = 252 ∨ M = 253 ∨ M = 254 ∨ M = 255 ∨ M = 256 ∨ M = 257 ∨ M = 258 ∨ M = 259 by omega) with rfl | rfl | rfl | rfl | rfl | rfl | rfl | rfl | rfl | rfl | rfl | rfl | rfl | rfl | rfl | rfl | rfl | rfl | rfl | rfl
  · exact Or.inr qJ0_isLatin1_aae02
  · exact Or.inr qJ0_checkIndex_df160
  · exact Or.inl rfl
  · exact Or.inl rfl
  · exact Or.inr qJ4_init_da8c8
  · exact Or.inr qJ4_append_15ec4
  · exact Or.inr qJ4_append_cf468
  · exact Or.inr qJ4_append_bf812
  · exact Or.inr qJ4_charAt_5068e
  · exact Or.inr qJ4_setLength_d00df
  · exact Or.inr qJ4_length_8abf5
  · exact Or.inr qJ1_charAt_3b067
  · exact Or.inr qJ1_canEncode_fc78d
  · exact Or.inl rfl
  · exact Or.inl rfl
  · exact Or.inl rfl
  · exact Or.inl rfl
  · exact Or.inl rfl
  · exact Or.inl rfl
  · exact Or.inl rfl
theorem qq13 (M : Nat) (h : 260 ≤ M) (h2 : M < 280) : (tab M).1 = [] ∨ chkM M = true := by
  rcases (show M = 260 ∨ M = 261 ∨ M = 262 ∨ M = 263 ∨ M = 264 ∨ M = 265 ∨ M = 266 ∨ M = 267 ∨ M = 268 ∨ M = 269 ∨ M = 270 ∨ M = 271 ∨ M = 272 ∨ M = 273 ∨ M = 274 ∨ M = 275 ∨ M = 276 ∨ M = 277 ∨ M = 278 ∨ M = 279 by omega) with rfl | rfl | rfl | rfl | rfl | rfl | rfl | rfl | rfl | rfl | rfl | rfl | rfl | rfl | rfl | rfl | rfl | rfl | rfl | rfl
  · exact Or.inl rfl
  · exact Or.inl rfl
  · exact Or.inl rfl
  · exact Or.inl rfl
  · exact Or.inl rfl
  · exact Or.inl rfl
  · exact Or.inl rfl
  · exact Or.inl rfl
  · exact Or.inl rfl
  · exact Or.inl rfl
  · exact Or.inl rfl
  · exact Or.inr qJ7_fill_d0a16
  · exact Or.inr qJ7_fill_53178
  · exact Or.inl rfl
  · exact Or.inr qJ7_copyOf_9075b
  · exact Or.inr qJ8_newLength_cabcc
  · exact Or.inl rfl
  · exact Or.inr qJ3_checkIndex_8e157
  · exact Or.inl rfl
  · exact Or.inl rfl
theorem qq14 (M : Nat) (h : 280 ≤ M) (h2 : M < 281) : (tab M).1 = [] ∨ chkM M = true := by
  rcases (show M = 280 by omega) with rfl
  · exact Or.inl rfl
theorem qq_out (M : Nat) (h : 281 ≤ M) : (tab M).1 = [] := by
  unfold tab
  by_cases h2 : M < 320
  · rcases (show M = 281 ∨ M = 282 ∨ M = 283 ∨ M = 284 ∨ M = 285 ∨ M = 286 ∨ M = 287 ∨ M = 288 ∨ M = 289 ∨ M = 290 ∨ M = 291 ∨ M = 292 ∨ M = 293 ∨ M = 294 ∨ M = 295 ∨ M = 296 ∨ M = 297 ∨ M = 298 ∨ M = 299 ∨ M = 300 ∨ M = 301 ∨ M = 302 ∨ M = 303 ∨ M = 304 ∨ M = 305 ∨ M = 306 ∨ M = 307 ∨ M = 308 ∨ M = 309 ∨ M = 310 ∨ M = 311 ∨ M = 312 ∨ M = 313 ∨ M = 314 ∨ M = 315 ∨ M = 316 ∨ M = 317 ∨ M = 318 ∨ M = 319 by omega) with rfl | rfl | rfl | rfl | rfl | rfl | rfl | rfl | rfl | rfl | rfl | rfl | rfl | rfl | rfl | rfl | rfl | rfl | rfl | rfl | rfl | rfl | rfl | rfl | rfl | rfl | rfl | rfl | rfl | rfl | rfl | rfl | rfl | rfl | rfl | rfl | rfl | rfl | rfl <;> rfl
  · rw [show kTab.getD (M / 40) [] = [] from by rw [List.getD_eq_getElem?_getD, List.getElem?_eq_none (show kTab.length ≤ M / 40 by have : kTab.length = 8 := rfl; omega)]; rfl]; rfl
theorem chk_all (M : Nat) : (tab M).1 = [] ∨ chkM M = true := by
  by_cases h0 : M < 20
  · exact qq0 M (by omega) h0
  by_cases h1 : M < 40
  · exact qq1 M (by omega) h1
  by_cases h2 : M < 60
  · exact qq2 M (by omega) h2
  by_cases h3 : M < 80
  · exact qq3 M (by omega) h3
  by_cases h4 : M < 100
  · exact qq4 M (by omega) h4
  by_cases h5 : M < 120
  · exact qq5 M (by omega) h5
  by_cases h6 : M < 140
  · exact qq6 M (by omega) h6
  by_cases h7 : M < 160
  · exact qq7 M (by omega) h7
  by_cases h8 : M < 180
  · exact qq8 M (by omega) h8
  by_cases h9 : M < 200
  · exact qq9 M (by omega) h9
  by_cases h10 : M < 220
  · exact qq10 M (by omega) h10
  by_cases h11 : M < 240
  · exact qq11 M (by omega) h11
  by_cases h12 : M < 260
  · exact qq12 M (by omega) h12
  by_cases h13 : M < 280
  · exact qq13 M (by omega) h13
  by_cases h14 : M < 281
  · exact qq14 M (by omega) h14
  exact Or.inl (qq_out M (by omega))
theorem chkL_app {b : ByteArray} {own : String} {ini : Bool} : ∀ {c1 c2 : List (Instr × Nat × Nat × Nat)} {p p2 : Nat}, chkL b own ini p c1 = true → p2 = p + (c1.map fun e => e.2.1).sum → chkL b own ini p2 c2 = true → chkL b own ini p (c1 ++ c2) = true
  | [], c2, p, p2, _, h, h2 => by have h : p2 = p := h; rw [← h]; exact h2
  | e :: r, c2, p, p2, h, h2, h3 => by
    unfold chkL at h
    simp only [Bool.and_eq_true] at h
    rw [List.cons_append]
    unfold chkL
    simp only [Bool.and_eq_true]
    refine ⟨h.1, h.2.1, chkL_app h.2.2 ?_ h3⟩
    rw [h2, List.map_cons, List.sum_cons]; omega
theorem qL_law : chkL (mT 280).2.1 (mT 280).1.cls false 0 kL_law.1 = true := chkL_app qL_0 (by decide +kernel) (chkL_app qL_1 (by decide +kernel) (chkL_app qL_2 (by decide +kernel) (chkL_app qL_3 (by decide +kernel) (chkL_app qL_4 (by decide +kernel) (chkL_app qL_5 (by decide +kernel) (chkL_app qL_6 (by decide +kernel) (chkL_app qL_7 (by decide +kernel) (chkL_app qL_8 (by decide +kernel) (chkL_app qL_9 (by decide +kernel) (chkL_app qL_10 (by decide +kernel) (chkL_app qL_11 (by decide +kernel) (chkL_app qL_12 (by decide +kernel) (qL_13)))))))))))))
