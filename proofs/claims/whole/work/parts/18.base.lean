/-! words for what methods compute -/
theorem Ex.mk {mt : Nat → Nat × (Nat → List LI)} {d i n : Nat} {M : Nat → List LI} {σ : St} {as : List Vl} {r : St × List Vl} (h : mt i = (n, M)) (k : Gx mt d M σ (M 0) (entL as n) [] r) : Ex mt d i σ as r := by
  unfold Ex
  rw [h]
  exact k
theorem mt_0 : mt 0 = (1, cd_X0_init) := rfl
theorem mt_1 : mt 1 = (3, cd_X0_lay) := rfl
theorem mt_2 : mt 2 = (2, cd_X0_areThere) := rfl
theorem mt_3 : mt 3 = (4, cd_X0_knownWith) := rfl
theorem mt_4 : mt 4 = (7, cd_X0_isOnRing) := rfl
theorem mt_5 : mt 5 = (2, cd_X0_groupOf) := rfl
theorem mt_6 : mt 6 = (5, cd_X0_fewestTaps) := rfl
theorem mt_7 : mt 7 = (1, cd_X1_init) := rfl
theorem mt_8 : mt 8 = (4, cd_X1_setRoom) := rfl
theorem mt_9 : mt 9 = (6, cd_X1_choose) := rfl
theorem mt_10 : mt 10 = (4, cd_X1_valueTogether) := rfl
theorem mt_11 : mt 11 = (6, cd_X1_hasRoomFor) := rfl
theorem mt_12 : mt 12 = (4, cd_X1_valueTogether) := rfl
theorem mt_13 : mt 13 = (4, cd_X1_valueTogether) := rfl
theorem mt_14 : mt 14 = (7, cd_X1_tellCount) := rfl
theorem mt_15 : mt 15 = (3, cd_X1_fewestLiars) := rfl
theorem mt_16 : mt 16 = (3, cd_X1_explain) := rfl
theorem mt_17 : mt 17 = (1, cd_X2_init) := rfl
theorem mt_18 : mt 18 = (3, cd_X2_relationOf) := rfl
theorem mt_19 : mt 19 = (4, cd_X2_takeNode) := rfl
theorem mt_20 : mt 20 = (1, cd_X2_pushEmpty) := rfl
theorem mt_21 : mt 21 = (2, cd_X2_joinTop) := rfl
theorem mt_22 : mt 22 = (6, cd_X2_fillAtom) := rfl
theorem mt_23 : mt 23 = (3, cd_X2_mark) := rfl
theorem mt_24 : mt 24 = (3, cd_X2_unite) := rfl
theorem mt_25 : mt 25 = (5, cd_X2_follow) := rfl
theorem mt_26 : mt 26 = (10, cd_X2_addRows) := rfl
theorem mt_27 : mt 27 = (3, cd_X2_close) := rfl
theorem mt_28 : mt 28 = (7, cd_X2_sumUpOthers) := rfl
theorem mt_29 : mt 29 = (5, cd_X2_goOnBy) := rfl
theorem mt_30 : mt 30 = (3, cd_X2_isEmptyRow) := rfl
theorem mt_31 : mt 31 = (2, cd_X3_init) := rfl
theorem mt_32 : mt 32 = (3, cd_X3_tableAt) := rfl
theorem mt_33 : mt 33 = (4, cd_X3_countRows) := rfl
theorem mt_34 : mt 34 = (3, cd_X3_unlikeBoxes) := rfl
theorem mt_35 : mt 35 = (3, cd_X3_takeNewTables) := rfl
theorem mt_36 : mt 36 = (2, cd_X3_lineBit) := rfl
theorem mt_37 : mt 37 = (6, cd_X3_setFallen) := rfl
theorem mt_38 : mt 38 = (2, cd_X3_isEntry) := rfl
theorem mt_39 : mt 39 = (5, cd_X3_step) := rfl
theorem mt_40 : mt 40 = (1, cd_X3_goesOn) := rfl
theorem mt_41 : mt 41 = (1, cd_X3_endBy) := rfl
theorem mt_42 : mt 42 = (2, cd_X3_versionOf) := rfl
theorem mt_43 : mt 43 = (6, cd_X3_follow) := rfl
theorem mt_44 : mt 44 = (5, cd_X3_keepRow) := rfl
theorem mt_45 : mt 45 = (2, cd_X3_endsBy) := rfl
theorem mt_46 : mt 46 = (4, cd_X3_fillEnds) := rfl
theorem mt_47 : mt 47 = (7, cd_X3_settle) := rfl
theorem mt_48 : mt 48 = (5, cd_X3_firstUnlike) := rfl
theorem mt_49 : mt 49 = (1, cd_X4_init) := rfl
theorem mt_50 : mt 50 = (5, cd_X4_read) := rfl
theorem mt_51 : mt 51 = (2, cd_X4_readAhead) := rfl
theorem mt_52 : mt 52 = (1, cd_X4_openBracket) := rfl
theorem mt_53 : mt 53 = (2, cd_X4_readConstant) := rfl
theorem mt_54 : mt 54 = (2, cd_X4_readUnless) := rfl
theorem mt_55 : mt 55 = (3, cd_X4_readTestOrChange) := rfl
theorem mt_56 : mt 56 = (4, cd_X4_readValue) := rfl
theorem mt_57 : mt 57 = (2, cd_X4_readBehind) := rfl
theorem mt_58 : mt 58 = (4, cd_X4_joinWaiting) := rfl
theorem mt_59 : mt 59 = (2, cd_X4_joinOperands) := rfl
theorem mt_60 : mt 60 = (1, cd_X4_starOperand) := rfl
theorem mt_61 : mt 61 = (4, cd_X4_pushOperand) := rfl
theorem mt_62 : mt 62 = (2, cd_X4_pushSign) := rfl
theorem mt_63 : mt 63 = (2, cd_X4_countAtom) := rfl
theorem mt_64 : mt 64 = (3, cd_X4_fail) := rfl
theorem mt_65 : mt 65 = (2, cd_X4_skipBlanks) := rfl
theorem mt_66 : mt 66 = (1, cd_X4_signHere) := rfl
theorem mt_67 : mt 67 = (1, cd_X4_isDigit) := rfl
theorem mt_68 : mt 68 = (1, cd_X4_isLetter) := rfl
theorem mt_69 : mt 69 = (3, cd_X4_digitsHere) := rfl
theorem mt_70 : mt 70 = (3, cd_X4_wordHere) := rfl
theorem mt_71 : mt 71 = (3, cd_X4_fieldHere) := rfl
theorem mt_72 : mt 72 = (2, cd_X5_init) := rfl
theorem mt_73 : mt 73 = (2, cd_X5_findOrder) := rfl
theorem mt_74 : mt 74 = (6, cd_X5_leadsOn) := rfl
theorem mt_75 : mt 75 = (4, cd_X5_isSafe) := rfl
theorem mt_76 : mt 76 = (3, cd_X5_isNeither) := rfl
theorem mt_77 : mt 77 = (2, cd_X5_versionIn) := rfl
theorem mt_78 : mt 78 = (6, cd_X5_watch) := rfl
theorem mt_79 : mt 79 = (6, cd_X5_countNeither) := rfl
theorem mt_80 : mt 80 = (3, cd_X5_findGap) := rfl
theorem mt_81 : mt 81 = (6, cd_X5_settleAll) := rfl
theorem mt_82 : mt 82 = (4, cd_X5_isQuiet) := rfl
theorem mt_83 : mt 83 = (5, cd_X5_writtenBy) := rfl
theorem mt_84 : mt 84 = (5, cd_X5_goBackTo) := rfl
theorem mt_85 : mt 85 = (4, cd_X5_isQuietAhead) := rfl
theorem mt_86 : mt 86 = (2, cd_X6_init) := rfl
theorem mt_87 : mt 87 = (6, cd_X6_strike) := rfl
theorem mt_88 : mt 88 = (6, cd_X6_considerPairs) := rfl
theorem mt_89 : mt 89 = (4, cd_X6_consider) := rfl
theorem mt_90 : mt 90 = (3, cd_X6_isAmong) := rfl
theorem mt_91 : mt 91 = (6, cd_X6_linesInUse) := rfl
theorem mt_92 : mt 92 = (3, cd_X6_keepTrails) := rfl
theorem mt_93 : mt 93 = (7, cd_X6_trailOf) := rfl
theorem mt_94 : mt 94 = (7, cd_X6_countHit) := rfl
theorem mt_95 : mt 95 = (1, cd_X7_init) := rfl
theorem mt_96 : mt 96 = (5, cd_X7_addRow) := rfl
theorem mt_97 : mt 97 = (1, cd_X7_clear) := rfl
theorem mt_98 : mt 98 = (2, cd_X7_takeFrom) := rfl
theorem mt_99 : mt 99 = (3, cd_X7_isAlike) := rfl
theorem mt_100 : mt 100 = (2, cd_X7_toldOf) := rfl
theorem mt_101 : mt 101 = (4, cd_X7_isMatch) := rfl
theorem mt_102 : mt 102 = (6, cd_X7_deedOf) := rfl
theorem mt_103 : mt 103 = (9, cd_X7_fewestRows) := rfl
theorem mt_104 : mt 104 = (4, cd_X7_packetsOf) := rfl
theorem mt_105 : mt 105 = (7, cd_X7_alikeBy) := rfl
theorem mt_106 : mt 106 = (9, cd_X7_dealAlike) := rfl
theorem mt_107 : mt 107 = (6, cd_X7_remake) := rfl
theorem mt_108 : mt 108 = (10, cd_X7_coverAll) := rfl
theorem mt_109 : mt 109 = (3, cd_X7_howManyTold) := rfl
theorem mt_110 : mt 110 = (9, cd_X7_rightRow) := rfl
theorem mt_111 : mt 111 = (6, cd_X7_isOneFor) := rfl
theorem mt_112 : mt 112 = (4, cd_X7_staysFor) := rfl
theorem mt_113 : mt 113 = (1, cd_X8_init) := rfl
theorem mt_114 : mt 114 = (2, cd_X8_putAll) := rfl
theorem mt_115 : mt 115 = (2, cd_X8_putShorter) := rfl
theorem mt_116 : mt 116 = (9, cd_X8_put) := rfl
theorem mt_117 : mt 117 = (5, cd_X8_putBare) := rfl
theorem mt_118 : mt 118 = (4, cd_X8_putAtom) := rfl
theorem mt_119 : mt 119 = (2, cd_X8_putByte) := rfl
theorem mt_120 : mt 120 = (1, cd_X8_bindingOf) := rfl
theorem mt_121 : mt 121 = (6, cd_X8_shorten) := rfl
theorem mt_122 : mt 122 = (3, cd_X8_shortStar) := rfl
theorem mt_123 : mt 123 = (3, cd_X8_shortEither) := rfl
theorem mt_124 : mt 124 = (7, cd_X8_shortThen) := rfl
theorem mt_125 : mt 125 = (1, cd_X8_isPlain) := rfl
theorem mt_126 : mt 126 = (4, cd_X8_shortField) := rfl
theorem mt_127 : mt 127 = (3, cd_X9_init) := rfl
theorem mt_128 : mt 128 = (4, cd_X9_add) := rfl
theorem mt_129 : mt 129 = (5, cd_X9_findOrAdd) := rfl
theorem mt_130 : mt 130 = (3, cd_X9_copied) := rfl
theorem mt_131 : mt 131 = (4, cd_X10_init) := rfl
theorem mt_132 : mt 132 = (4, cd_X10_howMany) := rfl
theorem mt_133 : mt 133 = (8, cd_X10_pick) := rfl
theorem mt_134 : mt 134 = (6, cd_X10_kthBit) := rfl
theorem mt_135 : mt 135 = (3, cd_X10_holds) := rfl
theorem mt_136 : mt 136 = (2, cd_X10_makesNone) := rfl
theorem mt_137 : mt 137 = (3, cd_X10_makesJust) := rfl
theorem mt_138 : mt 138 = (6, cd_X10_partsBy) := rfl
theorem mt_139 : mt 139 = (4, cd_X10_isInside) := rfl
theorem mt_140 : mt 140 = (1, cd_X11_init) := rfl
theorem mt_141 : mt 141 = (6, cd_X11_feed) := rfl
theorem mt_142 : mt 142 = (3, cd_X11_takeBytes) := rfl
theorem mt_143 : mt 143 = (2, cd_X11_end) := rfl
theorem mt_144 : mt 144 = (4, cd_X11_wish) := rfl
theorem mt_145 : mt 145 = (5, cd_X11_makes) := rfl
theorem mt_146 : mt 146 = (8, cd_X11_of) := rfl
theorem mt_147 : mt 147 = (8, cd_X11_parts) := rfl
theorem mt_148 : mt 148 = (6, cd_X11_within) := rfl
theorem mt_149 : mt 149 = (6, cd_X11_right) := rfl
theorem mt_150 : mt 150 = (4, cd_X11_breaks) := rfl
theorem mt_151 : mt 151 = (4, cd_X11_mayTouch) := rfl
theorem mt_152 : mt 152 = (6, cd_X11_quarrel) := rfl
theorem mt_153 : mt 153 = (4, cd_X11_rank) := rfl
theorem mt_154 : mt 154 = (4, cd_X11_joined) := rfl
theorem mt_155 : mt 155 = (4, cd_X11_firstByRank) := rfl
theorem mt_156 : mt 156 = (7, cd_X11_row) := rfl
theorem mt_157 : mt 157 = (5, cd_X11_erase) := rfl
theorem mt_158 : mt 158 = (2, cd_X11_renew) := rfl
theorem mt_159 : mt 159 = (4, cd_X11_line) := rfl
theorem mt_160 : mt 160 = (3, cd_X11_entries) := rfl
theorem mt_161 : mt 161 = (3, cd_X11_ends) := rfl
theorem mt_162 : mt 162 = (2, cd_X11_way) := rfl
theorem mt_163 : mt 163 = (4, cd_X11_shown) := rfl
theorem mt_164 : mt 164 = (5, cd_X11_guessed) := rfl
theorem mt_165 : mt 165 = (4, cd_X11_packed) := rfl
theorem mt_166 : mt 166 = (1, cd_X11_writes) := rfl
theorem mt_167 : mt 167 = (2, cd_X11_written) := rfl
theorem mt_168 : mt 168 = (2, cd_X11_worst) := rfl
theorem mt_169 : mt 169 = (2, cd_X11_falls) := rfl
theorem mt_170 : mt 170 = (6, cd_X11_needs) := rfl
theorem mt_171 : mt 171 = (6, cd_X11_worth) := rfl
theorem mt_172 : mt 172 = (2, cd_X11_kept) := rfl
theorem mt_173 : mt 173 = (5, cd_X11_counts) := rfl
theorem mt_174 : mt 174 = (1, cd_X11_liars) := rfl
theorem mt_175 : mt 175 = (4, cd_X11_tell) := rfl
theorem mt_176 : mt 176 = (2, cd_X11_octet) := rfl
theorem mt_177 : mt 177 = (3, cd_X11_cable) := rfl
theorem mt_178 : mt 178 = (3, cd_X11_edges) := rfl
theorem mt_179 : mt 179 = (2, cd_X11_known) := rfl
theorem mt_180 : mt 180 = (2, cd_X11_taps) := rfl
theorem mt_181 : mt 181 = (6, cd_X11_make) := rfl
theorem mt_182 : mt 182 = (6, cd_X11_rows) := rfl
theorem mt_183 : mt 183 = (4, cd_X11_write) := rfl
theorem mt_184 : mt 184 = (3, cd_X11_seen) := rfl
theorem mt_185 : mt 185 = (3, cd_X11_neither) := rfl
theorem mt_186 : mt 186 = (1, cd_X11_gap) := rfl
theorem mt_187 : mt 187 = (2, cd_X11_count) := rfl
theorem mt_188 : mt 188 = (2, cd_X11_wishAt) := rfl
theorem mt_189 : mt 189 = (2, cd_X11_upTo) := rfl
theorem mt_190 : mt 190 = (1, cd_X11_isPacket) := rfl
theorem mt_191 : mt 191 = (1, cd_X11_isBox) := rfl
theorem mt_192 : mt 192 = (1, cd_X11_isTick) := rfl
theorem mt_193 : mt 193 = (2, cd_X11_isLine) := rfl
theorem mt_194 : mt 194 = (2, cd_X11_hasBit) := rfl
theorem mt_195 : mt 195 = (2, cd_X11_lowestBit) := rfl
theorem mt_196 : mt 196 = (2, cd_X11_valueOf) := rfl
theorem mt_197 : mt 197 = (3, cd_X11_changed) := rfl
theorem mt_198 : mt 198 = (2, cd_X12_init) := rfl
theorem mt_199 : mt 199 = (6, cd_X12_in) := rfl
theorem mt_200 : mt 200 = (1, cd_X12_isPacket) := rfl
theorem mt_201 : mt 201 = (1, cd_X12_isPlace) := rfl
theorem mt_202 : mt 202 = (2, cd_X12_fieldOf) := rfl
theorem mt_203 : mt 203 = (3, cd_X12_with) := rfl
theorem mt_204 : mt 204 = (6, cd_X12_feed) := rfl
theorem mt_205 : mt 205 = (3, cd_X12_put) := rfl
theorem mt_206 : mt 206 = (2, cd_X12_end) := rfl
theorem mt_207 : mt 207 = (3, cd_X12_fails) := rfl
theorem mt_208 : mt 208 = (1, cd_X12_sign) := rfl
theorem mt_209 : mt 209 = (1, cd_X12_blanks) := rfl
theorem mt_210 : mt 210 = (1, cd_X12_isDigit) := rfl
theorem mt_211 : mt 211 = (1, cd_X12_isLetter) := rfl
theorem mt_212 : mt 212 = (5, cd_X12_node) := rfl
theorem mt_213 : mt 213 = (2, cd_X12_join) := rfl
theorem mt_214 : mt 214 = (1, cd_X12_top) := rfl
theorem mt_215 : mt 215 = (2, cd_X12_counts) := rfl
theorem mt_216 : mt 216 = (4, cd_X12_field) := rfl
theorem mt_217 : mt 217 = (4, cd_X12_number) := rfl
theorem mt_218 : mt 218 = (7, cd_X12_atom) := rfl
theorem mt_219 : mt 219 = (3, cd_X12_wanted) := rfl
theorem mt_220 : mt 220 = (2, cd_X12_makes) := rfl
theorem mt_221 : mt 221 = (2, cd_X12_behind) := rfl
theorem mt_222 : mt 222 = (3, cd_X12_wish) := rfl
theorem mt_223 : mt 223 = (6, cd_X12_works) := rfl
theorem mt_224 : mt 224 = (9, cd_X12_leaf) := rfl
theorem mt_225 : mt 225 = (11, cd_X12_follows) := rfl
theorem mt_226 : mt 226 = (7, cd_X12_closes) := rfl
theorem mt_227 : mt 227 = (2, cd_X12_isWish) := rfl
theorem mt_228 : mt 228 = (4, cd_X12_makesOf) := rfl
theorem mt_229 : mt 229 = (6, cd_X12_kth) := rfl
theorem mt_230 : mt 230 = (7, cd_X12_many) := rfl
theorem mt_231 : mt 231 = (4, cd_X12_makes_) := rfl
theorem mt_232 : mt 232 = (6, cd_X12_of) := rfl
theorem mt_233 : mt 233 = (5, cd_X12_unlike) := rfl
theorem mt_234 : mt 234 = (7, cd_X12_parts) := rfl
theorem mt_235 : mt 235 = (5, cd_X12_within) := rfl
theorem mt_236 : mt 236 = (1, cd_X12_isHouse) := rfl
theorem mt_237 : mt 237 = (6, cd_X12_right) := rfl
theorem mt_238 : mt 238 = (5, cd_X12_breaks) := rfl
theorem mt_239 : mt 239 = (4, cd_X12_quarrel) := rfl
theorem mt_240 : mt 240 = (4, cd_X12_rank) := rfl
theorem mt_241 : mt 241 = (6, cd_X12_joined) := rfl
theorem mt_242 : mt 242 = (2, cd_X12_isTable) := rfl
theorem mt_243 : mt 243 = (8, cd_X12_row) := rfl
theorem mt_244 : mt 244 = (4, cd_X12_erase) := rfl
theorem mt_245 : mt 245 = (6, cd_X12_isUnlike) := rfl
theorem mt_246 : mt 246 = (3, cd_X12_unlikeMany) := rfl
theorem mt_247 : mt 247 = (5, cd_X12_renew) := rfl
theorem mt_248 : mt 248 = (4, cd_X12_line) := rfl
theorem mt_249 : mt 249 = (3, cd_X12_entries) := rfl
theorem mt_250 : mt 250 = (2, cd_X12_isField) := rfl
theorem mt_251 : mt 251 = (2, cd_X12_matches) := rfl
theorem mt_252 : mt 252 = (3, cd_X12_set) := rfl
theorem mt_253 : mt 253 = (4, cd_X12_rowFor) := rfl
theorem mt_254 : mt 254 = (5, cd_X12_step) := rfl
theorem mt_255 : mt 255 = (6, cd_X12_endsAs) := rfl
theorem mt_256 : mt 256 = (5, cd_X12_ends) := rfl
theorem mt_257 : mt 257 = (2, cd_X12_way) := rfl
theorem mt_258 : mt 258 = (2, cd_X12_enters) := rfl
theorem mt_259 : mt 259 = (5, cd_X12_isShown) := rfl
theorem mt_260 : mt 260 = (4, cd_X12_shownBut) := rfl
theorem mt_261 : mt 261 = (3, cd_X12_shown) := rfl
theorem mt_262 : mt 262 = (4, cd_X12_guessed) := rfl
theorem mt_263 : mt 263 = (3, cd_X12_deal) := rfl
theorem mt_264 : mt 264 = (9, cd_X12_packed) := rfl
theorem mt_265 : mt 265 = (3, cd_X12_bits) := rfl
theorem mt_266 : mt 266 = (8, cd_X12_dealsAlike) := rfl
theorem mt_267 : mt 267 = (2, cd_X12_ends_) := rfl
theorem mt_268 : mt 268 = (3, cd_X12_isNeither) := rfl
theorem mt_269 : mt 269 = (5, cd_X12_writes) := rfl
theorem mt_270 : mt 270 = (2, cd_X12_written) := rfl
theorem mt_271 : mt 271 = (10, cd_X12_worst) := rfl
theorem mt_272 : mt 272 = (2, cd_X12_placeBehind) := rfl
theorem mt_273 : mt 273 = (2, cd_X12_falls) := rfl
theorem mt_274 : mt 274 = (5, cd_X12_needs) := rfl
theorem mt_275 : mt 275 = (5, cd_X12_worth) := rfl
theorem mt_276 : mt 276 = (6, cd_X12_hasRoom) := rfl
theorem mt_277 : mt 277 = (7, cd_X12_kept) := rfl
theorem mt_278 : mt 278 = (7, cd_X12_counts_) := rfl
theorem mt_279 : mt 279 = (5, cd_X12_liars) := rfl
theorem mt_280 : mt 280 = (5, cd_X12_alike) := rfl
theorem mt_281 : mt 281 = (3, cd_X12_isOfField) := rfl
theorem mt_282 : mt 282 = (4, cd_X12_plus) := rfl
theorem mt_283 : mt 283 = (6, cd_X12_then) := rfl
theorem mt_284 : mt 284 = (3, cd_X12_star) := rfl
theorem mt_285 : mt 285 = (6, cd_X12_root) := rfl
theorem mt_286 : mt 286 = (2, cd_X12_later) := rfl
theorem mt_287 : mt 287 = (3, cd_X12_laterNode) := rfl
theorem mt_288 : mt 288 = (2, cd_X12_put1) := rfl
theorem mt_289 : mt 289 = (5, cd_X12_tells) := rfl
theorem mt_290 : mt 290 = (5, cd_X12_tell) := rfl
theorem mt_291 : mt 291 = (2, cd_X12_octet) := rfl
theorem mt_292 : mt 292 = (3, cd_X12_cable) := rfl
theorem mt_293 : mt 293 = (3, cd_X12_edges) := rfl
theorem mt_294 : mt 294 = (7, cd_X12_reached) := rfl
theorem mt_295 : mt 295 = (4, cd_X12_isKnown) := rfl
theorem mt_296 : mt 296 = (2, cd_X12_isCables) := rfl
theorem mt_297 : mt 297 = (4, cd_X12_known) := rfl
theorem mt_298 : mt 298 = (6, cd_X12_taps) := rfl
theorem mt_299 : mt 299 = (15, cd_X12_rightFor) := rfl
theorem mt_300 : mt 300 = (1, cd_X12_anys) := rfl
theorem mt_301 : mt 301 = (4, cd_X12_coverOf) := rfl
theorem mt_302 : mt 302 = (12, cd_X12_make) := rfl
theorem mt_303 : mt 303 = (6, cd_X12_rows) := rfl
theorem mt_304 : mt 304 = (4, cd_X12_write) := rfl
theorem mt_305 : mt 305 = (2, cd_X12_asTold) := rfl
theorem mt_306 : mt 306 = (8, cd_X12_seenAs) := rfl
theorem mt_307 : mt 307 = (3, cd_X12_seen) := rfl
theorem mt_308 : mt 308 = (3, cd_X12_endsByTicks) := rfl
theorem mt_309 : mt 309 = (5, cd_X12_neither) := rfl
theorem mt_310 : mt 310 = (5, cd_X12_gap) := rfl
theorem mt_311 : mt 311 = (4, cd_X12_count) := rfl
theorem mt_312 : mt 312 = (1, cd_J6_bitCount_0f7a4) := rfl
theorem mt_313 : mt 313 = (2, cd_J13_bitCount_95d88) := rfl
theorem mt_314 : mt 314 = (5, cd_J7_fill_d0a16) := rfl
theorem mt_315 : mt 315 = (4, cd_J7_fill_53178) := rfl
theorem mt_316 : mt 316 = (4, cd_L_law) := rfl
/-- a truth as an int -/
def bI (P : Prop) [Decidable P] : Int := if P then 1 else 0
theorem bI_01 (P : Prop) [Decidable P] : 0 ≤ bI P ∧ bI P ≤ 1 := by
  unfold bI
  split <;> exact ⟨by decide, by decide⟩
theorem bI_t {P : Prop} [Decidable P] (h : P) : bI P = 1 := if_pos h
theorem bI_f {P : Prop} [Decidable P] (h : ¬ P) : bI P = 0 := if_neg h
theorem bI_0 (P : Prop) [Decidable P] : bI P = 0 ↔ ¬ P := by
  unfold bI
  split <;> simp_all
theorem bI_1 (P : Prop) [Decidable P] : bI P = 1 ↔ P := by
  unfold bI
  split <;> simp_all
theorem go_ifb_eq {mt : Nat → Nat × (Nat → List LI)} {d : Nat} {M : Nat → List LI} {σ : St} {cs : List LI} {ls : Ls} {st : List Vl} {r : St × List Vl} {xb xc : Nat} {xz : Int} {P : Prop} [Decidable P] (kt : ¬ P → Gx mt d M σ (M xb) ls st r) (kf : P → Gx mt d M σ cs ls st r) : Gx mt d M σ ((37, 0, xb, xc, xz) :: cs) ls (vI (bI P) :: st) r :=
  go_if_eq (xa := 0) (fun h => kt ((bI_0 P).mp h)) (fun h => kf (Decidable.not_not.mp (fun q => h ((bI_0 P).mpr q))))
theorem go_ifb_ne {mt : Nat → Nat × (Nat → List LI)} {d : Nat} {M : Nat → List LI} {σ : St} {cs : List LI} {ls : Ls} {st : List Vl} {r : St × List Vl} {xb xc : Nat} {xz : Int} {P : Prop} [Decidable P] (kt : P → Gx mt d M σ (M xb) ls st r) (kf : ¬ P → Gx mt d M σ cs ls st r) : Gx mt d M σ ((37, 1, xb, xc, xz) :: cs) ls (vI (bI P) :: st) r :=
  go_if_ne (xa := 0) (fun h => kt (Decidable.not_not.mp (fun q => h ((bI_0 P).mpr q)))) (fun h => kf ((bI_0 P).mp h))
theorem lCmp_0 (x y : BitVec 64) : lCmp x y = 0 ↔ x = y := by
  unfold lCmp
  constructor
  · intro h
    split at h
    · cases h
    · split at h
      · exact BitVec.eq_of_toInt_eq (by assumption)
      · cases h
  · rintro rfl
    simp
theorem lCmp_neg (x y : BitVec 64) : lCmp x y < 0 ↔ x.toInt < y.toInt := by
  unfold lCmp
  split
  · constructor
    · intro h; cases h
    · intro h; omega
  · split
    · constructor
      · intro h; cases h
      · intro h; omega
    · constructor
      · intro _; omega
      · intro _; decide
theorem lCmp_pos (x y : BitVec 64) : 0 < lCmp x y ↔ y.toInt < x.toInt := by
  unfold lCmp
  split
  · constructor
    · intro _; assumption
    · intro _; decide
  · split
    · constructor
      · intro h; cases h
      · intro h; omega
    · constructor
      · intro h; cases h
      · intro h; omega
theorem go_lif_eq {mt : Nat → Nat × (Nat → List LI)} {d : Nat} {M : Nat → List LI} {σ : St} {cs : List LI} {ls : Ls} {st : List Vl} {r : St × List Vl} {xb xc : Nat} {xz : Int} {p q : BitVec 64} (kt : p = q → Gx mt d M σ (M xb) ls st r) (kf : ¬ p = q → Gx mt d M σ cs ls st r) : Gx mt d M σ ((37, 0, xb, xc, xz) :: cs) ls (vI (lCmp p q) :: st) r :=
  go_if_eq (xa := 0) (fun h => kt ((lCmp_0 p q).mp h)) (fun h => kf (fun z => h ((lCmp_0 p q).mpr z)))
theorem go_lif_ne {mt : Nat → Nat × (Nat → List LI)} {d : Nat} {M : Nat → List LI} {σ : St} {cs : List LI} {ls : Ls} {st : List Vl} {r : St × List Vl} {xb xc : Nat} {xz : Int} {p q : BitVec 64} (kt : ¬ p = q → Gx mt d M σ (M xb) ls st r) (kf : p = q → Gx mt d M σ cs ls st r) : Gx mt d M σ ((37, 1, xb, xc, xz) :: cs) ls (vI (lCmp p q) :: st) r :=
  go_if_ne (xa := 0) (fun h => kt (fun z => h ((lCmp_0 p q).mpr z))) (fun h => kf ((lCmp_0 p q).mp h))
theorem go_lif_lt {mt : Nat → Nat × (Nat → List LI)} {d : Nat} {M : Nat → List LI} {σ : St} {cs : List LI} {ls : Ls} {st : List Vl} {r : St × List Vl} {xb xc : Nat} {xz : Int} {p q : BitVec 64} (kt : p.toInt < q.toInt → Gx mt d M σ (M xb) ls st r) (kf : ¬ p.toInt < q.toInt → Gx mt d M σ cs ls st r) : Gx mt d M σ ((37, 2, xb, xc, xz) :: cs) ls (vI (lCmp p q) :: st) r :=
  go_if_lt (xa := 0) (fun h => kt ((lCmp_neg p q).mp h)) (fun h => kf (fun z => h ((lCmp_neg p q).mpr z)))
theorem go_lif_gt {mt : Nat → Nat × (Nat → List LI)} {d : Nat} {M : Nat → List LI} {σ : St} {cs : List LI} {ls : Ls} {st : List Vl} {r : St × List Vl} {xb xc : Nat} {xz : Int} {p q : BitVec 64} (kt : q.toInt < p.toInt → Gx mt d M σ (M xb) ls st r) (kf : ¬ q.toInt < p.toInt → Gx mt d M σ cs ls st r) : Gx mt d M σ ((37, 4, xb, xc, xz) :: cs) ls (vI (lCmp p q) :: st) r :=
  go_if_gt (xa := 0) (fun h => kt ((lCmp_pos p q).mp h)) (fun h => kf (fun z => h ((lCmp_pos p q).mpr z)))
theorem go_getIe {mt : Nat → Nat × (Nat → List LI)} {d : Nat} {M : Nat → List LI} {σ : St} {cs : List LI} {ls : Ls} {st : List Vl} {r : St × List Vl} {xa xb xc : Nat} {xz : Int} {q : Nat} {v : Int} (e : gI σ q xb = v) (k : Gx mt d M σ cs ls (vI v :: st) r) : Gx mt d M σ ((45, xa, xb, xc, xz) :: cs) ls (vR xa (some q) :: st) r := go_getI (e.symm ▸ k)
theorem go_getLe {mt : Nat → Nat × (Nat → List LI)} {d : Nat} {M : Nat → List LI} {σ : St} {cs : List LI} {ls : Ls} {st : List Vl} {r : St × List Vl} {xa xb xc : Nat} {xz : Int} {q : Nat} {v : BitVec 64} (e : gL σ q xb = v) (k : Gx mt d M σ cs ls (vL v :: st) r) : Gx mt d M σ ((46, xa, xb, xc, xz) :: cs) ls (vR xa (some q) :: st) r := go_getL (e.symm ▸ k)
theorem go_ialde {mt : Nat → Nat × (Nat → List LI)} {d : Nat} {M : Nat → List LI} {σ : St} {cs : List LI} {ls : Ls} {st : List Vl} {r : St × List Vl} {xa xb xc : Nat} {xz : Int} {q : Nat} {i v : Int} (h : 0 ≤ i ∧ i < (ln σ q : Int)) (e : gI σ q i.toNat = v) (k : Gx mt d M σ cs ls (vI v :: st) r) : Gx mt d M σ ((52, xa, xb, xc, xz) :: cs) ls (vI i :: vR 14 (some q) :: st) r := go_iald h (e.symm ▸ k)
theorem go_lalde {mt : Nat → Nat × (Nat → List LI)} {d : Nat} {M : Nat → List LI} {σ : St} {cs : List LI} {ls : Ls} {st : List Vl} {r : St × List Vl} {xa xb xc : Nat} {xz : Int} {q : Nat} {i : Int} {v : BitVec 64} (h : 0 ≤ i ∧ i < (ln σ q : Int)) (e : gL σ q i.toNat = v) (k : Gx mt d M σ cs ls (vL v :: st) r) : Gx mt d M σ ((53, xa, xb, xc, xz) :: cs) ls (vI i :: vR 15 (some q) :: st) r := go_lald h (e.symm ▸ k)
theorem go_balde {mt : Nat → Nat × (Nat → List LI)} {d : Nat} {M : Nat → List LI} {σ : St} {cs : List LI} {ls : Ls} {st : List Vl} {r : St × List Vl} {xa xb xc : Nat} {xz : Int} {q : Nat} {i v : Int} (h : 0 ≤ i ∧ i < (ln σ q : Int)) (e : gI σ q i.toNat = v) (k : Gx mt d M σ cs ls (vI v :: st) r) : Gx mt d M σ ((54, xa, xb, xc, xz) :: cs) ls (vI i :: vR 13 (some q) :: st) r := go_bald h (e.symm ▸ k)
theorem go_zalde {mt : Nat → Nat × (Nat → List LI)} {d : Nat} {M : Nat → List LI} {σ : St} {cs : List LI} {ls : Ls} {st : List Vl} {r : St × List Vl} {xa xb xc : Nat} {xz : Int} {q : Nat} {i v : Int} (h : 0 ≤ i ∧ i < (ln σ q : Int)) (e : gI σ q i.toNat = v) (k : Gx mt d M σ cs ls (vI v :: st) r) : Gx mt d M σ ((55, xa, xb, xc, xz) :: cs) ls (vI i :: vR 16 (some q) :: st) r := go_zald h (e.symm ▸ k)
theorem go_alene {mt : Nat → Nat × (Nat → List LI)} {d : Nat} {M : Nat → List LI} {σ : St} {cs : List LI} {ls : Ls} {st : List Vl} {r : St × List Vl} {xa xb xc : Nat} {xz : Int} {q t n : Nat} (e : ln σ q = n) (h : n < 2147483648) (ht : (decide (13 ≤ t) && decide (t ≤ 20)) = true) (k : Gx mt d M σ cs ls (vI n :: st) r) : Gx mt d M σ ((62, xa, xb, xc, xz) :: cs) ls (vR t (some q) :: st) r := by
  subst e
  exact go_alen (by omega) ht k
theorem inl_ {σ : St} {q n : Nat} {i : Int} (e : ln σ q = n) (h : 0 ≤ i ∧ i < (n : Int)) : 0 ≤ i ∧ i < (ln σ q : Int) := by
  subst e
  exact h
/-! a written state read -/
theorem gI_wI_s {σ : St} {a k : Nat} {v : Int} : gI (wI σ a k v) a k = v := up2_at
theorem gI_wI_i {σ : St} {a k j : Nat} {v : Int} (h : j ≠ k) : gI (wI σ a k v) a j = gI σ a j := up2_oth h
theorem gI_wI_a {σ : St} {a b k j : Nat} {v : Int} (h : b ≠ a) : gI (wI σ a k v) b j = gI σ b j := congrFun (up2_ne h) j
theorem gL_wL_s {σ : St} {a k : Nat} {v : BitVec 64} : gL (wL σ a k v) a k = v := up2_at
theorem gL_wL_i {σ : St} {a k j : Nat} {v : BitVec 64} (h : j ≠ k) : gL (wL σ a k v) a j = gL σ a j := up2_oth h
theorem gL_wL_a {σ : St} {a b k j : Nat} {v : BitVec 64} (h : b ≠ a) : gL (wL σ a k v) b j = gL σ b j := congrFun (up2_ne h) j
theorem gI_wI (σ : St) (a k b j : Nat) (v : Int) : gI (wI σ a k v) b j = if b = a ∧ j = k then v else gI σ b j := rfl
theorem gL_wL (σ : St) (a k b j : Nat) (v : BitVec 64) : gL (wL σ a k v) b j = if b = a ∧ j = k then v else gL σ b j := rfl
theorem gR_wR (σ : St) (a k b j : Nat) (v : Option Nat) : gR (wR σ a k v) b j = if b = a ∧ j = k then v else gR σ b j := rfl
/-! shifts and masks -/
def p2 (x : Int) : Int := 2 ^ x.toNat
theorem p2_nat (n : Nat) : p2 (n : Int) = 2 ^ n := rfl
theorem sm_lit : ∀ k : Nat, k < 32 → ((Int32.ofInt (k : Int) &&& 31).toBitVec.smod 32).toNat = k := by decide +kernel
theorem iShr_v {p k : Int} (hp : Rg p) (hk : 0 ≤ k ∧ k < 32) : iShr p k = p / p2 k := by
  obtain ⟨n, rfl⟩ := Int.eq_ofNat_of_zero_le hk.1
  unfold iShr
  rw [pk_shr _ _ n (sm_lit n (by omega)), rg_toInt hp, Int.shiftRight_eq_div_pow]
  rfl
theorem iShl_v {p k : Int} (hk : 0 ≤ k ∧ k < 32) (h : Rg (p * p2 k)) : iShl p k = p * p2 k := by
  obtain ⟨n, rfl⟩ := Int.eq_ofNat_of_zero_le hk.1
  unfold iShl
  rw [← rg_toInt h]
  congr 1
  rw [← Int32.toBitVec_inj]
  apply BitVec.eq_of_toNat_eq
  rw [pk_shl _ _ n (sm_lit n (by omega))]
  show (BitVec.ofInt 32 p).toNat * 2 ^ n % 2 ^ 32 = (BitVec.ofInt 32 (p * p2 n)).toNat
  rw [p2_nat, BitVec.ofInt_mul, show ((2 : Int) ^ n) = ((2 ^ n : Nat) : Int) from by rw [Int.natCast_pow]; rfl, BitVec.ofInt_natCast, BitVec.toNat_mul, BitVec.toNat_ofNat, Nat.mul_mod_mod]
theorem iShl_1 {k : Int} (hk : 0 ≤ k ∧ k < 31) : iShl 1 k = p2 k := by
  obtain ⟨n, rfl⟩ := Int.eq_ofNat_of_zero_le hk.1
  have : ∀ n : Nat, n < 31 → iShl 1 (n : Int) = p2 (n : Int) := by decide +kernel
  exact this n (by omega)
theorem iAnd_msk (p : Int) {k : Nat} (hk : k ≤ 30) (m : Int) (hm : (Int32.ofInt m).toBitVec.toNat = 2 ^ k - 1) (hm2 : m + 1 = 2 ^ k) : iAnd p m = p % (m + 1) := by
  unfold iAnd
  rw [pk_and _ k hm, hm2]
  have hlt : (Int32.ofInt p).toBitVec.toNat % 2 ^ k < 2 ^ k := Nat.mod_lt _ (Nat.pow_pos (by decide))
  have h31 : 2 ^ k ≤ 2 ^ 30 := Nat.pow_le_pow_right (by decide) hk
  rw [nI_toInt (by omega)]
  show (((BitVec.ofInt 32 p).toNat % 2 ^ k : Nat) : Int) = _
  rw [BitVec.toNat_ofInt, Int.natCast_emod, Int.toNat_of_nonneg (Int.emod_nonneg _ (by decide)), Int.natCast_pow, Int.natCast_pow]
  exact Int.emod_emod_of_dvd p ⟨((2 : Nat) : Int) ^ (32 - k), by rw [← Int.pow_add, Nat.add_sub_cancel' (by omega)]⟩
theorem iShr_1 {p : Int} (hp : Rg p) : iShr p 1 = p / 2 := iShr_v hp ⟨by decide, by decide⟩
theorem iShr_2 {p : Int} (hp : Rg p) : iShr p 2 = p / 4 := iShr_v hp ⟨by decide, by decide⟩
theorem iShr_3 {p : Int} (hp : Rg p) : iShr p 3 = p / 8 := iShr_v hp ⟨by decide, by decide⟩
theorem iShr_4 {p : Int} (hp : Rg p) : iShr p 4 = p / 16 := iShr_v hp ⟨by decide, by decide⟩
theorem iShr_5 {p : Int} (hp : Rg p) : iShr p 5 = p / 32 := iShr_v hp ⟨by decide, by decide⟩
theorem iShr_6 {p : Int} (hp : Rg p) : iShr p 6 = p / 64 := iShr_v hp ⟨by decide, by decide⟩
theorem iShr_7 {p : Int} (hp : Rg p) : iShr p 7 = p / 128 := iShr_v hp ⟨by decide, by decide⟩
theorem iShr_8 {p : Int} (hp : Rg p) : iShr p 8 = p / 256 := iShr_v hp ⟨by decide, by decide⟩
theorem iShl_1l {p : Int} (h : Rg (p * 2)) : iShl p 1 = p * 2 := iShl_v (k := 1) ⟨by decide, by decide⟩ h
theorem iShl_2 {p : Int} (h : Rg (p * 4)) : iShl p 2 = p * 4 := iShl_v (k := 2) ⟨by decide, by decide⟩ h
theorem iShl_3 {p : Int} (h : Rg (p * 8)) : iShl p 3 = p * 8 := iShl_v (k := 3) ⟨by decide, by decide⟩ h
theorem iShl_4 {p : Int} (h : Rg (p * 16)) : iShl p 4 = p * 16 := iShl_v (k := 4) ⟨by decide, by decide⟩ h
theorem iShl_6 {p : Int} (h : Rg (p * 64)) : iShl p 6 = p * 64 := iShl_v (k := 6) ⟨by decide, by decide⟩ h
theorem iShl_7 {p : Int} (h : Rg (p * 128)) : iShl p 7 = p * 128 := iShl_v (k := 7) ⟨by decide, by decide⟩ h
theorem iAnd_m1 (p : Int) : iAnd p 1 = p % 2 := iAnd_msk p (k := 1) (by decide) 1 (by decide) (by decide)
theorem iAnd_m3 (p : Int) : iAnd p 3 = p % 4 := iAnd_msk p (k := 2) (by decide) 3 (by decide) (by decide)
theorem iAnd_m7 (p : Int) : iAnd p 7 = p % 8 := iAnd_msk p (k := 3) (by decide) 7 (by decide) (by decide)
theorem iAnd_m15 (p : Int) : iAnd p 15 = p % 16 := iAnd_msk p (k := 4) (by decide) 15 (by decide) (by decide)
theorem iAnd_m31 (p : Int) : iAnd p 31 = p % 32 := iAnd_msk p (k := 5) (by decide) 31 (by decide) (by decide)
theorem iAnd_m63 (p : Int) : iAnd p 63 = p % 64 := iAnd_msk p (k := 6) (by decide) 63 (by decide) (by decide)
theorem iAnd_m127 (p : Int) : iAnd p 127 = p % 128 := iAnd_msk p (k := 7) (by decide) 127 (by decide) (by decide)
theorem iAnd_m255 (p : Int) : iAnd p 255 = p % 256 := iAnd_msk p (k := 8) (by decide) 255 (by decide) (by decide)
theorem iXor_m1 {p : Int} (h : Rg p) : iXor p (-1) = -1 - p := by
  unfold iXor
  rw [show Int32.ofInt (-1) = -1 from rfl]
  rw [show Int32.ofInt p ^^^ (-1) = ~~~ Int32.ofInt p from by
    rw [← Int32.toBitVec_inj]
    show (Int32.ofInt p).toBitVec ^^^ BitVec.allOnes 32 = ~~~ (Int32.ofInt p).toBitVec
    rw [BitVec.xor_allOnes]]
  rw [Int32.toInt_not, rg_toInt h]
  have := h.1
  have := h.2
  first | omega | (rw [Int.bmod_eq_of_le_mul_two] <;> omega)
/-! longs -/
theorem sm_litL : ∀ k : Nat, k < 64 → ((Int32.ofInt (k : Int)).toInt64 &&& 63) = Int64.ofNat k := by decide +kernel
theorem lShl_v {p : BitVec 64} {k : Int} (hk : 0 ≤ k ∧ k < 64) : lShl p k = p <<< k.toNat := by
  obtain ⟨n, rfl⟩ := Int.eq_ofNat_of_zero_le hk.1
  have hn : n < 64 := by omega
  unfold lShl
  rw [sm_litL n hn]
  show p <<< ((Int64.ofNat n).toBitVec.smod 64).toNat = p <<< n
  rw [(by decide +kernel : ∀ n, n < 64 → ((Int64.ofNat n).toBitVec.smod 64).toNat = n) n hn]
theorem lShr_v {p : BitVec 64} {k : Int} (hk : 0 ≤ k ∧ k < 64) : lShr p k = p.sshiftRight k.toNat := by
  obtain ⟨n, rfl⟩ := Int.eq_ofNat_of_zero_le hk.1
  have hn : n < 64 := by omega
  unfold lShr
  rw [sm_litL n hn]
  show p.sshiftRight' ((Int64.ofNat n).toBitVec.smod 64) = p.sshiftRight n
  unfold BitVec.sshiftRight'
  rw [(by decide +kernel : ∀ n, n < 64 → ((Int64.ofNat n).toBitVec.smod 64).toNat = n) n hn]
theorem lUshr_v {p : BitVec 64} {k : Int} (hk : 0 ≤ k ∧ k < 64) : lUshr p k = p >>> k.toNat := by
  obtain ⟨n, rfl⟩ := Int.eq_ofNat_of_zero_le hk.1
  have hn : n < 64 := by omega
  unfold lUshr
  have e : ((Int32.ofInt (n : Int)).toInt64.toUInt64 &&& Int64.toUInt64 63) = UInt64.ofNat n := (by decide +kernel : ∀ n, n < 64 → ((Int32.ofInt ((n : Nat) : Int)).toInt64.toUInt64 &&& Int64.toUInt64 63) = UInt64.ofNat n) n hn
  rw [e]
  show p >>> ((UInt64.ofNat n).toBitVec % 64).toNat = p >>> n
  rw [(by decide +kernel : ∀ n, n < 64 → ((UInt64.ofNat n).toBitVec % (64 : BitVec 64)).toNat = n) n hn]
theorem gq_icmp_eq {mt : Nat → Nat × (Nat → List LI)} {d : Nat} {M : Nat → List LI} {σ : St} {cs : List LI} {ls : Ls} {st : List Vl} {r : St × List Vl} {xb xc : Nat} {xz : Int} {x y : Int} (kt : x = y → Gx mt d M σ (M xb) ls st r) (kf : ¬ x = y → Gx mt d M σ cs ls st r) : Gx mt d M σ ((36, 0, xb, xc, xz) :: cs) ls (vI y :: vI x :: st) r := go_icmp_eq (xa := 0) kt kf
theorem gq_if_eq {mt : Nat → Nat × (Nat → List LI)} {d : Nat} {M : Nat → List LI} {σ : St} {cs : List LI} {ls : Ls} {st : List Vl} {r : St × List Vl} {xb xc : Nat} {xz : Int} {x : Int} (kt : x = 0 → Gx mt d M σ (M xb) ls st r) (kf : ¬ x = 0 → Gx mt d M σ cs ls st r) : Gx mt d M σ ((37, 0, xb, xc, xz) :: cs) ls (vI x :: st) r := go_if_eq (xa := 0) kt kf
theorem gq_icmp_ne {mt : Nat → Nat × (Nat → List LI)} {d : Nat} {M : Nat → List LI} {σ : St} {cs : List LI} {ls : Ls} {st : List Vl} {r : St × List Vl} {xb xc : Nat} {xz : Int} {x y : Int} (kt : ¬ x = y → Gx mt d M σ (M xb) ls st r) (kf : x = y → Gx mt d M σ cs ls st r) : Gx mt d M σ ((36, 1, xb, xc, xz) :: cs) ls (vI y :: vI x :: st) r := go_icmp_ne (xa := 0) kt kf
theorem gq_if_ne {mt : Nat → Nat × (Nat → List LI)} {d : Nat} {M : Nat → List LI} {σ : St} {cs : List LI} {ls : Ls} {st : List Vl} {r : St × List Vl} {xb xc : Nat} {xz : Int} {x : Int} (kt : ¬ x = 0 → Gx mt d M σ (M xb) ls st r) (kf : x = 0 → Gx mt d M σ cs ls st r) : Gx mt d M σ ((37, 1, xb, xc, xz) :: cs) ls (vI x :: st) r := go_if_ne (xa := 0) kt kf
theorem gq_icmp_lt {mt : Nat → Nat × (Nat → List LI)} {d : Nat} {M : Nat → List LI} {σ : St} {cs : List LI} {ls : Ls} {st : List Vl} {r : St × List Vl} {xb xc : Nat} {xz : Int} {x y : Int} (kt : x < y → Gx mt d M σ (M xb) ls st r) (kf : ¬ x < y → Gx mt d M σ cs ls st r) : Gx mt d M σ ((36, 2, xb, xc, xz) :: cs) ls (vI y :: vI x :: st) r := go_icmp_lt (xa := 0) kt kf
theorem gq_if_lt {mt : Nat → Nat × (Nat → List LI)} {d : Nat} {M : Nat → List LI} {σ : St} {cs : List LI} {ls : Ls} {st : List Vl} {r : St × List Vl} {xb xc : Nat} {xz : Int} {x : Int} (kt : x < 0 → Gx mt d M σ (M xb) ls st r) (kf : ¬ x < 0 → Gx mt d M σ cs ls st r) : Gx mt d M σ ((37, 2, xb, xc, xz) :: cs) ls (vI x :: st) r := go_if_lt (xa := 0) kt kf
theorem gq_icmp_ge {mt : Nat → Nat × (Nat → List LI)} {d : Nat} {M : Nat → List LI} {σ : St} {cs : List LI} {ls : Ls} {st : List Vl} {r : St × List Vl} {xb xc : Nat} {xz : Int} {x y : Int} (kt : y ≤ x → Gx mt d M σ (M xb) ls st r) (kf : ¬ y ≤ x → Gx mt d M σ cs ls st r) : Gx mt d M σ ((36, 3, xb, xc, xz) :: cs) ls (vI y :: vI x :: st) r := go_icmp_ge (xa := 0) kt kf
theorem gq_if_ge {mt : Nat → Nat × (Nat → List LI)} {d : Nat} {M : Nat → List LI} {σ : St} {cs : List LI} {ls : Ls} {st : List Vl} {r : St × List Vl} {xb xc : Nat} {xz : Int} {x : Int} (kt : 0 ≤ x → Gx mt d M σ (M xb) ls st r) (kf : ¬ 0 ≤ x → Gx mt d M σ cs ls st r) : Gx mt d M σ ((37, 3, xb, xc, xz) :: cs) ls (vI x :: st) r := go_if_ge (xa := 0) kt kf
theorem gq_icmp_gt {mt : Nat → Nat × (Nat → List LI)} {d : Nat} {M : Nat → List LI} {σ : St} {cs : List LI} {ls : Ls} {st : List Vl} {r : St × List Vl} {xb xc : Nat} {xz : Int} {x y : Int} (kt : y < x → Gx mt d M σ (M xb) ls st r) (kf : ¬ y < x → Gx mt d M σ cs ls st r) : Gx mt d M σ ((36, 4, xb, xc, xz) :: cs) ls (vI y :: vI x :: st) r := go_icmp_gt (xa := 0) kt kf
theorem gq_if_gt {mt : Nat → Nat × (Nat → List LI)} {d : Nat} {M : Nat → List LI} {σ : St} {cs : List LI} {ls : Ls} {st : List Vl} {r : St × List Vl} {xb xc : Nat} {xz : Int} {x : Int} (kt : 0 < x → Gx mt d M σ (M xb) ls st r) (kf : ¬ 0 < x → Gx mt d M σ cs ls st r) : Gx mt d M σ ((37, 4, xb, xc, xz) :: cs) ls (vI x :: st) r := go_if_gt (xa := 0) kt kf
theorem gq_icmp_le {mt : Nat → Nat × (Nat → List LI)} {d : Nat} {M : Nat → List LI} {σ : St} {cs : List LI} {ls : Ls} {st : List Vl} {r : St × List Vl} {xb xc : Nat} {xz : Int} {x y : Int} (kt : x ≤ y → Gx mt d M σ (M xb) ls st r) (kf : ¬ x ≤ y → Gx mt d M σ cs ls st r) : Gx mt d M σ ((36, 5, xb, xc, xz) :: cs) ls (vI y :: vI x :: st) r := go_icmp_le (xa := 0) kt kf
theorem gq_if_le {mt : Nat → Nat × (Nat → List LI)} {d : Nat} {M : Nat → List LI} {σ : St} {cs : List LI} {ls : Ls} {st : List Vl} {r : St × List Vl} {xb xc : Nat} {xz : Int} {x : Int} (kt : x ≤ 0 → Gx mt d M σ (M xb) ls st r) (kf : ¬ x ≤ 0 → Gx mt d M σ cs ls st r) : Gx mt d M σ ((37, 5, xb, xc, xz) :: cs) ls (vI x :: st) r := go_if_le (xa := 0) kt kf
theorem gq_retI {mt : Nat → Nat × (Nat → List LI)} {d : Nat} {M : Nat → List LI} {σ : St} {cs : List LI} {ls : Ls} {xb xc : Nat} {xz : Int} {v : Int} : Gx mt d M σ ((71, 0, xb, xc, xz) :: cs) ls [vI v] (σ, [vI v]) := Gx.ret rfl
theorem gq_retZ {mt : Nat → Nat × (Nat → List LI)} {d : Nat} {M : Nat → List LI} {σ : St} {cs : List LI} {ls : Ls} {xb xc : Nat} {xz : Int} {v : Int} (h : 0 ≤ v ∧ v ≤ 1) : Gx mt d M σ ((71, 1, xb, xc, xz) :: cs) ls [vI v] (σ, [vI v]) := go_retZ (xa := 0) (st := []) h
theorem gq_retL {mt : Nat → Nat × (Nat → List LI)} {d : Nat} {M : Nat → List LI} {σ : St} {cs : List LI} {ls : Ls} {xa xb xc : Nat} {xz : Int} {v : BitVec 64} : Gx mt d M σ ((72, xa, xb, xc, xz) :: cs) ls [vL v] (σ, [vL v]) := Gx.ret rfl
theorem gq_retA {mt : Nat → Nat × (Nat → List LI)} {d : Nat} {M : Nat → List LI} {σ : St} {cs : List LI} {ls : Ls} {xa xb xc : Nat} {xz : Int} {t : Nat} {v : Option Nat} : Gx mt d M σ ((73, xa, xb, xc, xz) :: cs) ls [vR t v] (σ, [vR t v]) := Gx.ret rfl
theorem gq_retV {mt : Nat → Nat × (Nat → List LI)} {d : Nat} {M : Nat → List LI} {σ : St} {cs : List LI} {ls : Ls} {xa xb xc : Nat} {xz : Int} : Gx mt d M σ ((74, xa, xb, xc, xz) :: cs) ls [] (σ, []) := Gx.ret rfl
