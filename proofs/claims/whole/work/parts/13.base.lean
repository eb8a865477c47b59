/-! SMALL RULES for the rewriting, and what each method is -/
theorem cc_0 : im_cc 0 = cX9_init := rfl
theorem cc_1 : im_cc 1 = cX8_init := rfl
theorem cc_2 : im_cc 2 = cX5_init := rfl
theorem cc_3 : im_cc 3 = cX2_init := rfl
theorem cc_4 : im_cc 4 = cX1_init := rfl
theorem cc_5 : im_cc 5 = cX6_init := rfl
theorem cc_6 : im_cc 6 = cX0_init := rfl
theorem cc_7 : im_cc 7 = cX3_init := rfl
theorem cc_8 : im_cc 8 = cX7_init := rfl
theorem cc_9 : im_cc 9 = cX4_init := rfl
theorem cc_10 : im_cc 10 = cX9_rain := rfl
theorem cc_11 : im_cc 11 = cX9_within := rfl
theorem cc_12 : im_cc 12 = cX9_fail := rfl
theorem cc_13 : im_cc 13 = cX5_rainAt := rfl
theorem cc_14 : im_cc 14 = cX5_putRain := rfl
theorem cc_15 : im_cc 15 = cX9_set := rfl
theorem cc_16 : im_cc 16 = cX8_maySet := rfl
theorem cc_17 : im_cc 17 = cX8_setting := rfl
theorem cc_18 : im_cc 18 = cX8_putSetting := rfl
theorem cc_19 : im_cc 19 = cX9_now := rfl
theorem cc_20 : im_cc 20 = cX8_reading := rfl
theorem cc_21 : im_cc 21 = cX8_flow := rfl
theorem cc_22 : im_cc 22 = cX8_hourOfDay := rfl
theorem cc_23 : im_cc 23 = cJ9_floorMod_7cf53 := rfl
theorem cc_24 : im_cc 24 = cX5_flowAt := rfl
theorem cc_25 : im_cc 25 = cX8_currentOf := rfl
theorem cc_26 : im_cc 26 = cJ9_max_7cf53 := rfl
theorem cc_27 : im_cc 27 = cX8_strikes := rfl
theorem cc_28 : im_cc 28 = cX8_strikesBy := rfl
theorem cc_29 : im_cc 29 = cX8_stands := rfl
theorem cc_30 : im_cc 30 = cX8_rung := rfl
theorem cc_31 : im_cc 31 = cX1_isText := rfl
theorem cc_32 : im_cc 32 = cX1_worth := rfl
theorem cc_33 : im_cc 33 = cX1_joined := rfl
theorem cc_34 : im_cc 34 = cX9_held := rfl
theorem cc_35 : im_cc 35 = cJ9_min_7cf53 := rfl
theorem cc_36 : im_cc 36 = cX8_noteOf := rfl
theorem cc_37 : im_cc 37 = cX9_led := rfl
theorem cc_38 : im_cc 38 = cX5_leading := rfl
theorem cc_39 : im_cc 39 = cX9_thing := rfl
theorem cc_40 : im_cc 40 = cX9_shows := rfl
theorem cc_41 : im_cc 41 = cX8_thingShows := rfl
theorem cc_42 : im_cc 42 = cX9_fisher := rfl
theorem cc_43 : im_cc 43 = cX0_begin := rfl
theorem cc_44 : im_cc 44 = cX0_turnInto := rfl
theorem cc_45 : im_cc 45 = cX9_ofFisher := rfl
theorem cc_46 : im_cc 46 = cX8_fisherAt := rfl
theorem cc_47 : im_cc 47 = cX8_trait := rfl
theorem cc_48 : im_cc 48 = cX8_hearsNow := rfl
theorem cc_49 : im_cc 49 = cX0_hearsIt := rfl
theorem cc_50 : im_cc 50 = cX8_bidNow := rfl
theorem cc_51 : im_cc 51 = cX2_above := rfl
theorem cc_52 : im_cc 52 = cX2_reduced := rfl
theorem cc_53 : im_cc 53 = cX2_below := rfl
theorem cc_54 : im_cc 54 = cX0_bidAt := rfl
theorem cc_55 : im_cc 55 = cX0_wish := rfl
theorem cc_56 : im_cc 56 = cX9_change := rfl
theorem cc_57 : im_cc 57 = cX9_become := rfl
theorem cc_58 : im_cc 58 = cX9_as := rfl
theorem cc_59 : im_cc 59 = cX0_isOf := rfl
theorem cc_60 : im_cc 60 = cX9_bids := rfl
theorem cc_61 : im_cc 61 = cX9_sell := rfl
theorem cc_62 : im_cc 62 = cX9_feed := rfl
theorem cc_63 : im_cc 63 = cX6_append := rfl
theorem cc_64 : im_cc 64 = cX9_text := rfl
theorem cc_65 : im_cc 65 = cX3_faultOf := rfl
theorem cc_66 : im_cc 66 = cX1_clear := rfl
theorem cc_67 : im_cc 67 = cX3_readOr := rfl
theorem cc_68 : im_cc 68 = cX3_readAnd := rfl
theorem cc_69 : im_cc 69 = cX3_readCompared := rfl
theorem cc_70 : im_cc 70 = cX3_readSum := rfl
theorem cc_71 : im_cc 71 = cX3_readProduct := rfl
theorem cc_72 : im_cc 72 = cX3_readUnit := rfl
theorem cc_73 : im_cc 73 = cX3_next := rfl
theorem cc_74 : im_cc 74 = cX6_byteAt := rfl
theorem cc_75 : im_cc 75 = cJ0_indexOf_0f7a4 := rfl
theorem cc_76 : im_cc 76 = cJ0_indexOf_7cf53 := rfl
theorem cc_77 : im_cc 77 = cJ0_isLatin1_aae02 := rfl
theorem cc_78 : im_cc 78 = cJ0_length_8abf5 := rfl
theorem cc_79 : im_cc 79 = cJ0_coder_7d493 := rfl
theorem cc_80 : im_cc 80 = cJ1_indexOf_4cfef := rfl
theorem cc_81 : im_cc 81 = cJ1_canEncode_9a6ad := rfl
theorem cc_82 : im_cc 82 = cJ1_indexOfChar_4cfef := rfl
theorem cc_83 : im_cc 83 = cJ2_indexOf_4cfef := rfl
theorem cc_84 : im_cc 84 = cJ2_indexOfChar_4cfef := rfl
theorem cc_85 : im_cc 85 = cJ2_checkBoundsBeginEnd_d044e := rfl
theorem cc_86 : im_cc 86 = cJ2_length_9d52b := rfl
theorem cc_87 : im_cc 87 = cJ0_checkBoundsBeginEnd_23922 := rfl
theorem cc_88 : im_cc 88 = cJ3_checkFromToIndex_8c36e := rfl
theorem cc_89 : im_cc 89 = cJ2_indexOfCharUnsafe_4cfef := rfl
theorem cc_90 : im_cc 90 = cJ2_getChar_3b067 := rfl
theorem cc_91 : im_cc 91 = cJ2_indexOfSupplementary_4cfef := rfl
theorem cc_92 : im_cc 92 = cJ11_isValidCodePoint_9a6ad := rfl
theorem cc_93 : im_cc 93 = cJ11_highSurrogate_5068e := rfl
theorem cc_94 : im_cc 94 = cJ11_lowSurrogate_5068e := rfl
theorem cc_95 : im_cc 95 = cX3_readNumber := rfl
theorem cc_96 : im_cc 96 = cX1_add := rfl
theorem cc_97 : im_cc 97 = cX3_readClosing := rfl
theorem cc_98 : im_cc 98 = cX1_copyOf := rfl
theorem cc_99 : im_cc 99 = cX9_law := rfl
theorem cc_100 : im_cc 100 = cX8_letOut := rfl
theorem cc_101 : im_cc 101 = cX9_hours := rfl
theorem cc_102 : im_cc 102 = cX9_passHours := rfl
theorem cc_103 : im_cc 103 = cX8_loosen := rfl
theorem cc_104 : im_cc 104 = cX8_passHour := rfl
theorem cc_105 : im_cc 105 = cX0_hark := rfl
theorem cc_106 : im_cc 106 = cX2_add := rfl
theorem cc_107 : im_cc 107 = cX9_loose := rfl
theorem cc_108 : im_cc 108 = cX9_then := rfl
theorem cc_109 : im_cc 109 = cX9_goAhead := rfl
theorem cc_110 : im_cc 110 = cX8_copyOf := rfl
theorem cc_111 : im_cc 111 = cX5_copyOf := rfl
theorem cc_112 : im_cc 112 = cX2_copyOf := rfl
theorem cc_113 : im_cc 113 = cX6_copyOf := rfl
theorem cc_114 : im_cc 114 = cX0_copyOf := rfl
theorem cc_115 : im_cc 115 = cX9_thenFisher := rfl
theorem cc_116 : im_cc 116 = cX9_falls := rfl
theorem cc_117 : im_cc 117 = cX9_book := rfl
theorem cc_118 : im_cc 118 = cX9_odds := rfl
theorem cc_119 : im_cc 119 = cX9_gateFor := rfl
theorem cc_120 : im_cc 120 = cX9_gateKeeps := rfl
theorem cc_121 : im_cc 121 = cX9_shown := rfl
theorem cc_122 : im_cc 122 = cX9_seed := rfl
theorem cc_123 : im_cc 123 = cX9_voice := rfl
theorem cc_124 : im_cc 124 = cX7_speak := rfl
theorem cc_125 : im_cc 125 = cX7_say := rfl
theorem cc_126 : im_cc 126 = cX7_bodyOf := rfl
theorem cc_127 : im_cc 127 = cX7_worked := rfl
theorem cc_128 : im_cc 128 = cX9_trace := rfl
theorem cc_129 : im_cc 129 = cX9_sheet := rfl
theorem cc_130 : im_cc 130 = cX9_sheetAt := rfl
theorem cc_131 : im_cc 131 = cX4_lay := rfl
theorem cc_132 : im_cc 132 = cJ7_fill_53178 := rfl
theorem cc_133 : im_cc 133 = cX9_put := rfl
theorem cc_134 : im_cc 134 = cX4_isMissing := rfl
theorem cc_135 : im_cc 135 = cX4_lowest := rfl
theorem cc_136 : im_cc 136 = cX9_move := rfl
theorem cc_137 : im_cc 137 = cX4_holds := rfl
theorem cc_138 : im_cc 138 = cX9_rains := rfl
theorem cc_139 : im_cc 139 = cX9_judge := rfl
theorem cc_140 : im_cc 140 = cX9_image := rfl
theorem cc_141 : im_cc 141 = cX9_restore := rfl
theorem cc_142 : im_cc 142 = cX9_tell := rfl
theorem cc_143 : im_cc 143 = cX9_check := rfl
theorem cc_144 : im_cc 144 = cX9_count := rfl
theorem cc_145 : im_cc 145 = cX8_heardOfAll := rfl
theorem cc_146 : im_cc 146 = cX8_pursesOfAll := rfl
theorem cc_147 : im_cc 147 = cX9_told := rfl
theorem cc_148 : im_cc 148 = cX10_init := rfl
theorem cc_149 : im_cc 149 = cX10_feed := rfl
theorem cc_150 : im_cc 150 = cX10_in := rfl
theorem cc_151 : im_cc 151 = cX10_finds := rfl
theorem cc_152 : im_cc 152 = cX10_text := rfl
theorem cc_153 : im_cc 153 = cX10_worked := rfl
theorem cc_154 : im_cc 154 = cX10_either := rfl
theorem cc_155 : im_cc 155 = cX10_both := rfl
theorem cc_156 : im_cc 156 = cX10_compared := rfl
theorem cc_157 : im_cc 157 = cX10_sum := rfl
theorem cc_158 : im_cc 158 = cX10_product := rfl
theorem cc_159 : im_cc 159 = cX10_unit := rfl
theorem cc_160 : im_cc 160 = cX10_here := rfl
theorem cc_161 : im_cc 161 = cX10_wrong := rfl
theorem cc_162 : im_cc 162 = cX10_takes := rfl
theorem cc_163 : im_cc 163 = cX10_nameOf := rfl
theorem cc_164 : im_cc 164 = cX10_law := rfl
theorem cc_165 : im_cc 165 = cX10_gives := rfl
theorem cc_166 : im_cc 166 = cX10_held := rfl
theorem cc_167 : im_cc 167 = cX10_lesser := rfl
theorem cc_168 : im_cc 168 = cX10_greater := rfl
theorem cc_169 : im_cc 169 = cX10_rain := rfl
theorem cc_170 : im_cc 170 = cX10_rainAt := rfl
theorem cc_171 : im_cc 171 = cX10_set := rfl
theorem cc_172 : im_cc 172 = cX10_now := rfl
theorem cc_173 : im_cc 173 = cX10_toldNow := rfl
theorem cc_174 : im_cc 174 = cX10_flowAt := rfl
theorem cc_175 : im_cc 175 = cX10_current := rfl
theorem cc_176 : im_cc 176 = cX10_strikes := rfl
theorem cc_177 : im_cc 177 = cX10_stands := rfl
theorem cc_178 : im_cc 178 = cX10_note := rfl
theorem cc_179 : im_cc 179 = cX10_led := rfl
theorem cc_180 : im_cc 180 = cX10_thing := rfl
theorem cc_181 : im_cc 181 = cX10_shows := rfl
theorem cc_182 : im_cc 182 = cX10_fisher := rfl
theorem cc_183 : im_cc 183 = cX10_becomes := rfl
theorem cc_184 : im_cc 184 = cX10_ofFisher := rfl
theorem cc_185 : im_cc 185 = cX10_isFisher := rfl
theorem cc_186 : im_cc 186 = cX10_toldOf := rfl
theorem cc_187 : im_cc 187 = cX10_of := rfl
theorem cc_188 : im_cc 188 = cX10_hears := rfl
theorem cc_189 : im_cc 189 = cX10_bidNow := rfl
theorem cc_190 : im_cc 190 = cX10_oddsOf := rfl
theorem cc_191 : im_cc 191 = cX10_common := rfl
theorem cc_192 : im_cc 192 = cX10_bidOf := rfl
theorem cc_193 : im_cc 193 = cX10_change := rfl
theorem cc_194 : im_cc 194 = cX10_become := rfl
theorem cc_195 : im_cc 195 = cX10_as := rfl
theorem cc_196 : im_cc 196 = cX10_above := rfl
theorem cc_197 : im_cc 197 = cX10_bids := rfl
theorem cc_198 : im_cc 198 = cX10_sell := rfl
theorem cc_199 : im_cc 199 = cX10_hours := rfl
theorem cc_200 : im_cc 200 = cX10_goes := rfl
theorem cc_201 : im_cc 201 = cX10_otherwise := rfl
theorem cc_202 : im_cc 202 = cX10_drawn := rfl
theorem cc_203 : im_cc 203 = cX10_goesBy := rfl
theorem cc_204 : im_cc 204 = cX10_heardBy := rfl
theorem cc_205 : im_cc 205 = cX10_loose := rfl
theorem cc_206 : im_cc 206 = cX10_then := rfl
theorem cc_207 : im_cc 207 = cX10_copies := rfl
theorem cc_208 : im_cc 208 = cX10_goesOn := rfl
theorem cc_209 : im_cc 209 = cX10_thenFisher := rfl
theorem cc_210 : im_cc 210 = cX10_falls := rfl
theorem cc_211 : im_cc 211 = cX10_book := rfl
theorem cc_212 : im_cc 212 = cX10_odds := rfl
theorem cc_213 : im_cc 213 = cX10_gateFor := rfl
theorem cc_214 : im_cc 214 = cX10_keeps := rfl
theorem cc_215 : im_cc 215 = cX10_shown := rfl
theorem cc_216 : im_cc 216 = cX10_seed := rfl
theorem cc_217 : im_cc 217 = cX10_voice := rfl
theorem cc_218 : im_cc 218 = cX10_own := rfl
theorem cc_219 : im_cc 219 = cX10_heard := rfl
theorem cc_220 : im_cc 220 = cX10_ran := rfl
theorem cc_221 : im_cc 221 = cX10_bid := rfl
theorem cc_222 : im_cc 222 = cX10_rows := rfl
theorem cc_223 : im_cc 223 = cX10_tells := rfl
theorem cc_224 : im_cc 224 = cX10_trace := rfl
theorem cc_225 : im_cc 225 = cX10_sheet := rfl
theorem cc_226 : im_cc 226 = cX10_isSheet := rfl
theorem cc_227 : im_cc 227 = cX10_put := rfl
theorem cc_228 : im_cc 228 = cX10_move := rfl
theorem cc_229 : im_cc 229 = cX10_rains := rfl
theorem cc_230 : im_cc 230 = cX10_judge := rfl
theorem cc_231 : im_cc 231 = cX10_image := rfl
theorem cc_232 : im_cc 232 = cX10_restore := rfl
theorem cc_233 : im_cc 233 = cX10_tell := rfl
theorem cc_234 : im_cc 234 = cX10_check := rfl
theorem cc_235 : im_cc 235 = cX10_count := rfl
theorem cc_236 : im_cc 236 = cX10_sumOf := rfl
theorem cc_237 : im_cc 237 = cX10_told := rfl
theorem cc_238 : im_cc 238 = cL_law := rfl
def bi (p : Prop) [Decidable p] : Int32 := if p then 1 else 0
theorem bi_0 {p : Prop} [Decidable p] : (bi p = 0) = ¬ p := by unfold bi; split <;> simp_all
theorem bi_n0 {p : Prop} [Decidable p] : (¬ bi p = 0) = p := by unfold bi; split <;> simp_all
theorem bi_nb {p : Prop} [Decidable p] : narrow .boolean (.int (bi p)) = .int (bi p) := by unfold bi; split <;> rfl
theorem nb_0 : narrow .boolean (.int 0) = .int 0 := rfl
theorem nb_1 : narrow .boolean (.int 1) = .int 1 := rfl
theorem bi_01 {p : Prop} [Decidable p] : bi p = 0 ∨ bi p = 1 := by unfold bi; split <;> simp
theorem bi_t {p : Prop} [Decidable p] (h : p) : bi p = 1 := by simp [bi, h]
theorem bi_f {p : Prop} [Decidable p] (h : ¬ p) : bi p = 0 := by simp [bi, h]
def isb (x : Int32) : Prop := x = 0 ∨ x = 1
theorem isb_0 : isb 0 = True := by simp [isb]
theorem isb_1 : isb 1 = True := by simp [isb]
theorem isb_bi {p : Prop} [Decidable p] : isb (bi p) = True := by simp [isb, bi_01]
theorem cs_nil : im_csum [] = 0 := rfl
theorem cs_i {x : Int32} {st : List Value} : im_csum (.int x :: st) = 1 + im_csum st := by simp [im_csum, Value.category]
theorem cs_r {x : Nat} {st : List Value} : im_csum (.ref x :: st) = 1 + im_csum st := by simp [im_csum, Value.category]
theorem cs_n {st : List Value} : im_csum (.null :: st) = 1 + im_csum st := by simp [im_csum, Value.category]
theorem cs_l {x : Int64} {st : List Value} : im_csum (.long x :: st) = 2 + im_csum st := by simp [im_csum, Value.category]
theorem al_nil : (im_al []).length = 0 := rfl
theorem al_i {x : Int32} {st : List Value} : (im_al (.int x :: st)).length = (im_al st).length + 1 := rfl
theorem al_r {x : Nat} {st : List Value} : (im_al (.ref x :: st)).length = (im_al st).length + 1 := rfl
theorem al_n {st : List Value} : (im_al (.null :: st)).length = (im_al st).length + 1 := rfl
theorem al_l {x : Int64} {st : List Value} : (im_al (.long x :: st)).length = (im_al st).length + 2 := rfl
theorem cl_i {x : Int32} : im_cl (some (.int x)) = some (.int x) := rfl
theorem cl_r {x : Nat} : im_cl (some (.ref x)) = some (.ref x) := rfl
theorem cl_n : im_cl (some .null) = some .null := rfl
theorem cl_0 : im_cl none = none := rfl
theorem cl_l {x : Int64} : im_cl (some (.long x)) = none := rfl
theorem ct_i {x : Int32} : Value.category (.int x) = 1 := rfl
theorem ct_r {x : Nat} : Value.category (.ref x) = 1 := rfl
theorem ct_n : Value.category .null = 1 := rfl
theorem up_s {σ : Nat → Nat → Int32} {a k : Nat} {v : Int32} : up σ a k v a k = v := by simp [up]
theorem up_if {σ : Nat → Nat → Int32} {a k a' k' : Nat} {v : Int32} : up σ a k v a' k' = if a' = a ∧ k' = k then v else σ a' k' := rfl
theorem ro_1 (X : im_E) : im_ro X (im_RB + 1 - im_RB) = some (0, 28, im_BO) := by
  have e : im_RB + 1 - im_RB = 1 := by decide
  rw [e]; rfl
theorem ro_2 (X : im_E) : im_ro X (im_RB + 2 - im_RB) = some (0, X.1, X.2) := by
  have e : im_RB + 2 - im_RB = 2 := by decide
  rw [e]; rfl
section E13
variable {X : im_E} {d i pc q t : Nat} {ls lt : List (Option Value)} {st : List Value} {M : im_M} {σ : Nat → Nat → Int32} {Q : Option Value → im_M → Prop} {c : ByteArray}
theorem E_putZ {a x ci k : Nat} {v : Int32} (hc : im_cc i = c) (h : decode c pc = .ok (.putfield x, 3)) (hq : q = pc + 3) (hf : im_fl (im_ow i) x = some (ci, k, false)) (hk : isI ci k = true) (hty : im_ty ci k = .boolean) (hv : isb v) (ho : okc a ci = true) : Ev X d i pc ls (.int v :: .ref a :: st) (mem σ) Q = Ev X d i q ls st (mem (up σ a k v)) Q := E_putI hc h hq hf hk (Or.inr ⟨hty, hv⟩) ho
theorem E_zret {x : Int32} (hc : im_cc i = c) (h : decode c pc = .ok (.ireturn, 1)) (hr : im_rt i = some .boolean) (hb : isb x) : Ev X d i pc ls [.int x] M Q = Q (some (.int x)) M := E_zreturn hc h hr (Or.inl rfl) (by rcases hb with rfl | rfl <;> rfl)
theorem E_bret (hc : im_cc i = c) (h : decode c pc = .ok (.ireturn, 1)) (hr : im_rt i = some .byte) : Ev X d i pc ls [.int 0] M Q = Q (some (.int 0)) M := E_zreturn hc h hr (Or.inr (Or.inl rfl)) rfl
theorem E_tswD {dd lo hi : Int} {offs : Array Int} {len : Nat} {x : Int32} (hc : im_cc i = c) (h : decode c pc = .ok (.tableswitch dd lo hi offs, len)) (ht : (pc : Int) + dd = (t : Int)) (hx : x.toInt < lo ∨ hi < x.toInt) : Ev X d i pc ls (.int x :: st) M Q = Ev X d i t ls st M Q := E_tsw hc h (by rw [if_pos hx]) ht
theorem E_ro0 {j : Int32} (hc : im_cc i = c) (h : decode c pc = .ok (.iaload, 1)) (hq : q = pc + 1) (hj : inb j 7) : Ev X d i pc ls (.int j :: .ref im_RB :: st) M Q = Ev X d i q ls (.int (im_KA j.toNatClampNeg) :: st) M Q := E_ro hc h hq (Nat.le_refl _) rfl hj
theorem E_ro1 {j : Int32} (hc : im_cc i = c) (h : decode c pc = .ok (.iaload, 1)) (hq : q = pc + 1) (hj : inb j 28) : Ev X d i pc ls (.int j :: .ref (im_RB + 1) :: st) M Q = Ev X d i q ls (.int (im_BO j.toNatClampNeg) :: st) M Q := E_ro hc h hq (by decide) (ro_1 X) hj
theorem E_ro2 {j : Int32} (hc : im_cc i = c) (h : decode c pc = .ok (.iaload, 1)) (hq : q = pc + 1) (hj : inb j X.1) : Ev X d i pc ls (.int j :: .ref (im_RB + 2) :: st) M Q = Ev X d i q ls (.int (X.2 j.toNatClampNeg) :: st) M Q := E_ro hc h hq (by decide) (ro_2 X) hj
theorem E_cT0 {x j mx a : Nat} (hc : im_cc i = c) (h : decode c pc = .ok (.invokevirtual x, 3)) (hq : q = pc + 3) (hl : im_lk (im_ow i) x = some (1, j, 0)) (hj : j < 238) (hm : im_ml j = mx) (ho : im_ow j = 13) (ha : (im_al []).length + 1 ≤ mx) (h1 : 1006 ≤ a) (h2 : a < 1009) (hs : im_csum st ≤ 8) : Ev X (d + 1) i pc ls (.ref a :: st) M Q = Ev X d j 0 (im_ent mx [.ref a]) [] M (fun v M2 => Ev X (d + 1) i q ls (v.toList ++ st) M2 Q) :=
  E_callV0 hc h hq hl hj hm ho hs ha (Or.inr ⟨h1, h2, rfl⟩)
theorem E_cT1 {v0 : Value} {x j mx a : Nat} (hc : im_cc i = c) (h : decode c pc = .ok (.invokevirtual x, 3)) (hq : q = pc + 3) (hl : im_lk (im_ow i) x = some (1, j, 1)) (hj : j < 238) (hm : im_ml j = mx) (ho : im_ow j = 13) (ha : (im_al [v0]).length + 1 ≤ mx) (h1 : 1006 ≤ a) (h2 : a < 1009) (hs : im_csum st ≤ 8) : Ev X (d + 1) i pc ls (v0 :: .ref a :: st) M Q = Ev X d j 0 (im_ent mx [.ref a, v0]) [] M (fun v M2 => Ev X (d + 1) i q ls (v.toList ++ st) M2 Q) :=
  E_callV1 hc h hq hl hj hm ho hs ha (Or.inr ⟨h1, h2, rfl⟩)
theorem E_cT2 {v0 v1 : Value} {x j mx a : Nat} (hc : im_cc i = c) (h : decode c pc = .ok (.invokevirtual x, 3)) (hq : q = pc + 3) (hl : im_lk (im_ow i) x = some (1, j, 2)) (hj : j < 238) (hm : im_ml j = mx) (ho : im_ow j = 13) (ha : (im_al [v0, v1]).length + 1 ≤ mx) (h1 : 1006 ≤ a) (h2 : a < 1009) (hs : im_csum st ≤ 8) : Ev X (d + 1) i pc ls (v1 :: v0 :: .ref a :: st) M Q = Ev X d j 0 (im_ent mx [.ref a, v0, v1]) [] M (fun v M2 => Ev X (d + 1) i q ls (v.toList ++ st) M2 Q) :=
  E_callV2 hc h hq hl hj hm ho hs ha (Or.inr ⟨h1, h2, rfl⟩)
end E13
