/-! ===== every entry of the tables is what the class files say ===== -/
def zNm_copy : MethodName := ⟨"java/lang/System", "arraycopy", "(Ljava/lang/Object;ILjava/lang/Object;II)V"⟩
def zNm_charAt : MethodName := ⟨"java/lang/String", "charAt", "(I)C"⟩
def zNm_length : MethodName := ⟨"java/lang/String", "length", "()I"⟩
def okw (z : Nat) (w : Jvm.Cond) : Bool := decide (lw_tbl[z]? = some w)
def okcall (mi idx x y z : Nat) : Bool :=
  decide (x < zNM ∧ zmH x + 1 ≤ zmH mi ∧ 8 + (zmL x + 11) + zmW x ≤ zmW mi) &&
  (if y < 3 then okw z (.methodLink (zcN (zmK mi)) idx (zmY x)) else okw z (.methodLinkNest (zcN (zmK mi)) idx (zmY x) "ChalkRoom"))
def okI (mi pc : Nat) (I : Instr) (len x y z : Nat) (c : Int) : Bool := match I with
  | .iconst _ => len == 1
  | .bipush n => len == 2 && decide (-128 ≤ n ∧ n ≤ 127)
  | .sipush n => len == 3 && decide (-32768 ≤ n ∧ n ≤ 32767)
  | .lconst _ => len == 1
  | .ldc idx => len == 2 && (if x = 0 then okw z (.constant (zcN (zmK mi)) idx (Int32.ofInt c)) else if x = 2000 then decide (zcN (zmK mi) = "ChalkRoom$Tokens" ∧ idx = 54) else decide (zcN (zmK mi) = "ChalkRoomModel" ∧ idx = 183))
  | .ldc_w idx => len == 3 && okw z (.constant (zcN (zmK mi)) idx (Int32.ofInt c))
  | .ldc2_w idx => len == 3 && okw z (.constantLong (zcN (zmK mi)) idx (Int64.ofInt c))
  | .iload _ => len == 2
  | .iload_n _ => len == 1
  | .lload _ => len == 2
  | .lload_n _ => len == 1
  | .aload _ => len == 2
  | .aload_n _ => len == 1
  | .istore _ => len == 2
  | .istore_n _ => len == 1
  | .lstore _ => len == 2
  | .lstore_n _ => len == 1
  | .astore_n _ => len == 1
  | .iinc _ n => len == 3 && decide (-128 ≤ n ∧ n ≤ 127)
  | .getfield idx => len == 3 && decide (x < 13 ∧ y < zfN x) && okw z (.fieldLink (zcN (zmK mi)) idx (zTX x y).1 (zTX x y).2.1 (zTX x y).2.2.1)
  | .putfield idx => len == 3 && decide (x < 13 ∧ y < zfN x) && okw z (.fieldLink (zcN (zmK mi)) idx (zTX x y).1 (zTX x y).2.1 (zTX x y).2.2.1)
  | .invokevirtual idx => len == 3 && (if x < 1000 then okcall mi idx x y z && decide (y = 0) && zmS x == false && zmI x == false
      else if x = 1002 then okw z (.methodLink (zcN (zmK mi)) idx zNm_charAt) && decide (4 ≤ zmH mi ∧ 85 ≤ zmW mi)
      else decide (x = 1003) && okw z (.methodLink (zcN (zmK mi)) idx zNm_length) && decide (2 ≤ zmH mi ∧ 40 ≤ zmW mi))
  | .invokestatic idx => len == 3 && (if x < 1000 then okcall mi idx x y z && decide (y = 1 ∨ y = 4) && zmS x == true
      else decide (x = 1000) && okw z (.methodLink (zcN (zmK mi)) idx zNm_copy) && decide (1 ≤ zmH mi ∧ 26 ≤ zmW mi))
  | .invokespecial idx => len == 3 && (if x < 1000 then okcall mi idx x y z && decide (y = 2 ∨ y = 5) && zmI x == true && zmS x == false
      else decide (x = 1001) && okw z (.methodLink (zcN (zmK mi)) idx objectInit) && decide (1 ≤ zmH mi ∧ 20 ≤ zmW mi))
  | .new idx => len == 3 && decide (x < 13) && okw z (.classLink (zcN (zmK mi)) idx (zcN x))
  | .anewarray idx => len == 3 && decide (x = 3 ∨ x = 7) && okw z (.classLink (zcN (zmK mi)) idx (zcN x))
  | .newarray _ => len == 2
  | .goto off => len == 3 && decide (0 ≤ (pc : Int) + off)
  | .ifCond _ off => len == 3 && decide (0 ≤ (pc : Int) + off)
  | .if_icmp _ off => len == 3 && decide (0 ≤ (pc : Int) + off)
  | .tableswitch d _ _ offs => decide (0 ≤ (pc : Int) + d) && offs.toList.all (fun o => decide (0 ≤ (pc : Int) + o))
  | .lookupswitch d ps => decide (0 ≤ (pc : Int) + d) && ps.toList.all (fun o => decide (0 ≤ (pc : Int) + o.2)) && (ps.toList.zip (ps.toList.drop 1)).all (fun (a, next) => a.1 < next.1)
  | _ => len == 1
def okE (mi pc : Nat) : Bool := match zfetch mi pc with
  | none => true
  | some (I, len, x, y, z, c) => decide (decode (zmC mi) pc = .ok (I, len)) && okI mi pc I len x y z c
def okM (mi : Nat) : Bool := (List.range (zln mi)).all (okE mi)
/-- the words of a method -/
def okY (i : Nat) : Bool :=
  (if i = 380 then true else okw (zpC i) (.code (zmY i) (zmC i) (zmL i) (zmR i)) && (if zmS i then okw (zpI i) (.static (zmY i)) else okw (zpI i) (.instanceMethod (zmY i))) && (if zmS i || zmI i then true else okw (zpS i) (.selects (zcN (zmK i)) (zmY i) (zmY i)))) &&
  okw (zpN i) (.initialized (zmY i).cls) && decide ((zmY i).cls = zcN (zmK i)) && plainName (zmY i).cls && decide ((zmY i).cls ≠ "java/lang/invoke/MethodHandle") && decide ((zmY i).cls ≠ "java/lang/invoke/VarHandle") &&
  decide ((parseMethodDescriptor (zmY i).desc).map (fun d => d.parameters.length) = some (if zmS i then zmA i else zmA i - 1)) && decide (0 < zmA i ∨ zmS i = true) &&
  decide ((zmI i = true) ↔ (zmY i).name = "<init>") && decide (zmR i = if zmT i = 0 then none else if zmT i = 1 then some .int else if zmT i = 2 then some .long else some .boolean) && decide (zmT i ≤ 3)
theorem okM_0 : okM 0 = true := by decide +kernel
theorem okM_1 : okM 1 = true := by decide +kernel
theorem okM_2 : okM 2 = true := by decide +kernel
theorem okM_3 : okM 3 = true := by decide +kernel
theorem okM_4 : okM 4 = true := by decide +kernel
theorem okM_5 : okM 5 = true := by decide +kernel
theorem okM_6 : okM 6 = true := by decide +kernel
theorem okM_7 : okM 7 = true := by decide +kernel
theorem okM_8 : okM 8 = true := by decide +kernel
theorem okM_9 : okM 9 = true := by decide +kernel
theorem okM_10 : okM 10 = true := by decide +kernel
theorem okM_11 : okM 11 = true := by decide +kernel
theorem okM_12 : okM 12 = true := by decide +kernel
theorem okM_13 : okM 13 = true := by decide +kernel
theorem okM_14 : okM 14 = true := by decide +kernel
theorem okM_15 : okM 15 = true := by decide +kernel
theorem okM_16 : okM 16 = true := by decide +kernel
theorem okM_17 : okM 17 = true := by decide +kernel
theorem okM_18 : okM 18 = true := by decide +kernel
theorem okM_19 : okM 19 = true := by decide +kernel
theorem okM_20 : okM 20 = true := by decide +kernel
theorem okM_21 : okM 21 = true := by decide +kernel
theorem okM_22 : okM 22 = true := by decide +kernel
theorem okM_23 : okM 23 = true := by decide +kernel
theorem okM_24 : okM 24 = true := by decide +kernel
theorem okM_25 : okM 25 = true := by decide +kernel
theorem okM_26 : okM 26 = true := by decide +kernel
theorem okM_27 : okM 27 = true := by decide +kernel
theorem okM_28 : okM 28 = true := by decide +kernel
theorem okM_29 : okM 29 = true := by decide +kernel
theorem okM_30 : okM 30 = true := by decide +kernel
theorem okM_31 : okM 31 = true := by decide +kernel
theorem okM_32 : okM 32 = true := by decide +kernel
theorem okM_33 : okM 33 = true := by decide +kernel
theorem okM_34 : okM 34 = true := by decide +kernel
theorem okM_35 : okM 35 = true := by decide +kernel
theorem okM_36 : okM 36 = true := by decide +kernel
theorem okM_37 : okM 37 = true := by decide +kernel
theorem okM_38 : okM 38 = true := by decide +kernel
theorem okM_39 : okM 39 = true := by decide +kernel
theorem okM_40 : okM 40 = true := by decide +kernel
theorem okM_41 : okM 41 = true := by decide +kernel
theorem okM_42 : okM 42 = true := by decide +kernel
theorem okM_43 : okM 43 = true := by decide +kernel
theorem okM_44 : okM 44 = true := by decide +kernel
theorem okM_45 : okM 45 = true := by decide +kernel
theorem okM_46 : okM 46 = true := by decide +kernel
theorem okM_47 : okM 47 = true := by decide +kernel
theorem okM_48 : okM 48 = true := by decide +kernel
theorem okM_49 : okM 49 = true := by decide +kernel
theorem okM_50 : okM 50 = true := by decide +kernel
theorem okM_51 : okM 51 = true := by decide +kernel
theorem okM_52 : okM 52 = true := by decide +kernel
theorem okM_53 : okM 53 = true := by decide +kernel
theorem okM_54 : okM 54 = true := by decide +kernel
theorem okM_55 : okM 55 = true := by decide +kernel
theorem okM_56 : okM 56 = true := by decide +kernel
theorem okM_57 : okM 57 = true := by decide +kernel
theorem okM_58 : okM 58 = true := by decide +kernel
theorem okM_59 : okM 59 = true := by decide +kernel
theorem okM_60 : okM 60 = true := by decide +kernel
theorem okM_61 : okM 61 = true := by decide +kernel
theorem okM_62 : okM 62 = true := by decide +kernel
theorem okM_63 : okM 63 = true := by decide +kernel
theorem okM_64 : okM 64 = true := by decide +kernel
theorem okM_65 : okM 65 = true := by decide +kernel
theorem okM_66 : okM 66 = true := by decide +kernel
theorem okM_67 : okM 67 = true := by decide +kernel
theorem okM_68 : okM 68 = true := by decide +kernel
theorem okM_69 : okM 69 = true := by decide +kernel
theorem okM_70 : okM 70 = true := by decide +kernel
theorem okM_71 : okM 71 = true := by decide +kernel
theorem okM_72 : okM 72 = true := by decide +kernel
theorem okM_73 : okM 73 = true := by decide +kernel
theorem okM_74 : okM 74 = true := by decide +kernel
theorem okM_75 : okM 75 = true := by decide +kernel
theorem okM_76 : okM 76 = true := by decide +kernel
theorem okM_77 : okM 77 = true := by decide +kernel
theorem okM_78 : okM 78 = true := by decide +kernel
theorem okM_79 : okM 79 = true := by decide +kernel
theorem okM_80 : okM 80 = true := by decide +kernel
theorem okM_81 : okM 81 = true := by decide +kernel
theorem okM_82 : okM 82 = true := by decide +kernel
theorem okM_83 : okM 83 = true := by decide +kernel
theorem okM_84 : okM 84 = true := by decide +kernel
theorem okM_85 : okM 85 = true := by decide +kernel
theorem okM_86 : okM 86 = true := by decide +kernel
theorem okM_87 : okM 87 = true := by decide +kernel
theorem okM_88 : okM 88 = true := by decide +kernel
theorem okM_89 : okM 89 = true := by decide +kernel
theorem okM_90 : okM 90 = true := by decide +kernel
theorem okM_91 : okM 91 = true := by decide +kernel
theorem okM_92 : okM 92 = true := by decide +kernel
theorem okM_93 : okM 93 = true := by decide +kernel
theorem okM_94 : okM 94 = true := by decide +kernel
theorem okM_95 : okM 95 = true := by decide +kernel
theorem okM_96 : okM 96 = true := by decide +kernel
theorem okM_97 : okM 97 = true := by decide +kernel
theorem okM_98 : okM 98 = true := by decide +kernel
theorem okM_99 : okM 99 = true := by decide +kernel
theorem okM_100 : okM 100 = true := by decide +kernel
theorem okM_101 : okM 101 = true := by decide +kernel
theorem okM_102 : okM 102 = true := by decide +kernel
theorem okM_103 : okM 103 = true := by decide +kernel
theorem okM_104 : okM 104 = true := by decide +kernel
theorem okM_105 : okM 105 = true := by decide +kernel
theorem okM_106 : okM 106 = true := by decide +kernel
theorem okM_107 : okM 107 = true := by decide +kernel
theorem okM_108 : okM 108 = true := by decide +kernel
theorem okM_109 : okM 109 = true := by decide +kernel
theorem okM_110 : okM 110 = true := by decide +kernel
theorem okM_111 : okM 111 = true := by decide +kernel
theorem okM_112 : okM 112 = true := by decide +kernel
theorem okM_113 : okM 113 = true := by decide +kernel
theorem okM_114 : okM 114 = true := by decide +kernel
theorem okM_115 : okM 115 = true := by decide +kernel
theorem okM_116 : okM 116 = true := by decide +kernel
theorem okM_117 : okM 117 = true := by decide +kernel
theorem okM_118 : okM 118 = true := by decide +kernel
theorem okM_119 : okM 119 = true := by decide +kernel
theorem okM_120 : okM 120 = true := by decide +kernel
theorem okM_121 : okM 121 = true := by decide +kernel
theorem okM_122 : okM 122 = true := by decide +kernel
theorem okM_123 : okM 123 = true := by decide +kernel
theorem okM_124 : okM 124 = true := by decide +kernel
theorem okM_125 : okM 125 = true := by decide +kernel
theorem okM_126 : okM 126 = true := by decide +kernel
theorem okM_127 : okM 127 = true := by decide +kernel
theorem okM_128 : okM 128 = true := by decide +kernel
theorem okM_129 : okM 129 = true := by decide +kernel
theorem okM_130 : okM 130 = true := by decide +kernel
theorem okM_131 : okM 131 = true := by decide +kernel
theorem okM_132 : okM 132 = true := by decide +kernel
theorem okM_133 : okM 133 = true := by decide +kernel
theorem okM_134 : okM 134 = true := by decide +kernel
theorem okM_135 : okM 135 = true := by decide +kernel
theorem okM_136 : okM 136 = true := by decide +kernel
theorem okM_137 : okM 137 = true := by decide +kernel
theorem okM_138 : okM 138 = true := by decide +kernel
theorem okM_139 : okM 139 = true := by decide +kernel
theorem okM_140 : okM 140 = true := by decide +kernel
theorem okM_141 : okM 141 = true := by decide +kernel
theorem okM_142 : okM 142 = true := by decide +kernel
theorem okM_143 : okM 143 = true := by decide +kernel
theorem okM_144 : okM 144 = true := by decide +kernel
theorem okM_145 : okM 145 = true := by decide +kernel
theorem okM_146 : okM 146 = true := by decide +kernel
theorem okM_147 : okM 147 = true := by decide +kernel
theorem okM_148 : okM 148 = true := by decide +kernel
theorem okM_149 : okM 149 = true := by decide +kernel
theorem okM_150 : okM 150 = true := by decide +kernel
theorem okM_151 : okM 151 = true := by decide +kernel
theorem okM_152 : okM 152 = true := by decide +kernel
theorem okM_153 : okM 153 = true := by decide +kernel
theorem okM_154 : okM 154 = true := by decide +kernel
theorem okM_155 : okM 155 = true := by decide +kernel
theorem okM_156 : okM 156 = true := by decide +kernel
theorem okM_157 : okM 157 = true := by decide +kernel
theorem okM_158 : okM 158 = true := by decide +kernel
theorem okM_159 : okM 159 = true := by decide +kernel
theorem okM_160 : okM 160 = true := by decide +kernel
theorem okM_161 : okM 161 = true := by decide +kernel
theorem okM_162 : okM 162 = true := by decide +kernel
theorem okM_163 : okM 163 = true := by decide +kernel
theorem okM_164 : okM 164 = true := by decide +kernel
theorem okM_165 : okM 165 = true := by decide +kernel
theorem okM_166 : okM 166 = true := by decide +kernel
theorem okM_167 : okM 167 = true := by decide +kernel
theorem okM_168 : okM 168 = true := by decide +kernel
theorem okM_169 : okM 169 = true := by decide +kernel
theorem okM_170 : okM 170 = true := by decide +kernel
theorem okM_171 : okM 171 = true := by decide +kernel
theorem okM_172 : okM 172 = true := by decide +kernel
theorem okM_173 : okM 173 = true := by decide +kernel
theorem okM_174 : okM 174 = true := by decide +kernel
theorem okM_175 : okM 175 = true := by decide +kernel
theorem okM_176 : okM 176 = true := by decide +kernel
theorem okM_177 : okM 177 = true := by decide +kernel
theorem okM_178 : okM 178 = true := by decide +kernel
theorem okM_179 : okM 179 = true := by decide +kernel
theorem okM_180 : okM 180 = true := by decide +kernel
theorem okM_181 : okM 181 = true := by decide +kernel
theorem okM_182 : okM 182 = true := by decide +kernel
theorem okM_183 : okM 183 = true := by decide +kernel
theorem okM_184 : okM 184 = true := by decide +kernel
theorem okM_185 : okM 185 = true := by decide +kernel
theorem okM_186 : okM 186 = true := by decide +kernel
theorem okM_187 : okM 187 = true := by decide +kernel
theorem okM_188 : okM 188 = true := by decide +kernel
theorem okM_189 : okM 189 = true := by decide +kernel
theorem okM_190 : okM 190 = true := by decide +kernel
theorem okM_191 : okM 191 = true := by decide +kernel
theorem okM_192 : okM 192 = true := by decide +kernel
theorem okM_193 : okM 193 = true := by decide +kernel
theorem okM_194 : okM 194 = true := by decide +kernel
theorem okM_195 : okM 195 = true := by decide +kernel
theorem okM_196 : okM 196 = true := by decide +kernel
theorem okM_197 : okM 197 = true := by decide +kernel
theorem okM_198 : okM 198 = true := by decide +kernel
theorem okM_199 : okM 199 = true := by decide +kernel
theorem okM_200 : okM 200 = true := by decide +kernel
theorem okM_201 : okM 201 = true := by decide +kernel
theorem okM_202 : okM 202 = true := by decide +kernel
theorem okM_203 : okM 203 = true := by decide +kernel
theorem okM_204 : okM 204 = true := by decide +kernel
theorem okM_205 : okM 205 = true := by decide +kernel
theorem okM_206 : okM 206 = true := by decide +kernel
theorem okM_207 : okM 207 = true := by decide +kernel
theorem okM_208 : okM 208 = true := by decide +kernel
theorem okM_209 : okM 209 = true := by decide +kernel
theorem okM_210 : okM 210 = true := by decide +kernel
theorem okM_211 : okM 211 = true := by decide +kernel
theorem okM_212 : okM 212 = true := by decide +kernel
theorem okM_213 : okM 213 = true := by decide +kernel
theorem okM_214 : okM 214 = true := by decide +kernel
theorem okM_215 : okM 215 = true := by decide +kernel
theorem okM_216 : okM 216 = true := by decide +kernel
theorem okM_217 : okM 217 = true := by decide +kernel
theorem okM_218 : okM 218 = true := by decide +kernel
theorem okM_219 : okM 219 = true := by decide +kernel
theorem okM_220 : okM 220 = true := by decide +kernel
theorem okM_221 : okM 221 = true := by decide +kernel
theorem okM_222 : okM 222 = true := by decide +kernel
theorem okM_223 : okM 223 = true := by decide +kernel
theorem okM_224 : okM 224 = true := by decide +kernel
theorem okM_225 : okM 225 = true := by decide +kernel
theorem okM_226 : okM 226 = true := by decide +kernel
theorem okM_227 : okM 227 = true := by decide +kernel
theorem okM_228 : okM 228 = true := by decide +kernel
theorem okM_229 : okM 229 = true := by decide +kernel
theorem okM_230 : okM 230 = true := by decide +kernel
theorem okM_231 : okM 231 = true := by decide +kernel
theorem okM_232 : okM 232 = true := by decide +kernel
theorem okM_233 : okM 233 = true := by decide +kernel
theorem okM_234 : okM 234 = true := by decide +kernel
theorem okM_235 : okM 235 = true := by decide +kernel
theorem okM_236 : okM 236 = true := by decide +kernel
theorem okM_237 : okM 237 = true := by decide +kernel
theorem okM_238 : okM 238 = true := by decide +kernel
theorem okM_239 : okM 239 = true := by decide +kernel
theorem okM_240 : okM 240 = true := by decide +kernel
theorem okM_241 : okM 241 = true := by decide +kernel
theorem okM_242 : okM 242 = true := by decide +kernel
theorem okM_243 : okM 243 = true := by decide +kernel
theorem okM_244 : okM 244 = true := by decide +kernel
theorem okM_245 : okM 245 = true := by decide +kernel
theorem okM_246 : okM 246 = true := by decide +kernel
theorem okM_247 : okM 247 = true := by decide +kernel
theorem okM_248 : okM 248 = true := by decide +kernel
theorem okM_249 : okM 249 = true := by decide +kernel
theorem okM_250 : okM 250 = true := by decide +kernel
theorem okM_251 : okM 251 = true := by decide +kernel
theorem okM_252 : okM 252 = true := by decide +kernel
theorem okM_253 : okM 253 = true := by decide +kernel
theorem okM_254 : okM 254 = true := by decide +kernel
theorem okM_255 : okM 255 = true := by decide +kernel
theorem okM_256 : okM 256 = true := by decide +kernel
theorem okM_257 : okM 257 = true := by decide +kernel
theorem okM_258 : okM 258 = true := by decide +kernel
theorem okM_259 : okM 259 = true := by decide +kernel
theorem okM_260 : okM 260 = true := by decide +kernel
theorem okM_261 : okM 261 = true := by decide +kernel
theorem okM_262 : okM 262 = true := by decide +kernel
theorem okM_263 : okM 263 = true := by decide +kernel
theorem okM_264 : okM 264 = true := by decide +kernel
theorem okM_265 : okM 265 = true := by decide +kernel
theorem okM_266 : okM 266 = true := by decide +kernel
theorem okM_267 : okM 267 = true := by decide +kernel
theorem okM_268 : okM 268 = true := by decide +kernel
theorem okM_269 : okM 269 = true := by decide +kernel
theorem okM_270 : okM 270 = true := by decide +kernel
theorem okM_271 : okM 271 = true := by decide +kernel
theorem okM_272 : okM 272 = true := by decide +kernel
theorem okM_273 : okM 273 = true := by decide +kernel
theorem okM_274 : okM 274 = true := by decide +kernel
theorem okM_275 : okM 275 = true := by decide +kernel
theorem okM_276 : okM 276 = true := by decide +kernel
theorem okM_277 : okM 277 = true := by decide +kernel
theorem okM_278 : okM 278 = true := by decide +kernel
theorem okM_279 : okM 279 = true := by decide +kernel
theorem okM_280 : okM 280 = true := by decide +kernel
theorem okM_281 : okM 281 = true := by decide +kernel
theorem okM_282 : okM 282 = true := by decide +kernel
theorem okM_283 : okM 283 = true := by decide +kernel
theorem okM_284 : okM 284 = true := by decide +kernel
theorem okM_285 : okM 285 = true := by decide +kernel
theorem okM_286 : okM 286 = true := by decide +kernel
theorem okM_287 : okM 287 = true := by decide +kernel
theorem okM_288 : okM 288 = true := by decide +kernel
theorem okM_289 : okM 289 = true := by decide +kernel
theorem okM_290 : okM 290 = true := by decide +kernel
theorem okM_291 : okM 291 = true := by decide +kernel
theorem okM_292 : okM 292 = true := by decide +kernel
theorem okM_293 : okM 293 = true := by decide +kernel
theorem okM_294 : okM 294 = true := by decide +kernel
theorem okM_295 : okM 295 = true := by decide +kernel
theorem okM_296 : okM 296 = true := by decide +kernel
theorem okM_297 : okM 297 = true := by decide +kernel
theorem okM_298 : okM 298 = true := by decide +kernel
theorem okM_299 : okM 299 = true := by decide +kernel
theorem okM_300 : okM 300 = true := by decide +kernel
theorem okM_301 : okM 301 = true := by decide +kernel
theorem okM_302 : okM 302 = true := by decide +kernel
theorem okM_303 : okM 303 = true := by decide +kernel
theorem okM_304 : okM 304 = true := by decide +kernel
theorem okM_305 : okM 305 = true := by decide +kernel
theorem okM_306 : okM 306 = true := by decide +kernel
theorem okM_307 : okM 307 = true := by decide +kernel
theorem okM_308 : okM 308 = true := by decide +kernel
theorem okM_309 : okM 309 = true := by decide +kernel
theorem okM_310 : okM 310 = true := by decide +kernel
theorem okM_311 : okM 311 = true := by decide +kernel
theorem okM_312 : okM 312 = true := by decide +kernel
theorem okM_313 : okM 313 = true := by decide +kernel
theorem okM_314 : okM 314 = true := by decide +kernel
theorem okM_315 : okM 315 = true := by decide +kernel
theorem okM_316 : okM 316 = true := by decide +kernel
theorem okM_317 : okM 317 = true := by decide +kernel
theorem okM_318 : okM 318 = true := by decide +kernel
theorem okM_319 : okM 319 = true := by decide +kernel
theorem okM_320 : okM 320 = true := by decide +kernel
theorem okM_321 : okM 321 = true := by decide +kernel
theorem okM_322 : okM 322 = true := by decide +kernel
theorem okM_323 : okM 323 = true := by decide +kernel
theorem okM_324 : okM 324 = true := by decide +kernel
theorem okM_325 : okM 325 = true := by decide +kernel
theorem okM_326 : okM 326 = true := by decide +kernel
theorem okM_327 : okM 327 = true := by decide +kernel
theorem okM_328 : okM 328 = true := by decide +kernel
theorem okM_329 : okM 329 = true := by decide +kernel
theorem okM_330 : okM 330 = true := by decide +kernel
theorem okM_331 : okM 331 = true := by decide +kernel
theorem okM_332 : okM 332 = true := by decide +kernel
theorem okM_333 : okM 333 = true := by decide +kernel
theorem okM_334 : okM 334 = true := by decide +kernel
theorem okM_335 : okM 335 = true := by decide +kernel
theorem okM_336 : okM 336 = true := by decide +kernel
theorem okM_337 : okM 337 = true := by decide +kernel
theorem okM_338 : okM 338 = true := by decide +kernel
theorem okM_339 : okM 339 = true := by decide +kernel
theorem okM_340 : okM 340 = true := by decide +kernel
theorem okM_341 : okM 341 = true := by decide +kernel
theorem okM_342 : okM 342 = true := by decide +kernel
theorem okM_343 : okM 343 = true := by decide +kernel
theorem okM_344 : okM 344 = true := by decide +kernel
theorem okM_345 : okM 345 = true := by decide +kernel
theorem okM_346 : okM 346 = true := by decide +kernel
theorem okM_347 : okM 347 = true := by decide +kernel
theorem okM_348 : okM 348 = true := by decide +kernel
theorem okM_349 : okM 349 = true := by decide +kernel
theorem okM_350 : okM 350 = true := by decide +kernel
theorem okM_351 : okM 351 = true := by decide +kernel
theorem okM_352 : okM 352 = true := by decide +kernel
theorem okM_353 : okM 353 = true := by decide +kernel
theorem okM_354 : okM 354 = true := by decide +kernel
theorem okM_355 : okM 355 = true := by decide +kernel
theorem okM_356 : okM 356 = true := by decide +kernel
theorem okM_357 : okM 357 = true := by decide +kernel
theorem okM_358 : okM 358 = true := by decide +kernel
theorem okM_359 : okM 359 = true := by decide +kernel
theorem okM_360 : okM 360 = true := by decide +kernel
theorem okM_361 : okM 361 = true := by decide +kernel
theorem okM_362 : okM 362 = true := by decide +kernel
theorem okM_363 : okM 363 = true := by decide +kernel
theorem okM_364 : okM 364 = true := by decide +kernel
theorem okM_365 : okM 365 = true := by decide +kernel
theorem okM_366 : okM 366 = true := by decide +kernel
theorem okM_367 : okM 367 = true := by decide +kernel
theorem okM_368 : okM 368 = true := by decide +kernel
theorem okM_369 : okM 369 = true := by decide +kernel
theorem okM_370 : okM 370 = true := by decide +kernel
theorem okM_371 : okM 371 = true := by decide +kernel
theorem okM_372 : okM 372 = true := by decide +kernel
theorem okM_373 : okM 373 = true := by decide +kernel
theorem okM_374 : okM 374 = true := by decide +kernel
theorem okM_375 : okM 375 = true := by decide +kernel
theorem okM_376 : okM 376 = true := by decide +kernel
theorem okM_377 : okM 377 = true := by decide +kernel
theorem okM_378 : okM 378 = true := by decide +kernel
theorem okM_379 : okM 379 = true := by decide +kernel
