def bX8_digest_6 (rec : (Int64 × Int32) → Sg → Option ((Int64 × Int32) × Sg)) (a1 : Int64 × Int32) (S2 : Sg) : Option ((Int64 × Int32) × Sg) :=
  (if (7 : Int32) < a1.2 then some ((a1.1, a1.2), S2) else bd (fX8_count a1.2 S2) (fun r3 S4 => rec ((((31 : Int64) * a1.1) + (Int32.toInt64 r3)), (a1.2 + (1 : Int32))) S4))
def bX8_digest_89 (rec : (Int64 × Int32) → Sg → Option ((Int64 × Int32) × Sg)) (a22 : Int64 × Int32) (S23 : Sg) : Option ((Int64 × Int32) × Sg) :=
  (if (S23.1 12 0) ≤ a22.2 then some ((a22.1, a22.2), S23) else bd (fX8_withStroke a22.1 a22.2 S23) (fun r24 S25 => bd (fX8_seekDay a22.2 S25) (fun r26 S27 => bd (fX8_withFewest r24 S27) (fun r28 S29 => bd (fX8_seekCell a22.2 S29) (fun r30 S31 => bd (fX8_withFewest r28 S31) (fun r32 S33 => bd (fX8_sign a22.2 S33) (fun r34 S35 => bd (fX8_chalk a22.2 S35) (fun r36 S37 => rec ((((31 : Int64) * (((31 : Int64) * r32) + (Int32.toInt64 r34))) + (Int32.toInt64 r36)), (a22.2 + (1 : Int32))) S37))))))))
def fX8_digest  (S : Sg) : Option (Int64 × Sg) :=
  bd (lp (bX8_digest_6) fl ((17 : Int64), (0 : Int32)) S) (fun (a8 : Int64 × Int32) S9 => bd (fX8_fault (0 : Int32) S9) (fun r10 S11 => bd (fX8_fault (1 : Int32) S11) (fun r12 S13 => bd (fX8_withDay (((31 : Int64) * (((31 : Int64) * a8.1) + (Int32.toInt64 r10))) + (Int32.toInt64 r12)) (0 : Int32) S13) (fun r14 S15 => bd (fX8_withDay r14 (4 : Int32) S15) (fun r16 S17 => bd (fX8_withDay r16 (9 : Int32) S17) (fun r18 S19 => bd (fX8_withDay r18 (19 : Int32) S19) (fun r20 S21 => bd (lp (bX8_digest_89) fl (r20, (0 : Int32)) S21) (fun (a41 : Int64 × Int32) S42 => bd (fX8_misread (0 : Int32) S42) (fun r43 S44 => bd (fX8_misread (1 : Int32) S44) (fun r45 S46 => bd (fX8_most S46) (fun r47 S48 => bd (fX8_oil (0 : Int32) S48) (fun r49 S50 => bd (fX8_oil (1 : Int32) S50) (fun r51 S52 => bd (fX8_seekDryDay S52) (fun r53 S54 => bd (fX8_withFewest (((31 : Int64) * (((31 : Int64) * (((31 : Int64) * (((31 : Int64) * (((31 : Int64) * a41.1) + (Int32.toInt64 r43))) + (Int32.toInt64 r45))) + (Int32.toInt64 r47))) + (Int32.toInt64 r49))) + (Int32.toInt64 r51)) S54) (fun r55 S56 => bd (fX8_never S56) (fun r57 S58 => bd (fX8_ask (0 : Int32) S58) (fun r59 S60 => bd (fX8_ask (7 : Int32) S60) (fun r61 S62 => bd (fX8_reckonChance (5 : Int32) (7 : Int32) (9 : Int32) S62) (fun r63 S64 => bd (fX8_weather (7 : Int32) (15 : Int32) (0 : Int32) S64) (fun r65 S66 => bd (fX8_weather (7 : Int32) (15 : Int32) (1 : Int32) S66) (fun r67 S68 => some ((((31 : Int64) * (((31 : Int64) * (((31 : Int64) * (((31 : Int64) * (((31 : Int64) * (((31 : Int64) * (((31 : Int64) * r55) + (Int32.toInt64 r57))) + (Int32.toInt64 r59))) + (Int32.toInt64 r61))) + (S64.2 41 4))) + (S64.2 41 5))) + (Int32.toInt64 r65))) + (Int32.toInt64 r67)), S68))))))))))))))))))))))
set_option maxHeartbeats 4000000 in
set_option maxRecDepth 100000 in
theorem tX8_digest (G : Gd) (l : Launch) (D : Nat)  (S : Sg) : Ct LC G l rL yX8_digest cX8_digest 4 (some .long) (D + 28) [.ref (G.2.1 0)] S (fX8_digest  S) := by
  refine Ct.of (by decide) (Nat.le_of_ble_eq_true rfl) (fun Z hZ X => ?_)
  subst hZ
  show Go LC G Z 4 rL 0 [(0, .ref (G.2.1 0))] [] S (fX8_digest  S) kz
  unfold fX8_digest
  refine g_ldc2 3 X dX8_digest_0 rfl conX8_339 ?_
  refine g_lstore_n 4 X [(1, _), (0, _)] dX8_digest_3 rfl rfl (Nat.le_of_ble_eq_true rfl) rfl ?_
  refine g_iconst 5 X dX8_digest_4 rfl ci_0 ?_
  refine g_istore_n 6 X [(3, _), (1, _), (0, _)] dX8_digest_5 rfl rfl (Nat.le_of_ble_eq_true rfl) rfl ?_
  refine g_joinK 31 (fun (a8 : Int64 × Int32) => [(0, .ref (G.2.1 0)), (1, .long a8.1)]) (fun (a8 : Int64 × Int32) => []) (fun a8 S9 => ?_) (fun J3 => ?_)
  · refine g_ldc2 34 X dX8_digest_31 rfl conX8_341 ?_
    refine g_lload_n 35 X 1 dX8_digest_34 rfl rfl rfl ?_
    refine g_lmul 36 X dX8_digest_35 rfl ?_
    refine g_aload_n 37 X 0 dX8_digest_36 rfl rfl rfl ?_
    refine g_iconst 38 X dX8_digest_37 rfl ci_0 ?_
    refine g_cVi1 41 X (tX8_fault _ _ (D + 24) _ _) mfX8_fault miX8_fault lkX8_346 rfl rfl rfl (Nat.le_of_ble_eq_true rfl) dX8_digest_38 rfl (fun r10 S11 => ?_)
    refine g_i2l 42 X dX8_digest_41 rfl ?_
    refine g_ladd 43 X dX8_digest_42 rfl ?_
    refine g_lstore_n 44 X [(1, _), (0, _)] dX8_digest_43 rfl rfl (Nat.le_of_ble_eq_true rfl) rfl ?_
    refine g_ldc2 47 X dX8_digest_44 rfl conX8_341 ?_
    refine g_lload_n 48 X 0 dX8_digest_47 rfl rfl rfl ?_
    refine g_lmul 49 X dX8_digest_48 rfl ?_
    refine g_aload_n 50 X 1 dX8_digest_49 rfl rfl rfl ?_
    refine g_iconst 51 X dX8_digest_50 rfl ci_1 ?_
    refine g_cVi1 54 X (tX8_fault _ _ (D + 24) _ _) mfX8_fault miX8_fault lkX8_346 rfl rfl rfl (Nat.le_of_ble_eq_true rfl) dX8_digest_51 rfl (fun r12 S13 => ?_)
    refine g_i2l 55 X dX8_digest_54 rfl ?_
    refine g_ladd 56 X dX8_digest_55 rfl ?_
    refine g_lstore_n 57 X [(1, _), (0, _)] dX8_digest_56 rfl rfl (Nat.le_of_ble_eq_true rfl) rfl ?_
    refine g_aload_n 58 X 1 dX8_digest_57 rfl rfl rfl ?_
    refine g_lload_n 59 X 0 dX8_digest_58 rfl rfl rfl ?_
    refine g_iconst 60 X dX8_digest_59 rfl ci_0 ?_
    refine g_cVl2 63 X (tX8_withDay _ _ (D + 21) _ _ _) mfX8_withDay miX8_withDay lkX8_349 rfl rfl rfl (Nat.le_of_ble_eq_true rfl) dX8_digest_60 rfl (fun r14 S15 => ?_)
    refine g_lstore_n 64 X [(1, _), (0, _)] dX8_digest_63 rfl rfl (Nat.le_of_ble_eq_true rfl) rfl ?_
    refine g_aload_n 65 X 1 dX8_digest_64 rfl rfl rfl ?_
    refine g_lload_n 66 X 0 dX8_digest_65 rfl rfl rfl ?_
    refine g_iconst 67 X dX8_digest_66 rfl ci_4 ?_
    refine g_cVl2 70 X (tX8_withDay _ _ (D + 21) _ _ _) mfX8_withDay miX8_withDay lkX8_349 rfl rfl rfl (Nat.le_of_ble_eq_true rfl) dX8_digest_67 rfl (fun r16 S17 => ?_)
    refine g_lstore_n 71 X [(1, _), (0, _)] dX8_digest_70 rfl rfl (Nat.le_of_ble_eq_true rfl) rfl ?_
    refine g_aload_n 72 X 1 dX8_digest_71 rfl rfl rfl ?_
    refine g_lload_n 73 X 0 dX8_digest_72 rfl rfl rfl ?_
    refine g_bipush 75 X dX8_digest_73 rfl cb_9 ?_
    refine g_cVl2 78 X (tX8_withDay _ _ (D + 21) _ _ _) mfX8_withDay miX8_withDay lkX8_349 rfl rfl rfl (Nat.le_of_ble_eq_true rfl) dX8_digest_75 rfl (fun r18 S19 => ?_)
    refine g_lstore_n 79 X [(1, _), (0, _)] dX8_digest_78 rfl rfl (Nat.le_of_ble_eq_true rfl) rfl ?_
    refine g_aload_n 80 X 1 dX8_digest_79 rfl rfl rfl ?_
    refine g_lload_n 81 X 0 dX8_digest_80 rfl rfl rfl ?_
    refine g_bipush 83 X dX8_digest_81 rfl cb_19 ?_
    refine g_cVl2 86 X (tX8_withDay _ _ (D + 21) _ _ _) mfX8_withDay miX8_withDay lkX8_349 rfl rfl rfl (Nat.le_of_ble_eq_true rfl) dX8_digest_83 rfl (fun r20 S21 => ?_)
    refine g_lstore_n 87 X [(1, _), (0, _)] dX8_digest_86 rfl rfl (Nat.le_of_ble_eq_true rfl) rfl ?_
    refine g_iconst 88 X dX8_digest_87 rfl ci_0 ?_
    refine g_istore_n 89 X [(3, _), (1, _), (0, _)] dX8_digest_88 rfl rfl (Nat.le_of_ble_eq_true rfl) rfl ?_
    refine g_joinK 161 (fun (a41 : Int64 × Int32) => [(0, .ref (G.2.1 0)), (1, .long a41.1)]) (fun (a41 : Int64 × Int32) => []) (fun a41 S42 => ?_) (fun J24 => ?_)
    · refine g_ldc2 164 X dX8_digest_161 rfl conX8_341 ?_
      refine g_lload_n 165 X 1 dX8_digest_164 rfl rfl rfl ?_
      refine g_lmul 166 X dX8_digest_165 rfl ?_
      refine g_aload_n 167 X 0 dX8_digest_166 rfl rfl rfl ?_
      refine g_iconst 168 X dX8_digest_167 rfl ci_0 ?_
      refine g_cVi1 171 X (tX8_misread _ _ (D + 22) _ _) mfX8_misread miX8_misread lkX8_366 rfl rfl rfl (Nat.le_of_ble_eq_true rfl) dX8_digest_168 rfl (fun r43 S44 => ?_)
      refine g_i2l 172 X dX8_digest_171 rfl ?_
      refine g_ladd 173 X dX8_digest_172 rfl ?_
      refine g_lstore_n 174 X [(1, _), (0, _)] dX8_digest_173 rfl rfl (Nat.le_of_ble_eq_true rfl) rfl ?_
      refine g_ldc2 177 X dX8_digest_174 rfl conX8_341 ?_
      refine g_lload_n 178 X 0 dX8_digest_177 rfl rfl rfl ?_
      refine g_lmul 179 X dX8_digest_178 rfl ?_
      refine g_aload_n 180 X 1 dX8_digest_179 rfl rfl rfl ?_
      refine g_iconst 181 X dX8_digest_180 rfl ci_1 ?_
      refine g_cVi1 184 X (tX8_misread _ _ (D + 22) _ _) mfX8_misread miX8_misread lkX8_366 rfl rfl rfl (Nat.le_of_ble_eq_true rfl) dX8_digest_181 rfl (fun r45 S46 => ?_)
      refine g_i2l 185 X dX8_digest_184 rfl ?_
      refine g_ladd 186 X dX8_digest_185 rfl ?_
      refine g_lstore_n 187 X [(1, _), (0, _)] dX8_digest_186 rfl rfl (Nat.le_of_ble_eq_true rfl) rfl ?_
      refine g_ldc2 190 X dX8_digest_187 rfl conX8_341 ?_
      refine g_lload_n 191 X 0 dX8_digest_190 rfl rfl rfl ?_
      refine g_lmul 192 X dX8_digest_191 rfl ?_
      refine g_aload_n 193 X 1 dX8_digest_192 rfl rfl rfl ?_
      refine g_cVi0 196 X (tX8_most _ _ (D + 22)  _) mfX8_most miX8_most lkX8_369 rfl rfl rfl (Nat.le_of_ble_eq_true rfl) dX8_digest_193 rfl (fun r47 S48 => ?_)
      refine g_i2l 197 X dX8_digest_196 rfl ?_
      refine g_ladd 198 X dX8_digest_197 rfl ?_
      refine g_lstore_n 199 X [(1, _), (0, _)] dX8_digest_198 rfl rfl (Nat.le_of_ble_eq_true rfl) rfl ?_
      refine g_ldc2 202 X dX8_digest_199 rfl conX8_341 ?_
      refine g_lload_n 203 X 0 dX8_digest_202 rfl rfl rfl ?_
      refine g_lmul 204 X dX8_digest_203 rfl ?_
      refine g_aload_n 205 X 1 dX8_digest_204 rfl rfl rfl ?_
      refine g_iconst 206 X dX8_digest_205 rfl ci_0 ?_
      refine g_cVi1 209 X (tX8_oil _ _ (D + 22) _ _) mfX8_oil miX8_oil lkX8_372 rfl rfl rfl (Nat.le_of_ble_eq_true rfl) dX8_digest_206 rfl (fun r49 S50 => ?_)
      refine g_i2l 210 X dX8_digest_209 rfl ?_
      refine g_ladd 211 X dX8_digest_210 rfl ?_
      refine g_lstore_n 212 X [(1, _), (0, _)] dX8_digest_211 rfl rfl (Nat.le_of_ble_eq_true rfl) rfl ?_
      refine g_ldc2 215 X dX8_digest_212 rfl conX8_341 ?_
      refine g_lload_n 216 X 0 dX8_digest_215 rfl rfl rfl ?_
      refine g_lmul 217 X dX8_digest_216 rfl ?_
      refine g_aload_n 218 X 1 dX8_digest_217 rfl rfl rfl ?_
      refine g_iconst 219 X dX8_digest_218 rfl ci_1 ?_
      refine g_cVi1 222 X (tX8_oil _ _ (D + 22) _ _) mfX8_oil miX8_oil lkX8_372 rfl rfl rfl (Nat.le_of_ble_eq_true rfl) dX8_digest_219 rfl (fun r51 S52 => ?_)
      refine g_i2l 223 X dX8_digest_222 rfl ?_
      refine g_ladd 224 X dX8_digest_223 rfl ?_
      refine g_lstore_n 225 X [(1, _), (0, _)] dX8_digest_224 rfl rfl (Nat.le_of_ble_eq_true rfl) rfl ?_
      refine g_aload_n 226 X 1 dX8_digest_225 rfl rfl rfl ?_
      refine g_cVv0 229 X (tX8_seekDryDay _ _ (D + 24)  _) mfX8_seekDryDay miX8_seekDryDay lkX8_236 rfl rfl rfl (Nat.le_of_ble_eq_true rfl) dX8_digest_226 rfl (fun r53 S54 => ?_)
      refine g_aload_n 230 X 1 dX8_digest_229 rfl rfl rfl ?_
      refine g_lload_n 231 X 0 dX8_digest_230 rfl rfl rfl ?_
      refine g_cVl1 234 X (tX8_withFewest _ _ (D + 27) _ _) mfX8_withFewest miX8_withFewest lkX8_356 rfl rfl rfl (Nat.le_of_ble_eq_true rfl) dX8_digest_231 rfl (fun r55 S56 => ?_)
      refine g_lstore_n 235 X [(1, _), (0, _)] dX8_digest_234 rfl rfl (Nat.le_of_ble_eq_true rfl) rfl ?_
      refine g_ldc2 238 X dX8_digest_235 rfl conX8_341 ?_
      refine g_lload_n 239 X 0 dX8_digest_238 rfl rfl rfl ?_
      refine g_lmul 240 X dX8_digest_239 rfl ?_
      refine g_aload_n 241 X 1 dX8_digest_240 rfl rfl rfl ?_
      refine g_cVi0 244 X (tX8_never _ _ (D + 22)  _) mfX8_never miX8_never lkX8_265 rfl rfl rfl (Nat.le_of_ble_eq_true rfl) dX8_digest_241 rfl (fun r57 S58 => ?_)
      refine g_i2l 245 X dX8_digest_244 rfl ?_
      refine g_ladd 246 X dX8_digest_245 rfl ?_
      refine g_lstore_n 247 X [(1, _), (0, _)] dX8_digest_246 rfl rfl (Nat.le_of_ble_eq_true rfl) rfl ?_
      refine g_ldc2 250 X dX8_digest_247 rfl conX8_341 ?_
      refine g_lload_n 251 X 0 dX8_digest_250 rfl rfl rfl ?_
      refine g_lmul 252 X dX8_digest_251 rfl ?_
      refine g_aload_n 253 X 1 dX8_digest_252 rfl rfl rfl ?_
      refine g_iconst 254 X dX8_digest_253 rfl ci_0 ?_
      refine g_cVi1 257 X (tX8_ask _ _ (D + 21) _ _) mfX8_ask miX8_ask lkX8_375 rfl rfl rfl (Nat.le_of_ble_eq_true rfl) dX8_digest_254 rfl (fun r59 S60 => ?_)
      refine g_i2l 258 X dX8_digest_257 rfl ?_
      refine g_ladd 259 X dX8_digest_258 rfl ?_
      refine g_lstore_n 260 X [(1, _), (0, _)] dX8_digest_259 rfl rfl (Nat.le_of_ble_eq_true rfl) rfl ?_
      refine g_ldc2 263 X dX8_digest_260 rfl conX8_341 ?_
      refine g_lload_n 264 X 0 dX8_digest_263 rfl rfl rfl ?_
      refine g_lmul 265 X dX8_digest_264 rfl ?_
      refine g_aload_n 266 X 1 dX8_digest_265 rfl rfl rfl ?_
      refine g_bipush 268 X dX8_digest_266 rfl cb_7 ?_
      refine g_cVi1 271 X (tX8_ask _ _ (D + 21) _ _) mfX8_ask miX8_ask lkX8_375 rfl rfl rfl (Nat.le_of_ble_eq_true rfl) dX8_digest_268 rfl (fun r61 S62 => ?_)
      refine g_i2l 272 X dX8_digest_271 rfl ?_
      refine g_ladd 273 X dX8_digest_272 rfl ?_
      refine g_lstore_n 274 X [(1, _), (0, _)] dX8_digest_273 rfl rfl (Nat.le_of_ble_eq_true rfl) rfl ?_
      refine g_aload_n 275 X 1 dX8_digest_274 rfl rfl rfl ?_
      refine g_iconst 276 X dX8_digest_275 rfl ci_5 ?_
      refine g_bipush 278 X dX8_digest_276 rfl cb_7 ?_
      refine g_bipush 280 X dX8_digest_278 rfl cb_9 ?_
      refine g_cVv3 283 X (tX8_reckonChance _ _ (D) _ _ _ _) mfX8_reckonChance miX8_reckonChance lkX8_288 rfl rfl rfl (Nat.le_of_ble_eq_true rfl) dX8_digest_280 rfl (fun r63 S64 => ?_)
      refine g_ldc2 286 X dX8_digest_283 rfl conX8_341 ?_
      refine g_lload_n 287 X 0 dX8_digest_286 rfl rfl rfl ?_
      refine g_lmul 288 X dX8_digest_287 rfl ?_
      refine g_aload_n 289 X 1 dX8_digest_288 rfl rfl rfl ?_
      refine g_getr 292 X 41 rfl flX8_72 rfl dX8_digest_289 rfl ?_
      refine g_getl 295 X rfl flX8_292 rfl dX8_digest_292 rfl ?_
      refine g_ladd 296 X dX8_digest_295 rfl ?_
      refine g_lstore_n 297 X [(1, _), (0, _)] dX8_digest_296 rfl rfl (Nat.le_of_ble_eq_true rfl) rfl ?_
      refine g_ldc2 300 X dX8_digest_297 rfl conX8_341 ?_
      refine g_lload_n 301 X 0 dX8_digest_300 rfl rfl rfl ?_
      refine g_lmul 302 X dX8_digest_301 rfl ?_
      refine g_aload_n 303 X 1 dX8_digest_302 rfl rfl rfl ?_
      refine g_getr 306 X 41 rfl flX8_72 rfl dX8_digest_303 rfl ?_
      refine g_getl 309 X rfl flX8_296 rfl dX8_digest_306 rfl ?_
      refine g_ladd 310 X dX8_digest_309 rfl ?_
      refine g_lstore_n 311 X [(1, _), (0, _)] dX8_digest_310 rfl rfl (Nat.le_of_ble_eq_true rfl) rfl ?_
      refine g_ldc2 314 X dX8_digest_311 rfl conX8_341 ?_
      refine g_lload_n 315 X 0 dX8_digest_314 rfl rfl rfl ?_
      refine g_lmul 316 X dX8_digest_315 rfl ?_
      refine g_aload_n 317 X 1 dX8_digest_316 rfl rfl rfl ?_
      refine g_bipush 319 X dX8_digest_317 rfl cb_7 ?_
      refine g_bipush 321 X dX8_digest_319 rfl cb_15 ?_
      refine g_iconst 322 X dX8_digest_321 rfl ci_0 ?_
      refine g_cVi3 325 X (tX8_weather _ _ (D + 22) _ _ _ _) mfX8_weather miX8_weather lkX8_378 rfl rfl rfl (Nat.le_of_ble_eq_true rfl) dX8_digest_322 rfl (fun r65 S66 => ?_)
      refine g_i2l 326 X dX8_digest_325 rfl ?_
      refine g_ladd 327 X dX8_digest_326 rfl ?_
      refine g_lstore_n 328 X [(1, _), (0, _)] dX8_digest_327 rfl rfl (Nat.le_of_ble_eq_true rfl) rfl ?_
      refine g_ldc2 331 X dX8_digest_328 rfl conX8_341 ?_
      refine g_lload_n 332 X 0 dX8_digest_331 rfl rfl rfl ?_
      refine g_lmul 333 X dX8_digest_332 rfl ?_
      refine g_aload_n 334 X 1 dX8_digest_333 rfl rfl rfl ?_
      refine g_bipush 336 X dX8_digest_334 rfl cb_7 ?_
      refine g_bipush 338 X dX8_digest_336 rfl cb_15 ?_
      refine g_iconst 339 X dX8_digest_338 rfl ci_1 ?_
      refine g_cVi3 342 X (tX8_weather _ _ (D + 22) _ _ _ _) mfX8_weather miX8_weather lkX8_378 rfl rfl rfl (Nat.le_of_ble_eq_true rfl) dX8_digest_339 rfl (fun r67 S68 => ?_)
      refine g_i2l 343 X dX8_digest_342 rfl ?_
      refine g_ladd 344 X dX8_digest_343 rfl ?_
      exact g_lret X dX8_digest_344 rfl
    · refine g_sub [2, 1, 0] rfl (g_lp (fun (a22 : Int64 × Int32) => [(0, .ref (G.2.1 0)), (1, .long a22.1), (3, .int a22.2)]) (fun rec26 ih25 a22 S23 => ?_) fl (r20, (0 : Int32)) _)
      unfold bX8_digest_89
      refine g_iload_n 90 X 2 dX8_digest_89 rfl rfl rfl ?_
      refine g_aload_n 91 X 0 dX8_digest_90 rfl rfl rfl ?_
      refine g_getr 94 X 12 rfl flX8_38 rfl dX8_digest_91 rfl ?_
      refine g_geti 97 X rfl flX8_221 rfl dX8_digest_94 rfl ?_
      refine g_icmp_ge 161 100 X dX8_digest_97 (by decide) rfl (fun _ => ?_) (fun _ => ?_)
      · exact g_sub [0, 1] rfl (J24 (a22.1, a22.2) _)
      · refine g_aload_n 101 X 0 dX8_digest_100 rfl rfl rfl ?_
        refine g_lload_n 102 X 1 dX8_digest_101 rfl rfl rfl ?_
        refine g_iload_n 103 X 2 dX8_digest_102 rfl rfl rfl ?_
        refine g_cVl2 106 X (tX8_withStroke _ _ (D + 21) _ _ _) mfX8_withStroke miX8_withStroke lkX8_353 rfl rfl rfl (Nat.le_of_ble_eq_true rfl) dX8_digest_103 rfl (fun r27 S28 => ?_)
        refine g_lstore_n 107 X [(1, _), (0, _), (3, _)] dX8_digest_106 rfl rfl (Nat.le_of_ble_eq_true rfl) rfl ?_
        refine g_aload_n 108 X 1 dX8_digest_107 rfl rfl rfl ?_
        refine g_iload_n 109 X 2 dX8_digest_108 rfl rfl rfl ?_
        refine g_cVv1 112 X (tX8_seekDay _ _ (D + 23) _ _) mfX8_seekDay miX8_seekDay lkX8_227 rfl rfl rfl (Nat.le_of_ble_eq_true rfl) dX8_digest_109 rfl (fun r29 S30 => ?_)
        refine g_aload_n 113 X 1 dX8_digest_112 rfl rfl rfl ?_
        refine g_lload_n 114 X 0 dX8_digest_113 rfl rfl rfl ?_
        refine g_cVl1 117 X (tX8_withFewest _ _ (D + 27) _ _) mfX8_withFewest miX8_withFewest lkX8_356 rfl rfl rfl (Nat.le_of_ble_eq_true rfl) dX8_digest_114 rfl (fun r31 S32 => ?_)
        refine g_lstore_n 118 X [(1, _), (0, _), (3, _)] dX8_digest_117 rfl rfl (Nat.le_of_ble_eq_true rfl) rfl ?_
        refine g_aload_n 119 X 1 dX8_digest_118 rfl rfl rfl ?_
        refine g_iload_n 120 X 2 dX8_digest_119 rfl rfl rfl ?_
        refine g_cVv1 123 X (tX8_seekCell _ _ (D + 23) _ _) mfX8_seekCell miX8_seekCell lkX8_233 rfl rfl rfl (Nat.le_of_ble_eq_true rfl) dX8_digest_120 rfl (fun r33 S34 => ?_)
        refine g_aload_n 124 X 1 dX8_digest_123 rfl rfl rfl ?_
        refine g_lload_n 125 X 0 dX8_digest_124 rfl rfl rfl ?_
        refine g_cVl1 128 X (tX8_withFewest _ _ (D + 27) _ _) mfX8_withFewest miX8_withFewest lkX8_356 rfl rfl rfl (Nat.le_of_ble_eq_true rfl) dX8_digest_125 rfl (fun r35 S36 => ?_)
        refine g_lstore_n 129 X [(1, _), (0, _), (3, _)] dX8_digest_128 rfl rfl (Nat.le_of_ble_eq_true rfl) rfl ?_
        refine g_ldc2 132 X dX8_digest_129 rfl conX8_341 ?_
        refine g_lload_n 133 X 0 dX8_digest_132 rfl rfl rfl ?_
        refine g_lmul 134 X dX8_digest_133 rfl ?_
        refine g_aload_n 135 X 1 dX8_digest_134 rfl rfl rfl ?_
        refine g_iload_n 136 X 2 dX8_digest_135 rfl rfl rfl ?_
        refine g_cVi1 139 X (tX8_sign _ _ (D + 22) _ _) mfX8_sign miX8_sign lkX8_360 rfl rfl rfl (Nat.le_of_ble_eq_true rfl) dX8_digest_136 rfl (fun r37 S38 => ?_)
        refine g_i2l 140 X dX8_digest_139 rfl ?_
        refine g_ladd 141 X dX8_digest_140 rfl ?_
        refine g_lstore_n 142 X [(1, _), (0, _), (3, _)] dX8_digest_141 rfl rfl (Nat.le_of_ble_eq_true rfl) rfl ?_
        refine g_ldc2 145 X dX8_digest_142 rfl conX8_341 ?_
        refine g_lload_n 146 X 0 dX8_digest_145 rfl rfl rfl ?_
        refine g_lmul 147 X dX8_digest_146 rfl ?_
        refine g_aload_n 148 X 1 dX8_digest_147 rfl rfl rfl ?_
        refine g_iload_n 149 X 2 dX8_digest_148 rfl rfl rfl ?_
        refine g_cVi1 152 X (tX8_chalk _ _ (D + 22) _ _) mfX8_chalk miX8_chalk lkX8_363 rfl rfl rfl (Nat.le_of_ble_eq_true rfl) dX8_digest_149 rfl (fun r39 S40 => ?_)
        refine g_i2l 153 X dX8_digest_152 rfl ?_
        refine g_ladd 154 X dX8_digest_153 rfl ?_
        refine g_lstore_n 155 X [(1, _), (0, _), (3, _)] dX8_digest_154 rfl rfl (Nat.le_of_ble_eq_true rfl) rfl ?_
        refine g_iinc 158 X 2 [(3, _), (1, _), (0, _)] dX8_digest_155 rfl rfl (ii_1 _) (Nat.le_of_ble_eq_true rfl) rfl ?_
        refine g_goto 89 X dX8_digest_158 (by decide) ?_
        exact g_sub [2, 1, 0] rfl (ih25 ((((31 : Int64) * (((31 : Int64) * r35) + (Int32.toInt64 r37))) + (Int32.toInt64 r39)), (a22.2 + (1 : Int32))) _)
  · refine g_sub [2, 1, 0] rfl (g_lp (fun (a1 : Int64 × Int32) => [(0, .ref (G.2.1 0)), (1, .long a1.1), (3, .int a1.2)]) (fun rec5 ih4 a1 S2 => ?_) fl ((17 : Int64), (0 : Int32)) _)
    unfold bX8_digest_6
    refine g_iload_n 7 X 2 dX8_digest_6 rfl rfl rfl ?_
    refine g_bipush 9 X dX8_digest_7 rfl cb_7 ?_
    refine g_icmp_gt 31 12 X dX8_digest_9 (by decide) rfl (fun _ => ?_) (fun _ => ?_)
    · exact g_sub [0, 1] rfl (J3 (a1.1, a1.2) _)
    · refine g_ldc2 15 X dX8_digest_12 rfl conX8_341 ?_
      refine g_lload_n 16 X 1 dX8_digest_15 rfl rfl rfl ?_
      refine g_lmul 17 X dX8_digest_16 rfl ?_
      refine g_aload_n 18 X 0 dX8_digest_17 rfl rfl rfl ?_
      refine g_iload_n 19 X 2 dX8_digest_18 rfl rfl rfl ?_
      refine g_cVi1 22 X (tX8_count _ _ (D + 22) _ _) mfX8_count miX8_count lkX8_343 rfl rfl rfl (Nat.le_of_ble_eq_true rfl) dX8_digest_19 rfl (fun r6 S7 => ?_)
      refine g_i2l 23 X dX8_digest_22 rfl ?_
      refine g_ladd 24 X dX8_digest_23 rfl ?_
      refine g_lstore_n 25 X [(1, _), (0, _), (3, _)] dX8_digest_24 rfl rfl (Nat.le_of_ble_eq_true rfl) rfl ?_
      refine g_iinc 28 X 2 [(3, _), (1, _), (0, _)] dX8_digest_25 rfl rfl (ii_1 _) (Nat.le_of_ble_eq_true rfl) rfl ?_
      refine g_goto 6 X dX8_digest_28 (by decide) ?_
      exact g_sub [2, 1, 0] rfl (ih4 ((((31 : Int64) * a1.1) + (Int32.toInt64 r6)), (a1.2 + (1 : Int32))) _)
