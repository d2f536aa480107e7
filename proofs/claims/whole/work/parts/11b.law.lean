/-! the law's body: its cases -/
theorem cs_lookup {tb : List ExceptionTableEntry} {E : ZE} {G : ZG} {Q : State → Prop} {M : ZM} {b : Nat} (K : zOK mL_law tb G E) {b0 Ls : Nat} {xs : Nat → Int32} (hX : zScr E G b0 Ls xs) (hLs : Ls ≤ 3072) {c x out t : Nat} (hi : 6 * t + 6 ≤ Ls) (hP : zLS M c x out t) (ht : t ≤ 600) (hb : 15 ≤ b) {o5 o6 : Option Value} (kk : ∀ M' b' o5 o6, b ≤ b' + 15 → zLS M' c x out (t + 1) → WW E G (zyu mL_law) Q M' b' 1763 [some (.ref b0), some (.ref c), some (.ref x), some (.ref out), some (.int (nI (6 * t))), o5, o6] []) : WW E G (zyu mL_law) Q M b 156 [some (.ref b0), some (.ref c), some (.ref x), some (.ref out), some (.int (nI (6 * t))), o5, o6] [] := by
  refine zq_aload_n K dL_law_156 rfl rfl ?_
  refine zq_aload_n K dL_law_157 rfl rfl ?_
  refine zq_iload K dL_law_158 rfl ?_
  refine zq_iconst K dL_law_160 (v := nI 1) (by decide) ?_
  refine zq_iaddN K (x := 6 * t) (y := 1) dL_law_161 ?_
  refine zq_sld K hX (6 * t + 1) dL_law_162 rfl (by omega) (by omega) ?_
  refine zq_aload_n K dL_law_163 rfl rfl ?_
  refine zq_iload K dL_law_164 rfl ?_
  refine zq_iconst K dL_law_166 (v := nI 2) (by decide) ?_
  refine zq_iaddN K (x := 6 * t) (y := 2) dL_law_167 ?_
  refine zq_sld K hX (6 * t + 2) dL_law_168 rfl (by omega) (by omega) ?_
  refine zq_aload_n K dL_law_169 rfl rfl ?_
  refine zq_iload K dL_law_170 rfl ?_
  refine zq_iconst K dL_law_172 (v := nI 3) (by decide) ?_
  refine zq_iaddN K (x := 6 * t) (y := 3) dL_law_173 ?_
  refine zq_sld K hX (6 * t + 3) dL_law_174 rfl (by omega) (by omega) ?_
  refine zq_aload_n K dL_law_175 rfl rfl ?_
  refine zq_callW (As := [.ref c, .int (xs (6 * t + 1)), .int (xs (6 * t + 2)), .int (xs (6 * t + 3)), .ref out]) K dL_law_176 zyL_lookup zm_L_102 zsL_lookup rfl (by decide) rfl rfl (Nat.le_of_ble_eq_true rfl) (Nat.le_trans (show zyu mL_lookup ≤ 15 by decide) hb) (ct_L_lookup hP (xs (6 * t + 1)) (xs (6 * t + 2)) (xs (6 * t + 3))) (zLP_r (fun M1 k v W B q w A A' hk hP1 hS1 hr hp => ?_)) zLP_x (Nat.le_refl _)
  refine zq_istore K dL_law_179 (by decide) ?_
  refine zq_aload_n K dL_law_181 rfl rfl ?_
  refine zq_aload_n K dL_law_182 rfl rfl ?_
  refine zq_iload K dL_law_183 rfl ?_
  refine zq_iconst K dL_law_185 (v := nI 1) (by decide) ?_
  refine zq_iaddN K (x := 6 * t) (y := 1) dL_law_186 ?_
  refine zq_sld K hX (6 * t + 1) dL_law_187 rfl (by omega) (by omega) ?_
  refine zq_aload_n K dL_law_188 rfl rfl ?_
  refine zq_iload K dL_law_189 rfl ?_
  refine zq_iconst K dL_law_191 (v := nI 2) (by decide) ?_
  refine zq_iaddN K (x := 6 * t) (y := 2) dL_law_192 ?_
  refine zq_sld K hX (6 * t + 2) dL_law_193 rfl (by omega) (by omega) ?_
  refine zq_aload_n K dL_law_194 rfl rfl ?_
  refine zq_iload K dL_law_195 rfl ?_
  refine zq_iconst K dL_law_197 (v := nI 3) (by decide) ?_
  refine zq_iaddN K (x := 6 * t) (y := 3) dL_law_198 ?_
  refine zq_sld K hX (6 * t + 3) dL_law_199 rfl (by omega) (by omega) ?_
  refine zq_callV (As := [.int (xs (6 * t + 1)), .int (xs (6 * t + 2)), .int (xs (6 * t + 3))]) K dL_law_200 zyX3_lookup zm_L_107 ziX3_lookup zvX3_lookup zclX3 rfl (by decide) rfl rfl (Nat.le_of_ble_eq_true rfl) (Nat.zero_le _) hP1.2.1.1 (hr G M1 x q w hP1.2.1) (zRP_r zSm.rf (fun M2 hR2 hS2 => ?_)) zRP_x (Nat.le_refl _)
  have hP2 := hP1.ref hR2 hS2
  refine zq_istore K dL_law_203 (by decide) ?_
  refine zq_aload_n K dL_law_205 rfl rfl ?_
  refine zq_callV (As := []) K dL_law_206 zyX3_thrown zm_L_108 ziX3_thrown zvX3_thrown zclX3 rfl (by decide) rfl rfl (Nat.le_of_ble_eq_true rfl) (Nat.zero_le _) hR2.1 (ct_X3_thrown hR2) (zone_r ?_) zone_x (Nat.le_refl _)
  refine zq_iload K dL_law_209 rfl ?_
  refine zq_icmp_eqN K (x := k) (y := k) 216 dL_law_211 (by decide) ⟨by omega, by omega⟩ (fun _ => ?_) (fun hne => absurd rfl hne)
  refine zq_iload K dL_law_216 rfl ?_
  refine zq_if_neN K (x := k) 233 dL_law_218 (by decide) (by omega) (fun hk0 => ?_) (fun hk0 => ?_)
  · refine zq_goto K 1763 dL_law_233 (by decide) ?_
    exact kk M2 _ _ _ (show b ≤ b - 3 - 0 - 0 + 15 by omega) ⟨W, B, q, nI k, A', hP2.1, hS1⟩
  · refine zq_aload_n K dL_law_221 rfl rfl ?_
    refine zq_iconst K dL_law_222 (v := nI 0) (by decide) ?_
    refine zq_lald K 0 dL_law_223 hP2.1.2.2.2.2.1 rfl (by rw [hP2.1.2.2.2.2.2]; decide) (by rw [hP2.1.2.2.2.2.2]; decide) ?_
    refine zq_iload K dL_law_224 rfl ?_
    refine zq_i2l K dL_law_226 ?_
    refine zq_lcmp K dL_law_227 ?_
    refine zq_top (v := nI 0) (zcmp_eq (hP2.2.trans (hp hk0))) ?_
    refine zq_if_eqN K (x := 0) 233 dL_law_228 (by decide) (by decide) (fun _ => ?_) (fun hne => absurd rfl hne)
    refine zq_goto K 1763 dL_law_233 (by decide) ?_
    exact kk M2 _ _ _ (show b ≤ b - 3 - 0 - 0 + 15 by omega) ⟨W, B, q, nI k, A', hP2.1, hS1⟩
theorem cs_makeDirectory {tb : List ExceptionTableEntry} {E : ZE} {G : ZG} {Q : State → Prop} {M : ZM} {b : Nat} (K : zOK mL_law tb G E) {b0 Ls : Nat} {xs : Nat → Int32} (hX : zScr E G b0 Ls xs) (hLs : Ls ≤ 3072) {c x out t : Nat} (hi : 6 * t + 6 ≤ Ls) (hP : zLS M c x out t) (ht : t ≤ 600) (hb : 15 ≤ b) {o5 o6 : Option Value} (kk : ∀ M' b' o5 o6, b ≤ b' + 15 → zLS M' c x out (t + 1) → WW E G (zyu mL_law) Q M' b' 1763 [some (.ref b0), some (.ref c), some (.ref x), some (.ref out), some (.int (nI (6 * t))), o5, o6] []) : WW E G (zyu mL_law) Q M b 236 [some (.ref b0), some (.ref c), some (.ref x), some (.ref out), some (.int (nI (6 * t))), o5, o6] [] := by
  refine zq_aload_n K dL_law_236 rfl rfl ?_
  refine zq_aload_n K dL_law_237 rfl rfl ?_
  refine zq_iload K dL_law_238 rfl ?_
  refine zq_iconst K dL_law_240 (v := nI 1) (by decide) ?_
  refine zq_iaddN K (x := 6 * t) (y := 1) dL_law_241 ?_
  refine zq_sld K hX (6 * t + 1) dL_law_242 rfl (by omega) (by omega) ?_
  refine zq_aload_n K dL_law_243 rfl rfl ?_
  refine zq_iload K dL_law_244 rfl ?_
  refine zq_iconst K dL_law_246 (v := nI 2) (by decide) ?_
  refine zq_iaddN K (x := 6 * t) (y := 2) dL_law_247 ?_
  refine zq_sld K hX (6 * t + 2) dL_law_248 rfl (by omega) (by omega) ?_
  refine zq_aload_n K dL_law_249 rfl rfl ?_
  refine zq_iload K dL_law_250 rfl ?_
  refine zq_iconst K dL_law_252 (v := nI 3) (by decide) ?_
  refine zq_iaddN K (x := 6 * t) (y := 3) dL_law_253 ?_
  refine zq_sld K hX (6 * t + 3) dL_law_254 rfl (by omega) (by omega) ?_
  refine zq_aload_n K dL_law_255 rfl rfl ?_
  refine zq_callW (As := [.ref c, .int (xs (6 * t + 1)), .int (xs (6 * t + 2)), .int (xs (6 * t + 3)), .ref out]) K dL_law_256 zyL_makeDirectory zm_L_111 zsL_makeDirectory rfl (by decide) rfl rfl (Nat.le_of_ble_eq_true rfl) (Nat.le_trans (show zyu mL_makeDirectory ≤ 15 by decide) hb) (ct_L_makeDirectory hP ht (xs (6 * t + 1)) (xs (6 * t + 2)) (xs (6 * t + 3))) (zLP_r (fun M1 k v W B q w A A' hk hP1 hS1 hr hp => ?_)) zLP_x (Nat.le_refl _)
  refine zq_istore K dL_law_259 (by decide) ?_
  refine zq_aload_n K dL_law_261 rfl rfl ?_
  refine zq_aload_n K dL_law_262 rfl rfl ?_
  refine zq_iload K dL_law_263 rfl ?_
  refine zq_iconst K dL_law_265 (v := nI 1) (by decide) ?_
  refine zq_iaddN K (x := 6 * t) (y := 1) dL_law_266 ?_
  refine zq_sld K hX (6 * t + 1) dL_law_267 rfl (by omega) (by omega) ?_
  refine zq_aload_n K dL_law_268 rfl rfl ?_
  refine zq_iload K dL_law_269 rfl ?_
  refine zq_iconst K dL_law_271 (v := nI 2) (by decide) ?_
  refine zq_iaddN K (x := 6 * t) (y := 2) dL_law_272 ?_
  refine zq_sld K hX (6 * t + 2) dL_law_273 rfl (by omega) (by omega) ?_
  refine zq_aload_n K dL_law_274 rfl rfl ?_
  refine zq_iload K dL_law_275 rfl ?_
  refine zq_iconst K dL_law_277 (v := nI 3) (by decide) ?_
  refine zq_iaddN K (x := 6 * t) (y := 3) dL_law_278 ?_
  refine zq_sld K hX (6 * t + 3) dL_law_279 rfl (by omega) (by omega) ?_
  refine zq_callV (As := [.int (xs (6 * t + 1)), .int (xs (6 * t + 2)), .int (xs (6 * t + 3))]) K dL_law_280 zyX3_makeDirectory zm_L_113 ziX3_makeDirectory zvX3_makeDirectory zclX3 rfl (by decide) rfl rfl (Nat.le_of_ble_eq_true rfl) (Nat.zero_le _) hP1.2.1.1 (hr G M1 x q w hP1.2.1) (zRP_r zSm.rf (fun M2 hR2 hS2 => ?_)) zRP_x (Nat.le_refl _)
  have hP2 := hP1.ref hR2 hS2
  refine zq_istore K dL_law_283 (by decide) ?_
  refine zq_aload_n K dL_law_285 rfl rfl ?_
  refine zq_callV (As := []) K dL_law_286 zyX3_thrown zm_L_108 ziX3_thrown zvX3_thrown zclX3 rfl (by decide) rfl rfl (Nat.le_of_ble_eq_true rfl) (Nat.zero_le _) hR2.1 (ct_X3_thrown hR2) (zone_r ?_) zone_x (Nat.le_refl _)
  refine zq_iload K dL_law_289 rfl ?_
  refine zq_icmp_eqN K (x := k) (y := k) 296 dL_law_291 (by decide) ⟨by omega, by omega⟩ (fun _ => ?_) (fun hne => absurd rfl hne)
  refine zq_iload K dL_law_296 rfl ?_
  refine zq_if_neN K (x := k) 313 dL_law_298 (by decide) (by omega) (fun hk0 => ?_) (fun hk0 => ?_)
  · refine zq_goto K 1763 dL_law_313 (by decide) ?_
    exact kk M2 _ _ _ (show b ≤ b - 15 - 0 - 0 + 15 by omega) ⟨W, B, q, nI k, A', hP2.1, hS1⟩
  · refine zq_aload_n K dL_law_301 rfl rfl ?_
    refine zq_iconst K dL_law_302 (v := nI 0) (by decide) ?_
    refine zq_lald K 0 dL_law_303 hP2.1.2.2.2.2.1 rfl (by rw [hP2.1.2.2.2.2.2]; decide) (by rw [hP2.1.2.2.2.2.2]; decide) ?_
    refine zq_iload K dL_law_304 rfl ?_
    refine zq_i2l K dL_law_306 ?_
    refine zq_lcmp K dL_law_307 ?_
    refine zq_top (v := nI 0) (zcmp_eq (hP2.2.trans (hp hk0))) ?_
    refine zq_if_eqN K (x := 0) 313 dL_law_308 (by decide) (by decide) (fun _ => ?_) (fun hne => absurd rfl hne)
    refine zq_goto K 1763 dL_law_313 (by decide) ?_
    exact kk M2 _ _ _ (show b ≤ b - 15 - 0 - 0 + 15 by omega) ⟨W, B, q, nI k, A', hP2.1, hS1⟩
theorem cs_makeFile {tb : List ExceptionTableEntry} {E : ZE} {G : ZG} {Q : State → Prop} {M : ZM} {b : Nat} (K : zOK mL_law tb G E) {b0 Ls : Nat} {xs : Nat → Int32} (hX : zScr E G b0 Ls xs) (hLs : Ls ≤ 3072) {c x out t : Nat} (hi : 6 * t + 6 ≤ Ls) (hP : zLS M c x out t) (ht : t ≤ 600) (hb : 15 ≤ b) {o5 o6 : Option Value} (kk : ∀ M' b' o5 o6, b ≤ b' + 15 → zLS M' c x out (t + 1) → WW E G (zyu mL_law) Q M' b' 1763 [some (.ref b0), some (.ref c), some (.ref x), some (.ref out), some (.int (nI (6 * t))), o5, o6] []) : WW E G (zyu mL_law) Q M b 316 [some (.ref b0), some (.ref c), some (.ref x), some (.ref out), some (.int (nI (6 * t))), o5, o6] [] := by
  refine zq_aload_n K dL_law_316 rfl rfl ?_
  refine zq_aload_n K dL_law_317 rfl rfl ?_
  refine zq_iload K dL_law_318 rfl ?_
  refine zq_iconst K dL_law_320 (v := nI 1) (by decide) ?_
  refine zq_iaddN K (x := 6 * t) (y := 1) dL_law_321 ?_
  refine zq_sld K hX (6 * t + 1) dL_law_322 rfl (by omega) (by omega) ?_
  refine zq_aload_n K dL_law_323 rfl rfl ?_
  refine zq_iload K dL_law_324 rfl ?_
  refine zq_iconst K dL_law_326 (v := nI 2) (by decide) ?_
  refine zq_iaddN K (x := 6 * t) (y := 2) dL_law_327 ?_
  refine zq_sld K hX (6 * t + 2) dL_law_328 rfl (by omega) (by omega) ?_
  refine zq_aload_n K dL_law_329 rfl rfl ?_
  refine zq_iload K dL_law_330 rfl ?_
  refine zq_iconst K dL_law_332 (v := nI 3) (by decide) ?_
  refine zq_iaddN K (x := 6 * t) (y := 3) dL_law_333 ?_
  refine zq_sld K hX (6 * t + 3) dL_law_334 rfl (by omega) (by omega) ?_
  refine zq_aload_n K dL_law_335 rfl rfl ?_
  refine zq_callW (As := [.ref c, .int (xs (6 * t + 1)), .int (xs (6 * t + 2)), .int (xs (6 * t + 3)), .ref out]) K dL_law_336 zyL_makeFile zm_L_114 zsL_makeFile rfl (by decide) rfl rfl (Nat.le_of_ble_eq_true rfl) (Nat.le_trans (show zyu mL_makeFile ≤ 15 by decide) hb) (ct_L_makeFile hP ht (xs (6 * t + 1)) (xs (6 * t + 2)) (xs (6 * t + 3))) (zLP_r (fun M1 k v W B q w A A' hk hP1 hS1 hr hp => ?_)) zLP_x (Nat.le_refl _)
  refine zq_istore K dL_law_339 (by decide) ?_
  refine zq_aload_n K dL_law_341 rfl rfl ?_
  refine zq_aload_n K dL_law_342 rfl rfl ?_
  refine zq_iload K dL_law_343 rfl ?_
  refine zq_iconst K dL_law_345 (v := nI 1) (by decide) ?_
  refine zq_iaddN K (x := 6 * t) (y := 1) dL_law_346 ?_
  refine zq_sld K hX (6 * t + 1) dL_law_347 rfl (by omega) (by omega) ?_
  refine zq_aload_n K dL_law_348 rfl rfl ?_
  refine zq_iload K dL_law_349 rfl ?_
  refine zq_iconst K dL_law_351 (v := nI 2) (by decide) ?_
  refine zq_iaddN K (x := 6 * t) (y := 2) dL_law_352 ?_
  refine zq_sld K hX (6 * t + 2) dL_law_353 rfl (by omega) (by omega) ?_
  refine zq_aload_n K dL_law_354 rfl rfl ?_
  refine zq_iload K dL_law_355 rfl ?_
  refine zq_iconst K dL_law_357 (v := nI 3) (by decide) ?_
  refine zq_iaddN K (x := 6 * t) (y := 3) dL_law_358 ?_
  refine zq_sld K hX (6 * t + 3) dL_law_359 rfl (by omega) (by omega) ?_
  refine zq_callV (As := [.int (xs (6 * t + 1)), .int (xs (6 * t + 2)), .int (xs (6 * t + 3))]) K dL_law_360 zyX3_makeFile zm_L_116 ziX3_makeFile zvX3_makeFile zclX3 rfl (by decide) rfl rfl (Nat.le_of_ble_eq_true rfl) (Nat.zero_le _) hP1.2.1.1 (hr G M1 x q w hP1.2.1) (zRP_r zSm.rf (fun M2 hR2 hS2 => ?_)) zRP_x (Nat.le_refl _)
  have hP2 := hP1.ref hR2 hS2
  refine zq_istore K dL_law_363 (by decide) ?_
  refine zq_aload_n K dL_law_365 rfl rfl ?_
  refine zq_callV (As := []) K dL_law_366 zyX3_thrown zm_L_108 ziX3_thrown zvX3_thrown zclX3 rfl (by decide) rfl rfl (Nat.le_of_ble_eq_true rfl) (Nat.zero_le _) hR2.1 (ct_X3_thrown hR2) (zone_r ?_) zone_x (Nat.le_refl _)
  refine zq_iload K dL_law_369 rfl ?_
  refine zq_icmp_eqN K (x := k) (y := k) 376 dL_law_371 (by decide) ⟨by omega, by omega⟩ (fun _ => ?_) (fun hne => absurd rfl hne)
  refine zq_iload K dL_law_376 rfl ?_
  refine zq_if_neN K (x := k) 393 dL_law_378 (by decide) (by omega) (fun hk0 => ?_) (fun hk0 => ?_)
  · refine zq_goto K 1763 dL_law_393 (by decide) ?_
    exact kk M2 _ _ _ (show b ≤ b - 5 - 0 - 0 + 15 by omega) ⟨W, B, q, nI k, A', hP2.1, hS1⟩
  · refine zq_aload_n K dL_law_381 rfl rfl ?_
    refine zq_iconst K dL_law_382 (v := nI 0) (by decide) ?_
    refine zq_lald K 0 dL_law_383 hP2.1.2.2.2.2.1 rfl (by rw [hP2.1.2.2.2.2.2]; decide) (by rw [hP2.1.2.2.2.2.2]; decide) ?_
    refine zq_iload K dL_law_384 rfl ?_
    refine zq_i2l K dL_law_386 ?_
    refine zq_lcmp K dL_law_387 ?_
    refine zq_top (v := nI 0) (zcmp_eq (hP2.2.trans (hp hk0))) ?_
    refine zq_if_eqN K (x := 0) 393 dL_law_388 (by decide) (by decide) (fun _ => ?_) (fun hne => absurd rfl hne)
    refine zq_goto K 1763 dL_law_393 (by decide) ?_
    exact kk M2 _ _ _ (show b ≤ b - 5 - 0 - 0 + 15 by omega) ⟨W, B, q, nI k, A', hP2.1, hS1⟩
theorem cs_link {tb : List ExceptionTableEntry} {E : ZE} {G : ZG} {Q : State → Prop} {M : ZM} {b : Nat} (K : zOK mL_law tb G E) {b0 Ls : Nat} {xs : Nat → Int32} (hX : zScr E G b0 Ls xs) (hLs : Ls ≤ 3072) {c x out t : Nat} (hi : 6 * t + 6 ≤ Ls) (hP : zLS M c x out t) (ht : t ≤ 600) (hb : 15 ≤ b) {o5 o6 : Option Value} (kk : ∀ M' b' o5 o6, b ≤ b' + 15 → zLS M' c x out (t + 1) → WW E G (zyu mL_law) Q M' b' 1763 [some (.ref b0), some (.ref c), some (.ref x), some (.ref out), some (.int (nI (6 * t))), o5, o6] []) : WW E G (zyu mL_law) Q M b 396 [some (.ref b0), some (.ref c), some (.ref x), some (.ref out), some (.int (nI (6 * t))), o5, o6] [] := by
  refine zq_aload_n K dL_law_396 rfl rfl ?_
  refine zq_aload_n K dL_law_397 rfl rfl ?_
  refine zq_iload K dL_law_398 rfl ?_
  refine zq_iconst K dL_law_400 (v := nI 1) (by decide) ?_
  refine zq_iaddN K (x := 6 * t) (y := 1) dL_law_401 ?_
  refine zq_sld K hX (6 * t + 1) dL_law_402 rfl (by omega) (by omega) ?_
  refine zq_aload_n K dL_law_403 rfl rfl ?_
  refine zq_iload K dL_law_404 rfl ?_
  refine zq_iconst K dL_law_406 (v := nI 2) (by decide) ?_
  refine zq_iaddN K (x := 6 * t) (y := 2) dL_law_407 ?_
  refine zq_sld K hX (6 * t + 2) dL_law_408 rfl (by omega) (by omega) ?_
  refine zq_aload_n K dL_law_409 rfl rfl ?_
  refine zq_iload K dL_law_410 rfl ?_
  refine zq_iconst K dL_law_412 (v := nI 3) (by decide) ?_
  refine zq_iaddN K (x := 6 * t) (y := 3) dL_law_413 ?_
  refine zq_sld K hX (6 * t + 3) dL_law_414 rfl (by omega) (by omega) ?_
  refine zq_aload_n K dL_law_415 rfl rfl ?_
  refine zq_iload K dL_law_416 rfl ?_
  refine zq_iconst K dL_law_418 (v := nI 4) (by decide) ?_
  refine zq_iaddN K (x := 6 * t) (y := 4) dL_law_419 ?_
  refine zq_sld K hX (6 * t + 4) dL_law_420 rfl (by omega) (by omega) ?_
  refine zq_aload_n K dL_law_421 rfl rfl ?_
  refine zq_callW (As := [.ref c, .int (xs (6 * t + 1)), .int (xs (6 * t + 2)), .int (xs (6 * t + 3)), .int (xs (6 * t + 4)), .ref out]) K dL_law_422 zyL_link zm_L_117 zsL_link rfl (by decide) rfl rfl (Nat.le_of_ble_eq_true rfl) (Nat.le_trans (show zyu mL_link ≤ 15 by decide) hb) (ct_L_link hP ht (xs (6 * t + 1)) (xs (6 * t + 2)) (xs (6 * t + 3)) (xs (6 * t + 4))) (zLP_r (fun M1 k v W B q w A A' hk hP1 hS1 hr hp => ?_)) zLP_x (Nat.le_refl _)
  refine zq_istore K dL_law_425 (by decide) ?_
  refine zq_aload_n K dL_law_427 rfl rfl ?_
  refine zq_aload_n K dL_law_428 rfl rfl ?_
  refine zq_iload K dL_law_429 rfl ?_
  refine zq_iconst K dL_law_431 (v := nI 1) (by decide) ?_
  refine zq_iaddN K (x := 6 * t) (y := 1) dL_law_432 ?_
  refine zq_sld K hX (6 * t + 1) dL_law_433 rfl (by omega) (by omega) ?_
  refine zq_aload_n K dL_law_434 rfl rfl ?_
  refine zq_iload K dL_law_435 rfl ?_
  refine zq_iconst K dL_law_437 (v := nI 2) (by decide) ?_
  refine zq_iaddN K (x := 6 * t) (y := 2) dL_law_438 ?_
  refine zq_sld K hX (6 * t + 2) dL_law_439 rfl (by omega) (by omega) ?_
  refine zq_aload_n K dL_law_440 rfl rfl ?_
  refine zq_iload K dL_law_441 rfl ?_
  refine zq_iconst K dL_law_443 (v := nI 3) (by decide) ?_
  refine zq_iaddN K (x := 6 * t) (y := 3) dL_law_444 ?_
  refine zq_sld K hX (6 * t + 3) dL_law_445 rfl (by omega) (by omega) ?_
  refine zq_aload_n K dL_law_446 rfl rfl ?_
  refine zq_iload K dL_law_447 rfl ?_
  refine zq_iconst K dL_law_449 (v := nI 4) (by decide) ?_
  refine zq_iaddN K (x := 6 * t) (y := 4) dL_law_450 ?_
  refine zq_sld K hX (6 * t + 4) dL_law_451 rfl (by omega) (by omega) ?_
  refine zq_callV (As := [.int (xs (6 * t + 1)), .int (xs (6 * t + 2)), .int (xs (6 * t + 3)), .int (xs (6 * t + 4))]) K dL_law_452 zyX3_link zm_L_120 ziX3_link zvX3_link zclX3 rfl (by decide) rfl rfl (Nat.le_of_ble_eq_true rfl) (Nat.zero_le _) hP1.2.1.1 (hr G M1 x q w hP1.2.1) (zRP_r zSm.rf (fun M2 hR2 hS2 => ?_)) zRP_x (Nat.le_refl _)
  have hP2 := hP1.ref hR2 hS2
  refine zq_istore K dL_law_455 (by decide) ?_
  refine zq_aload_n K dL_law_457 rfl rfl ?_
  refine zq_callV (As := []) K dL_law_458 zyX3_thrown zm_L_108 ziX3_thrown zvX3_thrown zclX3 rfl (by decide) rfl rfl (Nat.le_of_ble_eq_true rfl) (Nat.zero_le _) hR2.1 (ct_X3_thrown hR2) (zone_r ?_) zone_x (Nat.le_refl _)
  refine zq_iload K dL_law_461 rfl ?_
  refine zq_icmp_eqN K (x := k) (y := k) 468 dL_law_463 (by decide) ⟨by omega, by omega⟩ (fun _ => ?_) (fun hne => absurd rfl hne)
  refine zq_iload K dL_law_468 rfl ?_
  refine zq_if_neN K (x := k) 485 dL_law_470 (by decide) (by omega) (fun hk0 => ?_) (fun hk0 => ?_)
  · refine zq_goto K 1763 dL_law_485 (by decide) ?_
    exact kk M2 _ _ _ (show b ≤ b - 6 - 0 - 0 + 15 by omega) ⟨W, B, q, nI k, A', hP2.1, hS1⟩
  · refine zq_aload_n K dL_law_473 rfl rfl ?_
    refine zq_iconst K dL_law_474 (v := nI 0) (by decide) ?_
    refine zq_lald K 0 dL_law_475 hP2.1.2.2.2.2.1 rfl (by rw [hP2.1.2.2.2.2.2]; decide) (by rw [hP2.1.2.2.2.2.2]; decide) ?_
    refine zq_iload K dL_law_476 rfl ?_
    refine zq_i2l K dL_law_478 ?_
    refine zq_lcmp K dL_law_479 ?_
    refine zq_top (v := nI 0) (zcmp_eq (hP2.2.trans (hp hk0))) ?_
    refine zq_if_eqN K (x := 0) 485 dL_law_480 (by decide) (by decide) (fun _ => ?_) (fun hne => absurd rfl hne)
    refine zq_goto K 1763 dL_law_485 (by decide) ?_
    exact kk M2 _ _ _ (show b ≤ b - 6 - 0 - 0 + 15 by omega) ⟨W, B, q, nI k, A', hP2.1, hS1⟩
theorem cs_remove {tb : List ExceptionTableEntry} {E : ZE} {G : ZG} {Q : State → Prop} {M : ZM} {b : Nat} (K : zOK mL_law tb G E) {b0 Ls : Nat} {xs : Nat → Int32} (hX : zScr E G b0 Ls xs) (hLs : Ls ≤ 3072) {c x out t : Nat} (hi : 6 * t + 6 ≤ Ls) (hP : zLS M c x out t) (ht : t ≤ 600) (hb : 15 ≤ b) {o5 o6 : Option Value} (kk : ∀ M' b' o5 o6, b ≤ b' + 15 → zLS M' c x out (t + 1) → WW E G (zyu mL_law) Q M' b' 1763 [some (.ref b0), some (.ref c), some (.ref x), some (.ref out), some (.int (nI (6 * t))), o5, o6] []) : WW E G (zyu mL_law) Q M b 488 [some (.ref b0), some (.ref c), some (.ref x), some (.ref out), some (.int (nI (6 * t))), o5, o6] [] := by
  refine zq_aload_n K dL_law_488 rfl rfl ?_
  refine zq_aload_n K dL_law_489 rfl rfl ?_
  refine zq_iload K dL_law_490 rfl ?_
  refine zq_iconst K dL_law_492 (v := nI 1) (by decide) ?_
  refine zq_iaddN K (x := 6 * t) (y := 1) dL_law_493 ?_
  refine zq_sld K hX (6 * t + 1) dL_law_494 rfl (by omega) (by omega) ?_
  refine zq_aload_n K dL_law_495 rfl rfl ?_
  refine zq_iload K dL_law_496 rfl ?_
  refine zq_iconst K dL_law_498 (v := nI 2) (by decide) ?_
  refine zq_iaddN K (x := 6 * t) (y := 2) dL_law_499 ?_
  refine zq_sld K hX (6 * t + 2) dL_law_500 rfl (by omega) (by omega) ?_
  refine zq_aload_n K dL_law_501 rfl rfl ?_
  refine zq_iload K dL_law_502 rfl ?_
  refine zq_iconst K dL_law_504 (v := nI 3) (by decide) ?_
  refine zq_iaddN K (x := 6 * t) (y := 3) dL_law_505 ?_
  refine zq_sld K hX (6 * t + 3) dL_law_506 rfl (by omega) (by omega) ?_
  refine zq_aload_n K dL_law_507 rfl rfl ?_
  refine zq_callW (As := [.ref c, .int (xs (6 * t + 1)), .int (xs (6 * t + 2)), .int (xs (6 * t + 3)), .ref out]) K dL_law_508 zyL_remove zm_L_121 zsL_remove rfl (by decide) rfl rfl (Nat.le_of_ble_eq_true rfl) (Nat.le_trans (show zyu mL_remove ≤ 15 by decide) hb) (ct_L_remove hP ht (xs (6 * t + 1)) (xs (6 * t + 2)) (xs (6 * t + 3))) (zLP_r (fun M1 k v W B q w A A' hk hP1 hS1 hr hp => ?_)) zLP_x (Nat.le_refl _)
  refine zq_istore K dL_law_511 (by decide) ?_
  refine zq_aload_n K dL_law_513 rfl rfl ?_
  refine zq_aload_n K dL_law_514 rfl rfl ?_
  refine zq_iload K dL_law_515 rfl ?_
  refine zq_iconst K dL_law_517 (v := nI 1) (by decide) ?_
  refine zq_iaddN K (x := 6 * t) (y := 1) dL_law_518 ?_
  refine zq_sld K hX (6 * t + 1) dL_law_519 rfl (by omega) (by omega) ?_
  refine zq_aload_n K dL_law_520 rfl rfl ?_
  refine zq_iload K dL_law_521 rfl ?_
  refine zq_iconst K dL_law_523 (v := nI 2) (by decide) ?_
  refine zq_iaddN K (x := 6 * t) (y := 2) dL_law_524 ?_
  refine zq_sld K hX (6 * t + 2) dL_law_525 rfl (by omega) (by omega) ?_
  refine zq_aload_n K dL_law_526 rfl rfl ?_
  refine zq_iload K dL_law_527 rfl ?_
  refine zq_iconst K dL_law_529 (v := nI 3) (by decide) ?_
  refine zq_iaddN K (x := 6 * t) (y := 3) dL_law_530 ?_
  refine zq_sld K hX (6 * t + 3) dL_law_531 rfl (by omega) (by omega) ?_
  refine zq_callV (As := [.int (xs (6 * t + 1)), .int (xs (6 * t + 2)), .int (xs (6 * t + 3))]) K dL_law_532 zyX3_remove zm_L_123 ziX3_remove zvX3_remove zclX3 rfl (by decide) rfl rfl (Nat.le_of_ble_eq_true rfl) (Nat.zero_le _) hP1.2.1.1 (hr G M1 x q w hP1.2.1) (zRP_r zSm.rf (fun M2 hR2 hS2 => ?_)) zRP_x (Nat.le_refl _)
  have hP2 := hP1.ref hR2 hS2
  refine zq_istore K dL_law_535 (by decide) ?_
  refine zq_aload_n K dL_law_537 rfl rfl ?_
  refine zq_callV (As := []) K dL_law_538 zyX3_thrown zm_L_108 ziX3_thrown zvX3_thrown zclX3 rfl (by decide) rfl rfl (Nat.le_of_ble_eq_true rfl) (Nat.zero_le _) hR2.1 (ct_X3_thrown hR2) (zone_r ?_) zone_x (Nat.le_refl _)
  refine zq_iload K dL_law_541 rfl ?_
  refine zq_icmp_eqN K (x := k) (y := k) 548 dL_law_543 (by decide) ⟨by omega, by omega⟩ (fun _ => ?_) (fun hne => absurd rfl hne)
  refine zq_iload K dL_law_548 rfl ?_
  refine zq_if_neN K (x := k) 565 dL_law_550 (by decide) (by omega) (fun hk0 => ?_) (fun hk0 => ?_)
  · refine zq_goto K 1763 dL_law_565 (by decide) ?_
    exact kk M2 _ _ _ (show b ≤ b - 6 - 0 - 0 + 15 by omega) ⟨W, B, q, nI k, A', hP2.1, hS1⟩
  · refine zq_aload_n K dL_law_553 rfl rfl ?_
    refine zq_iconst K dL_law_554 (v := nI 0) (by decide) ?_
    refine zq_lald K 0 dL_law_555 hP2.1.2.2.2.2.1 rfl (by rw [hP2.1.2.2.2.2.2]; decide) (by rw [hP2.1.2.2.2.2.2]; decide) ?_
    refine zq_iload K dL_law_556 rfl ?_
    refine zq_i2l K dL_law_558 ?_
    refine zq_lcmp K dL_law_559 ?_
    refine zq_top (v := nI 0) (zcmp_eq (hP2.2.trans (hp hk0))) ?_
    refine zq_if_eqN K (x := 0) 565 dL_law_560 (by decide) (by decide) (fun _ => ?_) (fun hne => absurd rfl hne)
    refine zq_goto K 1763 dL_law_565 (by decide) ?_
    exact kk M2 _ _ _ (show b ≤ b - 6 - 0 - 0 + 15 by omega) ⟨W, B, q, nI k, A', hP2.1, hS1⟩
theorem cs_rename {tb : List ExceptionTableEntry} {E : ZE} {G : ZG} {Q : State → Prop} {M : ZM} {b : Nat} (K : zOK mL_law tb G E) {b0 Ls : Nat} {xs : Nat → Int32} (hX : zScr E G b0 Ls xs) (hLs : Ls ≤ 3072) {c x out t : Nat} (hi : 6 * t + 6 ≤ Ls) (hP : zLS M c x out t) (ht : t ≤ 600) (hb : 15 ≤ b) {o5 o6 : Option Value} (kk : ∀ M' b' o5 o6, b ≤ b' + 15 → zLS M' c x out (t + 1) → WW E G (zyu mL_law) Q M' b' 1763 [some (.ref b0), some (.ref c), some (.ref x), some (.ref out), some (.int (nI (6 * t))), o5, o6] []) : WW E G (zyu mL_law) Q M b 568 [some (.ref b0), some (.ref c), some (.ref x), some (.ref out), some (.int (nI (6 * t))), o5, o6] [] := by
  refine zq_aload_n K dL_law_568 rfl rfl ?_
  refine zq_aload_n K dL_law_569 rfl rfl ?_
  refine zq_iload K dL_law_570 rfl ?_
  refine zq_iconst K dL_law_572 (v := nI 1) (by decide) ?_
  refine zq_iaddN K (x := 6 * t) (y := 1) dL_law_573 ?_
  refine zq_sld K hX (6 * t + 1) dL_law_574 rfl (by omega) (by omega) ?_
  refine zq_aload_n K dL_law_575 rfl rfl ?_
  refine zq_iload K dL_law_576 rfl ?_
  refine zq_iconst K dL_law_578 (v := nI 2) (by decide) ?_
  refine zq_iaddN K (x := 6 * t) (y := 2) dL_law_579 ?_
  refine zq_sld K hX (6 * t + 2) dL_law_580 rfl (by omega) (by omega) ?_
  refine zq_aload_n K dL_law_581 rfl rfl ?_
  refine zq_iload K dL_law_582 rfl ?_
  refine zq_iconst K dL_law_584 (v := nI 3) (by decide) ?_
  refine zq_iaddN K (x := 6 * t) (y := 3) dL_law_585 ?_
  refine zq_sld K hX (6 * t + 3) dL_law_586 rfl (by omega) (by omega) ?_
  refine zq_aload_n K dL_law_587 rfl rfl ?_
  refine zq_iload K dL_law_588 rfl ?_
  refine zq_iconst K dL_law_590 (v := nI 4) (by decide) ?_
  refine zq_iaddN K (x := 6 * t) (y := 4) dL_law_591 ?_
  refine zq_sld K hX (6 * t + 4) dL_law_592 rfl (by omega) (by omega) ?_
  refine zq_aload_n K dL_law_593 rfl rfl ?_
  refine zq_iload K dL_law_594 rfl ?_
  refine zq_iconst K dL_law_596 (v := nI 5) (by decide) ?_
  refine zq_iaddN K (x := 6 * t) (y := 5) dL_law_597 ?_
  refine zq_sld K hX (6 * t + 5) dL_law_598 rfl (by omega) (by omega) ?_
  refine zq_callW (As := [.ref c, .int (xs (6 * t + 1)), .int (xs (6 * t + 2)), .int (xs (6 * t + 3)), .int (xs (6 * t + 4)), .int (xs (6 * t + 5))]) K dL_law_599 zyL_rename zm_L_124 zsL_rename rfl (by decide) rfl rfl (Nat.le_of_ble_eq_true rfl) (Nat.le_trans (show zyu mL_rename ≤ 15 by decide) hb) (ct_L_rename hP ht (xs (6 * t + 1)) (xs (6 * t + 2)) (xs (6 * t + 3)) (xs (6 * t + 4)) (xs (6 * t + 5))) (zLP_r (fun M1 k v W B q w A A' hk hP1 hS1 hr hp => ?_)) zLP_x (Nat.le_refl _)
  refine zq_istore K dL_law_602 (by decide) ?_
  refine zq_aload_n K dL_law_604 rfl rfl ?_
  refine zq_aload_n K dL_law_605 rfl rfl ?_
  refine zq_iload K dL_law_606 rfl ?_
  refine zq_iconst K dL_law_608 (v := nI 1) (by decide) ?_
  refine zq_iaddN K (x := 6 * t) (y := 1) dL_law_609 ?_
  refine zq_sld K hX (6 * t + 1) dL_law_610 rfl (by omega) (by omega) ?_
  refine zq_aload_n K dL_law_611 rfl rfl ?_
  refine zq_iload K dL_law_612 rfl ?_
  refine zq_iconst K dL_law_614 (v := nI 2) (by decide) ?_
  refine zq_iaddN K (x := 6 * t) (y := 2) dL_law_615 ?_
  refine zq_sld K hX (6 * t + 2) dL_law_616 rfl (by omega) (by omega) ?_
  refine zq_aload_n K dL_law_617 rfl rfl ?_
  refine zq_iload K dL_law_618 rfl ?_
  refine zq_iconst K dL_law_620 (v := nI 3) (by decide) ?_
  refine zq_iaddN K (x := 6 * t) (y := 3) dL_law_621 ?_
  refine zq_sld K hX (6 * t + 3) dL_law_622 rfl (by omega) (by omega) ?_
  refine zq_aload_n K dL_law_623 rfl rfl ?_
  refine zq_iload K dL_law_624 rfl ?_
  refine zq_iconst K dL_law_626 (v := nI 4) (by decide) ?_
  refine zq_iaddN K (x := 6 * t) (y := 4) dL_law_627 ?_
  refine zq_sld K hX (6 * t + 4) dL_law_628 rfl (by omega) (by omega) ?_
  refine zq_aload_n K dL_law_629 rfl rfl ?_
  refine zq_iload K dL_law_630 rfl ?_
  refine zq_iconst K dL_law_632 (v := nI 5) (by decide) ?_
  refine zq_iaddN K (x := 6 * t) (y := 5) dL_law_633 ?_
  refine zq_sld K hX (6 * t + 5) dL_law_634 rfl (by omega) (by omega) ?_
  refine zq_callV (As := [.int (xs (6 * t + 1)), .int (xs (6 * t + 2)), .int (xs (6 * t + 3)), .int (xs (6 * t + 4)), .int (xs (6 * t + 5))]) K dL_law_635 zyX3_rename zm_L_127 ziX3_rename zvX3_rename zclX3 rfl (by decide) rfl rfl (Nat.le_of_ble_eq_true rfl) (Nat.zero_le _) hP1.2.1.1 (hr G M1 x q w hP1.2.1) (zRP_r zSm.rf (fun M2 hR2 hS2 => ?_)) zRP_x (Nat.le_refl _)
  have hP2 := hP1.ref hR2 hS2
  refine zq_aload_n K dL_law_638 rfl rfl ?_
  refine zq_callV (As := []) K dL_law_639 zyX3_thrown zm_L_108 ziX3_thrown zvX3_thrown zclX3 rfl (by decide) rfl rfl (Nat.le_of_ble_eq_true rfl) (Nat.zero_le _) hR2.1 (ct_X3_thrown hR2) (zone_r ?_) zone_x (Nat.le_refl _)
  refine zq_iload K dL_law_642 rfl ?_
  refine zq_icmp_eqN K (x := k) (y := k) 649 dL_law_644 (by decide) ⟨by omega, by omega⟩ (fun _ => ?_) (fun hne => absurd rfl hne)
  refine zq_goto K 1763 dL_law_649 (by decide) ?_
  exact kk M2 _ _ _ (show b ≤ b - 8 - 0 - 0 + 15 by omega) ⟨W, B, q, nI k, A', hP2.1, hS1⟩
theorem cs_pass {tb : List ExceptionTableEntry} {E : ZE} {G : ZG} {Q : State → Prop} {M : ZM} {b : Nat} (K : zOK mL_law tb G E) {b0 Ls : Nat} {xs : Nat → Int32} (hX : zScr E G b0 Ls xs) (hLs : Ls ≤ 3072) {c x out t : Nat} (hi : 6 * t + 6 ≤ Ls) (hP : zLS M c x out t) (ht : t ≤ 600) (hb : 15 ≤ b) {o5 o6 : Option Value} (kk : ∀ M' b' o5 o6, b ≤ b' + 15 → zLS M' c x out (t + 1) → WW E G (zyu mL_law) Q M' b' 1763 [some (.ref b0), some (.ref c), some (.ref x), some (.ref out), some (.int (nI (6 * t))), o5, o6] []) : WW E G (zyu mL_law) Q M b 652 [some (.ref b0), some (.ref c), some (.ref x), some (.ref out), some (.int (nI (6 * t))), o5, o6] [] := by
  refine zq_aload_n K dL_law_652 rfl rfl ?_
  refine zq_aload_n K dL_law_653 rfl rfl ?_
  refine zq_iload K dL_law_654 rfl ?_
  refine zq_iconst K dL_law_656 (v := nI 1) (by decide) ?_
  refine zq_iaddN K (x := 6 * t) (y := 1) dL_law_657 ?_
  refine zq_sld K hX (6 * t + 1) dL_law_658 rfl (by omega) (by omega) ?_
  refine zq_aload_n K dL_law_659 rfl rfl ?_
  refine zq_callW (As := [.ref c, .int (xs (6 * t + 1)), .ref out]) K dL_law_660 zyL_pass zm_L_128 zsL_pass rfl (by decide) rfl rfl (Nat.le_of_ble_eq_true rfl) (Nat.le_trans (show zyu mL_pass ≤ 15 by decide) hb) (ct_L_pass hP ht (xs (6 * t + 1))) (zLP_r (fun M1 k v W B q w A A' hk hP1 hS1 hr hp => ?_)) zLP_x (Nat.le_refl _)
  refine zq_istore K dL_law_663 (by decide) ?_
  refine zq_aload_n K dL_law_665 rfl rfl ?_
  refine zq_aload_n K dL_law_666 rfl rfl ?_
  refine zq_iload K dL_law_667 rfl ?_
  refine zq_iconst K dL_law_669 (v := nI 1) (by decide) ?_
  refine zq_iaddN K (x := 6 * t) (y := 1) dL_law_670 ?_
  refine zq_sld K hX (6 * t + 1) dL_law_671 rfl (by omega) (by omega) ?_
  refine zq_callV (As := [.int (xs (6 * t + 1))]) K dL_law_672 zyX3_pass zm_L_131 ziX3_pass zvX3_pass zclX3 rfl (by decide) rfl rfl (Nat.le_of_ble_eq_true rfl) (Nat.zero_le _) hP1.2.1.1 (hr G M1 x q w hP1.2.1) (zRP_r zSm.rf (fun M2 hR2 hS2 => ?_)) zRP_x (Nat.le_refl _)
  have hP2 := hP1.ref hR2 hS2
  refine zq_istore K dL_law_675 (by decide) ?_
  refine zq_aload_n K dL_law_677 rfl rfl ?_
  refine zq_callV (As := []) K dL_law_678 zyX3_thrown zm_L_108 ziX3_thrown zvX3_thrown zclX3 rfl (by decide) rfl rfl (Nat.le_of_ble_eq_true rfl) (Nat.zero_le _) hR2.1 (ct_X3_thrown hR2) (zone_r ?_) zone_x (Nat.le_refl _)
  refine zq_iload K dL_law_681 rfl ?_
  refine zq_icmp_eqN K (x := k) (y := k) 688 dL_law_683 (by decide) ⟨by omega, by omega⟩ (fun _ => ?_) (fun hne => absurd rfl hne)
  refine zq_iload K dL_law_688 rfl ?_
  refine zq_if_neN K (x := k) 705 dL_law_690 (by decide) (by omega) (fun hk0 => ?_) (fun hk0 => ?_)
  · refine zq_goto K 1763 dL_law_705 (by decide) ?_
    exact kk M2 _ _ _ (show b ≤ b - 1 - 0 - 0 + 15 by omega) ⟨W, B, q, nI k, A', hP2.1, hS1⟩
  · refine zq_aload_n K dL_law_693 rfl rfl ?_
    refine zq_iconst K dL_law_694 (v := nI 0) (by decide) ?_
    refine zq_lald K 0 dL_law_695 hP2.1.2.2.2.2.1 rfl (by rw [hP2.1.2.2.2.2.2]; decide) (by rw [hP2.1.2.2.2.2.2]; decide) ?_
    refine zq_iload K dL_law_696 rfl ?_
    refine zq_i2l K dL_law_698 ?_
    refine zq_lcmp K dL_law_699 ?_
    refine zq_top (v := nI 0) (zcmp_eq (hP2.2.trans (hp hk0))) ?_
    refine zq_if_eqN K (x := 0) 705 dL_law_700 (by decide) (by decide) (fun _ => ?_) (fun hne => absurd rfl hne)
    refine zq_goto K 1763 dL_law_705 (by decide) ?_
    exact kk M2 _ _ _ (show b ≤ b - 1 - 0 - 0 + 15 by omega) ⟨W, B, q, nI k, A', hP2.1, hS1⟩
theorem cs_leases {tb : List ExceptionTableEntry} {E : ZE} {G : ZG} {Q : State → Prop} {M : ZM} {b : Nat} (K : zOK mL_law tb G E) {b0 Ls : Nat} {xs : Nat → Int32} (hX : zScr E G b0 Ls xs) (hLs : Ls ≤ 3072) {c x out t : Nat} (hi : 6 * t + 6 ≤ Ls) (hP : zLS M c x out t) (ht : t ≤ 600) (hb : 15 ≤ b) {o5 o6 : Option Value} (kk : ∀ M' b' o5 o6, b ≤ b' + 15 → zLS M' c x out (t + 1) → WW E G (zyu mL_law) Q M' b' 1763 [some (.ref b0), some (.ref c), some (.ref x), some (.ref out), some (.int (nI (6 * t))), o5, o6] []) : WW E G (zyu mL_law) Q M b 708 [some (.ref b0), some (.ref c), some (.ref x), some (.ref out), some (.int (nI (6 * t))), o5, o6] [] := by
  refine zq_aload_n K dL_law_708 rfl rfl ?_
  refine zq_aload_n K dL_law_709 rfl rfl ?_
  refine zq_iload K dL_law_710 rfl ?_
  refine zq_iconst K dL_law_712 (v := nI 1) (by decide) ?_
  refine zq_iaddN K (x := 6 * t) (y := 1) dL_law_713 ?_
  refine zq_sld K hX (6 * t + 1) dL_law_714 rfl (by omega) (by omega) ?_
  refine zq_aload_n K dL_law_715 rfl rfl ?_
  refine zq_callW (As := [.ref c, .int (xs (6 * t + 1)), .ref out]) K dL_law_716 zyL_leases zm_L_132 zsL_leases rfl (by decide) rfl rfl (Nat.le_of_ble_eq_true rfl) (Nat.le_trans (show zyu mL_leases ≤ 15 by decide) hb) (ct_L_leases hP (xs (6 * t + 1))) (zLP_r (fun M1 k v W B q w A A' hk hP1 hS1 hr hp => ?_)) zLP_x (Nat.le_refl _)
  refine zq_istore K dL_law_719 (by decide) ?_
  refine zq_aload_n K dL_law_721 rfl rfl ?_
  refine zq_aload_n K dL_law_722 rfl rfl ?_
  refine zq_iload K dL_law_723 rfl ?_
  refine zq_iconst K dL_law_725 (v := nI 1) (by decide) ?_
  refine zq_iaddN K (x := 6 * t) (y := 1) dL_law_726 ?_
  refine zq_sld K hX (6 * t + 1) dL_law_727 rfl (by omega) (by omega) ?_
  refine zq_callV (As := [.int (xs (6 * t + 1))]) K dL_law_728 zyX3_leases zm_L_134 ziX3_leases zvX3_leases zclX3 rfl (by decide) rfl rfl (Nat.le_of_ble_eq_true rfl) (Nat.zero_le _) hP1.2.1.1 (hr G M1 x q w hP1.2.1) (zRP_r zSm.rf (fun M2 hR2 hS2 => ?_)) zRP_x (Nat.le_refl _)
  have hP2 := hP1.ref hR2 hS2
  refine zq_istore K dL_law_731 (by decide) ?_
  refine zq_aload_n K dL_law_733 rfl rfl ?_
  refine zq_callV (As := []) K dL_law_734 zyX3_thrown zm_L_108 ziX3_thrown zvX3_thrown zclX3 rfl (by decide) rfl rfl (Nat.le_of_ble_eq_true rfl) (Nat.zero_le _) hR2.1 (ct_X3_thrown hR2) (zone_r ?_) zone_x (Nat.le_refl _)
  refine zq_iload K dL_law_737 rfl ?_
  refine zq_icmp_eqN K (x := k) (y := k) 744 dL_law_739 (by decide) ⟨by omega, by omega⟩ (fun _ => ?_) (fun hne => absurd rfl hne)
  refine zq_iload K dL_law_744 rfl ?_
  refine zq_if_neN K (x := k) 761 dL_law_746 (by decide) (by omega) (fun hk0 => ?_) (fun hk0 => ?_)
  · refine zq_goto K 1763 dL_law_761 (by decide) ?_
    exact kk M2 _ _ _ (show b ≤ b - 1 - 0 - 0 + 15 by omega) ⟨W, B, q, nI k, A', hP2.1, hS1⟩
  · refine zq_aload_n K dL_law_749 rfl rfl ?_
    refine zq_iconst K dL_law_750 (v := nI 0) (by decide) ?_
    refine zq_lald K 0 dL_law_751 hP2.1.2.2.2.2.1 rfl (by rw [hP2.1.2.2.2.2.2]; decide) (by rw [hP2.1.2.2.2.2.2]; decide) ?_
    refine zq_iload K dL_law_752 rfl ?_
    refine zq_i2l K dL_law_754 ?_
    refine zq_lcmp K dL_law_755 ?_
    refine zq_top (v := nI 0) (zcmp_eq (hP2.2.trans (hp hk0))) ?_
    refine zq_if_eqN K (x := 0) 761 dL_law_756 (by decide) (by decide) (fun _ => ?_) (fun hne => absurd rfl hne)
    refine zq_goto K 1763 dL_law_761 (by decide) ?_
    exact kk M2 _ _ _ (show b ≤ b - 1 - 0 - 0 + 15 by omega) ⟨W, B, q, nI k, A', hP2.1, hS1⟩
theorem cs_recalls {tb : List ExceptionTableEntry} {E : ZE} {G : ZG} {Q : State → Prop} {M : ZM} {b : Nat} (K : zOK mL_law tb G E) {b0 Ls : Nat} {xs : Nat → Int32} (hX : zScr E G b0 Ls xs) (hLs : Ls ≤ 3072) {c x out t : Nat} (hi : 6 * t + 6 ≤ Ls) (hP : zLS M c x out t) (ht : t ≤ 600) (hb : 15 ≤ b) {o5 o6 : Option Value} (kk : ∀ M' b' o5 o6, b ≤ b' + 15 → zLS M' c x out (t + 1) → WW E G (zyu mL_law) Q M' b' 1763 [some (.ref b0), some (.ref c), some (.ref x), some (.ref out), some (.int (nI (6 * t))), o5, o6] []) : WW E G (zyu mL_law) Q M b 764 [some (.ref b0), some (.ref c), some (.ref x), some (.ref out), some (.int (nI (6 * t))), o5, o6] [] := by
  refine zq_aload_n K dL_law_764 rfl rfl ?_
  refine zq_aload_n K dL_law_765 rfl rfl ?_
  refine zq_iload K dL_law_766 rfl ?_
  refine zq_iconst K dL_law_768 (v := nI 1) (by decide) ?_
  refine zq_iaddN K (x := 6 * t) (y := 1) dL_law_769 ?_
  refine zq_sld K hX (6 * t + 1) dL_law_770 rfl (by omega) (by omega) ?_
  refine zq_aload_n K dL_law_771 rfl rfl ?_
  refine zq_callW (As := [.ref c, .int (xs (6 * t + 1)), .ref out]) K dL_law_772 zyL_recalls zm_L_135 zsL_recalls rfl (by decide) rfl rfl (Nat.le_of_ble_eq_true rfl) (Nat.le_trans (show zyu mL_recalls ≤ 15 by decide) hb) (ct_L_recalls hP (xs (6 * t + 1))) (zLP_r (fun M1 k v W B q w A A' hk hP1 hS1 hr hp => ?_)) zLP_x (Nat.le_refl _)
  refine zq_istore K dL_law_775 (by decide) ?_
  refine zq_aload_n K dL_law_777 rfl rfl ?_
  refine zq_aload_n K dL_law_778 rfl rfl ?_
  refine zq_iload K dL_law_779 rfl ?_
  refine zq_iconst K dL_law_781 (v := nI 1) (by decide) ?_
  refine zq_iaddN K (x := 6 * t) (y := 1) dL_law_782 ?_
  refine zq_sld K hX (6 * t + 1) dL_law_783 rfl (by omega) (by omega) ?_
  refine zq_callV (As := [.int (xs (6 * t + 1))]) K dL_law_784 zyX3_recalls zm_L_137 ziX3_recalls zvX3_recalls zclX3 rfl (by decide) rfl rfl (Nat.le_of_ble_eq_true rfl) (Nat.zero_le _) hP1.2.1.1 (hr G M1 x q w hP1.2.1) (zRP_r zSm.rf (fun M2 hR2 hS2 => ?_)) zRP_x (Nat.le_refl _)
  have hP2 := hP1.ref hR2 hS2
  refine zq_istore K dL_law_787 (by decide) ?_
  refine zq_aload_n K dL_law_789 rfl rfl ?_
  refine zq_callV (As := []) K dL_law_790 zyX3_thrown zm_L_108 ziX3_thrown zvX3_thrown zclX3 rfl (by decide) rfl rfl (Nat.le_of_ble_eq_true rfl) (Nat.zero_le _) hR2.1 (ct_X3_thrown hR2) (zone_r ?_) zone_x (Nat.le_refl _)
  refine zq_iload K dL_law_793 rfl ?_
  refine zq_icmp_eqN K (x := k) (y := k) 800 dL_law_795 (by decide) ⟨by omega, by omega⟩ (fun _ => ?_) (fun hne => absurd rfl hne)
  refine zq_iload K dL_law_800 rfl ?_
  refine zq_if_neN K (x := k) 817 dL_law_802 (by decide) (by omega) (fun hk0 => ?_) (fun hk0 => ?_)
  · refine zq_goto K 1763 dL_law_817 (by decide) ?_
    exact kk M2 _ _ _ (show b ≤ b - 1 - 0 - 0 + 15 by omega) ⟨W, B, q, nI k, A', hP2.1, hS1⟩
  · refine zq_aload_n K dL_law_805 rfl rfl ?_
    refine zq_iconst K dL_law_806 (v := nI 0) (by decide) ?_
    refine zq_lald K 0 dL_law_807 hP2.1.2.2.2.2.1 rfl (by rw [hP2.1.2.2.2.2.2]; decide) (by rw [hP2.1.2.2.2.2.2]; decide) ?_
    refine zq_iload K dL_law_808 rfl ?_
    refine zq_i2l K dL_law_810 ?_
    refine zq_lcmp K dL_law_811 ?_
    refine zq_top (v := nI 0) (zcmp_eq (hP2.2.trans (hp hk0))) ?_
    refine zq_if_eqN K (x := 0) 817 dL_law_812 (by decide) (by decide) (fun _ => ?_) (fun hne => absurd rfl hne)
    refine zq_goto K 1763 dL_law_817 (by decide) ?_
    exact kk M2 _ _ _ (show b ≤ b - 1 - 0 - 0 + 15 by omega) ⟨W, B, q, nI k, A', hP2.1, hS1⟩
theorem cs_known {tb : List ExceptionTableEntry} {E : ZE} {G : ZG} {Q : State → Prop} {M : ZM} {b : Nat} (K : zOK mL_law tb G E) {b0 Ls : Nat} {xs : Nat → Int32} (hX : zScr E G b0 Ls xs) (hLs : Ls ≤ 3072) {c x out t : Nat} (hi : 6 * t + 6 ≤ Ls) (hP : zLS M c x out t) (ht : t ≤ 600) (hb : 15 ≤ b) {o5 o6 : Option Value} (kk : ∀ M' b' o5 o6, b ≤ b' + 15 → zLS M' c x out (t + 1) → WW E G (zyu mL_law) Q M' b' 1763 [some (.ref b0), some (.ref c), some (.ref x), some (.ref out), some (.int (nI (6 * t))), o5, o6] []) : WW E G (zyu mL_law) Q M b 820 [some (.ref b0), some (.ref c), some (.ref x), some (.ref out), some (.int (nI (6 * t))), o5, o6] [] := by
  refine zq_aload_n K dL_law_820 rfl rfl ?_
  refine zq_aload_n K dL_law_821 rfl rfl ?_
  refine zq_iload K dL_law_822 rfl ?_
  refine zq_iconst K dL_law_824 (v := nI 1) (by decide) ?_
  refine zq_iaddN K (x := 6 * t) (y := 1) dL_law_825 ?_
  refine zq_sld K hX (6 * t + 1) dL_law_826 rfl (by omega) (by omega) ?_
  refine zq_aload_n K dL_law_827 rfl rfl ?_
  refine zq_callW (As := [.ref c, .int (xs (6 * t + 1)), .ref out]) K dL_law_828 zyL_known zm_L_138 zsL_known rfl (by decide) rfl rfl (Nat.le_of_ble_eq_true rfl) (Nat.le_trans (show zyu mL_known ≤ 15 by decide) hb) (ct_L_known hP (xs (6 * t + 1))) (zLP_r (fun M1 k v W B q w A A' hk hP1 hS1 hr hp => ?_)) zLP_x (Nat.le_refl _)
  refine zq_istore K dL_law_831 (by decide) ?_
  refine zq_aload_n K dL_law_833 rfl rfl ?_
  refine zq_aload_n K dL_law_834 rfl rfl ?_
  refine zq_iload K dL_law_835 rfl ?_
  refine zq_iconst K dL_law_837 (v := nI 1) (by decide) ?_
  refine zq_iaddN K (x := 6 * t) (y := 1) dL_law_838 ?_
  refine zq_sld K hX (6 * t + 1) dL_law_839 rfl (by omega) (by omega) ?_
  refine zq_callV (As := [.int (xs (6 * t + 1))]) K dL_law_840 zyX3_known zm_L_140 ziX3_known zvX3_known zclX3 rfl (by decide) rfl rfl (Nat.le_of_ble_eq_true rfl) (Nat.zero_le _) hP1.2.1.1 (hr G M1 x q w hP1.2.1) (zRP_r zSm.rf (fun M2 hR2 hS2 => ?_)) zRP_x (Nat.le_refl _)
  have hP2 := hP1.ref hR2 hS2
  refine zq_istore K dL_law_843 (by decide) ?_
  refine zq_aload_n K dL_law_845 rfl rfl ?_
  refine zq_callV (As := []) K dL_law_846 zyX3_thrown zm_L_108 ziX3_thrown zvX3_thrown zclX3 rfl (by decide) rfl rfl (Nat.le_of_ble_eq_true rfl) (Nat.zero_le _) hR2.1 (ct_X3_thrown hR2) (zone_r ?_) zone_x (Nat.le_refl _)
  refine zq_iload K dL_law_849 rfl ?_
  refine zq_icmp_eqN K (x := k) (y := k) 856 dL_law_851 (by decide) ⟨by omega, by omega⟩ (fun _ => ?_) (fun hne => absurd rfl hne)
  refine zq_iload K dL_law_856 rfl ?_
  refine zq_if_neN K (x := k) 873 dL_law_858 (by decide) (by omega) (fun hk0 => ?_) (fun hk0 => ?_)
  · refine zq_goto K 1763 dL_law_873 (by decide) ?_
    exact kk M2 _ _ _ (show b ≤ b - 1 - 0 - 0 + 15 by omega) ⟨W, B, q, nI k, A', hP2.1, hS1⟩
  · refine zq_aload_n K dL_law_861 rfl rfl ?_
    refine zq_iconst K dL_law_862 (v := nI 0) (by decide) ?_
    refine zq_lald K 0 dL_law_863 hP2.1.2.2.2.2.1 rfl (by rw [hP2.1.2.2.2.2.2]; decide) (by rw [hP2.1.2.2.2.2.2]; decide) ?_
    refine zq_iload K dL_law_864 rfl ?_
    refine zq_i2l K dL_law_866 ?_
    refine zq_lcmp K dL_law_867 ?_
    refine zq_top (v := nI 0) (zcmp_eq (hP2.2.trans (hp hk0))) ?_
    refine zq_if_eqN K (x := 0) 873 dL_law_868 (by decide) (by decide) (fun _ => ?_) (fun hne => absurd rfl hne)
    refine zq_goto K 1763 dL_law_873 (by decide) ?_
    exact kk M2 _ _ _ (show b ≤ b - 1 - 0 - 0 + 15 by omega) ⟨W, B, q, nI k, A', hP2.1, hS1⟩
theorem cs_split {tb : List ExceptionTableEntry} {E : ZE} {G : ZG} {Q : State → Prop} {M : ZM} {b : Nat} (K : zOK mL_law tb G E) {b0 Ls : Nat} {xs : Nat → Int32} (hX : zScr E G b0 Ls xs) (hLs : Ls ≤ 3072) {c x out t : Nat} (hi : 6 * t + 6 ≤ Ls) (hP : zLS M c x out t) (ht : t ≤ 600) (hb : 15 ≤ b) {o5 o6 : Option Value} (kk : ∀ M' b' o5 o6, b ≤ b' + 15 → zLS M' c x out (t + 1) → WW E G (zyu mL_law) Q M' b' 1763 [some (.ref b0), some (.ref c), some (.ref x), some (.ref out), some (.int (nI (6 * t))), o5, o6] []) : WW E G (zyu mL_law) Q M b 876 [some (.ref b0), some (.ref c), some (.ref x), some (.ref out), some (.int (nI (6 * t))), o5, o6] [] := by
  refine zq_aload_n K dL_law_876 rfl rfl ?_
  refine zq_aload_n K dL_law_877 rfl rfl ?_
  refine zq_iload K dL_law_878 rfl ?_
  refine zq_iconst K dL_law_880 (v := nI 1) (by decide) ?_
  refine zq_iaddN K (x := 6 * t) (y := 1) dL_law_881 ?_
  refine zq_sld K hX (6 * t + 1) dL_law_882 rfl (by omega) (by omega) ?_
  refine zq_aload_n K dL_law_883 rfl rfl ?_
  refine zq_iload K dL_law_884 rfl ?_
  refine zq_iconst K dL_law_886 (v := nI 2) (by decide) ?_
  refine zq_iaddN K (x := 6 * t) (y := 2) dL_law_887 ?_
  refine zq_sld K hX (6 * t + 2) dL_law_888 rfl (by omega) (by omega) ?_
  refine zq_aload_n K dL_law_889 rfl rfl ?_
  refine zq_callW (As := [.ref c, .int (xs (6 * t + 1)), .int (xs (6 * t + 2)), .ref out]) K dL_law_890 zyL_split zm_L_141 zsL_split rfl (by decide) rfl rfl (Nat.le_of_ble_eq_true rfl) (Nat.le_trans (show zyu mL_split ≤ 15 by decide) hb) (ct_L_split hP (xs (6 * t + 1)) (xs (6 * t + 2))) (zLP_r (fun M1 k v W B q w A A' hk hP1 hS1 hr hp => ?_)) zLP_x (Nat.le_refl _)
  refine zq_istore K dL_law_893 (by decide) ?_
  refine zq_aload_n K dL_law_895 rfl rfl ?_
  refine zq_aload_n K dL_law_896 rfl rfl ?_
  refine zq_iload K dL_law_897 rfl ?_
  refine zq_iconst K dL_law_899 (v := nI 1) (by decide) ?_
  refine zq_iaddN K (x := 6 * t) (y := 1) dL_law_900 ?_
  refine zq_sld K hX (6 * t + 1) dL_law_901 rfl (by omega) (by omega) ?_
  refine zq_aload_n K dL_law_902 rfl rfl ?_
  refine zq_iload K dL_law_903 rfl ?_
  refine zq_iconst K dL_law_905 (v := nI 2) (by decide) ?_
  refine zq_iaddN K (x := 6 * t) (y := 2) dL_law_906 ?_
  refine zq_sld K hX (6 * t + 2) dL_law_907 rfl (by omega) (by omega) ?_
  refine zq_callV (As := [.int (xs (6 * t + 1)), .int (xs (6 * t + 2))]) K dL_law_908 zyX3_split zm_L_144 ziX3_split zvX3_split zclX3 rfl (by decide) rfl rfl (Nat.le_of_ble_eq_true rfl) (Nat.zero_le _) hP1.2.1.1 (hr G M1 x q w hP1.2.1) (zRP_r zSm.rf (fun M2 hR2 hS2 => ?_)) zRP_x (Nat.le_refl _)
  have hP2 := hP1.ref hR2 hS2
  refine zq_istore K dL_law_911 (by decide) ?_
  refine zq_aload_n K dL_law_913 rfl rfl ?_
  refine zq_callV (As := []) K dL_law_914 zyX3_thrown zm_L_108 ziX3_thrown zvX3_thrown zclX3 rfl (by decide) rfl rfl (Nat.le_of_ble_eq_true rfl) (Nat.zero_le _) hR2.1 (ct_X3_thrown hR2) (zone_r ?_) zone_x (Nat.le_refl _)
  refine zq_iload K dL_law_917 rfl ?_
  refine zq_icmp_eqN K (x := k) (y := k) 924 dL_law_919 (by decide) ⟨by omega, by omega⟩ (fun _ => ?_) (fun hne => absurd rfl hne)
  refine zq_iload K dL_law_924 rfl ?_
  refine zq_if_neN K (x := k) 941 dL_law_926 (by decide) (by omega) (fun hk0 => ?_) (fun hk0 => ?_)
  · refine zq_goto K 1763 dL_law_941 (by decide) ?_
    exact kk M2 _ _ _ (show b ≤ b - 4 - 0 - 0 + 15 by omega) ⟨W, B, q, nI k, A', hP2.1, hS1⟩
  · refine zq_aload_n K dL_law_929 rfl rfl ?_
    refine zq_iconst K dL_law_930 (v := nI 0) (by decide) ?_
    refine zq_lald K 0 dL_law_931 hP2.1.2.2.2.2.1 rfl (by rw [hP2.1.2.2.2.2.2]; decide) (by rw [hP2.1.2.2.2.2.2]; decide) ?_
    refine zq_iload K dL_law_932 rfl ?_
    refine zq_i2l K dL_law_934 ?_
    refine zq_lcmp K dL_law_935 ?_
    refine zq_top (v := nI 0) (zcmp_eq (hP2.2.trans (hp hk0))) ?_
    refine zq_if_eqN K (x := 0) 941 dL_law_936 (by decide) (by decide) (fun _ => ?_) (fun hne => absurd rfl hne)
    refine zq_goto K 1763 dL_law_941 (by decide) ?_
    exact kk M2 _ _ _ (show b ≤ b - 4 - 0 - 0 + 15 by omega) ⟨W, B, q, nI k, A', hP2.1, hS1⟩
theorem cs_merge {tb : List ExceptionTableEntry} {E : ZE} {G : ZG} {Q : State → Prop} {M : ZM} {b : Nat} (K : zOK mL_law tb G E) {b0 Ls : Nat} {xs : Nat → Int32} (hX : zScr E G b0 Ls xs) (hLs : Ls ≤ 3072) {c x out t : Nat} (hi : 6 * t + 6 ≤ Ls) (hP : zLS M c x out t) (ht : t ≤ 600) (hb : 15 ≤ b) {o5 o6 : Option Value} (kk : ∀ M' b' o5 o6, b ≤ b' + 15 → zLS M' c x out (t + 1) → WW E G (zyu mL_law) Q M' b' 1763 [some (.ref b0), some (.ref c), some (.ref x), some (.ref out), some (.int (nI (6 * t))), o5, o6] []) : WW E G (zyu mL_law) Q M b 944 [some (.ref b0), some (.ref c), some (.ref x), some (.ref out), some (.int (nI (6 * t))), o5, o6] [] := by
  refine zq_aload_n K dL_law_944 rfl rfl ?_
  refine zq_aload_n K dL_law_945 rfl rfl ?_
  refine zq_iload K dL_law_946 rfl ?_
  refine zq_iconst K dL_law_948 (v := nI 1) (by decide) ?_
  refine zq_iaddN K (x := 6 * t) (y := 1) dL_law_949 ?_
  refine zq_sld K hX (6 * t + 1) dL_law_950 rfl (by omega) (by omega) ?_
  refine zq_aload_n K dL_law_951 rfl rfl ?_
  refine zq_iload K dL_law_952 rfl ?_
  refine zq_iconst K dL_law_954 (v := nI 2) (by decide) ?_
  refine zq_iaddN K (x := 6 * t) (y := 2) dL_law_955 ?_
  refine zq_sld K hX (6 * t + 2) dL_law_956 rfl (by omega) (by omega) ?_
  refine zq_aload_n K dL_law_957 rfl rfl ?_
  refine zq_callW (As := [.ref c, .int (xs (6 * t + 1)), .int (xs (6 * t + 2)), .ref out]) K dL_law_958 zyL_merge zm_L_145 zsL_merge rfl (by decide) rfl rfl (Nat.le_of_ble_eq_true rfl) (Nat.le_trans (show zyu mL_merge ≤ 15 by decide) hb) (ct_L_merge hP (xs (6 * t + 1)) (xs (6 * t + 2))) (zLP_r (fun M1 k v W B q w A A' hk hP1 hS1 hr hp => ?_)) zLP_x (Nat.le_refl _)
  refine zq_istore K dL_law_961 (by decide) ?_
  refine zq_aload_n K dL_law_963 rfl rfl ?_
  refine zq_aload_n K dL_law_964 rfl rfl ?_
  refine zq_iload K dL_law_965 rfl ?_
  refine zq_iconst K dL_law_967 (v := nI 1) (by decide) ?_
  refine zq_iaddN K (x := 6 * t) (y := 1) dL_law_968 ?_
  refine zq_sld K hX (6 * t + 1) dL_law_969 rfl (by omega) (by omega) ?_
  refine zq_aload_n K dL_law_970 rfl rfl ?_
  refine zq_iload K dL_law_971 rfl ?_
  refine zq_iconst K dL_law_973 (v := nI 2) (by decide) ?_
  refine zq_iaddN K (x := 6 * t) (y := 2) dL_law_974 ?_
  refine zq_sld K hX (6 * t + 2) dL_law_975 rfl (by omega) (by omega) ?_
  refine zq_callV (As := [.int (xs (6 * t + 1)), .int (xs (6 * t + 2))]) K dL_law_976 zyX3_merge zm_L_147 ziX3_merge zvX3_merge zclX3 rfl (by decide) rfl rfl (Nat.le_of_ble_eq_true rfl) (Nat.zero_le _) hP1.2.1.1 (hr G M1 x q w hP1.2.1) (zRP_r zSm.rf (fun M2 hR2 hS2 => ?_)) zRP_x (Nat.le_refl _)
  have hP2 := hP1.ref hR2 hS2
  refine zq_istore K dL_law_979 (by decide) ?_
  refine zq_aload_n K dL_law_981 rfl rfl ?_
  refine zq_callV (As := []) K dL_law_982 zyX3_thrown zm_L_108 ziX3_thrown zvX3_thrown zclX3 rfl (by decide) rfl rfl (Nat.le_of_ble_eq_true rfl) (Nat.zero_le _) hR2.1 (ct_X3_thrown hR2) (zone_r ?_) zone_x (Nat.le_refl _)
  refine zq_iload K dL_law_985 rfl ?_
  refine zq_icmp_eqN K (x := k) (y := k) 992 dL_law_987 (by decide) ⟨by omega, by omega⟩ (fun _ => ?_) (fun hne => absurd rfl hne)
  refine zq_iload K dL_law_992 rfl ?_
  refine zq_if_neN K (x := k) 1009 dL_law_994 (by decide) (by omega) (fun hk0 => ?_) (fun hk0 => ?_)
  · refine zq_goto K 1763 dL_law_1009 (by decide) ?_
    exact kk M2 _ _ _ (show b ≤ b - 5 - 0 - 0 + 15 by omega) ⟨W, B, q, nI k, A', hP2.1, hS1⟩
  · refine zq_aload_n K dL_law_997 rfl rfl ?_
    refine zq_iconst K dL_law_998 (v := nI 0) (by decide) ?_
    refine zq_lald K 0 dL_law_999 hP2.1.2.2.2.2.1 rfl (by rw [hP2.1.2.2.2.2.2]; decide) (by rw [hP2.1.2.2.2.2.2]; decide) ?_
    refine zq_iload K dL_law_1000 rfl ?_
    refine zq_i2l K dL_law_1002 ?_
    refine zq_lcmp K dL_law_1003 ?_
    refine zq_top (v := nI 0) (zcmp_eq (hP2.2.trans (hp hk0))) ?_
    refine zq_if_eqN K (x := 0) 1009 dL_law_1004 (by decide) (by decide) (fun _ => ?_) (fun hne => absurd rfl hne)
    refine zq_goto K 1763 dL_law_1009 (by decide) ?_
    exact kk M2 _ _ _ (show b ≤ b - 5 - 0 - 0 + 15 by omega) ⟨W, B, q, nI k, A', hP2.1, hS1⟩
theorem cs_fragments {tb : List ExceptionTableEntry} {E : ZE} {G : ZG} {Q : State → Prop} {M : ZM} {b : Nat} (K : zOK mL_law tb G E) {b0 Ls : Nat} {xs : Nat → Int32} (hX : zScr E G b0 Ls xs) (hLs : Ls ≤ 3072) {c x out t : Nat} (hi : 6 * t + 6 ≤ Ls) (hP : zLS M c x out t) (ht : t ≤ 600) (hb : 15 ≤ b) {o5 o6 : Option Value} (kk : ∀ M' b' o5 o6, b ≤ b' + 15 → zLS M' c x out (t + 1) → WW E G (zyu mL_law) Q M' b' 1763 [some (.ref b0), some (.ref c), some (.ref x), some (.ref out), some (.int (nI (6 * t))), o5, o6] []) : WW E G (zyu mL_law) Q M b 1012 [some (.ref b0), some (.ref c), some (.ref x), some (.ref out), some (.int (nI (6 * t))), o5, o6] [] := by
  refine zq_aload_n K dL_law_1012 rfl rfl ?_
  refine zq_aload_n K dL_law_1013 rfl rfl ?_
  refine zq_iload K dL_law_1014 rfl ?_
  refine zq_iconst K dL_law_1016 (v := nI 1) (by decide) ?_
  refine zq_iaddN K (x := 6 * t) (y := 1) dL_law_1017 ?_
  refine zq_sld K hX (6 * t + 1) dL_law_1018 rfl (by omega) (by omega) ?_
  refine zq_aload_n K dL_law_1019 rfl rfl ?_
  refine zq_callW (As := [.ref c, .int (xs (6 * t + 1)), .ref out]) K dL_law_1020 zyL_fragments zm_L_148 zsL_fragments rfl (by decide) rfl rfl (Nat.le_of_ble_eq_true rfl) (Nat.le_trans (show zyu mL_fragments ≤ 15 by decide) hb) (ct_L_fragments hP (xs (6 * t + 1))) (zLP_r (fun M1 k v W B q w A A' hk hP1 hS1 hr hp => ?_)) zLP_x (Nat.le_refl _)
  refine zq_istore K dL_law_1023 (by decide) ?_
  refine zq_aload_n K dL_law_1025 rfl rfl ?_
  refine zq_aload_n K dL_law_1026 rfl rfl ?_
  refine zq_iload K dL_law_1027 rfl ?_
  refine zq_iconst K dL_law_1029 (v := nI 1) (by decide) ?_
  refine zq_iaddN K (x := 6 * t) (y := 1) dL_law_1030 ?_
  refine zq_sld K hX (6 * t + 1) dL_law_1031 rfl (by omega) (by omega) ?_
  refine zq_callV (As := [.int (xs (6 * t + 1))]) K dL_law_1032 zyX3_fragments zm_L_150 ziX3_fragments zvX3_fragments zclX3 rfl (by decide) rfl rfl (Nat.le_of_ble_eq_true rfl) (Nat.zero_le _) hP1.2.1.1 (hr G M1 x q w hP1.2.1) (zRP_r zSm.rf (fun M2 hR2 hS2 => ?_)) zRP_x (Nat.le_refl _)
  have hP2 := hP1.ref hR2 hS2
  refine zq_istore K dL_law_1035 (by decide) ?_
  refine zq_aload_n K dL_law_1037 rfl rfl ?_
  refine zq_callV (As := []) K dL_law_1038 zyX3_thrown zm_L_108 ziX3_thrown zvX3_thrown zclX3 rfl (by decide) rfl rfl (Nat.le_of_ble_eq_true rfl) (Nat.zero_le _) hR2.1 (ct_X3_thrown hR2) (zone_r ?_) zone_x (Nat.le_refl _)
  refine zq_iload K dL_law_1041 rfl ?_
  refine zq_icmp_eqN K (x := k) (y := k) 1048 dL_law_1043 (by decide) ⟨by omega, by omega⟩ (fun _ => ?_) (fun hne => absurd rfl hne)
  refine zq_iload K dL_law_1048 rfl ?_
  refine zq_if_neN K (x := k) 1065 dL_law_1050 (by decide) (by omega) (fun hk0 => ?_) (fun hk0 => ?_)
  · refine zq_goto K 1763 dL_law_1065 (by decide) ?_
    exact kk M2 _ _ _ (show b ≤ b - 1 - 0 - 0 + 15 by omega) ⟨W, B, q, nI k, A', hP2.1, hS1⟩
  · refine zq_aload_n K dL_law_1053 rfl rfl ?_
    refine zq_iconst K dL_law_1054 (v := nI 0) (by decide) ?_
    refine zq_lald K 0 dL_law_1055 hP2.1.2.2.2.2.1 rfl (by rw [hP2.1.2.2.2.2.2]; decide) (by rw [hP2.1.2.2.2.2.2]; decide) ?_
    refine zq_iload K dL_law_1056 rfl ?_
    refine zq_i2l K dL_law_1058 ?_
    refine zq_lcmp K dL_law_1059 ?_
    refine zq_top (v := nI 0) (zcmp_eq (hP2.2.trans (hp hk0))) ?_
    refine zq_if_eqN K (x := 0) 1065 dL_law_1060 (by decide) (by decide) (fun _ => ?_) (fun hne => absurd rfl hne)
    refine zq_goto K 1763 dL_law_1065 (by decide) ?_
    exact kk M2 _ _ _ (show b ≤ b - 1 - 0 - 0 + 15 by omega) ⟨W, B, q, nI k, A', hP2.1, hS1⟩
theorem cs_serverOf {tb : List ExceptionTableEntry} {E : ZE} {G : ZG} {Q : State → Prop} {M : ZM} {b : Nat} (K : zOK mL_law tb G E) {b0 Ls : Nat} {xs : Nat → Int32} (hX : zScr E G b0 Ls xs) (hLs : Ls ≤ 3072) {c x out t : Nat} (hi : 6 * t + 6 ≤ Ls) (hP : zLS M c x out t) (ht : t ≤ 600) (hb : 15 ≤ b) {o5 o6 : Option Value} (kk : ∀ M' b' o5 o6, b ≤ b' + 15 → zLS M' c x out (t + 1) → WW E G (zyu mL_law) Q M' b' 1763 [some (.ref b0), some (.ref c), some (.ref x), some (.ref out), some (.int (nI (6 * t))), o5, o6] []) : WW E G (zyu mL_law) Q M b 1068 [some (.ref b0), some (.ref c), some (.ref x), some (.ref out), some (.int (nI (6 * t))), o5, o6] [] := by
  refine zq_aload_n K dL_law_1068 rfl rfl ?_
  refine zq_aload_n K dL_law_1069 rfl rfl ?_
  refine zq_iload K dL_law_1070 rfl ?_
  refine zq_iconst K dL_law_1072 (v := nI 1) (by decide) ?_
  refine zq_iaddN K (x := 6 * t) (y := 1) dL_law_1073 ?_
  refine zq_sld K hX (6 * t + 1) dL_law_1074 rfl (by omega) (by omega) ?_
  refine zq_aload_n K dL_law_1075 rfl rfl ?_
  refine zq_iload K dL_law_1076 rfl ?_
  refine zq_iconst K dL_law_1078 (v := nI 2) (by decide) ?_
  refine zq_iaddN K (x := 6 * t) (y := 2) dL_law_1079 ?_
  refine zq_sld K hX (6 * t + 2) dL_law_1080 rfl (by omega) (by omega) ?_
  refine zq_aload_n K dL_law_1081 rfl rfl ?_
  refine zq_callW (As := [.ref c, .int (xs (6 * t + 1)), .int (xs (6 * t + 2)), .ref out]) K dL_law_1082 zyL_serverOf zm_L_151 zsL_serverOf rfl (by decide) rfl rfl (Nat.le_of_ble_eq_true rfl) (Nat.le_trans (show zyu mL_serverOf ≤ 15 by decide) hb) (ct_L_serverOf hP (xs (6 * t + 1)) (xs (6 * t + 2))) (zLP_r (fun M1 k v W B q w A A' hk hP1 hS1 hr hp => ?_)) zLP_x (Nat.le_refl _)
  refine zq_istore K dL_law_1085 (by decide) ?_
  refine zq_aload_n K dL_law_1087 rfl rfl ?_
  refine zq_aload_n K dL_law_1088 rfl rfl ?_
  refine zq_iload K dL_law_1089 rfl ?_
  refine zq_iconst K dL_law_1091 (v := nI 1) (by decide) ?_
  refine zq_iaddN K (x := 6 * t) (y := 1) dL_law_1092 ?_
  refine zq_sld K hX (6 * t + 1) dL_law_1093 rfl (by omega) (by omega) ?_
  refine zq_aload_n K dL_law_1094 rfl rfl ?_
  refine zq_iload K dL_law_1095 rfl ?_
  refine zq_iconst K dL_law_1097 (v := nI 2) (by decide) ?_
  refine zq_iaddN K (x := 6 * t) (y := 2) dL_law_1098 ?_
  refine zq_sld K hX (6 * t + 2) dL_law_1099 rfl (by omega) (by omega) ?_
  refine zq_callV (As := [.int (xs (6 * t + 1)), .int (xs (6 * t + 2))]) K dL_law_1100 zyX3_serverOf zm_L_153 ziX3_serverOf zvX3_serverOf zclX3 rfl (by decide) rfl rfl (Nat.le_of_ble_eq_true rfl) (Nat.zero_le _) hP1.2.1.1 (hr G M1 x q w hP1.2.1) (zRP_r zSm.rf (fun M2 hR2 hS2 => ?_)) zRP_x (Nat.le_refl _)
  have hP2 := hP1.ref hR2 hS2
  refine zq_istore K dL_law_1103 (by decide) ?_
  refine zq_aload_n K dL_law_1105 rfl rfl ?_
  refine zq_callV (As := []) K dL_law_1106 zyX3_thrown zm_L_108 ziX3_thrown zvX3_thrown zclX3 rfl (by decide) rfl rfl (Nat.le_of_ble_eq_true rfl) (Nat.zero_le _) hR2.1 (ct_X3_thrown hR2) (zone_r ?_) zone_x (Nat.le_refl _)
  refine zq_iload K dL_law_1109 rfl ?_
  refine zq_icmp_eqN K (x := k) (y := k) 1116 dL_law_1111 (by decide) ⟨by omega, by omega⟩ (fun _ => ?_) (fun hne => absurd rfl hne)
  refine zq_iload K dL_law_1116 rfl ?_
  refine zq_if_neN K (x := k) 1133 dL_law_1118 (by decide) (by omega) (fun hk0 => ?_) (fun hk0 => ?_)
  · refine zq_goto K 1763 dL_law_1133 (by decide) ?_
    exact kk M2 _ _ _ (show b ≤ b - 2 - 0 - 0 + 15 by omega) ⟨W, B, q, nI k, A', hP2.1, hS1⟩
  · refine zq_aload_n K dL_law_1121 rfl rfl ?_
    refine zq_iconst K dL_law_1122 (v := nI 0) (by decide) ?_
    refine zq_lald K 0 dL_law_1123 hP2.1.2.2.2.2.1 rfl (by rw [hP2.1.2.2.2.2.2]; decide) (by rw [hP2.1.2.2.2.2.2]; decide) ?_
    refine zq_iload K dL_law_1124 rfl ?_
    refine zq_i2l K dL_law_1126 ?_
    refine zq_lcmp K dL_law_1127 ?_
    refine zq_top (v := nI 0) (zcmp_eq (hP2.2.trans (hp hk0))) ?_
    refine zq_if_eqN K (x := 0) 1133 dL_law_1128 (by decide) (by decide) (fun _ => ?_) (fun hne => absurd rfl hne)
    refine zq_goto K 1763 dL_law_1133 (by decide) ?_
    exact kk M2 _ _ _ (show b ≤ b - 2 - 0 - 0 + 15 by omega) ⟨W, B, q, nI k, A', hP2.1, hS1⟩
theorem cs_ownerOf {tb : List ExceptionTableEntry} {E : ZE} {G : ZG} {Q : State → Prop} {M : ZM} {b : Nat} (K : zOK mL_law tb G E) {b0 Ls : Nat} {xs : Nat → Int32} (hX : zScr E G b0 Ls xs) (hLs : Ls ≤ 3072) {c x out t : Nat} (hi : 6 * t + 6 ≤ Ls) (hP : zLS M c x out t) (ht : t ≤ 600) (hb : 15 ≤ b) {o5 o6 : Option Value} (kk : ∀ M' b' o5 o6, b ≤ b' + 15 → zLS M' c x out (t + 1) → WW E G (zyu mL_law) Q M' b' 1763 [some (.ref b0), some (.ref c), some (.ref x), some (.ref out), some (.int (nI (6 * t))), o5, o6] []) : WW E G (zyu mL_law) Q M b 1136 [some (.ref b0), some (.ref c), some (.ref x), some (.ref out), some (.int (nI (6 * t))), o5, o6] [] := by
  refine zq_aload_n K dL_law_1136 rfl rfl ?_
  refine zq_aload_n K dL_law_1137 rfl rfl ?_
  refine zq_iload K dL_law_1138 rfl ?_
  refine zq_iconst K dL_law_1140 (v := nI 1) (by decide) ?_
  refine zq_iaddN K (x := 6 * t) (y := 1) dL_law_1141 ?_
  refine zq_sld K hX (6 * t + 1) dL_law_1142 rfl (by omega) (by omega) ?_
  refine zq_aload_n K dL_law_1143 rfl rfl ?_
  refine zq_iload K dL_law_1144 rfl ?_
  refine zq_iconst K dL_law_1146 (v := nI 2) (by decide) ?_
  refine zq_iaddN K (x := 6 * t) (y := 2) dL_law_1147 ?_
  refine zq_sld K hX (6 * t + 2) dL_law_1148 rfl (by omega) (by omega) ?_
  refine zq_aload_n K dL_law_1149 rfl rfl ?_
  refine zq_callW (As := [.ref c, .int (xs (6 * t + 1)), .int (xs (6 * t + 2)), .ref out]) K dL_law_1150 zyL_ownerOf zm_L_154 zsL_ownerOf rfl (by decide) rfl rfl (Nat.le_of_ble_eq_true rfl) (Nat.le_trans (show zyu mL_ownerOf ≤ 15 by decide) hb) (ct_L_ownerOf hP (xs (6 * t + 1)) (xs (6 * t + 2))) (zLP_r (fun M1 k v W B q w A A' hk hP1 hS1 hr hp => ?_)) zLP_x (Nat.le_refl _)
  refine zq_istore K dL_law_1153 (by decide) ?_
  refine zq_aload_n K dL_law_1155 rfl rfl ?_
  refine zq_aload_n K dL_law_1156 rfl rfl ?_
  refine zq_iload K dL_law_1157 rfl ?_
  refine zq_iconst K dL_law_1159 (v := nI 1) (by decide) ?_
  refine zq_iaddN K (x := 6 * t) (y := 1) dL_law_1160 ?_
  refine zq_sld K hX (6 * t + 1) dL_law_1161 rfl (by omega) (by omega) ?_
  refine zq_aload_n K dL_law_1162 rfl rfl ?_
  refine zq_iload K dL_law_1163 rfl ?_
  refine zq_iconst K dL_law_1165 (v := nI 2) (by decide) ?_
  refine zq_iaddN K (x := 6 * t) (y := 2) dL_law_1166 ?_
  refine zq_sld K hX (6 * t + 2) dL_law_1167 rfl (by omega) (by omega) ?_
  refine zq_callV (As := [.int (xs (6 * t + 1)), .int (xs (6 * t + 2))]) K dL_law_1168 zyX3_ownerOf zm_L_156 ziX3_ownerOf zvX3_ownerOf zclX3 rfl (by decide) rfl rfl (Nat.le_of_ble_eq_true rfl) (Nat.zero_le _) hP1.2.1.1 (hr G M1 x q w hP1.2.1) (zRP_r zSm.rf (fun M2 hR2 hS2 => ?_)) zRP_x (Nat.le_refl _)
  have hP2 := hP1.ref hR2 hS2
  refine zq_istore K dL_law_1171 (by decide) ?_
  refine zq_aload_n K dL_law_1173 rfl rfl ?_
  refine zq_callV (As := []) K dL_law_1174 zyX3_thrown zm_L_108 ziX3_thrown zvX3_thrown zclX3 rfl (by decide) rfl rfl (Nat.le_of_ble_eq_true rfl) (Nat.zero_le _) hR2.1 (ct_X3_thrown hR2) (zone_r ?_) zone_x (Nat.le_refl _)
  refine zq_iload K dL_law_1177 rfl ?_
  refine zq_icmp_eqN K (x := k) (y := k) 1184 dL_law_1179 (by decide) ⟨by omega, by omega⟩ (fun _ => ?_) (fun hne => absurd rfl hne)
  refine zq_iload K dL_law_1184 rfl ?_
  refine zq_if_neN K (x := k) 1201 dL_law_1186 (by decide) (by omega) (fun hk0 => ?_) (fun hk0 => ?_)
  · refine zq_goto K 1763 dL_law_1201 (by decide) ?_
    exact kk M2 _ _ _ (show b ≤ b - 2 - 0 - 0 + 15 by omega) ⟨W, B, q, nI k, A', hP2.1, hS1⟩
  · refine zq_aload_n K dL_law_1189 rfl rfl ?_
    refine zq_iconst K dL_law_1190 (v := nI 0) (by decide) ?_
    refine zq_lald K 0 dL_law_1191 hP2.1.2.2.2.2.1 rfl (by rw [hP2.1.2.2.2.2.2]; decide) (by rw [hP2.1.2.2.2.2.2]; decide) ?_
    refine zq_iload K dL_law_1192 rfl ?_
    refine zq_i2l K dL_law_1194 ?_
    refine zq_lcmp K dL_law_1195 ?_
    refine zq_top (v := nI 0) (zcmp_eq (hP2.2.trans (hp hk0))) ?_
    refine zq_if_eqN K (x := 0) 1201 dL_law_1196 (by decide) (by decide) (fun _ => ?_) (fun hne => absurd rfl hne)
    refine zq_goto K 1763 dL_law_1201 (by decide) ?_
    exact kk M2 _ _ _ (show b ≤ b - 2 - 0 - 0 + 15 by omega) ⟨W, B, q, nI k, A', hP2.1, hS1⟩
theorem cs_load {tb : List ExceptionTableEntry} {E : ZE} {G : ZG} {Q : State → Prop} {M : ZM} {b : Nat} (K : zOK mL_law tb G E) {b0 Ls : Nat} {xs : Nat → Int32} (hX : zScr E G b0 Ls xs) (hLs : Ls ≤ 3072) {c x out t : Nat} (hi : 6 * t + 6 ≤ Ls) (hP : zLS M c x out t) (ht : t ≤ 600) (hb : 15 ≤ b) {o5 o6 : Option Value} (kk : ∀ M' b' o5 o6, b ≤ b' + 15 → zLS M' c x out (t + 1) → WW E G (zyu mL_law) Q M' b' 1763 [some (.ref b0), some (.ref c), some (.ref x), some (.ref out), some (.int (nI (6 * t))), o5, o6] []) : WW E G (zyu mL_law) Q M b 1204 [some (.ref b0), some (.ref c), some (.ref x), some (.ref out), some (.int (nI (6 * t))), o5, o6] [] := by
  refine zq_aload_n K dL_law_1204 rfl rfl ?_
  refine zq_aload_n K dL_law_1205 rfl rfl ?_
  refine zq_iload K dL_law_1206 rfl ?_
  refine zq_iconst K dL_law_1208 (v := nI 1) (by decide) ?_
  refine zq_iaddN K (x := 6 * t) (y := 1) dL_law_1209 ?_
  refine zq_sld K hX (6 * t + 1) dL_law_1210 rfl (by omega) (by omega) ?_
  refine zq_aload_n K dL_law_1211 rfl rfl ?_
  refine zq_callW (As := [.ref c, .int (xs (6 * t + 1)), .ref out]) K dL_law_1212 zyL_load zm_L_157 zsL_load rfl (by decide) rfl rfl (Nat.le_of_ble_eq_true rfl) (Nat.le_trans (show zyu mL_load ≤ 15 by decide) hb) (ct_L_load hP (xs (6 * t + 1))) (zLP_r (fun M1 k v W B q w A A' hk hP1 hS1 hr hp => ?_)) zLP_x (Nat.le_refl _)
  refine zq_istore K dL_law_1215 (by decide) ?_
  refine zq_aload_n K dL_law_1217 rfl rfl ?_
  refine zq_aload_n K dL_law_1218 rfl rfl ?_
  refine zq_iload K dL_law_1219 rfl ?_
  refine zq_iconst K dL_law_1221 (v := nI 1) (by decide) ?_
  refine zq_iaddN K (x := 6 * t) (y := 1) dL_law_1222 ?_
  refine zq_sld K hX (6 * t + 1) dL_law_1223 rfl (by omega) (by omega) ?_
  refine zq_callV (As := [.int (xs (6 * t + 1))]) K dL_law_1224 zyX3_load zm_L_159 ziX3_load zvX3_load zclX3 rfl (by decide) rfl rfl (Nat.le_of_ble_eq_true rfl) (Nat.zero_le _) hP1.2.1.1 (hr G M1 x q w hP1.2.1) (zRP_r zSm.rf (fun M2 hR2 hS2 => ?_)) zRP_x (Nat.le_refl _)
  have hP2 := hP1.ref hR2 hS2
  refine zq_istore K dL_law_1227 (by decide) ?_
  refine zq_aload_n K dL_law_1229 rfl rfl ?_
  refine zq_callV (As := []) K dL_law_1230 zyX3_thrown zm_L_108 ziX3_thrown zvX3_thrown zclX3 rfl (by decide) rfl rfl (Nat.le_of_ble_eq_true rfl) (Nat.zero_le _) hR2.1 (ct_X3_thrown hR2) (zone_r ?_) zone_x (Nat.le_refl _)
  refine zq_iload K dL_law_1233 rfl ?_
  refine zq_icmp_eqN K (x := k) (y := k) 1240 dL_law_1235 (by decide) ⟨by omega, by omega⟩ (fun _ => ?_) (fun hne => absurd rfl hne)
  refine zq_iload K dL_law_1240 rfl ?_
  refine zq_if_neN K (x := k) 1257 dL_law_1242 (by decide) (by omega) (fun hk0 => ?_) (fun hk0 => ?_)
  · refine zq_goto K 1763 dL_law_1257 (by decide) ?_
    exact kk M2 _ _ _ (show b ≤ b - 1 - 0 - 0 + 15 by omega) ⟨W, B, q, nI k, A', hP2.1, hS1⟩
  · refine zq_aload_n K dL_law_1245 rfl rfl ?_
    refine zq_iconst K dL_law_1246 (v := nI 0) (by decide) ?_
    refine zq_lald K 0 dL_law_1247 hP2.1.2.2.2.2.1 rfl (by rw [hP2.1.2.2.2.2.2]; decide) (by rw [hP2.1.2.2.2.2.2]; decide) ?_
    refine zq_iload K dL_law_1248 rfl ?_
    refine zq_i2l K dL_law_1250 ?_
    refine zq_lcmp K dL_law_1251 ?_
    refine zq_top (v := nI 0) (zcmp_eq (hP2.2.trans (hp hk0))) ?_
    refine zq_if_eqN K (x := 0) 1257 dL_law_1252 (by decide) (by decide) (fun _ => ?_) (fun hne => absurd rfl hne)
    refine zq_goto K 1763 dL_law_1257 (by decide) ?_
    exact kk M2 _ _ _ (show b ≤ b - 1 - 0 - 0 + 15 by omega) ⟨W, B, q, nI k, A', hP2.1, hS1⟩
theorem cs_beginMove {tb : List ExceptionTableEntry} {E : ZE} {G : ZG} {Q : State → Prop} {M : ZM} {b : Nat} (K : zOK mL_law tb G E) {b0 Ls : Nat} {xs : Nat → Int32} (hX : zScr E G b0 Ls xs) (hLs : Ls ≤ 3072) {c x out t : Nat} (hi : 6 * t + 6 ≤ Ls) (hP : zLS M c x out t) (ht : t ≤ 600) (hb : 15 ≤ b) {o5 o6 : Option Value} (kk : ∀ M' b' o5 o6, b ≤ b' + 15 → zLS M' c x out (t + 1) → WW E G (zyu mL_law) Q M' b' 1763 [some (.ref b0), some (.ref c), some (.ref x), some (.ref out), some (.int (nI (6 * t))), o5, o6] []) : WW E G (zyu mL_law) Q M b 1260 [some (.ref b0), some (.ref c), some (.ref x), some (.ref out), some (.int (nI (6 * t))), o5, o6] [] := by
  refine zq_aload_n K dL_law_1260 rfl rfl ?_
  refine zq_aload_n K dL_law_1261 rfl rfl ?_
  refine zq_iload K dL_law_1262 rfl ?_
  refine zq_iconst K dL_law_1264 (v := nI 1) (by decide) ?_
  refine zq_iaddN K (x := 6 * t) (y := 1) dL_law_1265 ?_
  refine zq_sld K hX (6 * t + 1) dL_law_1266 rfl (by omega) (by omega) ?_
  refine zq_aload_n K dL_law_1267 rfl rfl ?_
  refine zq_iload K dL_law_1268 rfl ?_
  refine zq_iconst K dL_law_1270 (v := nI 2) (by decide) ?_
  refine zq_iaddN K (x := 6 * t) (y := 2) dL_law_1271 ?_
  refine zq_sld K hX (6 * t + 2) dL_law_1272 rfl (by omega) (by omega) ?_
  refine zq_aload_n K dL_law_1273 rfl rfl ?_
  refine zq_iload K dL_law_1274 rfl ?_
  refine zq_iconst K dL_law_1276 (v := nI 3) (by decide) ?_
  refine zq_iaddN K (x := 6 * t) (y := 3) dL_law_1277 ?_
  refine zq_sld K hX (6 * t + 3) dL_law_1278 rfl (by omega) (by omega) ?_
  refine zq_callW (As := [.ref c, .int (xs (6 * t + 1)), .int (xs (6 * t + 2)), .int (xs (6 * t + 3))]) K dL_law_1279 zyL_beginMove zm_L_160 zsL_beginMove rfl (by decide) rfl rfl (Nat.le_of_ble_eq_true rfl) (Nat.le_trans (show zyu mL_beginMove ≤ 15 by decide) hb) (ct_L_beginMove hP (xs (6 * t + 1)) (xs (6 * t + 2)) (xs (6 * t + 3))) (zLP_r (fun M1 k v W B q w A A' hk hP1 hS1 hr hp => ?_)) zLP_x (Nat.le_refl _)
  refine zq_istore K dL_law_1282 (by decide) ?_
  refine zq_aload_n K dL_law_1284 rfl rfl ?_
  refine zq_aload_n K dL_law_1285 rfl rfl ?_
  refine zq_iload K dL_law_1286 rfl ?_
  refine zq_iconst K dL_law_1288 (v := nI 1) (by decide) ?_
  refine zq_iaddN K (x := 6 * t) (y := 1) dL_law_1289 ?_
  refine zq_sld K hX (6 * t + 1) dL_law_1290 rfl (by omega) (by omega) ?_
  refine zq_aload_n K dL_law_1291 rfl rfl ?_
  refine zq_iload K dL_law_1292 rfl ?_
  refine zq_iconst K dL_law_1294 (v := nI 2) (by decide) ?_
  refine zq_iaddN K (x := 6 * t) (y := 2) dL_law_1295 ?_
  refine zq_sld K hX (6 * t + 2) dL_law_1296 rfl (by omega) (by omega) ?_
  refine zq_aload_n K dL_law_1297 rfl rfl ?_
  refine zq_iload K dL_law_1298 rfl ?_
  refine zq_iconst K dL_law_1300 (v := nI 3) (by decide) ?_
  refine zq_iaddN K (x := 6 * t) (y := 3) dL_law_1301 ?_
  refine zq_sld K hX (6 * t + 3) dL_law_1302 rfl (by omega) (by omega) ?_
  refine zq_callV (As := [.int (xs (6 * t + 1)), .int (xs (6 * t + 2)), .int (xs (6 * t + 3))]) K dL_law_1303 zyX3_beginMove zm_L_163 ziX3_beginMove zvX3_beginMove zclX3 rfl (by decide) rfl rfl (Nat.le_of_ble_eq_true rfl) (Nat.zero_le _) hP1.2.1.1 (hr G M1 x q w hP1.2.1) (zRP_r zSm.rf (fun M2 hR2 hS2 => ?_)) zRP_x (Nat.le_refl _)
  have hP2 := hP1.ref hR2 hS2
  refine zq_aload_n K dL_law_1306 rfl rfl ?_
  refine zq_callV (As := []) K dL_law_1307 zyX3_thrown zm_L_108 ziX3_thrown zvX3_thrown zclX3 rfl (by decide) rfl rfl (Nat.le_of_ble_eq_true rfl) (Nat.zero_le _) hR2.1 (ct_X3_thrown hR2) (zone_r ?_) zone_x (Nat.le_refl _)
  refine zq_iload K dL_law_1310 rfl ?_
  refine zq_icmp_eqN K (x := k) (y := k) 1317 dL_law_1312 (by decide) ⟨by omega, by omega⟩ (fun _ => ?_) (fun hne => absurd rfl hne)
  refine zq_goto K 1763 dL_law_1317 (by decide) ?_
  exact kk M2 _ _ _ (show b ≤ b - 5 - 0 - 0 + 15 by omega) ⟨W, B, q, nI k, A', hP2.1, hS1⟩
theorem cs_stepMove {tb : List ExceptionTableEntry} {E : ZE} {G : ZG} {Q : State → Prop} {M : ZM} {b : Nat} (K : zOK mL_law tb G E) {b0 Ls : Nat} {xs : Nat → Int32} (hX : zScr E G b0 Ls xs) (hLs : Ls ≤ 3072) {c x out t : Nat} (hi : 6 * t + 6 ≤ Ls) (hP : zLS M c x out t) (ht : t ≤ 600) (hb : 15 ≤ b) {o5 o6 : Option Value} (kk : ∀ M' b' o5 o6, b ≤ b' + 15 → zLS M' c x out (t + 1) → WW E G (zyu mL_law) Q M' b' 1763 [some (.ref b0), some (.ref c), some (.ref x), some (.ref out), some (.int (nI (6 * t))), o5, o6] []) : WW E G (zyu mL_law) Q M b 1320 [some (.ref b0), some (.ref c), some (.ref x), some (.ref out), some (.int (nI (6 * t))), o5, o6] [] := by
  refine zq_aload_n K dL_law_1320 rfl rfl ?_
  refine zq_aload_n K dL_law_1321 rfl rfl ?_
  refine zq_callW (As := [.ref c, .ref out]) K dL_law_1322 zyL_stepMove zm_L_164 zsL_stepMove rfl (by decide) rfl rfl (Nat.le_of_ble_eq_true rfl) (Nat.le_trans (show zyu mL_stepMove ≤ 15 by decide) hb) (ct_L_stepMove hP ht) (zLP_r (fun M1 k v W B q w A A' hk hP1 hS1 hr hp => ?_)) zLP_x (Nat.le_refl _)
  refine zq_istore K dL_law_1325 (by decide) ?_
  refine zq_aload_n K dL_law_1327 rfl rfl ?_
  refine zq_callV (As := []) K dL_law_1328 zyX3_stepMove zm_L_167 ziX3_stepMove zvX3_stepMove zclX3 rfl (by decide) rfl rfl (Nat.le_of_ble_eq_true rfl) (Nat.zero_le _) hP1.2.1.1 (hr G M1 x q w hP1.2.1) (zRP_r zSm.rf (fun M2 hR2 hS2 => ?_)) zRP_x (Nat.le_refl _)
  have hP2 := hP1.ref hR2 hS2
  refine zq_istore K dL_law_1331 (by decide) ?_
  refine zq_aload_n K dL_law_1333 rfl rfl ?_
  refine zq_callV (As := []) K dL_law_1334 zyX3_thrown zm_L_108 ziX3_thrown zvX3_thrown zclX3 rfl (by decide) rfl rfl (Nat.le_of_ble_eq_true rfl) (Nat.zero_le _) hR2.1 (ct_X3_thrown hR2) (zone_r ?_) zone_x (Nat.le_refl _)
  refine zq_iload K dL_law_1337 rfl ?_
  refine zq_icmp_eqN K (x := k) (y := k) 1344 dL_law_1339 (by decide) ⟨by omega, by omega⟩ (fun _ => ?_) (fun hne => absurd rfl hne)
  refine zq_iload K dL_law_1344 rfl ?_
  refine zq_if_neN K (x := k) 1361 dL_law_1346 (by decide) (by omega) (fun hk0 => ?_) (fun hk0 => ?_)
  · refine zq_goto K 1763 dL_law_1361 (by decide) ?_
    exact kk M2 _ _ _ (show b ≤ b - 1 - 0 - 0 + 15 by omega) ⟨W, B, q, nI k, A', hP2.1, hS1⟩
  · refine zq_aload_n K dL_law_1349 rfl rfl ?_
    refine zq_iconst K dL_law_1350 (v := nI 0) (by decide) ?_
    refine zq_lald K 0 dL_law_1351 hP2.1.2.2.2.2.1 rfl (by rw [hP2.1.2.2.2.2.2]; decide) (by rw [hP2.1.2.2.2.2.2]; decide) ?_
    refine zq_iload K dL_law_1352 rfl ?_
    refine zq_i2l K dL_law_1354 ?_
    refine zq_lcmp K dL_law_1355 ?_
    refine zq_top (v := nI 0) (zcmp_eq (hP2.2.trans (hp hk0))) ?_
    refine zq_if_eqN K (x := 0) 1361 dL_law_1356 (by decide) (by decide) (fun _ => ?_) (fun hne => absurd rfl hne)
    refine zq_goto K 1763 dL_law_1361 (by decide) ?_
    exact kk M2 _ _ _ (show b ≤ b - 1 - 0 - 0 + 15 by omega) ⟨W, B, q, nI k, A', hP2.1, hS1⟩
theorem cs_giveUpMove {tb : List ExceptionTableEntry} {E : ZE} {G : ZG} {Q : State → Prop} {M : ZM} {b : Nat} (K : zOK mL_law tb G E) {b0 Ls : Nat} {xs : Nat → Int32} (hX : zScr E G b0 Ls xs) (hLs : Ls ≤ 3072) {c x out t : Nat} (hi : 6 * t + 6 ≤ Ls) (hP : zLS M c x out t) (ht : t ≤ 600) (hb : 15 ≤ b) {o5 o6 : Option Value} (kk : ∀ M' b' o5 o6, b ≤ b' + 15 → zLS M' c x out (t + 1) → WW E G (zyu mL_law) Q M' b' 1763 [some (.ref b0), some (.ref c), some (.ref x), some (.ref out), some (.int (nI (6 * t))), o5, o6] []) : WW E G (zyu mL_law) Q M b 1364 [some (.ref b0), some (.ref c), some (.ref x), some (.ref out), some (.int (nI (6 * t))), o5, o6] [] := by
  refine zq_aload_n K dL_law_1364 rfl rfl ?_
  refine zq_aload_n K dL_law_1365 rfl rfl ?_
  refine zq_callW (As := [.ref c, .ref out]) K dL_law_1366 zyL_giveUpMove zm_L_168 zsL_giveUpMove rfl (by decide) rfl rfl (Nat.le_of_ble_eq_true rfl) (Nat.le_trans (show zyu mL_giveUpMove ≤ 15 by decide) hb) (ct_L_giveUpMove hP) (zLP_r (fun M1 k v W B q w A A' hk hP1 hS1 hr hp => ?_)) zLP_x (Nat.le_refl _)
  refine zq_istore K dL_law_1369 (by decide) ?_
  refine zq_aload_n K dL_law_1371 rfl rfl ?_
  refine zq_callV (As := []) K dL_law_1372 zyX3_giveUpMove zm_L_170 ziX3_giveUpMove zvX3_giveUpMove zclX3 rfl (by decide) rfl rfl (Nat.le_of_ble_eq_true rfl) (Nat.zero_le _) hP1.2.1.1 (hr G M1 x q w hP1.2.1) (zRP_r zSm.rf (fun M2 hR2 hS2 => ?_)) zRP_x (Nat.le_refl _)
  have hP2 := hP1.ref hR2 hS2
  refine zq_istore K dL_law_1375 (by decide) ?_
  refine zq_aload_n K dL_law_1377 rfl rfl ?_
  refine zq_callV (As := []) K dL_law_1378 zyX3_thrown zm_L_108 ziX3_thrown zvX3_thrown zclX3 rfl (by decide) rfl rfl (Nat.le_of_ble_eq_true rfl) (Nat.zero_le _) hR2.1 (ct_X3_thrown hR2) (zone_r ?_) zone_x (Nat.le_refl _)
  refine zq_iload K dL_law_1381 rfl ?_
  refine zq_icmp_eqN K (x := k) (y := k) 1388 dL_law_1383 (by decide) ⟨by omega, by omega⟩ (fun _ => ?_) (fun hne => absurd rfl hne)
  refine zq_iload K dL_law_1388 rfl ?_
  refine zq_if_neN K (x := k) 1405 dL_law_1390 (by decide) (by omega) (fun hk0 => ?_) (fun hk0 => ?_)
  · refine zq_goto K 1763 dL_law_1405 (by decide) ?_
    exact kk M2 _ _ _ (show b ≤ b - 1 - 0 - 0 + 15 by omega) ⟨W, B, q, nI k, A', hP2.1, hS1⟩
  · refine zq_aload_n K dL_law_1393 rfl rfl ?_
    refine zq_iconst K dL_law_1394 (v := nI 0) (by decide) ?_
    refine zq_lald K 0 dL_law_1395 hP2.1.2.2.2.2.1 rfl (by rw [hP2.1.2.2.2.2.2]; decide) (by rw [hP2.1.2.2.2.2.2]; decide) ?_
    refine zq_iload K dL_law_1396 rfl ?_
    refine zq_i2l K dL_law_1398 ?_
    refine zq_lcmp K dL_law_1399 ?_
    refine zq_top (v := nI 0) (zcmp_eq (hP2.2.trans (hp hk0))) ?_
    refine zq_if_eqN K (x := 0) 1405 dL_law_1400 (by decide) (by decide) (fun _ => ?_) (fun hne => absurd rfl hne)
    refine zq_goto K 1763 dL_law_1405 (by decide) ?_
    exact kk M2 _ _ _ (show b ≤ b - 1 - 0 - 0 + 15 by omega) ⟨W, B, q, nI k, A', hP2.1, hS1⟩
theorem cs_isFrozen {tb : List ExceptionTableEntry} {E : ZE} {G : ZG} {Q : State → Prop} {M : ZM} {b : Nat} (K : zOK mL_law tb G E) {b0 Ls : Nat} {xs : Nat → Int32} (hX : zScr E G b0 Ls xs) (hLs : Ls ≤ 3072) {c x out t : Nat} (hi : 6 * t + 6 ≤ Ls) (hP : zLS M c x out t) (ht : t ≤ 600) (hb : 15 ≤ b) {o5 o6 : Option Value} (kk : ∀ M' b' o5 o6, b ≤ b' + 15 → zLS M' c x out (t + 1) → WW E G (zyu mL_law) Q M' b' 1763 [some (.ref b0), some (.ref c), some (.ref x), some (.ref out), some (.int (nI (6 * t))), o5, o6] []) : WW E G (zyu mL_law) Q M b 1408 [some (.ref b0), some (.ref c), some (.ref x), some (.ref out), some (.int (nI (6 * t))), o5, o6] [] := by
  refine zq_aload_n K dL_law_1408 rfl rfl ?_
  refine zq_aload_n K dL_law_1409 rfl rfl ?_
  refine zq_iload K dL_law_1410 rfl ?_
  refine zq_iconst K dL_law_1412 (v := nI 1) (by decide) ?_
  refine zq_iaddN K (x := 6 * t) (y := 1) dL_law_1413 ?_
  refine zq_sld K hX (6 * t + 1) dL_law_1414 rfl (by omega) (by omega) ?_
  refine zq_aload_n K dL_law_1415 rfl rfl ?_
  refine zq_iload K dL_law_1416 rfl ?_
  refine zq_iconst K dL_law_1418 (v := nI 2) (by decide) ?_
  refine zq_iaddN K (x := 6 * t) (y := 2) dL_law_1419 ?_
  refine zq_sld K hX (6 * t + 2) dL_law_1420 rfl (by omega) (by omega) ?_
  refine zq_aload_n K dL_law_1421 rfl rfl ?_
  refine zq_callW (As := [.ref c, .int (xs (6 * t + 1)), .int (xs (6 * t + 2)), .ref out]) K dL_law_1422 zyL_isFrozen zm_L_171 zsL_isFrozen rfl (by decide) rfl rfl (Nat.le_of_ble_eq_true rfl) (Nat.le_trans (show zyu mL_isFrozen ≤ 15 by decide) hb) (ct_L_isFrozen hP (xs (6 * t + 1)) (xs (6 * t + 2))) (zLP_r (fun M1 k v W B q w A A' hk hP1 hS1 hr hp => ?_)) zLP_x (Nat.le_refl _)
  refine zq_istore K dL_law_1425 (by decide) ?_
  refine zq_aload_n K dL_law_1427 rfl rfl ?_
  refine zq_aload_n K dL_law_1428 rfl rfl ?_
  refine zq_iload K dL_law_1429 rfl ?_
  refine zq_iconst K dL_law_1431 (v := nI 1) (by decide) ?_
  refine zq_iaddN K (x := 6 * t) (y := 1) dL_law_1432 ?_
  refine zq_sld K hX (6 * t + 1) dL_law_1433 rfl (by omega) (by omega) ?_
  refine zq_aload_n K dL_law_1434 rfl rfl ?_
  refine zq_iload K dL_law_1435 rfl ?_
  refine zq_iconst K dL_law_1437 (v := nI 2) (by decide) ?_
  refine zq_iaddN K (x := 6 * t) (y := 2) dL_law_1438 ?_
  refine zq_sld K hX (6 * t + 2) dL_law_1439 rfl (by omega) (by omega) ?_
  refine zq_callV (As := [.int (xs (6 * t + 1)), .int (xs (6 * t + 2))]) K dL_law_1440 zyX3_isFrozen zm_L_173 ziX3_isFrozen zvX3_isFrozen zclX3 rfl (by decide) rfl rfl (Nat.le_of_ble_eq_true rfl) (Nat.zero_le _) hP1.2.1.1 (hr G M1 x q w hP1.2.1) (zRP_r zSm.rf (fun M2 hR2 hS2 => ?_)) zRP_x (Nat.le_refl _)
  have hP2 := hP1.ref hR2 hS2
  refine zq_istore K dL_law_1443 (by decide) ?_
  refine zq_aload_n K dL_law_1445 rfl rfl ?_
  refine zq_callV (As := []) K dL_law_1446 zyX3_thrown zm_L_108 ziX3_thrown zvX3_thrown zclX3 rfl (by decide) rfl rfl (Nat.le_of_ble_eq_true rfl) (Nat.zero_le _) hR2.1 (ct_X3_thrown hR2) (zone_r ?_) zone_x (Nat.le_refl _)
  refine zq_iload K dL_law_1449 rfl ?_
  refine zq_icmp_eqN K (x := k) (y := k) 1456 dL_law_1451 (by decide) ⟨by omega, by omega⟩ (fun _ => ?_) (fun hne => absurd rfl hne)
  refine zq_iload K dL_law_1456 rfl ?_
  refine zq_if_neN K (x := k) 1480 dL_law_1458 (by decide) (by omega) (fun hk0 => ?_) (fun hk0 => ?_)
  · refine zq_goto K 1763 dL_law_1480 (by decide) ?_
    exact kk M2 _ _ _ (show b ≤ b - 2 - 0 - 0 + 15 by omega) ⟨W, B, q, nI k, A', hP2.1, hS1⟩
  · refine zq_aload_n K dL_law_1461 rfl rfl ?_
    refine zq_iconst K dL_law_1462 (v := nI 0) (by decide) ?_
    refine zq_lald K 0 dL_law_1463 hP2.1.2.2.2.2.1 rfl (by rw [hP2.1.2.2.2.2.2]; decide) (by rw [hP2.1.2.2.2.2.2]; decide) ?_
    refine zq_iload K dL_law_1464 rfl ?_
    refine zq_if_eq K 1473 dL_law_1466 (by decide) (fun hv0 => ?_) (fun hv0 => ?_)
    · refine zq_lconst K dL_law_1473 (v := 0) (by decide) ?_
      refine zq_lcmp K dL_law_1474 ?_
      refine zq_top (v := nI 0) (zcmp_eq (hP2.2.trans ((hp hk0).trans (if_pos hv0)))) ?_
      refine zq_if_eqN K (x := 0) 1480 dL_law_1475 (by decide) (by decide) (fun _ => ?_) (fun hne => absurd rfl hne)
      refine zq_goto K 1763 dL_law_1480 (by decide) ?_
      exact kk M2 _ _ _ (show b ≤ b - 2 - 0 - 0 + 15 by omega) ⟨W, B, q, nI k, A', hP2.1, hS1⟩
    · refine zq_lconst K dL_law_1469 (v := 1) (by decide) ?_
      refine zq_goto K 1474 dL_law_1470 (by decide) ?_
      refine zq_lcmp K dL_law_1474 ?_
      refine zq_top (v := nI 0) (zcmp_eq (hP2.2.trans ((hp hk0).trans (if_neg hv0)))) ?_
      refine zq_if_eqN K (x := 0) 1480 dL_law_1475 (by decide) (by decide) (fun _ => ?_) (fun hne => absurd rfl hne)
      refine zq_goto K 1763 dL_law_1480 (by decide) ?_
      exact kk M2 _ _ _ (show b ≤ b - 2 - 0 - 0 + 15 by omega) ⟨W, B, q, nI k, A', hP2.1, hS1⟩
theorem cs_balance {tb : List ExceptionTableEntry} {E : ZE} {G : ZG} {Q : State → Prop} {M : ZM} {b : Nat} (K : zOK mL_law tb G E) {b0 Ls : Nat} {xs : Nat → Int32} (hX : zScr E G b0 Ls xs) (hLs : Ls ≤ 3072) {c x out t : Nat} (hi : 6 * t + 6 ≤ Ls) (hP : zLS M c x out t) (ht : t ≤ 600) (hb : 15 ≤ b) {o5 o6 : Option Value} (kk : ∀ M' b' o5 o6, b ≤ b' + 15 → zLS M' c x out (t + 1) → WW E G (zyu mL_law) Q M' b' 1763 [some (.ref b0), some (.ref c), some (.ref x), some (.ref out), some (.int (nI (6 * t))), o5, o6] []) : WW E G (zyu mL_law) Q M b 1483 [some (.ref b0), some (.ref c), some (.ref x), some (.ref out), some (.int (nI (6 * t))), o5, o6] [] := by
  refine zq_aload_n K dL_law_1483 rfl rfl ?_
  refine zq_aload_n K dL_law_1484 rfl rfl ?_
  refine zq_callW (As := [.ref c, .ref out]) K dL_law_1485 zyL_balance zm_L_174 zsL_balance rfl (by decide) rfl rfl (Nat.le_of_ble_eq_true rfl) (Nat.le_trans (show zyu mL_balance ≤ 15 by decide) hb) (ct_L_balance hP) (zLP_r (fun M1 k v W B q w A A' hk hP1 hS1 hr hp => ?_)) zLP_x (Nat.le_refl _)
  refine zq_istore K dL_law_1488 (by decide) ?_
  refine zq_aload_n K dL_law_1490 rfl rfl ?_
  refine zq_callV (As := []) K dL_law_1491 zyX3_balance zm_L_176 ziX3_balance zvX3_balance zclX3 rfl (by decide) rfl rfl (Nat.le_of_ble_eq_true rfl) (Nat.zero_le _) hP1.2.1.1 (hr G M1 x q w hP1.2.1) (zRP_r zSm.rf (fun M2 hR2 hS2 => ?_)) zRP_x (Nat.le_refl _)
  have hP2 := hP1.ref hR2 hS2
  refine zq_istore K dL_law_1494 (by decide) ?_
  refine zq_aload_n K dL_law_1496 rfl rfl ?_
  refine zq_callV (As := []) K dL_law_1497 zyX3_thrown zm_L_108 ziX3_thrown zvX3_thrown zclX3 rfl (by decide) rfl rfl (Nat.le_of_ble_eq_true rfl) (Nat.zero_le _) hR2.1 (ct_X3_thrown hR2) (zone_r ?_) zone_x (Nat.le_refl _)
  refine zq_iload K dL_law_1500 rfl ?_
  refine zq_icmp_eqN K (x := k) (y := k) 1507 dL_law_1502 (by decide) ⟨by omega, by omega⟩ (fun _ => ?_) (fun hne => absurd rfl hne)
  refine zq_iload K dL_law_1507 rfl ?_
  refine zq_if_neN K (x := k) 1524 dL_law_1509 (by decide) (by omega) (fun hk0 => ?_) (fun hk0 => ?_)
  · refine zq_goto K 1763 dL_law_1524 (by decide) ?_
    exact kk M2 _ _ _ (show b ≤ b - 1 - 0 - 0 + 15 by omega) ⟨W, B, q, nI k, A', hP2.1, hS1⟩
  · refine zq_aload_n K dL_law_1512 rfl rfl ?_
    refine zq_iconst K dL_law_1513 (v := nI 0) (by decide) ?_
    refine zq_lald K 0 dL_law_1514 hP2.1.2.2.2.2.1 rfl (by rw [hP2.1.2.2.2.2.2]; decide) (by rw [hP2.1.2.2.2.2.2]; decide) ?_
    refine zq_iload K dL_law_1515 rfl ?_
    refine zq_i2l K dL_law_1517 ?_
    refine zq_lcmp K dL_law_1518 ?_
    refine zq_top (v := nI 0) (zcmp_eq (hP2.2.trans (hp hk0))) ?_
    refine zq_if_eqN K (x := 0) 1524 dL_law_1519 (by decide) (by decide) (fun _ => ?_) (fun hne => absurd rfl hne)
    refine zq_goto K 1763 dL_law_1524 (by decide) ?_
    exact kk M2 _ _ _ (show b ≤ b - 1 - 0 - 0 + 15 by omega) ⟨W, B, q, nI k, A', hP2.1, hS1⟩
theorem cs_links {tb : List ExceptionTableEntry} {E : ZE} {G : ZG} {Q : State → Prop} {M : ZM} {b : Nat} (K : zOK mL_law tb G E) {b0 Ls : Nat} {xs : Nat → Int32} (hX : zScr E G b0 Ls xs) (hLs : Ls ≤ 3072) {c x out t : Nat} (hi : 6 * t + 6 ≤ Ls) (hP : zLS M c x out t) (ht : t ≤ 600) (hb : 15 ≤ b) {o5 o6 : Option Value} (kk : ∀ M' b' o5 o6, b ≤ b' + 15 → zLS M' c x out (t + 1) → WW E G (zyu mL_law) Q M' b' 1763 [some (.ref b0), some (.ref c), some (.ref x), some (.ref out), some (.int (nI (6 * t))), o5, o6] []) : WW E G (zyu mL_law) Q M b 1527 [some (.ref b0), some (.ref c), some (.ref x), some (.ref out), some (.int (nI (6 * t))), o5, o6] [] := by
  refine zq_aload_n K dL_law_1527 rfl rfl ?_
  refine zq_aload_n K dL_law_1528 rfl rfl ?_
  refine zq_iload K dL_law_1529 rfl ?_
  refine zq_iconst K dL_law_1531 (v := nI 1) (by decide) ?_
  refine zq_iaddN K (x := 6 * t) (y := 1) dL_law_1532 ?_
  refine zq_sld K hX (6 * t + 1) dL_law_1533 rfl (by omega) (by omega) ?_
  refine zq_aload_n K dL_law_1534 rfl rfl ?_
  refine zq_callW (As := [.ref c, .int (xs (6 * t + 1)), .ref out]) K dL_law_1535 zyL_links zm_L_177 zsL_links rfl (by decide) rfl rfl (Nat.le_of_ble_eq_true rfl) (Nat.le_trans (show zyu mL_links ≤ 15 by decide) hb) (ct_L_links hP (xs (6 * t + 1))) (zLP_r (fun M1 k v W B q w A A' hk hP1 hS1 hr hp => ?_)) zLP_x (Nat.le_refl _)
  refine zq_istore K dL_law_1538 (by decide) ?_
  refine zq_aload_n K dL_law_1540 rfl rfl ?_
  refine zq_aload_n K dL_law_1541 rfl rfl ?_
  refine zq_iload K dL_law_1542 rfl ?_
  refine zq_iconst K dL_law_1544 (v := nI 1) (by decide) ?_
  refine zq_iaddN K (x := 6 * t) (y := 1) dL_law_1545 ?_
  refine zq_sld K hX (6 * t + 1) dL_law_1546 rfl (by omega) (by omega) ?_
  refine zq_callV (As := [.int (xs (6 * t + 1))]) K dL_law_1547 zyX3_links_ zm_L_179 ziX3_links_ zvX3_links_ zclX3 rfl (by decide) rfl rfl (Nat.le_of_ble_eq_true rfl) (Nat.zero_le _) hP1.2.1.1 (hr G M1 x q w hP1.2.1) (zRP_r zSm.rf (fun M2 hR2 hS2 => ?_)) zRP_x (Nat.le_refl _)
  have hP2 := hP1.ref hR2 hS2
  refine zq_istore K dL_law_1550 (by decide) ?_
  refine zq_aload_n K dL_law_1552 rfl rfl ?_
  refine zq_callV (As := []) K dL_law_1553 zyX3_thrown zm_L_108 ziX3_thrown zvX3_thrown zclX3 rfl (by decide) rfl rfl (Nat.le_of_ble_eq_true rfl) (Nat.zero_le _) hR2.1 (ct_X3_thrown hR2) (zone_r ?_) zone_x (Nat.le_refl _)
  refine zq_iload K dL_law_1556 rfl ?_
  refine zq_icmp_eqN K (x := k) (y := k) 1563 dL_law_1558 (by decide) ⟨by omega, by omega⟩ (fun _ => ?_) (fun hne => absurd rfl hne)
  refine zq_iload K dL_law_1563 rfl ?_
  refine zq_if_neN K (x := k) 1580 dL_law_1565 (by decide) (by omega) (fun hk0 => ?_) (fun hk0 => ?_)
  · refine zq_goto K 1763 dL_law_1580 (by decide) ?_
    exact kk M2 _ _ _ (show b ≤ b - 1 - 0 - 0 + 15 by omega) ⟨W, B, q, nI k, A', hP2.1, hS1⟩
  · refine zq_aload_n K dL_law_1568 rfl rfl ?_
    refine zq_iconst K dL_law_1569 (v := nI 0) (by decide) ?_
    refine zq_lald K 0 dL_law_1570 hP2.1.2.2.2.2.1 rfl (by rw [hP2.1.2.2.2.2.2]; decide) (by rw [hP2.1.2.2.2.2.2]; decide) ?_
    refine zq_iload K dL_law_1571 rfl ?_
    refine zq_i2l K dL_law_1573 ?_
    refine zq_lcmp K dL_law_1574 ?_
    refine zq_top (v := nI 0) (zcmp_eq (hP2.2.trans (hp hk0))) ?_
    refine zq_if_eqN K (x := 0) 1580 dL_law_1575 (by decide) (by decide) (fun _ => ?_) (fun hne => absurd rfl hne)
    refine zq_goto K 1763 dL_law_1580 (by decide) ?_
    exact kk M2 _ _ _ (show b ≤ b - 1 - 0 - 0 + 15 by omega) ⟨W, B, q, nI k, A', hP2.1, hS1⟩
theorem cs_anchor {tb : List ExceptionTableEntry} {E : ZE} {G : ZG} {Q : State → Prop} {M : ZM} {b : Nat} (K : zOK mL_law tb G E) {b0 Ls : Nat} {xs : Nat → Int32} (hX : zScr E G b0 Ls xs) (hLs : Ls ≤ 3072) {c x out t : Nat} (hi : 6 * t + 6 ≤ Ls) (hP : zLS M c x out t) (ht : t ≤ 600) (hb : 15 ≤ b) {o5 o6 : Option Value} (kk : ∀ M' b' o5 o6, b ≤ b' + 15 → zLS M' c x out (t + 1) → WW E G (zyu mL_law) Q M' b' 1763 [some (.ref b0), some (.ref c), some (.ref x), some (.ref out), some (.int (nI (6 * t))), o5, o6] []) : WW E G (zyu mL_law) Q M b 1583 [some (.ref b0), some (.ref c), some (.ref x), some (.ref out), some (.int (nI (6 * t))), o5, o6] [] := by
  refine zq_aload_n K dL_law_1583 rfl rfl ?_
  refine zq_aload_n K dL_law_1584 rfl rfl ?_
  refine zq_iload K dL_law_1585 rfl ?_
  refine zq_iconst K dL_law_1587 (v := nI 1) (by decide) ?_
  refine zq_iaddN K (x := 6 * t) (y := 1) dL_law_1588 ?_
  refine zq_sld K hX (6 * t + 1) dL_law_1589 rfl (by omega) (by omega) ?_
  refine zq_aload_n K dL_law_1590 rfl rfl ?_
  refine zq_callW (As := [.ref c, .int (xs (6 * t + 1)), .ref out]) K dL_law_1591 zyL_anchor zm_L_180 zsL_anchor rfl (by decide) rfl rfl (Nat.le_of_ble_eq_true rfl) (Nat.le_trans (show zyu mL_anchor ≤ 15 by decide) hb) (ct_L_anchor hP ht (xs (6 * t + 1))) (zLP_r (fun M1 k v W B q w A A' hk hP1 hS1 hr hp => ?_)) zLP_x (Nat.le_refl _)
  refine zq_istore K dL_law_1594 (by decide) ?_
  refine zq_aload_n K dL_law_1596 rfl rfl ?_
  refine zq_aload_n K dL_law_1597 rfl rfl ?_
  refine zq_iload K dL_law_1598 rfl ?_
  refine zq_iconst K dL_law_1600 (v := nI 1) (by decide) ?_
  refine zq_iaddN K (x := 6 * t) (y := 1) dL_law_1601 ?_
  refine zq_sld K hX (6 * t + 1) dL_law_1602 rfl (by omega) (by omega) ?_
  refine zq_callV (As := [.int (xs (6 * t + 1))]) K dL_law_1603 zyX3_anchor zm_L_182 ziX3_anchor zvX3_anchor zclX3 rfl (by decide) rfl rfl (Nat.le_of_ble_eq_true rfl) (Nat.zero_le _) hP1.2.1.1 (hr G M1 x q w hP1.2.1) (zRP_r zSm.rf (fun M2 hR2 hS2 => ?_)) zRP_x (Nat.le_refl _)
  have hP2 := hP1.ref hR2 hS2
  refine zq_istore K dL_law_1606 (by decide) ?_
  refine zq_aload_n K dL_law_1608 rfl rfl ?_
  refine zq_callV (As := []) K dL_law_1609 zyX3_thrown zm_L_108 ziX3_thrown zvX3_thrown zclX3 rfl (by decide) rfl rfl (Nat.le_of_ble_eq_true rfl) (Nat.zero_le _) hR2.1 (ct_X3_thrown hR2) (zone_r ?_) zone_x (Nat.le_refl _)
  refine zq_iload K dL_law_1612 rfl ?_
  refine zq_icmp_eqN K (x := k) (y := k) 1619 dL_law_1614 (by decide) ⟨by omega, by omega⟩ (fun _ => ?_) (fun hne => absurd rfl hne)
  refine zq_iload K dL_law_1619 rfl ?_
  refine zq_if_neN K (x := k) 1636 dL_law_1621 (by decide) (by omega) (fun hk0 => ?_) (fun hk0 => ?_)
  · refine zq_goto K 1763 dL_law_1636 (by decide) ?_
    exact kk M2 _ _ _ (show b ≤ b - 1 - 0 - 0 + 15 by omega) ⟨W, B, q, nI k, A', hP2.1, hS1⟩
  · refine zq_aload_n K dL_law_1624 rfl rfl ?_
    refine zq_iconst K dL_law_1625 (v := nI 0) (by decide) ?_
    refine zq_lald K 0 dL_law_1626 hP2.1.2.2.2.2.1 rfl (by rw [hP2.1.2.2.2.2.2]; decide) (by rw [hP2.1.2.2.2.2.2]; decide) ?_
    refine zq_iload K dL_law_1627 rfl ?_
    refine zq_i2l K dL_law_1629 ?_
    refine zq_lcmp K dL_law_1630 ?_
    refine zq_top (v := nI 0) (zcmp_eq (hP2.2.trans (hp hk0))) ?_
    refine zq_if_eqN K (x := 0) 1636 dL_law_1631 (by decide) (by decide) (fun _ => ?_) (fun hne => absurd rfl hne)
    refine zq_goto K 1763 dL_law_1636 (by decide) ?_
    exact kk M2 _ _ _ (show b ≤ b - 1 - 0 - 0 + 15 by omega) ⟨W, B, q, nI k, A', hP2.1, hS1⟩
theorem cs_byTree {tb : List ExceptionTableEntry} {E : ZE} {G : ZG} {Q : State → Prop} {M : ZM} {b : Nat} (K : zOK mL_law tb G E) {b0 Ls : Nat} {xs : Nat → Int32} (hX : zScr E G b0 Ls xs) (hLs : Ls ≤ 3072) {c x out t : Nat} (hi : 6 * t + 6 ≤ Ls) (hP : zLS M c x out t) (ht : t ≤ 600) (hb : 15 ≤ b) {o5 o6 : Option Value} (kk : ∀ M' b' o5 o6, b ≤ b' + 15 → zLS M' c x out (t + 1) → WW E G (zyu mL_law) Q M' b' 1763 [some (.ref b0), some (.ref c), some (.ref x), some (.ref out), some (.int (nI (6 * t))), o5, o6] []) : WW E G (zyu mL_law) Q M b 1639 [some (.ref b0), some (.ref c), some (.ref x), some (.ref out), some (.int (nI (6 * t))), o5, o6] [] := by
  refine zq_aload_n K dL_law_1639 rfl rfl ?_
  refine zq_aload_n K dL_law_1640 rfl rfl ?_
  refine zq_iload K dL_law_1641 rfl ?_
  refine zq_iconst K dL_law_1643 (v := nI 1) (by decide) ?_
  refine zq_iaddN K (x := 6 * t) (y := 1) dL_law_1644 ?_
  refine zq_sld K hX (6 * t + 1) dL_law_1645 rfl (by omega) (by omega) ?_
  refine zq_aload_n K dL_law_1646 rfl rfl ?_
  refine zq_iload K dL_law_1647 rfl ?_
  refine zq_iconst K dL_law_1649 (v := nI 2) (by decide) ?_
  refine zq_iaddN K (x := 6 * t) (y := 2) dL_law_1650 ?_
  refine zq_sld K hX (6 * t + 2) dL_law_1651 rfl (by omega) (by omega) ?_
  refine zq_aload_n K dL_law_1652 rfl rfl ?_
  refine zq_callW (As := [.ref c, .int (xs (6 * t + 1)), .int (xs (6 * t + 2)), .ref out]) K dL_law_1653 zyL_byTree zm_L_183 zsL_byTree rfl (by decide) rfl rfl (Nat.le_of_ble_eq_true rfl) (Nat.le_trans (show zyu mL_byTree ≤ 15 by decide) hb) (ct_L_byTree hP (xs (6 * t + 1)) (xs (6 * t + 2))) (zLP_r (fun M1 k v W B q w A A' hk hP1 hS1 hr hp => ?_)) zLP_x (Nat.le_refl _)
  refine zq_istore K dL_law_1656 (by decide) ?_
  refine zq_aload_n K dL_law_1658 rfl rfl ?_
  refine zq_aload_n K dL_law_1659 rfl rfl ?_
  refine zq_iload K dL_law_1660 rfl ?_
  refine zq_iconst K dL_law_1662 (v := nI 1) (by decide) ?_
  refine zq_iaddN K (x := 6 * t) (y := 1) dL_law_1663 ?_
  refine zq_sld K hX (6 * t + 1) dL_law_1664 rfl (by omega) (by omega) ?_
  refine zq_aload_n K dL_law_1665 rfl rfl ?_
  refine zq_iload K dL_law_1666 rfl ?_
  refine zq_iconst K dL_law_1668 (v := nI 2) (by decide) ?_
  refine zq_iaddN K (x := 6 * t) (y := 2) dL_law_1669 ?_
  refine zq_sld K hX (6 * t + 2) dL_law_1670 rfl (by omega) (by omega) ?_
  refine zq_callV (As := [.int (xs (6 * t + 1)), .int (xs (6 * t + 2))]) K dL_law_1671 zyX3_byTree zm_L_185 ziX3_byTree zvX3_byTree zclX3 rfl (by decide) rfl rfl (Nat.le_of_ble_eq_true rfl) (Nat.zero_le _) hP1.2.1.1 (hr G M1 x q w hP1.2.1) (zRP_r zSm.rf (fun M2 hR2 hS2 => ?_)) zRP_x (Nat.le_refl _)
  have hP2 := hP1.ref hR2 hS2
  refine zq_istore K dL_law_1674 (by decide) ?_
  refine zq_aload_n K dL_law_1676 rfl rfl ?_
  refine zq_callV (As := []) K dL_law_1677 zyX3_thrown zm_L_108 ziX3_thrown zvX3_thrown zclX3 rfl (by decide) rfl rfl (Nat.le_of_ble_eq_true rfl) (Nat.zero_le _) hR2.1 (ct_X3_thrown hR2) (zone_r ?_) zone_x (Nat.le_refl _)
  refine zq_iload K dL_law_1680 rfl ?_
  refine zq_icmp_eqN K (x := k) (y := k) 1687 dL_law_1682 (by decide) ⟨by omega, by omega⟩ (fun _ => ?_) (fun hne => absurd rfl hne)
  refine zq_iload K dL_law_1687 rfl ?_
  refine zq_if_neN K (x := k) 1704 dL_law_1689 (by decide) (by omega) (fun hk0 => ?_) (fun hk0 => ?_)
  · refine zq_goto K 1763 dL_law_1704 (by decide) ?_
    exact kk M2 _ _ _ (show b ≤ b - 2 - 0 - 0 + 15 by omega) ⟨W, B, q, nI k, A', hP2.1, hS1⟩
  · refine zq_aload_n K dL_law_1692 rfl rfl ?_
    refine zq_iconst K dL_law_1693 (v := nI 0) (by decide) ?_
    refine zq_lald K 0 dL_law_1694 hP2.1.2.2.2.2.1 rfl (by rw [hP2.1.2.2.2.2.2]; decide) (by rw [hP2.1.2.2.2.2.2]; decide) ?_
    refine zq_iload K dL_law_1695 rfl ?_
    refine zq_i2l K dL_law_1697 ?_
    refine zq_lcmp K dL_law_1698 ?_
    refine zq_top (v := nI 0) (zcmp_eq (hP2.2.trans (hp hk0))) ?_
    refine zq_if_eqN K (x := 0) 1704 dL_law_1699 (by decide) (by decide) (fun _ => ?_) (fun hne => absurd rfl hne)
    refine zq_goto K 1763 dL_law_1704 (by decide) ?_
    exact kk M2 _ _ _ (show b ≤ b - 2 - 0 - 0 + 15 by omega) ⟨W, B, q, nI k, A', hP2.1, hS1⟩
theorem cs_size {tb : List ExceptionTableEntry} {E : ZE} {G : ZG} {Q : State → Prop} {M : ZM} {b : Nat} (K : zOK mL_law tb G E) {b0 Ls : Nat} {xs : Nat → Int32} (hX : zScr E G b0 Ls xs) (hLs : Ls ≤ 3072) {c x out t : Nat} (hi : 6 * t + 6 ≤ Ls) (hP : zLS M c x out t) (ht : t ≤ 600) (hb : 15 ≤ b) {o5 o6 : Option Value} (kk : ∀ M' b' o5 o6, b ≤ b' + 15 → zLS M' c x out (t + 1) → WW E G (zyu mL_law) Q M' b' 1763 [some (.ref b0), some (.ref c), some (.ref x), some (.ref out), some (.int (nI (6 * t))), o5, o6] []) : WW E G (zyu mL_law) Q M b 1707 [some (.ref b0), some (.ref c), some (.ref x), some (.ref out), some (.int (nI (6 * t))), o5, o6] [] := by
  refine zq_aload_n K dL_law_1707 rfl rfl ?_
  refine zq_aload_n K dL_law_1708 rfl rfl ?_
  refine zq_iload K dL_law_1709 rfl ?_
  refine zq_iconst K dL_law_1711 (v := nI 1) (by decide) ?_
  refine zq_iaddN K (x := 6 * t) (y := 1) dL_law_1712 ?_
  refine zq_sld K hX (6 * t + 1) dL_law_1713 rfl (by omega) (by omega) ?_
  refine zq_aload_n K dL_law_1714 rfl rfl ?_
  refine zq_callW (As := [.ref c, .int (xs (6 * t + 1)), .ref out]) K dL_law_1715 zyL_size zm_L_186 zsL_size rfl (by decide) rfl rfl (Nat.le_of_ble_eq_true rfl) (Nat.le_trans (show zyu mL_size ≤ 15 by decide) hb) (ct_L_size hP (xs (6 * t + 1))) (zLP_r (fun M1 k v W B q w A A' hk hP1 hS1 hr hp => ?_)) zLP_x (Nat.le_refl _)
  refine zq_istore K dL_law_1718 (by decide) ?_
  refine zq_aload_n K dL_law_1720 rfl rfl ?_
  refine zq_aload_n K dL_law_1721 rfl rfl ?_
  refine zq_iload K dL_law_1722 rfl ?_
  refine zq_iconst K dL_law_1724 (v := nI 1) (by decide) ?_
  refine zq_iaddN K (x := 6 * t) (y := 1) dL_law_1725 ?_
  refine zq_sld K hX (6 * t + 1) dL_law_1726 rfl (by omega) (by omega) ?_
  refine zq_callV (As := [.int (xs (6 * t + 1))]) K dL_law_1727 zyX3_size zm_L_188 ziX3_size zvX3_size zclX3 rfl (by decide) rfl rfl (Nat.le_of_ble_eq_true rfl) (Nat.zero_le _) hP1.2.1.1 (hr G M1 x q w hP1.2.1) (zRP_r zSm.rf (fun M2 hR2 hS2 => ?_)) zRP_x (Nat.le_refl _)
  have hP2 := hP1.ref hR2 hS2
  refine zq_istore K dL_law_1730 (by decide) ?_
  refine zq_aload_n K dL_law_1732 rfl rfl ?_
  refine zq_callV (As := []) K dL_law_1733 zyX3_thrown zm_L_108 ziX3_thrown zvX3_thrown zclX3 rfl (by decide) rfl rfl (Nat.le_of_ble_eq_true rfl) (Nat.zero_le _) hR2.1 (ct_X3_thrown hR2) (zone_r ?_) zone_x (Nat.le_refl _)
  refine zq_iload K dL_law_1736 rfl ?_
  refine zq_icmp_eqN K (x := k) (y := k) 1743 dL_law_1738 (by decide) ⟨by omega, by omega⟩ (fun _ => ?_) (fun hne => absurd rfl hne)
  refine zq_iload K dL_law_1743 rfl ?_
  refine zq_if_neN K (x := k) 1760 dL_law_1745 (by decide) (by omega) (fun hk0 => ?_) (fun hk0 => ?_)
  · refine zq_goto K 1763 dL_law_1760 (by decide) ?_
    exact kk M2 _ _ _ (show b ≤ b - 1 - 0 - 0 + 15 by omega) ⟨W, B, q, nI k, A', hP2.1, hS1⟩
  · refine zq_aload_n K dL_law_1748 rfl rfl ?_
    refine zq_iconst K dL_law_1749 (v := nI 0) (by decide) ?_
    refine zq_lald K 0 dL_law_1750 hP2.1.2.2.2.2.1 rfl (by rw [hP2.1.2.2.2.2.2]; decide) (by rw [hP2.1.2.2.2.2.2]; decide) ?_
    refine zq_iload K dL_law_1751 rfl ?_
    refine zq_i2l K dL_law_1753 ?_
    refine zq_lcmp K dL_law_1754 ?_
    refine zq_top (v := nI 0) (zcmp_eq (hP2.2.trans (hp hk0))) ?_
    refine zq_if_eqN K (x := 0) 1760 dL_law_1755 (by decide) (by decide) (fun _ => ?_) (fun hne => absurd rfl hne)
    refine zq_goto K 1763 dL_law_1760 (by decide) ?_
    exact kk M2 _ _ _ (show b ≤ b - 1 - 0 - 0 + 15 by omega) ⟨W, B, q, nI k, A', hP2.1, hS1⟩
