def f_X10_text (I : fc_I) : Option (Int32 × fc_I) := f_X0_learn I
set_option maxHeartbeats 4000000 in
set_option maxRecDepth 100000 in
theorem t_X10_text {d v : Nat} {r : Int32} {I J : fc_I} (hv : fc_v v) (hf : f_X10_text I = some (r, J)) : fc_Ci X10_text (d + 93) [.ref 0] fc_SH I (fc_PT v) (fun r' I' P' => r' = r ∧ I' = J ∧ ∃ w, fc_v w ∧ P' = fc_PT w) := by
  refine fc_Ci.of (ls := [some (.ref 0)]) ⟨rfl, rfl⟩ (Nat.le_of_ble_eq_true rfl) rfl ?_
  refine ft_aload_n dX10_text_0 rfl ?_
  refine ft_getR fl_X10_40 rfl sh_0 (by decide) pt_0_4 dX10_text_1 ?_
  refine ft_V0i cf_X10_50 sh_31 (t_X0_learn (wd_full hv) hf) (Nat.le_of_ble_eq_true rfl) dX10_text_4 (fun r' J P' q => ?_)
  obtain ⟨rfl, rfl, q⟩ := q
  refine ft_reti dX10_text_7 rfl rfl ⟨rfl, rfl, ?_⟩
  rcases q with ⟨_, rfl⟩ | ⟨w, h1, rfl⟩
  · exact ⟨v, hv, rfl⟩
  · exact ⟨w, h1, PT_set⟩
abbrev Lm (L : Nat) (xs : Nat → Int32) : fc_MI := (yL_law, cL_law, 4, some .boolean, some (L, xs))
def Op_zone : Prop := ∀ (I : fc_I) (x1 : Int32) (x2 : Int32) (x3 : Int32), Rel I → RR (f_X10_zone I x1 x2 x3) (fun I => f_X11_zone I x1 x2 x3)
set_option maxHeartbeats 4000000 in
set_option maxRecDepth 100000 in
theorem lw_zone {d nb zb L : Nat} {xs : Nat → Int32} {i : Int32} {I : fc_I} {v : Nat} {Q : fc_Q} (H : Op_zone) (b1 : 0 ≤ (i + 1).toInt ∧ (i + 1).toInt < (L : Int)) (b2 : 0 ≤ (i + 2).toInt ∧ (i + 2).toInt < (L : Int)) (b3 : 0 ≤ (i + 3).toInt ∧ (i + 3).toInt < (L : Int)) (b4 : 0 ≤ (i + 4).toInt ∧ (i + 4).toInt < (L : Int)) (b5 : 0 ≤ (i + 5).toInt ∧ (i + 5).toInt < (L : Int)) (hR : Rel I) (hv : fc_v v) (hk : ∀ I v, Rel I → fc_v v → fc_T (Lm L xs) (d + 94) nb zb 1315 [some (.ref (1000 + 400)), some (.ref 0), some (.ref 78), some (.int i)] [] fc_SH I (fc_PT v) Q) : fc_T (Lm L xs) (d + 94) nb zb 176 [some (.ref (1000 + 400)), some (.ref 0), some (.ref 78), some (.int i)] [] fc_SH I (fc_PT v) Q := by
  refine ft_aload_n dL_law_176 rfl ?_
  refine ft_aload_n dL_law_177 rfl ?_
  refine ft_iload_n dL_law_178 rfl ?_
  refine ft_iconst (v := 1) dL_law_179 rfl ?_
  refine ft_iadd dL_law_180 ?_
  refine ft_sld rfl (vp_in_iff.mpr b1) dL_law_181 ?_
  refine ft_aload_n dL_law_182 rfl ?_
  refine ft_iload_n dL_law_183 rfl ?_
  refine ft_iconst (v := 2) dL_law_184 rfl ?_
  refine ft_iadd dL_law_185 ?_
  refine ft_sld rfl (vp_in_iff.mpr b2) dL_law_186 ?_
  refine ft_aload_n dL_law_187 rfl ?_
  refine ft_iload_n dL_law_188 rfl ?_
  refine ft_iconst (v := 3) dL_law_189 rfl ?_
  refine ft_iadd dL_law_190 ?_
  refine ft_sld rfl (vp_in_iff.mpr b3) dL_law_191 ?_
  obtain ⟨r, I1, I2, h1, h2, h3⟩ := H I (xs (cn (i + 1))) (xs (cn (i + 2))) (xs (cn (i + 3))) hR
  refine ft_V3i cf_L_13 sh_0 (t_X10_zone h1) (Nat.le_of_ble_eq_true rfl) dL_law_192 (fun r' J P' q => ?_)
  obtain ⟨rfl, rfl, rfl⟩ := q
  refine ft_aload_n dL_law_195 rfl ?_
  refine ft_aload_n dL_law_196 rfl ?_
  refine ft_iload_n dL_law_197 rfl ?_
  refine ft_iconst (v := 1) dL_law_198 rfl ?_
  refine ft_iadd dL_law_199 ?_
  refine ft_sld rfl (vp_in_iff.mpr b1) dL_law_200 ?_
  refine ft_aload_n dL_law_201 rfl ?_
  refine ft_iload_n dL_law_202 rfl ?_
  refine ft_iconst (v := 2) dL_law_203 rfl ?_
  refine ft_iadd dL_law_204 ?_
  refine ft_sld rfl (vp_in_iff.mpr b2) dL_law_205 ?_
  refine ft_aload_n dL_law_206 rfl ?_
  refine ft_iload_n dL_law_207 rfl ?_
  refine ft_iconst (v := 3) dL_law_208 rfl ?_
  refine ft_iadd dL_law_209 ?_
  refine ft_sld rfl (vp_in_iff.mpr b3) dL_law_210 ?_
  refine ft_V3i cf_L_17 sh_78 (t_X11_zone h2) (Nat.le_of_ble_eq_true rfl) dL_law_211 (fun r' J P' q => ?_)
  obtain ⟨rfl, rfl, rfl⟩ := q
  exact fj_icmp_eq (tgt := 1315) dL_law_214 (by decide) (fun _ => hk _ _ h3 hv) (fun h => absurd rfl h)
def Op_shelter : Prop := ∀ (I : fc_I) (x1 : Int32), Rel I → RR (f_X10_shelter I x1) (fun I => f_X11_shelter I x1)
set_option maxHeartbeats 4000000 in
set_option maxRecDepth 100000 in
theorem lw_shelter {d nb zb L : Nat} {xs : Nat → Int32} {i : Int32} {I : fc_I} {v : Nat} {Q : fc_Q} (H : Op_shelter) (b1 : 0 ≤ (i + 1).toInt ∧ (i + 1).toInt < (L : Int)) (b2 : 0 ≤ (i + 2).toInt ∧ (i + 2).toInt < (L : Int)) (b3 : 0 ≤ (i + 3).toInt ∧ (i + 3).toInt < (L : Int)) (b4 : 0 ≤ (i + 4).toInt ∧ (i + 4).toInt < (L : Int)) (b5 : 0 ≤ (i + 5).toInt ∧ (i + 5).toInt < (L : Int)) (hR : Rel I) (hv : fc_v v) (hk : ∀ I v, Rel I → fc_v v → fc_T (Lm L xs) (d + 94) nb zb 1315 [some (.ref (1000 + 400)), some (.ref 0), some (.ref 78), some (.int i)] [] fc_SH I (fc_PT v) Q) : fc_T (Lm L xs) (d + 94) nb zb 219 [some (.ref (1000 + 400)), some (.ref 0), some (.ref 78), some (.int i)] [] fc_SH I (fc_PT v) Q := by
  refine ft_aload_n dL_law_219 rfl ?_
  refine ft_aload_n dL_law_220 rfl ?_
  refine ft_iload_n dL_law_221 rfl ?_
  refine ft_iconst (v := 1) dL_law_222 rfl ?_
  refine ft_iadd dL_law_223 ?_
  refine ft_sld rfl (vp_in_iff.mpr b1) dL_law_224 ?_
  obtain ⟨r, I1, I2, h1, h2, h3⟩ := H I (xs (cn (i + 1))) hR
  refine ft_V1i cf_L_18 sh_0 (t_X10_shelter h1) (Nat.le_of_ble_eq_true rfl) dL_law_225 (fun r' J P' q => ?_)
  obtain ⟨rfl, rfl, rfl⟩ := q
  refine ft_aload_n dL_law_228 rfl ?_
  refine ft_aload_n dL_law_229 rfl ?_
  refine ft_iload_n dL_law_230 rfl ?_
  refine ft_iconst (v := 1) dL_law_231 rfl ?_
  refine ft_iadd dL_law_232 ?_
  refine ft_sld rfl (vp_in_iff.mpr b1) dL_law_233 ?_
  refine ft_V1i cf_L_22 sh_78 (t_X11_shelter h2) (Nat.le_of_ble_eq_true rfl) dL_law_234 (fun r' J P' q => ?_)
  obtain ⟨rfl, rfl, rfl⟩ := q
  exact fj_icmp_eq (tgt := 1315) dL_law_237 (by decide) (fun _ => hk _ _ h3 hv) (fun h => absurd rfl h)
def Op_road : Prop := ∀ (I : fc_I) (x1 : Int32) (x2 : Int32) (x3 : Int32) (x4 : Int32), Rel I → RR (f_X10_road I x1 x2 x3 x4) (fun I => f_X11_road I x1 x2 x3 x4)
set_option maxHeartbeats 4000000 in
set_option maxRecDepth 100000 in
theorem lw_road {d nb zb L : Nat} {xs : Nat → Int32} {i : Int32} {I : fc_I} {v : Nat} {Q : fc_Q} (H : Op_road) (b1 : 0 ≤ (i + 1).toInt ∧ (i + 1).toInt < (L : Int)) (b2 : 0 ≤ (i + 2).toInt ∧ (i + 2).toInt < (L : Int)) (b3 : 0 ≤ (i + 3).toInt ∧ (i + 3).toInt < (L : Int)) (b4 : 0 ≤ (i + 4).toInt ∧ (i + 4).toInt < (L : Int)) (b5 : 0 ≤ (i + 5).toInt ∧ (i + 5).toInt < (L : Int)) (hR : Rel I) (hv : fc_v v) (hk : ∀ I v, Rel I → fc_v v → fc_T (Lm L xs) (d + 94) nb zb 1315 [some (.ref (1000 + 400)), some (.ref 0), some (.ref 78), some (.int i)] [] fc_SH I (fc_PT v) Q) : fc_T (Lm L xs) (d + 94) nb zb 242 [some (.ref (1000 + 400)), some (.ref 0), some (.ref 78), some (.int i)] [] fc_SH I (fc_PT v) Q := by
  refine ft_aload_n dL_law_242 rfl ?_
  refine ft_aload_n dL_law_243 rfl ?_
  refine ft_iload_n dL_law_244 rfl ?_
  refine ft_iconst (v := 1) dL_law_245 rfl ?_
  refine ft_iadd dL_law_246 ?_
  refine ft_sld rfl (vp_in_iff.mpr b1) dL_law_247 ?_
  refine ft_aload_n dL_law_248 rfl ?_
  refine ft_iload_n dL_law_249 rfl ?_
  refine ft_iconst (v := 2) dL_law_250 rfl ?_
  refine ft_iadd dL_law_251 ?_
  refine ft_sld rfl (vp_in_iff.mpr b2) dL_law_252 ?_
  refine ft_aload_n dL_law_253 rfl ?_
  refine ft_iload_n dL_law_254 rfl ?_
  refine ft_iconst (v := 3) dL_law_255 rfl ?_
  refine ft_iadd dL_law_256 ?_
  refine ft_sld rfl (vp_in_iff.mpr b3) dL_law_257 ?_
  refine ft_aload_n dL_law_258 rfl ?_
  refine ft_iload_n dL_law_259 rfl ?_
  refine ft_iconst (v := 4) dL_law_260 rfl ?_
  refine ft_iadd dL_law_261 ?_
  refine ft_sld rfl (vp_in_iff.mpr b4) dL_law_262 ?_
  obtain ⟨r, I1, I2, h1, h2, h3⟩ := H I (xs (cn (i + 1))) (xs (cn (i + 2))) (xs (cn (i + 3))) (xs (cn (i + 4))) hR
  refine ft_V4i cf_L_23 sh_0 (t_X10_road h1) (Nat.le_of_ble_eq_true rfl) dL_law_263 (fun r' J P' q => ?_)
  obtain ⟨rfl, rfl, rfl⟩ := q
  refine ft_aload_n dL_law_266 rfl ?_
  refine ft_aload_n dL_law_267 rfl ?_
  refine ft_iload_n dL_law_268 rfl ?_
  refine ft_iconst (v := 1) dL_law_269 rfl ?_
  refine ft_iadd dL_law_270 ?_
  refine ft_sld rfl (vp_in_iff.mpr b1) dL_law_271 ?_
  refine ft_aload_n dL_law_272 rfl ?_
  refine ft_iload_n dL_law_273 rfl ?_
  refine ft_iconst (v := 2) dL_law_274 rfl ?_
  refine ft_iadd dL_law_275 ?_
  refine ft_sld rfl (vp_in_iff.mpr b2) dL_law_276 ?_
  refine ft_aload_n dL_law_277 rfl ?_
  refine ft_iload_n dL_law_278 rfl ?_
  refine ft_iconst (v := 3) dL_law_279 rfl ?_
  refine ft_iadd dL_law_280 ?_
  refine ft_sld rfl (vp_in_iff.mpr b3) dL_law_281 ?_
  refine ft_aload_n dL_law_282 rfl ?_
  refine ft_iload_n dL_law_283 rfl ?_
  refine ft_iconst (v := 4) dL_law_284 rfl ?_
  refine ft_iadd dL_law_285 ?_
  refine ft_sld rfl (vp_in_iff.mpr b4) dL_law_286 ?_
  refine ft_V4i cf_L_27 sh_78 (t_X11_road h2) (Nat.le_of_ble_eq_true rfl) dL_law_287 (fun r' J P' q => ?_)
  obtain ⟨rfl, rfl, rfl⟩ := q
  exact fj_icmp_eq (tgt := 1315) dL_law_290 (by decide) (fun _ => hk _ _ h3 hv) (fun h => absurd rfl h)
def Op_use : Prop := ∀ (I : fc_I) (x1 : Int32), Rel I → RR (f_X10_use I x1) (fun I => f_X11_use I x1)
set_option maxHeartbeats 4000000 in
set_option maxRecDepth 100000 in
theorem lw_use {d nb zb L : Nat} {xs : Nat → Int32} {i : Int32} {I : fc_I} {v : Nat} {Q : fc_Q} (H : Op_use) (b1 : 0 ≤ (i + 1).toInt ∧ (i + 1).toInt < (L : Int)) (b2 : 0 ≤ (i + 2).toInt ∧ (i + 2).toInt < (L : Int)) (b3 : 0 ≤ (i + 3).toInt ∧ (i + 3).toInt < (L : Int)) (b4 : 0 ≤ (i + 4).toInt ∧ (i + 4).toInt < (L : Int)) (b5 : 0 ≤ (i + 5).toInt ∧ (i + 5).toInt < (L : Int)) (hR : Rel I) (hv : fc_v v) (hk : ∀ I v, Rel I → fc_v v → fc_T (Lm L xs) (d + 94) nb zb 1315 [some (.ref (1000 + 400)), some (.ref 0), some (.ref 78), some (.int i)] [] fc_SH I (fc_PT v) Q) : fc_T (Lm L xs) (d + 94) nb zb 295 [some (.ref (1000 + 400)), some (.ref 0), some (.ref 78), some (.int i)] [] fc_SH I (fc_PT v) Q := by
  refine ft_aload_n dL_law_295 rfl ?_
  refine ft_aload_n dL_law_296 rfl ?_
  refine ft_iload_n dL_law_297 rfl ?_
  refine ft_iconst (v := 1) dL_law_298 rfl ?_
  refine ft_iadd dL_law_299 ?_
  refine ft_sld rfl (vp_in_iff.mpr b1) dL_law_300 ?_
  obtain ⟨r, I1, I2, h1, h2, h3⟩ := H I (xs (cn (i + 1))) hR
  refine ft_V1i cf_L_28 sh_0 (t_X10_use h1) (Nat.le_of_ble_eq_true rfl) dL_law_301 (fun r' J P' q => ?_)
  obtain ⟨rfl, rfl, rfl⟩ := q
  refine ft_aload_n dL_law_304 rfl ?_
  refine ft_aload_n dL_law_305 rfl ?_
  refine ft_iload_n dL_law_306 rfl ?_
  refine ft_iconst (v := 1) dL_law_307 rfl ?_
  refine ft_iadd dL_law_308 ?_
  refine ft_sld rfl (vp_in_iff.mpr b1) dL_law_309 ?_
  refine ft_V1i cf_L_31 sh_78 (t_X11_use h2) (Nat.le_of_ble_eq_true rfl) dL_law_310 (fun r' J P' q => ?_)
  obtain ⟨rfl, rfl, rfl⟩ := q
  exact fj_icmp_eq (tgt := 1315) dL_law_313 (by decide) (fun _ => hk _ _ h3 hv) (fun h => absurd rfl h)
def Op_turn : Prop := ∀ (I : fc_I) (x1 : Int32), Rel I → RR (f_X10_turn I x1) (fun I => f_X11_turn I x1)
set_option maxHeartbeats 4000000 in
set_option maxRecDepth 100000 in
theorem lw_turn {d nb zb L : Nat} {xs : Nat → Int32} {i : Int32} {I : fc_I} {v : Nat} {Q : fc_Q} (H : Op_turn) (b1 : 0 ≤ (i + 1).toInt ∧ (i + 1).toInt < (L : Int)) (b2 : 0 ≤ (i + 2).toInt ∧ (i + 2).toInt < (L : Int)) (b3 : 0 ≤ (i + 3).toInt ∧ (i + 3).toInt < (L : Int)) (b4 : 0 ≤ (i + 4).toInt ∧ (i + 4).toInt < (L : Int)) (b5 : 0 ≤ (i + 5).toInt ∧ (i + 5).toInt < (L : Int)) (hR : Rel I) (hv : fc_v v) (hk : ∀ I v, Rel I → fc_v v → fc_T (Lm L xs) (d + 94) nb zb 1315 [some (.ref (1000 + 400)), some (.ref 0), some (.ref 78), some (.int i)] [] fc_SH I (fc_PT v) Q) : fc_T (Lm L xs) (d + 94) nb zb 318 [some (.ref (1000 + 400)), some (.ref 0), some (.ref 78), some (.int i)] [] fc_SH I (fc_PT v) Q := by
  refine ft_aload_n dL_law_318 rfl ?_
  refine ft_aload_n dL_law_319 rfl ?_
  refine ft_iload_n dL_law_320 rfl ?_
  refine ft_iconst (v := 1) dL_law_321 rfl ?_
  refine ft_iadd dL_law_322 ?_
  refine ft_sld rfl (vp_in_iff.mpr b1) dL_law_323 ?_
  obtain ⟨r, I1, I2, h1, h2, h3⟩ := H I (xs (cn (i + 1))) hR
  refine ft_V1i cf_L_32 sh_0 (t_X10_turn h1) (Nat.le_of_ble_eq_true rfl) dL_law_324 (fun r' J P' q => ?_)
  obtain ⟨rfl, rfl, rfl⟩ := q
  refine ft_aload_n dL_law_327 rfl ?_
  refine ft_aload_n dL_law_328 rfl ?_
  refine ft_iload_n dL_law_329 rfl ?_
  refine ft_iconst (v := 1) dL_law_330 rfl ?_
  refine ft_iadd dL_law_331 ?_
  refine ft_sld rfl (vp_in_iff.mpr b1) dL_law_332 ?_
  refine ft_V1i cf_L_35 sh_78 (t_X11_turn h2) (Nat.le_of_ble_eq_true rfl) dL_law_333 (fun r' J P' q => ?_)
  obtain ⟨rfl, rfl, rfl⟩ := q
  exact fj_icmp_eq (tgt := 1315) dL_law_336 (by decide) (fun _ => hk _ _ h3 hv) (fun h => absurd rfl h)
def Op_bus : Prop := ∀ (I : fc_I) (x1 : Int32) (x2 : Int32) (x3 : Int32) (x4 : Int32), Rel I → RR (f_X10_bus I x1 x2 x3 x4) (fun I => f_X11_bus I x1 x2 x3 x4)
set_option maxHeartbeats 4000000 in
set_option maxRecDepth 100000 in
theorem lw_bus {d nb zb L : Nat} {xs : Nat → Int32} {i : Int32} {I : fc_I} {v : Nat} {Q : fc_Q} (H : Op_bus) (b1 : 0 ≤ (i + 1).toInt ∧ (i + 1).toInt < (L : Int)) (b2 : 0 ≤ (i + 2).toInt ∧ (i + 2).toInt < (L : Int)) (b3 : 0 ≤ (i + 3).toInt ∧ (i + 3).toInt < (L : Int)) (b4 : 0 ≤ (i + 4).toInt ∧ (i + 4).toInt < (L : Int)) (b5 : 0 ≤ (i + 5).toInt ∧ (i + 5).toInt < (L : Int)) (hR : Rel I) (hv : fc_v v) (hk : ∀ I v, Rel I → fc_v v → fc_T (Lm L xs) (d + 94) nb zb 1315 [some (.ref (1000 + 400)), some (.ref 0), some (.ref 78), some (.int i)] [] fc_SH I (fc_PT v) Q) : fc_T (Lm L xs) (d + 94) nb zb 341 [some (.ref (1000 + 400)), some (.ref 0), some (.ref 78), some (.int i)] [] fc_SH I (fc_PT v) Q := by
  refine ft_aload_n dL_law_341 rfl ?_
  refine ft_aload_n dL_law_342 rfl ?_
  refine ft_iload_n dL_law_343 rfl ?_
  refine ft_iconst (v := 1) dL_law_344 rfl ?_
  refine ft_iadd dL_law_345 ?_
  refine ft_sld rfl (vp_in_iff.mpr b1) dL_law_346 ?_
  refine ft_aload_n dL_law_347 rfl ?_
  refine ft_iload_n dL_law_348 rfl ?_
  refine ft_iconst (v := 2) dL_law_349 rfl ?_
  refine ft_iadd dL_law_350 ?_
  refine ft_sld rfl (vp_in_iff.mpr b2) dL_law_351 ?_
  refine ft_aload_n dL_law_352 rfl ?_
  refine ft_iload_n dL_law_353 rfl ?_
  refine ft_iconst (v := 3) dL_law_354 rfl ?_
  refine ft_iadd dL_law_355 ?_
  refine ft_sld rfl (vp_in_iff.mpr b3) dL_law_356 ?_
  refine ft_aload_n dL_law_357 rfl ?_
  refine ft_iload_n dL_law_358 rfl ?_
  refine ft_iconst (v := 4) dL_law_359 rfl ?_
  refine ft_iadd dL_law_360 ?_
  refine ft_sld rfl (vp_in_iff.mpr b4) dL_law_361 ?_
  obtain ⟨r, I1, I2, h1, h2, h3⟩ := H I (xs (cn (i + 1))) (xs (cn (i + 2))) (xs (cn (i + 3))) (xs (cn (i + 4))) hR
  refine ft_V4i cf_L_36 sh_0 (t_X10_bus h1) (Nat.le_of_ble_eq_true rfl) dL_law_362 (fun r' J P' q => ?_)
  obtain ⟨rfl, rfl, rfl⟩ := q
  refine ft_aload_n dL_law_365 rfl ?_
  refine ft_aload_n dL_law_366 rfl ?_
  refine ft_iload_n dL_law_367 rfl ?_
  refine ft_iconst (v := 1) dL_law_368 rfl ?_
  refine ft_iadd dL_law_369 ?_
  refine ft_sld rfl (vp_in_iff.mpr b1) dL_law_370 ?_
  refine ft_aload_n dL_law_371 rfl ?_
  refine ft_iload_n dL_law_372 rfl ?_
  refine ft_iconst (v := 2) dL_law_373 rfl ?_
  refine ft_iadd dL_law_374 ?_
  refine ft_sld rfl (vp_in_iff.mpr b2) dL_law_375 ?_
  refine ft_aload_n dL_law_376 rfl ?_
  refine ft_iload_n dL_law_377 rfl ?_
  refine ft_iconst (v := 3) dL_law_378 rfl ?_
  refine ft_iadd dL_law_379 ?_
  refine ft_sld rfl (vp_in_iff.mpr b3) dL_law_380 ?_
  refine ft_aload_n dL_law_381 rfl ?_
  refine ft_iload_n dL_law_382 rfl ?_
  refine ft_iconst (v := 4) dL_law_383 rfl ?_
  refine ft_iadd dL_law_384 ?_
  refine ft_sld rfl (vp_in_iff.mpr b4) dL_law_385 ?_
  refine ft_V4i cf_L_39 sh_78 (t_X11_bus h2) (Nat.le_of_ble_eq_true rfl) dL_law_386 (fun r' J P' q => ?_)
  obtain ⟨rfl, rfl, rfl⟩ := q
  exact fj_icmp_eq (tgt := 1315) dL_law_389 (by decide) (fun _ => hk _ _ h3 hv) (fun h => absurd rfl h)
def Op_zoneTold : Prop := ∀ (I : fc_I) (x1 : Int32) (x2 : Int32), Rel I → PR (f_X10_zoneTold I x1 x2) (f_X11_zoneTold I x1 x2)
set_option maxHeartbeats 4000000 in
set_option maxRecDepth 100000 in
theorem lw_zoneTold {d nb zb L : Nat} {xs : Nat → Int32} {i : Int32} {I : fc_I} {v : Nat} {Q : fc_Q} (H : Op_zoneTold) (b1 : 0 ≤ (i + 1).toInt ∧ (i + 1).toInt < (L : Int)) (b2 : 0 ≤ (i + 2).toInt ∧ (i + 2).toInt < (L : Int)) (b3 : 0 ≤ (i + 3).toInt ∧ (i + 3).toInt < (L : Int)) (b4 : 0 ≤ (i + 4).toInt ∧ (i + 4).toInt < (L : Int)) (b5 : 0 ≤ (i + 5).toInt ∧ (i + 5).toInt < (L : Int)) (hR : Rel I) (hv : fc_v v) (hk : ∀ I v, Rel I → fc_v v → fc_T (Lm L xs) (d + 94) nb zb 1315 [some (.ref (1000 + 400)), some (.ref 0), some (.ref 78), some (.int i)] [] fc_SH I (fc_PT v) Q) : fc_T (Lm L xs) (d + 94) nb zb 394 [some (.ref (1000 + 400)), some (.ref 0), some (.ref 78), some (.int i)] [] fc_SH I (fc_PT v) Q := by
  refine ft_aload_n dL_law_394 rfl ?_
  refine ft_aload_n dL_law_395 rfl ?_
  refine ft_iload_n dL_law_396 rfl ?_
  refine ft_iconst (v := 1) dL_law_397 rfl ?_
  refine ft_iadd dL_law_398 ?_
  refine ft_sld rfl (vp_in_iff.mpr b1) dL_law_399 ?_
  refine ft_aload_n dL_law_400 rfl ?_
  refine ft_iload_n dL_law_401 rfl ?_
  refine ft_iconst (v := 2) dL_law_402 rfl ?_
  refine ft_iadd dL_law_403 ?_
  refine ft_sld rfl (vp_in_iff.mpr b2) dL_law_404 ?_
  obtain ⟨r, h1, h2⟩ := H I (xs (cn (i + 1))) (xs (cn (i + 2))) hR
  refine ft_V2p cf_L_40 sh_0 (t_X10_zoneTold h1) (Nat.le_of_ble_eq_true rfl) dL_law_405 ?_
  refine ft_aload_n dL_law_408 rfl ?_
  refine ft_aload_n dL_law_409 rfl ?_
  refine ft_iload_n dL_law_410 rfl ?_
  refine ft_iconst (v := 1) dL_law_411 rfl ?_
  refine ft_iadd dL_law_412 ?_
  refine ft_sld rfl (vp_in_iff.mpr b1) dL_law_413 ?_
  refine ft_aload_n dL_law_414 rfl ?_
  refine ft_iload_n dL_law_415 rfl ?_
  refine ft_iconst (v := 2) dL_law_416 rfl ?_
  refine ft_iadd dL_law_417 ?_
  refine ft_sld rfl (vp_in_iff.mpr b2) dL_law_418 ?_
  refine ft_V2p cf_L_44 sh_78 (t_X11_zoneTold h2) (Nat.le_of_ble_eq_true rfl) dL_law_419 ?_
  exact fj_icmp_eq (tgt := 1315) dL_law_422 (by decide) (fun _ => hk _ _ hR hv) (fun h => absurd rfl h)
def Op_shelterTold : Prop := ∀ (I : fc_I) (x1 : Int32) (x2 : Int32), Rel I → PR (f_X10_shelterTold I x1 x2) (f_X11_shelterTold I x1 x2)
set_option maxHeartbeats 4000000 in
set_option maxRecDepth 100000 in
theorem lw_shelterTold {d nb zb L : Nat} {xs : Nat → Int32} {i : Int32} {I : fc_I} {v : Nat} {Q : fc_Q} (H : Op_shelterTold) (b1 : 0 ≤ (i + 1).toInt ∧ (i + 1).toInt < (L : Int)) (b2 : 0 ≤ (i + 2).toInt ∧ (i + 2).toInt < (L : Int)) (b3 : 0 ≤ (i + 3).toInt ∧ (i + 3).toInt < (L : Int)) (b4 : 0 ≤ (i + 4).toInt ∧ (i + 4).toInt < (L : Int)) (b5 : 0 ≤ (i + 5).toInt ∧ (i + 5).toInt < (L : Int)) (hR : Rel I) (hv : fc_v v) (hk : ∀ I v, Rel I → fc_v v → fc_T (Lm L xs) (d + 94) nb zb 1315 [some (.ref (1000 + 400)), some (.ref 0), some (.ref 78), some (.int i)] [] fc_SH I (fc_PT v) Q) : fc_T (Lm L xs) (d + 94) nb zb 427 [some (.ref (1000 + 400)), some (.ref 0), some (.ref 78), some (.int i)] [] fc_SH I (fc_PT v) Q := by
  refine ft_aload_n dL_law_427 rfl ?_
  refine ft_aload_n dL_law_428 rfl ?_
  refine ft_iload_n dL_law_429 rfl ?_
  refine ft_iconst (v := 1) dL_law_430 rfl ?_
  refine ft_iadd dL_law_431 ?_
  refine ft_sld rfl (vp_in_iff.mpr b1) dL_law_432 ?_
  refine ft_aload_n dL_law_433 rfl ?_
  refine ft_iload_n dL_law_434 rfl ?_
  refine ft_iconst (v := 2) dL_law_435 rfl ?_
  refine ft_iadd dL_law_436 ?_
  refine ft_sld rfl (vp_in_iff.mpr b2) dL_law_437 ?_
  obtain ⟨r, h1, h2⟩ := H I (xs (cn (i + 1))) (xs (cn (i + 2))) hR
  refine ft_V2p cf_L_45 sh_0 (t_X10_shelterTold h1) (Nat.le_of_ble_eq_true rfl) dL_law_438 ?_
  refine ft_aload_n dL_law_441 rfl ?_
  refine ft_aload_n dL_law_442 rfl ?_
  refine ft_iload_n dL_law_443 rfl ?_
  refine ft_iconst (v := 1) dL_law_444 rfl ?_
  refine ft_iadd dL_law_445 ?_
  refine ft_sld rfl (vp_in_iff.mpr b1) dL_law_446 ?_
  refine ft_aload_n dL_law_447 rfl ?_
  refine ft_iload_n dL_law_448 rfl ?_
  refine ft_iconst (v := 2) dL_law_449 rfl ?_
  refine ft_iadd dL_law_450 ?_
  refine ft_sld rfl (vp_in_iff.mpr b2) dL_law_451 ?_
  refine ft_V2p cf_L_48 sh_78 (t_X11_shelterTold h2) (Nat.le_of_ble_eq_true rfl) dL_law_452 ?_
  exact fj_icmp_eq (tgt := 1315) dL_law_455 (by decide) (fun _ => hk _ _ hR hv) (fun h => absurd rfl h)
def Op_roadTold : Prop := ∀ (I : fc_I) (x1 : Int32) (x2 : Int32), Rel I → PR (f_X10_roadTold I x1 x2) (f_X11_roadTold I x1 x2)
set_option maxHeartbeats 4000000 in
set_option maxRecDepth 100000 in
theorem lw_roadTold {d nb zb L : Nat} {xs : Nat → Int32} {i : Int32} {I : fc_I} {v : Nat} {Q : fc_Q} (H : Op_roadTold) (b1 : 0 ≤ (i + 1).toInt ∧ (i + 1).toInt < (L : Int)) (b2 : 0 ≤ (i + 2).toInt ∧ (i + 2).toInt < (L : Int)) (b3 : 0 ≤ (i + 3).toInt ∧ (i + 3).toInt < (L : Int)) (b4 : 0 ≤ (i + 4).toInt ∧ (i + 4).toInt < (L : Int)) (b5 : 0 ≤ (i + 5).toInt ∧ (i + 5).toInt < (L : Int)) (hR : Rel I) (hv : fc_v v) (hk : ∀ I v, Rel I → fc_v v → fc_T (Lm L xs) (d + 94) nb zb 1315 [some (.ref (1000 + 400)), some (.ref 0), some (.ref 78), some (.int i)] [] fc_SH I (fc_PT v) Q) : fc_T (Lm L xs) (d + 94) nb zb 460 [some (.ref (1000 + 400)), some (.ref 0), some (.ref 78), some (.int i)] [] fc_SH I (fc_PT v) Q := by
  refine ft_aload_n dL_law_460 rfl ?_
  refine ft_aload_n dL_law_461 rfl ?_
  refine ft_iload_n dL_law_462 rfl ?_
  refine ft_iconst (v := 1) dL_law_463 rfl ?_
  refine ft_iadd dL_law_464 ?_
  refine ft_sld rfl (vp_in_iff.mpr b1) dL_law_465 ?_
  refine ft_aload_n dL_law_466 rfl ?_
  refine ft_iload_n dL_law_467 rfl ?_
  refine ft_iconst (v := 2) dL_law_468 rfl ?_
  refine ft_iadd dL_law_469 ?_
  refine ft_sld rfl (vp_in_iff.mpr b2) dL_law_470 ?_
  obtain ⟨r, h1, h2⟩ := H I (xs (cn (i + 1))) (xs (cn (i + 2))) hR
  refine ft_V2p cf_L_49 sh_0 (t_X10_roadTold h1) (Nat.le_of_ble_eq_true rfl) dL_law_471 ?_
  refine ft_aload_n dL_law_474 rfl ?_
  refine ft_aload_n dL_law_475 rfl ?_
  refine ft_iload_n dL_law_476 rfl ?_
  refine ft_iconst (v := 1) dL_law_477 rfl ?_
  refine ft_iadd dL_law_478 ?_
  refine ft_sld rfl (vp_in_iff.mpr b1) dL_law_479 ?_
  refine ft_aload_n dL_law_480 rfl ?_
  refine ft_iload_n dL_law_481 rfl ?_
  refine ft_iconst (v := 2) dL_law_482 rfl ?_
  refine ft_iadd dL_law_483 ?_
  refine ft_sld rfl (vp_in_iff.mpr b2) dL_law_484 ?_
  refine ft_V2p cf_L_52 sh_78 (t_X11_roadTold h2) (Nat.le_of_ble_eq_true rfl) dL_law_485 ?_
  exact fj_icmp_eq (tgt := 1315) dL_law_488 (by decide) (fun _ => hk _ _ hR hv) (fun h => absurd rfl h)
def Op_busTold : Prop := ∀ (I : fc_I) (x1 : Int32) (x2 : Int32), Rel I → PR (f_X10_busTold I x1 x2) (f_X11_busTold I x1 x2)
set_option maxHeartbeats 4000000 in
set_option maxRecDepth 100000 in
theorem lw_busTold {d nb zb L : Nat} {xs : Nat → Int32} {i : Int32} {I : fc_I} {v : Nat} {Q : fc_Q} (H : Op_busTold) (b1 : 0 ≤ (i + 1).toInt ∧ (i + 1).toInt < (L : Int)) (b2 : 0 ≤ (i + 2).toInt ∧ (i + 2).toInt < (L : Int)) (b3 : 0 ≤ (i + 3).toInt ∧ (i + 3).toInt < (L : Int)) (b4 : 0 ≤ (i + 4).toInt ∧ (i + 4).toInt < (L : Int)) (b5 : 0 ≤ (i + 5).toInt ∧ (i + 5).toInt < (L : Int)) (hR : Rel I) (hv : fc_v v) (hk : ∀ I v, Rel I → fc_v v → fc_T (Lm L xs) (d + 94) nb zb 1315 [some (.ref (1000 + 400)), some (.ref 0), some (.ref 78), some (.int i)] [] fc_SH I (fc_PT v) Q) : fc_T (Lm L xs) (d + 94) nb zb 493 [some (.ref (1000 + 400)), some (.ref 0), some (.ref 78), some (.int i)] [] fc_SH I (fc_PT v) Q := by
  refine ft_aload_n dL_law_493 rfl ?_
  refine ft_aload_n dL_law_494 rfl ?_
  refine ft_iload_n dL_law_495 rfl ?_
  refine ft_iconst (v := 1) dL_law_496 rfl ?_
  refine ft_iadd dL_law_497 ?_
  refine ft_sld rfl (vp_in_iff.mpr b1) dL_law_498 ?_
  refine ft_aload_n dL_law_499 rfl ?_
  refine ft_iload_n dL_law_500 rfl ?_
  refine ft_iconst (v := 2) dL_law_501 rfl ?_
  refine ft_iadd dL_law_502 ?_
  refine ft_sld rfl (vp_in_iff.mpr b2) dL_law_503 ?_
  obtain ⟨r, h1, h2⟩ := H I (xs (cn (i + 1))) (xs (cn (i + 2))) hR
  refine ft_V2p cf_L_53 sh_0 (t_X10_busTold h1) (Nat.le_of_ble_eq_true rfl) dL_law_504 ?_
  refine ft_aload_n dL_law_507 rfl ?_
  refine ft_aload_n dL_law_508 rfl ?_
  refine ft_iload_n dL_law_509 rfl ?_
  refine ft_iconst (v := 1) dL_law_510 rfl ?_
  refine ft_iadd dL_law_511 ?_
  refine ft_sld rfl (vp_in_iff.mpr b1) dL_law_512 ?_
  refine ft_aload_n dL_law_513 rfl ?_
  refine ft_iload_n dL_law_514 rfl ?_
  refine ft_iconst (v := 2) dL_law_515 rfl ?_
  refine ft_iadd dL_law_516 ?_
  refine ft_sld rfl (vp_in_iff.mpr b2) dL_law_517 ?_
  refine ft_V2p cf_L_56 sh_78 (t_X11_busTold h2) (Nat.le_of_ble_eq_true rfl) dL_law_518 ?_
  exact fj_icmp_eq (tgt := 1315) dL_law_521 (by decide) (fun _ => hk _ _ hR hv) (fun h => absurd rfl h)
def Op_end : Prop := ∀ (I : fc_I) (x1 : Int32), Rel I → RR (f_X10_end I x1) (fun I => f_X11_end I x1)
set_option maxHeartbeats 4000000 in
set_option maxRecDepth 100000 in
theorem lw_end {d nb zb L : Nat} {xs : Nat → Int32} {i : Int32} {I : fc_I} {v : Nat} {Q : fc_Q} (H : Op_end) (b1 : 0 ≤ (i + 1).toInt ∧ (i + 1).toInt < (L : Int)) (b2 : 0 ≤ (i + 2).toInt ∧ (i + 2).toInt < (L : Int)) (b3 : 0 ≤ (i + 3).toInt ∧ (i + 3).toInt < (L : Int)) (b4 : 0 ≤ (i + 4).toInt ∧ (i + 4).toInt < (L : Int)) (b5 : 0 ≤ (i + 5).toInt ∧ (i + 5).toInt < (L : Int)) (hR : Rel I) (hv : fc_v v) (hk : ∀ I v, Rel I → fc_v v → fc_T (Lm L xs) (d + 94) nb zb 1315 [some (.ref (1000 + 400)), some (.ref 0), some (.ref 78), some (.int i)] [] fc_SH I (fc_PT v) Q) : fc_T (Lm L xs) (d + 94) nb zb 526 [some (.ref (1000 + 400)), some (.ref 0), some (.ref 78), some (.int i)] [] fc_SH I (fc_PT v) Q := by
  refine ft_aload_n dL_law_526 rfl ?_
  refine ft_aload_n dL_law_527 rfl ?_
  refine ft_iload_n dL_law_528 rfl ?_
  refine ft_iconst (v := 1) dL_law_529 rfl ?_
  refine ft_iadd dL_law_530 ?_
  refine ft_sld rfl (vp_in_iff.mpr b1) dL_law_531 ?_
  obtain ⟨r, I1, I2, h1, h2, h3⟩ := H I (xs (cn (i + 1))) hR
  refine ft_V1i cf_L_57 sh_0 (t_X10_end h1) (Nat.le_of_ble_eq_true rfl) dL_law_532 (fun r' J P' q => ?_)
  obtain ⟨rfl, rfl, rfl⟩ := q
  refine ft_aload_n dL_law_535 rfl ?_
  refine ft_aload_n dL_law_536 rfl ?_
  refine ft_iload_n dL_law_537 rfl ?_
  refine ft_iconst (v := 1) dL_law_538 rfl ?_
  refine ft_iadd dL_law_539 ?_
  refine ft_sld rfl (vp_in_iff.mpr b1) dL_law_540 ?_
  refine ft_V1i cf_L_60 sh_78 (t_X11_end h2) (Nat.le_of_ble_eq_true rfl) dL_law_541 (fun r' J P' q => ?_)
  obtain ⟨rfl, rfl, rfl⟩ := q
  exact fj_icmp_eq (tgt := 1315) dL_law_544 (by decide) (fun _ => hk _ _ h3 hv) (fun h => absurd rfl h)
def Op_likely : Prop := ∀ (I : fc_I) (x1 : Int32) (x2 : Int32), Rel I → RR (f_X10_likely I x1 x2) (fun I => f_X11_likely I x1 x2)
set_option maxHeartbeats 4000000 in
set_option maxRecDepth 100000 in
theorem lw_likely {d nb zb L : Nat} {xs : Nat → Int32} {i : Int32} {I : fc_I} {v : Nat} {Q : fc_Q} (H : Op_likely) (b1 : 0 ≤ (i + 1).toInt ∧ (i + 1).toInt < (L : Int)) (b2 : 0 ≤ (i + 2).toInt ∧ (i + 2).toInt < (L : Int)) (b3 : 0 ≤ (i + 3).toInt ∧ (i + 3).toInt < (L : Int)) (b4 : 0 ≤ (i + 4).toInt ∧ (i + 4).toInt < (L : Int)) (b5 : 0 ≤ (i + 5).toInt ∧ (i + 5).toInt < (L : Int)) (hR : Rel I) (hv : fc_v v) (hk : ∀ I v, Rel I → fc_v v → fc_T (Lm L xs) (d + 94) nb zb 1315 [some (.ref (1000 + 400)), some (.ref 0), some (.ref 78), some (.int i)] [] fc_SH I (fc_PT v) Q) : fc_T (Lm L xs) (d + 94) nb zb 549 [some (.ref (1000 + 400)), some (.ref 0), some (.ref 78), some (.int i)] [] fc_SH I (fc_PT v) Q := by
  refine ft_aload_n dL_law_549 rfl ?_
  refine ft_aload_n dL_law_550 rfl ?_
  refine ft_iload_n dL_law_551 rfl ?_
  refine ft_iconst (v := 1) dL_law_552 rfl ?_
  refine ft_iadd dL_law_553 ?_
  refine ft_sld rfl (vp_in_iff.mpr b1) dL_law_554 ?_
  refine ft_aload_n dL_law_555 rfl ?_
  refine ft_iload_n dL_law_556 rfl ?_
  refine ft_iconst (v := 2) dL_law_557 rfl ?_
  refine ft_iadd dL_law_558 ?_
  refine ft_sld rfl (vp_in_iff.mpr b2) dL_law_559 ?_
  obtain ⟨r, I1, I2, h1, h2, h3⟩ := H I (xs (cn (i + 1))) (xs (cn (i + 2))) hR
  refine ft_V2i cf_L_61 sh_0 (t_X10_likely h1) (Nat.le_of_ble_eq_true rfl) dL_law_560 (fun r' J P' q => ?_)
  obtain ⟨rfl, rfl, rfl⟩ := q
  refine ft_aload_n dL_law_563 rfl ?_
  refine ft_aload_n dL_law_564 rfl ?_
  refine ft_iload_n dL_law_565 rfl ?_
  refine ft_iconst (v := 1) dL_law_566 rfl ?_
  refine ft_iadd dL_law_567 ?_
  refine ft_sld rfl (vp_in_iff.mpr b1) dL_law_568 ?_
  refine ft_aload_n dL_law_569 rfl ?_
  refine ft_iload_n dL_law_570 rfl ?_
  refine ft_iconst (v := 2) dL_law_571 rfl ?_
  refine ft_iadd dL_law_572 ?_
  refine ft_sld rfl (vp_in_iff.mpr b2) dL_law_573 ?_
  refine ft_V2i cf_L_64 sh_78 (t_X11_likely h2) (Nat.le_of_ble_eq_true rfl) dL_law_574 (fun r' J P' q => ?_)
  obtain ⟨rfl, rfl, rfl⟩ := q
  exact fj_icmp_eq (tgt := 1315) dL_law_577 (by decide) (fun _ => hk _ _ h3 hv) (fun h => absurd rfl h)
def Op_truth : Prop := ∀ (I : fc_I) (x1 : Int32), Rel I → RR (f_X10_truth I x1) (fun I => f_X11_truth I x1)
set_option maxHeartbeats 4000000 in
set_option maxRecDepth 100000 in
theorem lw_truth {d nb zb L : Nat} {xs : Nat → Int32} {i : Int32} {I : fc_I} {v : Nat} {Q : fc_Q} (H : Op_truth) (b1 : 0 ≤ (i + 1).toInt ∧ (i + 1).toInt < (L : Int)) (b2 : 0 ≤ (i + 2).toInt ∧ (i + 2).toInt < (L : Int)) (b3 : 0 ≤ (i + 3).toInt ∧ (i + 3).toInt < (L : Int)) (b4 : 0 ≤ (i + 4).toInt ∧ (i + 4).toInt < (L : Int)) (b5 : 0 ≤ (i + 5).toInt ∧ (i + 5).toInt < (L : Int)) (hR : Rel I) (hv : fc_v v) (hk : ∀ I v, Rel I → fc_v v → fc_T (Lm L xs) (d + 94) nb zb 1315 [some (.ref (1000 + 400)), some (.ref 0), some (.ref 78), some (.int i)] [] fc_SH I (fc_PT v) Q) : fc_T (Lm L xs) (d + 94) nb zb 582 [some (.ref (1000 + 400)), some (.ref 0), some (.ref 78), some (.int i)] [] fc_SH I (fc_PT v) Q := by
  refine ft_aload_n dL_law_582 rfl ?_
  refine ft_aload_n dL_law_583 rfl ?_
  refine ft_iload_n dL_law_584 rfl ?_
  refine ft_iconst (v := 1) dL_law_585 rfl ?_
  refine ft_iadd dL_law_586 ?_
  refine ft_sld rfl (vp_in_iff.mpr b1) dL_law_587 ?_
  obtain ⟨r, I1, I2, h1, h2, h3⟩ := H I (xs (cn (i + 1))) hR
  refine ft_V1i cf_L_65 sh_0 (t_X10_truth h1) (Nat.le_of_ble_eq_true rfl) dL_law_588 (fun r' J P' q => ?_)
  obtain ⟨rfl, rfl, rfl⟩ := q
  refine ft_aload_n dL_law_591 rfl ?_
  refine ft_aload_n dL_law_592 rfl ?_
  refine ft_iload_n dL_law_593 rfl ?_
  refine ft_iconst (v := 1) dL_law_594 rfl ?_
  refine ft_iadd dL_law_595 ?_
  refine ft_sld rfl (vp_in_iff.mpr b1) dL_law_596 ?_
  refine ft_V1i cf_L_68 sh_78 (t_X11_truth h2) (Nat.le_of_ble_eq_true rfl) dL_law_597 (fun r' J P' q => ?_)
  obtain ⟨rfl, rfl, rfl⟩ := q
  exact fj_icmp_eq (tgt := 1315) dL_law_600 (by decide) (fun _ => hk _ _ h3 hv) (fun h => absurd rfl h)
def Op_news : Prop := ∀ (I : fc_I) (x1 : Int32) (x2 : Int32) (x3 : Int32) (x4 : Int32) (x5 : Int32), Rel I → RR (f_X10_news I x1 x2 x3 x4 x5) (fun I => f_X11_news I x1 x2 x3 x4 x5)
set_option maxHeartbeats 4000000 in
set_option maxRecDepth 100000 in
theorem lw_news {d nb zb L : Nat} {xs : Nat → Int32} {i : Int32} {I : fc_I} {v : Nat} {Q : fc_Q} (H : Op_news) (b1 : 0 ≤ (i + 1).toInt ∧ (i + 1).toInt < (L : Int)) (b2 : 0 ≤ (i + 2).toInt ∧ (i + 2).toInt < (L : Int)) (b3 : 0 ≤ (i + 3).toInt ∧ (i + 3).toInt < (L : Int)) (b4 : 0 ≤ (i + 4).toInt ∧ (i + 4).toInt < (L : Int)) (b5 : 0 ≤ (i + 5).toInt ∧ (i + 5).toInt < (L : Int)) (hR : Rel I) (hv : fc_v v) (hk : ∀ I v, Rel I → fc_v v → fc_T (Lm L xs) (d + 94) nb zb 1315 [some (.ref (1000 + 400)), some (.ref 0), some (.ref 78), some (.int i)] [] fc_SH I (fc_PT v) Q) : fc_T (Lm L xs) (d + 94) nb zb 605 [some (.ref (1000 + 400)), some (.ref 0), some (.ref 78), some (.int i)] [] fc_SH I (fc_PT v) Q := by
  refine ft_aload_n dL_law_605 rfl ?_
  refine ft_aload_n dL_law_606 rfl ?_
  refine ft_iload_n dL_law_607 rfl ?_
  refine ft_iconst (v := 1) dL_law_608 rfl ?_
  refine ft_iadd dL_law_609 ?_
  refine ft_sld rfl (vp_in_iff.mpr b1) dL_law_610 ?_
  refine ft_aload_n dL_law_611 rfl ?_
  refine ft_iload_n dL_law_612 rfl ?_
  refine ft_iconst (v := 2) dL_law_613 rfl ?_
  refine ft_iadd dL_law_614 ?_
  refine ft_sld rfl (vp_in_iff.mpr b2) dL_law_615 ?_
  refine ft_aload_n dL_law_616 rfl ?_
  refine ft_iload_n dL_law_617 rfl ?_
  refine ft_iconst (v := 3) dL_law_618 rfl ?_
  refine ft_iadd dL_law_619 ?_
  refine ft_sld rfl (vp_in_iff.mpr b3) dL_law_620 ?_
  refine ft_aload_n dL_law_621 rfl ?_
  refine ft_iload_n dL_law_622 rfl ?_
  refine ft_iconst (v := 4) dL_law_623 rfl ?_
  refine ft_iadd dL_law_624 ?_
  refine ft_sld rfl (vp_in_iff.mpr b4) dL_law_625 ?_
  refine ft_aload_n dL_law_626 rfl ?_
  refine ft_iload_n dL_law_627 rfl ?_
  refine ft_iconst (v := 5) dL_law_628 rfl ?_
  refine ft_iadd dL_law_629 ?_
  refine ft_sld rfl (vp_in_iff.mpr b5) dL_law_630 ?_
  obtain ⟨r, I1, I2, h1, h2, h3⟩ := H I (xs (cn (i + 1))) (xs (cn (i + 2))) (xs (cn (i + 3))) (xs (cn (i + 4))) (xs (cn (i + 5))) hR
  refine ft_V5i cf_L_69 sh_0 (t_X10_news h1) (Nat.le_of_ble_eq_true rfl) dL_law_631 (fun r' J P' q => ?_)
  obtain ⟨rfl, rfl, rfl⟩ := q
  refine ft_aload_n dL_law_634 rfl ?_
  refine ft_aload_n dL_law_635 rfl ?_
  refine ft_iload_n dL_law_636 rfl ?_
  refine ft_iconst (v := 1) dL_law_637 rfl ?_
  refine ft_iadd dL_law_638 ?_
  refine ft_sld rfl (vp_in_iff.mpr b1) dL_law_639 ?_
  refine ft_aload_n dL_law_640 rfl ?_
  refine ft_iload_n dL_law_641 rfl ?_
  refine ft_iconst (v := 2) dL_law_642 rfl ?_
  refine ft_iadd dL_law_643 ?_
  refine ft_sld rfl (vp_in_iff.mpr b2) dL_law_644 ?_
  refine ft_aload_n dL_law_645 rfl ?_
  refine ft_iload_n dL_law_646 rfl ?_
  refine ft_iconst (v := 3) dL_law_647 rfl ?_
  refine ft_iadd dL_law_648 ?_
  refine ft_sld rfl (vp_in_iff.mpr b3) dL_law_649 ?_
  refine ft_aload_n dL_law_650 rfl ?_
  refine ft_iload_n dL_law_651 rfl ?_
  refine ft_iconst (v := 4) dL_law_652 rfl ?_
  refine ft_iadd dL_law_653 ?_
  refine ft_sld rfl (vp_in_iff.mpr b4) dL_law_654 ?_
  refine ft_aload_n dL_law_655 rfl ?_
  refine ft_iload_n dL_law_656 rfl ?_
  refine ft_iconst (v := 5) dL_law_657 rfl ?_
  refine ft_iadd dL_law_658 ?_
  refine ft_sld rfl (vp_in_iff.mpr b5) dL_law_659 ?_
  refine ft_V5i cf_L_73 sh_78 (t_X11_news h2) (Nat.le_of_ble_eq_true rfl) dL_law_660 (fun r' J P' q => ?_)
  obtain ⟨rfl, rfl, rfl⟩ := q
  exact fj_icmp_eq (tgt := 1315) dL_law_663 (by decide) (fun _ => hk _ _ h3 hv) (fun h => absurd rfl h)
def Op_known : Prop := ∀ (I : fc_I) (x1 : Int32) (x2 : Int32) (x3 : Int32) (x4 : Int32), Rel I → PR (f_X10_known I x1 x2 x3 x4) (f_X11_known I x1 x2 x3 x4)
set_option maxHeartbeats 4000000 in
set_option maxRecDepth 100000 in
theorem lw_known {d nb zb L : Nat} {xs : Nat → Int32} {i : Int32} {I : fc_I} {v : Nat} {Q : fc_Q} (H : Op_known) (b1 : 0 ≤ (i + 1).toInt ∧ (i + 1).toInt < (L : Int)) (b2 : 0 ≤ (i + 2).toInt ∧ (i + 2).toInt < (L : Int)) (b3 : 0 ≤ (i + 3).toInt ∧ (i + 3).toInt < (L : Int)) (b4 : 0 ≤ (i + 4).toInt ∧ (i + 4).toInt < (L : Int)) (b5 : 0 ≤ (i + 5).toInt ∧ (i + 5).toInt < (L : Int)) (hR : Rel I) (hv : fc_v v) (hk : ∀ I v, Rel I → fc_v v → fc_T (Lm L xs) (d + 94) nb zb 1315 [some (.ref (1000 + 400)), some (.ref 0), some (.ref 78), some (.int i)] [] fc_SH I (fc_PT v) Q) : fc_T (Lm L xs) (d + 94) nb zb 668 [some (.ref (1000 + 400)), some (.ref 0), some (.ref 78), some (.int i)] [] fc_SH I (fc_PT v) Q := by
  refine ft_aload_n dL_law_668 rfl ?_
  refine ft_aload_n dL_law_669 rfl ?_
  refine ft_iload_n dL_law_670 rfl ?_
  refine ft_iconst (v := 1) dL_law_671 rfl ?_
  refine ft_iadd dL_law_672 ?_
  refine ft_sld rfl (vp_in_iff.mpr b1) dL_law_673 ?_
  refine ft_aload_n dL_law_674 rfl ?_
  refine ft_iload_n dL_law_675 rfl ?_
  refine ft_iconst (v := 2) dL_law_676 rfl ?_
  refine ft_iadd dL_law_677 ?_
  refine ft_sld rfl (vp_in_iff.mpr b2) dL_law_678 ?_
  refine ft_aload_n dL_law_679 rfl ?_
  refine ft_iload_n dL_law_680 rfl ?_
  refine ft_iconst (v := 3) dL_law_681 rfl ?_
  refine ft_iadd dL_law_682 ?_
  refine ft_sld rfl (vp_in_iff.mpr b3) dL_law_683 ?_
  refine ft_aload_n dL_law_684 rfl ?_
  refine ft_iload_n dL_law_685 rfl ?_
  refine ft_iconst (v := 4) dL_law_686 rfl ?_
  refine ft_iadd dL_law_687 ?_
  refine ft_sld rfl (vp_in_iff.mpr b4) dL_law_688 ?_
  obtain ⟨r, h1, h2⟩ := H I (xs (cn (i + 1))) (xs (cn (i + 2))) (xs (cn (i + 3))) (xs (cn (i + 4))) hR
  refine ft_V4p cf_L_74 sh_0 (t_X10_known h1) (Nat.le_of_ble_eq_true rfl) dL_law_689 ?_
  refine ft_aload_n dL_law_692 rfl ?_
  refine ft_aload_n dL_law_693 rfl ?_
  refine ft_iload_n dL_law_694 rfl ?_
  refine ft_iconst (v := 1) dL_law_695 rfl ?_
  refine ft_iadd dL_law_696 ?_
  refine ft_sld rfl (vp_in_iff.mpr b1) dL_law_697 ?_
  refine ft_aload_n dL_law_698 rfl ?_
  refine ft_iload_n dL_law_699 rfl ?_
  refine ft_iconst (v := 2) dL_law_700 rfl ?_
  refine ft_iadd dL_law_701 ?_
  refine ft_sld rfl (vp_in_iff.mpr b2) dL_law_702 ?_
  refine ft_aload_n dL_law_703 rfl ?_
  refine ft_iload_n dL_law_704 rfl ?_
  refine ft_iconst (v := 3) dL_law_705 rfl ?_
  refine ft_iadd dL_law_706 ?_
  refine ft_sld rfl (vp_in_iff.mpr b3) dL_law_707 ?_
  refine ft_aload_n dL_law_708 rfl ?_
  refine ft_iload_n dL_law_709 rfl ?_
  refine ft_iconst (v := 4) dL_law_710 rfl ?_
  refine ft_iadd dL_law_711 ?_
  refine ft_sld rfl (vp_in_iff.mpr b4) dL_law_712 ?_
  refine ft_V4p cf_L_77 sh_78 (t_X11_known h2) (Nat.le_of_ble_eq_true rfl) dL_law_713 ?_
  exact fj_icmp_eq (tgt := 1315) dL_law_716 (by decide) (fun _ => hk _ _ hR hv) (fun h => absurd rfl h)
def Op_feed : Prop := ∀ (I : fc_I) (x1 : Int32) (x2 : Int64), Rel I → RR (f_X10_feed I x1 x2) (fun I => f_X11_feed I x1 x2)
set_option maxHeartbeats 4000000 in
set_option maxRecDepth 100000 in
theorem lw_feed {d nb zb L : Nat} {xs : Nat → Int32} {i : Int32} {I : fc_I} {v : Nat} {Q : fc_Q} (H : Op_feed) (b1 : 0 ≤ (i + 1).toInt ∧ (i + 1).toInt < (L : Int)) (b2 : 0 ≤ (i + 2).toInt ∧ (i + 2).toInt < (L : Int)) (b3 : 0 ≤ (i + 3).toInt ∧ (i + 3).toInt < (L : Int)) (b4 : 0 ≤ (i + 4).toInt ∧ (i + 4).toInt < (L : Int)) (b5 : 0 ≤ (i + 5).toInt ∧ (i + 5).toInt < (L : Int)) (hR : Rel I) (hv : fc_v v) (hk : ∀ I v, Rel I → fc_v v → fc_T (Lm L xs) (d + 94) nb zb 1315 [some (.ref (1000 + 400)), some (.ref 0), some (.ref 78), some (.int i)] [] fc_SH I (fc_PT v) Q) : fc_T (Lm L xs) (d + 94) nb zb 721 [some (.ref (1000 + 400)), some (.ref 0), some (.ref 78), some (.int i)] [] fc_SH I (fc_PT v) Q := by
  refine ft_aload_n dL_law_721 rfl ?_
  refine ft_aload_n dL_law_722 rfl ?_
  refine ft_iload_n dL_law_723 rfl ?_
  refine ft_iconst (v := 1) dL_law_724 rfl ?_
  refine ft_iadd dL_law_725 ?_
  refine ft_sld rfl (vp_in_iff.mpr b1) dL_law_726 ?_
  refine ft_aload_n dL_law_727 rfl ?_
  refine ft_iload_n dL_law_728 rfl ?_
  refine ft_iconst (v := 2) dL_law_729 rfl ?_
  refine ft_iadd dL_law_730 ?_
  refine ft_sld rfl (vp_in_iff.mpr b2) dL_law_731 ?_
  refine ft_i2l dL_law_732 ?_
  refine ft_bipush (v := 32) dL_law_733 rfl ?_
  refine ft_lshl dL_law_735 ?_
  refine ft_aload_n dL_law_736 rfl ?_
  refine ft_iload_n dL_law_737 rfl ?_
  refine ft_iconst (v := 3) dL_law_738 rfl ?_
  refine ft_iadd dL_law_739 ?_
  refine ft_sld rfl (vp_in_iff.mpr b3) dL_law_740 ?_
  refine ft_i2l dL_law_741 ?_
  refine ft_ldc2 dL_law_742 kc_L_78 ?_
  refine ft_land dL_law_745 ?_
  refine ft_lor dL_law_746 ?_
  obtain ⟨r, I1, I2, h1, h2, h3⟩ := H I (xs (cn (i + 1))) (((Int32.toInt64 (xs (cn (i + 2)))) <<< (Int32.toInt64 (32 : Int32) &&& 63)) ||| ((Int32.toInt64 (xs (cn (i + 3)))) &&& (4294967295 : Int64))) hR
  refine ft_V2i cf_L_80 sh_0 (t_X10_feed hv h1) (Nat.le_of_ble_eq_true rfl) dL_law_747 (fun r' J P' q => ?_)
  obtain ⟨rfl, rfl, rfl⟩ := q
  refine ft_aload_n dL_law_750 rfl ?_
  refine ft_aload_n dL_law_751 rfl ?_
  refine ft_iload_n dL_law_752 rfl ?_
  refine ft_iconst (v := 1) dL_law_753 rfl ?_
  refine ft_iadd dL_law_754 ?_
  refine ft_sld rfl (vp_in_iff.mpr b1) dL_law_755 ?_
  refine ft_aload_n dL_law_756 rfl ?_
  refine ft_iload_n dL_law_757 rfl ?_
  refine ft_iconst (v := 2) dL_law_758 rfl ?_
  refine ft_iadd dL_law_759 ?_
  refine ft_sld rfl (vp_in_iff.mpr b2) dL_law_760 ?_
  refine ft_i2l dL_law_761 ?_
  refine ft_bipush (v := 32) dL_law_762 rfl ?_
  refine ft_lshl dL_law_764 ?_
  refine ft_aload_n dL_law_765 rfl ?_
  refine ft_iload_n dL_law_766 rfl ?_
  refine ft_iconst (v := 3) dL_law_767 rfl ?_
  refine ft_iadd dL_law_768 ?_
  refine ft_sld rfl (vp_in_iff.mpr b3) dL_law_769 ?_
  refine ft_i2l dL_law_770 ?_
  refine ft_ldc2 dL_law_771 kc_L_78 ?_
  refine ft_land dL_law_774 ?_
  refine ft_lor dL_law_775 ?_
  refine ft_V2i cf_L_84 sh_78 (t_X11_feed h2) (Nat.le_of_ble_eq_true rfl) dL_law_776 (fun r' J P' q => ?_)
  obtain ⟨rfl, rfl, rfl⟩ := q
  exact fj_icmp_eq (tgt := 1315) dL_law_779 (by decide) (fun _ => hk _ _ h3 hv) (fun h => absurd rfl h)
def Op_text : Prop := ∀ (I : fc_I) , Rel I → RR (f_X10_text I ) (fun I => f_X11_text I )
set_option maxHeartbeats 4000000 in
set_option maxRecDepth 100000 in
theorem lw_text {d nb zb L : Nat} {xs : Nat → Int32} {i : Int32} {I : fc_I} {v : Nat} {Q : fc_Q} (H : Op_text) (b1 : 0 ≤ (i + 1).toInt ∧ (i + 1).toInt < (L : Int)) (b2 : 0 ≤ (i + 2).toInt ∧ (i + 2).toInt < (L : Int)) (b3 : 0 ≤ (i + 3).toInt ∧ (i + 3).toInt < (L : Int)) (b4 : 0 ≤ (i + 4).toInt ∧ (i + 4).toInt < (L : Int)) (b5 : 0 ≤ (i + 5).toInt ∧ (i + 5).toInt < (L : Int)) (hR : Rel I) (hv : fc_v v) (hk : ∀ I v, Rel I → fc_v v → fc_T (Lm L xs) (d + 94) nb zb 1315 [some (.ref (1000 + 400)), some (.ref 0), some (.ref 78), some (.int i)] [] fc_SH I (fc_PT v) Q) : fc_T (Lm L xs) (d + 94) nb zb 784 [some (.ref (1000 + 400)), some (.ref 0), some (.ref 78), some (.int i)] [] fc_SH I (fc_PT v) Q := by
  refine ft_aload_n dL_law_784 rfl ?_
  obtain ⟨r, I1, I2, h1, h2, h3⟩ := H I  hR
  refine ft_V0i cf_L_85 sh_0 (t_X10_text hv h1) (Nat.le_of_ble_eq_true rfl) dL_law_785 (fun r' J P' q => ?_)
  obtain ⟨rfl, rfl, w, hw, rfl⟩ := q
  refine ft_aload_n dL_law_788 rfl ?_
  refine ft_V0i cf_L_89 sh_78 (t_X11_text h2) (Nat.le_of_ble_eq_true rfl) dL_law_789 (fun r' J P' q => ?_)
  obtain ⟨rfl, rfl, rfl⟩ := q
  exact fj_icmp_eq (tgt := 1315) dL_law_792 (by decide) (fun _ => hk _ _ h3 hw) (fun h => absurd rfl h)
def Op_force : Prop := ∀ (I : fc_I) (x1 : Int32), Rel I → RR (f_X10_force I x1) (fun I => f_X11_force I x1)
set_option maxHeartbeats 4000000 in
set_option maxRecDepth 100000 in
theorem lw_force {d nb zb L : Nat} {xs : Nat → Int32} {i : Int32} {I : fc_I} {v : Nat} {Q : fc_Q} (H : Op_force) (b1 : 0 ≤ (i + 1).toInt ∧ (i + 1).toInt < (L : Int)) (b2 : 0 ≤ (i + 2).toInt ∧ (i + 2).toInt < (L : Int)) (b3 : 0 ≤ (i + 3).toInt ∧ (i + 3).toInt < (L : Int)) (b4 : 0 ≤ (i + 4).toInt ∧ (i + 4).toInt < (L : Int)) (b5 : 0 ≤ (i + 5).toInt ∧ (i + 5).toInt < (L : Int)) (hR : Rel I) (hv : fc_v v) (hk : ∀ I v, Rel I → fc_v v → fc_T (Lm L xs) (d + 94) nb zb 1315 [some (.ref (1000 + 400)), some (.ref 0), some (.ref 78), some (.int i)] [] fc_SH I (fc_PT v) Q) : fc_T (Lm L xs) (d + 94) nb zb 797 [some (.ref (1000 + 400)), some (.ref 0), some (.ref 78), some (.int i)] [] fc_SH I (fc_PT v) Q := by
  refine ft_aload_n dL_law_797 rfl ?_
  refine ft_aload_n dL_law_798 rfl ?_
  refine ft_iload_n dL_law_799 rfl ?_
  refine ft_iconst (v := 1) dL_law_800 rfl ?_
  refine ft_iadd dL_law_801 ?_
  refine ft_sld rfl (vp_in_iff.mpr b1) dL_law_802 ?_
  obtain ⟨r, I1, I2, h1, h2, h3⟩ := H I (xs (cn (i + 1))) hR
  refine ft_V1i cf_L_90 sh_0 (t_X10_force h1) (Nat.le_of_ble_eq_true rfl) dL_law_803 (fun r' J P' q => ?_)
  obtain ⟨rfl, rfl, rfl⟩ := q
  refine ft_aload_n dL_law_806 rfl ?_
  refine ft_aload_n dL_law_807 rfl ?_
  refine ft_iload_n dL_law_808 rfl ?_
  refine ft_iconst (v := 1) dL_law_809 rfl ?_
  refine ft_iadd dL_law_810 ?_
  refine ft_sld rfl (vp_in_iff.mpr b1) dL_law_811 ?_
  refine ft_V1i cf_L_93 sh_78 (t_X11_force h2) (Nat.le_of_ble_eq_true rfl) dL_law_812 (fun r' J P' q => ?_)
  obtain ⟨rfl, rfl, rfl⟩ := q
  exact fj_icmp_eq (tgt := 1315) dL_law_815 (by decide) (fun _ => hk _ _ h3 hv) (fun h => absurd rfl h)
def Op_says : Prop := ∀ (I : fc_I) (x1 : Int32) (x2 : Int32), Rel I → RR (f_X10_says I x1 x2) (fun I => f_X11_says I x1 x2)
set_option maxHeartbeats 4000000 in
set_option maxRecDepth 100000 in
theorem lw_says {d nb zb L : Nat} {xs : Nat → Int32} {i : Int32} {I : fc_I} {v : Nat} {Q : fc_Q} (H : Op_says) (b1 : 0 ≤ (i + 1).toInt ∧ (i + 1).toInt < (L : Int)) (b2 : 0 ≤ (i + 2).toInt ∧ (i + 2).toInt < (L : Int)) (b3 : 0 ≤ (i + 3).toInt ∧ (i + 3).toInt < (L : Int)) (b4 : 0 ≤ (i + 4).toInt ∧ (i + 4).toInt < (L : Int)) (b5 : 0 ≤ (i + 5).toInt ∧ (i + 5).toInt < (L : Int)) (hR : Rel I) (hv : fc_v v) (hk : ∀ I v, Rel I → fc_v v → fc_T (Lm L xs) (d + 94) nb zb 1315 [some (.ref (1000 + 400)), some (.ref 0), some (.ref 78), some (.int i)] [] fc_SH I (fc_PT v) Q) : fc_T (Lm L xs) (d + 94) nb zb 820 [some (.ref (1000 + 400)), some (.ref 0), some (.ref 78), some (.int i)] [] fc_SH I (fc_PT v) Q := by
  refine ft_aload_n dL_law_820 rfl ?_
  refine ft_aload_n dL_law_821 rfl ?_
  refine ft_iload_n dL_law_822 rfl ?_
  refine ft_iconst (v := 1) dL_law_823 rfl ?_
  refine ft_iadd dL_law_824 ?_
  refine ft_sld rfl (vp_in_iff.mpr b1) dL_law_825 ?_
  refine ft_aload_n dL_law_826 rfl ?_
  refine ft_iload_n dL_law_827 rfl ?_
  refine ft_iconst (v := 2) dL_law_828 rfl ?_
  refine ft_iadd dL_law_829 ?_
  refine ft_sld rfl (vp_in_iff.mpr b2) dL_law_830 ?_
  obtain ⟨r, I1, I2, h1, h2, h3⟩ := H I (xs (cn (i + 1))) (xs (cn (i + 2))) hR
  refine ft_V2l cf_L_94 sh_0 (t_X10_says hv h1) (Nat.le_of_ble_eq_true rfl) dL_law_831 (fun r' J P' q => ?_)
  obtain ⟨rfl, rfl, rfl⟩ := q
  refine ft_aload_n dL_law_834 rfl ?_
  refine ft_aload_n dL_law_835 rfl ?_
  refine ft_iload_n dL_law_836 rfl ?_
  refine ft_iconst (v := 1) dL_law_837 rfl ?_
  refine ft_iadd dL_law_838 ?_
  refine ft_sld rfl (vp_in_iff.mpr b1) dL_law_839 ?_
  refine ft_aload_n dL_law_840 rfl ?_
  refine ft_iload_n dL_law_841 rfl ?_
  refine ft_iconst (v := 2) dL_law_842 rfl ?_
  refine ft_iadd dL_law_843 ?_
  refine ft_sld rfl (vp_in_iff.mpr b2) dL_law_844 ?_
  refine ft_V2l cf_L_98 sh_78 (t_X11_says h2) (Nat.le_of_ble_eq_true rfl) dL_law_845 (fun r' J P' q => ?_)
  obtain ⟨rfl, rfl, rfl⟩ := q
  refine ft_lcmp dL_law_848 ?_
  exact fj_if_eq (tgt := 1315) dL_law_849 (by decide) (fun _ => hk _ _ h3 hv) (fun h => absurd (by simp [lg_cmp]) h)
def Op_call : Prop := ∀ (I : fc_I) (x1 : Int32), Rel I → RR (f_X10_call I x1) (fun I => f_X11_call I x1)
set_option maxHeartbeats 4000000 in
set_option maxRecDepth 100000 in
theorem lw_call {d nb zb L : Nat} {xs : Nat → Int32} {i : Int32} {I : fc_I} {v : Nat} {Q : fc_Q} (H : Op_call) (b1 : 0 ≤ (i + 1).toInt ∧ (i + 1).toInt < (L : Int)) (b2 : 0 ≤ (i + 2).toInt ∧ (i + 2).toInt < (L : Int)) (b3 : 0 ≤ (i + 3).toInt ∧ (i + 3).toInt < (L : Int)) (b4 : 0 ≤ (i + 4).toInt ∧ (i + 4).toInt < (L : Int)) (b5 : 0 ≤ (i + 5).toInt ∧ (i + 5).toInt < (L : Int)) (hR : Rel I) (hv : fc_v v) (hk : ∀ I v, Rel I → fc_v v → fc_T (Lm L xs) (d + 94) nb zb 1315 [some (.ref (1000 + 400)), some (.ref 0), some (.ref 78), some (.int i)] [] fc_SH I (fc_PT v) Q) : fc_T (Lm L xs) (d + 94) nb zb 854 [some (.ref (1000 + 400)), some (.ref 0), some (.ref 78), some (.int i)] [] fc_SH I (fc_PT v) Q := by
  refine ft_aload_n dL_law_854 rfl ?_
  refine ft_aload_n dL_law_855 rfl ?_
  refine ft_iload_n dL_law_856 rfl ?_
  refine ft_iconst (v := 1) dL_law_857 rfl ?_
  refine ft_iadd dL_law_858 ?_
  refine ft_sld rfl (vp_in_iff.mpr b1) dL_law_859 ?_
  obtain ⟨r, I1, I2, h1, h2, h3⟩ := H I (xs (cn (i + 1))) hR
  refine ft_V1i cf_L_99 sh_0 (t_X10_call h1) (Nat.le_of_ble_eq_true rfl) dL_law_860 (fun r' J P' q => ?_)
  obtain ⟨rfl, rfl, rfl⟩ := q
  refine ft_aload_n dL_law_863 rfl ?_
  refine ft_aload_n dL_law_864 rfl ?_
  refine ft_iload_n dL_law_865 rfl ?_
  refine ft_iconst (v := 1) dL_law_866 rfl ?_
  refine ft_iadd dL_law_867 ?_
  refine ft_sld rfl (vp_in_iff.mpr b1) dL_law_868 ?_
  refine ft_V1i cf_L_102 sh_78 (t_X11_call h2) (Nat.le_of_ble_eq_true rfl) dL_law_869 (fun r' J P' q => ?_)
  obtain ⟨rfl, rfl, rfl⟩ := q
  exact fj_icmp_eq (tgt := 1315) dL_law_872 (by decide) (fun _ => hk _ _ h3 hv) (fun h => absurd rfl h)
def Op_good : Prop := ∀ (I : fc_I) (x1 : Int32), Rel I → PR (f_X10_good I x1) (f_X11_good I x1)
set_option maxHeartbeats 4000000 in
set_option maxRecDepth 100000 in
theorem lw_good {d nb zb L : Nat} {xs : Nat → Int32} {i : Int32} {I : fc_I} {v : Nat} {Q : fc_Q} (H : Op_good) (b1 : 0 ≤ (i + 1).toInt ∧ (i + 1).toInt < (L : Int)) (b2 : 0 ≤ (i + 2).toInt ∧ (i + 2).toInt < (L : Int)) (b3 : 0 ≤ (i + 3).toInt ∧ (i + 3).toInt < (L : Int)) (b4 : 0 ≤ (i + 4).toInt ∧ (i + 4).toInt < (L : Int)) (b5 : 0 ≤ (i + 5).toInt ∧ (i + 5).toInt < (L : Int)) (hR : Rel I) (hv : fc_v v) (hk : ∀ I v, Rel I → fc_v v → fc_T (Lm L xs) (d + 94) nb zb 1315 [some (.ref (1000 + 400)), some (.ref 0), some (.ref 78), some (.int i)] [] fc_SH I (fc_PT v) Q) : fc_T (Lm L xs) (d + 94) nb zb 877 [some (.ref (1000 + 400)), some (.ref 0), some (.ref 78), some (.int i)] [] fc_SH I (fc_PT v) Q := by
  refine ft_aload_n dL_law_877 rfl ?_
  refine ft_aload_n dL_law_878 rfl ?_
  refine ft_iload_n dL_law_879 rfl ?_
  refine ft_iconst (v := 1) dL_law_880 rfl ?_
  refine ft_iadd dL_law_881 ?_
  refine ft_sld rfl (vp_in_iff.mpr b1) dL_law_882 ?_
  obtain ⟨r, h1, h2⟩ := H I (xs (cn (i + 1))) hR
  refine ft_V1p cf_L_103 sh_0 (t_X10_good h1) (Nat.le_of_ble_eq_true rfl) dL_law_883 ?_
  refine ft_aload_n dL_law_886 rfl ?_
  refine ft_aload_n dL_law_887 rfl ?_
  refine ft_iload_n dL_law_888 rfl ?_
  refine ft_iconst (v := 1) dL_law_889 rfl ?_
  refine ft_iadd dL_law_890 ?_
  refine ft_sld rfl (vp_in_iff.mpr b1) dL_law_891 ?_
  refine ft_V1p cf_L_106 sh_78 (t_X11_good h2) (Nat.le_of_ble_eq_true rfl) dL_law_892 ?_
  exact fj_icmp_eq (tgt := 1315) dL_law_895 (by decide) (fun _ => hk _ _ hR hv) (fun h => absurd rfl h)
def Op_pass : Prop := ∀ (I : fc_I) (x1 : Int32), Rel I → RR (f_X10_pass I x1) (fun I => f_X11_pass I x1)
set_option maxHeartbeats 4000000 in
set_option maxRecDepth 100000 in
theorem lw_pass {d nb zb L : Nat} {xs : Nat → Int32} {i : Int32} {I : fc_I} {v : Nat} {Q : fc_Q} (H : Op_pass) (b1 : 0 ≤ (i + 1).toInt ∧ (i + 1).toInt < (L : Int)) (b2 : 0 ≤ (i + 2).toInt ∧ (i + 2).toInt < (L : Int)) (b3 : 0 ≤ (i + 3).toInt ∧ (i + 3).toInt < (L : Int)) (b4 : 0 ≤ (i + 4).toInt ∧ (i + 4).toInt < (L : Int)) (b5 : 0 ≤ (i + 5).toInt ∧ (i + 5).toInt < (L : Int)) (hR : Rel I) (hv : fc_v v) (hk : ∀ I v, Rel I → fc_v v → fc_T (Lm L xs) (d + 94) nb zb 1315 [some (.ref (1000 + 400)), some (.ref 0), some (.ref 78), some (.int i)] [] fc_SH I (fc_PT v) Q) : fc_T (Lm L xs) (d + 94) nb zb 900 [some (.ref (1000 + 400)), some (.ref 0), some (.ref 78), some (.int i)] [] fc_SH I (fc_PT v) Q := by
  refine ft_aload_n dL_law_900 rfl ?_
  refine ft_aload_n dL_law_901 rfl ?_
  refine ft_iload_n dL_law_902 rfl ?_
  refine ft_iconst (v := 1) dL_law_903 rfl ?_
  refine ft_iadd dL_law_904 ?_
  refine ft_sld rfl (vp_in_iff.mpr b1) dL_law_905 ?_
  obtain ⟨r, I1, I2, h1, h2, h3⟩ := H I (xs (cn (i + 1))) hR
  refine ft_V1i cf_L_107 sh_0 (t_X10_pass hv h1) (Nat.le_of_ble_eq_true rfl) dL_law_906 (fun r' J P' q => ?_)
  obtain ⟨rfl, rfl, rfl⟩ := q
  refine ft_aload_n dL_law_909 rfl ?_
  refine ft_aload_n dL_law_910 rfl ?_
  refine ft_iload_n dL_law_911 rfl ?_
  refine ft_iconst (v := 1) dL_law_912 rfl ?_
  refine ft_iadd dL_law_913 ?_
  refine ft_sld rfl (vp_in_iff.mpr b1) dL_law_914 ?_
  refine ft_V1i cf_L_110 sh_78 (t_X11_pass h2) (Nat.le_of_ble_eq_true rfl) dL_law_915 (fun r' J P' q => ?_)
  obtain ⟨rfl, rfl, rfl⟩ := q
  exact fj_icmp_eq (tgt := 1315) dL_law_918 (by decide) (fun _ => hk _ _ h3 hv) (fun h => absurd rfl h)
def Op_inWater : Prop := ∀ (I : fc_I) , Rel I → PR (f_X10_inWater I ) (f_X11_inWater I )
set_option maxHeartbeats 4000000 in
set_option maxRecDepth 100000 in
theorem lw_inWater {d nb zb L : Nat} {xs : Nat → Int32} {i : Int32} {I : fc_I} {v : Nat} {Q : fc_Q} (H : Op_inWater) (b1 : 0 ≤ (i + 1).toInt ∧ (i + 1).toInt < (L : Int)) (b2 : 0 ≤ (i + 2).toInt ∧ (i + 2).toInt < (L : Int)) (b3 : 0 ≤ (i + 3).toInt ∧ (i + 3).toInt < (L : Int)) (b4 : 0 ≤ (i + 4).toInt ∧ (i + 4).toInt < (L : Int)) (b5 : 0 ≤ (i + 5).toInt ∧ (i + 5).toInt < (L : Int)) (hR : Rel I) (hv : fc_v v) (hk : ∀ I v, Rel I → fc_v v → fc_T (Lm L xs) (d + 94) nb zb 1315 [some (.ref (1000 + 400)), some (.ref 0), some (.ref 78), some (.int i)] [] fc_SH I (fc_PT v) Q) : fc_T (Lm L xs) (d + 94) nb zb 923 [some (.ref (1000 + 400)), some (.ref 0), some (.ref 78), some (.int i)] [] fc_SH I (fc_PT v) Q := by
  refine ft_aload_n dL_law_923 rfl ?_
  obtain ⟨r, h1, h2⟩ := H I  hR
  refine ft_V0p cf_L_111 sh_0 (t_X10_inWater h1) (Nat.le_of_ble_eq_true rfl) dL_law_924 ?_
  refine ft_aload_n dL_law_927 rfl ?_
  refine ft_V0p cf_L_114 sh_78 (t_X11_inWater h2) (Nat.le_of_ble_eq_true rfl) dL_law_928 ?_
  exact fj_icmp_eq (tgt := 1315) dL_law_931 (by decide) (fun _ => hk _ _ hR hv) (fun h => absurd rfl h)
def Op_foresee : Prop := ∀ (I : fc_I) (x1 : Int32) (x2 : Int64), Rel I → RR (f_X10_foresee I x1 x2) (fun I => f_X11_foresee I x1 x2)
set_option maxHeartbeats 4000000 in
set_option maxRecDepth 100000 in
theorem lw_foresee {d nb zb L : Nat} {xs : Nat → Int32} {i : Int32} {I : fc_I} {v : Nat} {Q : fc_Q} (H : Op_foresee) (b1 : 0 ≤ (i + 1).toInt ∧ (i + 1).toInt < (L : Int)) (b2 : 0 ≤ (i + 2).toInt ∧ (i + 2).toInt < (L : Int)) (b3 : 0 ≤ (i + 3).toInt ∧ (i + 3).toInt < (L : Int)) (b4 : 0 ≤ (i + 4).toInt ∧ (i + 4).toInt < (L : Int)) (b5 : 0 ≤ (i + 5).toInt ∧ (i + 5).toInt < (L : Int)) (hR : Rel I) (hv : fc_v v) (hk : ∀ I v, Rel I → fc_v v → fc_T (Lm L xs) (d + 94) nb zb 1315 [some (.ref (1000 + 400)), some (.ref 0), some (.ref 78), some (.int i)] [] fc_SH I (fc_PT v) Q) : fc_T (Lm L xs) (d + 94) nb zb 936 [some (.ref (1000 + 400)), some (.ref 0), some (.ref 78), some (.int i)] [] fc_SH I (fc_PT v) Q := by
  refine ft_aload_n dL_law_936 rfl ?_
  refine ft_aload_n dL_law_937 rfl ?_
  refine ft_iload_n dL_law_938 rfl ?_
  refine ft_iconst (v := 1) dL_law_939 rfl ?_
  refine ft_iadd dL_law_940 ?_
  refine ft_sld rfl (vp_in_iff.mpr b1) dL_law_941 ?_
  refine ft_aload_n dL_law_942 rfl ?_
  refine ft_iload_n dL_law_943 rfl ?_
  refine ft_iconst (v := 2) dL_law_944 rfl ?_
  refine ft_iadd dL_law_945 ?_
  refine ft_sld rfl (vp_in_iff.mpr b2) dL_law_946 ?_
  refine ft_i2l dL_law_947 ?_
  refine ft_bipush (v := 32) dL_law_948 rfl ?_
  refine ft_lshl dL_law_950 ?_
  refine ft_aload_n dL_law_951 rfl ?_
  refine ft_iload_n dL_law_952 rfl ?_
  refine ft_iconst (v := 3) dL_law_953 rfl ?_
  refine ft_iadd dL_law_954 ?_
  refine ft_sld rfl (vp_in_iff.mpr b3) dL_law_955 ?_
  refine ft_i2l dL_law_956 ?_
  refine ft_ldc2 dL_law_957 kc_L_78 ?_
  refine ft_land dL_law_960 ?_
  refine ft_lor dL_law_961 ?_
  obtain ⟨r, I1, I2, h1, h2, h3⟩ := H I (xs (cn (i + 1))) (((Int32.toInt64 (xs (cn (i + 2)))) <<< (Int32.toInt64 (32 : Int32) &&& 63)) ||| ((Int32.toInt64 (xs (cn (i + 3)))) &&& (4294967295 : Int64))) hR
  refine ft_V2l cf_L_115 sh_0 (t_X10_foresee hv h1) (Nat.le_of_ble_eq_true rfl) dL_law_962 (fun r' J P' q => ?_)
  obtain ⟨rfl, rfl, rfl⟩ := q
  refine ft_aload_n dL_law_965 rfl ?_
  refine ft_aload_n dL_law_966 rfl ?_
  refine ft_iload_n dL_law_967 rfl ?_
  refine ft_iconst (v := 1) dL_law_968 rfl ?_
  refine ft_iadd dL_law_969 ?_
  refine ft_sld rfl (vp_in_iff.mpr b1) dL_law_970 ?_
  refine ft_aload_n dL_law_971 rfl ?_
  refine ft_iload_n dL_law_972 rfl ?_
  refine ft_iconst (v := 2) dL_law_973 rfl ?_
  refine ft_iadd dL_law_974 ?_
  refine ft_sld rfl (vp_in_iff.mpr b2) dL_law_975 ?_
  refine ft_i2l dL_law_976 ?_
  refine ft_bipush (v := 32) dL_law_977 rfl ?_
  refine ft_lshl dL_law_979 ?_
  refine ft_aload_n dL_law_980 rfl ?_
  refine ft_iload_n dL_law_981 rfl ?_
  refine ft_iconst (v := 3) dL_law_982 rfl ?_
  refine ft_iadd dL_law_983 ?_
  refine ft_sld rfl (vp_in_iff.mpr b3) dL_law_984 ?_
  refine ft_i2l dL_law_985 ?_
  refine ft_ldc2 dL_law_986 kc_L_78 ?_
  refine ft_land dL_law_989 ?_
  refine ft_lor dL_law_990 ?_
  refine ft_V2l cf_L_119 sh_78 (t_X11_foresee h2) (Nat.le_of_ble_eq_true rfl) dL_law_991 (fun r' J P' q => ?_)
  obtain ⟨rfl, rfl, rfl⟩ := q
  refine ft_lcmp dL_law_994 ?_
  exact fj_if_eq (tgt := 1315) dL_law_995 (by decide) (fun _ => hk _ _ h3 hv) (fun h => absurd (by simp [lg_cmp]) h)
def Op_best : Prop := ∀ (I : fc_I) (x1 : Int32), Rel I → RR (f_X10_best I x1) (fun I => f_X11_best I x1)
set_option maxHeartbeats 4000000 in
set_option maxRecDepth 100000 in
theorem lw_best {d nb zb L : Nat} {xs : Nat → Int32} {i : Int32} {I : fc_I} {v : Nat} {Q : fc_Q} (H : Op_best) (b1 : 0 ≤ (i + 1).toInt ∧ (i + 1).toInt < (L : Int)) (b2 : 0 ≤ (i + 2).toInt ∧ (i + 2).toInt < (L : Int)) (b3 : 0 ≤ (i + 3).toInt ∧ (i + 3).toInt < (L : Int)) (b4 : 0 ≤ (i + 4).toInt ∧ (i + 4).toInt < (L : Int)) (b5 : 0 ≤ (i + 5).toInt ∧ (i + 5).toInt < (L : Int)) (hR : Rel I) (hv : fc_v v) (hk : ∀ I v, Rel I → fc_v v → fc_T (Lm L xs) (d + 94) nb zb 1315 [some (.ref (1000 + 400)), some (.ref 0), some (.ref 78), some (.int i)] [] fc_SH I (fc_PT v) Q) : fc_T (Lm L xs) (d + 94) nb zb 1000 [some (.ref (1000 + 400)), some (.ref 0), some (.ref 78), some (.int i)] [] fc_SH I (fc_PT v) Q := by
  refine ft_aload_n dL_law_1000 rfl ?_
  refine ft_aload_n dL_law_1001 rfl ?_
  refine ft_iload_n dL_law_1002 rfl ?_
  refine ft_iconst (v := 1) dL_law_1003 rfl ?_
  refine ft_iadd dL_law_1004 ?_
  refine ft_sld rfl (vp_in_iff.mpr b1) dL_law_1005 ?_
  obtain ⟨r, I1, I2, h1, h2, h3⟩ := H I (xs (cn (i + 1))) hR
  refine ft_V1l cf_L_120 sh_0 (t_X10_best hv h1) (Nat.le_of_ble_eq_true rfl) dL_law_1006 (fun r' J P' q => ?_)
  obtain ⟨rfl, rfl, rfl⟩ := q
  refine ft_aload_n dL_law_1009 rfl ?_
  refine ft_aload_n dL_law_1010 rfl ?_
  refine ft_iload_n dL_law_1011 rfl ?_
  refine ft_iconst (v := 1) dL_law_1012 rfl ?_
  refine ft_iadd dL_law_1013 ?_
  refine ft_sld rfl (vp_in_iff.mpr b1) dL_law_1014 ?_
  refine ft_V1l cf_L_124 sh_78 (t_X11_best h2) (Nat.le_of_ble_eq_true rfl) dL_law_1015 (fun r' J P' q => ?_)
  obtain ⟨rfl, rfl, rfl⟩ := q
  refine ft_lcmp dL_law_1018 ?_
  exact fj_if_eq (tgt := 1315) dL_law_1019 (by decide) (fun _ => hk _ _ h3 hv) (fun h => absurd (by simp [lg_cmp]) h)
def Op_bestCall : Prop := ∀ (I : fc_I) (x1 : Int32), Rel I → PR (f_X10_bestCall I x1) (f_X11_bestCall I x1)
set_option maxHeartbeats 4000000 in
set_option maxRecDepth 100000 in
theorem lw_bestCall {d nb zb L : Nat} {xs : Nat → Int32} {i : Int32} {I : fc_I} {v : Nat} {Q : fc_Q} (H : Op_bestCall) (b1 : 0 ≤ (i + 1).toInt ∧ (i + 1).toInt < (L : Int)) (b2 : 0 ≤ (i + 2).toInt ∧ (i + 2).toInt < (L : Int)) (b3 : 0 ≤ (i + 3).toInt ∧ (i + 3).toInt < (L : Int)) (b4 : 0 ≤ (i + 4).toInt ∧ (i + 4).toInt < (L : Int)) (b5 : 0 ≤ (i + 5).toInt ∧ (i + 5).toInt < (L : Int)) (hR : Rel I) (hv : fc_v v) (hk : ∀ I v, Rel I → fc_v v → fc_T (Lm L xs) (d + 94) nb zb 1315 [some (.ref (1000 + 400)), some (.ref 0), some (.ref 78), some (.int i)] [] fc_SH I (fc_PT v) Q) : fc_T (Lm L xs) (d + 94) nb zb 1024 [some (.ref (1000 + 400)), some (.ref 0), some (.ref 78), some (.int i)] [] fc_SH I (fc_PT v) Q := by
  refine ft_aload_n dL_law_1024 rfl ?_
  refine ft_aload_n dL_law_1025 rfl ?_
  refine ft_iload_n dL_law_1026 rfl ?_
  refine ft_iconst (v := 1) dL_law_1027 rfl ?_
  refine ft_iadd dL_law_1028 ?_
  refine ft_sld rfl (vp_in_iff.mpr b1) dL_law_1029 ?_
  obtain ⟨r, h1, h2⟩ := H I (xs (cn (i + 1))) hR
  refine ft_V1p cf_L_125 sh_0 (t_X10_bestCall h1) (Nat.le_of_ble_eq_true rfl) dL_law_1030 ?_
  refine ft_aload_n dL_law_1033 rfl ?_
  refine ft_aload_n dL_law_1034 rfl ?_
  refine ft_iload_n dL_law_1035 rfl ?_
  refine ft_iconst (v := 1) dL_law_1036 rfl ?_
  refine ft_iadd dL_law_1037 ?_
  refine ft_sld rfl (vp_in_iff.mpr b1) dL_law_1038 ?_
  refine ft_V1p cf_L_128 sh_78 (t_X11_bestCall h2) (Nat.le_of_ble_eq_true rfl) dL_law_1039 ?_
  exact fj_icmp_eq (tgt := 1315) dL_law_1042 (by decide) (fun _ => hk _ _ hR hv) (fun h => absurd rfl h)
def Op_count : Prop := ∀ (I : fc_I) (x1 : Int32), Rel I → PR (f_X10_count I x1) (f_X11_count I x1)
set_option maxHeartbeats 4000000 in
set_option maxRecDepth 100000 in
theorem lw_count {d nb zb L : Nat} {xs : Nat → Int32} {i : Int32} {I : fc_I} {v : Nat} {Q : fc_Q} (H : Op_count) (b1 : 0 ≤ (i + 1).toInt ∧ (i + 1).toInt < (L : Int)) (b2 : 0 ≤ (i + 2).toInt ∧ (i + 2).toInt < (L : Int)) (b3 : 0 ≤ (i + 3).toInt ∧ (i + 3).toInt < (L : Int)) (b4 : 0 ≤ (i + 4).toInt ∧ (i + 4).toInt < (L : Int)) (b5 : 0 ≤ (i + 5).toInt ∧ (i + 5).toInt < (L : Int)) (hR : Rel I) (hv : fc_v v) (hk : ∀ I v, Rel I → fc_v v → fc_T (Lm L xs) (d + 94) nb zb 1315 [some (.ref (1000 + 400)), some (.ref 0), some (.ref 78), some (.int i)] [] fc_SH I (fc_PT v) Q) : fc_T (Lm L xs) (d + 94) nb zb 1047 [some (.ref (1000 + 400)), some (.ref 0), some (.ref 78), some (.int i)] [] fc_SH I (fc_PT v) Q := by
  refine ft_aload_n dL_law_1047 rfl ?_
  refine ft_aload_n dL_law_1048 rfl ?_
  refine ft_iload_n dL_law_1049 rfl ?_
  refine ft_iconst (v := 1) dL_law_1050 rfl ?_
  refine ft_iadd dL_law_1051 ?_
  refine ft_sld rfl (vp_in_iff.mpr b1) dL_law_1052 ?_
  obtain ⟨r, h1, h2⟩ := H I (xs (cn (i + 1))) hR
  refine ft_V1p cf_L_129 sh_0 (t_X10_count h1) (Nat.le_of_ble_eq_true rfl) dL_law_1053 ?_
  refine ft_aload_n dL_law_1056 rfl ?_
  refine ft_aload_n dL_law_1057 rfl ?_
  refine ft_iload_n dL_law_1058 rfl ?_
  refine ft_iconst (v := 1) dL_law_1059 rfl ?_
  refine ft_iadd dL_law_1060 ?_
  refine ft_sld rfl (vp_in_iff.mpr b1) dL_law_1061 ?_
  refine ft_V1p cf_L_132 sh_78 (t_X11_count h2) (Nat.le_of_ble_eq_true rfl) dL_law_1062 ?_
  exact fj_icmp_eq (tgt := 1315) dL_law_1065 (by decide) (fun _ => hk _ _ hR hv) (fun h => absurd rfl h)
def Op_sheet : Prop := ∀ (I : fc_I) (x1 : Int32) (x2 : Int32) (x3 : Int32), Rel I → RR (f_X10_sheet I x1 x2 x3) (fun I => f_X11_sheet I x1 x2 x3)
set_option maxHeartbeats 4000000 in
set_option maxRecDepth 100000 in
theorem lw_sheet {d nb zb L : Nat} {xs : Nat → Int32} {i : Int32} {I : fc_I} {v : Nat} {Q : fc_Q} (H : Op_sheet) (b1 : 0 ≤ (i + 1).toInt ∧ (i + 1).toInt < (L : Int)) (b2 : 0 ≤ (i + 2).toInt ∧ (i + 2).toInt < (L : Int)) (b3 : 0 ≤ (i + 3).toInt ∧ (i + 3).toInt < (L : Int)) (b4 : 0 ≤ (i + 4).toInt ∧ (i + 4).toInt < (L : Int)) (b5 : 0 ≤ (i + 5).toInt ∧ (i + 5).toInt < (L : Int)) (hR : Rel I) (hv : fc_v v) (hk : ∀ I v, Rel I → fc_v v → fc_T (Lm L xs) (d + 94) nb zb 1315 [some (.ref (1000 + 400)), some (.ref 0), some (.ref 78), some (.int i)] [] fc_SH I (fc_PT v) Q) : fc_T (Lm L xs) (d + 94) nb zb 1070 [some (.ref (1000 + 400)), some (.ref 0), some (.ref 78), some (.int i)] [] fc_SH I (fc_PT v) Q := by
  refine ft_aload_n dL_law_1070 rfl ?_
  refine ft_aload_n dL_law_1071 rfl ?_
  refine ft_iload_n dL_law_1072 rfl ?_
  refine ft_iconst (v := 1) dL_law_1073 rfl ?_
  refine ft_iadd dL_law_1074 ?_
  refine ft_sld rfl (vp_in_iff.mpr b1) dL_law_1075 ?_
  refine ft_aload_n dL_law_1076 rfl ?_
  refine ft_iload_n dL_law_1077 rfl ?_
  refine ft_iconst (v := 2) dL_law_1078 rfl ?_
  refine ft_iadd dL_law_1079 ?_
  refine ft_sld rfl (vp_in_iff.mpr b2) dL_law_1080 ?_
  refine ft_aload_n dL_law_1081 rfl ?_
  refine ft_iload_n dL_law_1082 rfl ?_
  refine ft_iconst (v := 3) dL_law_1083 rfl ?_
  refine ft_iadd dL_law_1084 ?_
  refine ft_sld rfl (vp_in_iff.mpr b3) dL_law_1085 ?_
  obtain ⟨r, I1, I2, h1, h2, h3⟩ := H I (xs (cn (i + 1))) (xs (cn (i + 2))) (xs (cn (i + 3))) hR
  refine ft_V3i cf_L_133 sh_0 (t_X10_sheet h1) (Nat.le_of_ble_eq_true rfl) dL_law_1086 (fun r' J P' q => ?_)
  obtain ⟨rfl, rfl, rfl⟩ := q
  refine ft_aload_n dL_law_1089 rfl ?_
  refine ft_aload_n dL_law_1090 rfl ?_
  refine ft_iload_n dL_law_1091 rfl ?_
  refine ft_iconst (v := 1) dL_law_1092 rfl ?_
  refine ft_iadd dL_law_1093 ?_
  refine ft_sld rfl (vp_in_iff.mpr b1) dL_law_1094 ?_
  refine ft_aload_n dL_law_1095 rfl ?_
  refine ft_iload_n dL_law_1096 rfl ?_
  refine ft_iconst (v := 2) dL_law_1097 rfl ?_
  refine ft_iadd dL_law_1098 ?_
  refine ft_sld rfl (vp_in_iff.mpr b2) dL_law_1099 ?_
  refine ft_aload_n dL_law_1100 rfl ?_
  refine ft_iload_n dL_law_1101 rfl ?_
  refine ft_iconst (v := 3) dL_law_1102 rfl ?_
  refine ft_iadd dL_law_1103 ?_
  refine ft_sld rfl (vp_in_iff.mpr b3) dL_law_1104 ?_
  refine ft_V3i cf_L_136 sh_78 (t_X11_sheet h2) (Nat.le_of_ble_eq_true rfl) dL_law_1105 (fun r' J P' q => ?_)
  obtain ⟨rfl, rfl, rfl⟩ := q
  exact fj_icmp_eq (tgt := 1315) dL_law_1108 (by decide) (fun _ => hk _ _ h3 hv) (fun h => absurd rfl h)
def Op_cell : Prop := ∀ (I : fc_I) (x1 : Int32) (x2 : Int32) (x3 : Int32), Rel I → RR (f_X10_cell I x1 x2 x3) (fun I => f_X11_cell I x1 x2 x3)
set_option maxHeartbeats 4000000 in
set_option maxRecDepth 100000 in
theorem lw_cell {d nb zb L : Nat} {xs : Nat → Int32} {i : Int32} {I : fc_I} {v : Nat} {Q : fc_Q} (H : Op_cell) (b1 : 0 ≤ (i + 1).toInt ∧ (i + 1).toInt < (L : Int)) (b2 : 0 ≤ (i + 2).toInt ∧ (i + 2).toInt < (L : Int)) (b3 : 0 ≤ (i + 3).toInt ∧ (i + 3).toInt < (L : Int)) (b4 : 0 ≤ (i + 4).toInt ∧ (i + 4).toInt < (L : Int)) (b5 : 0 ≤ (i + 5).toInt ∧ (i + 5).toInt < (L : Int)) (hR : Rel I) (hv : fc_v v) (hk : ∀ I v, Rel I → fc_v v → fc_T (Lm L xs) (d + 94) nb zb 1315 [some (.ref (1000 + 400)), some (.ref 0), some (.ref 78), some (.int i)] [] fc_SH I (fc_PT v) Q) : fc_T (Lm L xs) (d + 94) nb zb 1113 [some (.ref (1000 + 400)), some (.ref 0), some (.ref 78), some (.int i)] [] fc_SH I (fc_PT v) Q := by
  refine ft_aload_n dL_law_1113 rfl ?_
  refine ft_aload_n dL_law_1114 rfl ?_
  refine ft_iload_n dL_law_1115 rfl ?_
  refine ft_iconst (v := 1) dL_law_1116 rfl ?_
  refine ft_iadd dL_law_1117 ?_
  refine ft_sld rfl (vp_in_iff.mpr b1) dL_law_1118 ?_
  refine ft_aload_n dL_law_1119 rfl ?_
  refine ft_iload_n dL_law_1120 rfl ?_
  refine ft_iconst (v := 2) dL_law_1121 rfl ?_
  refine ft_iadd dL_law_1122 ?_
  refine ft_sld rfl (vp_in_iff.mpr b2) dL_law_1123 ?_
  refine ft_aload_n dL_law_1124 rfl ?_
  refine ft_iload_n dL_law_1125 rfl ?_
  refine ft_iconst (v := 3) dL_law_1126 rfl ?_
  refine ft_iadd dL_law_1127 ?_
  refine ft_sld rfl (vp_in_iff.mpr b3) dL_law_1128 ?_
  obtain ⟨r, I1, I2, h1, h2, h3⟩ := H I (xs (cn (i + 1))) (xs (cn (i + 2))) (xs (cn (i + 3))) hR
  refine ft_V3i cf_L_137 sh_0 (t_X10_cell h1) (Nat.le_of_ble_eq_true rfl) dL_law_1129 (fun r' J P' q => ?_)
  obtain ⟨rfl, rfl, rfl⟩ := q
  refine ft_aload_n dL_law_1132 rfl ?_
  refine ft_aload_n dL_law_1133 rfl ?_
  refine ft_iload_n dL_law_1134 rfl ?_
  refine ft_iconst (v := 1) dL_law_1135 rfl ?_
  refine ft_iadd dL_law_1136 ?_
  refine ft_sld rfl (vp_in_iff.mpr b1) dL_law_1137 ?_
  refine ft_aload_n dL_law_1138 rfl ?_
  refine ft_iload_n dL_law_1139 rfl ?_
  refine ft_iconst (v := 2) dL_law_1140 rfl ?_
  refine ft_iadd dL_law_1141 ?_
  refine ft_sld rfl (vp_in_iff.mpr b2) dL_law_1142 ?_
  refine ft_aload_n dL_law_1143 rfl ?_
  refine ft_iload_n dL_law_1144 rfl ?_
  refine ft_iconst (v := 3) dL_law_1145 rfl ?_
  refine ft_iadd dL_law_1146 ?_
  refine ft_sld rfl (vp_in_iff.mpr b3) dL_law_1147 ?_
  refine ft_V3i cf_L_140 sh_78 (t_X11_cell h2) (Nat.le_of_ble_eq_true rfl) dL_law_1148 (fun r' J P' q => ?_)
  obtain ⟨rfl, rfl, rfl⟩ := q
  exact fj_icmp_eq (tgt := 1315) dL_law_1151 (by decide) (fun _ => hk _ _ h3 hv) (fun h => absurd rfl h)
def Op_copy : Prop := ∀ (I : fc_I) (x1 : Int32) (x2 : Int32) (x3 : Int32) (x4 : Int32) (x5 : Int32), Rel I → RR (f_X10_copy I x1 x2 x3 x4 x5) (fun I => f_X11_copy I x1 x2 x3 x4 x5)
set_option maxHeartbeats 4000000 in
set_option maxRecDepth 100000 in
theorem lw_copy {d nb zb L : Nat} {xs : Nat → Int32} {i : Int32} {I : fc_I} {v : Nat} {Q : fc_Q} (H : Op_copy) (b1 : 0 ≤ (i + 1).toInt ∧ (i + 1).toInt < (L : Int)) (b2 : 0 ≤ (i + 2).toInt ∧ (i + 2).toInt < (L : Int)) (b3 : 0 ≤ (i + 3).toInt ∧ (i + 3).toInt < (L : Int)) (b4 : 0 ≤ (i + 4).toInt ∧ (i + 4).toInt < (L : Int)) (b5 : 0 ≤ (i + 5).toInt ∧ (i + 5).toInt < (L : Int)) (hR : Rel I) (hv : fc_v v) (hk : ∀ I v, Rel I → fc_v v → fc_T (Lm L xs) (d + 94) nb zb 1315 [some (.ref (1000 + 400)), some (.ref 0), some (.ref 78), some (.int i)] [] fc_SH I (fc_PT v) Q) : fc_T (Lm L xs) (d + 94) nb zb 1156 [some (.ref (1000 + 400)), some (.ref 0), some (.ref 78), some (.int i)] [] fc_SH I (fc_PT v) Q := by
  refine ft_aload_n dL_law_1156 rfl ?_
  refine ft_aload_n dL_law_1157 rfl ?_
  refine ft_iload_n dL_law_1158 rfl ?_
  refine ft_iconst (v := 1) dL_law_1159 rfl ?_
  refine ft_iadd dL_law_1160 ?_
  refine ft_sld rfl (vp_in_iff.mpr b1) dL_law_1161 ?_
  refine ft_aload_n dL_law_1162 rfl ?_
  refine ft_iload_n dL_law_1163 rfl ?_
  refine ft_iconst (v := 2) dL_law_1164 rfl ?_
  refine ft_iadd dL_law_1165 ?_
  refine ft_sld rfl (vp_in_iff.mpr b2) dL_law_1166 ?_
  refine ft_aload_n dL_law_1167 rfl ?_
  refine ft_iload_n dL_law_1168 rfl ?_
  refine ft_iconst (v := 3) dL_law_1169 rfl ?_
  refine ft_iadd dL_law_1170 ?_
  refine ft_sld rfl (vp_in_iff.mpr b3) dL_law_1171 ?_
  refine ft_aload_n dL_law_1172 rfl ?_
  refine ft_iload_n dL_law_1173 rfl ?_
  refine ft_iconst (v := 4) dL_law_1174 rfl ?_
  refine ft_iadd dL_law_1175 ?_
  refine ft_sld rfl (vp_in_iff.mpr b4) dL_law_1176 ?_
  refine ft_aload_n dL_law_1177 rfl ?_
  refine ft_iload_n dL_law_1178 rfl ?_
  refine ft_iconst (v := 5) dL_law_1179 rfl ?_
  refine ft_iadd dL_law_1180 ?_
  refine ft_sld rfl (vp_in_iff.mpr b5) dL_law_1181 ?_
  obtain ⟨r, I1, I2, h1, h2, h3⟩ := H I (xs (cn (i + 1))) (xs (cn (i + 2))) (xs (cn (i + 3))) (xs (cn (i + 4))) (xs (cn (i + 5))) hR
  refine ft_V5i cf_L_141 sh_0 (t_X10_copy h1) (Nat.le_of_ble_eq_true rfl) dL_law_1182 (fun r' J P' q => ?_)
  obtain ⟨rfl, rfl, rfl⟩ := q
  refine ft_aload_n dL_law_1185 rfl ?_
  refine ft_aload_n dL_law_1186 rfl ?_
  refine ft_iload_n dL_law_1187 rfl ?_
  refine ft_iconst (v := 1) dL_law_1188 rfl ?_
  refine ft_iadd dL_law_1189 ?_
  refine ft_sld rfl (vp_in_iff.mpr b1) dL_law_1190 ?_
  refine ft_aload_n dL_law_1191 rfl ?_
  refine ft_iload_n dL_law_1192 rfl ?_
  refine ft_iconst (v := 2) dL_law_1193 rfl ?_
  refine ft_iadd dL_law_1194 ?_
  refine ft_sld rfl (vp_in_iff.mpr b2) dL_law_1195 ?_
  refine ft_aload_n dL_law_1196 rfl ?_
  refine ft_iload_n dL_law_1197 rfl ?_
  refine ft_iconst (v := 3) dL_law_1198 rfl ?_
  refine ft_iadd dL_law_1199 ?_
  refine ft_sld rfl (vp_in_iff.mpr b3) dL_law_1200 ?_
  refine ft_aload_n dL_law_1201 rfl ?_
  refine ft_iload_n dL_law_1202 rfl ?_
  refine ft_iconst (v := 4) dL_law_1203 rfl ?_
  refine ft_iadd dL_law_1204 ?_
  refine ft_sld rfl (vp_in_iff.mpr b4) dL_law_1205 ?_
  refine ft_aload_n dL_law_1206 rfl ?_
  refine ft_iload_n dL_law_1207 rfl ?_
  refine ft_iconst (v := 5) dL_law_1208 rfl ?_
  refine ft_iadd dL_law_1209 ?_
  refine ft_sld rfl (vp_in_iff.mpr b5) dL_law_1210 ?_
  refine ft_V5i cf_L_144 sh_78 (t_X11_copy h2) (Nat.le_of_ble_eq_true rfl) dL_law_1211 (fun r' J P' q => ?_)
  obtain ⟨rfl, rfl, rfl⟩ := q
  exact fj_icmp_eq (tgt := 1315) dL_law_1214 (by decide) (fun _ => hk _ _ h3 hv) (fun h => absurd rfl h)
def Op_newsRow : Prop := ∀ (I : fc_I) (x1 : Int32) (x2 : Int32) (x3 : Int32) (x4 : Int32) (x5 : Int32), Rel I → RR (f_X10_newsRow I x1 x2 x3 x4 x5) (fun I => f_X11_newsRow I x1 x2 x3 x4 x5)
set_option maxHeartbeats 4000000 in
set_option maxRecDepth 100000 in
theorem lw_newsRow {d nb zb L : Nat} {xs : Nat → Int32} {i : Int32} {I : fc_I} {v : Nat} {Q : fc_Q} (H : Op_newsRow) (b1 : 0 ≤ (i + 1).toInt ∧ (i + 1).toInt < (L : Int)) (b2 : 0 ≤ (i + 2).toInt ∧ (i + 2).toInt < (L : Int)) (b3 : 0 ≤ (i + 3).toInt ∧ (i + 3).toInt < (L : Int)) (b4 : 0 ≤ (i + 4).toInt ∧ (i + 4).toInt < (L : Int)) (b5 : 0 ≤ (i + 5).toInt ∧ (i + 5).toInt < (L : Int)) (hR : Rel I) (hv : fc_v v) (hk : ∀ I v, Rel I → fc_v v → fc_T (Lm L xs) (d + 94) nb zb 1315 [some (.ref (1000 + 400)), some (.ref 0), some (.ref 78), some (.int i)] [] fc_SH I (fc_PT v) Q) : fc_T (Lm L xs) (d + 94) nb zb 1219 [some (.ref (1000 + 400)), some (.ref 0), some (.ref 78), some (.int i)] [] fc_SH I (fc_PT v) Q := by
  refine ft_aload_n dL_law_1219 rfl ?_
  refine ft_aload_n dL_law_1220 rfl ?_
  refine ft_iload_n dL_law_1221 rfl ?_
  refine ft_iconst (v := 1) dL_law_1222 rfl ?_
  refine ft_iadd dL_law_1223 ?_
  refine ft_sld rfl (vp_in_iff.mpr b1) dL_law_1224 ?_
  refine ft_aload_n dL_law_1225 rfl ?_
  refine ft_iload_n dL_law_1226 rfl ?_
  refine ft_iconst (v := 2) dL_law_1227 rfl ?_
  refine ft_iadd dL_law_1228 ?_
  refine ft_sld rfl (vp_in_iff.mpr b2) dL_law_1229 ?_
  refine ft_aload_n dL_law_1230 rfl ?_
  refine ft_iload_n dL_law_1231 rfl ?_
  refine ft_iconst (v := 3) dL_law_1232 rfl ?_
  refine ft_iadd dL_law_1233 ?_
  refine ft_sld rfl (vp_in_iff.mpr b3) dL_law_1234 ?_
  refine ft_aload_n dL_law_1235 rfl ?_
  refine ft_iload_n dL_law_1236 rfl ?_
  refine ft_iconst (v := 4) dL_law_1237 rfl ?_
  refine ft_iadd dL_law_1238 ?_
  refine ft_sld rfl (vp_in_iff.mpr b4) dL_law_1239 ?_
  refine ft_aload_n dL_law_1240 rfl ?_
  refine ft_iload_n dL_law_1241 rfl ?_
  refine ft_iconst (v := 5) dL_law_1242 rfl ?_
  refine ft_iadd dL_law_1243 ?_
  refine ft_sld rfl (vp_in_iff.mpr b5) dL_law_1244 ?_
  obtain ⟨r, I1, I2, h1, h2, h3⟩ := H I (xs (cn (i + 1))) (xs (cn (i + 2))) (xs (cn (i + 3))) (xs (cn (i + 4))) (xs (cn (i + 5))) hR
  refine ft_V5i cf_L_145 sh_0 (t_X10_newsRow h1) (Nat.le_of_ble_eq_true rfl) dL_law_1245 (fun r' J P' q => ?_)
  obtain ⟨rfl, rfl, rfl⟩ := q
  refine ft_aload_n dL_law_1248 rfl ?_
  refine ft_aload_n dL_law_1249 rfl ?_
  refine ft_iload_n dL_law_1250 rfl ?_
  refine ft_iconst (v := 1) dL_law_1251 rfl ?_
  refine ft_iadd dL_law_1252 ?_
  refine ft_sld rfl (vp_in_iff.mpr b1) dL_law_1253 ?_
  refine ft_aload_n dL_law_1254 rfl ?_
  refine ft_iload_n dL_law_1255 rfl ?_
  refine ft_iconst (v := 2) dL_law_1256 rfl ?_
  refine ft_iadd dL_law_1257 ?_
  refine ft_sld rfl (vp_in_iff.mpr b2) dL_law_1258 ?_
  refine ft_aload_n dL_law_1259 rfl ?_
  refine ft_iload_n dL_law_1260 rfl ?_
  refine ft_iconst (v := 3) dL_law_1261 rfl ?_
  refine ft_iadd dL_law_1262 ?_
  refine ft_sld rfl (vp_in_iff.mpr b3) dL_law_1263 ?_
  refine ft_aload_n dL_law_1264 rfl ?_
  refine ft_iload_n dL_law_1265 rfl ?_
  refine ft_iconst (v := 4) dL_law_1266 rfl ?_
  refine ft_iadd dL_law_1267 ?_
  refine ft_sld rfl (vp_in_iff.mpr b4) dL_law_1268 ?_
  refine ft_aload_n dL_law_1269 rfl ?_
  refine ft_iload_n dL_law_1270 rfl ?_
  refine ft_iconst (v := 5) dL_law_1271 rfl ?_
  refine ft_iadd dL_law_1272 ?_
  refine ft_sld rfl (vp_in_iff.mpr b5) dL_law_1273 ?_
  refine ft_V5i cf_L_148 sh_78 (t_X11_newsRow h2) (Nat.le_of_ble_eq_true rfl) dL_law_1274 (fun r' J P' q => ?_)
  obtain ⟨rfl, rfl, rfl⟩ := q
  exact fj_icmp_eq (tgt := 1315) dL_law_1277 (by decide) (fun _ => hk _ _ h3 hv) (fun h => absurd rfl h)
def Op_taken : Prop := ∀ (I : fc_I) (x1 : Int32) (x2 : Int32), Rel I → PR (f_X10_taken I x1 x2) (f_X11_taken I x1 x2)
set_option maxHeartbeats 4000000 in
set_option maxRecDepth 100000 in
theorem lw_taken {d nb zb L : Nat} {xs : Nat → Int32} {i : Int32} {I : fc_I} {v : Nat} {Q : fc_Q} (H : Op_taken) (b1 : 0 ≤ (i + 1).toInt ∧ (i + 1).toInt < (L : Int)) (b2 : 0 ≤ (i + 2).toInt ∧ (i + 2).toInt < (L : Int)) (b3 : 0 ≤ (i + 3).toInt ∧ (i + 3).toInt < (L : Int)) (b4 : 0 ≤ (i + 4).toInt ∧ (i + 4).toInt < (L : Int)) (b5 : 0 ≤ (i + 5).toInt ∧ (i + 5).toInt < (L : Int)) (hR : Rel I) (hv : fc_v v) (hk : ∀ I v, Rel I → fc_v v → fc_T (Lm L xs) (d + 94) nb zb 1315 [some (.ref (1000 + 400)), some (.ref 0), some (.ref 78), some (.int i)] [] fc_SH I (fc_PT v) Q) : fc_T (Lm L xs) (d + 94) nb zb 1282 [some (.ref (1000 + 400)), some (.ref 0), some (.ref 78), some (.int i)] [] fc_SH I (fc_PT v) Q := by
  refine ft_aload_n dL_law_1282 rfl ?_
  refine ft_aload_n dL_law_1283 rfl ?_
  refine ft_iload_n dL_law_1284 rfl ?_
  refine ft_iconst (v := 1) dL_law_1285 rfl ?_
  refine ft_iadd dL_law_1286 ?_
  refine ft_sld rfl (vp_in_iff.mpr b1) dL_law_1287 ?_
  refine ft_aload_n dL_law_1288 rfl ?_
  refine ft_iload_n dL_law_1289 rfl ?_
  refine ft_iconst (v := 2) dL_law_1290 rfl ?_
  refine ft_iadd dL_law_1291 ?_
  refine ft_sld rfl (vp_in_iff.mpr b2) dL_law_1292 ?_
  obtain ⟨r, h1, h2⟩ := H I (xs (cn (i + 1))) (xs (cn (i + 2))) hR
  refine ft_V2p cf_L_149 sh_0 (t_X10_taken h1) (Nat.le_of_ble_eq_true rfl) dL_law_1293 ?_
  refine ft_aload_n dL_law_1296 rfl ?_
  refine ft_aload_n dL_law_1297 rfl ?_
  refine ft_iload_n dL_law_1298 rfl ?_
  refine ft_iconst (v := 1) dL_law_1299 rfl ?_
  refine ft_iadd dL_law_1300 ?_
  refine ft_sld rfl (vp_in_iff.mpr b1) dL_law_1301 ?_
  refine ft_aload_n dL_law_1302 rfl ?_
  refine ft_iload_n dL_law_1303 rfl ?_
  refine ft_iconst (v := 2) dL_law_1304 rfl ?_
  refine ft_iadd dL_law_1305 ?_
  refine ft_sld rfl (vp_in_iff.mpr b2) dL_law_1306 ?_
  refine ft_V2p cf_L_152 sh_78 (t_X11_taken h2) (Nat.le_of_ble_eq_true rfl) dL_law_1307 ?_
  exact fj_icmp_eq (tgt := 1315) dL_law_1310 (by decide) (fun _ => hk _ _ hR hv) (fun h => absurd rfl h)
def Ops : Prop := Op_zone ∧ Op_shelter ∧ Op_road ∧ Op_use ∧ Op_turn ∧ Op_bus ∧ Op_zoneTold ∧ Op_shelterTold ∧ Op_roadTold ∧ Op_busTold ∧ Op_end ∧ Op_likely ∧ Op_truth ∧ Op_news ∧ Op_known ∧ Op_feed ∧ Op_text ∧ Op_force ∧ Op_says ∧ Op_call ∧ Op_good ∧ Op_pass ∧ Op_inWater ∧ Op_foresee ∧ Op_best ∧ Op_bestCall ∧ Op_count ∧ Op_sheet ∧ Op_cell ∧ Op_copy ∧ Op_newsRow ∧ Op_taken
set_option maxHeartbeats 4000000 in
set_option maxRecDepth 100000 in
theorem lw_loop {d nb zb L : Nat} {xs : Nat → Int32} (hL : L ≤ 3072) (H : Ops) : ∀ (n : Nat) (i : Int32) (I : fc_I) (v : Nat), 0 ≤ i.toInt → i.toInt ≤ (L : Int) + 6 → (L : Int) + 6 - i.toInt < (n : Int) → Rel I → fc_v v → fc_T (Lm L xs) (d + 94) nb zb 18 [some (.ref (1000 + 400)), some (.ref 0), some (.ref 78), some (.int i)] [] fc_SH I (fc_PT v) (fc_Qi fc_SH (fun r _ _ => r = 1))
  | 0, i, I, v, _, h1, h2, _, _ => absurd h2 (by omega)
  | n + 1, i, I, v, h0, h1, h2, hR, hv => by
    have eL : (Int32.ofNat L - 6).toInt = (L : Int) - 6 := by
      have e1 : (Int32.ofNat L).toInt = (L : Int) := Int32.toInt_ofNat_of_lt (by omega)
      rw [i_sub (by rw [e1, kt_6]; omega) (by rw [e1, kt_6]; omega), e1, kt_6]
    refine ft_iload_n dL_law_18 rfl ?_
    refine ft_aload_n dL_law_19 rfl ?_
    refine ft_slen rfl rfl dL_law_20 ?_
    refine ft_bipush (v := 6) dL_law_21 rfl ?_
    refine ft_isub dL_law_23 ?_
    refine fj_icmp_gt (tgt := 1321) dL_law_24 (by decide) (fun hh => ?_) (fun hh => ?_)
    · refine ft_iconst (v := 1) dL_law_1321 rfl ?_
      exact ft_reti dL_law_1322 rfl rfl rfl
    have hi : i.toInt ≤ (L : Int) - 6 := by rw [eL] at hh; exact hh
    have bb : ∀ (c : Int32) (q : Int), c.toInt = q → 0 ≤ q → q ≤ 5 → 0 ≤ (i + c).toInt ∧ (i + c).toInt < (L : Int) := fun c q e q1 q2 => by
      rw [i_add (by omega) (by omega), e]
      omega
    have hk : ∀ I v, Rel I → fc_v v → fc_T (Lm L xs) (d + 94) nb zb 1315 [some (.ref (1000 + 400)), some (.ref 0), some (.ref 78), some (.int i)] [] fc_SH I (fc_PT v) (fc_Qi fc_SH (fun r _ _ => r = 1)) := fun I v hR hv => by
      have e6 : (i + 6).toInt = i.toInt + 6 := i_add (by rw [kt_6]; omega) (by rw [kt_6]; omega)
      refine fk_iinc (c := 6) dL_law_1315 rfl (show 3 < 4 by decide) rfl ?_
      refine ft_goto (tgt := 18) dL_law_1318 (by decide) ?_
      exact lw_loop hL H n (i + 6) I v (by omega) (by omega) (by omega) hR hv
    refine ft_aload_n dL_law_27 rfl ?_
    refine ft_iload_n dL_law_28 rfl ?_
    refine ft_sld rfl (vp_in_iff.mpr ⟨by omega, by omega⟩) dL_law_29 ?_
    refine ft_bipush (v := 31) dL_law_30 rfl ?_
    refine ft_iand dL_law_32 ?_
    have h31 := vp_in_iff.mp (pk_andIn (xs (cn i)) (m := 31) 5 (by decide) (by decide))
    have hs : (xs (cn i) &&& 31).toInt = 0 ∨ (xs (cn i) &&& 31).toInt = 1 ∨ (xs (cn i) &&& 31).toInt = 2 ∨ (xs (cn i) &&& 31).toInt = 3 ∨ (xs (cn i) &&& 31).toInt = 4 ∨ (xs (cn i) &&& 31).toInt = 5 ∨ (xs (cn i) &&& 31).toInt = 6 ∨ (xs (cn i) &&& 31).toInt = 7 ∨ (xs (cn i) &&& 31).toInt = 8 ∨ (xs (cn i) &&& 31).toInt = 9 ∨ (xs (cn i) &&& 31).toInt = 10 ∨ (xs (cn i) &&& 31).toInt = 11 ∨ (xs (cn i) &&& 31).toInt = 12 ∨ (xs (cn i) &&& 31).toInt = 13 ∨ (xs (cn i) &&& 31).toInt = 14 ∨ (xs (cn i) &&& 31).toInt = 15 ∨ (xs (cn i) &&& 31).toInt = 16 ∨ (xs (cn i) &&& 31).toInt = 17 ∨ (xs (cn i) &&& 31).toInt = 18 ∨ (xs (cn i) &&& 31).toInt = 19 ∨ (xs (cn i) &&& 31).toInt = 20 ∨ (xs (cn i) &&& 31).toInt = 21 ∨ (xs (cn i) &&& 31).toInt = 22 ∨ (xs (cn i) &&& 31).toInt = 23 ∨ (xs (cn i) &&& 31).toInt = 24 ∨ (xs (cn i) &&& 31).toInt = 25 ∨ (xs (cn i) &&& 31).toInt = 26 ∨ (xs (cn i) &&& 31).toInt = 27 ∨ (xs (cn i) &&& 31).toInt = 28 ∨ (xs (cn i) &&& 31).toInt = 29 ∨ (xs (cn i) &&& 31).toInt = 30 ∨ (xs (cn i) &&& 31).toInt = 31 := by omega
    rcases hs with e | e | e | e | e | e | e | e | e | e | e | e | e | e | e | e | e | e | e | e | e | e | e | e | e | e | e | e | e | e | e | e
    · refine ft_tsIn (tgt := 176) dL_law_33 (by rw [e]; decide) (by rw [e]; decide) (by rw [e]; rfl) (by decide) ?_
      exact lw_zone H.1 (bb 1 1 rfl (by omega) (by omega)) (bb 2 2 rfl (by omega) (by omega)) (bb 3 3 rfl (by omega) (by omega)) (bb 4 4 rfl (by omega) (by omega)) (bb 5 5 rfl (by omega) (by omega)) hR hv hk
    · refine ft_tsIn (tgt := 219) dL_law_33 (by rw [e]; decide) (by rw [e]; decide) (by rw [e]; rfl) (by decide) ?_
      exact lw_shelter H.2.1 (bb 1 1 rfl (by omega) (by omega)) (bb 2 2 rfl (by omega) (by omega)) (bb 3 3 rfl (by omega) (by omega)) (bb 4 4 rfl (by omega) (by omega)) (bb 5 5 rfl (by omega) (by omega)) hR hv hk
    · refine ft_tsIn (tgt := 242) dL_law_33 (by rw [e]; decide) (by rw [e]; decide) (by rw [e]; rfl) (by decide) ?_
      exact lw_road H.2.2.1 (bb 1 1 rfl (by omega) (by omega)) (bb 2 2 rfl (by omega) (by omega)) (bb 3 3 rfl (by omega) (by omega)) (bb 4 4 rfl (by omega) (by omega)) (bb 5 5 rfl (by omega) (by omega)) hR hv hk
    · refine ft_tsIn (tgt := 295) dL_law_33 (by rw [e]; decide) (by rw [e]; decide) (by rw [e]; rfl) (by decide) ?_
      exact lw_use H.2.2.2.1 (bb 1 1 rfl (by omega) (by omega)) (bb 2 2 rfl (by omega) (by omega)) (bb 3 3 rfl (by omega) (by omega)) (bb 4 4 rfl (by omega) (by omega)) (bb 5 5 rfl (by omega) (by omega)) hR hv hk
    · refine ft_tsIn (tgt := 318) dL_law_33 (by rw [e]; decide) (by rw [e]; decide) (by rw [e]; rfl) (by decide) ?_
      exact lw_turn H.2.2.2.2.1 (bb 1 1 rfl (by omega) (by omega)) (bb 2 2 rfl (by omega) (by omega)) (bb 3 3 rfl (by omega) (by omega)) (bb 4 4 rfl (by omega) (by omega)) (bb 5 5 rfl (by omega) (by omega)) hR hv hk
    · refine ft_tsIn (tgt := 341) dL_law_33 (by rw [e]; decide) (by rw [e]; decide) (by rw [e]; rfl) (by decide) ?_
      exact lw_bus H.2.2.2.2.2.1 (bb 1 1 rfl (by omega) (by omega)) (bb 2 2 rfl (by omega) (by omega)) (bb 3 3 rfl (by omega) (by omega)) (bb 4 4 rfl (by omega) (by omega)) (bb 5 5 rfl (by omega) (by omega)) hR hv hk
    · refine ft_tsIn (tgt := 394) dL_law_33 (by rw [e]; decide) (by rw [e]; decide) (by rw [e]; rfl) (by decide) ?_
      exact lw_zoneTold H.2.2.2.2.2.2.1 (bb 1 1 rfl (by omega) (by omega)) (bb 2 2 rfl (by omega) (by omega)) (bb 3 3 rfl (by omega) (by omega)) (bb 4 4 rfl (by omega) (by omega)) (bb 5 5 rfl (by omega) (by omega)) hR hv hk
    · refine ft_tsIn (tgt := 427) dL_law_33 (by rw [e]; decide) (by rw [e]; decide) (by rw [e]; rfl) (by decide) ?_
      exact lw_shelterTold H.2.2.2.2.2.2.2.1 (bb 1 1 rfl (by omega) (by omega)) (bb 2 2 rfl (by omega) (by omega)) (bb 3 3 rfl (by omega) (by omega)) (bb 4 4 rfl (by omega) (by omega)) (bb 5 5 rfl (by omega) (by omega)) hR hv hk
    · refine ft_tsIn (tgt := 460) dL_law_33 (by rw [e]; decide) (by rw [e]; decide) (by rw [e]; rfl) (by decide) ?_
      exact lw_roadTold H.2.2.2.2.2.2.2.2.1 (bb 1 1 rfl (by omega) (by omega)) (bb 2 2 rfl (by omega) (by omega)) (bb 3 3 rfl (by omega) (by omega)) (bb 4 4 rfl (by omega) (by omega)) (bb 5 5 rfl (by omega) (by omega)) hR hv hk
    · refine ft_tsIn (tgt := 493) dL_law_33 (by rw [e]; decide) (by rw [e]; decide) (by rw [e]; rfl) (by decide) ?_
      exact lw_busTold H.2.2.2.2.2.2.2.2.2.1 (bb 1 1 rfl (by omega) (by omega)) (bb 2 2 rfl (by omega) (by omega)) (bb 3 3 rfl (by omega) (by omega)) (bb 4 4 rfl (by omega) (by omega)) (bb 5 5 rfl (by omega) (by omega)) hR hv hk
    · refine ft_tsIn (tgt := 526) dL_law_33 (by rw [e]; decide) (by rw [e]; decide) (by rw [e]; rfl) (by decide) ?_
      exact lw_end H.2.2.2.2.2.2.2.2.2.2.1 (bb 1 1 rfl (by omega) (by omega)) (bb 2 2 rfl (by omega) (by omega)) (bb 3 3 rfl (by omega) (by omega)) (bb 4 4 rfl (by omega) (by omega)) (bb 5 5 rfl (by omega) (by omega)) hR hv hk
    · refine ft_tsIn (tgt := 549) dL_law_33 (by rw [e]; decide) (by rw [e]; decide) (by rw [e]; rfl) (by decide) ?_
      exact lw_likely H.2.2.2.2.2.2.2.2.2.2.2.1 (bb 1 1 rfl (by omega) (by omega)) (bb 2 2 rfl (by omega) (by omega)) (bb 3 3 rfl (by omega) (by omega)) (bb 4 4 rfl (by omega) (by omega)) (bb 5 5 rfl (by omega) (by omega)) hR hv hk
    · refine ft_tsIn (tgt := 582) dL_law_33 (by rw [e]; decide) (by rw [e]; decide) (by rw [e]; rfl) (by decide) ?_
      exact lw_truth H.2.2.2.2.2.2.2.2.2.2.2.2.1 (bb 1 1 rfl (by omega) (by omega)) (bb 2 2 rfl (by omega) (by omega)) (bb 3 3 rfl (by omega) (by omega)) (bb 4 4 rfl (by omega) (by omega)) (bb 5 5 rfl (by omega) (by omega)) hR hv hk
    · refine ft_tsIn (tgt := 605) dL_law_33 (by rw [e]; decide) (by rw [e]; decide) (by rw [e]; rfl) (by decide) ?_
      exact lw_news H.2.2.2.2.2.2.2.2.2.2.2.2.2.1 (bb 1 1 rfl (by omega) (by omega)) (bb 2 2 rfl (by omega) (by omega)) (bb 3 3 rfl (by omega) (by omega)) (bb 4 4 rfl (by omega) (by omega)) (bb 5 5 rfl (by omega) (by omega)) hR hv hk
    · refine ft_tsIn (tgt := 668) dL_law_33 (by rw [e]; decide) (by rw [e]; decide) (by rw [e]; rfl) (by decide) ?_
      exact lw_known H.2.2.2.2.2.2.2.2.2.2.2.2.2.2.1 (bb 1 1 rfl (by omega) (by omega)) (bb 2 2 rfl (by omega) (by omega)) (bb 3 3 rfl (by omega) (by omega)) (bb 4 4 rfl (by omega) (by omega)) (bb 5 5 rfl (by omega) (by omega)) hR hv hk
    · refine ft_tsIn (tgt := 721) dL_law_33 (by rw [e]; decide) (by rw [e]; decide) (by rw [e]; rfl) (by decide) ?_
      exact lw_feed H.2.2.2.2.2.2.2.2.2.2.2.2.2.2.2.1 (bb 1 1 rfl (by omega) (by omega)) (bb 2 2 rfl (by omega) (by omega)) (bb 3 3 rfl (by omega) (by omega)) (bb 4 4 rfl (by omega) (by omega)) (bb 5 5 rfl (by omega) (by omega)) hR hv hk
    · refine ft_tsIn (tgt := 784) dL_law_33 (by rw [e]; decide) (by rw [e]; decide) (by rw [e]; rfl) (by decide) ?_
      exact lw_text H.2.2.2.2.2.2.2.2.2.2.2.2.2.2.2.2.1 (bb 1 1 rfl (by omega) (by omega)) (bb 2 2 rfl (by omega) (by omega)) (bb 3 3 rfl (by omega) (by omega)) (bb 4 4 rfl (by omega) (by omega)) (bb 5 5 rfl (by omega) (by omega)) hR hv hk
    · refine ft_tsIn (tgt := 797) dL_law_33 (by rw [e]; decide) (by rw [e]; decide) (by rw [e]; rfl) (by decide) ?_
      exact lw_force H.2.2.2.2.2.2.2.2.2.2.2.2.2.2.2.2.2.1 (bb 1 1 rfl (by omega) (by omega)) (bb 2 2 rfl (by omega) (by omega)) (bb 3 3 rfl (by omega) (by omega)) (bb 4 4 rfl (by omega) (by omega)) (bb 5 5 rfl (by omega) (by omega)) hR hv hk
    · refine ft_tsIn (tgt := 820) dL_law_33 (by rw [e]; decide) (by rw [e]; decide) (by rw [e]; rfl) (by decide) ?_
      exact lw_says H.2.2.2.2.2.2.2.2.2.2.2.2.2.2.2.2.2.2.1 (bb 1 1 rfl (by omega) (by omega)) (bb 2 2 rfl (by omega) (by omega)) (bb 3 3 rfl (by omega) (by omega)) (bb 4 4 rfl (by omega) (by omega)) (bb 5 5 rfl (by omega) (by omega)) hR hv hk
    · refine ft_tsIn (tgt := 854) dL_law_33 (by rw [e]; decide) (by rw [e]; decide) (by rw [e]; rfl) (by decide) ?_
      exact lw_call H.2.2.2.2.2.2.2.2.2.2.2.2.2.2.2.2.2.2.2.1 (bb 1 1 rfl (by omega) (by omega)) (bb 2 2 rfl (by omega) (by omega)) (bb 3 3 rfl (by omega) (by omega)) (bb 4 4 rfl (by omega) (by omega)) (bb 5 5 rfl (by omega) (by omega)) hR hv hk
    · refine ft_tsIn (tgt := 877) dL_law_33 (by rw [e]; decide) (by rw [e]; decide) (by rw [e]; rfl) (by decide) ?_
      exact lw_good H.2.2.2.2.2.2.2.2.2.2.2.2.2.2.2.2.2.2.2.2.1 (bb 1 1 rfl (by omega) (by omega)) (bb 2 2 rfl (by omega) (by omega)) (bb 3 3 rfl (by omega) (by omega)) (bb 4 4 rfl (by omega) (by omega)) (bb 5 5 rfl (by omega) (by omega)) hR hv hk
    · refine ft_tsIn (tgt := 900) dL_law_33 (by rw [e]; decide) (by rw [e]; decide) (by rw [e]; rfl) (by decide) ?_
      exact lw_pass H.2.2.2.2.2.2.2.2.2.2.2.2.2.2.2.2.2.2.2.2.2.1 (bb 1 1 rfl (by omega) (by omega)) (bb 2 2 rfl (by omega) (by omega)) (bb 3 3 rfl (by omega) (by omega)) (bb 4 4 rfl (by omega) (by omega)) (bb 5 5 rfl (by omega) (by omega)) hR hv hk
    · refine ft_tsIn (tgt := 923) dL_law_33 (by rw [e]; decide) (by rw [e]; decide) (by rw [e]; rfl) (by decide) ?_
      exact lw_inWater H.2.2.2.2.2.2.2.2.2.2.2.2.2.2.2.2.2.2.2.2.2.2.1 (bb 1 1 rfl (by omega) (by omega)) (bb 2 2 rfl (by omega) (by omega)) (bb 3 3 rfl (by omega) (by omega)) (bb 4 4 rfl (by omega) (by omega)) (bb 5 5 rfl (by omega) (by omega)) hR hv hk
    · refine ft_tsIn (tgt := 936) dL_law_33 (by rw [e]; decide) (by rw [e]; decide) (by rw [e]; rfl) (by decide) ?_
      exact lw_foresee H.2.2.2.2.2.2.2.2.2.2.2.2.2.2.2.2.2.2.2.2.2.2.2.1 (bb 1 1 rfl (by omega) (by omega)) (bb 2 2 rfl (by omega) (by omega)) (bb 3 3 rfl (by omega) (by omega)) (bb 4 4 rfl (by omega) (by omega)) (bb 5 5 rfl (by omega) (by omega)) hR hv hk
    · refine ft_tsIn (tgt := 1000) dL_law_33 (by rw [e]; decide) (by rw [e]; decide) (by rw [e]; rfl) (by decide) ?_
      exact lw_best H.2.2.2.2.2.2.2.2.2.2.2.2.2.2.2.2.2.2.2.2.2.2.2.2.1 (bb 1 1 rfl (by omega) (by omega)) (bb 2 2 rfl (by omega) (by omega)) (bb 3 3 rfl (by omega) (by omega)) (bb 4 4 rfl (by omega) (by omega)) (bb 5 5 rfl (by omega) (by omega)) hR hv hk
    · refine ft_tsIn (tgt := 1024) dL_law_33 (by rw [e]; decide) (by rw [e]; decide) (by rw [e]; rfl) (by decide) ?_
      exact lw_bestCall H.2.2.2.2.2.2.2.2.2.2.2.2.2.2.2.2.2.2.2.2.2.2.2.2.2.1 (bb 1 1 rfl (by omega) (by omega)) (bb 2 2 rfl (by omega) (by omega)) (bb 3 3 rfl (by omega) (by omega)) (bb 4 4 rfl (by omega) (by omega)) (bb 5 5 rfl (by omega) (by omega)) hR hv hk
    · refine ft_tsIn (tgt := 1047) dL_law_33 (by rw [e]; decide) (by rw [e]; decide) (by rw [e]; rfl) (by decide) ?_
      exact lw_count H.2.2.2.2.2.2.2.2.2.2.2.2.2.2.2.2.2.2.2.2.2.2.2.2.2.2.1 (bb 1 1 rfl (by omega) (by omega)) (bb 2 2 rfl (by omega) (by omega)) (bb 3 3 rfl (by omega) (by omega)) (bb 4 4 rfl (by omega) (by omega)) (bb 5 5 rfl (by omega) (by omega)) hR hv hk
    · refine ft_tsIn (tgt := 1070) dL_law_33 (by rw [e]; decide) (by rw [e]; decide) (by rw [e]; rfl) (by decide) ?_
      exact lw_sheet H.2.2.2.2.2.2.2.2.2.2.2.2.2.2.2.2.2.2.2.2.2.2.2.2.2.2.2.1 (bb 1 1 rfl (by omega) (by omega)) (bb 2 2 rfl (by omega) (by omega)) (bb 3 3 rfl (by omega) (by omega)) (bb 4 4 rfl (by omega) (by omega)) (bb 5 5 rfl (by omega) (by omega)) hR hv hk
    · refine ft_tsIn (tgt := 1113) dL_law_33 (by rw [e]; decide) (by rw [e]; decide) (by rw [e]; rfl) (by decide) ?_
      exact lw_cell H.2.2.2.2.2.2.2.2.2.2.2.2.2.2.2.2.2.2.2.2.2.2.2.2.2.2.2.2.1 (bb 1 1 rfl (by omega) (by omega)) (bb 2 2 rfl (by omega) (by omega)) (bb 3 3 rfl (by omega) (by omega)) (bb 4 4 rfl (by omega) (by omega)) (bb 5 5 rfl (by omega) (by omega)) hR hv hk
    · refine ft_tsIn (tgt := 1156) dL_law_33 (by rw [e]; decide) (by rw [e]; decide) (by rw [e]; rfl) (by decide) ?_
      exact lw_copy H.2.2.2.2.2.2.2.2.2.2.2.2.2.2.2.2.2.2.2.2.2.2.2.2.2.2.2.2.2.1 (bb 1 1 rfl (by omega) (by omega)) (bb 2 2 rfl (by omega) (by omega)) (bb 3 3 rfl (by omega) (by omega)) (bb 4 4 rfl (by omega) (by omega)) (bb 5 5 rfl (by omega) (by omega)) hR hv hk
    · refine ft_tsIn (tgt := 1219) dL_law_33 (by rw [e]; decide) (by rw [e]; decide) (by rw [e]; rfl) (by decide) ?_
      exact lw_newsRow H.2.2.2.2.2.2.2.2.2.2.2.2.2.2.2.2.2.2.2.2.2.2.2.2.2.2.2.2.2.2.1 (bb 1 1 rfl (by omega) (by omega)) (bb 2 2 rfl (by omega) (by omega)) (bb 3 3 rfl (by omega) (by omega)) (bb 4 4 rfl (by omega) (by omega)) (bb 5 5 rfl (by omega) (by omega)) hR hv hk
    · refine ft_tsIn (tgt := 1282) dL_law_33 (by rw [e]; decide) (by rw [e]; decide) (by rw [e]; rfl) (by decide) ?_
      exact lw_taken H.2.2.2.2.2.2.2.2.2.2.2.2.2.2.2.2.2.2.2.2.2.2.2.2.2.2.2.2.2.2.2 (bb 1 1 rfl (by omega) (by omega)) (bb 2 2 rfl (by omega) (by omega)) (bb 3 3 rfl (by omega) (by omega)) (bb 4 4 rfl (by omega) (by omega)) (bb 5 5 rfl (by omega) (by omega)) hR hv hk
