/-! THE CASES of the law's switch: both answer, both answers are one, the relation holds again -/
abbrev LW (n : Nat) (adx adm : Nat → Nat) (cs : Nat → ClassId) (σ τ : Mem) : va_W := wl (xIds n) adx (xEnt adx cs n) σ ++ wl mIds adm (mEnt adm cs) τ
abbrev LVL (b i : Nat) (adx adm : Nat → Nat) : List (Nat × Value) := [(3, .int (nI i)), (2, .ref (adm 0)), (1, .ref (adx 0)), (0, .ref b)]
theorem lg_cmp_self (r : Int64) : lg_cmp r r = 0 := by
  have h1 : ¬ r < r := fun z => by
    rw [Int64.lt_iff_toInt_lt] at z
    omega
  simp [lg_cmp, h1]
theorem relC_ch {n t a st lo co mk ot : Nat} {σ τ : Mem} (h : RelC n t a st lo co mk ot σ τ) : n ≤ 8 ∧ σ.1 6 4 = nI n := by
  obtain ⟨e_fa, e_tr, e_mp, e_lg, e_ro, e_ti, e_at_, e_ki, e_ac, e_pa, e_sc, e_ld, e_mc, e_mt, e_cc, e_lc, e_l1, e_l2, e_l3, e_kc, e_k1, e_k2, e_k3, e_k4, e_oc, e_oa, e_b1, e_b2, e_pr, e_sh0, e_sh1, e_sh2, e_sh3, e_ch, e_c0, e_d0, e_c1, e_d1, e_c2, e_d2, e_c3, e_d3, e_c4, e_d4, e_c5, e_d5, e_c6, e_d6, e_c7, e_d7, e_ps, e_oz, e_rm, e_lb, e_ab, e_ru, e_mb, e_wb, e_w0, e_w1, e_ws, e_wp, e_kb, e_tb, e_bb⟩ := h
  exact ⟨e_d0, e_cc.trans e_c0⟩
set_option maxRecDepth 100000 in
set_option maxHeartbeats 4000000 in
theorem lc_map {E : EnvT} {cs : Nat → ClassId} {b L i n kc ks : Nat} {xs : Nat → Int32} {adx adm : Nat → Nat} {σ τ : Mem} (C : CX E cL_law RL 4 room_1) (hT : eTys E = wTys cs) (hX : SC E b L xs) (hL : L ≤ 3072) (hi : i + 6 ≤ L) (hR : RelE n σ τ) (hk : kc ≤ room_1.cells ∧ ks ≤ room_1.slots) (k : ∀ σ' τ' : Mem, RelE n σ' τ' → GW E 4 kc ks (LW n adx adm cs σ' τ') 1204 (LVL b i adx adm) []) : GW E 4 kc ks (LW n adx adm cs σ τ) 180 (LVL b i adx adm) [] := by
  obtain ⟨t, a, st, lo, co, mk, ot, h⟩ := hR
  obtain ⟨r, σ', τ', h1, h2, hR⟩ := f_map h (xs (i + 1)) (xs (i + 2))
  refine w_aload_n C dL_law_180 2 rfl ?_
  refine w_arg C hX hL 1 dL_law_181 dL_law_182 dL_law_183 rfl dL_law_184 dL_law_185 3 0 rfl rfl (by omega) ?_
  refine w_arg C hX hL 2 dL_law_186 dL_law_187 dL_law_188 rfl dL_law_189 dL_law_190 3 0 rfl rfl (by omega) ?_
  refine law_1i (o := 0) (ci := 11) (cl := (RX11, TX11, 10)) C [.int (xs (i + 1)), .int (xs (i + 2))] (c_X11_map (eG_XF hT) h1) hM_L_13 hI_X11_map hS_X11_map hZ_X11 hC_X11_map xIds_0 rfl rfl rfl dd_X11_map (by decide) ⟨rfl, rfl⟩ hk (Nat.le_of_ble_eq_true rfl) dL_law_191 rfl ?_
  refine w_aload_n C dL_law_194 1 rfl ?_
  refine w_arg C hX hL 1 dL_law_195 dL_law_196 dL_law_197 rfl dL_law_198 dL_law_199 3 0 rfl rfl (by omega) ?_
  refine w_arg C hX hL 2 dL_law_200 dL_law_201 dL_law_202 rfl dL_law_203 dL_law_204 3 0 rfl rfl (by omega) ?_
  refine law_2i (o := 0) (ci := 12) (cl := (RX12, TX12, 52)) C [.int (xs (i + 1)), .int (xs (i + 2))] (c_X12_map (eG_MF hT) h2) hM_L_17 hI_X12_map hS_X12_map hZ_X12 hC_X12_map mIds_0 rfl rfl rfl dd_X12_map (by decide) ⟨rfl, rfl⟩ hk (Nat.le_of_ble_eq_true rfl) dL_law_205 rfl ?_
  refine w_icmp_eq C 1204 dL_law_208 (by decide) (fun _ => ?_) (fun z => absurd rfl z)
  exact k σ' τ' hR
set_option maxRecDepth 100000 in
set_option maxHeartbeats 4000000 in
theorem lc_torque {E : EnvT} {cs : Nat → ClassId} {b L i n kc ks : Nat} {xs : Nat → Int32} {adx adm : Nat → Nat} {σ τ : Mem} (C : CX E cL_law RL 4 room_1) (hT : eTys E = wTys cs) (hX : SC E b L xs) (hL : L ≤ 3072) (hi : i + 6 ≤ L) (hR : RelE n σ τ) (hk : kc ≤ room_1.cells ∧ ks ≤ room_1.slots) (k : ∀ σ' τ' : Mem, RelE n σ' τ' → GW E 4 kc ks (LW n adx adm cs σ' τ') 1204 (LVL b i adx adm) []) : GW E 4 kc ks (LW n adx adm cs σ τ) 213 (LVL b i adx adm) [] := by
  obtain ⟨t, a, st, lo, co, mk, ot, h⟩ := hR
  obtain ⟨r, h1, h2⟩ := f_torque h (xs (i + 1)) (xs (i + 2))
  have hR : RelE n σ τ := ⟨t, a, st, lo, co, mk, ot, h⟩
  refine w_aload_n C dL_law_213 2 rfl ?_
  refine w_arg C hX hL 1 dL_law_214 dL_law_215 dL_law_216 rfl dL_law_217 dL_law_218 3 0 rfl rfl (by omega) ?_
  refine w_arg C hX hL 2 dL_law_219 dL_law_220 dL_law_221 rfl dL_law_222 dL_law_223 3 0 rfl rfl (by omega) ?_
  refine law_1l (o := 0) (ci := 11) (cl := (RX11, TX11, 10)) C [.int (xs (i + 1)), .int (xs (i + 2))] (c_X11_torque (eG_XF hT) h1) hM_L_18 hI_X11_torque hS_X11_torque hZ_X11 hC_X11_torque xIds_0 rfl rfl rfl dd_X11_torque (by decide) ⟨rfl, rfl⟩ hk (Nat.le_of_ble_eq_true rfl) dL_law_224 rfl ?_
  refine w_aload_n C dL_law_227 1 rfl ?_
  refine w_arg C hX hL 1 dL_law_228 dL_law_229 dL_law_230 rfl dL_law_231 dL_law_232 3 0 rfl rfl (by omega) ?_
  refine w_arg C hX hL 2 dL_law_233 dL_law_234 dL_law_235 rfl dL_law_236 dL_law_237 3 0 rfl rfl (by omega) ?_
  refine law_2l (o := 0) (ci := 12) (cl := (RX12, TX12, 52)) C [.int (xs (i + 1)), .int (xs (i + 2))] (c_X12_torque (eG_MF hT) h2) hM_L_22 hI_X12_torque hS_X12_torque hZ_X12 hC_X12_torque mIds_0 rfl rfl rfl dd_X12_torque (by decide) ⟨rfl, rfl⟩ hk (Nat.le_of_ble_eq_true rfl) dL_law_238 rfl ?_
  refine w_lcmp C dL_law_241 ?_
  refine w_if_eq C 1204 dL_law_242 (by decide) (fun _ => ?_) (fun z => absurd (lg_cmp_self _) z)
  exact k σ τ hR
set_option maxRecDepth 100000 in
set_option maxHeartbeats 4000000 in
theorem lc_lag {E : EnvT} {cs : Nat → ClassId} {b L i n kc ks : Nat} {xs : Nat → Int32} {adx adm : Nat → Nat} {σ τ : Mem} (C : CX E cL_law RL 4 room_1) (hT : eTys E = wTys cs) (hX : SC E b L xs) (hL : L ≤ 3072) (hi : i + 6 ≤ L) (hR : RelE n σ τ) (hk : kc ≤ room_1.cells ∧ ks ≤ room_1.slots) (k : ∀ σ' τ' : Mem, RelE n σ' τ' → GW E 4 kc ks (LW n adx adm cs σ' τ') 1204 (LVL b i adx adm) []) : GW E 4 kc ks (LW n adx adm cs σ τ) 247 (LVL b i adx adm) [] := by
  obtain ⟨t, a, st, lo, co, mk, ot, h⟩ := hR
  obtain ⟨r, σ', τ', h1, h2, hR⟩ := f_lag h (xs (i + 1))
  refine w_aload_n C dL_law_247 2 rfl ?_
  refine w_arg C hX hL 1 dL_law_248 dL_law_249 dL_law_250 rfl dL_law_251 dL_law_252 3 0 rfl rfl (by omega) ?_
  refine law_1i (o := 0) (ci := 11) (cl := (RX11, TX11, 10)) C [.int (xs (i + 1))] (c_X11_lag (eG_XF hT) h1) hM_L_23 hI_X11_lag hS_X11_lag hZ_X11 hC_X11_lag xIds_0 rfl rfl rfl dd_X11_lag (by decide) ⟨rfl, rfl⟩ hk (Nat.le_of_ble_eq_true rfl) dL_law_253 rfl ?_
  refine w_aload_n C dL_law_256 1 rfl ?_
  refine w_arg C hX hL 1 dL_law_257 dL_law_258 dL_law_259 rfl dL_law_260 dL_law_261 3 0 rfl rfl (by omega) ?_
  refine law_2i (o := 0) (ci := 12) (cl := (RX12, TX12, 52)) C [.int (xs (i + 1))] (c_X12_lag (eG_MF hT) h2) hM_L_27 hI_X12_lag hS_X12_lag hZ_X12 hC_X12_lag mIds_0 rfl rfl rfl dd_X12_lag (by decide) ⟨rfl, rfl⟩ hk (Nat.le_of_ble_eq_true rfl) dL_law_262 rfl ?_
  refine w_icmp_eq C 1204 dL_law_265 (by decide) (fun _ => ?_) (fun z => absurd rfl z)
  exact k σ' τ' hR
set_option maxRecDepth 100000 in
set_option maxHeartbeats 4000000 in
theorem lc_step {E : EnvT} {cs : Nat → ClassId} {b L i n kc ks : Nat} {xs : Nat → Int32} {adx adm : Nat → Nat} {σ τ : Mem} (C : CX E cL_law RL 4 room_1) (hT : eTys E = wTys cs) (hX : SC E b L xs) (hL : L ≤ 3072) (hi : i + 6 ≤ L) (hR : RelE n σ τ) (hk : kc ≤ room_1.cells ∧ ks ≤ room_1.slots) (k : ∀ σ' τ' : Mem, RelE n σ' τ' → GW E 4 kc ks (LW n adx adm cs σ' τ') 1204 (LVL b i adx adm) []) : GW E 4 kc ks (LW n adx adm cs σ τ) 270 (LVL b i adx adm) [] := by
  obtain ⟨t, a, st, lo, co, mk, ot, h⟩ := hR
  obtain ⟨r, σ', τ', h1, h2, hR⟩ := f_step h (xs (i + 1)) (xs (i + 2)) (xs (i + 3)) (xs (i + 4))
  refine w_aload_n C dL_law_270 2 rfl ?_
  refine w_arg C hX hL 1 dL_law_271 dL_law_272 dL_law_273 rfl dL_law_274 dL_law_275 3 0 rfl rfl (by omega) ?_
  refine w_arg C hX hL 2 dL_law_276 dL_law_277 dL_law_278 rfl dL_law_279 dL_law_280 3 0 rfl rfl (by omega) ?_
  refine w_arg C hX hL 3 dL_law_281 dL_law_282 dL_law_283 rfl dL_law_284 dL_law_285 3 0 rfl rfl (by omega) ?_
  refine w_arg C hX hL 4 dL_law_286 dL_law_287 dL_law_288 rfl dL_law_289 dL_law_290 3 0 rfl rfl (by omega) ?_
  refine law_1i (o := 0) (ci := 11) (cl := (RX11, TX11, 10)) C [.int (xs (i + 1)), .int (xs (i + 2)), .int (xs (i + 3)), .int (xs (i + 4))] (c_X11_step (eG_XF hT) h1) hM_L_28 hI_X11_step hS_X11_step hZ_X11 hC_X11_step xIds_0 rfl rfl rfl dd_X11_step (by decide) ⟨rfl, rfl⟩ hk (Nat.le_of_ble_eq_true rfl) dL_law_291 rfl ?_
  refine w_aload_n C dL_law_294 1 rfl ?_
  refine w_arg C hX hL 1 dL_law_295 dL_law_296 dL_law_297 rfl dL_law_298 dL_law_299 3 0 rfl rfl (by omega) ?_
  refine w_arg C hX hL 2 dL_law_300 dL_law_301 dL_law_302 rfl dL_law_303 dL_law_304 3 0 rfl rfl (by omega) ?_
  refine w_arg C hX hL 3 dL_law_305 dL_law_306 dL_law_307 rfl dL_law_308 dL_law_309 3 0 rfl rfl (by omega) ?_
  refine w_arg C hX hL 4 dL_law_310 dL_law_311 dL_law_312 rfl dL_law_313 dL_law_314 3 0 rfl rfl (by omega) ?_
  refine law_2i (o := 0) (ci := 12) (cl := (RX12, TX12, 52)) C [.int (xs (i + 1)), .int (xs (i + 2)), .int (xs (i + 3)), .int (xs (i + 4))] (c_X12_step (eG_MF hT) h2) hM_L_32 hI_X12_step hS_X12_step hZ_X12 hC_X12_step mIds_0 rfl rfl rfl dd_X12_step (by decide) ⟨rfl, rfl⟩ hk (Nat.le_of_ble_eq_true rfl) dL_law_315 rfl ?_
  refine w_icmp_eq C 1204 dL_law_318 (by decide) (fun _ => ?_) (fun z => absurd rfl z)
  exact k σ' τ' hR
set_option maxRecDepth 100000 in
set_option maxHeartbeats 4000000 in
theorem lc_load {E : EnvT} {cs : Nat → ClassId} {b L i n kc ks : Nat} {xs : Nat → Int32} {adx adm : Nat → Nat} {σ τ : Mem} (C : CX E cL_law RL 4 room_1) (hT : eTys E = wTys cs) (hX : SC E b L xs) (hL : L ≤ 3072) (hi : i + 6 ≤ L) (hR : RelE n σ τ) (hk : kc ≤ room_1.cells ∧ ks ≤ room_1.slots) (k : ∀ σ' τ' : Mem, RelE n σ' τ' → GW E 4 kc ks (LW n adx adm cs σ' τ') 1204 (LVL b i adx adm) []) : GW E 4 kc ks (LW n adx adm cs σ τ) 323 (LVL b i adx adm) [] := by
  obtain ⟨t, a, st, lo, co, mk, ot, h⟩ := hR
  obtain ⟨r, σ', τ', h1, h2, hR⟩ := f_load h (xs (i + 1)) (xs (i + 2)) (xs (i + 3)) (xs (i + 4))
  refine w_aload_n C dL_law_323 2 rfl ?_
  refine w_arg C hX hL 1 dL_law_324 dL_law_325 dL_law_326 rfl dL_law_327 dL_law_328 3 0 rfl rfl (by omega) ?_
  refine w_arg C hX hL 2 dL_law_329 dL_law_330 dL_law_331 rfl dL_law_332 dL_law_333 3 0 rfl rfl (by omega) ?_
  refine w_arg C hX hL 3 dL_law_334 dL_law_335 dL_law_336 rfl dL_law_337 dL_law_338 3 0 rfl rfl (by omega) ?_
  refine w_arg C hX hL 4 dL_law_339 dL_law_340 dL_law_341 rfl dL_law_342 dL_law_343 3 0 rfl rfl (by omega) ?_
  refine law_1i (o := 0) (ci := 11) (cl := (RX11, TX11, 10)) C [.int (xs (i + 1)), .int (xs (i + 2)), .int (xs (i + 3)), .int (xs (i + 4))] (c_X11_load (eG_XF hT) h1) hM_L_33 hI_X11_load hS_X11_load hZ_X11 hC_X11_load xIds_0 rfl rfl rfl dd_X11_load (by decide) ⟨rfl, rfl⟩ hk (Nat.le_of_ble_eq_true rfl) dL_law_344 rfl ?_
  refine w_aload_n C dL_law_347 1 rfl ?_
  refine w_arg C hX hL 1 dL_law_348 dL_law_349 dL_law_350 rfl dL_law_351 dL_law_352 3 0 rfl rfl (by omega) ?_
  refine w_arg C hX hL 2 dL_law_353 dL_law_354 dL_law_355 rfl dL_law_356 dL_law_357 3 0 rfl rfl (by omega) ?_
  refine w_arg C hX hL 3 dL_law_358 dL_law_359 dL_law_360 rfl dL_law_361 dL_law_362 3 0 rfl rfl (by omega) ?_
  refine w_arg C hX hL 4 dL_law_363 dL_law_364 dL_law_365 rfl dL_law_366 dL_law_367 3 0 rfl rfl (by omega) ?_
  refine law_2i (o := 0) (ci := 12) (cl := (RX12, TX12, 52)) C [.int (xs (i + 1)), .int (xs (i + 2)), .int (xs (i + 3)), .int (xs (i + 4))] (c_X12_load (eG_MF hT) h2) hM_L_36 hI_X12_load hS_X12_load hZ_X12 hC_X12_load mIds_0 rfl rfl rfl dd_X12_load (by decide) ⟨rfl, rfl⟩ hk (Nat.le_of_ble_eq_true rfl) dL_law_368 rfl ?_
  refine w_icmp_eq C 1204 dL_law_371 (by decide) (fun _ => ?_) (fun z => absurd rfl z)
  exact k σ' τ' hR
set_option maxRecDepth 100000 in
set_option maxHeartbeats 4000000 in
theorem lc_clear {E : EnvT} {cs : Nat → ClassId} {b L i n kc ks : Nat} {xs : Nat → Int32} {adx adm : Nat → Nat} {σ τ : Mem} (C : CX E cL_law RL 4 room_1) (hT : eTys E = wTys cs) (hX : SC E b L xs) (hL : L ≤ 3072) (hi : i + 6 ≤ L) (hR : RelE n σ τ) (hk : kc ≤ room_1.cells ∧ ks ≤ room_1.slots) (k : ∀ σ' τ' : Mem, RelE n σ' τ' → GW E 4 kc ks (LW n adx adm cs σ' τ') 1204 (LVL b i adx adm) []) : GW E 4 kc ks (LW n adx adm cs σ τ) 376 (LVL b i adx adm) [] := by
  obtain ⟨t, a, st, lo, co, mk, ot, h⟩ := hR
  obtain ⟨r, σ', τ', h1, h2, hR⟩ := f_clear h
  refine w_aload_n C dL_law_376 2 rfl ?_
  refine law_1i (o := 0) (ci := 11) (cl := (RX11, TX11, 10)) C [] (c_X11_clear (eG_XF hT) h1) hM_L_37 hI_X11_clear hS_X11_clear hZ_X11 hC_X11_clear xIds_0 rfl rfl rfl dd_X11_clear (by decide) ⟨rfl, rfl⟩ hk (Nat.le_of_ble_eq_true rfl) dL_law_377 rfl ?_
  refine w_aload_n C dL_law_380 1 rfl ?_
  refine law_2i (o := 0) (ci := 12) (cl := (RX12, TX12, 52)) C [] (c_X12_clear (eG_MF hT) h2) hM_L_41 hI_X12_clear hS_X12_clear hZ_X12 hC_X12_clear mIds_0 rfl rfl rfl dd_X12_clear (by decide) ⟨rfl, rfl⟩ hk (Nat.le_of_ble_eq_true rfl) dL_law_381 rfl ?_
  refine w_icmp_eq C 1204 dL_law_384 (by decide) (fun _ => ?_) (fun z => absurd rfl z)
  exact k σ' τ' hR
set_option maxRecDepth 100000 in
set_option maxHeartbeats 4000000 in
theorem lc_stepped {E : EnvT} {cs : Nat → ClassId} {b L i n kc ks : Nat} {xs : Nat → Int32} {adx adm : Nat → Nat} {σ τ : Mem} (C : CX E cL_law RL 4 room_1) (hT : eTys E = wTys cs) (hX : SC E b L xs) (hL : L ≤ 3072) (hi : i + 6 ≤ L) (hR : RelE n σ τ) (hk : kc ≤ room_1.cells ∧ ks ≤ room_1.slots) (k : ∀ σ' τ' : Mem, RelE n σ' τ' → GW E 4 kc ks (LW n adx adm cs σ' τ') 1204 (LVL b i adx adm) []) : GW E 4 kc ks (LW n adx adm cs σ τ) 389 (LVL b i adx adm) [] := by
  obtain ⟨t, a, st, lo, co, mk, ot, h⟩ := hR
  obtain ⟨r, h1, h2⟩ := f_stepped h (xs (i + 1)) (xs (i + 2))
  have hR : RelE n σ τ := ⟨t, a, st, lo, co, mk, ot, h⟩
  refine w_aload_n C dL_law_389 2 rfl ?_
  refine w_arg C hX hL 1 dL_law_390 dL_law_391 dL_law_392 rfl dL_law_393 dL_law_394 3 0 rfl rfl (by omega) ?_
  refine w_arg C hX hL 2 dL_law_395 dL_law_396 dL_law_397 rfl dL_law_398 dL_law_399 3 0 rfl rfl (by omega) ?_
  refine law_1i (o := 0) (ci := 11) (cl := (RX11, TX11, 10)) C [.int (xs (i + 1)), .int (xs (i + 2))] (c_X11_stepped (eG_XF hT) h1) hM_L_42 hI_X11_stepped hS_X11_stepped hZ_X11 hC_X11_stepped xIds_0 rfl rfl rfl dd_X11_stepped (by decide) ⟨rfl, rfl⟩ hk (Nat.le_of_ble_eq_true rfl) dL_law_400 rfl ?_
  refine w_aload_n C dL_law_403 1 rfl ?_
  refine w_arg C hX hL 1 dL_law_404 dL_law_405 dL_law_406 rfl dL_law_407 dL_law_408 3 0 rfl rfl (by omega) ?_
  refine w_arg C hX hL 2 dL_law_409 dL_law_410 dL_law_411 rfl dL_law_412 dL_law_413 3 0 rfl rfl (by omega) ?_
  refine law_2i (o := 0) (ci := 12) (cl := (RX12, TX12, 52)) C [.int (xs (i + 1)), .int (xs (i + 2))] (c_X12_stepped (eG_MF hT) h2) hM_L_45 hI_X12_stepped hS_X12_stepped hZ_X12 hC_X12_stepped mIds_0 rfl rfl rfl dd_X12_stepped (by decide) ⟨rfl, rfl⟩ hk (Nat.le_of_ble_eq_true rfl) dL_law_414 rfl ?_
  refine w_icmp_eq C 1204 dL_law_417 (by decide) (fun _ => ?_) (fun z => absurd rfl z)
  exact k σ τ hR
set_option maxRecDepth 100000 in
set_option maxHeartbeats 4000000 in
theorem lc_start {E : EnvT} {cs : Nat → ClassId} {b L i n kc ks : Nat} {xs : Nat → Int32} {adx adm : Nat → Nat} {σ τ : Mem} (C : CX E cL_law RL 4 room_1) (hT : eTys E = wTys cs) (hX : SC E b L xs) (hL : L ≤ 3072) (hi : i + 6 ≤ L) (hR : RelE n σ τ) (hk : kc ≤ room_1.cells ∧ ks ≤ room_1.slots) (k : ∀ σ' τ' : Mem, RelE n σ' τ' → GW E 4 kc ks (LW n adx adm cs σ' τ') 1204 (LVL b i adx adm) []) : GW E 4 kc ks (LW n adx adm cs σ τ) 422 (LVL b i adx adm) [] := by
  obtain ⟨t, a, st, lo, co, mk, ot, h⟩ := hR
  obtain ⟨r, σ', τ', h1, h2, hR⟩ := f_start h
  refine w_aload_n C dL_law_422 2 rfl ?_
  refine law_1i (o := 0) (ci := 11) (cl := (RX11, TX11, 10)) C [] (c_X11_start (eG_XF hT) h1) hM_L_46 hI_X11_start hS_X11_start hZ_X11 hC_X11_start xIds_0 rfl rfl rfl dd_X11_start (by decide) ⟨rfl, rfl⟩ hk (Nat.le_of_ble_eq_true rfl) dL_law_423 rfl ?_
  refine w_aload_n C dL_law_426 1 rfl ?_
  refine law_2i (o := 0) (ci := 12) (cl := (RX12, TX12, 52)) C [] (c_X12_start (eG_MF hT) h2) hM_L_49 hI_X12_start hS_X12_start hZ_X12 hC_X12_start mIds_0 rfl rfl rfl dd_X12_start (by decide) ⟨rfl, rfl⟩ hk (Nat.le_of_ble_eq_true rfl) dL_law_427 rfl ?_
  refine w_icmp_eq C 1204 dL_law_430 (by decide) (fun _ => ?_) (fun z => absurd rfl z)
  exact k σ' τ' hR
set_option maxRecDepth 100000 in
set_option maxHeartbeats 4000000 in
theorem lc_tick {E : EnvT} {cs : Nat → ClassId} {b L i n kc ks : Nat} {xs : Nat → Int32} {adx adm : Nat → Nat} {σ τ : Mem} (C : CX E cL_law RL 4 room_1) (hT : eTys E = wTys cs) (hX : SC E b L xs) (hL : L ≤ 3072) (hi : i + 6 ≤ L) (hR : RelE n σ τ) (hk : kc ≤ room_1.cells ∧ ks ≤ room_1.slots) (k : ∀ σ' τ' : Mem, RelE n σ' τ' → GW E 4 kc ks (LW n adx adm cs σ' τ') 1204 (LVL b i adx adm) []) : GW E 4 kc ks (LW n adx adm cs σ τ) 435 (LVL b i adx adm) [] := by
  obtain ⟨t, a, st, lo, co, mk, ot, h⟩ := hR
  obtain ⟨r, σ', τ', h1, h2, hR⟩ := f_tick h (xs (i + 1))
  refine w_aload_n C dL_law_435 2 rfl ?_
  refine w_arg C hX hL 1 dL_law_436 dL_law_437 dL_law_438 rfl dL_law_439 dL_law_440 3 0 rfl rfl (by omega) ?_
  refine law_1i (o := 0) (ci := 11) (cl := (RX11, TX11, 10)) C [.int (xs (i + 1))] (c_X11_tick (eG_XF hT) h1) hM_L_50 hI_X11_tick hS_X11_tick hZ_X11 hC_X11_tick xIds_0 rfl rfl rfl dd_X11_tick (by decide) ⟨rfl, rfl⟩ hk (Nat.le_of_ble_eq_true rfl) dL_law_441 rfl ?_
  refine w_aload_n C dL_law_444 1 rfl ?_
  refine w_arg C hX hL 1 dL_law_445 dL_law_446 dL_law_447 rfl dL_law_448 dL_law_449 3 0 rfl rfl (by omega) ?_
  refine law_2i (o := 0) (ci := 12) (cl := (RX12, TX12, 52)) C [.int (xs (i + 1))] (c_X12_tick (eG_MF hT) h2) hM_L_53 hI_X12_tick hS_X12_tick hZ_X12 hC_X12_tick mIds_0 rfl rfl rfl dd_X12_tick (by decide) ⟨rfl, rfl⟩ hk (Nat.le_of_ble_eq_true rfl) dL_law_450 rfl ?_
  refine w_icmp_eq C 1204 dL_law_453 (by decide) (fun _ => ?_) (fun z => absurd rfl z)
  exact k σ' τ' hR
set_option maxRecDepth 100000 in
set_option maxHeartbeats 4000000 in
theorem lc_stop {E : EnvT} {cs : Nat → ClassId} {b L i n kc ks : Nat} {xs : Nat → Int32} {adx adm : Nat → Nat} {σ τ : Mem} (C : CX E cL_law RL 4 room_1) (hT : eTys E = wTys cs) (hX : SC E b L xs) (hL : L ≤ 3072) (hi : i + 6 ≤ L) (hR : RelE n σ τ) (hk : kc ≤ room_1.cells ∧ ks ≤ room_1.slots) (k : ∀ σ' τ' : Mem, RelE n σ' τ' → GW E 4 kc ks (LW n adx adm cs σ' τ') 1204 (LVL b i adx adm) []) : GW E 4 kc ks (LW n adx adm cs σ τ) 458 (LVL b i adx adm) [] := by
  obtain ⟨t, a, st, lo, co, mk, ot, h⟩ := hR
  obtain ⟨r, σ', τ', h1, h2, hR⟩ := f_stop h
  refine w_aload_n C dL_law_458 2 rfl ?_
  refine law_1i (o := 0) (ci := 11) (cl := (RX11, TX11, 10)) C [] (c_X11_stop (eG_XF hT) h1) hM_L_54 hI_X11_stop hS_X11_stop hZ_X11 hC_X11_stop xIds_0 rfl rfl rfl dd_X11_stop (by decide) ⟨rfl, rfl⟩ hk (Nat.le_of_ble_eq_true rfl) dL_law_459 rfl ?_
  refine w_aload_n C dL_law_462 1 rfl ?_
  refine law_2i (o := 0) (ci := 12) (cl := (RX12, TX12, 52)) C [] (c_X12_stop (eG_MF hT) h2) hM_L_57 hI_X12_stop hS_X12_stop hZ_X12 hC_X12_stop mIds_0 rfl rfl rfl dd_X12_stop (by decide) ⟨rfl, rfl⟩ hk (Nat.le_of_ble_eq_true rfl) dL_law_463 rfl ?_
  refine w_icmp_eq C 1204 dL_law_466 (by decide) (fun _ => ?_) (fun z => absurd rfl z)
  exact k σ' τ' hR
set_option maxRecDepth 100000 in
set_option maxHeartbeats 4000000 in
theorem lc_reset {E : EnvT} {cs : Nat → ClassId} {b L i n kc ks : Nat} {xs : Nat → Int32} {adx adm : Nat → Nat} {σ τ : Mem} (C : CX E cL_law RL 4 room_1) (hT : eTys E = wTys cs) (hX : SC E b L xs) (hL : L ≤ 3072) (hi : i + 6 ≤ L) (hR : RelE n σ τ) (hk : kc ≤ room_1.cells ∧ ks ≤ room_1.slots) (k : ∀ σ' τ' : Mem, RelE n σ' τ' → GW E 4 kc ks (LW n adx adm cs σ' τ') 1204 (LVL b i adx adm) []) : GW E 4 kc ks (LW n adx adm cs σ τ) 471 (LVL b i adx adm) [] := by
  obtain ⟨t, a, st, lo, co, mk, ot, h⟩ := hR
  obtain ⟨r, σ', τ', h1, h2, hR⟩ := f_reset h
  refine w_aload_n C dL_law_471 2 rfl ?_
  refine law_1i (o := 0) (ci := 11) (cl := (RX11, TX11, 10)) C [] (c_X11_reset (eG_XF hT) h1) hM_L_58 hI_X11_reset hS_X11_reset hZ_X11 hC_X11_reset xIds_0 rfl rfl rfl dd_X11_reset (by decide) ⟨rfl, rfl⟩ hk (Nat.le_of_ble_eq_true rfl) dL_law_472 rfl ?_
  refine w_aload_n C dL_law_475 1 rfl ?_
  refine law_2i (o := 0) (ci := 12) (cl := (RX12, TX12, 52)) C [] (c_X12_reset (eG_MF hT) h2) hM_L_61 hI_X12_reset hS_X12_reset hZ_X12 hC_X12_reset mIds_0 rfl rfl rfl dd_X12_reset (by decide) ⟨rfl, rfl⟩ hk (Nat.le_of_ble_eq_true rfl) dL_law_476 rfl ?_
  refine w_icmp_eq C 1204 dL_law_479 (by decide) (fun _ => ?_) (fun z => absurd rfl z)
  exact k σ' τ' hR
set_option maxRecDepth 100000 in
set_option maxHeartbeats 4000000 in
theorem lc_told {E : EnvT} {cs : Nat → ClassId} {b L i n kc ks : Nat} {xs : Nat → Int32} {adx adm : Nat → Nat} {σ τ : Mem} (C : CX E cL_law RL 4 room_1) (hT : eTys E = wTys cs) (hX : SC E b L xs) (hL : L ≤ 3072) (hi : i + 6 ≤ L) (hR : RelE n σ τ) (hk : kc ≤ room_1.cells ∧ ks ≤ room_1.slots) (k : ∀ σ' τ' : Mem, RelE n σ' τ' → GW E 4 kc ks (LW n adx adm cs σ' τ') 1204 (LVL b i adx adm) []) : GW E 4 kc ks (LW n adx adm cs σ τ) 484 (LVL b i adx adm) [] := by
  obtain ⟨t, a, st, lo, co, mk, ot, h⟩ := hR
  obtain ⟨r, h1, h2⟩ := f_told h (xs (i + 1))
  have hR : RelE n σ τ := ⟨t, a, st, lo, co, mk, ot, h⟩
  refine w_aload_n C dL_law_484 2 rfl ?_
  refine w_arg C hX hL 1 dL_law_485 dL_law_486 dL_law_487 rfl dL_law_488 dL_law_489 3 0 rfl rfl (by omega) ?_
  refine law_1i (o := 0) (ci := 11) (cl := (RX11, TX11, 10)) C [.int (xs (i + 1))] (c_X11_told (eG_XF hT) h1) hM_L_62 hI_X11_told hS_X11_told hZ_X11 hC_X11_told xIds_0 rfl rfl rfl dd_X11_told (by decide) ⟨rfl, rfl⟩ hk (Nat.le_of_ble_eq_true rfl) dL_law_490 rfl ?_
  refine w_aload_n C dL_law_493 1 rfl ?_
  refine w_arg C hX hL 1 dL_law_494 dL_law_495 dL_law_496 rfl dL_law_497 dL_law_498 3 0 rfl rfl (by omega) ?_
  refine law_2i (o := 0) (ci := 12) (cl := (RX12, TX12, 52)) C [.int (xs (i + 1))] (c_X12_told (eG_MF hT) h2) hM_L_65 hI_X12_told hS_X12_told hZ_X12 hC_X12_told mIds_0 rfl rfl rfl dd_X12_told (by decide) ⟨rfl, rfl⟩ hk (Nat.le_of_ble_eq_true rfl) dL_law_499 rfl ?_
  refine w_icmp_eq C 1204 dL_law_502 (by decide) (fun _ => ?_) (fun z => absurd rfl z)
  exact k σ τ hR
set_option maxRecDepth 100000 in
set_option maxHeartbeats 4000000 in
theorem lc_was {E : EnvT} {cs : Nat → ClassId} {b L i n kc ks : Nat} {xs : Nat → Int32} {adx adm : Nat → Nat} {σ τ : Mem} (C : CX E cL_law RL 4 room_1) (hT : eTys E = wTys cs) (hX : SC E b L xs) (hL : L ≤ 3072) (hi : i + 6 ≤ L) (hR : RelE n σ τ) (hk : kc ≤ room_1.cells ∧ ks ≤ room_1.slots) (k : ∀ σ' τ' : Mem, RelE n σ' τ' → GW E 4 kc ks (LW n adx adm cs σ' τ') 1204 (LVL b i adx adm) []) : GW E 4 kc ks (LW n adx adm cs σ τ) 507 (LVL b i adx adm) [] := by
  obtain ⟨t, a, st, lo, co, mk, ot, h⟩ := hR
  obtain ⟨r, h1, h2⟩ := f_was h (xs (i + 1)) (xs (i + 2))
  have hR : RelE n σ τ := ⟨t, a, st, lo, co, mk, ot, h⟩
  refine w_aload_n C dL_law_507 2 rfl ?_
  refine w_arg C hX hL 1 dL_law_508 dL_law_509 dL_law_510 rfl dL_law_511 dL_law_512 3 0 rfl rfl (by omega) ?_
  refine w_arg C hX hL 2 dL_law_513 dL_law_514 dL_law_515 rfl dL_law_516 dL_law_517 3 0 rfl rfl (by omega) ?_
  refine law_1i (o := 0) (ci := 11) (cl := (RX11, TX11, 10)) C [.int (xs (i + 1)), .int (xs (i + 2))] (c_X11_was (eG_XF hT) h1) hM_L_66 hI_X11_was hS_X11_was hZ_X11 hC_X11_was xIds_0 rfl rfl rfl dd_X11_was (by decide) ⟨rfl, rfl⟩ hk (Nat.le_of_ble_eq_true rfl) dL_law_518 rfl ?_
  refine w_aload_n C dL_law_521 1 rfl ?_
  refine w_arg C hX hL 1 dL_law_522 dL_law_523 dL_law_524 rfl dL_law_525 dL_law_526 3 0 rfl rfl (by omega) ?_
  refine w_arg C hX hL 2 dL_law_527 dL_law_528 dL_law_529 rfl dL_law_530 dL_law_531 3 0 rfl rfl (by omega) ?_
  refine law_2i (o := 0) (ci := 12) (cl := (RX12, TX12, 52)) C [.int (xs (i + 1)), .int (xs (i + 2))] (c_X12_was (eG_MF hT) h2) hM_L_69 hI_X12_was hS_X12_was hZ_X12 hC_X12_was mIds_0 rfl rfl rfl dd_X12_was (by decide) ⟨rfl, rfl⟩ hk (Nat.le_of_ble_eq_true rfl) dL_law_532 rfl ?_
  refine w_icmp_eq C 1204 dL_law_535 (by decide) (fun _ => ?_) (fun z => absurd rfl z)
  exact k σ τ hR
set_option maxRecDepth 100000 in
set_option maxHeartbeats 4000000 in
theorem lc_mark {E : EnvT} {cs : Nat → ClassId} {b L i n kc ks : Nat} {xs : Nat → Int32} {adx adm : Nat → Nat} {σ τ : Mem} (C : CX E cL_law RL 4 room_1) (hT : eTys E = wTys cs) (hX : SC E b L xs) (hL : L ≤ 3072) (hi : i + 6 ≤ L) (hR : RelE n σ τ) (hk : kc ≤ room_1.cells ∧ ks ≤ room_1.slots) (k : ∀ σ' τ' : Mem, RelE n σ' τ' → GW E 4 kc ks (LW n adx adm cs σ' τ') 1204 (LVL b i adx adm) []) : GW E 4 kc ks (LW n adx adm cs σ τ) 540 (LVL b i adx adm) [] := by
  obtain ⟨t, a, st, lo, co, mk, ot, h⟩ := hR
  obtain ⟨r, h1, h2⟩ := f_mark h (xs (i + 1))
  have hR : RelE n σ τ := ⟨t, a, st, lo, co, mk, ot, h⟩
  refine w_aload_n C dL_law_540 2 rfl ?_
  refine w_arg C hX hL 1 dL_law_541 dL_law_542 dL_law_543 rfl dL_law_544 dL_law_545 3 0 rfl rfl (by omega) ?_
  refine law_1i (o := 0) (ci := 11) (cl := (RX11, TX11, 10)) C [.int (xs (i + 1))] (c_X11_mark (eG_XF hT) h1) hM_L_70 hI_X11_mark hS_X11_mark hZ_X11 hC_X11_mark xIds_0 rfl rfl rfl dd_X11_mark (by decide) ⟨rfl, rfl⟩ hk (Nat.le_of_ble_eq_true rfl) dL_law_546 rfl ?_
  refine w_aload_n C dL_law_549 1 rfl ?_
  refine w_arg C hX hL 1 dL_law_550 dL_law_551 dL_law_552 rfl dL_law_553 dL_law_554 3 0 rfl rfl (by omega) ?_
  refine law_2i (o := 0) (ci := 12) (cl := (RX12, TX12, 52)) C [.int (xs (i + 1))] (c_X12_mark (eG_MF hT) h2) hM_L_73 hI_X12_mark hS_X12_mark hZ_X12 hC_X12_mark mIds_0 rfl rfl rfl dd_X12_mark (by decide) ⟨rfl, rfl⟩ hk (Nat.le_of_ble_eq_true rfl) dL_law_555 rfl ?_
  refine w_icmp_eq C 1204 dL_law_558 (by decide) (fun _ => ?_) (fun z => absurd rfl z)
  exact k σ τ hR
set_option maxRecDepth 100000 in
set_option maxHeartbeats 4000000 in
theorem lc_channel {E : EnvT} {cs : Nat → ClassId} {b L i n kc ks : Nat} {xs : Nat → Int32} {adx adm : Nat → Nat} {σ τ : Mem} (C : CX E cL_law RL 4 room_1) (hO : EAO E) (hT : eTys E = wTys cs) (hX : SC E b L xs) (hL : L ≤ 3072) (hi : i + 6 ≤ L) (hR : RelE n σ τ) (hk : kc + 1 ≤ room_1.cells ∧ ks + 8 ≤ room_1.slots) (k : ∀ (n' : Nat) (u : Nat → Nat) (σ' τ' : Mem), u 0 = adx 0 → RelE n' σ' τ' → GW E 4 (kc + 1) (ks + 8) (LW n' u adm cs σ' τ') 1204 (LVL b i adx adm) []) : GW E 4 kc ks (LW n adx adm cs σ τ) 563 (LVL b i adx adm) [] := by
  obtain ⟨t, a, st, lo, co, mk, ot, h⟩ := hR
  obtain ⟨hn, hc⟩ := relC_ch h
  obtain ⟨τ', h2, hR⟩ := f_channel h (xs (i + 1)) (xs (i + 2)) (xs (i + 3)) (xs (i + 4)) (xs (i + 5))
  refine w_aload_n C dL_law_563 2 rfl ?_
  refine w_arg C hX hL 1 dL_law_564 dL_law_565 dL_law_566 rfl dL_law_567 dL_law_568 3 0 rfl rfl (by omega) ?_
  refine w_arg C hX hL 2 dL_law_569 dL_law_570 dL_law_571 rfl dL_law_572 dL_law_573 3 0 rfl rfl (by omega) ?_
  refine w_arg C hX hL 3 dL_law_574 dL_law_575 dL_law_576 rfl dL_law_577 dL_law_578 3 0 rfl rfl (by omega) ?_
  refine w_arg C hX hL 4 dL_law_579 dL_law_580 dL_law_581 rfl dL_law_582 dL_law_583 3 0 rfl rfl (by omega) ?_
  refine w_arg C hX hL 5 dL_law_584 dL_law_585 dL_law_586 rfl dL_law_587 dL_law_588 3 0 rfl rfl (by omega) ?_
  refine law_chan C hO hT hn hc (xs (i + 1)) (xs (i + 2)) (xs (i + 3)) (xs (i + 4)) (xs (i + 5)) hM_L_74 (by decide) hk (Nat.le_of_ble_eq_true rfl) dL_law_589 (fun u hu => ?_)
  refine w_aload_n C dL_law_592 1 rfl ?_
  refine w_arg C hX hL 1 dL_law_593 dL_law_594 dL_law_595 rfl dL_law_596 dL_law_597 3 0 rfl rfl (by omega) ?_
  refine w_arg C hX hL 2 dL_law_598 dL_law_599 dL_law_600 rfl dL_law_601 dL_law_602 3 0 rfl rfl (by omega) ?_
  refine w_arg C hX hL 3 dL_law_603 dL_law_604 dL_law_605 rfl dL_law_606 dL_law_607 3 0 rfl rfl (by omega) ?_
  refine w_arg C hX hL 4 dL_law_608 dL_law_609 dL_law_610 rfl dL_law_611 dL_law_612 3 0 rfl rfl (by omega) ?_
  refine w_arg C hX hL 5 dL_law_613 dL_law_614 dL_law_615 rfl dL_law_616 dL_law_617 3 0 rfl rfl (by omega) ?_
  refine law_2i (o := 0) (ci := 12) (cl := (RX12, TX12, 52)) C [.int (xs (i + 1)), .int (xs (i + 2)), .int (xs (i + 3)), .int (xs (i + 4)), .int (xs (i + 5))] (c_X12_channel (eG_MF hT) h2) hM_L_78 hI_X12_channel hS_X12_channel hZ_X12 hC_X12_channel mIds_0 rfl rfl rfl dd_X12_channel (by decide) ⟨rfl, rfl⟩ ⟨hk.1, hk.2⟩ (Nat.le_of_ble_eq_true rfl) dL_law_618 rfl ?_
  refine w_icmp_eq C 1204 dL_law_621 (by decide) (fun _ => ?_) (fun z => absurd rfl z)
  exact k _ u _ _ hu hR
set_option maxRecDepth 100000 in
set_option maxHeartbeats 4000000 in
theorem lc_limit {E : EnvT} {cs : Nat → ClassId} {b L i n kc ks : Nat} {xs : Nat → Int32} {adx adm : Nat → Nat} {σ τ : Mem} (C : CX E cL_law RL 4 room_1) (hT : eTys E = wTys cs) (hX : SC E b L xs) (hL : L ≤ 3072) (hi : i + 6 ≤ L) (hR : RelE n σ τ) (hk : kc ≤ room_1.cells ∧ ks ≤ room_1.slots) (k : ∀ σ' τ' : Mem, RelE n σ' τ' → GW E 4 kc ks (LW n adx adm cs σ' τ') 1204 (LVL b i adx adm) []) : GW E 4 kc ks (LW n adx adm cs σ τ) 626 (LVL b i adx adm) [] := by
  obtain ⟨t, a, st, lo, co, mk, ot, h⟩ := hR
  obtain ⟨r, σ', τ', h1, h2, hR⟩ := f_limit h (xs (i + 1)) (xs (i + 2))
  refine w_aload_n C dL_law_626 2 rfl ?_
  refine w_arg C hX hL 1 dL_law_627 dL_law_628 dL_law_629 rfl dL_law_630 dL_law_631 3 0 rfl rfl (by omega) ?_
  refine w_arg C hX hL 2 dL_law_632 dL_law_633 dL_law_634 rfl dL_law_635 dL_law_636 3 0 rfl rfl (by omega) ?_
  refine law_1i (o := 0) (ci := 11) (cl := (RX11, TX11, 10)) C [.int (xs (i + 1)), .int (xs (i + 2))] (c_X11_limit (eG_XF hT) h1) hM_L_79 hI_X11_limit hS_X11_limit hZ_X11 hC_X11_limit xIds_0 rfl rfl rfl dd_X11_limit (by decide) ⟨rfl, rfl⟩ hk (Nat.le_of_ble_eq_true rfl) dL_law_637 rfl ?_
  refine w_aload_n C dL_law_640 1 rfl ?_
  refine w_arg C hX hL 1 dL_law_641 dL_law_642 dL_law_643 rfl dL_law_644 dL_law_645 3 0 rfl rfl (by omega) ?_
  refine w_arg C hX hL 2 dL_law_646 dL_law_647 dL_law_648 rfl dL_law_649 dL_law_650 3 0 rfl rfl (by omega) ?_
  refine law_2i (o := 0) (ci := 12) (cl := (RX12, TX12, 52)) C [.int (xs (i + 1)), .int (xs (i + 2))] (c_X12_limit (eG_MF hT) h2) hM_L_82 hI_X12_limit hS_X12_limit hZ_X12 hC_X12_limit mIds_0 rfl rfl rfl dd_X12_limit (by decide) ⟨rfl, rfl⟩ hk (Nat.le_of_ble_eq_true rfl) dL_law_651 rfl ?_
  refine w_icmp_eq C 1204 dL_law_654 (by decide) (fun _ => ?_) (fun z => absurd rfl z)
  exact k σ' τ' hR
set_option maxRecDepth 100000 in
set_option maxHeartbeats 4000000 in
theorem lc_lose {E : EnvT} {cs : Nat → ClassId} {b L i n kc ks : Nat} {xs : Nat → Int32} {adx adm : Nat → Nat} {σ τ : Mem} (C : CX E cL_law RL 4 room_1) (hT : eTys E = wTys cs) (hX : SC E b L xs) (hL : L ≤ 3072) (hi : i + 6 ≤ L) (hR : RelE n σ τ) (hk : kc ≤ room_1.cells ∧ ks ≤ room_1.slots) (k : ∀ σ' τ' : Mem, RelE n σ' τ' → GW E 4 kc ks (LW n adx adm cs σ' τ') 1204 (LVL b i adx adm) []) : GW E 4 kc ks (LW n adx adm cs σ τ) 659 (LVL b i adx adm) [] := by
  obtain ⟨t, a, st, lo, co, mk, ot, h⟩ := hR
  obtain ⟨r, σ', τ', h1, h2, hR⟩ := f_lose h (xs (i + 1)) (xs (i + 2)) (xs (i + 3))
  refine w_aload_n C dL_law_659 2 rfl ?_
  refine w_arg C hX hL 1 dL_law_660 dL_law_661 dL_law_662 rfl dL_law_663 dL_law_664 3 0 rfl rfl (by omega) ?_
  refine w_arg C hX hL 2 dL_law_665 dL_law_666 dL_law_667 rfl dL_law_668 dL_law_669 3 0 rfl rfl (by omega) ?_
  refine w_arg C hX hL 3 dL_law_670 dL_law_671 dL_law_672 rfl dL_law_673 dL_law_674 3 0 rfl rfl (by omega) ?_
  refine law_1i (o := 0) (ci := 11) (cl := (RX11, TX11, 10)) C [.int (xs (i + 1)), .int (xs (i + 2)), .int (xs (i + 3))] (c_X11_lose (eG_XF hT) h1) hM_L_83 hI_X11_lose hS_X11_lose hZ_X11 hC_X11_lose xIds_0 rfl rfl rfl dd_X11_lose (by decide) ⟨rfl, rfl⟩ hk (Nat.le_of_ble_eq_true rfl) dL_law_675 rfl ?_
  refine w_aload_n C dL_law_678 1 rfl ?_
  refine w_arg C hX hL 1 dL_law_679 dL_law_680 dL_law_681 rfl dL_law_682 dL_law_683 3 0 rfl rfl (by omega) ?_
  refine w_arg C hX hL 2 dL_law_684 dL_law_685 dL_law_686 rfl dL_law_687 dL_law_688 3 0 rfl rfl (by omega) ?_
  refine w_arg C hX hL 3 dL_law_689 dL_law_690 dL_law_691 rfl dL_law_692 dL_law_693 3 0 rfl rfl (by omega) ?_
  refine law_2i (o := 0) (ci := 12) (cl := (RX12, TX12, 52)) C [.int (xs (i + 1)), .int (xs (i + 2)), .int (xs (i + 3))] (c_X12_lose (eG_MF hT) h2) hM_L_87 hI_X12_lose hS_X12_lose hZ_X12 hC_X12_lose mIds_0 rfl rfl rfl dd_X12_lose (by decide) ⟨rfl, rfl⟩ hk (Nat.le_of_ble_eq_true rfl) dL_law_694 rfl ?_
  refine w_icmp_eq C 1204 dL_law_697 (by decide) (fun _ => ?_) (fun z => absurd rfl z)
  exact k σ' τ' hR
set_option maxRecDepth 100000 in
set_option maxHeartbeats 4000000 in
theorem lc_correct {E : EnvT} {cs : Nat → ClassId} {b L i n kc ks : Nat} {xs : Nat → Int32} {adx adm : Nat → Nat} {σ τ : Mem} (C : CX E cL_law RL 4 room_1) (hT : eTys E = wTys cs) (hX : SC E b L xs) (hL : L ≤ 3072) (hi : i + 6 ≤ L) (hR : RelE n σ τ) (hk : kc ≤ room_1.cells ∧ ks ≤ room_1.slots) (k : ∀ σ' τ' : Mem, RelE n σ' τ' → GW E 4 kc ks (LW n adx adm cs σ' τ') 1204 (LVL b i adx adm) []) : GW E 4 kc ks (LW n adx adm cs σ τ) 702 (LVL b i adx adm) [] := by
  obtain ⟨t, a, st, lo, co, mk, ot, h⟩ := hR
  obtain ⟨r, σ', τ', h1, h2, hR⟩ := f_correct h (xs (i + 1)) (xs (i + 2)) (xs (i + 3)) (xs (i + 4))
  refine w_aload_n C dL_law_702 2 rfl ?_
  refine w_arg C hX hL 1 dL_law_703 dL_law_704 dL_law_705 rfl dL_law_706 dL_law_707 3 0 rfl rfl (by omega) ?_
  refine w_arg C hX hL 2 dL_law_708 dL_law_709 dL_law_710 rfl dL_law_711 dL_law_712 3 0 rfl rfl (by omega) ?_
  refine w_arg C hX hL 3 dL_law_713 dL_law_714 dL_law_715 rfl dL_law_716 dL_law_717 3 0 rfl rfl (by omega) ?_
  refine w_arg C hX hL 4 dL_law_718 dL_law_719 dL_law_720 rfl dL_law_721 dL_law_722 3 0 rfl rfl (by omega) ?_
  refine law_1i (o := 0) (ci := 11) (cl := (RX11, TX11, 10)) C [.int (xs (i + 1)), .int (xs (i + 2)), .int (xs (i + 3)), .int (xs (i + 4))] (c_X11_correct (eG_XF hT) h1) hM_L_88 hI_X11_correct hS_X11_correct hZ_X11 hC_X11_correct xIds_0 rfl rfl rfl dd_X11_correct (by decide) ⟨rfl, rfl⟩ hk (Nat.le_of_ble_eq_true rfl) dL_law_723 rfl ?_
  refine w_aload_n C dL_law_726 1 rfl ?_
  refine w_arg C hX hL 1 dL_law_727 dL_law_728 dL_law_729 rfl dL_law_730 dL_law_731 3 0 rfl rfl (by omega) ?_
  refine w_arg C hX hL 2 dL_law_732 dL_law_733 dL_law_734 rfl dL_law_735 dL_law_736 3 0 rfl rfl (by omega) ?_
  refine w_arg C hX hL 3 dL_law_737 dL_law_738 dL_law_739 rfl dL_law_740 dL_law_741 3 0 rfl rfl (by omega) ?_
  refine w_arg C hX hL 4 dL_law_742 dL_law_743 dL_law_744 rfl dL_law_745 dL_law_746 3 0 rfl rfl (by omega) ?_
  refine law_2i (o := 0) (ci := 12) (cl := (RX12, TX12, 52)) C [.int (xs (i + 1)), .int (xs (i + 2)), .int (xs (i + 3)), .int (xs (i + 4))] (c_X12_correct (eG_MF hT) h2) hM_L_91 hI_X12_correct hS_X12_correct hZ_X12 hC_X12_correct mIds_0 rfl rfl rfl dd_X12_correct (by decide) ⟨rfl, rfl⟩ hk (Nat.le_of_ble_eq_true rfl) dL_law_747 rfl ?_
  refine w_icmp_eq C 1204 dL_law_750 (by decide) (fun _ => ?_) (fun z => absurd rfl z)
  exact k σ' τ' hR
set_option maxRecDepth 100000 in
set_option maxHeartbeats 4000000 in
theorem lc_other {E : EnvT} {cs : Nat → ClassId} {b L i n kc ks : Nat} {xs : Nat → Int32} {adx adm : Nat → Nat} {σ τ : Mem} (C : CX E cL_law RL 4 room_1) (hT : eTys E = wTys cs) (hX : SC E b L xs) (hL : L ≤ 3072) (hi : i + 6 ≤ L) (hR : RelE n σ τ) (hk : kc ≤ room_1.cells ∧ ks ≤ room_1.slots) (k : ∀ σ' τ' : Mem, RelE n σ' τ' → GW E 4 kc ks (LW n adx adm cs σ' τ') 1204 (LVL b i adx adm) []) : GW E 4 kc ks (LW n adx adm cs σ τ) 755 (LVL b i adx adm) [] := by
  obtain ⟨t, a, st, lo, co, mk, ot, h⟩ := hR
  obtain ⟨r, h1, h2⟩ := f_other h (xs (i + 1))
  have hR : RelE n σ τ := ⟨t, a, st, lo, co, mk, ot, h⟩
  refine w_aload_n C dL_law_755 2 rfl ?_
  refine w_arg C hX hL 1 dL_law_756 dL_law_757 dL_law_758 rfl dL_law_759 dL_law_760 3 0 rfl rfl (by omega) ?_
  refine law_1i (o := 0) (ci := 11) (cl := (RX11, TX11, 10)) C [.int (xs (i + 1))] (c_X11_other (eG_XF hT) h1) hM_L_92 hI_X11_other hS_X11_other hZ_X11 hC_X11_other xIds_0 rfl rfl rfl dd_X11_other (by decide) ⟨rfl, rfl⟩ hk (Nat.le_of_ble_eq_true rfl) dL_law_761 rfl ?_
  refine w_aload_n C dL_law_764 1 rfl ?_
  refine w_arg C hX hL 1 dL_law_765 dL_law_766 dL_law_767 rfl dL_law_768 dL_law_769 3 0 rfl rfl (by omega) ?_
  refine law_2i (o := 0) (ci := 12) (cl := (RX12, TX12, 52)) C [.int (xs (i + 1))] (c_X12_other (eG_MF hT) h2) hM_L_95 hI_X12_other hS_X12_other hZ_X12 hC_X12_other mIds_0 rfl rfl rfl dd_X12_other (by decide) ⟨rfl, rfl⟩ hk (Nat.le_of_ble_eq_true rfl) dL_law_770 rfl ?_
  refine w_icmp_eq C 1204 dL_law_773 (by decide) (fun _ => ?_) (fun z => absurd rfl z)
  exact k σ τ hR
set_option maxRecDepth 100000 in
set_option maxHeartbeats 4000000 in
theorem lc_reading {E : EnvT} {cs : Nat → ClassId} {b L i n kc ks : Nat} {xs : Nat → Int32} {adx adm : Nat → Nat} {σ τ : Mem} (C : CX E cL_law RL 4 room_1) (hT : eTys E = wTys cs) (hX : SC E b L xs) (hL : L ≤ 3072) (hi : i + 6 ≤ L) (hR : RelE n σ τ) (hk : kc ≤ room_1.cells ∧ ks ≤ room_1.slots) (k : ∀ σ' τ' : Mem, RelE n σ' τ' → GW E 4 kc ks (LW n adx adm cs σ' τ') 1204 (LVL b i adx adm) []) : GW E 4 kc ks (LW n adx adm cs σ τ) 778 (LVL b i adx adm) [] := by
  obtain ⟨t, a, st, lo, co, mk, ot, h⟩ := hR
  obtain ⟨r, h1, h2⟩ := f_reading h (xs (i + 1)) (xs (i + 2))
  have hR : RelE n σ τ := ⟨t, a, st, lo, co, mk, ot, h⟩
  refine w_aload_n C dL_law_778 2 rfl ?_
  refine w_arg C hX hL 1 dL_law_779 dL_law_780 dL_law_781 rfl dL_law_782 dL_law_783 3 0 rfl rfl (by omega) ?_
  refine w_arg C hX hL 2 dL_law_784 dL_law_785 dL_law_786 rfl dL_law_787 dL_law_788 3 0 rfl rfl (by omega) ?_
  refine law_1l (o := 0) (ci := 11) (cl := (RX11, TX11, 10)) C [.int (xs (i + 1)), .int (xs (i + 2))] (c_X11_reading (eG_XF hT) h1) hM_L_96 hI_X11_reading hS_X11_reading hZ_X11 hC_X11_reading xIds_0 rfl rfl rfl dd_X11_reading (by decide) ⟨rfl, rfl⟩ hk (Nat.le_of_ble_eq_true rfl) dL_law_789 rfl ?_
  refine w_aload_n C dL_law_792 1 rfl ?_
  refine w_arg C hX hL 1 dL_law_793 dL_law_794 dL_law_795 rfl dL_law_796 dL_law_797 3 0 rfl rfl (by omega) ?_
  refine w_arg C hX hL 2 dL_law_798 dL_law_799 dL_law_800 rfl dL_law_801 dL_law_802 3 0 rfl rfl (by omega) ?_
  refine law_2l (o := 0) (ci := 12) (cl := (RX12, TX12, 52)) C [.int (xs (i + 1)), .int (xs (i + 2))] (c_X12_reading (eG_MF hT) h2) hM_L_99 hI_X12_reading hS_X12_reading hZ_X12 hC_X12_reading mIds_0 rfl rfl rfl dd_X12_reading (by decide) ⟨rfl, rfl⟩ hk (Nat.le_of_ble_eq_true rfl) dL_law_803 rfl ?_
  refine w_lcmp C dL_law_806 ?_
  refine w_if_eq C 1204 dL_law_807 (by decide) (fun _ => ?_) (fun z => absurd (lg_cmp_self _) z)
  exact k σ τ hR
set_option maxRecDepth 100000 in
set_option maxHeartbeats 4000000 in
theorem lc_state {E : EnvT} {cs : Nat → ClassId} {b L i n kc ks : Nat} {xs : Nat → Int32} {adx adm : Nat → Nat} {σ τ : Mem} (C : CX E cL_law RL 4 room_1) (hT : eTys E = wTys cs) (hX : SC E b L xs) (hL : L ≤ 3072) (hi : i + 6 ≤ L) (hR : RelE n σ τ) (hk : kc ≤ room_1.cells ∧ ks ≤ room_1.slots) (k : ∀ σ' τ' : Mem, RelE n σ' τ' → GW E 4 kc ks (LW n adx adm cs σ' τ') 1204 (LVL b i adx adm) []) : GW E 4 kc ks (LW n adx adm cs σ τ) 812 (LVL b i adx adm) [] := by
  obtain ⟨t, a, st, lo, co, mk, ot, h⟩ := hR
  obtain ⟨r, h1, h2⟩ := f_state h (xs (i + 1)) (xs (i + 2))
  have hR : RelE n σ τ := ⟨t, a, st, lo, co, mk, ot, h⟩
  refine w_aload_n C dL_law_812 2 rfl ?_
  refine w_arg C hX hL 1 dL_law_813 dL_law_814 dL_law_815 rfl dL_law_816 dL_law_817 3 0 rfl rfl (by omega) ?_
  refine w_arg C hX hL 2 dL_law_818 dL_law_819 dL_law_820 rfl dL_law_821 dL_law_822 3 0 rfl rfl (by omega) ?_
  refine law_1i (o := 0) (ci := 11) (cl := (RX11, TX11, 10)) C [.int (xs (i + 1)), .int (xs (i + 2))] (c_X11_state (eG_XF hT) h1) hM_L_100 hI_X11_state hS_X11_state hZ_X11 hC_X11_state xIds_0 rfl rfl rfl dd_X11_state (by decide) ⟨rfl, rfl⟩ hk (Nat.le_of_ble_eq_true rfl) dL_law_823 rfl ?_
  refine w_aload_n C dL_law_826 1 rfl ?_
  refine w_arg C hX hL 1 dL_law_827 dL_law_828 dL_law_829 rfl dL_law_830 dL_law_831 3 0 rfl rfl (by omega) ?_
  refine w_arg C hX hL 2 dL_law_832 dL_law_833 dL_law_834 rfl dL_law_835 dL_law_836 3 0 rfl rfl (by omega) ?_
  refine law_2i (o := 0) (ci := 12) (cl := (RX12, TX12, 52)) C [.int (xs (i + 1)), .int (xs (i + 2))] (c_X12_state (eG_MF hT) h2) hM_L_103 hI_X12_state hS_X12_state hZ_X12 hC_X12_state mIds_0 rfl rfl rfl dd_X12_state (by decide) ⟨rfl, rfl⟩ hk (Nat.le_of_ble_eq_true rfl) dL_law_837 rfl ?_
  refine w_icmp_eq C 1204 dL_law_840 (by decide) (fun _ => ?_) (fun z => absurd rfl z)
  exact k σ τ hR
set_option maxRecDepth 100000 in
set_option maxHeartbeats 4000000 in
theorem lc_report {E : EnvT} {cs : Nat → ClassId} {b L i n kc ks : Nat} {xs : Nat → Int32} {adx adm : Nat → Nat} {σ τ : Mem} (C : CX E cL_law RL 4 room_1) (hT : eTys E = wTys cs) (hX : SC E b L xs) (hL : L ≤ 3072) (hi : i + 6 ≤ L) (hR : RelE n σ τ) (hk : kc ≤ room_1.cells ∧ ks ≤ room_1.slots) (k : ∀ σ' τ' : Mem, RelE n σ' τ' → GW E 4 kc ks (LW n adx adm cs σ' τ') 1204 (LVL b i adx adm) []) : GW E 4 kc ks (LW n adx adm cs σ τ) 845 (LVL b i adx adm) [] := by
  obtain ⟨t, a, st, lo, co, mk, ot, h⟩ := hR
  obtain ⟨r, σ', τ', h1, h2, hR⟩ := f_report h (xs (i + 1)) (xs (i + 2)) (xs (i + 3))
  refine w_aload_n C dL_law_845 2 rfl ?_
  refine w_arg C hX hL 1 dL_law_846 dL_law_847 dL_law_848 rfl dL_law_849 dL_law_850 3 0 rfl rfl (by omega) ?_
  refine w_arg C hX hL 2 dL_law_851 dL_law_852 dL_law_853 rfl dL_law_854 dL_law_855 3 0 rfl rfl (by omega) ?_
  refine w_arg C hX hL 3 dL_law_856 dL_law_857 dL_law_858 rfl dL_law_859 dL_law_860 3 0 rfl rfl (by omega) ?_
  refine law_1l (o := 0) (ci := 11) (cl := (RX11, TX11, 10)) C [.int (xs (i + 1)), .int (xs (i + 2)), .int (xs (i + 3))] (c_X11_report (eG_XF hT) h1) hM_L_104 hI_X11_report hS_X11_report hZ_X11 hC_X11_report xIds_0 rfl rfl rfl dd_X11_report (by decide) ⟨rfl, rfl⟩ hk (Nat.le_of_ble_eq_true rfl) dL_law_861 rfl ?_
  refine w_aload_n C dL_law_864 1 rfl ?_
  refine w_arg C hX hL 1 dL_law_865 dL_law_866 dL_law_867 rfl dL_law_868 dL_law_869 3 0 rfl rfl (by omega) ?_
  refine w_arg C hX hL 2 dL_law_870 dL_law_871 dL_law_872 rfl dL_law_873 dL_law_874 3 0 rfl rfl (by omega) ?_
  refine w_arg C hX hL 3 dL_law_875 dL_law_876 dL_law_877 rfl dL_law_878 dL_law_879 3 0 rfl rfl (by omega) ?_
  refine law_2l (o := 0) (ci := 12) (cl := (RX12, TX12, 52)) C [.int (xs (i + 1)), .int (xs (i + 2)), .int (xs (i + 3))] (c_X12_report (eG_MF hT) h2) hM_L_108 hI_X12_report hS_X12_report hZ_X12 hC_X12_report mIds_0 rfl rfl rfl dd_X12_report (by decide) ⟨rfl, rfl⟩ hk (Nat.le_of_ble_eq_true rfl) dL_law_880 rfl ?_
  refine w_lcmp C dL_law_883 ?_
  refine w_if_eq C 1204 dL_law_884 (by decide) (fun _ => ?_) (fun z => absurd (lg_cmp_self _) z)
  exact k σ' τ' hR
set_option maxRecDepth 100000 in
set_option maxHeartbeats 4000000 in
theorem lc_valid {E : EnvT} {cs : Nat → ClassId} {b L i n kc ks : Nat} {xs : Nat → Int32} {adx adm : Nat → Nat} {σ τ : Mem} (C : CX E cL_law RL 4 room_1) (hT : eTys E = wTys cs) (hX : SC E b L xs) (hL : L ≤ 3072) (hi : i + 6 ≤ L) (hR : RelE n σ τ) (hk : kc ≤ room_1.cells ∧ ks ≤ room_1.slots) (k : ∀ σ' τ' : Mem, RelE n σ' τ' → GW E 4 kc ks (LW n adx adm cs σ' τ') 1204 (LVL b i adx adm) []) : GW E 4 kc ks (LW n adx adm cs σ τ) 889 (LVL b i adx adm) [] := by
  obtain ⟨t, a, st, lo, co, mk, ot, h⟩ := hR
  obtain ⟨r, σ', τ', h1, h2, hR⟩ := f_valid h (xs (i + 1))
  refine w_aload_n C dL_law_889 2 rfl ?_
  refine w_arg C hX hL 1 dL_law_890 dL_law_891 dL_law_892 rfl dL_law_893 dL_law_894 3 0 rfl rfl (by omega) ?_
  refine law_1i (o := 0) (ci := 11) (cl := (RX11, TX11, 10)) C [.int (xs (i + 1))] (c_X11_valid (eG_XF hT) h1) hM_L_109 hI_X11_valid hS_X11_valid hZ_X11 hC_X11_valid xIds_0 rfl rfl rfl dd_X11_valid (by decide) ⟨rfl, rfl⟩ hk (Nat.le_of_ble_eq_true rfl) dL_law_895 rfl ?_
  refine w_aload_n C dL_law_898 1 rfl ?_
  refine w_arg C hX hL 1 dL_law_899 dL_law_900 dL_law_901 rfl dL_law_902 dL_law_903 3 0 rfl rfl (by omega) ?_
  refine law_2i (o := 0) (ci := 12) (cl := (RX12, TX12, 52)) C [.int (xs (i + 1))] (c_X12_valid (eG_MF hT) h2) hM_L_112 hI_X12_valid hS_X12_valid hZ_X12 hC_X12_valid mIds_0 rfl rfl rfl dd_X12_valid (by decide) ⟨rfl, rfl⟩ hk (Nat.le_of_ble_eq_true rfl) dL_law_904 rfl ?_
  refine w_icmp_eq C 1204 dL_law_907 (by decide) (fun _ => ?_) (fun z => absurd rfl z)
  exact k σ' τ' hR
set_option maxRecDepth 100000 in
set_option maxHeartbeats 4000000 in
theorem lc_law {E : EnvT} {cs : Nat → ClassId} {b L i n kc ks : Nat} {xs : Nat → Int32} {adx adm : Nat → Nat} {σ τ : Mem} (C : CX E cL_law RL 4 room_1) (hT : eTys E = wTys cs) (hX : SC E b L xs) (hL : L ≤ 3072) (hi : i + 6 ≤ L) (hR : RelE n σ τ) (hk : kc ≤ room_1.cells ∧ ks ≤ room_1.slots) (k : ∀ σ' τ' : Mem, RelE n σ' τ' → GW E 4 kc ks (LW n adx adm cs σ' τ') 1204 (LVL b i adx adm) []) : GW E 4 kc ks (LW n adx adm cs σ τ) 912 (LVL b i adx adm) [] := by
  obtain ⟨t, a, st, lo, co, mk, ot, h⟩ := hR
  obtain ⟨r, σ', τ', h1, h2, hR⟩ := f_law h (xs (i + 1)) (xs (i + 2))
  refine w_aload_n C dL_law_912 2 rfl ?_
  refine w_arg C hX hL 1 dL_law_913 dL_law_914 dL_law_915 rfl dL_law_916 dL_law_917 3 0 rfl rfl (by omega) ?_
  refine w_arg C hX hL 2 dL_law_918 dL_law_919 dL_law_920 rfl dL_law_921 dL_law_922 3 0 rfl rfl (by omega) ?_
  refine law_1l (o := 0) (ci := 11) (cl := (RX11, TX11, 10)) C [.int (xs (i + 1)), .int (xs (i + 2))] (c_X11_law (eG_XF hT) h1) hM_L_113 hI_X11_law hS_X11_law hZ_X11 hC_X11_law xIds_0 rfl rfl rfl dd_X11_law (by decide) ⟨rfl, rfl⟩ hk (Nat.le_of_ble_eq_true rfl) dL_law_923 rfl ?_
  refine w_aload_n C dL_law_926 1 rfl ?_
  refine w_arg C hX hL 1 dL_law_927 dL_law_928 dL_law_929 rfl dL_law_930 dL_law_931 3 0 rfl rfl (by omega) ?_
  refine w_arg C hX hL 2 dL_law_932 dL_law_933 dL_law_934 rfl dL_law_935 dL_law_936 3 0 rfl rfl (by omega) ?_
  refine law_2l (o := 0) (ci := 12) (cl := (RX12, TX12, 52)) C [.int (xs (i + 1)), .int (xs (i + 2))] (c_X12_law (eG_MF hT) h2) hM_L_116 hI_X12_law hS_X12_law hZ_X12 hC_X12_law mIds_0 rfl rfl rfl dd_X12_law (by decide) ⟨rfl, rfl⟩ hk (Nat.le_of_ble_eq_true rfl) dL_law_937 rfl ?_
  refine w_lcmp C dL_law_940 ?_
  refine w_if_eq C 1204 dL_law_941 (by decide) (fun _ => ?_) (fun z => absurd (lg_cmp_self _) z)
  exact k σ' τ' hR
set_option maxRecDepth 100000 in
set_option maxHeartbeats 4000000 in
theorem lc_sheet {E : EnvT} {cs : Nat → ClassId} {b L i n kc ks : Nat} {xs : Nat → Int32} {adx adm : Nat → Nat} {σ τ : Mem} (C : CX E cL_law RL 4 room_1) (hT : eTys E = wTys cs) (hX : SC E b L xs) (hL : L ≤ 3072) (hi : i + 6 ≤ L) (hR : RelE n σ τ) (hk : kc ≤ room_1.cells ∧ ks ≤ room_1.slots) (k : ∀ σ' τ' : Mem, RelE n σ' τ' → GW E 4 kc ks (LW n adx adm cs σ' τ') 1204 (LVL b i adx adm) []) : GW E 4 kc ks (LW n adx adm cs σ τ) 946 (LVL b i adx adm) [] := by
  obtain ⟨t, a, st, lo, co, mk, ot, h⟩ := hR
  obtain ⟨r, σ', τ', h1, h2, hR⟩ := f_sheet h (xs (i + 1)) (xs (i + 2)) (xs (i + 3))
  refine w_aload_n C dL_law_946 2 rfl ?_
  refine w_arg C hX hL 1 dL_law_947 dL_law_948 dL_law_949 rfl dL_law_950 dL_law_951 3 0 rfl rfl (by omega) ?_
  refine w_arg C hX hL 2 dL_law_952 dL_law_953 dL_law_954 rfl dL_law_955 dL_law_956 3 0 rfl rfl (by omega) ?_
  refine w_arg C hX hL 3 dL_law_957 dL_law_958 dL_law_959 rfl dL_law_960 dL_law_961 3 0 rfl rfl (by omega) ?_
  refine law_1i (o := 0) (ci := 11) (cl := (RX11, TX11, 10)) C [.int (xs (i + 1)), .int (xs (i + 2)), .int (xs (i + 3))] (c_X11_sheet (eG_XF hT) h1) hM_L_117 hI_X11_sheet hS_X11_sheet hZ_X11 hC_X11_sheet xIds_0 rfl rfl rfl dd_X11_sheet (by decide) ⟨rfl, rfl⟩ hk (Nat.le_of_ble_eq_true rfl) dL_law_962 rfl ?_
  refine w_aload_n C dL_law_965 1 rfl ?_
  refine w_arg C hX hL 1 dL_law_966 dL_law_967 dL_law_968 rfl dL_law_969 dL_law_970 3 0 rfl rfl (by omega) ?_
  refine w_arg C hX hL 2 dL_law_971 dL_law_972 dL_law_973 rfl dL_law_974 dL_law_975 3 0 rfl rfl (by omega) ?_
  refine w_arg C hX hL 3 dL_law_976 dL_law_977 dL_law_978 rfl dL_law_979 dL_law_980 3 0 rfl rfl (by omega) ?_
  refine law_2i (o := 0) (ci := 12) (cl := (RX12, TX12, 52)) C [.int (xs (i + 1)), .int (xs (i + 2)), .int (xs (i + 3))] (c_X12_sheet (eG_MF hT) h2) hM_L_120 hI_X12_sheet hS_X12_sheet hZ_X12 hC_X12_sheet mIds_0 rfl rfl rfl dd_X12_sheet (by decide) ⟨rfl, rfl⟩ hk (Nat.le_of_ble_eq_true rfl) dL_law_981 rfl ?_
  refine w_icmp_eq C 1204 dL_law_984 (by decide) (fun _ => ?_) (fun z => absurd rfl z)
  exact k σ' τ' hR
set_option maxRecDepth 100000 in
set_option maxHeartbeats 4000000 in
theorem lc_drop {E : EnvT} {cs : Nat → ClassId} {b L i n kc ks : Nat} {xs : Nat → Int32} {adx adm : Nat → Nat} {σ τ : Mem} (C : CX E cL_law RL 4 room_1) (hT : eTys E = wTys cs) (hX : SC E b L xs) (hL : L ≤ 3072) (hi : i + 6 ≤ L) (hR : RelE n σ τ) (hk : kc ≤ room_1.cells ∧ ks ≤ room_1.slots) (k : ∀ σ' τ' : Mem, RelE n σ' τ' → GW E 4 kc ks (LW n adx adm cs σ' τ') 1204 (LVL b i adx adm) []) : GW E 4 kc ks (LW n adx adm cs σ τ) 989 (LVL b i adx adm) [] := by
  obtain ⟨t, a, st, lo, co, mk, ot, h⟩ := hR
  obtain ⟨r, σ', τ', h1, h2, hR⟩ := f_drop h (xs (i + 1))
  refine w_aload_n C dL_law_989 2 rfl ?_
  refine w_arg C hX hL 1 dL_law_990 dL_law_991 dL_law_992 rfl dL_law_993 dL_law_994 3 0 rfl rfl (by omega) ?_
  refine law_1i (o := 0) (ci := 11) (cl := (RX11, TX11, 10)) C [.int (xs (i + 1))] (c_X11_drop (eG_XF hT) h1) hM_L_121 hI_X11_drop hS_X11_drop hZ_X11 hC_X11_drop xIds_0 rfl rfl rfl dd_X11_drop (by decide) ⟨rfl, rfl⟩ hk (Nat.le_of_ble_eq_true rfl) dL_law_995 rfl ?_
  refine w_aload_n C dL_law_998 1 rfl ?_
  refine w_arg C hX hL 1 dL_law_999 dL_law_1000 dL_law_1001 rfl dL_law_1002 dL_law_1003 3 0 rfl rfl (by omega) ?_
  refine law_2i (o := 0) (ci := 12) (cl := (RX12, TX12, 52)) C [.int (xs (i + 1))] (c_X12_drop (eG_MF hT) h2) hM_L_124 hI_X12_drop hS_X12_drop hZ_X12 hC_X12_drop mIds_0 rfl rfl rfl dd_X12_drop (by decide) ⟨rfl, rfl⟩ hk (Nat.le_of_ble_eq_true rfl) dL_law_1004 rfl ?_
  refine w_icmp_eq C 1204 dL_law_1007 (by decide) (fun _ => ?_) (fun z => absurd rfl z)
  exact k σ' τ' hR
set_option maxRecDepth 100000 in
set_option maxHeartbeats 4000000 in
theorem lc_put {E : EnvT} {cs : Nat → ClassId} {b L i n kc ks : Nat} {xs : Nat → Int32} {adx adm : Nat → Nat} {σ τ : Mem} (C : CX E cL_law RL 4 room_1) (hT : eTys E = wTys cs) (hX : SC E b L xs) (hL : L ≤ 3072) (hi : i + 6 ≤ L) (hR : RelE n σ τ) (hk : kc ≤ room_1.cells ∧ ks ≤ room_1.slots) (k : ∀ σ' τ' : Mem, RelE n σ' τ' → GW E 4 kc ks (LW n adx adm cs σ' τ') 1204 (LVL b i adx adm) []) : GW E 4 kc ks (LW n adx adm cs σ τ) 1012 (LVL b i adx adm) [] := by
  obtain ⟨t, a, st, lo, co, mk, ot, h⟩ := hR
  obtain ⟨r, σ', τ', h1, h2, hR⟩ := f_put h (xs (i + 1)) (xs (i + 2)) (xs (i + 3))
  refine w_aload_n C dL_law_1012 2 rfl ?_
  refine w_arg C hX hL 1 dL_law_1013 dL_law_1014 dL_law_1015 rfl dL_law_1016 dL_law_1017 3 0 rfl rfl (by omega) ?_
  refine w_arg C hX hL 2 dL_law_1018 dL_law_1019 dL_law_1020 rfl dL_law_1021 dL_law_1022 3 0 rfl rfl (by omega) ?_
  refine w_arg C hX hL 3 dL_law_1023 dL_law_1024 dL_law_1025 rfl dL_law_1026 dL_law_1027 3 0 rfl rfl (by omega) ?_
  refine law_1i (o := 0) (ci := 11) (cl := (RX11, TX11, 10)) C [.int (xs (i + 1)), .int (xs (i + 2)), .int (xs (i + 3))] (c_X11_put (eG_XF hT) h1) hM_L_125 hI_X11_put hS_X11_put hZ_X11 hC_X11_put xIds_0 rfl rfl rfl dd_X11_put (by decide) ⟨rfl, rfl⟩ hk (Nat.le_of_ble_eq_true rfl) dL_law_1028 rfl ?_
  refine w_aload_n C dL_law_1031 1 rfl ?_
  refine w_arg C hX hL 1 dL_law_1032 dL_law_1033 dL_law_1034 rfl dL_law_1035 dL_law_1036 3 0 rfl rfl (by omega) ?_
  refine w_arg C hX hL 2 dL_law_1037 dL_law_1038 dL_law_1039 rfl dL_law_1040 dL_law_1041 3 0 rfl rfl (by omega) ?_
  refine w_arg C hX hL 3 dL_law_1042 dL_law_1043 dL_law_1044 rfl dL_law_1045 dL_law_1046 3 0 rfl rfl (by omega) ?_
  refine law_2i (o := 0) (ci := 12) (cl := (RX12, TX12, 52)) C [.int (xs (i + 1)), .int (xs (i + 2)), .int (xs (i + 3))] (c_X12_put (eG_MF hT) h2) hM_L_128 hI_X12_put hS_X12_put hZ_X12 hC_X12_put mIds_0 rfl rfl rfl dd_X12_put (by decide) ⟨rfl, rfl⟩ hk (Nat.le_of_ble_eq_true rfl) dL_law_1047 rfl ?_
  refine w_icmp_eq C 1204 dL_law_1050 (by decide) (fun _ => ?_) (fun z => absurd rfl z)
  exact k σ' τ' hR
set_option maxRecDepth 100000 in
set_option maxHeartbeats 4000000 in
theorem lc_at {E : EnvT} {cs : Nat → ClassId} {b L i n kc ks : Nat} {xs : Nat → Int32} {adx adm : Nat → Nat} {σ τ : Mem} (C : CX E cL_law RL 4 room_1) (hT : eTys E = wTys cs) (hX : SC E b L xs) (hL : L ≤ 3072) (hi : i + 6 ≤ L) (hR : RelE n σ τ) (hk : kc ≤ room_1.cells ∧ ks ≤ room_1.slots) (k : ∀ σ' τ' : Mem, RelE n σ' τ' → GW E 4 kc ks (LW n adx adm cs σ' τ') 1204 (LVL b i adx adm) []) : GW E 4 kc ks (LW n adx adm cs σ τ) 1055 (LVL b i adx adm) [] := by
  obtain ⟨t, a, st, lo, co, mk, ot, h⟩ := hR
  obtain ⟨r, σ', τ', h1, h2, hR⟩ := f_at h (xs (i + 1)) (xs (i + 2)) (xs (i + 3))
  refine w_aload_n C dL_law_1055 2 rfl ?_
  refine w_arg C hX hL 1 dL_law_1056 dL_law_1057 dL_law_1058 rfl dL_law_1059 dL_law_1060 3 0 rfl rfl (by omega) ?_
  refine w_arg C hX hL 2 dL_law_1061 dL_law_1062 dL_law_1063 rfl dL_law_1064 dL_law_1065 3 0 rfl rfl (by omega) ?_
  refine w_arg C hX hL 3 dL_law_1066 dL_law_1067 dL_law_1068 rfl dL_law_1069 dL_law_1070 3 0 rfl rfl (by omega) ?_
  refine law_1l (o := 0) (ci := 11) (cl := (RX11, TX11, 10)) C [.int (xs (i + 1)), .int (xs (i + 2)), .int (xs (i + 3))] (c_X11_at (eG_XF hT) h1) hM_L_129 hI_X11_at hS_X11_at hZ_X11 hC_X11_at xIds_0 rfl rfl rfl dd_X11_at (by decide) ⟨rfl, rfl⟩ hk (Nat.le_of_ble_eq_true rfl) dL_law_1071 rfl ?_
  refine w_aload_n C dL_law_1074 1 rfl ?_
  refine w_arg C hX hL 1 dL_law_1075 dL_law_1076 dL_law_1077 rfl dL_law_1078 dL_law_1079 3 0 rfl rfl (by omega) ?_
  refine w_arg C hX hL 2 dL_law_1080 dL_law_1081 dL_law_1082 rfl dL_law_1083 dL_law_1084 3 0 rfl rfl (by omega) ?_
  refine w_arg C hX hL 3 dL_law_1085 dL_law_1086 dL_law_1087 rfl dL_law_1088 dL_law_1089 3 0 rfl rfl (by omega) ?_
  refine law_2l (o := 0) (ci := 12) (cl := (RX12, TX12, 52)) C [.int (xs (i + 1)), .int (xs (i + 2)), .int (xs (i + 3))] (c_X12_at (eG_MF hT) h2) hM_L_132 hI_X12_at hS_X12_at hZ_X12 hC_X12_at mIds_0 rfl rfl rfl dd_X12_at (by decide) ⟨rfl, rfl⟩ hk (Nat.le_of_ble_eq_true rfl) dL_law_1090 rfl ?_
  refine w_lcmp C dL_law_1093 ?_
  refine w_if_eq C 1204 dL_law_1094 (by decide) (fun _ => ?_) (fun z => absurd (lg_cmp_self _) z)
  exact k σ' τ' hR
set_option maxRecDepth 100000 in
set_option maxHeartbeats 4000000 in
theorem lc_tell {E : EnvT} {cs : Nat → ClassId} {b L i n kc ks : Nat} {xs : Nat → Int32} {adx adm : Nat → Nat} {σ τ : Mem} (C : CX E cL_law RL 4 room_1) (hT : eTys E = wTys cs) (hX : SC E b L xs) (hL : L ≤ 3072) (hi : i + 6 ≤ L) (hR : RelE n σ τ) (hk : kc ≤ room_1.cells ∧ ks ≤ room_1.slots) (k : ∀ σ' τ' : Mem, RelE n σ' τ' → GW E 4 kc ks (LW n adx adm cs σ' τ') 1204 (LVL b i adx adm) []) : GW E 4 kc ks (LW n adx adm cs σ τ) 1099 (LVL b i adx adm) [] := by
  obtain ⟨t, a, st, lo, co, mk, ot, h⟩ := hR
  obtain ⟨r, σ', τ', h1, h2, hR⟩ := f_tell h (xs (i + 1))
  refine w_aload_n C dL_law_1099 2 rfl ?_
  refine w_arg C hX hL 1 dL_law_1100 dL_law_1101 dL_law_1102 rfl dL_law_1103 dL_law_1104 3 0 rfl rfl (by omega) ?_
  refine law_1i (o := 0) (ci := 11) (cl := (RX11, TX11, 10)) C [.int (xs (i + 1))] (c_X11_tell (eG_XF hT) h1) hM_L_133 hI_X11_tell hS_X11_tell hZ_X11 hC_X11_tell xIds_0 rfl rfl rfl dd_X11_tell (by decide) ⟨rfl, rfl⟩ hk (Nat.le_of_ble_eq_true rfl) dL_law_1105 rfl ?_
  refine w_aload_n C dL_law_1108 1 rfl ?_
  refine w_arg C hX hL 1 dL_law_1109 dL_law_1110 dL_law_1111 rfl dL_law_1112 dL_law_1113 3 0 rfl rfl (by omega) ?_
  refine law_2i (o := 0) (ci := 12) (cl := (RX12, TX12, 52)) C [.int (xs (i + 1))] (c_X12_tell (eG_MF hT) h2) hM_L_136 hI_X12_tell hS_X12_tell hZ_X12 hC_X12_tell mIds_0 rfl rfl rfl dd_X12_tell (by decide) ⟨rfl, rfl⟩ hk (Nat.le_of_ble_eq_true rfl) dL_law_1114 rfl ?_
  refine w_icmp_eq C 1204 dL_law_1117 (by decide) (fun _ => ?_) (fun z => absurd rfl z)
  exact k σ' τ' hR
set_option maxRecDepth 100000 in
set_option maxHeartbeats 4000000 in
theorem lc_draw {E : EnvT} {cs : Nat → ClassId} {b L i n kc ks : Nat} {xs : Nat → Int32} {adx adm : Nat → Nat} {σ τ : Mem} (C : CX E cL_law RL 4 room_1) (hT : eTys E = wTys cs) (hX : SC E b L xs) (hL : L ≤ 3072) (hi : i + 6 ≤ L) (hR : RelE n σ τ) (hk : kc ≤ room_1.cells ∧ ks ≤ room_1.slots) (k : ∀ σ' τ' : Mem, RelE n σ' τ' → GW E 4 kc ks (LW n adx adm cs σ' τ') 1204 (LVL b i adx adm) []) : GW E 4 kc ks (LW n adx adm cs σ τ) 1122 (LVL b i adx adm) [] := by
  obtain ⟨t, a, st, lo, co, mk, ot, h⟩ := hR
  obtain ⟨r, σ', τ', h1, h2, hR⟩ := f_draw h (xs (i + 1))
  refine w_aload_n C dL_law_1122 2 rfl ?_
  refine w_arg C hX hL 1 dL_law_1123 dL_law_1124 dL_law_1125 rfl dL_law_1126 dL_law_1127 3 0 rfl rfl (by omega) ?_
  refine law_1i (o := 0) (ci := 11) (cl := (RX11, TX11, 10)) C [.int (xs (i + 1))] (c_X11_draw (eG_XF hT) h1) hM_L_137 hI_X11_draw hS_X11_draw hZ_X11 hC_X11_draw xIds_0 rfl rfl rfl dd_X11_draw (by decide) ⟨rfl, rfl⟩ hk (Nat.le_of_ble_eq_true rfl) dL_law_1128 rfl ?_
  refine w_aload_n C dL_law_1131 1 rfl ?_
  refine w_arg C hX hL 1 dL_law_1132 dL_law_1133 dL_law_1134 rfl dL_law_1135 dL_law_1136 3 0 rfl rfl (by omega) ?_
  refine law_2i (o := 0) (ci := 12) (cl := (RX12, TX12, 52)) C [.int (xs (i + 1))] (c_X12_draw (eG_MF hT) h2) hM_L_140 hI_X12_draw hS_X12_draw hZ_X12 hC_X12_draw mIds_0 rfl rfl rfl dd_X12_draw (by decide) ⟨rfl, rfl⟩ hk (Nat.le_of_ble_eq_true rfl) dL_law_1137 rfl ?_
  refine w_icmp_eq C 1204 dL_law_1140 (by decide) (fun _ => ?_) (fun z => absurd rfl z)
  exact k σ' τ' hR
set_option maxRecDepth 100000 in
set_option maxHeartbeats 4000000 in
theorem lc_as {E : EnvT} {cs : Nat → ClassId} {b L i n kc ks : Nat} {xs : Nat → Int32} {adx adm : Nat → Nat} {σ τ : Mem} (C : CX E cL_law RL 4 room_1) (hT : eTys E = wTys cs) (hX : SC E b L xs) (hL : L ≤ 3072) (hi : i + 6 ≤ L) (hR : RelE n σ τ) (hk : kc ≤ room_1.cells ∧ ks ≤ room_1.slots) (k : ∀ σ' τ' : Mem, RelE n σ' τ' → GW E 4 kc ks (LW n adx adm cs σ' τ') 1204 (LVL b i adx adm) []) : GW E 4 kc ks (LW n adx adm cs σ τ) 1145 (LVL b i adx adm) [] := by
  obtain ⟨t, a, st, lo, co, mk, ot, h⟩ := hR
  obtain ⟨r, σ', τ', h1, h2, hR⟩ := f_as h (xs (i + 1)) (xs (i + 2))
  refine w_aload_n C dL_law_1145 2 rfl ?_
  refine w_arg C hX hL 1 dL_law_1146 dL_law_1147 dL_law_1148 rfl dL_law_1149 dL_law_1150 3 0 rfl rfl (by omega) ?_
  refine w_arg C hX hL 2 dL_law_1151 dL_law_1152 dL_law_1153 rfl dL_law_1154 dL_law_1155 3 0 rfl rfl (by omega) ?_
  refine law_1i (o := 0) (ci := 11) (cl := (RX11, TX11, 10)) C [.int (xs (i + 1)), .int (xs (i + 2))] (c_X11_as (eG_XF hT) h1) hM_L_141 hI_X11_as hS_X11_as hZ_X11 hC_X11_as xIds_0 rfl rfl rfl dd_X11_as (by decide) ⟨rfl, rfl⟩ hk (Nat.le_of_ble_eq_true rfl) dL_law_1156 rfl ?_
  refine w_aload_n C dL_law_1159 1 rfl ?_
  refine w_arg C hX hL 1 dL_law_1160 dL_law_1161 dL_law_1162 rfl dL_law_1163 dL_law_1164 3 0 rfl rfl (by omega) ?_
  refine w_arg C hX hL 2 dL_law_1165 dL_law_1166 dL_law_1167 rfl dL_law_1168 dL_law_1169 3 0 rfl rfl (by omega) ?_
  refine law_2i (o := 0) (ci := 12) (cl := (RX12, TX12, 52)) C [.int (xs (i + 1)), .int (xs (i + 2))] (c_X12_as (eG_MF hT) h2) hM_L_144 hI_X12_as hS_X12_as hZ_X12 hC_X12_as mIds_0 rfl rfl rfl dd_X12_as (by decide) ⟨rfl, rfl⟩ hk (Nat.le_of_ble_eq_true rfl) dL_law_1170 rfl ?_
  refine w_icmp_eq C 1204 dL_law_1173 (by decide) (fun _ => ?_) (fun z => absurd rfl z)
  exact k σ' τ' hR
set_option maxRecDepth 100000 in
set_option maxHeartbeats 4000000 in
theorem lc_trace {E : EnvT} {cs : Nat → ClassId} {b L i n kc ks : Nat} {xs : Nat → Int32} {adx adm : Nat → Nat} {σ τ : Mem} (C : CX E cL_law RL 4 room_1) (hT : eTys E = wTys cs) (hX : SC E b L xs) (hL : L ≤ 3072) (hi : i + 6 ≤ L) (hR : RelE n σ τ) (hk : kc ≤ room_1.cells ∧ ks ≤ room_1.slots) (k : ∀ σ' τ' : Mem, RelE n σ' τ' → GW E 4 kc ks (LW n adx adm cs σ' τ') 1204 (LVL b i adx adm) []) : GW E 4 kc ks (LW n adx adm cs σ τ) 1178 (LVL b i adx adm) [] := by
  obtain ⟨t, a, st, lo, co, mk, ot, h⟩ := hR
  obtain ⟨r, h1, h2⟩ := f_trace h
  have hR : RelE n σ τ := ⟨t, a, st, lo, co, mk, ot, h⟩
  refine w_aload_n C dL_law_1178 2 rfl ?_
  refine law_1i (o := 0) (ci := 11) (cl := (RX11, TX11, 10)) C [] (c_X11_trace (eG_XF hT) h1) hM_L_145 hI_X11_trace hS_X11_trace hZ_X11 hC_X11_trace xIds_0 rfl rfl rfl dd_X11_trace (by decide) ⟨rfl, rfl⟩ hk (Nat.le_of_ble_eq_true rfl) dL_law_1179 rfl ?_
  refine w_aload_n C dL_law_1182 1 rfl ?_
  refine law_2i (o := 0) (ci := 12) (cl := (RX12, TX12, 52)) C [] (c_X12_trace (eG_MF hT) h2) hM_L_148 hI_X12_trace hS_X12_trace hZ_X12 hC_X12_trace mIds_0 rfl rfl rfl dd_X12_trace (by decide) ⟨rfl, rfl⟩ hk (Nat.le_of_ble_eq_true rfl) dL_law_1183 rfl ?_
  refine w_icmp_eq C 1204 dL_law_1186 (by decide) (fun _ => ?_) (fun z => absurd rfl z)
  exact k σ τ hR
set_option maxRecDepth 100000 in
set_option maxHeartbeats 4000000 in
theorem lc_fault {E : EnvT} {cs : Nat → ClassId} {b L i n kc ks : Nat} {xs : Nat → Int32} {adx adm : Nat → Nat} {σ τ : Mem} (C : CX E cL_law RL 4 room_1) (hT : eTys E = wTys cs) (hX : SC E b L xs) (hL : L ≤ 3072) (hi : i + 6 ≤ L) (hR : RelE n σ τ) (hk : kc ≤ room_1.cells ∧ ks ≤ room_1.slots) (k : ∀ σ' τ' : Mem, RelE n σ' τ' → GW E 4 kc ks (LW n adx adm cs σ' τ') 1204 (LVL b i adx adm) []) : GW E 4 kc ks (LW n adx adm cs σ τ) 1191 (LVL b i adx adm) [] := by
  obtain ⟨t, a, st, lo, co, mk, ot, h⟩ := hR
  obtain ⟨r, h1, h2⟩ := f_fault h
  have hR : RelE n σ τ := ⟨t, a, st, lo, co, mk, ot, h⟩
  refine w_aload_n C dL_law_1191 2 rfl ?_
  refine law_1i (o := 0) (ci := 11) (cl := (RX11, TX11, 10)) C [] (c_X11_fault (eG_XF hT) h1) hM_L_149 hI_X11_fault hS_X11_fault hZ_X11 hC_X11_fault xIds_0 rfl rfl rfl dd_X11_fault (by decide) ⟨rfl, rfl⟩ hk (Nat.le_of_ble_eq_true rfl) dL_law_1192 rfl ?_
  refine w_aload_n C dL_law_1195 1 rfl ?_
  refine law_2i (o := 0) (ci := 12) (cl := (RX12, TX12, 52)) C [] (c_X12_fault (eG_MF hT) h2) hM_L_152 hI_X12_fault hS_X12_fault hZ_X12 hC_X12_fault mIds_0 rfl rfl rfl dd_X12_fault (by decide) ⟨rfl, rfl⟩ hk (Nat.le_of_ble_eq_true rfl) dL_law_1196 rfl ?_
  refine w_icmp_eq C 1204 dL_law_1199 (by decide) (fun _ => ?_) (fun z => absurd rfl z)
  exact k σ τ hR
