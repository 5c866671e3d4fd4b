theorem kI_6 : Int32.ofInt (6) = 6 := by decide
def lw_fun_18_X (σ : sg_S) (L : Nat) (xs : Nat → Int32)  : ((Int32 × sg_S) ⊕ (sg_S ⊕ (Int32 × sg_S))) → sg_X
  | .inl a => .inr (18, [some (.ref 99), some (.ref 0), some (.ref 62), some (.int a.1)], a.2)
  | .inr (.inl e) => .inr (1586, [none, none, none, none], e)
  | .inr (.inr r) => .inl (eMI r)
def lw_fun_18_J220 (σ : sg_S) (L : Nat) (xs : Nat → Int32)  (v3 : Int32) : Option ((Int32 × sg_S) ⊕ (sg_S ⊕ (Int32 × sg_S))) :=
  (if sg_in (v3 + 1) L = true then (if sg_in (v3 + 2) L = true then (if sg_in (v3 + 3) L = true then ((ns_list σ (xs (v3 + 1).toNatClampNeg) (xs (v3 + 2).toNatClampNeg) (xs (v3 + 3).toNatClampNeg)).bind fun r1 => (if sg_in (v3 + 1) L = true then (if sg_in (v3 + 2) L = true then (if sg_in (v3 + 3) L = true then ((md_list r1.2 (xs (v3 + 1).toNatClampNeg) (xs (v3 + 2).toNatClampNeg) (xs (v3 + 3).toNatClampNeg)).bind fun r2 => (if r1.1 = r2.1 then some (.inl ((v3 + 6), r2.2)) else some (.inr (.inr (0, r2.2))))) else none) else none) else none)) else none) else none) else none)
set_option maxRecDepth 100000 in
set_option maxHeartbeats 20000000 in
theorem e_lw_fun_18_J220 (σ : sg_S) (L : Nat) (xs : Nat → Int32)  (v3 : Int32)  : EvZ (L, xs) mL_law room_1 220 [some (.ref 99), some (.ref 0), some (.ref 62), some (.int v3)] [] σ (lw_fun_18_X σ L xs ) (lw_fun_18_J220 σ L xs  v3) := by
  unfold lw_fun_18_J220
  refine evz_aload_n iL_law_220 rfl (by decide) rfl ?_
  refine evz_aload_n iL_law_221 rfl (by decide) rfl ?_
  refine evz_iload_n iL_law_222 rfl rfl ?_
  refine evz_iconst iL_law_223 kI_1 ?_
  refine evz_iadd iL_law_224 ?_
  refine evz_sald iL_law_225 ?_
  refine evz_aload_n iL_law_226 rfl (by decide) rfl ?_
  refine evz_iload_n iL_law_227 rfl rfl ?_
  refine evz_iconst iL_law_228 kI_2 ?_
  refine evz_iadd iL_law_229 ?_
  refine evz_sald iL_law_230 ?_
  refine evz_aload_n iL_law_231 rfl (by decide) rfl ?_
  refine evz_iload_n iL_law_232 rfl rfl ?_
  refine evz_iconst iL_law_233 kI_3 ?_
  refine evz_iadd iL_law_234 ?_
  refine evz_sald iL_law_235 ?_
  refine evz_VMI iL_law_236 kV_L_13 (c_ns_list σ (xs (v3 + 1).toNatClampNeg) (xs (v3 + 2).toNatClampNeg) (xs (v3 + 3).toNatClampNeg)) rc_0 rfl rfl (Nat.le_of_ble_eq_true rfl) (sg_fitW (by decide) (Nat.le_of_ble_eq_true rfl)) (fun r1 => ?_)
  refine evz_aload_n iL_law_239 rfl (by decide) rfl ?_
  refine evz_aload_n iL_law_240 rfl (by decide) rfl ?_
  refine evz_iload_n iL_law_241 rfl rfl ?_
  refine evz_iconst iL_law_242 kI_1 ?_
  refine evz_iadd iL_law_243 ?_
  refine evz_sald iL_law_244 ?_
  refine evz_aload_n iL_law_245 rfl (by decide) rfl ?_
  refine evz_iload_n iL_law_246 rfl rfl ?_
  refine evz_iconst iL_law_247 kI_2 ?_
  refine evz_iadd iL_law_248 ?_
  refine evz_sald iL_law_249 ?_
  refine evz_aload_n iL_law_250 rfl (by decide) rfl ?_
  refine evz_iload_n iL_law_251 rfl rfl ?_
  refine evz_iconst iL_law_252 kI_3 ?_
  refine evz_iadd iL_law_253 ?_
  refine evz_sald iL_law_254 ?_
  refine evz_VMI iL_law_255 kV_L_17 (c_md_list r1.2 (xs (v3 + 1).toNatClampNeg) (xs (v3 + 2).toNatClampNeg) (xs (v3 + 3).toNatClampNeg)) rc_62 rfl rfl (Nat.le_of_ble_eq_true rfl) (sg_fitW (by decide) (Nat.le_of_ble_eq_true rfl)) (fun r2 => ?_)
  refine evz_icmp_eq iL_law_258 ?_ ?_
  · refine evz_iinc (v := (v3 + 6)) (ls2 := [some (.ref 99), some (.ref 0), some (.ref 62), some (.int (v3 + 6))]) iL_law_1580 rfl (by rw [kI_6]) (Nat.le_of_ble_eq_true rfl) rfl rfl ?_
    refine evz_goto iL_law_1583 ?_
    exact evz_exit rfl ⟨rfl, rfl, rfl, rfl, trivial⟩
  · refine evz_iconst iL_law_261 kI_0 ?_
    exact evz_iret iL_law_262 rfl (fun ty _ => nar0 ty)
def lw_fun_18_J263 (σ : sg_S) (L : Nat) (xs : Nat → Int32)  (v3 : Int32) : Option ((Int32 × sg_S) ⊕ (sg_S ⊕ (Int32 × sg_S))) :=
  (if sg_in (v3 + 1) L = true then ((ns_listed σ (xs (v3 + 1).toNatClampNeg)).bind fun r3 => (if sg_in (v3 + 1) L = true then ((md_listed r3.2 (xs (v3 + 1).toNatClampNeg)).bind fun r4 => (if r3.1 = r4.1 then some (.inl ((v3 + 6), r4.2)) else some (.inr (.inr (0, r4.2))))) else none)) else none)
set_option maxRecDepth 100000 in
set_option maxHeartbeats 20000000 in
theorem e_lw_fun_18_J263 (σ : sg_S) (L : Nat) (xs : Nat → Int32)  (v3 : Int32)  : EvZ (L, xs) mL_law room_1 263 [some (.ref 99), some (.ref 0), some (.ref 62), some (.int v3)] [] σ (lw_fun_18_X σ L xs ) (lw_fun_18_J263 σ L xs  v3) := by
  unfold lw_fun_18_J263
  refine evz_aload_n iL_law_263 rfl (by decide) rfl ?_
  refine evz_aload_n iL_law_264 rfl (by decide) rfl ?_
  refine evz_iload_n iL_law_265 rfl rfl ?_
  refine evz_iconst iL_law_266 kI_1 ?_
  refine evz_iadd iL_law_267 ?_
  refine evz_sald iL_law_268 ?_
  refine evz_VMI iL_law_269 kV_L_18 (c_ns_listed σ (xs (v3 + 1).toNatClampNeg)) rc_0 rfl rfl (Nat.le_of_ble_eq_true rfl) (sg_fitW (by decide) (Nat.le_of_ble_eq_true rfl)) (fun r3 => ?_)
  refine evz_aload_n iL_law_272 rfl (by decide) rfl ?_
  refine evz_aload_n iL_law_273 rfl (by decide) rfl ?_
  refine evz_iload_n iL_law_274 rfl rfl ?_
  refine evz_iconst iL_law_275 kI_1 ?_
  refine evz_iadd iL_law_276 ?_
  refine evz_sald iL_law_277 ?_
  refine evz_VMI iL_law_278 kV_L_22 (c_md_listed r3.2 (xs (v3 + 1).toNatClampNeg)) rc_62 rfl rfl (Nat.le_of_ble_eq_true rfl) (sg_fitW (by decide) (Nat.le_of_ble_eq_true rfl)) (fun r4 => ?_)
  refine evz_icmp_eq iL_law_281 ?_ ?_
  · refine evz_iinc (v := (v3 + 6)) (ls2 := [some (.ref 99), some (.ref 0), some (.ref 62), some (.int (v3 + 6))]) iL_law_1580 rfl (by rw [kI_6]) (Nat.le_of_ble_eq_true rfl) rfl rfl ?_
    refine evz_goto iL_law_1583 ?_
    exact evz_exit rfl ⟨rfl, rfl, rfl, rfl, trivial⟩
  · refine evz_iconst iL_law_284 kI_0 ?_
    exact evz_iret iL_law_285 rfl (fun ty _ => nar0 ty)
def lw_fun_18_J286 (σ : sg_S) (L : Nat) (xs : Nat → Int32)  (v3 : Int32) : Option ((Int32 × sg_S) ⊕ (sg_S ⊕ (Int32 × sg_S))) :=
  (if sg_in (v3 + 1) L = true then (if sg_in (v3 + 2) L = true then ((ns_person σ (xs (v3 + 1).toNatClampNeg) (xs (v3 + 2).toNatClampNeg)).bind fun r5 => (if sg_in (v3 + 1) L = true then (if sg_in (v3 + 2) L = true then ((md_person r5.2 (xs (v3 + 1).toNatClampNeg) (xs (v3 + 2).toNatClampNeg)).bind fun r6 => (if r5.1 = r6.1 then some (.inl ((v3 + 6), r6.2)) else some (.inr (.inr (0, r6.2))))) else none) else none)) else none) else none)
set_option maxRecDepth 100000 in
set_option maxHeartbeats 20000000 in
theorem e_lw_fun_18_J286 (σ : sg_S) (L : Nat) (xs : Nat → Int32)  (v3 : Int32)  : EvZ (L, xs) mL_law room_1 286 [some (.ref 99), some (.ref 0), some (.ref 62), some (.int v3)] [] σ (lw_fun_18_X σ L xs ) (lw_fun_18_J286 σ L xs  v3) := by
  unfold lw_fun_18_J286
  refine evz_aload_n iL_law_286 rfl (by decide) rfl ?_
  refine evz_aload_n iL_law_287 rfl (by decide) rfl ?_
  refine evz_iload_n iL_law_288 rfl rfl ?_
  refine evz_iconst iL_law_289 kI_1 ?_
  refine evz_iadd iL_law_290 ?_
  refine evz_sald iL_law_291 ?_
  refine evz_aload_n iL_law_292 rfl (by decide) rfl ?_
  refine evz_iload_n iL_law_293 rfl rfl ?_
  refine evz_iconst iL_law_294 kI_2 ?_
  refine evz_iadd iL_law_295 ?_
  refine evz_sald iL_law_296 ?_
  refine evz_VMI iL_law_297 kV_L_23 (c_ns_person σ (xs (v3 + 1).toNatClampNeg) (xs (v3 + 2).toNatClampNeg)) rc_0 rfl rfl (Nat.le_of_ble_eq_true rfl) (sg_fitW (by decide) (Nat.le_of_ble_eq_true rfl)) (fun r5 => ?_)
  refine evz_aload_n iL_law_300 rfl (by decide) rfl ?_
  refine evz_aload_n iL_law_301 rfl (by decide) rfl ?_
  refine evz_iload_n iL_law_302 rfl rfl ?_
  refine evz_iconst iL_law_303 kI_1 ?_
  refine evz_iadd iL_law_304 ?_
  refine evz_sald iL_law_305 ?_
  refine evz_aload_n iL_law_306 rfl (by decide) rfl ?_
  refine evz_iload_n iL_law_307 rfl rfl ?_
  refine evz_iconst iL_law_308 kI_2 ?_
  refine evz_iadd iL_law_309 ?_
  refine evz_sald iL_law_310 ?_
  refine evz_VMI iL_law_311 kV_L_27 (c_md_person r5.2 (xs (v3 + 1).toNatClampNeg) (xs (v3 + 2).toNatClampNeg)) rc_62 rfl rfl (Nat.le_of_ble_eq_true rfl) (sg_fitW (by decide) (Nat.le_of_ble_eq_true rfl)) (fun r6 => ?_)
  refine evz_icmp_eq iL_law_314 ?_ ?_
  · refine evz_iinc (v := (v3 + 6)) (ls2 := [some (.ref 99), some (.ref 0), some (.ref 62), some (.int (v3 + 6))]) iL_law_1580 rfl (by rw [kI_6]) (Nat.le_of_ble_eq_true rfl) rfl rfl ?_
    refine evz_goto iL_law_1583 ?_
    exact evz_exit rfl ⟨rfl, rfl, rfl, rfl, trivial⟩
  · refine evz_iconst iL_law_317 kI_0 ?_
    exact evz_iret iL_law_318 rfl (fun ty _ => nar0 ty)
def lw_fun_18_J319 (σ : sg_S) (L : Nat) (xs : Nat → Int32)  (v3 : Int32) : Option ((Int32 × sg_S) ⊕ (sg_S ⊕ (Int32 × sg_S))) :=
  (if sg_in (v3 + 1) L = true then (if sg_in (v3 + 2) L = true then (if sg_in (v3 + 3) L = true then ((ns_saying σ (xs (v3 + 1).toNatClampNeg) (xs (v3 + 2).toNatClampNeg) (xs (v3 + 3).toNatClampNeg)).bind fun r7 => (if sg_in (v3 + 1) L = true then (if sg_in (v3 + 2) L = true then (if sg_in (v3 + 3) L = true then ((md_saying r7.2 (xs (v3 + 1).toNatClampNeg) (xs (v3 + 2).toNatClampNeg) (xs (v3 + 3).toNatClampNeg)).bind fun r8 => (if r7.1 = r8.1 then some (.inl ((v3 + 6), r8.2)) else some (.inr (.inr (0, r8.2))))) else none) else none) else none)) else none) else none) else none)
set_option maxRecDepth 100000 in
set_option maxHeartbeats 20000000 in
theorem e_lw_fun_18_J319 (σ : sg_S) (L : Nat) (xs : Nat → Int32)  (v3 : Int32)  : EvZ (L, xs) mL_law room_1 319 [some (.ref 99), some (.ref 0), some (.ref 62), some (.int v3)] [] σ (lw_fun_18_X σ L xs ) (lw_fun_18_J319 σ L xs  v3) := by
  unfold lw_fun_18_J319
  refine evz_aload_n iL_law_319 rfl (by decide) rfl ?_
  refine evz_aload_n iL_law_320 rfl (by decide) rfl ?_
  refine evz_iload_n iL_law_321 rfl rfl ?_
  refine evz_iconst iL_law_322 kI_1 ?_
  refine evz_iadd iL_law_323 ?_
  refine evz_sald iL_law_324 ?_
  refine evz_aload_n iL_law_325 rfl (by decide) rfl ?_
  refine evz_iload_n iL_law_326 rfl rfl ?_
  refine evz_iconst iL_law_327 kI_2 ?_
  refine evz_iadd iL_law_328 ?_
  refine evz_sald iL_law_329 ?_
  refine evz_aload_n iL_law_330 rfl (by decide) rfl ?_
  refine evz_iload_n iL_law_331 rfl rfl ?_
  refine evz_iconst iL_law_332 kI_3 ?_
  refine evz_iadd iL_law_333 ?_
  refine evz_sald iL_law_334 ?_
  refine evz_VMI iL_law_335 kV_L_28 (c_ns_saying σ (xs (v3 + 1).toNatClampNeg) (xs (v3 + 2).toNatClampNeg) (xs (v3 + 3).toNatClampNeg)) rc_0 rfl rfl (Nat.le_of_ble_eq_true rfl) (sg_fitW (by decide) (Nat.le_of_ble_eq_true rfl)) (fun r7 => ?_)
  refine evz_aload_n iL_law_338 rfl (by decide) rfl ?_
  refine evz_aload_n iL_law_339 rfl (by decide) rfl ?_
  refine evz_iload_n iL_law_340 rfl rfl ?_
  refine evz_iconst iL_law_341 kI_1 ?_
  refine evz_iadd iL_law_342 ?_
  refine evz_sald iL_law_343 ?_
  refine evz_aload_n iL_law_344 rfl (by decide) rfl ?_
  refine evz_iload_n iL_law_345 rfl rfl ?_
  refine evz_iconst iL_law_346 kI_2 ?_
  refine evz_iadd iL_law_347 ?_
  refine evz_sald iL_law_348 ?_
  refine evz_aload_n iL_law_349 rfl (by decide) rfl ?_
  refine evz_iload_n iL_law_350 rfl rfl ?_
  refine evz_iconst iL_law_351 kI_3 ?_
  refine evz_iadd iL_law_352 ?_
  refine evz_sald iL_law_353 ?_
  refine evz_VMI iL_law_354 kV_L_31 (c_md_saying r7.2 (xs (v3 + 1).toNatClampNeg) (xs (v3 + 2).toNatClampNeg) (xs (v3 + 3).toNatClampNeg)) rc_62 rfl rfl (Nat.le_of_ble_eq_true rfl) (sg_fitW (by decide) (Nat.le_of_ble_eq_true rfl)) (fun r8 => ?_)
  refine evz_icmp_eq iL_law_357 ?_ ?_
  · refine evz_iinc (v := (v3 + 6)) (ls2 := [some (.ref 99), some (.ref 0), some (.ref 62), some (.int (v3 + 6))]) iL_law_1580 rfl (by rw [kI_6]) (Nat.le_of_ble_eq_true rfl) rfl rfl ?_
    refine evz_goto iL_law_1583 ?_
    exact evz_exit rfl ⟨rfl, rfl, rfl, rfl, trivial⟩
  · refine evz_iconst iL_law_360 kI_0 ?_
    exact evz_iret iL_law_361 rfl (fun ty _ => nar0 ty)
def lw_fun_18_J362 (σ : sg_S) (L : Nat) (xs : Nat → Int32)  (v3 : Int32) : Option ((Int32 × sg_S) ⊕ (sg_S ⊕ (Int32 × sg_S))) :=
  (if sg_in (v3 + 1) L = true then (if sg_in (v3 + 2) L = true then ((ns_of σ (xs (v3 + 1).toNatClampNeg) (xs (v3 + 2).toNatClampNeg)).bind fun r9 => (if sg_in (v3 + 1) L = true then (if sg_in (v3 + 2) L = true then ((md_of r9.2 (xs (v3 + 1).toNatClampNeg) (xs (v3 + 2).toNatClampNeg)).bind fun r10 => (if r9.1 = r10.1 then some (.inl ((v3 + 6), r10.2)) else some (.inr (.inr (0, r10.2))))) else none) else none)) else none) else none)
set_option maxRecDepth 100000 in
set_option maxHeartbeats 20000000 in
theorem e_lw_fun_18_J362 (σ : sg_S) (L : Nat) (xs : Nat → Int32)  (v3 : Int32)  : EvZ (L, xs) mL_law room_1 362 [some (.ref 99), some (.ref 0), some (.ref 62), some (.int v3)] [] σ (lw_fun_18_X σ L xs ) (lw_fun_18_J362 σ L xs  v3) := by
  unfold lw_fun_18_J362
  refine evz_aload_n iL_law_362 rfl (by decide) rfl ?_
  refine evz_aload_n iL_law_363 rfl (by decide) rfl ?_
  refine evz_iload_n iL_law_364 rfl rfl ?_
  refine evz_iconst iL_law_365 kI_1 ?_
  refine evz_iadd iL_law_366 ?_
  refine evz_sald iL_law_367 ?_
  refine evz_aload_n iL_law_368 rfl (by decide) rfl ?_
  refine evz_iload_n iL_law_369 rfl rfl ?_
  refine evz_iconst iL_law_370 kI_2 ?_
  refine evz_iadd iL_law_371 ?_
  refine evz_sald iL_law_372 ?_
  refine evz_VMI iL_law_373 kV_L_32 (c_ns_of σ (xs (v3 + 1).toNatClampNeg) (xs (v3 + 2).toNatClampNeg)) rc_0 rfl rfl (Nat.le_of_ble_eq_true rfl) (sg_fitW (by decide) (Nat.le_of_ble_eq_true rfl)) (fun r9 => ?_)
  refine evz_aload_n iL_law_376 rfl (by decide) rfl ?_
  refine evz_aload_n iL_law_377 rfl (by decide) rfl ?_
  refine evz_iload_n iL_law_378 rfl rfl ?_
  refine evz_iconst iL_law_379 kI_1 ?_
  refine evz_iadd iL_law_380 ?_
  refine evz_sald iL_law_381 ?_
  refine evz_aload_n iL_law_382 rfl (by decide) rfl ?_
  refine evz_iload_n iL_law_383 rfl rfl ?_
  refine evz_iconst iL_law_384 kI_2 ?_
  refine evz_iadd iL_law_385 ?_
  refine evz_sald iL_law_386 ?_
  refine evz_VMI iL_law_387 kV_L_35 (c_md_of r9.2 (xs (v3 + 1).toNatClampNeg) (xs (v3 + 2).toNatClampNeg)) rc_62 rfl rfl (Nat.le_of_ble_eq_true rfl) (sg_fitW (by decide) (Nat.le_of_ble_eq_true rfl)) (fun r10 => ?_)
  refine evz_icmp_eq iL_law_390 ?_ ?_
  · refine evz_iinc (v := (v3 + 6)) (ls2 := [some (.ref 99), some (.ref 0), some (.ref 62), some (.int (v3 + 6))]) iL_law_1580 rfl (by rw [kI_6]) (Nat.le_of_ble_eq_true rfl) rfl rfl ?_
    refine evz_goto iL_law_1583 ?_
    exact evz_exit rfl ⟨rfl, rfl, rfl, rfl, trivial⟩
  · refine evz_iconst iL_law_393 kI_0 ?_
    exact evz_iret iL_law_394 rfl (fun ty _ => nar0 ty)
def lw_fun_18_J395 (σ : sg_S) (L : Nat) (xs : Nat → Int32)  (v3 : Int32) : Option ((Int32 × sg_S) ⊕ (sg_S ⊕ (Int32 × sg_S))) :=
  (if sg_in (v3 + 1) L = true then (if sg_in (v3 + 2) L = true then (if sg_in (v3 + 3) L = true then ((ns_change σ (xs (v3 + 1).toNatClampNeg) (xs (v3 + 2).toNatClampNeg) (xs (v3 + 3).toNatClampNeg)).bind fun r11 => (if sg_in (v3 + 1) L = true then (if sg_in (v3 + 2) L = true then (if sg_in (v3 + 3) L = true then ((md_change r11.2 (xs (v3 + 1).toNatClampNeg) (xs (v3 + 2).toNatClampNeg) (xs (v3 + 3).toNatClampNeg)).bind fun r12 => (if r11.1 = r12.1 then some (.inl ((v3 + 6), r12.2)) else some (.inr (.inr (0, r12.2))))) else none) else none) else none)) else none) else none) else none)
set_option maxRecDepth 100000 in
set_option maxHeartbeats 20000000 in
theorem e_lw_fun_18_J395 (σ : sg_S) (L : Nat) (xs : Nat → Int32)  (v3 : Int32)  : EvZ (L, xs) mL_law room_1 395 [some (.ref 99), some (.ref 0), some (.ref 62), some (.int v3)] [] σ (lw_fun_18_X σ L xs ) (lw_fun_18_J395 σ L xs  v3) := by
  unfold lw_fun_18_J395
  refine evz_aload_n iL_law_395 rfl (by decide) rfl ?_
  refine evz_aload_n iL_law_396 rfl (by decide) rfl ?_
  refine evz_iload_n iL_law_397 rfl rfl ?_
  refine evz_iconst iL_law_398 kI_1 ?_
  refine evz_iadd iL_law_399 ?_
  refine evz_sald iL_law_400 ?_
  refine evz_aload_n iL_law_401 rfl (by decide) rfl ?_
  refine evz_iload_n iL_law_402 rfl rfl ?_
  refine evz_iconst iL_law_403 kI_2 ?_
  refine evz_iadd iL_law_404 ?_
  refine evz_sald iL_law_405 ?_
  refine evz_aload_n iL_law_406 rfl (by decide) rfl ?_
  refine evz_iload_n iL_law_407 rfl rfl ?_
  refine evz_iconst iL_law_408 kI_3 ?_
  refine evz_iadd iL_law_409 ?_
  refine evz_sald iL_law_410 ?_
  refine evz_VMI iL_law_411 kV_L_36 (c_ns_change σ (xs (v3 + 1).toNatClampNeg) (xs (v3 + 2).toNatClampNeg) (xs (v3 + 3).toNatClampNeg)) rc_0 rfl rfl (Nat.le_of_ble_eq_true rfl) (sg_fitW (by decide) (Nat.le_of_ble_eq_true rfl)) (fun r11 => ?_)
  refine evz_aload_n iL_law_414 rfl (by decide) rfl ?_
  refine evz_aload_n iL_law_415 rfl (by decide) rfl ?_
  refine evz_iload_n iL_law_416 rfl rfl ?_
  refine evz_iconst iL_law_417 kI_1 ?_
  refine evz_iadd iL_law_418 ?_
  refine evz_sald iL_law_419 ?_
  refine evz_aload_n iL_law_420 rfl (by decide) rfl ?_
  refine evz_iload_n iL_law_421 rfl rfl ?_
  refine evz_iconst iL_law_422 kI_2 ?_
  refine evz_iadd iL_law_423 ?_
  refine evz_sald iL_law_424 ?_
  refine evz_aload_n iL_law_425 rfl (by decide) rfl ?_
  refine evz_iload_n iL_law_426 rfl rfl ?_
  refine evz_iconst iL_law_427 kI_3 ?_
  refine evz_iadd iL_law_428 ?_
  refine evz_sald iL_law_429 ?_
  refine evz_VMI iL_law_430 kV_L_39 (c_md_change r11.2 (xs (v3 + 1).toNatClampNeg) (xs (v3 + 2).toNatClampNeg) (xs (v3 + 3).toNatClampNeg)) rc_62 rfl rfl (Nat.le_of_ble_eq_true rfl) (sg_fitW (by decide) (Nat.le_of_ble_eq_true rfl)) (fun r12 => ?_)
  refine evz_icmp_eq iL_law_433 ?_ ?_
  · refine evz_iinc (v := (v3 + 6)) (ls2 := [some (.ref 99), some (.ref 0), some (.ref 62), some (.int (v3 + 6))]) iL_law_1580 rfl (by rw [kI_6]) (Nat.le_of_ble_eq_true rfl) rfl rfl ?_
    refine evz_goto iL_law_1583 ?_
    exact evz_exit rfl ⟨rfl, rfl, rfl, rfl, trivial⟩
  · refine evz_iconst iL_law_436 kI_0 ?_
    exact evz_iret iL_law_437 rfl (fun ty _ => nar0 ty)
def lw_fun_18_J438 (σ : sg_S) (L : Nat) (xs : Nat → Int32)  (v3 : Int32) : Option ((Int32 × sg_S) ⊕ (sg_S ⊕ (Int32 × sg_S))) :=
  (if sg_in (v3 + 1) L = true then (if sg_in (v3 + 2) L = true then ((ns_ofSaying σ (xs (v3 + 1).toNatClampNeg) (xs (v3 + 2).toNatClampNeg)).bind fun r13 => (if sg_in (v3 + 1) L = true then (if sg_in (v3 + 2) L = true then ((md_ofSaying r13.2 (xs (v3 + 1).toNatClampNeg) (xs (v3 + 2).toNatClampNeg)).bind fun r14 => (if r13.1 = r14.1 then some (.inl ((v3 + 6), r14.2)) else some (.inr (.inr (0, r14.2))))) else none) else none)) else none) else none)
set_option maxRecDepth 100000 in
set_option maxHeartbeats 20000000 in
theorem e_lw_fun_18_J438 (σ : sg_S) (L : Nat) (xs : Nat → Int32)  (v3 : Int32)  : EvZ (L, xs) mL_law room_1 438 [some (.ref 99), some (.ref 0), some (.ref 62), some (.int v3)] [] σ (lw_fun_18_X σ L xs ) (lw_fun_18_J438 σ L xs  v3) := by
  unfold lw_fun_18_J438
  refine evz_aload_n iL_law_438 rfl (by decide) rfl ?_
  refine evz_aload_n iL_law_439 rfl (by decide) rfl ?_
  refine evz_iload_n iL_law_440 rfl rfl ?_
  refine evz_iconst iL_law_441 kI_1 ?_
  refine evz_iadd iL_law_442 ?_
  refine evz_sald iL_law_443 ?_
  refine evz_aload_n iL_law_444 rfl (by decide) rfl ?_
  refine evz_iload_n iL_law_445 rfl rfl ?_
  refine evz_iconst iL_law_446 kI_2 ?_
  refine evz_iadd iL_law_447 ?_
  refine evz_sald iL_law_448 ?_
  refine evz_VMI iL_law_449 kV_L_40 (c_ns_ofSaying σ (xs (v3 + 1).toNatClampNeg) (xs (v3 + 2).toNatClampNeg)) rc_0 rfl rfl (Nat.le_of_ble_eq_true rfl) (sg_fitW (by decide) (Nat.le_of_ble_eq_true rfl)) (fun r13 => ?_)
  refine evz_aload_n iL_law_452 rfl (by decide) rfl ?_
  refine evz_aload_n iL_law_453 rfl (by decide) rfl ?_
  refine evz_iload_n iL_law_454 rfl rfl ?_
  refine evz_iconst iL_law_455 kI_1 ?_
  refine evz_iadd iL_law_456 ?_
  refine evz_sald iL_law_457 ?_
  refine evz_aload_n iL_law_458 rfl (by decide) rfl ?_
  refine evz_iload_n iL_law_459 rfl rfl ?_
  refine evz_iconst iL_law_460 kI_2 ?_
  refine evz_iadd iL_law_461 ?_
  refine evz_sald iL_law_462 ?_
  refine evz_VMI iL_law_463 kV_L_43 (c_md_ofSaying r13.2 (xs (v3 + 1).toNatClampNeg) (xs (v3 + 2).toNatClampNeg)) rc_62 rfl rfl (Nat.le_of_ble_eq_true rfl) (sg_fitW (by decide) (Nat.le_of_ble_eq_true rfl)) (fun r14 => ?_)
  refine evz_icmp_eq iL_law_466 ?_ ?_
  · refine evz_iinc (v := (v3 + 6)) (ls2 := [some (.ref 99), some (.ref 0), some (.ref 62), some (.int (v3 + 6))]) iL_law_1580 rfl (by rw [kI_6]) (Nat.le_of_ble_eq_true rfl) rfl rfl ?_
    refine evz_goto iL_law_1583 ?_
    exact evz_exit rfl ⟨rfl, rfl, rfl, rfl, trivial⟩
  · refine evz_iconst iL_law_469 kI_0 ?_
    exact evz_iret iL_law_470 rfl (fun ty _ => nar0 ty)
def lw_fun_18_J471 (σ : sg_S) (L : Nat) (xs : Nat → Int32)  (v3 : Int32) : Option ((Int32 × sg_S) ⊕ (sg_S ⊕ (Int32 × sg_S))) :=
  (if sg_in (v3 + 1) L = true then (if sg_in (v3 + 2) L = true then (if sg_in (v3 + 3) L = true then ((ns_alter σ (xs (v3 + 1).toNatClampNeg) (xs (v3 + 2).toNatClampNeg) (xs (v3 + 3).toNatClampNeg)).bind fun r15 => (if sg_in (v3 + 1) L = true then (if sg_in (v3 + 2) L = true then (if sg_in (v3 + 3) L = true then ((md_alter r15.2 (xs (v3 + 1).toNatClampNeg) (xs (v3 + 2).toNatClampNeg) (xs (v3 + 3).toNatClampNeg)).bind fun r16 => (if r15.1 = r16.1 then some (.inl ((v3 + 6), r16.2)) else some (.inr (.inr (0, r16.2))))) else none) else none) else none)) else none) else none) else none)
set_option maxRecDepth 100000 in
set_option maxHeartbeats 20000000 in
theorem e_lw_fun_18_J471 (σ : sg_S) (L : Nat) (xs : Nat → Int32)  (v3 : Int32)  : EvZ (L, xs) mL_law room_1 471 [some (.ref 99), some (.ref 0), some (.ref 62), some (.int v3)] [] σ (lw_fun_18_X σ L xs ) (lw_fun_18_J471 σ L xs  v3) := by
  unfold lw_fun_18_J471
  refine evz_aload_n iL_law_471 rfl (by decide) rfl ?_
  refine evz_aload_n iL_law_472 rfl (by decide) rfl ?_
  refine evz_iload_n iL_law_473 rfl rfl ?_
  refine evz_iconst iL_law_474 kI_1 ?_
  refine evz_iadd iL_law_475 ?_
  refine evz_sald iL_law_476 ?_
  refine evz_aload_n iL_law_477 rfl (by decide) rfl ?_
  refine evz_iload_n iL_law_478 rfl rfl ?_
  refine evz_iconst iL_law_479 kI_2 ?_
  refine evz_iadd iL_law_480 ?_
  refine evz_sald iL_law_481 ?_
  refine evz_aload_n iL_law_482 rfl (by decide) rfl ?_
  refine evz_iload_n iL_law_483 rfl rfl ?_
  refine evz_iconst iL_law_484 kI_3 ?_
  refine evz_iadd iL_law_485 ?_
  refine evz_sald iL_law_486 ?_
  refine evz_VMI iL_law_487 kV_L_44 (c_ns_alter σ (xs (v3 + 1).toNatClampNeg) (xs (v3 + 2).toNatClampNeg) (xs (v3 + 3).toNatClampNeg)) rc_0 rfl rfl (Nat.le_of_ble_eq_true rfl) (sg_fitW (by decide) (Nat.le_of_ble_eq_true rfl)) (fun r15 => ?_)
  refine evz_aload_n iL_law_490 rfl (by decide) rfl ?_
  refine evz_aload_n iL_law_491 rfl (by decide) rfl ?_
  refine evz_iload_n iL_law_492 rfl rfl ?_
  refine evz_iconst iL_law_493 kI_1 ?_
  refine evz_iadd iL_law_494 ?_
  refine evz_sald iL_law_495 ?_
  refine evz_aload_n iL_law_496 rfl (by decide) rfl ?_
  refine evz_iload_n iL_law_497 rfl rfl ?_
  refine evz_iconst iL_law_498 kI_2 ?_
  refine evz_iadd iL_law_499 ?_
  refine evz_sald iL_law_500 ?_
  refine evz_aload_n iL_law_501 rfl (by decide) rfl ?_
  refine evz_iload_n iL_law_502 rfl rfl ?_
  refine evz_iconst iL_law_503 kI_3 ?_
  refine evz_iadd iL_law_504 ?_
  refine evz_sald iL_law_505 ?_
  refine evz_VMI iL_law_506 kV_L_47 (c_md_alter r15.2 (xs (v3 + 1).toNatClampNeg) (xs (v3 + 2).toNatClampNeg) (xs (v3 + 3).toNatClampNeg)) rc_62 rfl rfl (Nat.le_of_ble_eq_true rfl) (sg_fitW (by decide) (Nat.le_of_ble_eq_true rfl)) (fun r16 => ?_)
  refine evz_icmp_eq iL_law_509 ?_ ?_
  · refine evz_iinc (v := (v3 + 6)) (ls2 := [some (.ref 99), some (.ref 0), some (.ref 62), some (.int (v3 + 6))]) iL_law_1580 rfl (by rw [kI_6]) (Nat.le_of_ble_eq_true rfl) rfl rfl ?_
    refine evz_goto iL_law_1583 ?_
    exact evz_exit rfl ⟨rfl, rfl, rfl, rfl, trivial⟩
  · refine evz_iconst iL_law_512 kI_0 ?_
    exact evz_iret iL_law_513 rfl (fun ty _ => nar0 ty)
def lw_fun_18_J514 (σ : sg_S) (L : Nat) (xs : Nat → Int32)  (v3 : Int32) : Option ((Int32 × sg_S) ⊕ (sg_S ⊕ (Int32 × sg_S))) :=
  (if sg_in (v3 + 1) L = true then (if sg_in (v3 + 2) L = true then ((ns_from σ (xs (v3 + 1).toNatClampNeg) (xs (v3 + 2).toNatClampNeg)).bind fun r17 => (if sg_in (v3 + 1) L = true then (if sg_in (v3 + 2) L = true then ((md_from r17.2 (xs (v3 + 1).toNatClampNeg) (xs (v3 + 2).toNatClampNeg)).bind fun r18 => (if r17.1 = r18.1 then some (.inl ((v3 + 6), r18.2)) else some (.inr (.inr (0, r18.2))))) else none) else none)) else none) else none)
set_option maxRecDepth 100000 in
set_option maxHeartbeats 20000000 in
theorem e_lw_fun_18_J514 (σ : sg_S) (L : Nat) (xs : Nat → Int32)  (v3 : Int32)  : EvZ (L, xs) mL_law room_1 514 [some (.ref 99), some (.ref 0), some (.ref 62), some (.int v3)] [] σ (lw_fun_18_X σ L xs ) (lw_fun_18_J514 σ L xs  v3) := by
  unfold lw_fun_18_J514
  refine evz_aload_n iL_law_514 rfl (by decide) rfl ?_
  refine evz_aload_n iL_law_515 rfl (by decide) rfl ?_
  refine evz_iload_n iL_law_516 rfl rfl ?_
  refine evz_iconst iL_law_517 kI_1 ?_
  refine evz_iadd iL_law_518 ?_
  refine evz_sald iL_law_519 ?_
  refine evz_aload_n iL_law_520 rfl (by decide) rfl ?_
  refine evz_iload_n iL_law_521 rfl rfl ?_
  refine evz_iconst iL_law_522 kI_2 ?_
  refine evz_iadd iL_law_523 ?_
  refine evz_sald iL_law_524 ?_
  refine evz_VMI iL_law_525 kV_L_48 (c_ns_from σ (xs (v3 + 1).toNatClampNeg) (xs (v3 + 2).toNatClampNeg)) rc_0 rfl rfl (Nat.le_of_ble_eq_true rfl) (sg_fitW (by decide) (Nat.le_of_ble_eq_true rfl)) (fun r17 => ?_)
  refine evz_aload_n iL_law_528 rfl (by decide) rfl ?_
  refine evz_aload_n iL_law_529 rfl (by decide) rfl ?_
  refine evz_iload_n iL_law_530 rfl rfl ?_
  refine evz_iconst iL_law_531 kI_1 ?_
  refine evz_iadd iL_law_532 ?_
  refine evz_sald iL_law_533 ?_
  refine evz_aload_n iL_law_534 rfl (by decide) rfl ?_
  refine evz_iload_n iL_law_535 rfl rfl ?_
  refine evz_iconst iL_law_536 kI_2 ?_
  refine evz_iadd iL_law_537 ?_
  refine evz_sald iL_law_538 ?_
  refine evz_VMI iL_law_539 kV_L_51 (c_md_from r17.2 (xs (v3 + 1).toNatClampNeg) (xs (v3 + 2).toNatClampNeg)) rc_62 rfl rfl (Nat.le_of_ble_eq_true rfl) (sg_fitW (by decide) (Nat.le_of_ble_eq_true rfl)) (fun r18 => ?_)
  refine evz_icmp_eq iL_law_542 ?_ ?_
  · refine evz_iinc (v := (v3 + 6)) (ls2 := [some (.ref 99), some (.ref 0), some (.ref 62), some (.int (v3 + 6))]) iL_law_1580 rfl (by rw [kI_6]) (Nat.le_of_ble_eq_true rfl) rfl rfl ?_
    refine evz_goto iL_law_1583 ?_
    exact evz_exit rfl ⟨rfl, rfl, rfl, rfl, trivial⟩
  · refine evz_iconst iL_law_545 kI_0 ?_
    exact evz_iret iL_law_546 rfl (fun ty _ => nar0 ty)
def lw_fun_18_J547 (σ : sg_S) (L : Nat) (xs : Nat → Int32)  (v3 : Int32) : Option ((Int32 × sg_S) ⊕ (sg_S ⊕ (Int32 × sg_S))) :=
  (if sg_in (v3 + 1) L = true then (if sg_in (v3 + 2) L = true then ((ns_traced σ (xs (v3 + 1).toNatClampNeg) (xs (v3 + 2).toNatClampNeg)).bind fun r19 => (if sg_in (v3 + 1) L = true then (if sg_in (v3 + 2) L = true then ((md_traced r19.2 (xs (v3 + 1).toNatClampNeg) (xs (v3 + 2).toNatClampNeg)).bind fun r20 => (if r19.1 = r20.1 then some (.inl ((v3 + 6), r20.2)) else some (.inr (.inr (0, r20.2))))) else none) else none)) else none) else none)
set_option maxRecDepth 100000 in
set_option maxHeartbeats 20000000 in
theorem e_lw_fun_18_J547 (σ : sg_S) (L : Nat) (xs : Nat → Int32)  (v3 : Int32)  : EvZ (L, xs) mL_law room_1 547 [some (.ref 99), some (.ref 0), some (.ref 62), some (.int v3)] [] σ (lw_fun_18_X σ L xs ) (lw_fun_18_J547 σ L xs  v3) := by
  unfold lw_fun_18_J547
  refine evz_aload_n iL_law_547 rfl (by decide) rfl ?_
  refine evz_aload_n iL_law_548 rfl (by decide) rfl ?_
  refine evz_iload_n iL_law_549 rfl rfl ?_
  refine evz_iconst iL_law_550 kI_1 ?_
  refine evz_iadd iL_law_551 ?_
  refine evz_sald iL_law_552 ?_
  refine evz_aload_n iL_law_553 rfl (by decide) rfl ?_
  refine evz_iload_n iL_law_554 rfl rfl ?_
  refine evz_iconst iL_law_555 kI_2 ?_
  refine evz_iadd iL_law_556 ?_
  refine evz_sald iL_law_557 ?_
  refine evz_VMI iL_law_558 kV_L_52 (c_ns_traced σ (xs (v3 + 1).toNatClampNeg) (xs (v3 + 2).toNatClampNeg)) rc_0 rfl rfl (Nat.le_of_ble_eq_true rfl) (sg_fitW (by decide) (Nat.le_of_ble_eq_true rfl)) (fun r19 => ?_)
  refine evz_aload_n iL_law_561 rfl (by decide) rfl ?_
  refine evz_aload_n iL_law_562 rfl (by decide) rfl ?_
  refine evz_iload_n iL_law_563 rfl rfl ?_
  refine evz_iconst iL_law_564 kI_1 ?_
  refine evz_iadd iL_law_565 ?_
  refine evz_sald iL_law_566 ?_
  refine evz_aload_n iL_law_567 rfl (by decide) rfl ?_
  refine evz_iload_n iL_law_568 rfl rfl ?_
  refine evz_iconst iL_law_569 kI_2 ?_
  refine evz_iadd iL_law_570 ?_
  refine evz_sald iL_law_571 ?_
  refine evz_VMI iL_law_572 kV_L_55 (c_md_traced r19.2 (xs (v3 + 1).toNatClampNeg) (xs (v3 + 2).toNatClampNeg)) rc_62 rfl rfl (Nat.le_of_ble_eq_true rfl) (sg_fitW (by decide) (Nat.le_of_ble_eq_true rfl)) (fun r20 => ?_)
  refine evz_icmp_eq iL_law_575 ?_ ?_
  · refine evz_iinc (v := (v3 + 6)) (ls2 := [some (.ref 99), some (.ref 0), some (.ref 62), some (.int (v3 + 6))]) iL_law_1580 rfl (by rw [kI_6]) (Nat.le_of_ble_eq_true rfl) rfl rfl ?_
    refine evz_goto iL_law_1583 ?_
    exact evz_exit rfl ⟨rfl, rfl, rfl, rfl, trivial⟩
  · refine evz_iconst iL_law_578 kI_0 ?_
    exact evz_iret iL_law_579 rfl (fun ty _ => nar0 ty)
def lw_fun_18_J580 (σ : sg_S) (L : Nat) (xs : Nat → Int32)  (v3 : Int32) : Option ((Int32 × sg_S) ⊕ (sg_S ⊕ (Int32 × sg_S))) :=
  (if sg_in (v3 + 1) L = true then (if sg_in (v3 + 2) L = true then ((ns_talk σ (xs (v3 + 1).toNatClampNeg) (xs (v3 + 2).toNatClampNeg)).bind fun r21 => (if sg_in (v3 + 1) L = true then (if sg_in (v3 + 2) L = true then ((md_talk r21.2 (xs (v3 + 1).toNatClampNeg) (xs (v3 + 2).toNatClampNeg)).bind fun r22 => (if r21.1 = r22.1 then some (.inl ((v3 + 6), r22.2)) else some (.inr (.inr (0, r22.2))))) else none) else none)) else none) else none)
set_option maxRecDepth 100000 in
set_option maxHeartbeats 20000000 in
theorem e_lw_fun_18_J580 (σ : sg_S) (L : Nat) (xs : Nat → Int32)  (v3 : Int32)  : EvZ (L, xs) mL_law room_1 580 [some (.ref 99), some (.ref 0), some (.ref 62), some (.int v3)] [] σ (lw_fun_18_X σ L xs ) (lw_fun_18_J580 σ L xs  v3) := by
  unfold lw_fun_18_J580
  refine evz_aload_n iL_law_580 rfl (by decide) rfl ?_
  refine evz_aload_n iL_law_581 rfl (by decide) rfl ?_
  refine evz_iload_n iL_law_582 rfl rfl ?_
  refine evz_iconst iL_law_583 kI_1 ?_
  refine evz_iadd iL_law_584 ?_
  refine evz_sald iL_law_585 ?_
  refine evz_aload_n iL_law_586 rfl (by decide) rfl ?_
  refine evz_iload_n iL_law_587 rfl rfl ?_
  refine evz_iconst iL_law_588 kI_2 ?_
  refine evz_iadd iL_law_589 ?_
  refine evz_sald iL_law_590 ?_
  refine evz_VMI iL_law_591 kV_L_56 (c_ns_talk σ (xs (v3 + 1).toNatClampNeg) (xs (v3 + 2).toNatClampNeg)) rc_0 rfl rfl (Nat.le_of_ble_eq_true rfl) (sg_fitW (by decide) (Nat.le_of_ble_eq_true rfl)) (fun r21 => ?_)
  refine evz_aload_n iL_law_594 rfl (by decide) rfl ?_
  refine evz_aload_n iL_law_595 rfl (by decide) rfl ?_
  refine evz_iload_n iL_law_596 rfl rfl ?_
  refine evz_iconst iL_law_597 kI_1 ?_
  refine evz_iadd iL_law_598 ?_
  refine evz_sald iL_law_599 ?_
  refine evz_aload_n iL_law_600 rfl (by decide) rfl ?_
  refine evz_iload_n iL_law_601 rfl rfl ?_
  refine evz_iconst iL_law_602 kI_2 ?_
  refine evz_iadd iL_law_603 ?_
  refine evz_sald iL_law_604 ?_
  refine evz_VMI iL_law_605 kV_L_59 (c_md_talk r21.2 (xs (v3 + 1).toNatClampNeg) (xs (v3 + 2).toNatClampNeg)) rc_62 rfl rfl (Nat.le_of_ble_eq_true rfl) (sg_fitW (by decide) (Nat.le_of_ble_eq_true rfl)) (fun r22 => ?_)
  refine evz_icmp_eq iL_law_608 ?_ ?_
  · refine evz_iinc (v := (v3 + 6)) (ls2 := [some (.ref 99), some (.ref 0), some (.ref 62), some (.int (v3 + 6))]) iL_law_1580 rfl (by rw [kI_6]) (Nat.le_of_ble_eq_true rfl) rfl rfl ?_
    refine evz_goto iL_law_1583 ?_
    exact evz_exit rfl ⟨rfl, rfl, rfl, rfl, trivial⟩
  · refine evz_iconst iL_law_611 kI_0 ?_
    exact evz_iret iL_law_612 rfl (fun ty _ => nar0 ty)
def lw_fun_18_J613 (σ : sg_S) (L : Nat) (xs : Nat → Int32)  (v3 : Int32) : Option ((Int32 × sg_S) ⊕ (sg_S ⊕ (Int32 × sg_S))) :=
  (if sg_in (v3 + 1) L = true then ((ns_go σ (xs (v3 + 1).toNatClampNeg)).bind fun r23 => (if sg_in (v3 + 1) L = true then ((md_go r23.2 (xs (v3 + 1).toNatClampNeg)).bind fun r24 => (if r23.1 = r24.1 then some (.inl ((v3 + 6), r24.2)) else some (.inr (.inr (0, r24.2))))) else none)) else none)
set_option maxRecDepth 100000 in
set_option maxHeartbeats 20000000 in
theorem e_lw_fun_18_J613 (σ : sg_S) (L : Nat) (xs : Nat → Int32)  (v3 : Int32)  : EvZ (L, xs) mL_law room_1 613 [some (.ref 99), some (.ref 0), some (.ref 62), some (.int v3)] [] σ (lw_fun_18_X σ L xs ) (lw_fun_18_J613 σ L xs  v3) := by
  unfold lw_fun_18_J613
  refine evz_aload_n iL_law_613 rfl (by decide) rfl ?_
  refine evz_aload_n iL_law_614 rfl (by decide) rfl ?_
  refine evz_iload_n iL_law_615 rfl rfl ?_
  refine evz_iconst iL_law_616 kI_1 ?_
  refine evz_iadd iL_law_617 ?_
  refine evz_sald iL_law_618 ?_
  refine evz_VMI iL_law_619 kV_L_60 (c_ns_go σ (xs (v3 + 1).toNatClampNeg)) rc_0 rfl rfl (Nat.le_of_ble_eq_true rfl) (sg_fitW (by decide) (Nat.le_of_ble_eq_true rfl)) (fun r23 => ?_)
  refine evz_aload_n iL_law_622 rfl (by decide) rfl ?_
  refine evz_aload_n iL_law_623 rfl (by decide) rfl ?_
  refine evz_iload_n iL_law_624 rfl rfl ?_
  refine evz_iconst iL_law_625 kI_1 ?_
  refine evz_iadd iL_law_626 ?_
  refine evz_sald iL_law_627 ?_
  refine evz_VMI iL_law_628 kV_L_63 (c_md_go r23.2 (xs (v3 + 1).toNatClampNeg)) rc_62 rfl rfl (Nat.le_of_ble_eq_true rfl) (sg_fitW (by decide) (Nat.le_of_ble_eq_true rfl)) (fun r24 => ?_)
  refine evz_icmp_eq iL_law_631 ?_ ?_
  · refine evz_iinc (v := (v3 + 6)) (ls2 := [some (.ref 99), some (.ref 0), some (.ref 62), some (.int (v3 + 6))]) iL_law_1580 rfl (by rw [kI_6]) (Nat.le_of_ble_eq_true rfl) rfl rfl ?_
    refine evz_goto iL_law_1583 ?_
    exact evz_exit rfl ⟨rfl, rfl, rfl, rfl, trivial⟩
  · refine evz_iconst iL_law_634 kI_0 ?_
    exact evz_iret iL_law_635 rfl (fun ty _ => nar0 ty)
def lw_fun_18_J636 (σ : sg_S) (L : Nat) (xs : Nat → Int32)  (v3 : Int32) : Option ((Int32 × sg_S) ⊕ (sg_S ⊕ (Int32 × sg_S))) :=
  (if sg_in (v3 + 1) L = true then ((ns_now σ (xs (v3 + 1).toNatClampNeg)).bind fun r25 => (if sg_in (v3 + 1) L = true then ((md_now r25.2 (xs (v3 + 1).toNatClampNeg)).bind fun r26 => (if r25.1 = r26.1 then some (.inl ((v3 + 6), r26.2)) else some (.inr (.inr (0, r26.2))))) else none)) else none)
set_option maxRecDepth 100000 in
set_option maxHeartbeats 20000000 in
theorem e_lw_fun_18_J636 (σ : sg_S) (L : Nat) (xs : Nat → Int32)  (v3 : Int32)  : EvZ (L, xs) mL_law room_1 636 [some (.ref 99), some (.ref 0), some (.ref 62), some (.int v3)] [] σ (lw_fun_18_X σ L xs ) (lw_fun_18_J636 σ L xs  v3) := by
  unfold lw_fun_18_J636
  refine evz_aload_n iL_law_636 rfl (by decide) rfl ?_
  refine evz_aload_n iL_law_637 rfl (by decide) rfl ?_
  refine evz_iload_n iL_law_638 rfl rfl ?_
  refine evz_iconst iL_law_639 kI_1 ?_
  refine evz_iadd iL_law_640 ?_
  refine evz_sald iL_law_641 ?_
  refine evz_VMI iL_law_642 kV_L_64 (c_ns_now σ (xs (v3 + 1).toNatClampNeg)) rc_0 rfl rfl (Nat.le_of_ble_eq_true rfl) (sg_fitW (by decide) (Nat.le_of_ble_eq_true rfl)) (fun r25 => ?_)
  refine evz_aload_n iL_law_645 rfl (by decide) rfl ?_
  refine evz_aload_n iL_law_646 rfl (by decide) rfl ?_
  refine evz_iload_n iL_law_647 rfl rfl ?_
  refine evz_iconst iL_law_648 kI_1 ?_
  refine evz_iadd iL_law_649 ?_
  refine evz_sald iL_law_650 ?_
  refine evz_VMI iL_law_651 kV_L_67 (c_md_now r25.2 (xs (v3 + 1).toNatClampNeg)) rc_62 rfl rfl (Nat.le_of_ble_eq_true rfl) (sg_fitW (by decide) (Nat.le_of_ble_eq_true rfl)) (fun r26 => ?_)
  refine evz_icmp_eq iL_law_654 ?_ ?_
  · refine evz_iinc (v := (v3 + 6)) (ls2 := [some (.ref 99), some (.ref 0), some (.ref 62), some (.int (v3 + 6))]) iL_law_1580 rfl (by rw [kI_6]) (Nat.le_of_ble_eq_true rfl) rfl rfl ?_
    refine evz_goto iL_law_1583 ?_
    exact evz_exit rfl ⟨rfl, rfl, rfl, rfl, trivial⟩
  · refine evz_iconst iL_law_657 kI_0 ?_
    exact evz_iret iL_law_658 rfl (fun ty _ => nar0 ty)
def lw_fun_18_J659 (σ : sg_S) (L : Nat) (xs : Nat → Int32)  (v3 : Int32) : Option ((Int32 × sg_S) ⊕ (sg_S ⊕ (Int32 × sg_S))) :=
  (if sg_in (v3 + 1) L = true then (if sg_in (v3 + 2) L = true then (if sg_in (v3 + 3) L = true then ((ns_ahead σ (xs (v3 + 1).toNatClampNeg) (xs (v3 + 2).toNatClampNeg) (xs (v3 + 3).toNatClampNeg)).bind fun r27 => (if sg_in (v3 + 1) L = true then (if sg_in (v3 + 2) L = true then (if sg_in (v3 + 3) L = true then ((md_ahead r27.2 (xs (v3 + 1).toNatClampNeg) (xs (v3 + 2).toNatClampNeg) (xs (v3 + 3).toNatClampNeg)).bind fun r28 => (if r27.1 = r28.1 then some (.inl ((v3 + 6), r28.2)) else some (.inr (.inr (0, r28.2))))) else none) else none) else none)) else none) else none) else none)
set_option maxRecDepth 100000 in
set_option maxHeartbeats 20000000 in
theorem e_lw_fun_18_J659 (σ : sg_S) (L : Nat) (xs : Nat → Int32)  (v3 : Int32)  : EvZ (L, xs) mL_law room_1 659 [some (.ref 99), some (.ref 0), some (.ref 62), some (.int v3)] [] σ (lw_fun_18_X σ L xs ) (lw_fun_18_J659 σ L xs  v3) := by
  unfold lw_fun_18_J659
  refine evz_aload_n iL_law_659 rfl (by decide) rfl ?_
  refine evz_aload_n iL_law_660 rfl (by decide) rfl ?_
  refine evz_iload_n iL_law_661 rfl rfl ?_
  refine evz_iconst iL_law_662 kI_1 ?_
  refine evz_iadd iL_law_663 ?_
  refine evz_sald iL_law_664 ?_
  refine evz_aload_n iL_law_665 rfl (by decide) rfl ?_
  refine evz_iload_n iL_law_666 rfl rfl ?_
  refine evz_iconst iL_law_667 kI_2 ?_
  refine evz_iadd iL_law_668 ?_
  refine evz_sald iL_law_669 ?_
  refine evz_aload_n iL_law_670 rfl (by decide) rfl ?_
  refine evz_iload_n iL_law_671 rfl rfl ?_
  refine evz_iconst iL_law_672 kI_3 ?_
  refine evz_iadd iL_law_673 ?_
  refine evz_sald iL_law_674 ?_
  refine evz_VMI iL_law_675 kV_L_68 (c_ns_ahead σ (xs (v3 + 1).toNatClampNeg) (xs (v3 + 2).toNatClampNeg) (xs (v3 + 3).toNatClampNeg)) rc_0 rfl rfl (Nat.le_of_ble_eq_true rfl) (sg_fitW (by decide) (Nat.le_of_ble_eq_true rfl)) (fun r27 => ?_)
  refine evz_aload_n iL_law_678 rfl (by decide) rfl ?_
  refine evz_aload_n iL_law_679 rfl (by decide) rfl ?_
  refine evz_iload_n iL_law_680 rfl rfl ?_
  refine evz_iconst iL_law_681 kI_1 ?_
  refine evz_iadd iL_law_682 ?_
  refine evz_sald iL_law_683 ?_
  refine evz_aload_n iL_law_684 rfl (by decide) rfl ?_
  refine evz_iload_n iL_law_685 rfl rfl ?_
  refine evz_iconst iL_law_686 kI_2 ?_
  refine evz_iadd iL_law_687 ?_
  refine evz_sald iL_law_688 ?_
  refine evz_aload_n iL_law_689 rfl (by decide) rfl ?_
  refine evz_iload_n iL_law_690 rfl rfl ?_
  refine evz_iconst iL_law_691 kI_3 ?_
  refine evz_iadd iL_law_692 ?_
  refine evz_sald iL_law_693 ?_
  refine evz_VMI iL_law_694 kV_L_71 (c_md_ahead r27.2 (xs (v3 + 1).toNatClampNeg) (xs (v3 + 2).toNatClampNeg) (xs (v3 + 3).toNatClampNeg)) rc_62 rfl rfl (Nat.le_of_ble_eq_true rfl) (sg_fitW (by decide) (Nat.le_of_ble_eq_true rfl)) (fun r28 => ?_)
  refine evz_icmp_eq iL_law_697 ?_ ?_
  · refine evz_iinc (v := (v3 + 6)) (ls2 := [some (.ref 99), some (.ref 0), some (.ref 62), some (.int (v3 + 6))]) iL_law_1580 rfl (by rw [kI_6]) (Nat.le_of_ble_eq_true rfl) rfl rfl ?_
    refine evz_goto iL_law_1583 ?_
    exact evz_exit rfl ⟨rfl, rfl, rfl, rfl, trivial⟩
  · refine evz_iconst iL_law_700 kI_0 ?_
    exact evz_iret iL_law_701 rfl (fun ty _ => nar0 ty)
def lw_fun_18_J702 (σ : sg_S) (L : Nat) (xs : Nat → Int32)  (v3 : Int32) : Option ((Int32 × sg_S) ⊕ (sg_S ⊕ (Int32 × sg_S))) :=
  (if sg_in (v3 + 1) L = true then (if sg_in (v3 + 2) L = true then ((ns_spread σ (xs (v3 + 1).toNatClampNeg) (xs (v3 + 2).toNatClampNeg)).bind fun r29 => (if sg_in (v3 + 1) L = true then (if sg_in (v3 + 2) L = true then ((md_spread r29.2 (xs (v3 + 1).toNatClampNeg) (xs (v3 + 2).toNatClampNeg)).bind fun r30 => (if r29.1 = r30.1 then some (.inl ((v3 + 6), r30.2)) else some (.inr (.inr (0, r30.2))))) else none) else none)) else none) else none)
set_option maxRecDepth 100000 in
set_option maxHeartbeats 20000000 in
theorem e_lw_fun_18_J702 (σ : sg_S) (L : Nat) (xs : Nat → Int32)  (v3 : Int32)  : EvZ (L, xs) mL_law room_1 702 [some (.ref 99), some (.ref 0), some (.ref 62), some (.int v3)] [] σ (lw_fun_18_X σ L xs ) (lw_fun_18_J702 σ L xs  v3) := by
  unfold lw_fun_18_J702
  refine evz_aload_n iL_law_702 rfl (by decide) rfl ?_
  refine evz_aload_n iL_law_703 rfl (by decide) rfl ?_
  refine evz_iload_n iL_law_704 rfl rfl ?_
  refine evz_iconst iL_law_705 kI_1 ?_
  refine evz_iadd iL_law_706 ?_
  refine evz_sald iL_law_707 ?_
  refine evz_aload_n iL_law_708 rfl (by decide) rfl ?_
  refine evz_iload_n iL_law_709 rfl rfl ?_
  refine evz_iconst iL_law_710 kI_2 ?_
  refine evz_iadd iL_law_711 ?_
  refine evz_sald iL_law_712 ?_
  refine evz_VMI iL_law_713 kV_L_72 (c_ns_spread σ (xs (v3 + 1).toNatClampNeg) (xs (v3 + 2).toNatClampNeg)) rc_0 rfl rfl (Nat.le_of_ble_eq_true rfl) (sg_fitW (by decide) (Nat.le_of_ble_eq_true rfl)) (fun r29 => ?_)
  refine evz_aload_n iL_law_716 rfl (by decide) rfl ?_
  refine evz_aload_n iL_law_717 rfl (by decide) rfl ?_
  refine evz_iload_n iL_law_718 rfl rfl ?_
  refine evz_iconst iL_law_719 kI_1 ?_
  refine evz_iadd iL_law_720 ?_
  refine evz_sald iL_law_721 ?_
  refine evz_aload_n iL_law_722 rfl (by decide) rfl ?_
  refine evz_iload_n iL_law_723 rfl rfl ?_
  refine evz_iconst iL_law_724 kI_2 ?_
  refine evz_iadd iL_law_725 ?_
  refine evz_sald iL_law_726 ?_
  refine evz_VMI iL_law_727 kV_L_75 (c_md_spread r29.2 (xs (v3 + 1).toNatClampNeg) (xs (v3 + 2).toNatClampNeg)) rc_62 rfl rfl (Nat.le_of_ble_eq_true rfl) (sg_fitW (by decide) (Nat.le_of_ble_eq_true rfl)) (fun r30 => ?_)
  refine evz_icmp_eq iL_law_730 ?_ ?_
  · refine evz_iinc (v := (v3 + 6)) (ls2 := [some (.ref 99), some (.ref 0), some (.ref 62), some (.int (v3 + 6))]) iL_law_1580 rfl (by rw [kI_6]) (Nat.le_of_ble_eq_true rfl) rfl rfl ?_
    refine evz_goto iL_law_1583 ?_
    exact evz_exit rfl ⟨rfl, rfl, rfl, rfl, trivial⟩
  · refine evz_iconst iL_law_733 kI_0 ?_
    exact evz_iret iL_law_734 rfl (fun ty _ => nar0 ty)
def lw_fun_18_J735 (σ : sg_S) (L : Nat) (xs : Nat → Int32)  (v3 : Int32) : Option ((Int32 × sg_S) ⊕ (sg_S ⊕ (Int32 × sg_S))) :=
  (if sg_in (v3 + 1) L = true then (if sg_in (v3 + 2) L = true then ((ns_when σ (xs (v3 + 1).toNatClampNeg) (xs (v3 + 2).toNatClampNeg)).bind fun r31 => (if sg_in (v3 + 1) L = true then (if sg_in (v3 + 2) L = true then ((md_when r31.2 (xs (v3 + 1).toNatClampNeg) (xs (v3 + 2).toNatClampNeg)).bind fun r32 => (if r31.1 = r32.1 then some (.inl ((v3 + 6), r32.2)) else some (.inr (.inr (0, r32.2))))) else none) else none)) else none) else none)
set_option maxRecDepth 100000 in
set_option maxHeartbeats 20000000 in
theorem e_lw_fun_18_J735 (σ : sg_S) (L : Nat) (xs : Nat → Int32)  (v3 : Int32)  : EvZ (L, xs) mL_law room_1 735 [some (.ref 99), some (.ref 0), some (.ref 62), some (.int v3)] [] σ (lw_fun_18_X σ L xs ) (lw_fun_18_J735 σ L xs  v3) := by
  unfold lw_fun_18_J735
  refine evz_aload_n iL_law_735 rfl (by decide) rfl ?_
  refine evz_aload_n iL_law_736 rfl (by decide) rfl ?_
  refine evz_iload_n iL_law_737 rfl rfl ?_
  refine evz_iconst iL_law_738 kI_1 ?_
  refine evz_iadd iL_law_739 ?_
  refine evz_sald iL_law_740 ?_
  refine evz_aload_n iL_law_741 rfl (by decide) rfl ?_
  refine evz_iload_n iL_law_742 rfl rfl ?_
  refine evz_iconst iL_law_743 kI_2 ?_
  refine evz_iadd iL_law_744 ?_
  refine evz_sald iL_law_745 ?_
  refine evz_VMI iL_law_746 kV_L_76 (c_ns_when σ (xs (v3 + 1).toNatClampNeg) (xs (v3 + 2).toNatClampNeg)) rc_0 rfl rfl (Nat.le_of_ble_eq_true rfl) (sg_fitW (by decide) (Nat.le_of_ble_eq_true rfl)) (fun r31 => ?_)
  refine evz_aload_n iL_law_749 rfl (by decide) rfl ?_
  refine evz_aload_n iL_law_750 rfl (by decide) rfl ?_
  refine evz_iload_n iL_law_751 rfl rfl ?_
  refine evz_iconst iL_law_752 kI_1 ?_
  refine evz_iadd iL_law_753 ?_
  refine evz_sald iL_law_754 ?_
  refine evz_aload_n iL_law_755 rfl (by decide) rfl ?_
  refine evz_iload_n iL_law_756 rfl rfl ?_
  refine evz_iconst iL_law_757 kI_2 ?_
  refine evz_iadd iL_law_758 ?_
  refine evz_sald iL_law_759 ?_
  refine evz_VMI iL_law_760 kV_L_79 (c_md_when r31.2 (xs (v3 + 1).toNatClampNeg) (xs (v3 + 2).toNatClampNeg)) rc_62 rfl rfl (Nat.le_of_ble_eq_true rfl) (sg_fitW (by decide) (Nat.le_of_ble_eq_true rfl)) (fun r32 => ?_)
  refine evz_icmp_eq iL_law_763 ?_ ?_
  · refine evz_iinc (v := (v3 + 6)) (ls2 := [some (.ref 99), some (.ref 0), some (.ref 62), some (.int (v3 + 6))]) iL_law_1580 rfl (by rw [kI_6]) (Nat.le_of_ble_eq_true rfl) rfl rfl ?_
    refine evz_goto iL_law_1583 ?_
    exact evz_exit rfl ⟨rfl, rfl, rfl, rfl, trivial⟩
  · refine evz_iconst iL_law_766 kI_0 ?_
    exact evz_iret iL_law_767 rfl (fun ty _ => nar0 ty)
def lw_fun_18_J768 (σ : sg_S) (L : Nat) (xs : Nat → Int32)  (v3 : Int32) : Option ((Int32 × sg_S) ⊕ (sg_S ⊕ (Int32 × sg_S))) :=
  (if sg_in (v3 + 1) L = true then (if sg_in (v3 + 2) L = true then ((ns_blamed σ (xs (v3 + 1).toNatClampNeg) (xs (v3 + 2).toNatClampNeg)).bind fun r33 => (if sg_in (v3 + 1) L = true then (if sg_in (v3 + 2) L = true then ((md_blamed r33.2 (xs (v3 + 1).toNatClampNeg) (xs (v3 + 2).toNatClampNeg)).bind fun r34 => (if r33.1 = r34.1 then some (.inl ((v3 + 6), r34.2)) else some (.inr (.inr (0, r34.2))))) else none) else none)) else none) else none)
set_option maxRecDepth 100000 in
set_option maxHeartbeats 20000000 in
theorem e_lw_fun_18_J768 (σ : sg_S) (L : Nat) (xs : Nat → Int32)  (v3 : Int32)  : EvZ (L, xs) mL_law room_1 768 [some (.ref 99), some (.ref 0), some (.ref 62), some (.int v3)] [] σ (lw_fun_18_X σ L xs ) (lw_fun_18_J768 σ L xs  v3) := by
  unfold lw_fun_18_J768
  refine evz_aload_n iL_law_768 rfl (by decide) rfl ?_
  refine evz_aload_n iL_law_769 rfl (by decide) rfl ?_
  refine evz_iload_n iL_law_770 rfl rfl ?_
  refine evz_iconst iL_law_771 kI_1 ?_
  refine evz_iadd iL_law_772 ?_
  refine evz_sald iL_law_773 ?_
  refine evz_aload_n iL_law_774 rfl (by decide) rfl ?_
  refine evz_iload_n iL_law_775 rfl rfl ?_
  refine evz_iconst iL_law_776 kI_2 ?_
  refine evz_iadd iL_law_777 ?_
  refine evz_sald iL_law_778 ?_
  refine evz_VMI iL_law_779 kV_L_80 (c_ns_blamed σ (xs (v3 + 1).toNatClampNeg) (xs (v3 + 2).toNatClampNeg)) rc_0 rfl rfl (Nat.le_of_ble_eq_true rfl) (sg_fitW (by decide) (Nat.le_of_ble_eq_true rfl)) (fun r33 => ?_)
  refine evz_aload_n iL_law_782 rfl (by decide) rfl ?_
  refine evz_aload_n iL_law_783 rfl (by decide) rfl ?_
  refine evz_iload_n iL_law_784 rfl rfl ?_
  refine evz_iconst iL_law_785 kI_1 ?_
  refine evz_iadd iL_law_786 ?_
  refine evz_sald iL_law_787 ?_
  refine evz_aload_n iL_law_788 rfl (by decide) rfl ?_
  refine evz_iload_n iL_law_789 rfl rfl ?_
  refine evz_iconst iL_law_790 kI_2 ?_
  refine evz_iadd iL_law_791 ?_
  refine evz_sald iL_law_792 ?_
  refine evz_VMI iL_law_793 kV_L_83 (c_md_blamed r33.2 (xs (v3 + 1).toNatClampNeg) (xs (v3 + 2).toNatClampNeg)) rc_62 rfl rfl (Nat.le_of_ble_eq_true rfl) (sg_fitW (by decide) (Nat.le_of_ble_eq_true rfl)) (fun r34 => ?_)
  refine evz_icmp_eq iL_law_796 ?_ ?_
  · refine evz_iinc (v := (v3 + 6)) (ls2 := [some (.ref 99), some (.ref 0), some (.ref 62), some (.int (v3 + 6))]) iL_law_1580 rfl (by rw [kI_6]) (Nat.le_of_ble_eq_true rfl) rfl rfl ?_
    refine evz_goto iL_law_1583 ?_
    exact evz_exit rfl ⟨rfl, rfl, rfl, rfl, trivial⟩
  · refine evz_iconst iL_law_799 kI_0 ?_
    exact evz_iret iL_law_800 rfl (fun ty _ => nar0 ty)
def lw_fun_18_J801 (σ : sg_S) (L : Nat) (xs : Nat → Int32)  (v3 : Int32) : Option ((Int32 × sg_S) ⊕ (sg_S ⊕ (Int32 × sg_S))) :=
  (if sg_in (v3 + 1) L = true then ((ns_fund σ (xs (v3 + 1).toNatClampNeg)).bind fun r35 => (if sg_in (v3 + 1) L = true then ((md_fund r35.2 (xs (v3 + 1).toNatClampNeg)).bind fun r36 => (if r35.1 = r36.1 then some (.inl ((v3 + 6), r36.2)) else some (.inr (.inr (0, r36.2))))) else none)) else none)
set_option maxRecDepth 100000 in
set_option maxHeartbeats 20000000 in
theorem e_lw_fun_18_J801 (σ : sg_S) (L : Nat) (xs : Nat → Int32)  (v3 : Int32)  : EvZ (L, xs) mL_law room_1 801 [some (.ref 99), some (.ref 0), some (.ref 62), some (.int v3)] [] σ (lw_fun_18_X σ L xs ) (lw_fun_18_J801 σ L xs  v3) := by
  unfold lw_fun_18_J801
  refine evz_aload_n iL_law_801 rfl (by decide) rfl ?_
  refine evz_aload_n iL_law_802 rfl (by decide) rfl ?_
  refine evz_iload_n iL_law_803 rfl rfl ?_
  refine evz_iconst iL_law_804 kI_1 ?_
  refine evz_iadd iL_law_805 ?_
  refine evz_sald iL_law_806 ?_
  refine evz_VMI iL_law_807 kV_L_84 (c_ns_fund σ (xs (v3 + 1).toNatClampNeg)) rc_0 rfl rfl (Nat.le_of_ble_eq_true rfl) (sg_fitW (by decide) (Nat.le_of_ble_eq_true rfl)) (fun r35 => ?_)
  refine evz_aload_n iL_law_810 rfl (by decide) rfl ?_
  refine evz_aload_n iL_law_811 rfl (by decide) rfl ?_
  refine evz_iload_n iL_law_812 rfl rfl ?_
  refine evz_iconst iL_law_813 kI_1 ?_
  refine evz_iadd iL_law_814 ?_
  refine evz_sald iL_law_815 ?_
  refine evz_VMI iL_law_816 kV_L_87 (c_md_fund r35.2 (xs (v3 + 1).toNatClampNeg)) rc_62 rfl rfl (Nat.le_of_ble_eq_true rfl) (sg_fitW (by decide) (Nat.le_of_ble_eq_true rfl)) (fun r36 => ?_)
  refine evz_icmp_eq iL_law_819 ?_ ?_
  · refine evz_iinc (v := (v3 + 6)) (ls2 := [some (.ref 99), some (.ref 0), some (.ref 62), some (.int (v3 + 6))]) iL_law_1580 rfl (by rw [kI_6]) (Nat.le_of_ble_eq_true rfl) rfl rfl ?_
    refine evz_goto iL_law_1583 ?_
    exact evz_exit rfl ⟨rfl, rfl, rfl, rfl, trivial⟩
  · refine evz_iconst iL_law_822 kI_0 ?_
    exact evz_iret iL_law_823 rfl (fun ty _ => nar0 ty)
def lw_fun_18_J824 (σ : sg_S) (L : Nat) (xs : Nat → Int32)  (v3 : Int32) : Option ((Int32 × sg_S) ⊕ (sg_S ⊕ (Int32 × sg_S))) :=
  (if sg_in (v3 + 1) L = true then (if sg_in (v3 + 2) L = true then ((ns_beginner σ (xs (v3 + 1).toNatClampNeg) (xs (v3 + 2).toNatClampNeg)).bind fun r37 => (if sg_in (v3 + 1) L = true then (if sg_in (v3 + 2) L = true then ((md_beginner r37.2 (xs (v3 + 1).toNatClampNeg) (xs (v3 + 2).toNatClampNeg)).bind fun r38 => (if r37.1 = r38.1 then some (.inl ((v3 + 6), r38.2)) else some (.inr (.inr (0, r38.2))))) else none) else none)) else none) else none)
set_option maxRecDepth 100000 in
set_option maxHeartbeats 20000000 in
theorem e_lw_fun_18_J824 (σ : sg_S) (L : Nat) (xs : Nat → Int32)  (v3 : Int32)  : EvZ (L, xs) mL_law room_1 824 [some (.ref 99), some (.ref 0), some (.ref 62), some (.int v3)] [] σ (lw_fun_18_X σ L xs ) (lw_fun_18_J824 σ L xs  v3) := by
  unfold lw_fun_18_J824
  refine evz_aload_n iL_law_824 rfl (by decide) rfl ?_
  refine evz_aload_n iL_law_825 rfl (by decide) rfl ?_
  refine evz_iload_n iL_law_826 rfl rfl ?_
  refine evz_iconst iL_law_827 kI_1 ?_
  refine evz_iadd iL_law_828 ?_
  refine evz_sald iL_law_829 ?_
  refine evz_aload_n iL_law_830 rfl (by decide) rfl ?_
  refine evz_iload_n iL_law_831 rfl rfl ?_
  refine evz_iconst iL_law_832 kI_2 ?_
  refine evz_iadd iL_law_833 ?_
  refine evz_sald iL_law_834 ?_
  refine evz_VMI iL_law_835 kV_L_88 (c_ns_beginner σ (xs (v3 + 1).toNatClampNeg) (xs (v3 + 2).toNatClampNeg)) rc_0 rfl rfl (Nat.le_of_ble_eq_true rfl) (sg_fitW (by decide) (Nat.le_of_ble_eq_true rfl)) (fun r37 => ?_)
  refine evz_aload_n iL_law_838 rfl (by decide) rfl ?_
  refine evz_aload_n iL_law_839 rfl (by decide) rfl ?_
  refine evz_iload_n iL_law_840 rfl rfl ?_
  refine evz_iconst iL_law_841 kI_1 ?_
  refine evz_iadd iL_law_842 ?_
  refine evz_sald iL_law_843 ?_
  refine evz_aload_n iL_law_844 rfl (by decide) rfl ?_
  refine evz_iload_n iL_law_845 rfl rfl ?_
  refine evz_iconst iL_law_846 kI_2 ?_
  refine evz_iadd iL_law_847 ?_
  refine evz_sald iL_law_848 ?_
  refine evz_VMI iL_law_849 kV_L_91 (c_md_beginner r37.2 (xs (v3 + 1).toNatClampNeg) (xs (v3 + 2).toNatClampNeg)) rc_62 rfl rfl (Nat.le_of_ble_eq_true rfl) (sg_fitW (by decide) (Nat.le_of_ble_eq_true rfl)) (fun r38 => ?_)
  refine evz_icmp_eq iL_law_852 ?_ ?_
  · refine evz_iinc (v := (v3 + 6)) (ls2 := [some (.ref 99), some (.ref 0), some (.ref 62), some (.int (v3 + 6))]) iL_law_1580 rfl (by rw [kI_6]) (Nat.le_of_ble_eq_true rfl) rfl rfl ?_
    refine evz_goto iL_law_1583 ?_
    exact evz_exit rfl ⟨rfl, rfl, rfl, rfl, trivial⟩
  · refine evz_iconst iL_law_855 kI_0 ?_
    exact evz_iret iL_law_856 rfl (fun ty _ => nar0 ty)
def lw_fun_18_J857 (σ : sg_S) (L : Nat) (xs : Nat → Int32)  (v3 : Int32) : Option ((Int32 × sg_S) ⊕ (sg_S ⊕ (Int32 × sg_S))) :=
  (if sg_in (v3 + 1) L = true then (if sg_in (v3 + 2) L = true then ((ns_kindFor σ (xs (v3 + 1).toNatClampNeg) (xs (v3 + 2).toNatClampNeg)).bind fun r39 => (if sg_in (v3 + 1) L = true then (if sg_in (v3 + 2) L = true then ((md_kindFor r39.2 (xs (v3 + 1).toNatClampNeg) (xs (v3 + 2).toNatClampNeg)).bind fun r40 => (if r39.1 = r40.1 then some (.inl ((v3 + 6), r40.2)) else some (.inr (.inr (0, r40.2))))) else none) else none)) else none) else none)
set_option maxRecDepth 100000 in
set_option maxHeartbeats 20000000 in
theorem e_lw_fun_18_J857 (σ : sg_S) (L : Nat) (xs : Nat → Int32)  (v3 : Int32)  : EvZ (L, xs) mL_law room_1 857 [some (.ref 99), some (.ref 0), some (.ref 62), some (.int v3)] [] σ (lw_fun_18_X σ L xs ) (lw_fun_18_J857 σ L xs  v3) := by
  unfold lw_fun_18_J857
  refine evz_aload_n iL_law_857 rfl (by decide) rfl ?_
  refine evz_aload_n iL_law_858 rfl (by decide) rfl ?_
  refine evz_iload_n iL_law_859 rfl rfl ?_
  refine evz_iconst iL_law_860 kI_1 ?_
  refine evz_iadd iL_law_861 ?_
  refine evz_sald iL_law_862 ?_
  refine evz_aload_n iL_law_863 rfl (by decide) rfl ?_
  refine evz_iload_n iL_law_864 rfl rfl ?_
  refine evz_iconst iL_law_865 kI_2 ?_
  refine evz_iadd iL_law_866 ?_
  refine evz_sald iL_law_867 ?_
  refine evz_VMI iL_law_868 kV_L_92 (c_ns_kindFor σ (xs (v3 + 1).toNatClampNeg) (xs (v3 + 2).toNatClampNeg)) rc_0 rfl rfl (Nat.le_of_ble_eq_true rfl) (sg_fitW (by decide) (Nat.le_of_ble_eq_true rfl)) (fun r39 => ?_)
  refine evz_aload_n iL_law_871 rfl (by decide) rfl ?_
  refine evz_aload_n iL_law_872 rfl (by decide) rfl ?_
  refine evz_iload_n iL_law_873 rfl rfl ?_
  refine evz_iconst iL_law_874 kI_1 ?_
  refine evz_iadd iL_law_875 ?_
  refine evz_sald iL_law_876 ?_
  refine evz_aload_n iL_law_877 rfl (by decide) rfl ?_
  refine evz_iload_n iL_law_878 rfl rfl ?_
  refine evz_iconst iL_law_879 kI_2 ?_
  refine evz_iadd iL_law_880 ?_
  refine evz_sald iL_law_881 ?_
  refine evz_VMI iL_law_882 kV_L_95 (c_md_kindFor r39.2 (xs (v3 + 1).toNatClampNeg) (xs (v3 + 2).toNatClampNeg)) rc_62 rfl rfl (Nat.le_of_ble_eq_true rfl) (sg_fitW (by decide) (Nat.le_of_ble_eq_true rfl)) (fun r40 => ?_)
  refine evz_icmp_eq iL_law_885 ?_ ?_
  · refine evz_iinc (v := (v3 + 6)) (ls2 := [some (.ref 99), some (.ref 0), some (.ref 62), some (.int (v3 + 6))]) iL_law_1580 rfl (by rw [kI_6]) (Nat.le_of_ble_eq_true rfl) rfl rfl ?_
    refine evz_goto iL_law_1583 ?_
    exact evz_exit rfl ⟨rfl, rfl, rfl, rfl, trivial⟩
  · refine evz_iconst iL_law_888 kI_0 ?_
    exact evz_iret iL_law_889 rfl (fun ty _ => nar0 ty)
def lw_fun_18_J890 (σ : sg_S) (L : Nat) (xs : Nat → Int32)  (v3 : Int32) : Option ((Int32 × sg_S) ⊕ (sg_S ⊕ (Int32 × sg_S))) :=
  (if sg_in (v3 + 1) L = true then (if sg_in (v3 + 2) L = true then (if sg_in (v3 + 3) L = true then ((ns_trustFor σ (xs (v3 + 1).toNatClampNeg) (xs (v3 + 2).toNatClampNeg) (xs (v3 + 3).toNatClampNeg)).bind fun r41 => (if sg_in (v3 + 1) L = true then (if sg_in (v3 + 2) L = true then (if sg_in (v3 + 3) L = true then ((md_trustFor r41.2 (xs (v3 + 1).toNatClampNeg) (xs (v3 + 2).toNatClampNeg) (xs (v3 + 3).toNatClampNeg)).bind fun r42 => (if r41.1 = r42.1 then some (.inl ((v3 + 6), r42.2)) else some (.inr (.inr (0, r42.2))))) else none) else none) else none)) else none) else none) else none)
set_option maxRecDepth 100000 in
set_option maxHeartbeats 20000000 in
theorem e_lw_fun_18_J890 (σ : sg_S) (L : Nat) (xs : Nat → Int32)  (v3 : Int32)  : EvZ (L, xs) mL_law room_1 890 [some (.ref 99), some (.ref 0), some (.ref 62), some (.int v3)] [] σ (lw_fun_18_X σ L xs ) (lw_fun_18_J890 σ L xs  v3) := by
  unfold lw_fun_18_J890
  refine evz_aload_n iL_law_890 rfl (by decide) rfl ?_
  refine evz_aload_n iL_law_891 rfl (by decide) rfl ?_
  refine evz_iload_n iL_law_892 rfl rfl ?_
  refine evz_iconst iL_law_893 kI_1 ?_
  refine evz_iadd iL_law_894 ?_
  refine evz_sald iL_law_895 ?_
  refine evz_aload_n iL_law_896 rfl (by decide) rfl ?_
  refine evz_iload_n iL_law_897 rfl rfl ?_
  refine evz_iconst iL_law_898 kI_2 ?_
  refine evz_iadd iL_law_899 ?_
  refine evz_sald iL_law_900 ?_
  refine evz_aload_n iL_law_901 rfl (by decide) rfl ?_
  refine evz_iload_n iL_law_902 rfl rfl ?_
  refine evz_iconst iL_law_903 kI_3 ?_
  refine evz_iadd iL_law_904 ?_
  refine evz_sald iL_law_905 ?_
  refine evz_VMI iL_law_906 kV_L_96 (c_ns_trustFor σ (xs (v3 + 1).toNatClampNeg) (xs (v3 + 2).toNatClampNeg) (xs (v3 + 3).toNatClampNeg)) rc_0 rfl rfl (Nat.le_of_ble_eq_true rfl) (sg_fitW (by decide) (Nat.le_of_ble_eq_true rfl)) (fun r41 => ?_)
  refine evz_aload_n iL_law_909 rfl (by decide) rfl ?_
  refine evz_aload_n iL_law_910 rfl (by decide) rfl ?_
  refine evz_iload_n iL_law_911 rfl rfl ?_
  refine evz_iconst iL_law_912 kI_1 ?_
  refine evz_iadd iL_law_913 ?_
  refine evz_sald iL_law_914 ?_
  refine evz_aload_n iL_law_915 rfl (by decide) rfl ?_
  refine evz_iload_n iL_law_916 rfl rfl ?_
  refine evz_iconst iL_law_917 kI_2 ?_
  refine evz_iadd iL_law_918 ?_
  refine evz_sald iL_law_919 ?_
  refine evz_aload_n iL_law_920 rfl (by decide) rfl ?_
  refine evz_iload_n iL_law_921 rfl rfl ?_
  refine evz_iconst iL_law_922 kI_3 ?_
  refine evz_iadd iL_law_923 ?_
  refine evz_sald iL_law_924 ?_
  refine evz_VMI iL_law_925 kV_L_99 (c_md_trustFor r41.2 (xs (v3 + 1).toNatClampNeg) (xs (v3 + 2).toNatClampNeg) (xs (v3 + 3).toNatClampNeg)) rc_62 rfl rfl (Nat.le_of_ble_eq_true rfl) (sg_fitW (by decide) (Nat.le_of_ble_eq_true rfl)) (fun r42 => ?_)
  refine evz_icmp_eq iL_law_928 ?_ ?_
  · refine evz_iinc (v := (v3 + 6)) (ls2 := [some (.ref 99), some (.ref 0), some (.ref 62), some (.int (v3 + 6))]) iL_law_1580 rfl (by rw [kI_6]) (Nat.le_of_ble_eq_true rfl) rfl rfl ?_
    refine evz_goto iL_law_1583 ?_
    exact evz_exit rfl ⟨rfl, rfl, rfl, rfl, trivial⟩
  · refine evz_iconst iL_law_931 kI_0 ?_
    exact evz_iret iL_law_932 rfl (fun ty _ => nar0 ty)
def lw_fun_18_J933 (σ : sg_S) (L : Nat) (xs : Nat → Int32)  (v3 : Int32) : Option ((Int32 × sg_S) ⊕ (sg_S ⊕ (Int32 × sg_S))) :=
  (if sg_in (v3 + 1) L = true then (if sg_in (v3 + 2) L = true then ((ns_weightFor σ (xs (v3 + 1).toNatClampNeg) (xs (v3 + 2).toNatClampNeg)).bind fun r43 => (if sg_in (v3 + 1) L = true then (if sg_in (v3 + 2) L = true then ((md_weightFor r43.2 (xs (v3 + 1).toNatClampNeg) (xs (v3 + 2).toNatClampNeg)).bind fun r44 => (if r43.1 = r44.1 then some (.inl ((v3 + 6), r44.2)) else some (.inr (.inr (0, r44.2))))) else none) else none)) else none) else none)
set_option maxRecDepth 100000 in
set_option maxHeartbeats 20000000 in
theorem e_lw_fun_18_J933 (σ : sg_S) (L : Nat) (xs : Nat → Int32)  (v3 : Int32)  : EvZ (L, xs) mL_law room_1 933 [some (.ref 99), some (.ref 0), some (.ref 62), some (.int v3)] [] σ (lw_fun_18_X σ L xs ) (lw_fun_18_J933 σ L xs  v3) := by
  unfold lw_fun_18_J933
  refine evz_aload_n iL_law_933 rfl (by decide) rfl ?_
  refine evz_aload_n iL_law_934 rfl (by decide) rfl ?_
  refine evz_iload_n iL_law_935 rfl rfl ?_
  refine evz_iconst iL_law_936 kI_1 ?_
  refine evz_iadd iL_law_937 ?_
  refine evz_sald iL_law_938 ?_
  refine evz_aload_n iL_law_939 rfl (by decide) rfl ?_
  refine evz_iload_n iL_law_940 rfl rfl ?_
  refine evz_iconst iL_law_941 kI_2 ?_
  refine evz_iadd iL_law_942 ?_
  refine evz_sald iL_law_943 ?_
  refine evz_VMI iL_law_944 kV_L_100 (c_ns_weightFor σ (xs (v3 + 1).toNatClampNeg) (xs (v3 + 2).toNatClampNeg)) rc_0 rfl rfl (Nat.le_of_ble_eq_true rfl) (sg_fitW (by decide) (Nat.le_of_ble_eq_true rfl)) (fun r43 => ?_)
  refine evz_aload_n iL_law_947 rfl (by decide) rfl ?_
  refine evz_aload_n iL_law_948 rfl (by decide) rfl ?_
  refine evz_iload_n iL_law_949 rfl rfl ?_
  refine evz_iconst iL_law_950 kI_1 ?_
  refine evz_iadd iL_law_951 ?_
  refine evz_sald iL_law_952 ?_
  refine evz_aload_n iL_law_953 rfl (by decide) rfl ?_
  refine evz_iload_n iL_law_954 rfl rfl ?_
  refine evz_iconst iL_law_955 kI_2 ?_
  refine evz_iadd iL_law_956 ?_
  refine evz_sald iL_law_957 ?_
  refine evz_VMI iL_law_958 kV_L_103 (c_md_weightFor r43.2 (xs (v3 + 1).toNatClampNeg) (xs (v3 + 2).toNatClampNeg)) rc_62 rfl rfl (Nat.le_of_ble_eq_true rfl) (sg_fitW (by decide) (Nat.le_of_ble_eq_true rfl)) (fun r44 => ?_)
  refine evz_icmp_eq iL_law_961 ?_ ?_
  · refine evz_iinc (v := (v3 + 6)) (ls2 := [some (.ref 99), some (.ref 0), some (.ref 62), some (.int (v3 + 6))]) iL_law_1580 rfl (by rw [kI_6]) (Nat.le_of_ble_eq_true rfl) rfl rfl ?_
    refine evz_goto iL_law_1583 ?_
    exact evz_exit rfl ⟨rfl, rfl, rfl, rfl, trivial⟩
  · refine evz_iconst iL_law_964 kI_0 ?_
    exact evz_iret iL_law_965 rfl (fun ty _ => nar0 ty)
def lw_fun_18_J966 (σ : sg_S) (L : Nat) (xs : Nat → Int32)  (v3 : Int32) : Option ((Int32 × sg_S) ⊕ (sg_S ⊕ (Int32 × sg_S))) :=
  (if sg_in (v3 + 1) L = true then (if sg_in (v3 + 2) L = true then (if sg_in (v3 + 3) L = true then ((ns_hush σ (xs (v3 + 1).toNatClampNeg) (xs (v3 + 2).toNatClampNeg) (xs (v3 + 3).toNatClampNeg)).bind fun r45 => (if sg_in (v3 + 1) L = true then (if sg_in (v3 + 2) L = true then (if sg_in (v3 + 3) L = true then ((md_hush r45.2 (xs (v3 + 1).toNatClampNeg) (xs (v3 + 2).toNatClampNeg) (xs (v3 + 3).toNatClampNeg)).bind fun r46 => (if r45.1 = r46.1 then some (.inl ((v3 + 6), r46.2)) else some (.inr (.inr (0, r46.2))))) else none) else none) else none)) else none) else none) else none)
set_option maxRecDepth 100000 in
set_option maxHeartbeats 20000000 in
theorem e_lw_fun_18_J966 (σ : sg_S) (L : Nat) (xs : Nat → Int32)  (v3 : Int32)  : EvZ (L, xs) mL_law room_1 966 [some (.ref 99), some (.ref 0), some (.ref 62), some (.int v3)] [] σ (lw_fun_18_X σ L xs ) (lw_fun_18_J966 σ L xs  v3) := by
  unfold lw_fun_18_J966
  refine evz_aload_n iL_law_966 rfl (by decide) rfl ?_
  refine evz_aload_n iL_law_967 rfl (by decide) rfl ?_
  refine evz_iload_n iL_law_968 rfl rfl ?_
  refine evz_iconst iL_law_969 kI_1 ?_
  refine evz_iadd iL_law_970 ?_
  refine evz_sald iL_law_971 ?_
  refine evz_aload_n iL_law_972 rfl (by decide) rfl ?_
  refine evz_iload_n iL_law_973 rfl rfl ?_
  refine evz_iconst iL_law_974 kI_2 ?_
  refine evz_iadd iL_law_975 ?_
  refine evz_sald iL_law_976 ?_
  refine evz_aload_n iL_law_977 rfl (by decide) rfl ?_
  refine evz_iload_n iL_law_978 rfl rfl ?_
  refine evz_iconst iL_law_979 kI_3 ?_
  refine evz_iadd iL_law_980 ?_
  refine evz_sald iL_law_981 ?_
  refine evz_VMI iL_law_982 kV_L_104 (c_ns_hush σ (xs (v3 + 1).toNatClampNeg) (xs (v3 + 2).toNatClampNeg) (xs (v3 + 3).toNatClampNeg)) rc_0 rfl rfl (Nat.le_of_ble_eq_true rfl) (sg_fitW (by decide) (Nat.le_of_ble_eq_true rfl)) (fun r45 => ?_)
  refine evz_aload_n iL_law_985 rfl (by decide) rfl ?_
  refine evz_aload_n iL_law_986 rfl (by decide) rfl ?_
  refine evz_iload_n iL_law_987 rfl rfl ?_
  refine evz_iconst iL_law_988 kI_1 ?_
  refine evz_iadd iL_law_989 ?_
  refine evz_sald iL_law_990 ?_
  refine evz_aload_n iL_law_991 rfl (by decide) rfl ?_
  refine evz_iload_n iL_law_992 rfl rfl ?_
  refine evz_iconst iL_law_993 kI_2 ?_
  refine evz_iadd iL_law_994 ?_
  refine evz_sald iL_law_995 ?_
  refine evz_aload_n iL_law_996 rfl (by decide) rfl ?_
  refine evz_iload_n iL_law_997 rfl rfl ?_
  refine evz_iconst iL_law_998 kI_3 ?_
  refine evz_iadd iL_law_999 ?_
  refine evz_sald iL_law_1000 ?_
  refine evz_VMI iL_law_1001 kV_L_107 (c_md_hush r45.2 (xs (v3 + 1).toNatClampNeg) (xs (v3 + 2).toNatClampNeg) (xs (v3 + 3).toNatClampNeg)) rc_62 rfl rfl (Nat.le_of_ble_eq_true rfl) (sg_fitW (by decide) (Nat.le_of_ble_eq_true rfl)) (fun r46 => ?_)
  refine evz_icmp_eq iL_law_1004 ?_ ?_
  · refine evz_iinc (v := (v3 + 6)) (ls2 := [some (.ref 99), some (.ref 0), some (.ref 62), some (.int (v3 + 6))]) iL_law_1580 rfl (by rw [kI_6]) (Nat.le_of_ble_eq_true rfl) rfl rfl ?_
    refine evz_goto iL_law_1583 ?_
    exact evz_exit rfl ⟨rfl, rfl, rfl, rfl, trivial⟩
  · refine evz_iconst iL_law_1007 kI_0 ?_
    exact evz_iret iL_law_1008 rfl (fun ty _ => nar0 ty)
def lw_fun_18_J1009 (σ : sg_S) (L : Nat) (xs : Nat → Int32)  (v3 : Int32) : Option ((Int32 × sg_S) ⊕ (sg_S ⊕ (Int32 × sg_S))) :=
  (if sg_in (v3 + 1) L = true then (if sg_in (v3 + 2) L = true then ((ns_fits σ (xs (v3 + 1).toNatClampNeg) (xs (v3 + 2).toNatClampNeg)).bind fun r47 => (if sg_in (v3 + 1) L = true then (if sg_in (v3 + 2) L = true then ((md_fits r47.2 (xs (v3 + 1).toNatClampNeg) (xs (v3 + 2).toNatClampNeg)).bind fun r48 => (if r47.1 = r48.1 then some (.inl ((v3 + 6), r48.2)) else some (.inr (.inr (0, r48.2))))) else none) else none)) else none) else none)
set_option maxRecDepth 100000 in
set_option maxHeartbeats 20000000 in
theorem e_lw_fun_18_J1009 (σ : sg_S) (L : Nat) (xs : Nat → Int32)  (v3 : Int32)  : EvZ (L, xs) mL_law room_1 1009 [some (.ref 99), some (.ref 0), some (.ref 62), some (.int v3)] [] σ (lw_fun_18_X σ L xs ) (lw_fun_18_J1009 σ L xs  v3) := by
  unfold lw_fun_18_J1009
  refine evz_aload_n iL_law_1009 rfl (by decide) rfl ?_
  refine evz_aload_n iL_law_1010 rfl (by decide) rfl ?_
  refine evz_iload_n iL_law_1011 rfl rfl ?_
  refine evz_iconst iL_law_1012 kI_1 ?_
  refine evz_iadd iL_law_1013 ?_
  refine evz_sald iL_law_1014 ?_
  refine evz_aload_n iL_law_1015 rfl (by decide) rfl ?_
  refine evz_iload_n iL_law_1016 rfl rfl ?_
  refine evz_iconst iL_law_1017 kI_2 ?_
  refine evz_iadd iL_law_1018 ?_
  refine evz_sald iL_law_1019 ?_
  refine evz_VMI iL_law_1020 kV_L_108 (c_ns_fits σ (xs (v3 + 1).toNatClampNeg) (xs (v3 + 2).toNatClampNeg)) rc_0 rfl rfl (Nat.le_of_ble_eq_true rfl) (sg_fitW (by decide) (Nat.le_of_ble_eq_true rfl)) (fun r47 => ?_)
  refine evz_aload_n iL_law_1023 rfl (by decide) rfl ?_
  refine evz_aload_n iL_law_1024 rfl (by decide) rfl ?_
  refine evz_iload_n iL_law_1025 rfl rfl ?_
  refine evz_iconst iL_law_1026 kI_1 ?_
  refine evz_iadd iL_law_1027 ?_
  refine evz_sald iL_law_1028 ?_
  refine evz_aload_n iL_law_1029 rfl (by decide) rfl ?_
  refine evz_iload_n iL_law_1030 rfl rfl ?_
  refine evz_iconst iL_law_1031 kI_2 ?_
  refine evz_iadd iL_law_1032 ?_
  refine evz_sald iL_law_1033 ?_
  refine evz_VMI iL_law_1034 kV_L_111 (c_md_fits r47.2 (xs (v3 + 1).toNatClampNeg) (xs (v3 + 2).toNatClampNeg)) rc_62 rfl rfl (Nat.le_of_ble_eq_true rfl) (sg_fitW (by decide) (Nat.le_of_ble_eq_true rfl)) (fun r48 => ?_)
  refine evz_icmp_eq iL_law_1037 ?_ ?_
  · refine evz_iinc (v := (v3 + 6)) (ls2 := [some (.ref 99), some (.ref 0), some (.ref 62), some (.int (v3 + 6))]) iL_law_1580 rfl (by rw [kI_6]) (Nat.le_of_ble_eq_true rfl) rfl rfl ?_
    refine evz_goto iL_law_1583 ?_
    exact evz_exit rfl ⟨rfl, rfl, rfl, rfl, trivial⟩
  · refine evz_iconst iL_law_1040 kI_0 ?_
    exact evz_iret iL_law_1041 rfl (fun ty _ => nar0 ty)
def lw_fun_18_J1042 (σ : sg_S) (L : Nat) (xs : Nat → Int32)  (v3 : Int32) : Option ((Int32 × sg_S) ⊕ (sg_S ⊕ (Int32 × sg_S))) :=
  (if sg_in (v3 + 1) L = true then (if sg_in (v3 + 2) L = true then ((ns_kinds σ (xs (v3 + 1).toNatClampNeg) (xs (v3 + 2).toNatClampNeg)).bind fun r49 => (if sg_in (v3 + 1) L = true then (if sg_in (v3 + 2) L = true then ((md_kinds r49.2 (xs (v3 + 1).toNatClampNeg) (xs (v3 + 2).toNatClampNeg)).bind fun r50 => (if r49.1 = r50.1 then some (.inl ((v3 + 6), r50.2)) else some (.inr (.inr (0, r50.2))))) else none) else none)) else none) else none)
set_option maxRecDepth 100000 in
set_option maxHeartbeats 20000000 in
theorem e_lw_fun_18_J1042 (σ : sg_S) (L : Nat) (xs : Nat → Int32)  (v3 : Int32)  : EvZ (L, xs) mL_law room_1 1042 [some (.ref 99), some (.ref 0), some (.ref 62), some (.int v3)] [] σ (lw_fun_18_X σ L xs ) (lw_fun_18_J1042 σ L xs  v3) := by
  unfold lw_fun_18_J1042
  refine evz_aload_n iL_law_1042 rfl (by decide) rfl ?_
  refine evz_aload_n iL_law_1043 rfl (by decide) rfl ?_
  refine evz_iload_n iL_law_1044 rfl rfl ?_
  refine evz_iconst iL_law_1045 kI_1 ?_
  refine evz_iadd iL_law_1046 ?_
  refine evz_sald iL_law_1047 ?_
  refine evz_aload_n iL_law_1048 rfl (by decide) rfl ?_
  refine evz_iload_n iL_law_1049 rfl rfl ?_
  refine evz_iconst iL_law_1050 kI_2 ?_
  refine evz_iadd iL_law_1051 ?_
  refine evz_sald iL_law_1052 ?_
  refine evz_VMI iL_law_1053 kV_L_112 (c_ns_kinds σ (xs (v3 + 1).toNatClampNeg) (xs (v3 + 2).toNatClampNeg)) rc_0 rfl rfl (Nat.le_of_ble_eq_true rfl) (sg_fitW (by decide) (Nat.le_of_ble_eq_true rfl)) (fun r49 => ?_)
  refine evz_aload_n iL_law_1056 rfl (by decide) rfl ?_
  refine evz_aload_n iL_law_1057 rfl (by decide) rfl ?_
  refine evz_iload_n iL_law_1058 rfl rfl ?_
  refine evz_iconst iL_law_1059 kI_1 ?_
  refine evz_iadd iL_law_1060 ?_
  refine evz_sald iL_law_1061 ?_
  refine evz_aload_n iL_law_1062 rfl (by decide) rfl ?_
  refine evz_iload_n iL_law_1063 rfl rfl ?_
  refine evz_iconst iL_law_1064 kI_2 ?_
  refine evz_iadd iL_law_1065 ?_
  refine evz_sald iL_law_1066 ?_
  refine evz_VMI iL_law_1067 kV_L_115 (c_md_kinds r49.2 (xs (v3 + 1).toNatClampNeg) (xs (v3 + 2).toNatClampNeg)) rc_62 rfl rfl (Nat.le_of_ble_eq_true rfl) (sg_fitW (by decide) (Nat.le_of_ble_eq_true rfl)) (fun r50 => ?_)
  refine evz_icmp_eq iL_law_1070 ?_ ?_
  · refine evz_iinc (v := (v3 + 6)) (ls2 := [some (.ref 99), some (.ref 0), some (.ref 62), some (.int (v3 + 6))]) iL_law_1580 rfl (by rw [kI_6]) (Nat.le_of_ble_eq_true rfl) rfl rfl ?_
    refine evz_goto iL_law_1583 ?_
    exact evz_exit rfl ⟨rfl, rfl, rfl, rfl, trivial⟩
  · refine evz_iconst iL_law_1073 kI_0 ?_
    exact evz_iret iL_law_1074 rfl (fun ty _ => nar0 ty)
def lw_fun_18_J1075 (σ : sg_S) (L : Nat) (xs : Nat → Int32)  (v3 : Int32) : Option ((Int32 × sg_S) ⊕ (sg_S ⊕ (Int32 × sg_S))) :=
  (if sg_in (v3 + 1) L = true then ((ns_evening σ (xs (v3 + 1).toNatClampNeg)).bind fun r51 => (if sg_in (v3 + 1) L = true then ((md_evening r51.2 (xs (v3 + 1).toNatClampNeg)).bind fun r52 => (if r51.1 = r52.1 then some (.inl ((v3 + 6), r52.2)) else some (.inr (.inr (0, r52.2))))) else none)) else none)
set_option maxRecDepth 100000 in
set_option maxHeartbeats 20000000 in
theorem e_lw_fun_18_J1075 (σ : sg_S) (L : Nat) (xs : Nat → Int32)  (v3 : Int32)  : EvZ (L, xs) mL_law room_1 1075 [some (.ref 99), some (.ref 0), some (.ref 62), some (.int v3)] [] σ (lw_fun_18_X σ L xs ) (lw_fun_18_J1075 σ L xs  v3) := by
  unfold lw_fun_18_J1075
  refine evz_aload_n iL_law_1075 rfl (by decide) rfl ?_
  refine evz_aload_n iL_law_1076 rfl (by decide) rfl ?_
  refine evz_iload_n iL_law_1077 rfl rfl ?_
  refine evz_iconst iL_law_1078 kI_1 ?_
  refine evz_iadd iL_law_1079 ?_
  refine evz_sald iL_law_1080 ?_
  refine evz_VMI iL_law_1081 kV_L_116 (c_ns_evening σ (xs (v3 + 1).toNatClampNeg)) rc_0 rfl rfl (Nat.le_of_ble_eq_true rfl) (sg_fitW (by decide) (Nat.le_of_ble_eq_true rfl)) (fun r51 => ?_)
  refine evz_aload_n iL_law_1084 rfl (by decide) rfl ?_
  refine evz_aload_n iL_law_1085 rfl (by decide) rfl ?_
  refine evz_iload_n iL_law_1086 rfl rfl ?_
  refine evz_iconst iL_law_1087 kI_1 ?_
  refine evz_iadd iL_law_1088 ?_
  refine evz_sald iL_law_1089 ?_
  refine evz_VMI iL_law_1090 kV_L_119 (c_md_evening r51.2 (xs (v3 + 1).toNatClampNeg)) rc_62 rfl rfl (Nat.le_of_ble_eq_true rfl) (sg_fitW (by decide) (Nat.le_of_ble_eq_true rfl)) (fun r52 => ?_)
  refine evz_icmp_eq iL_law_1093 ?_ ?_
  · refine evz_iinc (v := (v3 + 6)) (ls2 := [some (.ref 99), some (.ref 0), some (.ref 62), some (.int (v3 + 6))]) iL_law_1580 rfl (by rw [kI_6]) (Nat.le_of_ble_eq_true rfl) rfl rfl ?_
    refine evz_goto iL_law_1583 ?_
    exact evz_exit rfl ⟨rfl, rfl, rfl, rfl, trivial⟩
  · refine evz_iconst iL_law_1096 kI_0 ?_
    exact evz_iret iL_law_1097 rfl (fun ty _ => nar0 ty)
def lw_fun_18_J1098 (σ : sg_S) (L : Nat) (xs : Nat → Int32)  (v3 : Int32) : Option ((Int32 × sg_S) ⊕ (sg_S ⊕ (Int32 × sg_S))) :=
  (if sg_in (v3 + 1) L = true then (if sg_in (v3 + 2) L = true then (if sg_in (v3 + 3) L = true then (if sg_in (v3 + 4) L = true then ((ns_odds σ (xs (v3 + 1).toNatClampNeg) (xs (v3 + 2).toNatClampNeg) (xs (v3 + 3).toNatClampNeg) (xs (v3 + 4).toNatClampNeg)).bind fun r53 => (if sg_in (v3 + 1) L = true then (if sg_in (v3 + 2) L = true then (if sg_in (v3 + 3) L = true then (if sg_in (v3 + 4) L = true then ((md_odds r53.2 (xs (v3 + 1).toNatClampNeg) (xs (v3 + 2).toNatClampNeg) (xs (v3 + 3).toNatClampNeg) (xs (v3 + 4).toNatClampNeg)).bind fun r54 => (if (lg_cmp r53.1 r54.1) = 0 then some (.inl ((v3 + 6), r54.2)) else some (.inr (.inr (0, r54.2))))) else none) else none) else none) else none)) else none) else none) else none) else none)
set_option maxRecDepth 100000 in
set_option maxHeartbeats 20000000 in
theorem e_lw_fun_18_J1098 (σ : sg_S) (L : Nat) (xs : Nat → Int32)  (v3 : Int32)  : EvZ (L, xs) mL_law room_1 1098 [some (.ref 99), some (.ref 0), some (.ref 62), some (.int v3)] [] σ (lw_fun_18_X σ L xs ) (lw_fun_18_J1098 σ L xs  v3) := by
  unfold lw_fun_18_J1098
  refine evz_aload_n iL_law_1098 rfl (by decide) rfl ?_
  refine evz_aload_n iL_law_1099 rfl (by decide) rfl ?_
  refine evz_iload_n iL_law_1100 rfl rfl ?_
  refine evz_iconst iL_law_1101 kI_1 ?_
  refine evz_iadd iL_law_1102 ?_
  refine evz_sald iL_law_1103 ?_
  refine evz_aload_n iL_law_1104 rfl (by decide) rfl ?_
  refine evz_iload_n iL_law_1105 rfl rfl ?_
  refine evz_iconst iL_law_1106 kI_2 ?_
  refine evz_iadd iL_law_1107 ?_
  refine evz_sald iL_law_1108 ?_
  refine evz_aload_n iL_law_1109 rfl (by decide) rfl ?_
  refine evz_iload_n iL_law_1110 rfl rfl ?_
  refine evz_iconst iL_law_1111 kI_3 ?_
  refine evz_iadd iL_law_1112 ?_
  refine evz_sald iL_law_1113 ?_
  refine evz_aload_n iL_law_1114 rfl (by decide) rfl ?_
  refine evz_iload_n iL_law_1115 rfl rfl ?_
  refine evz_iconst iL_law_1116 kI_4 ?_
  refine evz_iadd iL_law_1117 ?_
  refine evz_sald iL_law_1118 ?_
  refine evz_VML iL_law_1119 kV_L_120 (c_ns_odds σ (xs (v3 + 1).toNatClampNeg) (xs (v3 + 2).toNatClampNeg) (xs (v3 + 3).toNatClampNeg) (xs (v3 + 4).toNatClampNeg)) rc_0 rfl rfl (Nat.le_of_ble_eq_true rfl) (sg_fitW (by decide) (Nat.le_of_ble_eq_true rfl)) (fun r53 => ?_)
  refine evz_aload_n iL_law_1122 rfl (by decide) rfl ?_
  refine evz_aload_n iL_law_1123 rfl (by decide) rfl ?_
  refine evz_iload_n iL_law_1124 rfl rfl ?_
  refine evz_iconst iL_law_1125 kI_1 ?_
  refine evz_iadd iL_law_1126 ?_
  refine evz_sald iL_law_1127 ?_
  refine evz_aload_n iL_law_1128 rfl (by decide) rfl ?_
  refine evz_iload_n iL_law_1129 rfl rfl ?_
  refine evz_iconst iL_law_1130 kI_2 ?_
  refine evz_iadd iL_law_1131 ?_
  refine evz_sald iL_law_1132 ?_
  refine evz_aload_n iL_law_1133 rfl (by decide) rfl ?_
  refine evz_iload_n iL_law_1134 rfl rfl ?_
  refine evz_iconst iL_law_1135 kI_3 ?_
  refine evz_iadd iL_law_1136 ?_
  refine evz_sald iL_law_1137 ?_
  refine evz_aload_n iL_law_1138 rfl (by decide) rfl ?_
  refine evz_iload_n iL_law_1139 rfl rfl ?_
  refine evz_iconst iL_law_1140 kI_4 ?_
  refine evz_iadd iL_law_1141 ?_
  refine evz_sald iL_law_1142 ?_
  refine evz_VML iL_law_1143 kV_L_124 (c_md_odds r53.2 (xs (v3 + 1).toNatClampNeg) (xs (v3 + 2).toNatClampNeg) (xs (v3 + 3).toNatClampNeg) (xs (v3 + 4).toNatClampNeg)) rc_62 rfl rfl (Nat.le_of_ble_eq_true rfl) (sg_fitW (by decide) (Nat.le_of_ble_eq_true rfl)) (fun r54 => ?_)
  refine evz_lcmp iL_law_1146 ?_
  refine evz_if_eq iL_law_1147 ?_ ?_
  · refine evz_iinc (v := (v3 + 6)) (ls2 := [some (.ref 99), some (.ref 0), some (.ref 62), some (.int (v3 + 6))]) iL_law_1580 rfl (by rw [kI_6]) (Nat.le_of_ble_eq_true rfl) rfl rfl ?_
    refine evz_goto iL_law_1583 ?_
    exact evz_exit rfl ⟨rfl, rfl, rfl, rfl, trivial⟩
  · refine evz_iconst iL_law_1150 kI_0 ?_
    exact evz_iret iL_law_1151 rfl (fun ty _ => nar0 ty)
def lw_fun_18_J1152 (σ : sg_S) (L : Nat) (xs : Nat → Int32)  (v3 : Int32) : Option ((Int32 × sg_S) ⊕ (sg_S ⊕ (Int32 × sg_S))) :=
  (if sg_in (v3 + 1) L = true then ((ns_seed σ (xs (v3 + 1).toNatClampNeg)).bind fun r55 => (if sg_in (v3 + 1) L = true then ((md_seed r55.2 (xs (v3 + 1).toNatClampNeg)).bind fun r56 => (if r55.1 = r56.1 then some (.inl ((v3 + 6), r56.2)) else some (.inr (.inr (0, r56.2))))) else none)) else none)
set_option maxRecDepth 100000 in
set_option maxHeartbeats 20000000 in
theorem e_lw_fun_18_J1152 (σ : sg_S) (L : Nat) (xs : Nat → Int32)  (v3 : Int32)  : EvZ (L, xs) mL_law room_1 1152 [some (.ref 99), some (.ref 0), some (.ref 62), some (.int v3)] [] σ (lw_fun_18_X σ L xs ) (lw_fun_18_J1152 σ L xs  v3) := by
  unfold lw_fun_18_J1152
  refine evz_aload_n iL_law_1152 rfl (by decide) rfl ?_
  refine evz_aload_n iL_law_1153 rfl (by decide) rfl ?_
  refine evz_iload_n iL_law_1154 rfl rfl ?_
  refine evz_iconst iL_law_1155 kI_1 ?_
  refine evz_iadd iL_law_1156 ?_
  refine evz_sald iL_law_1157 ?_
  refine evz_VMI iL_law_1158 kV_L_125 (c_ns_seed σ (xs (v3 + 1).toNatClampNeg)) rc_0 rfl rfl (Nat.le_of_ble_eq_true rfl) (sg_fitW (by decide) (Nat.le_of_ble_eq_true rfl)) (fun r55 => ?_)
  refine evz_aload_n iL_law_1161 rfl (by decide) rfl ?_
  refine evz_aload_n iL_law_1162 rfl (by decide) rfl ?_
  refine evz_iload_n iL_law_1163 rfl rfl ?_
  refine evz_iconst iL_law_1164 kI_1 ?_
  refine evz_iadd iL_law_1165 ?_
  refine evz_sald iL_law_1166 ?_
  refine evz_VMI iL_law_1167 kV_L_128 (c_md_seed r55.2 (xs (v3 + 1).toNatClampNeg)) rc_62 rfl rfl (Nat.le_of_ble_eq_true rfl) (sg_fitW (by decide) (Nat.le_of_ble_eq_true rfl)) (fun r56 => ?_)
  refine evz_icmp_eq iL_law_1170 ?_ ?_
  · refine evz_iinc (v := (v3 + 6)) (ls2 := [some (.ref 99), some (.ref 0), some (.ref 62), some (.int (v3 + 6))]) iL_law_1580 rfl (by rw [kI_6]) (Nat.le_of_ble_eq_true rfl) rfl rfl ?_
    refine evz_goto iL_law_1583 ?_
    exact evz_exit rfl ⟨rfl, rfl, rfl, rfl, trivial⟩
  · refine evz_iconst iL_law_1173 kI_0 ?_
    exact evz_iret iL_law_1174 rfl (fun ty _ => nar0 ty)
def lw_fun_18_J1175 (σ : sg_S) (L : Nat) (xs : Nat → Int32)  (v3 : Int32) : Option ((Int32 × sg_S) ⊕ (sg_S ⊕ (Int32 × sg_S))) :=
  (if sg_in (v3 + 1) L = true then (if sg_in (v3 + 2) L = true then ((ns_feed σ (xs (v3 + 1).toNatClampNeg) (xs (v3 + 2).toNatClampNeg)).bind fun r57 => (if sg_in (v3 + 1) L = true then (if sg_in (v3 + 2) L = true then ((md_feed r57.2 (xs (v3 + 1).toNatClampNeg) (xs (v3 + 2).toNatClampNeg)).bind fun r58 => (if r57.1 = r58.1 then some (.inl ((v3 + 6), r58.2)) else some (.inr (.inr (0, r58.2))))) else none) else none)) else none) else none)
set_option maxRecDepth 100000 in
set_option maxHeartbeats 20000000 in
theorem e_lw_fun_18_J1175 (σ : sg_S) (L : Nat) (xs : Nat → Int32)  (v3 : Int32)  : EvZ (L, xs) mL_law room_1 1175 [some (.ref 99), some (.ref 0), some (.ref 62), some (.int v3)] [] σ (lw_fun_18_X σ L xs ) (lw_fun_18_J1175 σ L xs  v3) := by
  unfold lw_fun_18_J1175
  refine evz_aload_n iL_law_1175 rfl (by decide) rfl ?_
  refine evz_aload_n iL_law_1176 rfl (by decide) rfl ?_
  refine evz_iload_n iL_law_1177 rfl rfl ?_
  refine evz_iconst iL_law_1178 kI_1 ?_
  refine evz_iadd iL_law_1179 ?_
  refine evz_sald iL_law_1180 ?_
  refine evz_aload_n iL_law_1181 rfl (by decide) rfl ?_
  refine evz_iload_n iL_law_1182 rfl rfl ?_
  refine evz_iconst iL_law_1183 kI_2 ?_
  refine evz_iadd iL_law_1184 ?_
  refine evz_sald iL_law_1185 ?_
  refine evz_VMI iL_law_1186 kV_L_129 (c_ns_feed σ (xs (v3 + 1).toNatClampNeg) (xs (v3 + 2).toNatClampNeg)) rc_0 rfl rfl (Nat.le_of_ble_eq_true rfl) (sg_fitW (by decide) (Nat.le_of_ble_eq_true rfl)) (fun r57 => ?_)
  refine evz_aload_n iL_law_1189 rfl (by decide) rfl ?_
  refine evz_aload_n iL_law_1190 rfl (by decide) rfl ?_
  refine evz_iload_n iL_law_1191 rfl rfl ?_
  refine evz_iconst iL_law_1192 kI_1 ?_
  refine evz_iadd iL_law_1193 ?_
  refine evz_sald iL_law_1194 ?_
  refine evz_aload_n iL_law_1195 rfl (by decide) rfl ?_
  refine evz_iload_n iL_law_1196 rfl rfl ?_
  refine evz_iconst iL_law_1197 kI_2 ?_
  refine evz_iadd iL_law_1198 ?_
  refine evz_sald iL_law_1199 ?_
  refine evz_VMI iL_law_1200 kV_L_132 (c_md_feed r57.2 (xs (v3 + 1).toNatClampNeg) (xs (v3 + 2).toNatClampNeg)) rc_62 rfl rfl (Nat.le_of_ble_eq_true rfl) (sg_fitW (by decide) (Nat.le_of_ble_eq_true rfl)) (fun r58 => ?_)
  refine evz_icmp_eq iL_law_1203 ?_ ?_
  · refine evz_iinc (v := (v3 + 6)) (ls2 := [some (.ref 99), some (.ref 0), some (.ref 62), some (.int (v3 + 6))]) iL_law_1580 rfl (by rw [kI_6]) (Nat.le_of_ble_eq_true rfl) rfl rfl ?_
    refine evz_goto iL_law_1583 ?_
    exact evz_exit rfl ⟨rfl, rfl, rfl, rfl, trivial⟩
  · refine evz_iconst iL_law_1206 kI_0 ?_
    exact evz_iret iL_law_1207 rfl (fun ty _ => nar0 ty)
def lw_fun_18_J1208 (σ : sg_S) (L : Nat) (xs : Nat → Int32)  (v3 : Int32) : Option ((Int32 × sg_S) ⊕ (sg_S ⊕ (Int32 × sg_S))) :=
  ((ns_wipe σ).bind fun r59 => ((md_wipe r59.2).bind fun r60 => (if r59.1 = r60.1 then some (.inl ((v3 + 6), r60.2)) else some (.inr (.inr (0, r60.2))))))
set_option maxRecDepth 100000 in
set_option maxHeartbeats 20000000 in
theorem e_lw_fun_18_J1208 (σ : sg_S) (L : Nat) (xs : Nat → Int32)  (v3 : Int32)  : EvZ (L, xs) mL_law room_1 1208 [some (.ref 99), some (.ref 0), some (.ref 62), some (.int v3)] [] σ (lw_fun_18_X σ L xs ) (lw_fun_18_J1208 σ L xs  v3) := by
  unfold lw_fun_18_J1208
  refine evz_aload_n iL_law_1208 rfl (by decide) rfl ?_
  refine evz_VMI iL_law_1209 kV_L_133 (c_ns_wipe σ ) rc_0 rfl rfl (Nat.le_of_ble_eq_true rfl) (sg_fitW (by decide) (Nat.le_of_ble_eq_true rfl)) (fun r59 => ?_)
  refine evz_aload_n iL_law_1212 rfl (by decide) rfl ?_
  refine evz_VMI iL_law_1213 kV_L_137 (c_md_wipe r59.2 ) rc_62 rfl rfl (Nat.le_of_ble_eq_true rfl) (sg_fitW (by decide) (Nat.le_of_ble_eq_true rfl)) (fun r60 => ?_)
  refine evz_icmp_eq iL_law_1216 ?_ ?_
  · refine evz_iinc (v := (v3 + 6)) (ls2 := [some (.ref 99), some (.ref 0), some (.ref 62), some (.int (v3 + 6))]) iL_law_1580 rfl (by rw [kI_6]) (Nat.le_of_ble_eq_true rfl) rfl rfl ?_
    refine evz_goto iL_law_1583 ?_
    exact evz_exit rfl ⟨rfl, rfl, rfl, rfl, trivial⟩
  · refine evz_iconst iL_law_1219 kI_0 ?_
    exact evz_iret iL_law_1220 rfl (fun ty _ => nar0 ty)
def lw_fun_18_J1221 (σ : sg_S) (L : Nat) (xs : Nat → Int32)  (v3 : Int32) : Option ((Int32 × sg_S) ⊕ (sg_S ⊕ (Int32 × sg_S))) :=
  ((ns_text σ).bind fun r61 => ((md_text r61.2).bind fun r62 => (if r61.1 = r62.1 then some (.inl ((v3 + 6), r62.2)) else some (.inr (.inr (0, r62.2))))))
set_option maxRecDepth 100000 in
set_option maxHeartbeats 20000000 in
theorem e_lw_fun_18_J1221 (σ : sg_S) (L : Nat) (xs : Nat → Int32)  (v3 : Int32)  : EvZ (L, xs) mL_law room_1 1221 [some (.ref 99), some (.ref 0), some (.ref 62), some (.int v3)] [] σ (lw_fun_18_X σ L xs ) (lw_fun_18_J1221 σ L xs  v3) := by
  unfold lw_fun_18_J1221
  refine evz_aload_n iL_law_1221 rfl (by decide) rfl ?_
  refine evz_VMI iL_law_1222 kV_L_138 (c_ns_text σ ) rc_0 rfl rfl (Nat.le_of_ble_eq_true rfl) (sg_fitW (by decide) (Nat.le_of_ble_eq_true rfl)) (fun r61 => ?_)
  refine evz_aload_n iL_law_1225 rfl (by decide) rfl ?_
  refine evz_VMI iL_law_1226 kV_L_141 (c_md_text r61.2 ) rc_62 rfl rfl (Nat.le_of_ble_eq_true rfl) (sg_fitW (by decide) (Nat.le_of_ble_eq_true rfl)) (fun r62 => ?_)
  refine evz_icmp_eq iL_law_1229 ?_ ?_
  · refine evz_iinc (v := (v3 + 6)) (ls2 := [some (.ref 99), some (.ref 0), some (.ref 62), some (.int (v3 + 6))]) iL_law_1580 rfl (by rw [kI_6]) (Nat.le_of_ble_eq_true rfl) rfl rfl ?_
    refine evz_goto iL_law_1583 ?_
    exact evz_exit rfl ⟨rfl, rfl, rfl, rfl, trivial⟩
  · refine evz_iconst iL_law_1232 kI_0 ?_
    exact evz_iret iL_law_1233 rfl (fun ty _ => nar0 ty)
def lw_fun_18_J1234 (σ : sg_S) (L : Nat) (xs : Nat → Int32)  (v3 : Int32) : Option ((Int32 × sg_S) ⊕ (sg_S ⊕ (Int32 × sg_S))) :=
  (if sg_in (v3 + 1) L = true then (if sg_in (v3 + 2) L = true then ((ns_hold σ (xs (v3 + 1).toNatClampNeg) (xs (v3 + 2).toNatClampNeg)).bind fun r63 => (if sg_in (v3 + 1) L = true then (if sg_in (v3 + 2) L = true then ((md_hold r63.2 (xs (v3 + 1).toNatClampNeg) (xs (v3 + 2).toNatClampNeg)).bind fun r64 => (if r63.1 = r64.1 then some (.inl ((v3 + 6), r64.2)) else some (.inr (.inr (0, r64.2))))) else none) else none)) else none) else none)
set_option maxRecDepth 100000 in
set_option maxHeartbeats 20000000 in
theorem e_lw_fun_18_J1234 (σ : sg_S) (L : Nat) (xs : Nat → Int32)  (v3 : Int32)  : EvZ (L, xs) mL_law room_1 1234 [some (.ref 99), some (.ref 0), some (.ref 62), some (.int v3)] [] σ (lw_fun_18_X σ L xs ) (lw_fun_18_J1234 σ L xs  v3) := by
  unfold lw_fun_18_J1234
  refine evz_aload_n iL_law_1234 rfl (by decide) rfl ?_
  refine evz_aload_n iL_law_1235 rfl (by decide) rfl ?_
  refine evz_iload_n iL_law_1236 rfl rfl ?_
  refine evz_iconst iL_law_1237 kI_1 ?_
  refine evz_iadd iL_law_1238 ?_
  refine evz_sald iL_law_1239 ?_
  refine evz_aload_n iL_law_1240 rfl (by decide) rfl ?_
  refine evz_iload_n iL_law_1241 rfl rfl ?_
  refine evz_iconst iL_law_1242 kI_2 ?_
  refine evz_iadd iL_law_1243 ?_
  refine evz_sald iL_law_1244 ?_
  refine evz_VMI iL_law_1245 kV_L_142 (c_ns_hold σ (xs (v3 + 1).toNatClampNeg) (xs (v3 + 2).toNatClampNeg)) rc_0 rfl rfl (Nat.le_of_ble_eq_true rfl) (sg_fitW (by decide) (Nat.le_of_ble_eq_true rfl)) (fun r63 => ?_)
  refine evz_aload_n iL_law_1248 rfl (by decide) rfl ?_
  refine evz_aload_n iL_law_1249 rfl (by decide) rfl ?_
  refine evz_iload_n iL_law_1250 rfl rfl ?_
  refine evz_iconst iL_law_1251 kI_1 ?_
  refine evz_iadd iL_law_1252 ?_
  refine evz_sald iL_law_1253 ?_
  refine evz_aload_n iL_law_1254 rfl (by decide) rfl ?_
  refine evz_iload_n iL_law_1255 rfl rfl ?_
  refine evz_iconst iL_law_1256 kI_2 ?_
  refine evz_iadd iL_law_1257 ?_
  refine evz_sald iL_law_1258 ?_
  refine evz_VMI iL_law_1259 kV_L_145 (c_md_hold r63.2 (xs (v3 + 1).toNatClampNeg) (xs (v3 + 2).toNatClampNeg)) rc_62 rfl rfl (Nat.le_of_ble_eq_true rfl) (sg_fitW (by decide) (Nat.le_of_ble_eq_true rfl)) (fun r64 => ?_)
  refine evz_icmp_eq iL_law_1262 ?_ ?_
  · refine evz_iinc (v := (v3 + 6)) (ls2 := [some (.ref 99), some (.ref 0), some (.ref 62), some (.int (v3 + 6))]) iL_law_1580 rfl (by rw [kI_6]) (Nat.le_of_ble_eq_true rfl) rfl rfl ?_
    refine evz_goto iL_law_1583 ?_
    exact evz_exit rfl ⟨rfl, rfl, rfl, rfl, trivial⟩
  · refine evz_iconst iL_law_1265 kI_0 ?_
    exact evz_iret iL_law_1266 rfl (fun ty _ => nar0 ty)
def lw_fun_18_J1267 (σ : sg_S) (L : Nat) (xs : Nat → Int32)  (v3 : Int32) : Option ((Int32 × sg_S) ⊕ (sg_S ⊕ (Int32 × sg_S))) :=
  (if sg_in (v3 + 1) L = true then (if sg_in (v3 + 2) L = true then ((ns_as σ (xs (v3 + 1).toNatClampNeg) (xs (v3 + 2).toNatClampNeg)).bind fun r65 => (if sg_in (v3 + 1) L = true then (if sg_in (v3 + 2) L = true then ((md_as r65.2 (xs (v3 + 1).toNatClampNeg) (xs (v3 + 2).toNatClampNeg)).bind fun r66 => (if r65.1 = r66.1 then some (.inl ((v3 + 6), r66.2)) else some (.inr (.inr (0, r66.2))))) else none) else none)) else none) else none)
set_option maxRecDepth 100000 in
set_option maxHeartbeats 20000000 in
theorem e_lw_fun_18_J1267 (σ : sg_S) (L : Nat) (xs : Nat → Int32)  (v3 : Int32)  : EvZ (L, xs) mL_law room_1 1267 [some (.ref 99), some (.ref 0), some (.ref 62), some (.int v3)] [] σ (lw_fun_18_X σ L xs ) (lw_fun_18_J1267 σ L xs  v3) := by
  unfold lw_fun_18_J1267
  refine evz_aload_n iL_law_1267 rfl (by decide) rfl ?_
  refine evz_aload_n iL_law_1268 rfl (by decide) rfl ?_
  refine evz_iload_n iL_law_1269 rfl rfl ?_
  refine evz_iconst iL_law_1270 kI_1 ?_
  refine evz_iadd iL_law_1271 ?_
  refine evz_sald iL_law_1272 ?_
  refine evz_aload_n iL_law_1273 rfl (by decide) rfl ?_
  refine evz_iload_n iL_law_1274 rfl rfl ?_
  refine evz_iconst iL_law_1275 kI_2 ?_
  refine evz_iadd iL_law_1276 ?_
  refine evz_sald iL_law_1277 ?_
  refine evz_VMI iL_law_1278 kV_L_146 (c_ns_as σ (xs (v3 + 1).toNatClampNeg) (xs (v3 + 2).toNatClampNeg)) rc_0 rfl rfl (Nat.le_of_ble_eq_true rfl) (sg_fitW (by decide) (Nat.le_of_ble_eq_true rfl)) (fun r65 => ?_)
  refine evz_aload_n iL_law_1281 rfl (by decide) rfl ?_
  refine evz_aload_n iL_law_1282 rfl (by decide) rfl ?_
  refine evz_iload_n iL_law_1283 rfl rfl ?_
  refine evz_iconst iL_law_1284 kI_1 ?_
  refine evz_iadd iL_law_1285 ?_
  refine evz_sald iL_law_1286 ?_
  refine evz_aload_n iL_law_1287 rfl (by decide) rfl ?_
  refine evz_iload_n iL_law_1288 rfl rfl ?_
  refine evz_iconst iL_law_1289 kI_2 ?_
  refine evz_iadd iL_law_1290 ?_
  refine evz_sald iL_law_1291 ?_
  refine evz_VMI iL_law_1292 kV_L_149 (c_md_as r65.2 (xs (v3 + 1).toNatClampNeg) (xs (v3 + 2).toNatClampNeg)) rc_62 rfl rfl (Nat.le_of_ble_eq_true rfl) (sg_fitW (by decide) (Nat.le_of_ble_eq_true rfl)) (fun r66 => ?_)
  refine evz_icmp_eq iL_law_1295 ?_ ?_
  · refine evz_iinc (v := (v3 + 6)) (ls2 := [some (.ref 99), some (.ref 0), some (.ref 62), some (.int (v3 + 6))]) iL_law_1580 rfl (by rw [kI_6]) (Nat.le_of_ble_eq_true rfl) rfl rfl ?_
    refine evz_goto iL_law_1583 ?_
    exact evz_exit rfl ⟨rfl, rfl, rfl, rfl, trivial⟩
  · refine evz_iconst iL_law_1298 kI_0 ?_
    exact evz_iret iL_law_1299 rfl (fun ty _ => nar0 ty)
def lw_fun_18_J1300 (σ : sg_S) (L : Nat) (xs : Nat → Int32)  (v3 : Int32) : Option ((Int32 × sg_S) ⊕ (sg_S ⊕ (Int32 × sg_S))) :=
  (if sg_in (v3 + 1) L = true then (if sg_in (v3 + 2) L = true then (if sg_in (v3 + 3) L = true then ((ns_sheet σ (xs (v3 + 1).toNatClampNeg) (xs (v3 + 2).toNatClampNeg) (xs (v3 + 3).toNatClampNeg)).bind fun r67 => (if sg_in (v3 + 1) L = true then (if sg_in (v3 + 2) L = true then (if sg_in (v3 + 3) L = true then ((md_sheet r67.2 (xs (v3 + 1).toNatClampNeg) (xs (v3 + 2).toNatClampNeg) (xs (v3 + 3).toNatClampNeg)).bind fun r68 => (if r67.1 = r68.1 then some (.inl ((v3 + 6), r68.2)) else some (.inr (.inr (0, r68.2))))) else none) else none) else none)) else none) else none) else none)
set_option maxRecDepth 100000 in
set_option maxHeartbeats 20000000 in
theorem e_lw_fun_18_J1300 (σ : sg_S) (L : Nat) (xs : Nat → Int32)  (v3 : Int32)  : EvZ (L, xs) mL_law room_1 1300 [some (.ref 99), some (.ref 0), some (.ref 62), some (.int v3)] [] σ (lw_fun_18_X σ L xs ) (lw_fun_18_J1300 σ L xs  v3) := by
  unfold lw_fun_18_J1300
  refine evz_aload_n iL_law_1300 rfl (by decide) rfl ?_
  refine evz_aload_n iL_law_1301 rfl (by decide) rfl ?_
  refine evz_iload_n iL_law_1302 rfl rfl ?_
  refine evz_iconst iL_law_1303 kI_1 ?_
  refine evz_iadd iL_law_1304 ?_
  refine evz_sald iL_law_1305 ?_
  refine evz_aload_n iL_law_1306 rfl (by decide) rfl ?_
  refine evz_iload_n iL_law_1307 rfl rfl ?_
  refine evz_iconst iL_law_1308 kI_2 ?_
  refine evz_iadd iL_law_1309 ?_
  refine evz_sald iL_law_1310 ?_
  refine evz_aload_n iL_law_1311 rfl (by decide) rfl ?_
  refine evz_iload_n iL_law_1312 rfl rfl ?_
  refine evz_iconst iL_law_1313 kI_3 ?_
  refine evz_iadd iL_law_1314 ?_
  refine evz_sald iL_law_1315 ?_
  refine evz_VMI iL_law_1316 kV_L_150 (c_ns_sheet σ (xs (v3 + 1).toNatClampNeg) (xs (v3 + 2).toNatClampNeg) (xs (v3 + 3).toNatClampNeg)) rc_0 rfl rfl (Nat.le_of_ble_eq_true rfl) (sg_fitW (by decide) (Nat.le_of_ble_eq_true rfl)) (fun r67 => ?_)
  refine evz_aload_n iL_law_1319 rfl (by decide) rfl ?_
  refine evz_aload_n iL_law_1320 rfl (by decide) rfl ?_
  refine evz_iload_n iL_law_1321 rfl rfl ?_
  refine evz_iconst iL_law_1322 kI_1 ?_
  refine evz_iadd iL_law_1323 ?_
  refine evz_sald iL_law_1324 ?_
  refine evz_aload_n iL_law_1325 rfl (by decide) rfl ?_
  refine evz_iload_n iL_law_1326 rfl rfl ?_
  refine evz_iconst iL_law_1327 kI_2 ?_
  refine evz_iadd iL_law_1328 ?_
  refine evz_sald iL_law_1329 ?_
  refine evz_aload_n iL_law_1330 rfl (by decide) rfl ?_
  refine evz_iload_n iL_law_1331 rfl rfl ?_
  refine evz_iconst iL_law_1332 kI_3 ?_
  refine evz_iadd iL_law_1333 ?_
  refine evz_sald iL_law_1334 ?_
  refine evz_VMI iL_law_1335 kV_L_153 (c_md_sheet r67.2 (xs (v3 + 1).toNatClampNeg) (xs (v3 + 2).toNatClampNeg) (xs (v3 + 3).toNatClampNeg)) rc_62 rfl rfl (Nat.le_of_ble_eq_true rfl) (sg_fitW (by decide) (Nat.le_of_ble_eq_true rfl)) (fun r68 => ?_)
  refine evz_icmp_eq iL_law_1338 ?_ ?_
  · refine evz_iinc (v := (v3 + 6)) (ls2 := [some (.ref 99), some (.ref 0), some (.ref 62), some (.int (v3 + 6))]) iL_law_1580 rfl (by rw [kI_6]) (Nat.le_of_ble_eq_true rfl) rfl rfl ?_
    refine evz_goto iL_law_1583 ?_
    exact evz_exit rfl ⟨rfl, rfl, rfl, rfl, trivial⟩
  · refine evz_iconst iL_law_1341 kI_0 ?_
    exact evz_iret iL_law_1342 rfl (fun ty _ => nar0 ty)
def lw_fun_18_J1343 (σ : sg_S) (L : Nat) (xs : Nat → Int32)  (v3 : Int32) : Option ((Int32 × sg_S) ⊕ (sg_S ⊕ (Int32 × sg_S))) :=
  (if sg_in (v3 + 1) L = true then (if sg_in (v3 + 2) L = true then (if sg_in (v3 + 3) L = true then ((ns_write σ (xs (v3 + 1).toNatClampNeg) (xs (v3 + 2).toNatClampNeg) (xs (v3 + 3).toNatClampNeg)).bind fun r69 => (if sg_in (v3 + 1) L = true then (if sg_in (v3 + 2) L = true then (if sg_in (v3 + 3) L = true then ((md_write r69.2 (xs (v3 + 1).toNatClampNeg) (xs (v3 + 2).toNatClampNeg) (xs (v3 + 3).toNatClampNeg)).bind fun r70 => (if r69.1 = r70.1 then some (.inl ((v3 + 6), r70.2)) else some (.inr (.inr (0, r70.2))))) else none) else none) else none)) else none) else none) else none)
set_option maxRecDepth 100000 in
set_option maxHeartbeats 20000000 in
theorem e_lw_fun_18_J1343 (σ : sg_S) (L : Nat) (xs : Nat → Int32)  (v3 : Int32)  : EvZ (L, xs) mL_law room_1 1343 [some (.ref 99), some (.ref 0), some (.ref 62), some (.int v3)] [] σ (lw_fun_18_X σ L xs ) (lw_fun_18_J1343 σ L xs  v3) := by
  unfold lw_fun_18_J1343
  refine evz_aload_n iL_law_1343 rfl (by decide) rfl ?_
  refine evz_aload_n iL_law_1344 rfl (by decide) rfl ?_
  refine evz_iload_n iL_law_1345 rfl rfl ?_
  refine evz_iconst iL_law_1346 kI_1 ?_
  refine evz_iadd iL_law_1347 ?_
  refine evz_sald iL_law_1348 ?_
  refine evz_aload_n iL_law_1349 rfl (by decide) rfl ?_
  refine evz_iload_n iL_law_1350 rfl rfl ?_
  refine evz_iconst iL_law_1351 kI_2 ?_
  refine evz_iadd iL_law_1352 ?_
  refine evz_sald iL_law_1353 ?_
  refine evz_aload_n iL_law_1354 rfl (by decide) rfl ?_
  refine evz_iload_n iL_law_1355 rfl rfl ?_
  refine evz_iconst iL_law_1356 kI_3 ?_
  refine evz_iadd iL_law_1357 ?_
  refine evz_sald iL_law_1358 ?_
  refine evz_VMI iL_law_1359 kV_L_154 (c_ns_write σ (xs (v3 + 1).toNatClampNeg) (xs (v3 + 2).toNatClampNeg) (xs (v3 + 3).toNatClampNeg)) rc_0 rfl rfl (Nat.le_of_ble_eq_true rfl) (sg_fitW (by decide) (Nat.le_of_ble_eq_true rfl)) (fun r69 => ?_)
  refine evz_aload_n iL_law_1362 rfl (by decide) rfl ?_
  refine evz_aload_n iL_law_1363 rfl (by decide) rfl ?_
  refine evz_iload_n iL_law_1364 rfl rfl ?_
  refine evz_iconst iL_law_1365 kI_1 ?_
  refine evz_iadd iL_law_1366 ?_
  refine evz_sald iL_law_1367 ?_
  refine evz_aload_n iL_law_1368 rfl (by decide) rfl ?_
  refine evz_iload_n iL_law_1369 rfl rfl ?_
  refine evz_iconst iL_law_1370 kI_2 ?_
  refine evz_iadd iL_law_1371 ?_
  refine evz_sald iL_law_1372 ?_
  refine evz_aload_n iL_law_1373 rfl (by decide) rfl ?_
  refine evz_iload_n iL_law_1374 rfl rfl ?_
  refine evz_iconst iL_law_1375 kI_3 ?_
  refine evz_iadd iL_law_1376 ?_
  refine evz_sald iL_law_1377 ?_
  refine evz_VMI iL_law_1378 kV_L_157 (c_md_write r69.2 (xs (v3 + 1).toNatClampNeg) (xs (v3 + 2).toNatClampNeg) (xs (v3 + 3).toNatClampNeg)) rc_62 rfl rfl (Nat.le_of_ble_eq_true rfl) (sg_fitW (by decide) (Nat.le_of_ble_eq_true rfl)) (fun r70 => ?_)
  refine evz_icmp_eq iL_law_1381 ?_ ?_
  · refine evz_iinc (v := (v3 + 6)) (ls2 := [some (.ref 99), some (.ref 0), some (.ref 62), some (.int (v3 + 6))]) iL_law_1580 rfl (by rw [kI_6]) (Nat.le_of_ble_eq_true rfl) rfl rfl ?_
    refine evz_goto iL_law_1583 ?_
    exact evz_exit rfl ⟨rfl, rfl, rfl, rfl, trivial⟩
  · refine evz_iconst iL_law_1384 kI_0 ?_
    exact evz_iret iL_law_1385 rfl (fun ty _ => nar0 ty)
def lw_fun_18_J1386 (σ : sg_S) (L : Nat) (xs : Nat → Int32)  (v3 : Int32) : Option ((Int32 × sg_S) ⊕ (sg_S ⊕ (Int32 × sg_S))) :=
  (if sg_in (v3 + 1) L = true then (if sg_in (v3 + 2) L = true then (if sg_in (v3 + 3) L = true then (if sg_in (v3 + 4) L = true then (if sg_in (v3 + 5) L = true then ((ns_copy σ (xs (v3 + 1).toNatClampNeg) (xs (v3 + 2).toNatClampNeg) (xs (v3 + 3).toNatClampNeg) (xs (v3 + 4).toNatClampNeg) (xs (v3 + 5).toNatClampNeg)).bind fun r71 => (if sg_in (v3 + 1) L = true then (if sg_in (v3 + 2) L = true then (if sg_in (v3 + 3) L = true then (if sg_in (v3 + 4) L = true then (if sg_in (v3 + 5) L = true then ((md_copy r71.2 (xs (v3 + 1).toNatClampNeg) (xs (v3 + 2).toNatClampNeg) (xs (v3 + 3).toNatClampNeg) (xs (v3 + 4).toNatClampNeg) (xs (v3 + 5).toNatClampNeg)).bind fun r72 => (if r71.1 = r72.1 then some (.inl ((v3 + 6), r72.2)) else some (.inr (.inr (0, r72.2))))) else none) else none) else none) else none) else none)) else none) else none) else none) else none) else none)
set_option maxRecDepth 100000 in
set_option maxHeartbeats 20000000 in
theorem e_lw_fun_18_J1386 (σ : sg_S) (L : Nat) (xs : Nat → Int32)  (v3 : Int32)  : EvZ (L, xs) mL_law room_1 1386 [some (.ref 99), some (.ref 0), some (.ref 62), some (.int v3)] [] σ (lw_fun_18_X σ L xs ) (lw_fun_18_J1386 σ L xs  v3) := by
  unfold lw_fun_18_J1386
  refine evz_aload_n iL_law_1386 rfl (by decide) rfl ?_
  refine evz_aload_n iL_law_1387 rfl (by decide) rfl ?_
  refine evz_iload_n iL_law_1388 rfl rfl ?_
  refine evz_iconst iL_law_1389 kI_1 ?_
  refine evz_iadd iL_law_1390 ?_
  refine evz_sald iL_law_1391 ?_
  refine evz_aload_n iL_law_1392 rfl (by decide) rfl ?_
  refine evz_iload_n iL_law_1393 rfl rfl ?_
  refine evz_iconst iL_law_1394 kI_2 ?_
  refine evz_iadd iL_law_1395 ?_
  refine evz_sald iL_law_1396 ?_
  refine evz_aload_n iL_law_1397 rfl (by decide) rfl ?_
  refine evz_iload_n iL_law_1398 rfl rfl ?_
  refine evz_iconst iL_law_1399 kI_3 ?_
  refine evz_iadd iL_law_1400 ?_
  refine evz_sald iL_law_1401 ?_
  refine evz_aload_n iL_law_1402 rfl (by decide) rfl ?_
  refine evz_iload_n iL_law_1403 rfl rfl ?_
  refine evz_iconst iL_law_1404 kI_4 ?_
  refine evz_iadd iL_law_1405 ?_
  refine evz_sald iL_law_1406 ?_
  refine evz_aload_n iL_law_1407 rfl (by decide) rfl ?_
  refine evz_iload_n iL_law_1408 rfl rfl ?_
  refine evz_iconst iL_law_1409 kI_5 ?_
  refine evz_iadd iL_law_1410 ?_
  refine evz_sald iL_law_1411 ?_
  refine evz_VMI iL_law_1412 kV_L_158 (c_ns_copy σ (xs (v3 + 1).toNatClampNeg) (xs (v3 + 2).toNatClampNeg) (xs (v3 + 3).toNatClampNeg) (xs (v3 + 4).toNatClampNeg) (xs (v3 + 5).toNatClampNeg)) rc_0 rfl rfl (Nat.le_of_ble_eq_true rfl) (sg_fitW (by decide) (Nat.le_of_ble_eq_true rfl)) (fun r71 => ?_)
  refine evz_aload_n iL_law_1415 rfl (by decide) rfl ?_
  refine evz_aload_n iL_law_1416 rfl (by decide) rfl ?_
  refine evz_iload_n iL_law_1417 rfl rfl ?_
  refine evz_iconst iL_law_1418 kI_1 ?_
  refine evz_iadd iL_law_1419 ?_
  refine evz_sald iL_law_1420 ?_
  refine evz_aload_n iL_law_1421 rfl (by decide) rfl ?_
  refine evz_iload_n iL_law_1422 rfl rfl ?_
  refine evz_iconst iL_law_1423 kI_2 ?_
  refine evz_iadd iL_law_1424 ?_
  refine evz_sald iL_law_1425 ?_
  refine evz_aload_n iL_law_1426 rfl (by decide) rfl ?_
  refine evz_iload_n iL_law_1427 rfl rfl ?_
  refine evz_iconst iL_law_1428 kI_3 ?_
  refine evz_iadd iL_law_1429 ?_
  refine evz_sald iL_law_1430 ?_
  refine evz_aload_n iL_law_1431 rfl (by decide) rfl ?_
  refine evz_iload_n iL_law_1432 rfl rfl ?_
  refine evz_iconst iL_law_1433 kI_4 ?_
  refine evz_iadd iL_law_1434 ?_
  refine evz_sald iL_law_1435 ?_
  refine evz_aload_n iL_law_1436 rfl (by decide) rfl ?_
  refine evz_iload_n iL_law_1437 rfl rfl ?_
  refine evz_iconst iL_law_1438 kI_5 ?_
  refine evz_iadd iL_law_1439 ?_
  refine evz_sald iL_law_1440 ?_
  refine evz_VMI iL_law_1441 kV_L_162 (c_md_copy r71.2 (xs (v3 + 1).toNatClampNeg) (xs (v3 + 2).toNatClampNeg) (xs (v3 + 3).toNatClampNeg) (xs (v3 + 4).toNatClampNeg) (xs (v3 + 5).toNatClampNeg)) rc_62 rfl rfl (Nat.le_of_ble_eq_true rfl) (sg_fitW (by decide) (Nat.le_of_ble_eq_true rfl)) (fun r72 => ?_)
  refine evz_icmp_eq iL_law_1444 ?_ ?_
  · refine evz_iinc (v := (v3 + 6)) (ls2 := [some (.ref 99), some (.ref 0), some (.ref 62), some (.int (v3 + 6))]) iL_law_1580 rfl (by rw [kI_6]) (Nat.le_of_ble_eq_true rfl) rfl rfl ?_
    refine evz_goto iL_law_1583 ?_
    exact evz_exit rfl ⟨rfl, rfl, rfl, rfl, trivial⟩
  · refine evz_iconst iL_law_1447 kI_0 ?_
    exact evz_iret iL_law_1448 rfl (fun ty _ => nar0 ty)
def lw_fun_18_J1449 (σ : sg_S) (L : Nat) (xs : Nat → Int32)  (v3 : Int32) : Option ((Int32 × sg_S) ⊕ (sg_S ⊕ (Int32 × sg_S))) :=
  (if sg_in (v3 + 1) L = true then ((ns_load σ (xs (v3 + 1).toNatClampNeg)).bind fun r73 => (if sg_in (v3 + 1) L = true then ((md_load r73.2 (xs (v3 + 1).toNatClampNeg)).bind fun r74 => (if r73.1 = r74.1 then some (.inl ((v3 + 6), r74.2)) else some (.inr (.inr (0, r74.2))))) else none)) else none)
set_option maxRecDepth 100000 in
set_option maxHeartbeats 20000000 in
theorem e_lw_fun_18_J1449 (σ : sg_S) (L : Nat) (xs : Nat → Int32)  (v3 : Int32)  : EvZ (L, xs) mL_law room_1 1449 [some (.ref 99), some (.ref 0), some (.ref 62), some (.int v3)] [] σ (lw_fun_18_X σ L xs ) (lw_fun_18_J1449 σ L xs  v3) := by
  unfold lw_fun_18_J1449
  refine evz_aload_n iL_law_1449 rfl (by decide) rfl ?_
  refine evz_aload_n iL_law_1450 rfl (by decide) rfl ?_
  refine evz_iload_n iL_law_1451 rfl rfl ?_
  refine evz_iconst iL_law_1452 kI_1 ?_
  refine evz_iadd iL_law_1453 ?_
  refine evz_sald iL_law_1454 ?_
  refine evz_VMI iL_law_1455 kV_L_163 (c_ns_load σ (xs (v3 + 1).toNatClampNeg)) rc_0 rfl rfl (Nat.le_of_ble_eq_true rfl) (sg_fitW (by decide) (Nat.le_of_ble_eq_true rfl)) (fun r73 => ?_)
  refine evz_aload_n iL_law_1458 rfl (by decide) rfl ?_
  refine evz_aload_n iL_law_1459 rfl (by decide) rfl ?_
  refine evz_iload_n iL_law_1460 rfl rfl ?_
  refine evz_iconst iL_law_1461 kI_1 ?_
  refine evz_iadd iL_law_1462 ?_
  refine evz_sald iL_law_1463 ?_
  refine evz_VMI iL_law_1464 kV_L_166 (c_md_load r73.2 (xs (v3 + 1).toNatClampNeg)) rc_62 rfl rfl (Nat.le_of_ble_eq_true rfl) (sg_fitW (by decide) (Nat.le_of_ble_eq_true rfl)) (fun r74 => ?_)
  refine evz_icmp_eq iL_law_1467 ?_ ?_
  · refine evz_iinc (v := (v3 + 6)) (ls2 := [some (.ref 99), some (.ref 0), some (.ref 62), some (.int (v3 + 6))]) iL_law_1580 rfl (by rw [kI_6]) (Nat.le_of_ble_eq_true rfl) rfl rfl ?_
    refine evz_goto iL_law_1583 ?_
    exact evz_exit rfl ⟨rfl, rfl, rfl, rfl, trivial⟩
  · refine evz_iconst iL_law_1470 kI_0 ?_
    exact evz_iret iL_law_1471 rfl (fun ty _ => nar0 ty)
def lw_fun_18_J1472 (σ : sg_S) (L : Nat) (xs : Nat → Int32)  (v3 : Int32) : Option ((Int32 × sg_S) ⊕ (sg_S ⊕ (Int32 × sg_S))) :=
  (if sg_in (v3 + 1) L = true then ((ns_judge σ (xs (v3 + 1).toNatClampNeg)).bind fun r75 => (if sg_in (v3 + 1) L = true then ((md_judge r75.2 (xs (v3 + 1).toNatClampNeg)).bind fun r76 => (if r75.1 = r76.1 then some (.inl ((v3 + 6), r76.2)) else some (.inr (.inr (0, r76.2))))) else none)) else none)
set_option maxRecDepth 100000 in
set_option maxHeartbeats 20000000 in
theorem e_lw_fun_18_J1472 (σ : sg_S) (L : Nat) (xs : Nat → Int32)  (v3 : Int32)  : EvZ (L, xs) mL_law room_1 1472 [some (.ref 99), some (.ref 0), some (.ref 62), some (.int v3)] [] σ (lw_fun_18_X σ L xs ) (lw_fun_18_J1472 σ L xs  v3) := by
  unfold lw_fun_18_J1472
  refine evz_aload_n iL_law_1472 rfl (by decide) rfl ?_
  refine evz_aload_n iL_law_1473 rfl (by decide) rfl ?_
  refine evz_iload_n iL_law_1474 rfl rfl ?_
  refine evz_iconst iL_law_1475 kI_1 ?_
  refine evz_iadd iL_law_1476 ?_
  refine evz_sald iL_law_1477 ?_
  refine evz_VMI iL_law_1478 kV_L_167 (c_ns_judge σ (xs (v3 + 1).toNatClampNeg)) rc_0 rfl rfl (Nat.le_of_ble_eq_true rfl) (sg_fitW (by decide) (Nat.le_of_ble_eq_true rfl)) (fun r75 => ?_)
  refine evz_aload_n iL_law_1481 rfl (by decide) rfl ?_
  refine evz_aload_n iL_law_1482 rfl (by decide) rfl ?_
  refine evz_iload_n iL_law_1483 rfl rfl ?_
  refine evz_iconst iL_law_1484 kI_1 ?_
  refine evz_iadd iL_law_1485 ?_
  refine evz_sald iL_law_1486 ?_
  refine evz_VMI iL_law_1487 kV_L_170 (c_md_judge r75.2 (xs (v3 + 1).toNatClampNeg)) rc_62 rfl rfl (Nat.le_of_ble_eq_true rfl) (sg_fitW (by decide) (Nat.le_of_ble_eq_true rfl)) (fun r76 => ?_)
  refine evz_icmp_eq iL_law_1490 ?_ ?_
  · refine evz_iinc (v := (v3 + 6)) (ls2 := [some (.ref 99), some (.ref 0), some (.ref 62), some (.int (v3 + 6))]) iL_law_1580 rfl (by rw [kI_6]) (Nat.le_of_ble_eq_true rfl) rfl rfl ?_
    refine evz_goto iL_law_1583 ?_
    exact evz_exit rfl ⟨rfl, rfl, rfl, rfl, trivial⟩
  · refine evz_iconst iL_law_1493 kI_0 ?_
    exact evz_iret iL_law_1494 rfl (fun ty _ => nar0 ty)
def lw_fun_18_J1495 (σ : sg_S) (L : Nat) (xs : Nat → Int32)  (v3 : Int32) : Option ((Int32 × sg_S) ⊕ (sg_S ⊕ (Int32 × sg_S))) :=
  ((ns_image σ).bind fun r77 => ((md_image r77.2).bind fun r78 => (if r77.1 = r78.1 then some (.inl ((v3 + 6), r78.2)) else some (.inr (.inr (0, r78.2))))))
set_option maxRecDepth 100000 in
set_option maxHeartbeats 20000000 in
theorem e_lw_fun_18_J1495 (σ : sg_S) (L : Nat) (xs : Nat → Int32)  (v3 : Int32)  : EvZ (L, xs) mL_law room_1 1495 [some (.ref 99), some (.ref 0), some (.ref 62), some (.int v3)] [] σ (lw_fun_18_X σ L xs ) (lw_fun_18_J1495 σ L xs  v3) := by
  unfold lw_fun_18_J1495
  refine evz_aload_n iL_law_1495 rfl (by decide) rfl ?_
  refine evz_VMI iL_law_1496 kV_L_171 (c_ns_image σ ) rc_0 rfl rfl (Nat.le_of_ble_eq_true rfl) (sg_fitW (by decide) (Nat.le_of_ble_eq_true rfl)) (fun r77 => ?_)
  refine evz_aload_n iL_law_1499 rfl (by decide) rfl ?_
  refine evz_VMI iL_law_1500 kV_L_174 (c_md_image r77.2 ) rc_62 rfl rfl (Nat.le_of_ble_eq_true rfl) (sg_fitW (by decide) (Nat.le_of_ble_eq_true rfl)) (fun r78 => ?_)
  refine evz_icmp_eq iL_law_1503 ?_ ?_
  · refine evz_iinc (v := (v3 + 6)) (ls2 := [some (.ref 99), some (.ref 0), some (.ref 62), some (.int (v3 + 6))]) iL_law_1580 rfl (by rw [kI_6]) (Nat.le_of_ble_eq_true rfl) rfl rfl ?_
    refine evz_goto iL_law_1583 ?_
    exact evz_exit rfl ⟨rfl, rfl, rfl, rfl, trivial⟩
  · refine evz_iconst iL_law_1506 kI_0 ?_
    exact evz_iret iL_law_1507 rfl (fun ty _ => nar0 ty)
def lw_fun_18_J1508 (σ : sg_S) (L : Nat) (xs : Nat → Int32)  (v3 : Int32) : Option ((Int32 × sg_S) ⊕ (sg_S ⊕ (Int32 × sg_S))) :=
  ((ns_undo σ).bind fun r79 => ((md_undo r79.2).bind fun r80 => (if r79.1 = r80.1 then some (.inl ((v3 + 6), r80.2)) else some (.inr (.inr (0, r80.2))))))
set_option maxRecDepth 100000 in
set_option maxHeartbeats 20000000 in
theorem e_lw_fun_18_J1508 (σ : sg_S) (L : Nat) (xs : Nat → Int32)  (v3 : Int32)  : EvZ (L, xs) mL_law room_1 1508 [some (.ref 99), some (.ref 0), some (.ref 62), some (.int v3)] [] σ (lw_fun_18_X σ L xs ) (lw_fun_18_J1508 σ L xs  v3) := by
  unfold lw_fun_18_J1508
  refine evz_aload_n iL_law_1508 rfl (by decide) rfl ?_
  refine evz_VMI iL_law_1509 kV_L_175 (c_ns_undo σ ) rc_0 rfl rfl (Nat.le_of_ble_eq_true rfl) (sg_fitW (by decide) (Nat.le_of_ble_eq_true rfl)) (fun r79 => ?_)
  refine evz_aload_n iL_law_1512 rfl (by decide) rfl ?_
  refine evz_VMI iL_law_1513 kV_L_178 (c_md_undo r79.2 ) rc_62 rfl rfl (Nat.le_of_ble_eq_true rfl) (sg_fitW (by decide) (Nat.le_of_ble_eq_true rfl)) (fun r80 => ?_)
  refine evz_icmp_eq iL_law_1516 ?_ ?_
  · refine evz_iinc (v := (v3 + 6)) (ls2 := [some (.ref 99), some (.ref 0), some (.ref 62), some (.int (v3 + 6))]) iL_law_1580 rfl (by rw [kI_6]) (Nat.le_of_ble_eq_true rfl) rfl rfl ?_
    refine evz_goto iL_law_1583 ?_
    exact evz_exit rfl ⟨rfl, rfl, rfl, rfl, trivial⟩
  · refine evz_iconst iL_law_1519 kI_0 ?_
    exact evz_iret iL_law_1520 rfl (fun ty _ => nar0 ty)
def lw_fun_18_J1521 (σ : sg_S) (L : Nat) (xs : Nat → Int32)  (v3 : Int32) : Option ((Int32 × sg_S) ⊕ (sg_S ⊕ (Int32 × sg_S))) :=
  ((ns_tear σ).bind fun r81 => ((md_tear r81.2).bind fun r82 => (if r81.1 = r82.1 then some (.inl ((v3 + 6), r82.2)) else some (.inr (.inr (0, r82.2))))))
set_option maxRecDepth 100000 in
set_option maxHeartbeats 20000000 in
theorem e_lw_fun_18_J1521 (σ : sg_S) (L : Nat) (xs : Nat → Int32)  (v3 : Int32)  : EvZ (L, xs) mL_law room_1 1521 [some (.ref 99), some (.ref 0), some (.ref 62), some (.int v3)] [] σ (lw_fun_18_X σ L xs ) (lw_fun_18_J1521 σ L xs  v3) := by
  unfold lw_fun_18_J1521
  refine evz_aload_n iL_law_1521 rfl (by decide) rfl ?_
  refine evz_VMI iL_law_1522 kV_L_179 (c_ns_tear σ ) rc_0 rfl rfl (Nat.le_of_ble_eq_true rfl) (sg_fitW (by decide) (Nat.le_of_ble_eq_true rfl)) (fun r81 => ?_)
  refine evz_aload_n iL_law_1525 rfl (by decide) rfl ?_
  refine evz_VMI iL_law_1526 kV_L_182 (c_md_tear r81.2 ) rc_62 rfl rfl (Nat.le_of_ble_eq_true rfl) (sg_fitW (by decide) (Nat.le_of_ble_eq_true rfl)) (fun r82 => ?_)
  refine evz_icmp_eq iL_law_1529 ?_ ?_
  · refine evz_iinc (v := (v3 + 6)) (ls2 := [some (.ref 99), some (.ref 0), some (.ref 62), some (.int (v3 + 6))]) iL_law_1580 rfl (by rw [kI_6]) (Nat.le_of_ble_eq_true rfl) rfl rfl ?_
    refine evz_goto iL_law_1583 ?_
    exact evz_exit rfl ⟨rfl, rfl, rfl, rfl, trivial⟩
  · refine evz_iconst iL_law_1532 kI_0 ?_
    exact evz_iret iL_law_1533 rfl (fun ty _ => nar0 ty)
def lw_fun_18_J1534 (σ : sg_S) (L : Nat) (xs : Nat → Int32)  (v3 : Int32) : Option ((Int32 × sg_S) ⊕ (sg_S ⊕ (Int32 × sg_S))) :=
  (if sg_in (v3 + 1) L = true then ((ns_count σ (xs (v3 + 1).toNatClampNeg)).bind fun r83 => (if sg_in (v3 + 1) L = true then ((md_count r83.2 (xs (v3 + 1).toNatClampNeg)).bind fun r84 => (if r83.1 = r84.1 then some (.inl ((v3 + 6), r84.2)) else some (.inr (.inr (0, r84.2))))) else none)) else none)
set_option maxRecDepth 100000 in
set_option maxHeartbeats 20000000 in
theorem e_lw_fun_18_J1534 (σ : sg_S) (L : Nat) (xs : Nat → Int32)  (v3 : Int32)  : EvZ (L, xs) mL_law room_1 1534 [some (.ref 99), some (.ref 0), some (.ref 62), some (.int v3)] [] σ (lw_fun_18_X σ L xs ) (lw_fun_18_J1534 σ L xs  v3) := by
  unfold lw_fun_18_J1534
  refine evz_aload_n iL_law_1534 rfl (by decide) rfl ?_
  refine evz_aload_n iL_law_1535 rfl (by decide) rfl ?_
  refine evz_iload_n iL_law_1536 rfl rfl ?_
  refine evz_iconst iL_law_1537 kI_1 ?_
  refine evz_iadd iL_law_1538 ?_
  refine evz_sald iL_law_1539 ?_
  refine evz_VMI iL_law_1540 kV_L_183 (c_ns_count σ (xs (v3 + 1).toNatClampNeg)) rc_0 rfl rfl (Nat.le_of_ble_eq_true rfl) (sg_fitW (by decide) (Nat.le_of_ble_eq_true rfl)) (fun r83 => ?_)
  refine evz_aload_n iL_law_1543 rfl (by decide) rfl ?_
  refine evz_aload_n iL_law_1544 rfl (by decide) rfl ?_
  refine evz_iload_n iL_law_1545 rfl rfl ?_
  refine evz_iconst iL_law_1546 kI_1 ?_
  refine evz_iadd iL_law_1547 ?_
  refine evz_sald iL_law_1548 ?_
  refine evz_VMI iL_law_1549 kV_L_186 (c_md_count r83.2 (xs (v3 + 1).toNatClampNeg)) rc_62 rfl rfl (Nat.le_of_ble_eq_true rfl) (sg_fitW (by decide) (Nat.le_of_ble_eq_true rfl)) (fun r84 => ?_)
  refine evz_icmp_eq iL_law_1552 ?_ ?_
  · refine evz_iinc (v := (v3 + 6)) (ls2 := [some (.ref 99), some (.ref 0), some (.ref 62), some (.int (v3 + 6))]) iL_law_1580 rfl (by rw [kI_6]) (Nat.le_of_ble_eq_true rfl) rfl rfl ?_
    refine evz_goto iL_law_1583 ?_
    exact evz_exit rfl ⟨rfl, rfl, rfl, rfl, trivial⟩
  · refine evz_iconst iL_law_1555 kI_0 ?_
    exact evz_iret iL_law_1556 rfl (fun ty _ => nar0 ty)
def lw_fun_18_J1557 (σ : sg_S) (L : Nat) (xs : Nat → Int32)  (v3 : Int32) : Option ((Int32 × sg_S) ⊕ (sg_S ⊕ (Int32 × sg_S))) :=
  (if sg_in (v3 + 1) L = true then ((ns_status σ (xs (v3 + 1).toNatClampNeg)).bind fun r85 => (if sg_in (v3 + 1) L = true then ((md_status r85.2 (xs (v3 + 1).toNatClampNeg)).bind fun r86 => (if r85.1 = r86.1 then some (.inl ((v3 + 6), r86.2)) else some (.inr (.inr (0, r86.2))))) else none)) else none)
set_option maxRecDepth 100000 in
set_option maxHeartbeats 20000000 in
theorem e_lw_fun_18_J1557 (σ : sg_S) (L : Nat) (xs : Nat → Int32)  (v3 : Int32)  : EvZ (L, xs) mL_law room_1 1557 [some (.ref 99), some (.ref 0), some (.ref 62), some (.int v3)] [] σ (lw_fun_18_X σ L xs ) (lw_fun_18_J1557 σ L xs  v3) := by
  unfold lw_fun_18_J1557
  refine evz_aload_n iL_law_1557 rfl (by decide) rfl ?_
  refine evz_aload_n iL_law_1558 rfl (by decide) rfl ?_
  refine evz_iload_n iL_law_1559 rfl rfl ?_
  refine evz_iconst iL_law_1560 kI_1 ?_
  refine evz_iadd iL_law_1561 ?_
  refine evz_sald iL_law_1562 ?_
  refine evz_VMI iL_law_1563 kV_L_187 (c_ns_status σ (xs (v3 + 1).toNatClampNeg)) rc_0 rfl rfl (Nat.le_of_ble_eq_true rfl) (sg_fitW (by decide) (Nat.le_of_ble_eq_true rfl)) (fun r85 => ?_)
  refine evz_aload_n iL_law_1566 rfl (by decide) rfl ?_
  refine evz_aload_n iL_law_1567 rfl (by decide) rfl ?_
  refine evz_iload_n iL_law_1568 rfl rfl ?_
  refine evz_iconst iL_law_1569 kI_1 ?_
  refine evz_iadd iL_law_1570 ?_
  refine evz_sald iL_law_1571 ?_
  refine evz_VMI iL_law_1572 kV_L_190 (c_md_status r85.2 (xs (v3 + 1).toNatClampNeg)) rc_62 rfl rfl (Nat.le_of_ble_eq_true rfl) (sg_fitW (by decide) (Nat.le_of_ble_eq_true rfl)) (fun r86 => ?_)
  refine evz_icmp_eq iL_law_1575 ?_ ?_
  · refine evz_iinc (v := (v3 + 6)) (ls2 := [some (.ref 99), some (.ref 0), some (.ref 62), some (.int (v3 + 6))]) iL_law_1580 rfl (by rw [kI_6]) (Nat.le_of_ble_eq_true rfl) rfl rfl ?_
    refine evz_goto iL_law_1583 ?_
    exact evz_exit rfl ⟨rfl, rfl, rfl, rfl, trivial⟩
  · refine evz_iconst iL_law_1578 kI_0 ?_
    exact evz_iret iL_law_1579 rfl (fun ty _ => nar0 ty)
