set_option maxHeartbeats 4000000 in
set_option maxRecDepth 100000 in
theorem lc_array {p : Program} {l : Launch} {e : Env} {s : State} {m : MethodId} {below : List Frame} {meth : Method} {c : Code} {b L : Nat} {xs : Nat → Int32} {D : va_G} {ca : Nat → ClassId} {kS : Nat → Nat} {kT : Nat} {A : Nat → Prop} {a0 : pw_A} {c0 : pw_C} (hE : lw_E p s m meth c b L xs D ca kS kT A) {i : Nat} (hi : i + 6 ≤ L) {ad : pw_A} {C : pw_C} (hI : lw_I ca kS kT ad C) {H : Heap} {locs : List Loc} {ls : Array Slot} (hw : pw_H D cls9 A s.heap a0 c0 ad C H locs) (hl : lv_has ls 4 [(3, .int (nI i)), (2, .ref (ad 30 0)), (1, .ref (ad 0 0)), (0, .ref b)]) {cells slots : Nat} (hc : cells + 7 ≤ 600000) (hs : slots + 90 ≤ 7302250) {Q : State → Prop} (kk : ∀ (ad' : pw_A) (C' : pw_C) (H' : Heap) (locs' : List Loc), lw_I ca kS kT ad' C' → ad' 0 0 = ad 0 0 → ad' 30 0 = ad 30 0 → pw_H D cls9 A s.heap a0 c0 ad' C' H' locs' → W p l e ({ frames := 2048, cells := 600000, slots := 7302250, locals := 84000 }) s m #[Value.ref b] below meth c H' locs' (cells + 7) (slots + 90) Q (F0 m 788 ls [])) : W p l e ({ frames := 2048, cells := 600000, slots := 7302250, locals := 84000 }) s m #[Value.ref b] below meth c H locs cells slots Q (F0 m 340 ls []) := by
  obtain ⟨hx, hb, hr, hml, hown, hts0, hX, hbl, hbA, hA, hlocks, hL, hK, hz⟩ := hE
  have hts := wd_hts hts0
  have hZ := z9_ok kS kT
  obtain ⟨C1, cd, mk, td, x, q, sn, r, hJ, f1, f2, f3, f4, hw⟩ := lw_clean hI hw
  obtain ⟨hG, hO, hR, hP⟩ := hJ
  clear hI
  refine lv_aload_n hx hb d_L_law_340 rfl (lv_at hl 2 rfl) ?_
  refine lv_aload_n hx hb d_L_law_341 rfl (lv_at hl 3 rfl) ?_
  refine lv_iload_n hx hb d_L_law_342 rfl (lv_at hl 0 rfl) ?_
  refine lv_iconst (v := 1) hx hb d_L_law_343 (by decide) ?_
  refine lv_iadd hx hb d_L_law_344 ?_
  refine lw_ld hx hb hX hbl hbA hw.2.2.1 hi hL 1 (by decide) (by decide) d_L_law_345 ?_
  refine lw_bool hx hb d_L_law_346 d_L_law_349 d_L_law_350 d_L_law_353 ?_
  refine lv_aload_n hx hb d_L_law_354 rfl (lv_at hl 3 rfl) ?_
  refine lv_iload_n hx hb d_L_law_355 rfl (lv_at hl 0 rfl) ?_
  refine lv_iconst (v := 2) hx hb d_L_law_356 (by decide) ?_
  refine lv_iadd hx hb d_L_law_357 ?_
  refine lw_ld hx hb hX hbl hbA hw.2.2.1 hi hL 2 (by decide) (by decide) d_L_law_358 ?_
  refine pw_calli (va_runV (As := [.int (if xs (i + 1) = 0 then 0 else 1), .int (xs (i + 2))]) (rest := []) ⟨hx, hb, hml, hown, hts0⟩ (k_G_array hG f2 (if xs (i + 1) = 0 then 0 else 1) (xs (i + 2)) _) (cwV 2 hts0 (wd_V wd_535 wd_532 wd_533 wd_534 wd_53) rfl rfl rfl (by decide +kernel) ⟨(by (try dsimp only); omega), (by (try dsimp only); omega)⟩) (pw_preV hZ hw hA hK hz rfl hG.1 rfl) rfl rfl hl.1 rfl (lv_room (Nat.le_of_ble_eq_true rfl)) d_L_law_359 ⟨(by (try dsimp only); omega), (by (try dsimp only); omega)⟩) hw hA (fun r_3 ad_1 C_2 H locs hp hw => ?_)
  obtain ⟨⟨hG, hf⟩, er⟩ := hp
  obtain ⟨hO, hR⟩ := lf_1 hO hR (fun x y h => hf.1 x y (by omega) (by omega) (by omega)) (fun x y h => hf.2 x y (by omega))
  have h00 : ad_1 0 0 = ad 0 0 := hf.2 0 0 (by omega)
  have h30 : ad_1 30 0 = ad 30 0 := hf.2 30 0 (by omega)
  have hl : lv_has ls 4 [(3, .int (nI i)), (2, .ref (ad_1 30 0)), (1, .ref (ad_1 0 0)), (0, .ref b)] := by rw [h30, h00]; exact hl
  refine lv_aload_n hx hb d_L_law_362 rfl (lv_at hl 1 rfl) ?_
  refine lv_aload_n hx hb d_L_law_363 rfl (lv_at hl 3 rfl) ?_
  refine lv_iload_n hx hb d_L_law_364 rfl (lv_at hl 0 rfl) ?_
  refine lv_iconst (v := 1) hx hb d_L_law_365 (by decide) ?_
  refine lv_iadd hx hb d_L_law_366 ?_
  refine lw_ld hx hb hX hbl hbA hw.2.2.1 hi hL 1 (by decide) (by decide) d_L_law_367 ?_
  refine lw_bool hx hb d_L_law_368 d_L_law_371 d_L_law_372 d_L_law_375 ?_
  refine lv_aload_n hx hb d_L_law_376 rfl (lv_at hl 3 rfl) ?_
  refine lv_iload_n hx hb d_L_law_377 rfl (lv_at hl 0 rfl) ?_
  refine lv_iconst (v := 2) hx hb d_L_law_378 (by decide) ?_
  refine lv_iadd hx hb d_L_law_379 ?_
  refine lw_ld hx hb hX hbl hbA hw.2.2.1 hi hL 2 (by decide) (by decide) d_L_law_380 ?_
  obtain ⟨r9, hM, hP⟩ := p_array hP (if xs (i + 1) = 0 then 0 else 1) (xs (i + 2))
  refine pw_calli (va_runV (As := [.int (if xs (i + 1) = 0 then 0 else 1), .int (xs (i + 2))]) (rest := [.int r_3]) ⟨hx, hb, hml, hown, hts0⟩ (k_M_array hR hM _) (cwV 2 hts0 (wd_V wd_897 wd_894 wd_895 wd_896 wd_56) rfl rfl rfl (by decide +kernel) ⟨(by (try dsimp only); omega), (by (try dsimp only); omega)⟩) (pw_preV hZ hw hA hK hz rfl (rm_at.o hR) rfl) rfl rfl hl.1 rfl (lv_room (Nat.le_of_ble_eq_true rfl)) d_L_law_381 ⟨(by (try dsimp only); omega), (by (try dsimp only); omega)⟩) hw hA (fun r_6 ad_4 C_5 H locs hp hw => ?_)
  obtain ⟨⟨hae, hR, hf⟩, er2⟩ := hp
  rw [hae] at hw
  obtain ⟨hG, hO⟩ := lf_M hG hO hf
  refine lv_icmp_eq (tgt := 788) hx hb d_L_law_384 (by decide) (fun c9 => ?_) (fun c9 => ?_)
  · refine W.widen (k := cells + 7) (n := slots + 90) (by omega) (by omega) ?_
    exact kk ad_1 C_5 H locs ⟨_, _, _, _, _, _, _, hG, hO, hR, hP⟩ h00 h30 hw
  · exact absurd (er.trans er2.symm) c9
set_option maxHeartbeats 4000000 in
set_option maxRecDepth 100000 in
theorem lc_constant {p : Program} {l : Launch} {e : Env} {s : State} {m : MethodId} {below : List Frame} {meth : Method} {c : Code} {b L : Nat} {xs : Nat → Int32} {D : va_G} {ca : Nat → ClassId} {kS : Nat → Nat} {kT : Nat} {A : Nat → Prop} {a0 : pw_A} {c0 : pw_C} (hE : lw_E p s m meth c b L xs D ca kS kT A) {i : Nat} (hi : i + 6 ≤ L) {ad : pw_A} {C : pw_C} (hI : lw_I ca kS kT ad C) {H : Heap} {locs : List Loc} {ls : Array Slot} (hw : pw_H D cls9 A s.heap a0 c0 ad C H locs) (hl : lv_has ls 4 [(3, .int (nI i)), (2, .ref (ad 30 0)), (1, .ref (ad 0 0)), (0, .ref b)]) {cells slots : Nat} (hc : cells + 7 ≤ 600000) (hs : slots + 90 ≤ 7302250) {Q : State → Prop} (kk : ∀ (ad' : pw_A) (C' : pw_C) (H' : Heap) (locs' : List Loc), lw_I ca kS kT ad' C' → ad' 0 0 = ad 0 0 → ad' 30 0 = ad 30 0 → pw_H D cls9 A s.heap a0 c0 ad' C' H' locs' → W p l e ({ frames := 2048, cells := 600000, slots := 7302250, locals := 84000 }) s m #[Value.ref b] below meth c H' locs' (cells + 7) (slots + 90) Q (F0 m 788 ls [])) : W p l e ({ frames := 2048, cells := 600000, slots := 7302250, locals := 84000 }) s m #[Value.ref b] below meth c H locs cells slots Q (F0 m 389 ls []) := by
  obtain ⟨hx, hb, hr, hml, hown, hts0, hX, hbl, hbA, hA, hlocks, hL, hK, hz⟩ := hE
  have hts := wd_hts hts0
  have hZ := z9_ok kS kT
  obtain ⟨C1, cd, mk, td, x, q, sn, r, hJ, f1, f2, f3, f4, hw⟩ := lw_clean hI hw
  obtain ⟨hG, hO, hR, hP⟩ := hJ
  clear hI
  refine lv_aload_n hx hb d_L_law_389 rfl (lv_at hl 2 rfl) ?_
  refine lv_aload_n hx hb d_L_law_390 rfl (lv_at hl 3 rfl) ?_
  refine lv_iload_n hx hb d_L_law_391 rfl (lv_at hl 0 rfl) ?_
  refine lv_iconst (v := 1) hx hb d_L_law_392 (by decide) ?_
  refine lv_iadd hx hb d_L_law_393 ?_
  refine lw_ld hx hb hX hbl hbA hw.2.2.1 hi hL 1 (by decide) (by decide) d_L_law_394 ?_
  refine lv_aload_n hx hb d_L_law_395 rfl (lv_at hl 3 rfl) ?_
  refine lv_iload_n hx hb d_L_law_396 rfl (lv_at hl 0 rfl) ?_
  refine lv_iconst (v := 2) hx hb d_L_law_397 (by decide) ?_
  refine lv_iadd hx hb d_L_law_398 ?_
  refine lw_ld hx hb hX hbl hbA hw.2.2.1 hi hL 2 (by decide) (by decide) d_L_law_399 ?_
  refine pw_calli (va_runV (As := [.int (xs (i + 1)), .int (xs (i + 2))]) (rest := []) ⟨hx, hb, hml, hown, hts0⟩ (k_G_constant hG f2 (xs (i + 1)) (xs (i + 2)) _) (cwV 2 hts0 (wd_V wd_540 wd_537 wd_538 wd_539 wd_53) rfl rfl rfl (by decide +kernel) ⟨(by (try dsimp only); omega), (by (try dsimp only); omega)⟩) (pw_preV hZ hw hA hK hz rfl hG.1 rfl) rfl rfl hl.1 rfl (lv_room (Nat.le_of_ble_eq_true rfl)) d_L_law_400 ⟨(by (try dsimp only); omega), (by (try dsimp only); omega)⟩) hw hA (fun r_3 ad_1 C_2 H locs hp hw => ?_)
  obtain ⟨⟨hG, hf⟩, er⟩ := hp
  obtain ⟨hO, hR⟩ := lf_1 hO hR (fun x y h => hf.1 x y (by omega) (by omega) (by omega)) (fun x y h => hf.2 x y (by omega))
  have h00 : ad_1 0 0 = ad 0 0 := hf.2 0 0 (by omega)
  have h30 : ad_1 30 0 = ad 30 0 := hf.2 30 0 (by omega)
  have hl : lv_has ls 4 [(3, .int (nI i)), (2, .ref (ad_1 30 0)), (1, .ref (ad_1 0 0)), (0, .ref b)] := by rw [h30, h00]; exact hl
  refine lv_aload_n hx hb d_L_law_403 rfl (lv_at hl 1 rfl) ?_
  refine lv_aload_n hx hb d_L_law_404 rfl (lv_at hl 3 rfl) ?_
  refine lv_iload_n hx hb d_L_law_405 rfl (lv_at hl 0 rfl) ?_
  refine lv_iconst (v := 1) hx hb d_L_law_406 (by decide) ?_
  refine lv_iadd hx hb d_L_law_407 ?_
  refine lw_ld hx hb hX hbl hbA hw.2.2.1 hi hL 1 (by decide) (by decide) d_L_law_408 ?_
  refine lv_aload_n hx hb d_L_law_409 rfl (lv_at hl 3 rfl) ?_
  refine lv_iload_n hx hb d_L_law_410 rfl (lv_at hl 0 rfl) ?_
  refine lv_iconst (v := 2) hx hb d_L_law_411 (by decide) ?_
  refine lv_iadd hx hb d_L_law_412 ?_
  refine lw_ld hx hb hX hbl hbA hw.2.2.1 hi hL 2 (by decide) (by decide) d_L_law_413 ?_
  obtain ⟨r9, hM, hP⟩ := p_constant hP (xs (i + 1)) (xs (i + 2))
  refine pw_calli (va_runV (As := [.int (xs (i + 1)), .int (xs (i + 2))]) (rest := [.int r_3]) ⟨hx, hb, hml, hown, hts0⟩ (k_M_constant hR hM _) (cwV 2 hts0 (wd_V wd_901 wd_898 wd_899 wd_900 wd_56) rfl rfl rfl (by decide +kernel) ⟨(by (try dsimp only); omega), (by (try dsimp only); omega)⟩) (pw_preV hZ hw hA hK hz rfl (rm_at.o hR) rfl) rfl rfl hl.1 rfl (lv_room (Nat.le_of_ble_eq_true rfl)) d_L_law_414 ⟨(by (try dsimp only); omega), (by (try dsimp only); omega)⟩) hw hA (fun r_6 ad_4 C_5 H locs hp hw => ?_)
  obtain ⟨⟨hae, hR, hf⟩, er2⟩ := hp
  rw [hae] at hw
  obtain ⟨hG, hO⟩ := lf_M hG hO hf
  refine lv_icmp_eq (tgt := 788) hx hb d_L_law_417 (by decide) (fun c9 => ?_) (fun c9 => ?_)
  · refine W.widen (k := cells + 7) (n := slots + 90) (by omega) (by omega) ?_
    exact kk ad_1 C_5 H locs ⟨_, _, _, _, _, _, _, hG, hO, hR, hP⟩ h00 h30 hw
  · exact absurd (er.trans er2.symm) c9
set_option maxHeartbeats 4000000 in
set_option maxRecDepth 100000 in
theorem lc_set {p : Program} {l : Launch} {e : Env} {s : State} {m : MethodId} {below : List Frame} {meth : Method} {c : Code} {b L : Nat} {xs : Nat → Int32} {D : va_G} {ca : Nat → ClassId} {kS : Nat → Nat} {kT : Nat} {A : Nat → Prop} {a0 : pw_A} {c0 : pw_C} (hE : lw_E p s m meth c b L xs D ca kS kT A) {i : Nat} (hi : i + 6 ≤ L) {ad : pw_A} {C : pw_C} (hI : lw_I ca kS kT ad C) {H : Heap} {locs : List Loc} {ls : Array Slot} (hw : pw_H D cls9 A s.heap a0 c0 ad C H locs) (hl : lv_has ls 4 [(3, .int (nI i)), (2, .ref (ad 30 0)), (1, .ref (ad 0 0)), (0, .ref b)]) {cells slots : Nat} (hc : cells + 7 ≤ 600000) (hs : slots + 90 ≤ 7302250) {Q : State → Prop} (kk : ∀ (ad' : pw_A) (C' : pw_C) (H' : Heap) (locs' : List Loc), lw_I ca kS kT ad' C' → ad' 0 0 = ad 0 0 → ad' 30 0 = ad 30 0 → pw_H D cls9 A s.heap a0 c0 ad' C' H' locs' → W p l e ({ frames := 2048, cells := 600000, slots := 7302250, locals := 84000 }) s m #[Value.ref b] below meth c H' locs' (cells + 7) (slots + 90) Q (F0 m 788 ls [])) : W p l e ({ frames := 2048, cells := 600000, slots := 7302250, locals := 84000 }) s m #[Value.ref b] below meth c H locs cells slots Q (F0 m 422 ls []) := by
  obtain ⟨hx, hb, hr, hml, hown, hts0, hX, hbl, hbA, hA, hlocks, hL, hK, hz⟩ := hE
  have hts := wd_hts hts0
  have hZ := z9_ok kS kT
  obtain ⟨C1, cd, mk, td, x, q, sn, r, hJ, f1, f2, f3, f4, hw⟩ := lw_clean hI hw
  obtain ⟨hG, hO, hR, hP⟩ := hJ
  clear hI
  refine lv_aload_n hx hb d_L_law_422 rfl (lv_at hl 2 rfl) ?_
  refine lv_aload_n hx hb d_L_law_423 rfl (lv_at hl 3 rfl) ?_
  refine lv_iload_n hx hb d_L_law_424 rfl (lv_at hl 0 rfl) ?_
  refine lv_iconst (v := 1) hx hb d_L_law_425 (by decide) ?_
  refine lv_iadd hx hb d_L_law_426 ?_
  refine lw_ld hx hb hX hbl hbA hw.2.2.1 hi hL 1 (by decide) (by decide) d_L_law_427 ?_
  refine lv_aload_n hx hb d_L_law_428 rfl (lv_at hl 3 rfl) ?_
  refine lv_iload_n hx hb d_L_law_429 rfl (lv_at hl 0 rfl) ?_
  refine lv_iconst (v := 2) hx hb d_L_law_430 (by decide) ?_
  refine lv_iadd hx hb d_L_law_431 ?_
  refine lw_ld hx hb hX hbl hbA hw.2.2.1 hi hL 2 (by decide) (by decide) d_L_law_432 ?_
  refine lv_aload_n hx hb d_L_law_433 rfl (lv_at hl 3 rfl) ?_
  refine lv_iload_n hx hb d_L_law_434 rfl (lv_at hl 0 rfl) ?_
  refine lv_iconst (v := 3) hx hb d_L_law_435 (by decide) ?_
  refine lv_iadd hx hb d_L_law_436 ?_
  refine lw_ld hx hb hX hbl hbA hw.2.2.1 hi hL 3 (by decide) (by decide) d_L_law_437 ?_
  refine lv_i2l hx hb d_L_law_438 rfl ?_
  refine lv_bipush (v := 32) hx hb d_L_law_439 (by decide) ?_
  refine lv_lshl hx hb d_L_law_441 rfl ?_
  refine lv_aload_n hx hb d_L_law_442 rfl (lv_at hl 3 rfl) ?_
  refine lv_iload_n hx hb d_L_law_443 rfl (lv_at hl 0 rfl) ?_
  refine lv_iconst (v := 4) hx hb d_L_law_444 (by decide) ?_
  refine lv_iadd hx hb d_L_law_445 ?_
  refine lw_ld hx hb hX hbl hbA hw.2.2.1 hi hL 4 (by decide) (by decide) d_L_law_446 ?_
  refine lv_i2l hx hb d_L_law_447 rfl ?_
  refine lv_ldc2 (v := 4294967295) hx hb hown (hts _ wd_1071) d_L_law_448 ?_
  refine lv_land hx hb d_L_law_451 ?_
  refine lv_lor hx hb d_L_law_452 ?_
  refine pw_calli (va_runV (As := [.int (xs (i + 1)), .int (xs (i + 2)), .long ((((xs (i + 3)).toInt64) <<< ((32 : Int32).toInt64 &&& 63)) ||| (((xs (i + 4)).toInt64) &&& 4294967295))]) (rest := []) ⟨hx, hb, hml, hown, hts0⟩ (k_G_set hG (xs (i + 1)) (xs (i + 2)) ((((xs (i + 3)).toInt64) <<< ((32 : Int32).toInt64 &&& 63)) ||| (((xs (i + 4)).toInt64) &&& 4294967295)) _) (cwV 3 hts0 (wd_V wd_546 wd_543 wd_544 wd_545 wd_53) rfl rfl rfl (by decide +kernel) ⟨(by (try dsimp only); omega), (by (try dsimp only); omega)⟩) (pw_preV hZ hw hA hK hz rfl hG.1 rfl) rfl rfl hl.1 rfl (lv_room (Nat.le_of_ble_eq_true rfl)) d_L_law_453 ⟨(by (try dsimp only); omega), (by (try dsimp only); omega)⟩) hw hA (fun r_3 ad_1 C_2 H locs hp hw => ?_)
  obtain ⟨⟨hae, hG, hf⟩, er⟩ := hp
  rw [hae] at hw
  obtain ⟨hO, hR⟩ := lf_1 hO hR (fun x y h => hf x y (by omega)) (fun _ _ _ => rfl)
  have h00 : ad 0 0 = ad 0 0 := rfl
  have h30 : ad 30 0 = ad 30 0 := rfl
  refine lv_aload_n hx hb d_L_law_456 rfl (lv_at hl 1 rfl) ?_
  refine lv_aload_n hx hb d_L_law_457 rfl (lv_at hl 3 rfl) ?_
  refine lv_iload_n hx hb d_L_law_458 rfl (lv_at hl 0 rfl) ?_
  refine lv_iconst (v := 1) hx hb d_L_law_459 (by decide) ?_
  refine lv_iadd hx hb d_L_law_460 ?_
  refine lw_ld hx hb hX hbl hbA hw.2.2.1 hi hL 1 (by decide) (by decide) d_L_law_461 ?_
  refine lv_aload_n hx hb d_L_law_462 rfl (lv_at hl 3 rfl) ?_
  refine lv_iload_n hx hb d_L_law_463 rfl (lv_at hl 0 rfl) ?_
  refine lv_iconst (v := 2) hx hb d_L_law_464 (by decide) ?_
  refine lv_iadd hx hb d_L_law_465 ?_
  refine lw_ld hx hb hX hbl hbA hw.2.2.1 hi hL 2 (by decide) (by decide) d_L_law_466 ?_
  refine lv_aload_n hx hb d_L_law_467 rfl (lv_at hl 3 rfl) ?_
  refine lv_iload_n hx hb d_L_law_468 rfl (lv_at hl 0 rfl) ?_
  refine lv_iconst (v := 3) hx hb d_L_law_469 (by decide) ?_
  refine lv_iadd hx hb d_L_law_470 ?_
  refine lw_ld hx hb hX hbl hbA hw.2.2.1 hi hL 3 (by decide) (by decide) d_L_law_471 ?_
  refine lv_i2l hx hb d_L_law_472 rfl ?_
  refine lv_bipush (v := 32) hx hb d_L_law_473 (by decide) ?_
  refine lv_lshl hx hb d_L_law_475 rfl ?_
  refine lv_aload_n hx hb d_L_law_476 rfl (lv_at hl 3 rfl) ?_
  refine lv_iload_n hx hb d_L_law_477 rfl (lv_at hl 0 rfl) ?_
  refine lv_iconst (v := 4) hx hb d_L_law_478 (by decide) ?_
  refine lv_iadd hx hb d_L_law_479 ?_
  refine lw_ld hx hb hX hbl hbA hw.2.2.1 hi hL 4 (by decide) (by decide) d_L_law_480 ?_
  refine lv_i2l hx hb d_L_law_481 rfl ?_
  refine lv_ldc2 (v := 4294967295) hx hb hown (hts _ wd_1071) d_L_law_482 ?_
  refine lv_land hx hb d_L_law_485 ?_
  refine lv_lor hx hb d_L_law_486 ?_
  obtain ⟨r9, hM, hP⟩ := p_set hP (xs (i + 1)) (xs (i + 2)) ((((xs (i + 3)).toInt64) <<< ((32 : Int32).toInt64 &&& 63)) ||| (((xs (i + 4)).toInt64) &&& 4294967295))
  refine pw_calli (va_runV (As := [.int (xs (i + 1)), .int (xs (i + 2)), .long ((((xs (i + 3)).toInt64) <<< ((32 : Int32).toInt64 &&& 63)) ||| (((xs (i + 4)).toInt64) &&& 4294967295))]) (rest := [.int r_3]) ⟨hx, hb, hml, hown, hts0⟩ (k_M_set hR hM _) (cwV 3 hts0 (wd_V wd_905 wd_902 wd_903 wd_904 wd_56) rfl rfl rfl (by decide +kernel) ⟨(by (try dsimp only); omega), (by (try dsimp only); omega)⟩) (pw_preV hZ hw hA hK hz rfl (rm_at.o hR) rfl) rfl rfl hl.1 rfl (lv_room (Nat.le_of_ble_eq_true rfl)) d_L_law_487 ⟨(by (try dsimp only); omega), (by (try dsimp only); omega)⟩) hw hA (fun r_6 ad_4 C_5 H locs hp hw => ?_)
  obtain ⟨⟨hae, hR, hf⟩, er2⟩ := hp
  rw [hae] at hw
  obtain ⟨hG, hO⟩ := lf_M hG hO hf
  refine lv_icmp_eq (tgt := 788) hx hb d_L_law_490 (by decide) (fun c9 => ?_) (fun c9 => ?_)
  · refine W.widen (k := cells + 7) (n := slots + 90) (by omega) (by omega) ?_
    exact kk ad C_5 H locs ⟨_, _, _, _, _, _, _, hG, hO, hR, hP⟩ h00 h30 hw
  · exact absurd (er.trans er2.symm) c9
set_option maxHeartbeats 4000000 in
set_option maxRecDepth 100000 in
theorem lc_replace {p : Program} {l : Launch} {e : Env} {s : State} {m : MethodId} {below : List Frame} {meth : Method} {c : Code} {b L : Nat} {xs : Nat → Int32} {D : va_G} {ca : Nat → ClassId} {kS : Nat → Nat} {kT : Nat} {A : Nat → Prop} {a0 : pw_A} {c0 : pw_C} (hE : lw_E p s m meth c b L xs D ca kS kT A) {i : Nat} (hi : i + 6 ≤ L) {ad : pw_A} {C : pw_C} (hI : lw_I ca kS kT ad C) {H : Heap} {locs : List Loc} {ls : Array Slot} (hw : pw_H D cls9 A s.heap a0 c0 ad C H locs) (hl : lv_has ls 4 [(3, .int (nI i)), (2, .ref (ad 30 0)), (1, .ref (ad 0 0)), (0, .ref b)]) {cells slots : Nat} (hc : cells + 7 ≤ 600000) (hs : slots + 90 ≤ 7302250) {Q : State → Prop} (kk : ∀ (ad' : pw_A) (C' : pw_C) (H' : Heap) (locs' : List Loc), lw_I ca kS kT ad' C' → ad' 0 0 = ad 0 0 → ad' 30 0 = ad 30 0 → pw_H D cls9 A s.heap a0 c0 ad' C' H' locs' → W p l e ({ frames := 2048, cells := 600000, slots := 7302250, locals := 84000 }) s m #[Value.ref b] below meth c H' locs' (cells + 7) (slots + 90) Q (F0 m 788 ls [])) : W p l e ({ frames := 2048, cells := 600000, slots := 7302250, locals := 84000 }) s m #[Value.ref b] below meth c H locs cells slots Q (F0 m 495 ls []) := by
  obtain ⟨hx, hb, hr, hml, hown, hts0, hX, hbl, hbA, hA, hlocks, hL, hK, hz⟩ := hE
  have hts := wd_hts hts0
  have hZ := z9_ok kS kT
  obtain ⟨C1, cd, mk, td, x, q, sn, r, hJ, f1, f2, f3, f4, hw⟩ := lw_clean hI hw
  obtain ⟨hG, hO, hR, hP⟩ := hJ
  clear hI
  refine lv_aload_n hx hb d_L_law_495 rfl (lv_at hl 2 rfl) ?_
  refine lv_aload_n hx hb d_L_law_496 rfl (lv_at hl 3 rfl) ?_
  refine lv_iload_n hx hb d_L_law_497 rfl (lv_at hl 0 rfl) ?_
  refine lv_iconst (v := 1) hx hb d_L_law_498 (by decide) ?_
  refine lv_iadd hx hb d_L_law_499 ?_
  refine lw_ld hx hb hX hbl hbA hw.2.2.1 hi hL 1 (by decide) (by decide) d_L_law_500 ?_
  refine lv_aload_n hx hb d_L_law_501 rfl (lv_at hl 3 rfl) ?_
  refine lv_iload_n hx hb d_L_law_502 rfl (lv_at hl 0 rfl) ?_
  refine lv_iconst (v := 2) hx hb d_L_law_503 (by decide) ?_
  refine lv_iadd hx hb d_L_law_504 ?_
  refine lw_ld hx hb hX hbl hbA hw.2.2.1 hi hL 2 (by decide) (by decide) d_L_law_505 ?_
  refine pw_calli (va_runV (As := [.int (xs (i + 1)), .int (xs (i + 2))]) (rest := []) ⟨hx, hb, hml, hown, hts0⟩ (k_G_replace hG (xs (i + 1)) (xs (i + 2)) _) (cwV 2 hts0 (wd_V wd_559 wd_556 wd_557 wd_558 wd_53) rfl rfl rfl (by decide +kernel) ⟨(by (try dsimp only); omega), (by (try dsimp only); omega)⟩) (pw_preV hZ hw hA hK hz rfl hG.1 rfl) rfl rfl hl.1 rfl (lv_room (Nat.le_of_ble_eq_true rfl)) d_L_law_506 ⟨(by (try dsimp only); omega), (by (try dsimp only); omega)⟩) hw hA (fun r_3 ad_1 C_2 H locs hp hw => ?_)
  obtain ⟨⟨hae, hG, hf⟩, er⟩ := hp
  rw [hae] at hw
  obtain ⟨hO, hR⟩ := lf_1 hO hR (fun x y h => hf x y (by omega)) (fun _ _ _ => rfl)
  have h00 : ad 0 0 = ad 0 0 := rfl
  have h30 : ad 30 0 = ad 30 0 := rfl
  refine lv_aload_n hx hb d_L_law_509 rfl (lv_at hl 1 rfl) ?_
  refine lv_aload_n hx hb d_L_law_510 rfl (lv_at hl 3 rfl) ?_
  refine lv_iload_n hx hb d_L_law_511 rfl (lv_at hl 0 rfl) ?_
  refine lv_iconst (v := 1) hx hb d_L_law_512 (by decide) ?_
  refine lv_iadd hx hb d_L_law_513 ?_
  refine lw_ld hx hb hX hbl hbA hw.2.2.1 hi hL 1 (by decide) (by decide) d_L_law_514 ?_
  refine lv_aload_n hx hb d_L_law_515 rfl (lv_at hl 3 rfl) ?_
  refine lv_iload_n hx hb d_L_law_516 rfl (lv_at hl 0 rfl) ?_
  refine lv_iconst (v := 2) hx hb d_L_law_517 (by decide) ?_
  refine lv_iadd hx hb d_L_law_518 ?_
  refine lw_ld hx hb hX hbl hbA hw.2.2.1 hi hL 2 (by decide) (by decide) d_L_law_519 ?_
  obtain ⟨r9, hM, hP⟩ := p_replace hP (xs (i + 1)) (xs (i + 2))
  refine pw_calli (va_runV (As := [.int (xs (i + 1)), .int (xs (i + 2))]) (rest := [.int r_3]) ⟨hx, hb, hml, hown, hts0⟩ (k_M_replace hR hM _) (cwV 2 hts0 (wd_V wd_909 wd_906 wd_907 wd_908 wd_56) rfl rfl rfl (by decide +kernel) ⟨(by (try dsimp only); omega), (by (try dsimp only); omega)⟩) (pw_preV hZ hw hA hK hz rfl (rm_at.o hR) rfl) rfl rfl hl.1 rfl (lv_room (Nat.le_of_ble_eq_true rfl)) d_L_law_520 ⟨(by (try dsimp only); omega), (by (try dsimp only); omega)⟩) hw hA (fun r_6 ad_4 C_5 H locs hp hw => ?_)
  obtain ⟨⟨hae, hR, hf⟩, er2⟩ := hp
  rw [hae] at hw
  obtain ⟨hG, hO⟩ := lf_M hG hO hf
  refine lv_icmp_eq (tgt := 788) hx hb d_L_law_523 (by decide) (fun c9 => ?_) (fun c9 => ?_)
  · refine W.widen (k := cells + 7) (n := slots + 90) (by omega) (by omega) ?_
    exact kk ad C_5 H locs ⟨_, _, _, _, _, _, _, hG, hO, hR, hP⟩ h00 h30 hw
  · exact absurd (er.trans er2.symm) c9
