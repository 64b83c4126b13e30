set_option maxHeartbeats 4000000 in
set_option maxRecDepth 100000 in
theorem lc_extra {p : Program} {l : Launch} {e : Env} {s : State} {m : MethodId} {below : List Frame} {meth : Method} {c : Code} {b L : Nat} {xs : Nat → Int32} {D : va_G} {ca : Nat → ClassId} {kS : Nat → Nat} {kT : Nat} {A : Nat → Prop} {a0 : pw_A} {c0 : pw_C} (hE : lw_E p s m meth c b L xs D ca kS kT A) {i : Nat} (hi : i + 6 ≤ L) {ad : pw_A} {C : pw_C} (hI : lw_I ca kS kT ad C) {H : Heap} {locs : List Loc} {ls : Array Slot} (hw : pw_H D cls9 A s.heap a0 c0 ad C H locs) (hl : lv_has ls 4 [(3, .int (nI i)), (2, .ref (ad 30 0)), (1, .ref (ad 0 0)), (0, .ref b)]) {cells slots : Nat} (hc : cells + 7 ≤ 600000) (hs : slots + 90 ≤ 7302250) {Q : State → Prop} (kk : ∀ (ad' : pw_A) (C' : pw_C) (H' : Heap) (locs' : List Loc), lw_I ca kS kT ad' C' → ad' 0 0 = ad 0 0 → ad' 30 0 = ad 30 0 → pw_H D cls9 A s.heap a0 c0 ad' C' H' locs' → W p l e ({ frames := 2048, cells := 600000, slots := 7302250, locals := 84000 }) s m #[Value.ref b] below meth c H' locs' (cells + 7) (slots + 90) Q (F0 m 788 ls [])) : W p l e ({ frames := 2048, cells := 600000, slots := 7302250, locals := 84000 }) s m #[Value.ref b] below meth c H locs cells slots Q (F0 m 528 ls []) := by
  obtain ⟨hx, hb, hr, hml, hown, hts0, hX, hbl, hbA, hA, hlocks, hL, hK, hz⟩ := hE
  have hts := wd_hts hts0
  have hZ := z9_ok kS kT
  obtain ⟨C1, cd, mk, td, x, q, sn, r, hJ, f1, f2, f3, f4, hw⟩ := lw_clean hI hw
  obtain ⟨hG, hO, hR, hP⟩ := hJ
  clear hI
  refine lv_aload_n hx hb d_L_law_528 rfl (lv_at hl 2 rfl) ?_
  refine lv_aload_n hx hb d_L_law_529 rfl (lv_at hl 3 rfl) ?_
  refine lv_iload_n hx hb d_L_law_530 rfl (lv_at hl 0 rfl) ?_
  refine lv_iconst (v := 1) hx hb d_L_law_531 (by decide) ?_
  refine lv_iadd hx hb d_L_law_532 ?_
  refine lw_ld hx hb hX hbl hbA hw.2.2.1 hi hL 1 (by decide) (by decide) d_L_law_533 ?_
  refine lv_aload_n hx hb d_L_law_534 rfl (lv_at hl 3 rfl) ?_
  refine lv_iload_n hx hb d_L_law_535 rfl (lv_at hl 0 rfl) ?_
  refine lv_iconst (v := 2) hx hb d_L_law_536 (by decide) ?_
  refine lv_iadd hx hb d_L_law_537 ?_
  refine lw_ld hx hb hX hbl hbA hw.2.2.1 hi hL 2 (by decide) (by decide) d_L_law_538 ?_
  refine pw_calli (va_runV (As := [.int (xs (i + 1)), .int (xs (i + 2))]) (rest := []) ⟨hx, hb, hml, hown, hts0⟩ (k_G_extra hG (xs (i + 1)) (xs (i + 2)) _) (cwV 2 hts0 (wd_V wd_567 wd_564 wd_565 wd_566 wd_53) rfl rfl rfl (by decide +kernel) ⟨(by (try dsimp only); omega), (by (try dsimp only); omega)⟩) (pw_preV hZ hw hA hK hz rfl hG.1 rfl) rfl rfl hl.1 rfl (lv_room (Nat.le_of_ble_eq_true rfl)) d_L_law_539 ⟨(by (try dsimp only); omega), (by (try dsimp only); omega)⟩) hw hA (fun r_3 ad_1 C_2 H locs hp hw => ?_)
  obtain ⟨⟨hae, hG, hf⟩, er⟩ := hp
  rw [hae] at hw
  obtain ⟨hO, hR⟩ := lf_1 hO hR (fun x y h => hf x y (by omega)) (fun _ _ _ => rfl)
  have h00 : ad 0 0 = ad 0 0 := rfl
  have h30 : ad 30 0 = ad 30 0 := rfl
  refine lv_aload_n hx hb d_L_law_542 rfl (lv_at hl 1 rfl) ?_
  refine lv_aload_n hx hb d_L_law_543 rfl (lv_at hl 3 rfl) ?_
  refine lv_iload_n hx hb d_L_law_544 rfl (lv_at hl 0 rfl) ?_
  refine lv_iconst (v := 1) hx hb d_L_law_545 (by decide) ?_
  refine lv_iadd hx hb d_L_law_546 ?_
  refine lw_ld hx hb hX hbl hbA hw.2.2.1 hi hL 1 (by decide) (by decide) d_L_law_547 ?_
  refine lv_aload_n hx hb d_L_law_548 rfl (lv_at hl 3 rfl) ?_
  refine lv_iload_n hx hb d_L_law_549 rfl (lv_at hl 0 rfl) ?_
  refine lv_iconst (v := 2) hx hb d_L_law_550 (by decide) ?_
  refine lv_iadd hx hb d_L_law_551 ?_
  refine lw_ld hx hb hX hbl hbA hw.2.2.1 hi hL 2 (by decide) (by decide) d_L_law_552 ?_
  obtain ⟨r9, hM, hP⟩ := p_extra hP (xs (i + 1)) (xs (i + 2))
  refine pw_calli (va_runV (As := [.int (xs (i + 1)), .int (xs (i + 2))]) (rest := [.int r_3]) ⟨hx, hb, hml, hown, hts0⟩ (k_M_extra hR hM _) (cwV 2 hts0 (wd_V wd_917 wd_914 wd_915 wd_916 wd_56) rfl rfl rfl (by decide +kernel) ⟨(by (try dsimp only); omega), (by (try dsimp only); omega)⟩) (pw_preV hZ hw hA hK hz rfl (rm_at.o hR) rfl) rfl rfl hl.1 rfl (lv_room (Nat.le_of_ble_eq_true rfl)) d_L_law_553 ⟨(by (try dsimp only); omega), (by (try dsimp only); omega)⟩) hw hA (fun r_6 ad_4 C_5 H locs hp hw => ?_)
  obtain ⟨⟨hae, hR, hf⟩, er2⟩ := hp
  rw [hae] at hw
  obtain ⟨hG, hO⟩ := lf_M hG hO hf
  refine lv_icmp_eq (tgt := 788) hx hb d_L_law_556 (by decide) (fun c9 => ?_) (fun c9 => ?_)
  · refine W.widen (k := cells + 7) (n := slots + 90) (by omega) (by omega) ?_
    exact kk ad C_5 H locs ⟨_, _, _, _, _, _, _, hG, hO, hR, hP⟩ h00 h30 hw
  · exact absurd (er.trans er2.symm) c9
set_option maxHeartbeats 4000000 in
set_option maxRecDepth 100000 in
theorem lc_data {p : Program} {l : Launch} {e : Env} {s : State} {m : MethodId} {below : List Frame} {meth : Method} {c : Code} {b L : Nat} {xs : Nat → Int32} {D : va_G} {ca : Nat → ClassId} {kS : Nat → Nat} {kT : Nat} {A : Nat → Prop} {a0 : pw_A} {c0 : pw_C} (hE : lw_E p s m meth c b L xs D ca kS kT A) {i : Nat} (hi : i + 6 ≤ L) {ad : pw_A} {C : pw_C} (hI : lw_I ca kS kT ad C) {H : Heap} {locs : List Loc} {ls : Array Slot} (hw : pw_H D cls9 A s.heap a0 c0 ad C H locs) (hl : lv_has ls 4 [(3, .int (nI i)), (2, .ref (ad 30 0)), (1, .ref (ad 0 0)), (0, .ref b)]) {cells slots : Nat} (hc : cells + 7 ≤ 600000) (hs : slots + 90 ≤ 7302250) {Q : State → Prop} (kk : ∀ (ad' : pw_A) (C' : pw_C) (H' : Heap) (locs' : List Loc), lw_I ca kS kT ad' C' → ad' 0 0 = ad 0 0 → ad' 30 0 = ad 30 0 → pw_H D cls9 A s.heap a0 c0 ad' C' H' locs' → W p l e ({ frames := 2048, cells := 600000, slots := 7302250, locals := 84000 }) s m #[Value.ref b] below meth c H' locs' (cells + 7) (slots + 90) Q (F0 m 788 ls [])) : W p l e ({ frames := 2048, cells := 600000, slots := 7302250, locals := 84000 }) s m #[Value.ref b] below meth c H locs cells slots Q (F0 m 561 ls []) := by
  obtain ⟨hx, hb, hr, hml, hown, hts0, hX, hbl, hbA, hA, hlocks, hL, hK, hz⟩ := hE
  have hts := wd_hts hts0
  have hZ := z9_ok kS kT
  obtain ⟨C1, cd, mk, td, x, q, sn, r, hJ, f1, f2, f3, f4, hw⟩ := lw_clean hI hw
  obtain ⟨hG, hO, hR, hP⟩ := hJ
  clear hI
  refine lv_aload_n hx hb d_L_law_561 rfl (lv_at hl 2 rfl) ?_
  refine lv_aload_n hx hb d_L_law_562 rfl (lv_at hl 3 rfl) ?_
  refine lv_iload_n hx hb d_L_law_563 rfl (lv_at hl 0 rfl) ?_
  refine lv_iconst (v := 1) hx hb d_L_law_564 (by decide) ?_
  refine lv_iadd hx hb d_L_law_565 ?_
  refine lw_ld hx hb hX hbl hbA hw.2.2.1 hi hL 1 (by decide) (by decide) d_L_law_566 ?_
  refine lv_i2l hx hb d_L_law_567 rfl ?_
  refine lv_bipush (v := 32) hx hb d_L_law_568 (by decide) ?_
  refine lv_lshl hx hb d_L_law_570 rfl ?_
  refine lv_aload_n hx hb d_L_law_571 rfl (lv_at hl 3 rfl) ?_
  refine lv_iload_n hx hb d_L_law_572 rfl (lv_at hl 0 rfl) ?_
  refine lv_iconst (v := 2) hx hb d_L_law_573 (by decide) ?_
  refine lv_iadd hx hb d_L_law_574 ?_
  refine lw_ld hx hb hX hbl hbA hw.2.2.1 hi hL 2 (by decide) (by decide) d_L_law_575 ?_
  refine lv_i2l hx hb d_L_law_576 rfl ?_
  refine lv_ldc2 (v := 4294967295) hx hb hown (hts _ wd_1071) d_L_law_577 ?_
  refine lv_land hx hb d_L_law_580 ?_
  refine lv_lor hx hb d_L_law_581 ?_
  refine lv_aload_n hx hb d_L_law_582 rfl (lv_at hl 3 rfl) ?_
  refine lv_iload_n hx hb d_L_law_583 rfl (lv_at hl 0 rfl) ?_
  refine lv_iconst (v := 3) hx hb d_L_law_584 (by decide) ?_
  refine lv_iadd hx hb d_L_law_585 ?_
  refine lw_ld hx hb hX hbl hbA hw.2.2.1 hi hL 3 (by decide) (by decide) d_L_law_586 ?_
  refine pw_calli (va_runV (As := [.long ((((xs (i + 1)).toInt64) <<< ((32 : Int32).toInt64 &&& 63)) ||| (((xs (i + 2)).toInt64) &&& 4294967295)), .int (xs (i + 3))]) (rest := []) ⟨hx, hb, hml, hown, hts0⟩ (k_G_data hG hO hP.x.q5 ((((xs (i + 1)).toInt64) <<< ((32 : Int32).toInt64 &&& 63)) ||| (((xs (i + 2)).toInt64) &&& 4294967295)) (xs (i + 3)) _) (cwV 2 hts0 (wd_V wd_571 wd_568 wd_569 wd_570 wd_53) rfl rfl rfl (by decide +kernel) ⟨(by (try dsimp only); omega), (by (try dsimp only); omega)⟩) (pw_preV hZ hw hA hK hz rfl hG.1 rfl) rfl rfl hl.1 rfl (lv_room (Nat.le_of_ble_eq_true rfl)) d_L_law_587 ⟨(by (try dsimp only); omega), (by (try dsimp only); omega)⟩) hw hA (fun r_3 ad_1 C_2 H locs hp hw => ?_)
  obtain ⟨⟨hae, hO, hf⟩, er⟩ := hp
  rw [hae] at hw
  have hG := hG.fr hf
  have hR := hR.mv (fun x y h => hf x y (by omega)) (fun _ _ _ => rfl)
  have h00 : ad 0 0 = ad 0 0 := rfl
  have h30 : ad 30 0 = ad 30 0 := rfl
  refine lv_aload_n hx hb d_L_law_590 rfl (lv_at hl 1 rfl) ?_
  refine lv_aload_n hx hb d_L_law_591 rfl (lv_at hl 3 rfl) ?_
  refine lv_iload_n hx hb d_L_law_592 rfl (lv_at hl 0 rfl) ?_
  refine lv_iconst (v := 1) hx hb d_L_law_593 (by decide) ?_
  refine lv_iadd hx hb d_L_law_594 ?_
  refine lw_ld hx hb hX hbl hbA hw.2.2.1 hi hL 1 (by decide) (by decide) d_L_law_595 ?_
  refine lv_i2l hx hb d_L_law_596 rfl ?_
  refine lv_bipush (v := 32) hx hb d_L_law_597 (by decide) ?_
  refine lv_lshl hx hb d_L_law_599 rfl ?_
  refine lv_aload_n hx hb d_L_law_600 rfl (lv_at hl 3 rfl) ?_
  refine lv_iload_n hx hb d_L_law_601 rfl (lv_at hl 0 rfl) ?_
  refine lv_iconst (v := 2) hx hb d_L_law_602 (by decide) ?_
  refine lv_iadd hx hb d_L_law_603 ?_
  refine lw_ld hx hb hX hbl hbA hw.2.2.1 hi hL 2 (by decide) (by decide) d_L_law_604 ?_
  refine lv_i2l hx hb d_L_law_605 rfl ?_
  refine lv_ldc2 (v := 4294967295) hx hb hown (hts _ wd_1071) d_L_law_606 ?_
  refine lv_land hx hb d_L_law_609 ?_
  refine lv_lor hx hb d_L_law_610 ?_
  refine lv_aload_n hx hb d_L_law_611 rfl (lv_at hl 3 rfl) ?_
  refine lv_iload_n hx hb d_L_law_612 rfl (lv_at hl 0 rfl) ?_
  refine lv_iconst (v := 3) hx hb d_L_law_613 (by decide) ?_
  refine lv_iadd hx hb d_L_law_614 ?_
  refine lw_ld hx hb hX hbl hbA hw.2.2.1 hi hL 3 (by decide) (by decide) d_L_law_615 ?_
  obtain ⟨r9, hM, hP⟩ := p_data hP sn ((((xs (i + 1)).toInt64) <<< ((32 : Int32).toInt64 &&& 63)) ||| (((xs (i + 2)).toInt64) &&& 4294967295)) (xs (i + 3))
  refine pw_calli (va_runV (As := [.long ((((xs (i + 1)).toInt64) <<< ((32 : Int32).toInt64 &&& 63)) ||| (((xs (i + 2)).toInt64) &&& 4294967295)), .int (xs (i + 3))]) (rest := [.int r_3]) ⟨hx, hb, hml, hown, hts0⟩ (k_M_data hR hM _) (cwV 2 hts0 (wd_V wd_921 wd_918 wd_919 wd_920 wd_56) rfl rfl rfl (by decide +kernel) ⟨(by (try dsimp only); omega), (by (try dsimp only); omega)⟩) (pw_preV hZ hw hA hK hz rfl (rm_at.o hR) rfl) rfl rfl hl.1 rfl (lv_room (Nat.le_of_ble_eq_true rfl)) d_L_law_616 ⟨(by (try dsimp only); omega), (by (try dsimp only); omega)⟩) hw hA (fun r_6 ad_4 C_5 H locs hp hw => ?_)
  obtain ⟨⟨hae, hR, hf⟩, er2⟩ := hp
  rw [hae] at hw
  obtain ⟨hG, hO⟩ := lf_M hG hO hf
  refine lv_icmp_eq (tgt := 788) hx hb d_L_law_619 (by decide) (fun c9 => ?_) (fun c9 => ?_)
  · refine W.widen (k := cells + 7) (n := slots + 90) (by omega) (by omega) ?_
    exact kk ad C_5 H locs ⟨_, _, _, _, _, _, _, hG, hO, hR, hP⟩ h00 h30 hw
  · exact absurd (er.trans er2.symm) c9
set_option maxHeartbeats 4000000 in
set_option maxRecDepth 100000 in
theorem lc_write {p : Program} {l : Launch} {e : Env} {s : State} {m : MethodId} {below : List Frame} {meth : Method} {c : Code} {b L : Nat} {xs : Nat → Int32} {D : va_G} {ca : Nat → ClassId} {kS : Nat → Nat} {kT : Nat} {A : Nat → Prop} {a0 : pw_A} {c0 : pw_C} (hE : lw_E p s m meth c b L xs D ca kS kT A) {i : Nat} (hi : i + 6 ≤ L) {ad : pw_A} {C : pw_C} (hI : lw_I ca kS kT ad C) {H : Heap} {locs : List Loc} {ls : Array Slot} (hw : pw_H D cls9 A s.heap a0 c0 ad C H locs) (hl : lv_has ls 4 [(3, .int (nI i)), (2, .ref (ad 30 0)), (1, .ref (ad 0 0)), (0, .ref b)]) {cells slots : Nat} (hc : cells + 7 ≤ 600000) (hs : slots + 90 ≤ 7302250) {Q : State → Prop} (kk : ∀ (ad' : pw_A) (C' : pw_C) (H' : Heap) (locs' : List Loc), lw_I ca kS kT ad' C' → ad' 0 0 = ad 0 0 → ad' 30 0 = ad 30 0 → pw_H D cls9 A s.heap a0 c0 ad' C' H' locs' → W p l e ({ frames := 2048, cells := 600000, slots := 7302250, locals := 84000 }) s m #[Value.ref b] below meth c H' locs' (cells + 7) (slots + 90) Q (F0 m 788 ls [])) : W p l e ({ frames := 2048, cells := 600000, slots := 7302250, locals := 84000 }) s m #[Value.ref b] below meth c H locs cells slots Q (F0 m 624 ls []) := by
  obtain ⟨hx, hb, hr, hml, hown, hts0, hX, hbl, hbA, hA, hlocks, hL, hK, hz⟩ := hE
  have hts := wd_hts hts0
  have hZ := z9_ok kS kT
  obtain ⟨C1, cd, mk, td, x, q, sn, r, hJ, f1, f2, f3, f4, hw⟩ := lw_clean hI hw
  obtain ⟨hG, hO, hR, hP⟩ := hJ
  clear hI
  refine lv_aload_n hx hb d_L_law_624 rfl (lv_at hl 2 rfl) ?_
  refine lv_aload_n hx hb d_L_law_625 rfl (lv_at hl 3 rfl) ?_
  refine lv_iload_n hx hb d_L_law_626 rfl (lv_at hl 0 rfl) ?_
  refine lv_iconst (v := 1) hx hb d_L_law_627 (by decide) ?_
  refine lv_iadd hx hb d_L_law_628 ?_
  refine lw_ld hx hb hX hbl hbA hw.2.2.1 hi hL 1 (by decide) (by decide) d_L_law_629 ?_
  refine lv_aload_n hx hb d_L_law_630 rfl (lv_at hl 3 rfl) ?_
  refine lv_iload_n hx hb d_L_law_631 rfl (lv_at hl 0 rfl) ?_
  refine lv_iconst (v := 2) hx hb d_L_law_632 (by decide) ?_
  refine lv_iadd hx hb d_L_law_633 ?_
  refine lw_ld hx hb hX hbl hbA hw.2.2.1 hi hL 2 (by decide) (by decide) d_L_law_634 ?_
  refine lw_bool hx hb d_L_law_635 d_L_law_638 d_L_law_639 d_L_law_642 ?_
  refine pw_calli (va_runV (As := [.int (xs (i + 1)), .int (if xs (i + 2) = 0 then 0 else 1)]) (rest := []) ⟨hx, hb, hml, hown, hts0⟩ (k_G_write hG hO hP.g.gd.wd hP.g.wt (xs (i + 1)) (if xs (i + 2) = 0 then 0 else 1) _) (cwV 2 hts0 (wd_V wd_589 wd_586 wd_587 wd_588 wd_53) rfl rfl rfl (by decide +kernel) ⟨(by (try dsimp only); omega), (by (try dsimp only); omega)⟩) (pw_preV hZ hw hA hK hz rfl hG.1 rfl) rfl rfl hl.1 rfl (lv_room (Nat.le_of_ble_eq_true rfl)) d_L_law_643 ⟨(by (try dsimp only); omega), (by (try dsimp only); omega)⟩) hw hA (fun r_3 ad_1 C_2 H locs hp hw => ?_)
  obtain ⟨⟨hae, hO, hf⟩, er⟩ := hp
  rw [hae] at hw
  have hG := hG.fr hf
  have hR := hR.mv (fun x y h => hf x y (by omega)) (fun _ _ _ => rfl)
  have h00 : ad 0 0 = ad 0 0 := rfl
  have h30 : ad 30 0 = ad 30 0 := rfl
  refine lv_aload_n hx hb d_L_law_646 rfl (lv_at hl 1 rfl) ?_
  refine lv_aload_n hx hb d_L_law_647 rfl (lv_at hl 3 rfl) ?_
  refine lv_iload_n hx hb d_L_law_648 rfl (lv_at hl 0 rfl) ?_
  refine lv_iconst (v := 1) hx hb d_L_law_649 (by decide) ?_
  refine lv_iadd hx hb d_L_law_650 ?_
  refine lw_ld hx hb hX hbl hbA hw.2.2.1 hi hL 1 (by decide) (by decide) d_L_law_651 ?_
  refine lv_aload_n hx hb d_L_law_652 rfl (lv_at hl 3 rfl) ?_
  refine lv_iload_n hx hb d_L_law_653 rfl (lv_at hl 0 rfl) ?_
  refine lv_iconst (v := 2) hx hb d_L_law_654 (by decide) ?_
  refine lv_iadd hx hb d_L_law_655 ?_
  refine lw_ld hx hb hX hbl hbA hw.2.2.1 hi hL 2 (by decide) (by decide) d_L_law_656 ?_
  refine lw_bool hx hb d_L_law_657 d_L_law_660 d_L_law_661 d_L_law_664 ?_
  obtain ⟨r9, hM, hP⟩ := p_write hP sn (xs (i + 1)) (if xs (i + 2) = 0 then 0 else 1)
  refine pw_calli (va_runV (As := [.int (xs (i + 1)), .int (if xs (i + 2) = 0 then 0 else 1)]) (rest := [.int r_3]) ⟨hx, hb, hml, hown, hts0⟩ (k_M_write hR hM _) (cwV 2 hts0 (wd_V wd_930 wd_927 wd_928 wd_929 wd_56) rfl rfl rfl (by decide +kernel) ⟨(by (try dsimp only); omega), (by (try dsimp only); omega)⟩) (pw_preV hZ hw hA hK hz rfl (rm_at.o hR) rfl) rfl rfl hl.1 rfl (lv_room (Nat.le_of_ble_eq_true rfl)) d_L_law_665 ⟨(by (try dsimp only); omega), (by (try dsimp only); omega)⟩) hw hA (fun r_6 ad_4 C_5 H locs hp hw => ?_)
  obtain ⟨⟨hae, hR, hf⟩, er2⟩ := hp
  rw [hae] at hw
  obtain ⟨hG, hO⟩ := lf_M hG hO hf
  refine lv_icmp_eq (tgt := 788) hx hb d_L_law_668 (by decide) (fun c9 => ?_) (fun c9 => ?_)
  · refine W.widen (k := cells + 7) (n := slots + 90) (by omega) (by omega) ?_
    exact kk ad C_5 H locs ⟨_, _, _, _, _, _, _, hG, hO, hR, hP⟩ h00 h30 hw
  · exact absurd (er.trans er2.symm) c9
set_option maxHeartbeats 4000000 in
set_option maxRecDepth 100000 in
theorem lc_reset {p : Program} {l : Launch} {e : Env} {s : State} {m : MethodId} {below : List Frame} {meth : Method} {c : Code} {b L : Nat} {xs : Nat → Int32} {D : va_G} {ca : Nat → ClassId} {kS : Nat → Nat} {kT : Nat} {A : Nat → Prop} {a0 : pw_A} {c0 : pw_C} (hE : lw_E p s m meth c b L xs D ca kS kT A) {i : Nat} (hi : i + 6 ≤ L) {ad : pw_A} {C : pw_C} (hI : lw_I ca kS kT ad C) {H : Heap} {locs : List Loc} {ls : Array Slot} (hw : pw_H D cls9 A s.heap a0 c0 ad C H locs) (hl : lv_has ls 4 [(3, .int (nI i)), (2, .ref (ad 30 0)), (1, .ref (ad 0 0)), (0, .ref b)]) {cells slots : Nat} (hc : cells + 7 ≤ 600000) (hs : slots + 90 ≤ 7302250) {Q : State → Prop} (kk : ∀ (ad' : pw_A) (C' : pw_C) (H' : Heap) (locs' : List Loc), lw_I ca kS kT ad' C' → ad' 0 0 = ad 0 0 → ad' 30 0 = ad 30 0 → pw_H D cls9 A s.heap a0 c0 ad' C' H' locs' → W p l e ({ frames := 2048, cells := 600000, slots := 7302250, locals := 84000 }) s m #[Value.ref b] below meth c H' locs' (cells + 7) (slots + 90) Q (F0 m 788 ls [])) : W p l e ({ frames := 2048, cells := 600000, slots := 7302250, locals := 84000 }) s m #[Value.ref b] below meth c H locs cells slots Q (F0 m 673 ls []) := by
  obtain ⟨hx, hb, hr, hml, hown, hts0, hX, hbl, hbA, hA, hlocks, hL, hK, hz⟩ := hE
  have hts := wd_hts hts0
  have hZ := z9_ok kS kT
  obtain ⟨C1, cd, mk, td, x, q, sn, r, hJ, f1, f2, f3, f4, hw⟩ := lw_clean hI hw
  obtain ⟨hG, hO, hR, hP⟩ := hJ
  clear hI
  refine lv_aload_n hx hb d_L_law_673 rfl (lv_at hl 2 rfl) ?_
  refine pw_calli (va_runV (As := []) (rest := []) ⟨hx, hb, hml, hown, hts0⟩ (k_G_reset hG hO _) (cwV 0 hts0 (wd_V wd_715 wd_712 wd_713 wd_714 wd_53) rfl rfl rfl (by decide +kernel) ⟨(by (try dsimp only); omega), (by (try dsimp only); omega)⟩) (pw_preV hZ hw hA hK hz rfl hG.1 rfl) rfl rfl hl.1 rfl (lv_room (Nat.le_of_ble_eq_true rfl)) d_L_law_674 ⟨(by (try dsimp only); omega), (by (try dsimp only); omega)⟩) hw hA (fun r_3 ad_1 C_2 H locs hp hw => ?_)
  obtain ⟨⟨hae, hO, hf⟩, er⟩ := hp
  rw [hae] at hw
  have hG := hG.fr hf
  have hR := hR.mv (fun x y h => hf x y (by omega)) (fun _ _ _ => rfl)
  have h00 : ad 0 0 = ad 0 0 := rfl
  have h30 : ad 30 0 = ad 30 0 := rfl
  refine lv_aload_n hx hb d_L_law_677 rfl (lv_at hl 1 rfl) ?_
  obtain ⟨r9, hM, hP⟩ := p_reset hP sn
  refine pw_calli (va_runV (As := []) (rest := [.int r_3]) ⟨hx, hb, hml, hown, hts0⟩ (k_M_reset hR hM _) (cwV 0 hts0 (wd_V wd_1054 wd_1051 wd_1052 wd_1053 wd_56) rfl rfl rfl (by decide +kernel) ⟨(by (try dsimp only); omega), (by (try dsimp only); omega)⟩) (pw_preV hZ hw hA hK hz rfl (rm_at.o hR) rfl) rfl rfl hl.1 rfl (lv_room (Nat.le_of_ble_eq_true rfl)) d_L_law_678 ⟨(by (try dsimp only); omega), (by (try dsimp only); omega)⟩) hw hA (fun r_6 ad_4 C_5 H locs hp hw => ?_)
  obtain ⟨⟨hae, hR, hf⟩, er2⟩ := hp
  rw [hae] at hw
  obtain ⟨hG, hO⟩ := lf_M hG hO hf
  refine lv_icmp_eq (tgt := 788) hx hb d_L_law_681 (by decide) (fun c9 => ?_) (fun c9 => ?_)
  · refine W.widen (k := cells + 7) (n := slots + 90) (by omega) (by omega) ?_
    exact kk ad C_5 H locs ⟨_, _, _, _, _, _, _, hG, hO, hR, hP⟩ h00 h30 hw
  · exact absurd (er.trans er2.symm) c9
