set_option maxHeartbeats 4000000 in
set_option maxRecDepth 100000 in
theorem lc_byteAt {p : Program} {l : Launch} {e : Env} {s : State} {m : MethodId} {below : List Frame} {meth : Method} {c : Code} {b L : Nat} {xs : Nat → Int32} {D : va_G} {ca : Nat → ClassId} {kS : Nat → Nat} {kT : Nat} {A : Nat → Prop} {a0 : pw_A} {c0 : pw_C} (hE : lw_E p s m meth c b L xs D ca kS kT A) {i : Nat} (hi : i + 6 ≤ L) {ad : pw_A} {C : pw_C} (hI : lw_I ca kS kT ad C) {H : Heap} {locs : List Loc} {ls : Array Slot} (hw : pw_H D cls9 A s.heap a0 c0 ad C H locs) (hl : lv_has ls 4 [(3, .int (nI i)), (2, .ref (ad 30 0)), (1, .ref (ad 0 0)), (0, .ref b)]) {cells slots : Nat} (hc : cells + 7 ≤ 600000) (hs : slots + 90 ≤ 7302250) {Q : State → Prop} (kk : ∀ (ad' : pw_A) (C' : pw_C) (H' : Heap) (locs' : List Loc), lw_I ca kS kT ad' C' → ad' 0 0 = ad 0 0 → ad' 30 0 = ad 30 0 → pw_H D cls9 A s.heap a0 c0 ad' C' H' locs' → W p l e ({ frames := 2048, cells := 600000, slots := 7302250, locals := 84000 }) s m #[Value.ref b] below meth c H' locs' (cells + 7) (slots + 90) Q (F0 m 788 ls [])) : W p l e ({ frames := 2048, cells := 600000, slots := 7302250, locals := 84000 }) s m #[Value.ref b] below meth c H locs cells slots Q (F0 m 686 ls []) := by
  obtain ⟨hx, hb, hr, hml, hown, hts0, hX, hbl, hbA, hA, hlocks, hL, hK, hz⟩ := hE
  have hts := wd_hts hts0
  have hZ := z9_ok kS kT
  obtain ⟨C1, cd, mk, td, x, q, sn, r, hJ, f1, f2, f3, f4, hw⟩ := lw_clean hI hw
  obtain ⟨hG, hO, hR, hP⟩ := hJ
  clear hI
  refine lv_aload_n hx hb d_L_law_686 rfl (lv_at hl 2 rfl) ?_
  refine lv_aload_n hx hb d_L_law_687 rfl (lv_at hl 3 rfl) ?_
  refine lv_iload_n hx hb d_L_law_688 rfl (lv_at hl 0 rfl) ?_
  refine lv_iconst (v := 1) hx hb d_L_law_689 (by decide) ?_
  refine lv_iadd hx hb d_L_law_690 ?_
  refine lw_ld hx hb hX hbl hbA hw.2.2.1 hi hL 1 (by decide) (by decide) d_L_law_691 ?_
  refine pw_calli (va_runV (As := [.int (xs (i + 1))]) (rest := []) ⟨hx, hb, hml, hown, hts0⟩ (k_G_byteAt hG hO (xs (i + 1)) _) (cwV 1 hts0 (wd_V wd_720 wd_717 wd_718 wd_719 wd_53) rfl rfl rfl (by decide +kernel) ⟨(by (try dsimp only); omega), (by (try dsimp only); omega)⟩) (pw_preV hZ hw hA hK hz rfl hG.1 rfl) rfl rfl hl.1 rfl (lv_room (Nat.le_of_ble_eq_true rfl)) d_L_law_692 ⟨(by (try dsimp only); omega), (by (try dsimp only); omega)⟩) hw hA (fun r_3 ad_1 C_2 H locs hp hw => ?_)
  obtain ⟨⟨hae, hCe⟩, er⟩ := hp
  rw [hae, hCe] at hw
  have h00 : ad 0 0 = ad 0 0 := rfl
  have h30 : ad 30 0 = ad 30 0 := rfl
  refine lv_aload_n hx hb d_L_law_695 rfl (lv_at hl 1 rfl) ?_
  refine lv_aload_n hx hb d_L_law_696 rfl (lv_at hl 3 rfl) ?_
  refine lv_iload_n hx hb d_L_law_697 rfl (lv_at hl 0 rfl) ?_
  refine lv_iconst (v := 1) hx hb d_L_law_698 (by decide) ?_
  refine lv_iadd hx hb d_L_law_699 ?_
  refine lw_ld hx hb hX hbl hbA hw.2.2.1 hi hL 1 (by decide) (by decide) d_L_law_700 ?_
  have hM := p_byteAt hP (xs (i + 1))
  refine pw_calli (va_runV (As := [.int (xs (i + 1))]) (rest := [.int r_3]) ⟨hx, hb, hml, hown, hts0⟩ (k_M_byteAt hR hM _) (cwV 1 hts0 (wd_V wd_1058 wd_1055 wd_1056 wd_1057 wd_56) rfl rfl rfl (by decide +kernel) ⟨(by (try dsimp only); omega), (by (try dsimp only); omega)⟩) (pw_preV hZ hw hA hK hz rfl (rm_at.o hR) rfl) rfl rfl hl.1 rfl (lv_room (Nat.le_of_ble_eq_true rfl)) d_L_law_701 ⟨(by (try dsimp only); omega), (by (try dsimp only); omega)⟩) hw hA (fun r_6 ad_4 C_5 H locs hp hw => ?_)
  obtain ⟨⟨hae, hR, hf⟩, er2⟩ := hp
  rw [hae] at hw
  obtain ⟨hG, hO⟩ := lf_M hG hO hf
  refine lv_icmp_eq (tgt := 788) hx hb d_L_law_704 (by decide) (fun c9 => ?_) (fun c9 => ?_)
  · refine W.widen (k := cells + 7) (n := slots + 90) (by omega) (by omega) ?_
    exact kk ad C_5 H locs ⟨_, _, _, _, _, _, _, hG, hO, hR, hP⟩ h00 h30 hw
  · exact absurd (er.trans er2.symm) c9
set_option maxHeartbeats 4000000 in
set_option maxRecDepth 100000 in
theorem lc_handle {p : Program} {l : Launch} {e : Env} {s : State} {m : MethodId} {below : List Frame} {meth : Method} {c : Code} {b L : Nat} {xs : Nat → Int32} {D : va_G} {ca : Nat → ClassId} {kS : Nat → Nat} {kT : Nat} {A : Nat → Prop} {a0 : pw_A} {c0 : pw_C} (hE : lw_E p s m meth c b L xs D ca kS kT A) {i : Nat} (hi : i + 6 ≤ L) {ad : pw_A} {C : pw_C} (hI : lw_I ca kS kT ad C) {H : Heap} {locs : List Loc} {ls : Array Slot} (hw : pw_H D cls9 A s.heap a0 c0 ad C H locs) (hl : lv_has ls 4 [(3, .int (nI i)), (2, .ref (ad 30 0)), (1, .ref (ad 0 0)), (0, .ref b)]) {cells slots : Nat} (hc : cells + 7 ≤ 600000) (hs : slots + 90 ≤ 7302250) {Q : State → Prop} (kk : ∀ (ad' : pw_A) (C' : pw_C) (H' : Heap) (locs' : List Loc), lw_I ca kS kT ad' C' → ad' 0 0 = ad 0 0 → ad' 30 0 = ad 30 0 → pw_H D cls9 A s.heap a0 c0 ad' C' H' locs' → W p l e ({ frames := 2048, cells := 600000, slots := 7302250, locals := 84000 }) s m #[Value.ref b] below meth c H' locs' (cells + 7) (slots + 90) Q (F0 m 788 ls [])) : W p l e ({ frames := 2048, cells := 600000, slots := 7302250, locals := 84000 }) s m #[Value.ref b] below meth c H locs cells slots Q (F0 m 709 ls []) := by
  obtain ⟨hx, hb, hr, hml, hown, hts0, hX, hbl, hbA, hA, hlocks, hL, hK, hz⟩ := hE
  have hts := wd_hts hts0
  have hZ := z9_ok kS kT
  obtain ⟨C1, cd, mk, td, x, q, sn, r, hJ, f1, f2, f3, f4, hw⟩ := lw_clean hI hw
  obtain ⟨hG, hO, hR, hP⟩ := hJ
  clear hI
  refine lv_aload_n hx hb d_L_law_709 rfl (lv_at hl 2 rfl) ?_
  refine lv_aload_n hx hb d_L_law_710 rfl (lv_at hl 3 rfl) ?_
  refine lv_iload_n hx hb d_L_law_711 rfl (lv_at hl 0 rfl) ?_
  refine lv_iconst (v := 1) hx hb d_L_law_712 (by decide) ?_
  refine lv_iadd hx hb d_L_law_713 ?_
  refine lw_ld hx hb hX hbl hbA hw.2.2.1 hi hL 1 (by decide) (by decide) d_L_law_714 ?_
  refine pw_calli (va_runV (As := [.int (xs (i + 1))]) (rest := []) ⟨hx, hb, hml, hown, hts0⟩ (k_G_handle hG hO (xs (i + 1)) _) (cwV 1 hts0 (wd_V wd_724 wd_721 wd_722 wd_723 wd_53) rfl rfl rfl (by decide +kernel) ⟨(by (try dsimp only); omega), (by (try dsimp only); omega)⟩) (pw_preV hZ hw hA hK hz rfl hG.1 rfl) rfl rfl hl.1 rfl (lv_room (Nat.le_of_ble_eq_true rfl)) d_L_law_715 ⟨(by (try dsimp only); omega), (by (try dsimp only); omega)⟩) hw hA (fun r_3 ad_1 C_2 H locs hp hw => ?_)
  obtain ⟨⟨hae, hCe⟩, er⟩ := hp
  rw [hae, hCe] at hw
  have h00 : ad 0 0 = ad 0 0 := rfl
  have h30 : ad 30 0 = ad 30 0 := rfl
  refine lv_aload_n hx hb d_L_law_718 rfl (lv_at hl 1 rfl) ?_
  refine lv_aload_n hx hb d_L_law_719 rfl (lv_at hl 3 rfl) ?_
  refine lv_iload_n hx hb d_L_law_720 rfl (lv_at hl 0 rfl) ?_
  refine lv_iconst (v := 1) hx hb d_L_law_721 (by decide) ?_
  refine lv_iadd hx hb d_L_law_722 ?_
  refine lw_ld hx hb hX hbl hbA hw.2.2.1 hi hL 1 (by decide) (by decide) d_L_law_723 ?_
  have hM := p_handle hP (xs (i + 1))
  refine pw_calli (va_runV (As := [.int (xs (i + 1))]) (rest := [.int r_3]) ⟨hx, hb, hml, hown, hts0⟩ (k_M_handle hR hM _) (cwV 1 hts0 (wd_V wd_1062 wd_1059 wd_1060 wd_1061 wd_56) rfl rfl rfl (by decide +kernel) ⟨(by (try dsimp only); omega), (by (try dsimp only); omega)⟩) (pw_preV hZ hw hA hK hz rfl (rm_at.o hR) rfl) rfl rfl hl.1 rfl (lv_room (Nat.le_of_ble_eq_true rfl)) d_L_law_724 ⟨(by (try dsimp only); omega), (by (try dsimp only); omega)⟩) hw hA (fun r_6 ad_4 C_5 H locs hp hw => ?_)
  obtain ⟨⟨hae, hR, hf⟩, er2⟩ := hp
  rw [hae] at hw
  obtain ⟨hG, hO⟩ := lf_M hG hO hf
  refine lv_icmp_eq (tgt := 788) hx hb d_L_law_727 (by decide) (fun c9 => ?_) (fun c9 => ?_)
  · refine W.widen (k := cells + 7) (n := slots + 90) (by omega) (by omega) ?_
    exact kk ad C_5 H locs ⟨_, _, _, _, _, _, _, hG, hO, hR, hP⟩ h00 h30 hw
  · exact absurd (er.trans er2.symm) c9
set_option maxHeartbeats 4000000 in
set_option maxRecDepth 100000 in
theorem lc_count {p : Program} {l : Launch} {e : Env} {s : State} {m : MethodId} {below : List Frame} {meth : Method} {c : Code} {b L : Nat} {xs : Nat → Int32} {D : va_G} {ca : Nat → ClassId} {kS : Nat → Nat} {kT : Nat} {A : Nat → Prop} {a0 : pw_A} {c0 : pw_C} (hE : lw_E p s m meth c b L xs D ca kS kT A) {i : Nat} (hi : i + 6 ≤ L) {ad : pw_A} {C : pw_C} (hI : lw_I ca kS kT ad C) {H : Heap} {locs : List Loc} {ls : Array Slot} (hw : pw_H D cls9 A s.heap a0 c0 ad C H locs) (hl : lv_has ls 4 [(3, .int (nI i)), (2, .ref (ad 30 0)), (1, .ref (ad 0 0)), (0, .ref b)]) {cells slots : Nat} (hc : cells + 7 ≤ 600000) (hs : slots + 90 ≤ 7302250) {Q : State → Prop} (kk : ∀ (ad' : pw_A) (C' : pw_C) (H' : Heap) (locs' : List Loc), lw_I ca kS kT ad' C' → ad' 0 0 = ad 0 0 → ad' 30 0 = ad 30 0 → pw_H D cls9 A s.heap a0 c0 ad' C' H' locs' → W p l e ({ frames := 2048, cells := 600000, slots := 7302250, locals := 84000 }) s m #[Value.ref b] below meth c H' locs' (cells + 7) (slots + 90) Q (F0 m 788 ls [])) : W p l e ({ frames := 2048, cells := 600000, slots := 7302250, locals := 84000 }) s m #[Value.ref b] below meth c H locs cells slots Q (F0 m 732 ls []) := by
  obtain ⟨hx, hb, hr, hml, hown, hts0, hX, hbl, hbA, hA, hlocks, hL, hK, hz⟩ := hE
  have hts := wd_hts hts0
  have hZ := z9_ok kS kT
  obtain ⟨C1, cd, mk, td, x, q, sn, r, hJ, f1, f2, f3, f4, hw⟩ := lw_clean hI hw
  obtain ⟨hG, hO, hR, hP⟩ := hJ
  clear hI
  refine lv_aload_n hx hb d_L_law_732 rfl (lv_at hl 2 rfl) ?_
  refine lv_aload_n hx hb d_L_law_733 rfl (lv_at hl 3 rfl) ?_
  refine lv_iload_n hx hb d_L_law_734 rfl (lv_at hl 0 rfl) ?_
  refine lv_iconst (v := 1) hx hb d_L_law_735 (by decide) ?_
  refine lv_iadd hx hb d_L_law_736 ?_
  refine lw_ld hx hb hX hbl hbA hw.2.2.1 hi hL 1 (by decide) (by decide) d_L_law_737 ?_
  refine pw_calli (va_runV (As := [.int (xs (i + 1))]) (rest := []) ⟨hx, hb, hml, hown, hts0⟩ (k_G_count hG hO (xs (i + 1)) _) (cwV 1 hts0 (wd_V wd_728 wd_725 wd_726 wd_727 wd_53) rfl rfl rfl (by decide +kernel) ⟨(by (try dsimp only); omega), (by (try dsimp only); omega)⟩) (pw_preV hZ hw hA hK hz rfl hG.1 rfl) rfl rfl hl.1 rfl (lv_room (Nat.le_of_ble_eq_true rfl)) d_L_law_738 ⟨(by (try dsimp only); omega), (by (try dsimp only); omega)⟩) hw hA (fun r_3 ad_1 C_2 H locs hp hw => ?_)
  obtain ⟨⟨hae, hCe⟩, er⟩ := hp
  rw [hae, hCe] at hw
  have h00 : ad 0 0 = ad 0 0 := rfl
  have h30 : ad 30 0 = ad 30 0 := rfl
  refine lv_aload_n hx hb d_L_law_741 rfl (lv_at hl 1 rfl) ?_
  refine lv_aload_n hx hb d_L_law_742 rfl (lv_at hl 3 rfl) ?_
  refine lv_iload_n hx hb d_L_law_743 rfl (lv_at hl 0 rfl) ?_
  refine lv_iconst (v := 1) hx hb d_L_law_744 (by decide) ?_
  refine lv_iadd hx hb d_L_law_745 ?_
  refine lw_ld hx hb hX hbl hbA hw.2.2.1 hi hL 1 (by decide) (by decide) d_L_law_746 ?_
  have hM := p_count hP (xs (i + 1))
  refine pw_calli (va_runV (As := [.int (xs (i + 1))]) (rest := [.int r_3]) ⟨hx, hb, hml, hown, hts0⟩ (k_M_count hR hM _) (cwV 1 hts0 (wd_V wd_1066 wd_1063 wd_1064 wd_1065 wd_56) rfl rfl rfl (by decide +kernel) ⟨(by (try dsimp only); omega), (by (try dsimp only); omega)⟩) (pw_preV hZ hw hA hK hz rfl (rm_at.o hR) rfl) rfl rfl hl.1 rfl (lv_room (Nat.le_of_ble_eq_true rfl)) d_L_law_747 ⟨(by (try dsimp only); omega), (by (try dsimp only); omega)⟩) hw hA (fun r_6 ad_4 C_5 H locs hp hw => ?_)
  obtain ⟨⟨hae, hR, hf⟩, er2⟩ := hp
  rw [hae] at hw
  obtain ⟨hG, hO⟩ := lf_M hG hO hf
  refine lv_icmp_eq (tgt := 788) hx hb d_L_law_750 (by decide) (fun c9 => ?_) (fun c9 => ?_)
  · refine W.widen (k := cells + 7) (n := slots + 90) (by omega) (by omega) ?_
    exact kk ad C_5 H locs ⟨_, _, _, _, _, _, _, hG, hO, hR, hP⟩ h00 h30 hw
  · exact absurd (er.trans er2.symm) c9
set_option maxHeartbeats 4000000 in
set_option maxRecDepth 100000 in
theorem lc_object {p : Program} {l : Launch} {e : Env} {s : State} {m : MethodId} {below : List Frame} {meth : Method} {c : Code} {b L : Nat} {xs : Nat → Int32} {D : va_G} {ca : Nat → ClassId} {kS : Nat → Nat} {kT : Nat} {A : Nat → Prop} {a0 : pw_A} {c0 : pw_C} (hE : lw_E p s m meth c b L xs D ca kS kT A) {i : Nat} (hi : i + 6 ≤ L) {ad : pw_A} {C : pw_C} (hI : lw_I ca kS kT ad C) {H : Heap} {locs : List Loc} {ls : Array Slot} (hw : pw_H D cls9 A s.heap a0 c0 ad C H locs) (hl : lv_has ls 4 [(3, .int (nI i)), (2, .ref (ad 30 0)), (1, .ref (ad 0 0)), (0, .ref b)]) {cells slots : Nat} (hc : cells + 7 ≤ 600000) (hs : slots + 90 ≤ 7302250) {Q : State → Prop} (kk : ∀ (ad' : pw_A) (C' : pw_C) (H' : Heap) (locs' : List Loc), lw_I ca kS kT ad' C' → ad' 0 0 = ad 0 0 → ad' 30 0 = ad 30 0 → pw_H D cls9 A s.heap a0 c0 ad' C' H' locs' → W p l e ({ frames := 2048, cells := 600000, slots := 7302250, locals := 84000 }) s m #[Value.ref b] below meth c H' locs' (cells + 7) (slots + 90) Q (F0 m 788 ls [])) : W p l e ({ frames := 2048, cells := 600000, slots := 7302250, locals := 84000 }) s m #[Value.ref b] below meth c H locs cells slots Q (F0 m 755 ls []) := by
  obtain ⟨hx, hb, hr, hml, hown, hts0, hX, hbl, hbA, hA, hlocks, hL, hK, hz⟩ := hE
  have hts := wd_hts hts0
  have hZ := z9_ok kS kT
  obtain ⟨C1, cd, mk, td, x, q, sn, r, hJ, f1, f2, f3, f4, hw⟩ := lw_clean hI hw
  obtain ⟨hG, hO, hR, hP⟩ := hJ
  clear hI
  refine lv_aload_n hx hb d_L_law_755 rfl (lv_at hl 2 rfl) ?_
  refine lv_aload_n hx hb d_L_law_756 rfl (lv_at hl 3 rfl) ?_
  refine lv_iload_n hx hb d_L_law_757 rfl (lv_at hl 0 rfl) ?_
  refine lv_iconst (v := 1) hx hb d_L_law_758 (by decide) ?_
  refine lv_iadd hx hb d_L_law_759 ?_
  refine lw_ld hx hb hX hbl hbA hw.2.2.1 hi hL 1 (by decide) (by decide) d_L_law_760 ?_
  refine lv_aload_n hx hb d_L_law_761 rfl (lv_at hl 3 rfl) ?_
  refine lv_iload_n hx hb d_L_law_762 rfl (lv_at hl 0 rfl) ?_
  refine lv_iconst (v := 2) hx hb d_L_law_763 (by decide) ?_
  refine lv_iadd hx hb d_L_law_764 ?_
  refine lw_ld hx hb hX hbl hbA hw.2.2.1 hi hL 2 (by decide) (by decide) d_L_law_765 ?_
  refine pw_calli (va_runV (As := [.int (xs (i + 1)), .int (xs (i + 2))]) (rest := []) ⟨hx, hb, hml, hown, hts0⟩ (k_G_object hG hP.g.wt hP.g.ow (xs (i + 1)) (xs (i + 2)) _) (cwV 2 hts0 (wd_V wd_736 wd_733 wd_734 wd_735 wd_53) rfl rfl rfl (by decide +kernel) ⟨(by (try dsimp only); omega), (by (try dsimp only); omega)⟩) (pw_preV hZ hw hA hK hz rfl hG.1 rfl) rfl rfl hl.1 rfl (lv_room (Nat.le_of_ble_eq_true rfl)) d_L_law_766 ⟨(by (try dsimp only); omega), (by (try dsimp only); omega)⟩) hw hA (fun r_3 ad_1 C_2 H locs hp hw => ?_)
  obtain ⟨⟨hae, hCe⟩, er⟩ := hp
  rw [hae, hCe] at hw
  have h00 : ad 0 0 = ad 0 0 := rfl
  have h30 : ad 30 0 = ad 30 0 := rfl
  refine lv_aload_n hx hb d_L_law_769 rfl (lv_at hl 1 rfl) ?_
  refine lv_aload_n hx hb d_L_law_770 rfl (lv_at hl 3 rfl) ?_
  refine lv_iload_n hx hb d_L_law_771 rfl (lv_at hl 0 rfl) ?_
  refine lv_iconst (v := 1) hx hb d_L_law_772 (by decide) ?_
  refine lv_iadd hx hb d_L_law_773 ?_
  refine lw_ld hx hb hX hbl hbA hw.2.2.1 hi hL 1 (by decide) (by decide) d_L_law_774 ?_
  refine lv_aload_n hx hb d_L_law_775 rfl (lv_at hl 3 rfl) ?_
  refine lv_iload_n hx hb d_L_law_776 rfl (lv_at hl 0 rfl) ?_
  refine lv_iconst (v := 2) hx hb d_L_law_777 (by decide) ?_
  refine lv_iadd hx hb d_L_law_778 ?_
  refine lw_ld hx hb hX hbl hbA hw.2.2.1 hi hL 2 (by decide) (by decide) d_L_law_779 ?_
  have hM := p_object hP (xs (i + 1)) (xs (i + 2))
  refine pw_calli (va_runV (As := [.int (xs (i + 1)), .int (xs (i + 2))]) (rest := [.int r_3]) ⟨hx, hb, hml, hown, hts0⟩ (k_M_object hR hM _) (cwV 2 hts0 (wd_V wd_1070 wd_1067 wd_1068 wd_1069 wd_56) rfl rfl rfl (by decide +kernel) ⟨(by (try dsimp only); omega), (by (try dsimp only); omega)⟩) (pw_preV hZ hw hA hK hz rfl (rm_at.o hR) rfl) rfl rfl hl.1 rfl (lv_room (Nat.le_of_ble_eq_true rfl)) d_L_law_780 ⟨(by (try dsimp only); omega), (by (try dsimp only); omega)⟩) hw hA (fun r_6 ad_4 C_5 H locs hp hw => ?_)
  obtain ⟨⟨hae, hR, hf⟩, er2⟩ := hp
  rw [hae] at hw
  obtain ⟨hG, hO⟩ := lf_M hG hO hf
  refine lv_icmp_eq (tgt := 788) hx hb d_L_law_783 (by decide) (fun c9 => ?_) (fun c9 => ?_)
  · refine W.widen (k := cells + 7) (n := slots + 90) (by omega) (by omega) ?_
    exact kk ad C_5 H locs ⟨_, _, _, _, _, _, _, hG, hO, hR, hP⟩ h00 h30 hw
  · exact absurd (er.trans er2.symm) c9
