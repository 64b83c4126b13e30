set_option maxHeartbeats 4000000 in
set_option maxRecDepth 100000 in
theorem k_JA_init {l : Launch} {D : va_G} {ca : Nat → ClassId} {kS : Nat → Nat} {kT : Nat} {ad : pw_A} {C : pw_C} (b25 : C 25 0 = some (.inr (6, [.null, .int 0, .int 0, .int 0]))) (n26 : C 26 0 = none) : gc_Con l y_JA_init c_JA_init ({ frames := 1, cells := 1, slots := 16, locals := 60 }) D ca (z9_Z kS kT) [.ref (ad 25 0), .int 16] ad C (pw_pv (fun ad' C' => ∃ q, ad' = pw_up ad 26 0 q ∧ C' 25 0 = some (.inr (6, [.ref q, .int 0, .int 0, .int 0])) ∧ C' 26 0 = some (.inl (ca 2, 16, .inl (fun _ => 0))) ∧ ∀ x y, ¬ (x = 25 ∧ y = 0) → ¬ (x = 26 ∧ y = 0) → C' x y = C x y)) 1 16 := by
  have hZ := z9_ok kS kT
  refine pw_ofW (cc := b_JA_init) (maxL := 2) (ret := none) (by decide) rfl (Nat.le_of_ble_eq_true rfl) ?_
  intro p e s m args below meth c A ls hB hA hw hK hz hl
  obtain ⟨hx, hb, hr, hml, hts0, hlocks, hown, hnm⟩ := hB
  have hts := wd_hts hts0
  have hown : s.vm.findClass "java/lang/AbstractStringBuilder" = some m.cls := hown
  have hl : lv_has ls 2 [(0, .ref (ad 25 0)), (1, .int 16)] := hl
  have hz0 := hz
  obtain ⟨hz1, hz2, hz3, -⟩ := hz0
  have hfr : ∀ x y, ¬ (x = 25 ∧ y = 0) → ¬ (x = 26 ∧ y = 0) → C x y = C x y := fun _ _ _ _ => rfl
  refine lv_aload_n hx hb d_JA_init_0 rfl (lv_at hl 0 rfl) ?_
  refine W.objInit hx hb hown (hts _ wd_423) (hts _ wd_74) (hts _ wd_75) rfl (by rw [hml]; exact hl.1) rfl d_JA_init_1 (Nat.le_of_ble_eq_true rfl) (Nat.le_of_ble_eq_true rfl) ?_
  refine W.eq (g2 := F0 m 4 ls []) rfl ?_
  refine va_gets (v := .int 1) hx hb hz1 hw.2.2.1 hown (hts _ wd_424) (fun _ h9 => h9) d_JA_init_4 ?_
  refine lv_if_eq (tgt := 25) hx hb d_JA_init_7 (by decide) (fun c_1 => ?_) (fun c_1 => ?_)
  · exact absurd c_1 (by decide)
  · skip
    refine lv_aload_n hx hb d_JA_init_10 rfl (lv_at hl 0 rfl) ?_
    refine lv_iload_n hx hb d_JA_init_11 rfl (lv_at hl 1 rfl) ?_
    refine pw_newa (atype := .byte) (ty := .byte) (az := (16, .inl (fun _ => 0))) hx hb (hts _ wd_126) rfl (fun t h => by cases h) hK hw hA 26 0 (by decide) n26 2 rfl (fun _ => rfl) (by decide) (by omega) (by show _ * 1 ≤ _; omega) (by (try dsimp only); omega) (by (try dsimp only); omega) d_JA_init_12 (fun q_2 H hw => ?_)
    refine W.widen (k := 1) (n := 16) (by omega) (by omega) ?_
    obtain ⟨ad_3, had_3⟩ : ∃ z, z = pw_up ad 26 0 q_2 := ⟨_, rfl⟩
    rw [← had_3] at hw
    have hsad_3 : ad_3 26 0 = q_2 := by rw [had_3]; exact pw_up_self _ _ _ _
    have hadk : ∀ x9 y9, ¬ (x9 = 26 ∧ y9 = 0) → ad_3 x9 y9 = ad x9 y9 := fun x9 y9 h9 => by rw [had_3]; exact pw_up_ne _ _ h9
    have hw : pw_H D cls9 A s.heap ad C ad_3 (pw_up C 26 0 (some (.inl (ca 2, 16, .inl (fun _ => 0))))) H _ := hw
    generalize hC_4 : pw_up C 26 0 (some (.inl (ca 2, 16, .inl (fun _ => 0)))) = C_4 at hw
    have b25 : C_4 25 0 = some (.inr (6, [.null, .int 0, .int 0, .int 0])) := by rw [← hC_4]; exact (pw_up_ne _ _ (by decide)).trans b25
    have b26 : C_4 26 0 = some (.inl (ca 2, 16, .inl (fun _ => 0))) := by rw [← hC_4]; exact pw_up_self _ _ _ _
    have hfr : ∀ x y, ¬ (x = 25 ∧ y = 0) → ¬ (x = 26 ∧ y = 0) → C_4 x y = C x y := fun x y h0 h1 => by rw [← hC_4]; exact (pw_up_ne _ _ (by omega)).trans (hfr x y h0 h1)
    refine pw_put (Cn := "java/lang/StringBuilder") (T := F_JB) (N := 4) (v := .ref q_2) (ty := .array .byte) hx hb hts in_JB ft_JB to_JB nm_JB hown hK hw 25 0 (by decide) (hadk 25 0 (by omega)) b25 rfl 0 (by decide) (hts _ wd_428) (fun _ h9 => h9) rfl (by decide +kernel) rfl rfl (Nat.le_of_ble_eq_true rfl) d_JA_init_14 (fun H locs hw => ?_)
    have hw : pw_H D cls9 A s.heap ad C ad_3 (pw_up C_4 25 0 (some (.inr (6, [.ref q_2, .int 0, .int 0, .int 0])))) H _ := hw
    generalize hC_5 : pw_up C_4 25 0 (some (.inr (6, [.ref q_2, .int 0, .int 0, .int 0]))) = C_5 at hw
    have b26 : C_5 26 0 = some (.inl (ca 2, 16, .inl (fun _ => 0))) := by rw [← hC_5]; exact (pw_up_ne _ _ (by decide)).trans b26
    have b25 : C_5 25 0 = some (.inr (6, [.ref q_2, .int 0, .int 0, .int 0])) := by rw [← hC_5]; exact pw_up_self _ _ _ _
    have hfr : ∀ x y, ¬ (x = 25 ∧ y = 0) → ¬ (x = 26 ∧ y = 0) → C_5 x y = C x y := fun x y h0 h1 => by rw [← hC_5]; exact (pw_up_ne _ _ (by omega)).trans (hfr x y h0 h1)
    refine lv_aload_n hx hb d_JA_init_17 rfl (lv_at hl 0 rfl) ?_
    refine lv_iconst (v := 0) hx hb d_JA_init_18 (by decide) ?_
    refine pw_put (Cn := "java/lang/StringBuilder") (T := F_JB) (N := 4) (v := .int 0) (ty := .byte) hx hb hts in_JB ft_JB to_JB nm_JB hown hK hw 25 0 (by decide) (hadk 25 0 (by omega)) b25 rfl 1 (by decide) (hts _ wd_429) (fun _ h9 => h9) rfl (by decide +kernel) rfl rfl (Nat.le_of_ble_eq_true rfl) d_JA_init_19 (fun H locs hw => ?_)
    have hw : pw_H D cls9 A s.heap ad C ad_3 (pw_up C_5 25 0 (some (.inr (6, [.ref q_2, .int 0, .int 0, .int 0])))) H _ := hw
    generalize hC_6 : pw_up C_5 25 0 (some (.inr (6, [.ref q_2, .int 0, .int 0, .int 0]))) = C_6 at hw
    have b26 : C_6 26 0 = some (.inl (ca 2, 16, .inl (fun _ => 0))) := by rw [← hC_6]; exact (pw_up_ne _ _ (by decide)).trans b26
    have b25 : C_6 25 0 = some (.inr (6, [.ref q_2, .int 0, .int 0, .int 0])) := by rw [← hC_6]; exact pw_up_self _ _ _ _
    have hfr : ∀ x y, ¬ (x = 25 ∧ y = 0) → ¬ (x = 26 ∧ y = 0) → C_6 x y = C x y := fun x y h0 h1 => by rw [← hC_6]; exact (pw_up_ne _ _ (by omega)).trans (hfr x y h0 h1)
    refine lv_goto (tgt := 38) hx hb d_JA_init_22 (by decide) ?_
    exact pw_vret hx hb hr hlocks hw ⟨q_2, had_3, b25, b26, hfr⟩ d_JA_init_38
set_option maxHeartbeats 4000000 in
set_option maxRecDepth 100000 in
theorem k_JB_init {l : Launch} {D : va_G} {ca : Nat → ClassId} {kS : Nat → Nat} {kT : Nat} {ad : pw_A} {C : pw_C} (b25 : C 25 0 = some (.inr (6, [.null, .int 0, .int 0, .int 0]))) (n26 : C 26 0 = none) : gc_Con l y_JB_init c_JB_init ({ frames := 2, cells := 1, slots := 16, locals := 81 }) D ca (z9_Z kS kT) [.ref (ad 25 0)] ad C (pw_pv (fun ad' C' => ∃ q, ad' = pw_up ad 26 0 q ∧ C' 25 0 = some (.inr (6, [.ref q, .int 0, .int 0, .int 0])) ∧ C' 26 0 = some (.inl (ca 2, 16, .inl (fun _ => 0))) ∧ ∀ x y, ¬ (x = 25 ∧ y = 0) → ¬ (x = 26 ∧ y = 0) → C' x y = C x y)) 1 16 := by
  have hZ := z9_ok kS kT
  refine pw_ofW (cc := b_JB_init) (maxL := 1) (ret := none) (by decide) rfl (Nat.le_of_ble_eq_true rfl) ?_
  intro p e s m args below meth c A ls hB hA hw hK hz hl
  obtain ⟨hx, hb, hr, hml, hts0, hlocks, hown, hnm⟩ := hB
  have hts := wd_hts hts0
  have hown : s.vm.findClass "java/lang/StringBuilder" = some m.cls := hown
  have hl : lv_has ls 1 [(0, .ref (ad 25 0))] := hl
  have hz0 := hz
  obtain ⟨hz1, hz2, hz3, -⟩ := hz0
  refine lv_aload_n hx hb d_JB_init_0 rfl (lv_at hl 0 rfl) ?_
  refine lv_bipush (v := 16) hx hb d_JB_init_1 (by decide) ?_
  refine pw_callv (va_runI (As := [.int 16]) (rest := []) ⟨hx, hb, hml, hown, hts0⟩ (k_JA_init b25 n26 _) (cwI 1 hts0 (wd_sub wd_422) rfl rfl rfl (hts _ wd_65) (hts _ wd_420) (hts _ wd_421) rfl (by decide +kernel) ⟨(by (try dsimp only); omega), (by (try dsimp only); omega)⟩) (pw_preS hZ hw hA hK hz) rfl rfl hl.1 rfl (lv_room (Nat.le_of_ble_eq_true rfl)) d_JB_init_3 ⟨(by (try dsimp only); omega), (by (try dsimp only); omega)⟩) hw hA (fun ad_1 C_2 H locs hp hw => ?_)
  exact pw_vret hx hb hr hlocks hw hp d_JB_init_6
set_option maxHeartbeats 4000000 in
set_option maxRecDepth 100000 in
theorem k_JS_init3 {l : Launch} {D : va_G} {ca : Nat → ClassId} {kS : Nat → Nat} {kT : Nat} {ad : pw_A} {C : pw_C} {n : Nat} {f : Nat → Int32} (b25 : C 25 0 = some (.inr (6, [.ref (ad 26 0), .int 0, .int 0, .int (nI n)]))) (b26 : C 26 0 = some (.inl (ca 2, 16, .inl f))) {mk : Nat} (hn8 : n ≤ 8) (hfit : ∀ i, i < n → fits .byte (.int (f i)) = true) (p8 : C 23 mk = some (.inr (5, [.null, .int 0, .int 0, .int 0]))) (n24 : C 24 mk = none) : gc_Con l y_JS_init3 c_JS_init3 ({ frames := 3, cells := 1, slots := 8, locals := 106 }) D ca (z9_Z kS kT) [.ref (ad 23 mk), .ref (ad 25 0), .null] ad C (pw_pv (fun ad' C' => ∃ q, ad' = pw_up ad 24 mk q ∧ C' 23 mk = some (.inr (5, [.ref q, .int 0, .int 0, .int 0])) ∧ C' 24 mk = some (.inl (ca 2, n, .inl (va_cpy f (fun _ => 0) 0 0 n))) ∧ ∀ x y, ¬ (x = 23 ∧ y = mk) → ¬ (x = 24 ∧ y = mk) → C' x y = C x y)) 1 8 := by
  have hZ := z9_ok kS kT
  refine pw_ofW (cc := b_JS_init3) (maxL := 5) (ret := none) (by decide) rfl (Nat.le_of_ble_eq_true rfl) ?_
  intro p e s m args below meth c A ls hB hA hw hK hz hl
  obtain ⟨hx, hb, hr, hml, hts0, hlocks, hown, hnm⟩ := hB
  have hts := wd_hts hts0
  have hown : s.vm.findClass "java/lang/String" = some m.cls := hown
  have hl : lv_has ls 5 [(0, .ref (ad 23 mk)), (1, .ref (ad 25 0)), (2, .null)] := hl
  have hz0 := hz
  obtain ⟨hz1, hz2, hz3, -⟩ := hz0
  have hfr : ∀ x y, ¬ (x = 23 ∧ y = mk) → ¬ (x = 24 ∧ y = mk) → C x y = C x y := fun _ _ _ _ => rfl
  refine lv_aload_n hx hb d_JS_init3_0 rfl (lv_at hl 0 rfl) ?_
  refine W.objInit hx hb hown (hts _ wd_240) (hts _ wd_74) (hts _ wd_75) rfl (by rw [hml]; exact hl.1) rfl d_JS_init3_1 (Nat.le_of_ble_eq_true rfl) (Nat.le_of_ble_eq_true rfl) ?_
  refine W.eq (g2 := F0 m 4 ls []) rfl ?_
  refine lv_aload_n hx hb d_JS_init3_4 rfl (lv_at hl 1 rfl) ?_
  refine pw_callr (va_runU (C := "java/lang/StringBuilder") (As := []) (rest := []) ⟨hx, hb, hml, hown, hts0⟩ (k_JA_getValue b25 b26 _) (va_cwU (owner := "java/lang/AbstractStringBuilder") 0 hts0 (wd_U wd_519 wd_515 wd_517 wd_518 wd_516 wd_65) rfl rfl rfl rfl (by decide +kernel) ⟨(by (try dsimp only); omega), (by (try dsimp only); omega)⟩) (pw_preV hZ hw hA hK hz rfl b25 rfl) rfl rfl hl.1 rfl (lv_room (Nat.le_of_ble_eq_true rfl)) d_JS_init3_5 ⟨(by (try dsimp only); omega), (by (try dsimp only); omega)⟩) hw hA (fun r_3 ad_1 C_2 H locs hp hw => ?_)
  obtain ⟨⟨hae, hce⟩, hre⟩ := hp
  rw [hae, hce] at hw
  rw [hre]
  clear hae hce hre
  refine lv_astore_n (lv' := [(3, .ref (ad 26 0)), (0, .ref (ad 23 mk)), (1, .ref (ad 25 0)), (2, .null)]) hx hb d_JS_init3_8 rfl hl (by decide) rfl (fun ls hl => ?_)
  refine lv_aload_n hx hb d_JS_init3_9 rfl (lv_at hl 2 rfl) ?_
  refine pw_calli (va_runU (C := "java/lang/StringBuilder") (As := []) (rest := []) ⟨hx, hb, hml, hown, hts0⟩ (k_JB_length b25 b26 _) (va_cwO (owner := "java/lang/AbstractStringBuilder") 0 hts0 (wd_O wd_525 wd_520 wd_522 wd_521 wd_523 wd_524 wd_66) rfl rfl rfl (List.mem_cons_of_mem _ wd_527) (by decide +kernel) ⟨(by (try dsimp only); omega), (by (try dsimp only); omega)⟩) (pw_preV hZ hw hA hK hz rfl b25 rfl) rfl rfl hl.1 rfl (lv_room (Nat.le_of_ble_eq_true rfl)) d_JS_init3_10 ⟨(by (try dsimp only); omega), (by (try dsimp only); omega)⟩) hw hA (fun r_6 ad_4 C_5 H locs hp hw => ?_)
  obtain ⟨⟨hae, hce⟩, hre⟩ := hp
  rw [hae, hce] at hw
  rw [hre]
  clear hae hce hre
  refine lv_istore (lv' := [(4, .int (nI n)), (3, .ref (ad 26 0)), (0, .ref (ad 23 mk)), (1, .ref (ad 25 0)), (2, .null)]) hx hb d_JS_init3_13 hl (by decide) rfl (fun ls hl => ?_)
  refine lv_aload_n hx hb d_JS_init3_15 rfl (lv_at hl 3 rfl) ?_
  refine pw_calli (va_runU (C := "java/lang/StringBuilder") (As := []) (rest := []) ⟨hx, hb, hml, hown, hts0⟩ (k_JA_isLatin1 b25 b26 _) (va_cwU (owner := "java/lang/AbstractStringBuilder") 0 hts0 (wd_U wd_475 wd_528 wd_473 wd_474 wd_472 wd_65) rfl rfl rfl rfl (by decide +kernel) ⟨(by (try dsimp only); omega), (by (try dsimp only); omega)⟩) (pw_preV hZ hw hA hK hz rfl b25 rfl) rfl rfl hl.1 rfl (lv_room (Nat.le_of_ble_eq_true rfl)) d_JS_init3_16 ⟨(by (try dsimp only); omega), (by (try dsimp only); omega)⟩) hw hA (fun r_9 ad_7 C_8 H locs hp hw => ?_)
  obtain ⟨⟨hae, hce⟩, hre⟩ := hp
  rw [hae, hce] at hw
  rw [hre]
  clear hae hce hre
  refine lv_if_eq (tgt := 41) hx hb d_JS_init3_19 (by decide) (fun c_10 => ?_) (fun c_10 => ?_)
  · exact absurd c_10 (by decide)
  · skip
    refine lv_aload_n hx hb d_JS_init3_22 rfl (lv_at hl 2 rfl) ?_
    refine lv_iconst (v := 0) hx hb d_JS_init3_23 (by decide) ?_
    refine pw_putF (Cn := "java/lang/String") (T := F_JS) (N := 4) (v := .int 0) (ty := .byte) hx hb hts in_JS ft_JS to_JS nm_JS hown hK hw 23 mk (by decide) rfl p8 rfl 1 (by decide) (hts _ wd_242) (fun _ h9 => h9) rfl hnm rfl (by decide +kernel) rfl rfl (Nat.le_of_ble_eq_true rfl) d_JS_init3_24 (fun H locs hw => ?_)
    have hw : pw_H D cls9 A s.heap ad C ad (pw_up C 23 mk (some (.inr (5, [.null, .int 0, .int 0, .int 0])))) H _ := hw
    generalize hC_11 : pw_up C 23 mk (some (.inr (5, [.null, .int 0, .int 0, .int 0]))) = C_11 at hw
    have b25 : C_11 25 0 = some (.inr (6, [.ref (ad 26 0), .int 0, .int 0, .int (nI n)])) := by rw [← hC_11]; exact (pw_up_ne _ _ (by omega)).trans b25
    have b26 : C_11 26 0 = some (.inl (ca 2, 16, .inl f)) := by rw [← hC_11]; exact (pw_up_ne _ _ (by omega)).trans b26
    have p8 : C_11 23 mk = some (.inr (5, [.null, .int 0, .int 0, .int 0])) := by rw [← hC_11]; exact pw_up_self _ _ _ _
    have hfr : ∀ x y, ¬ (x = 23 ∧ y = mk) → ¬ (x = 24 ∧ y = mk) → C_11 x y = C x y := fun x y h0 h1 => by rw [← hC_11]; exact (pw_up_ne _ _ (by omega)).trans (hfr x y h0 h1)
    have n24 : C_11 24 mk = none := by rw [← hC_11]; exact (pw_up_ne _ _ (by omega)).trans n24
    refine lv_aload_n hx hb d_JS_init3_27 rfl (lv_at hl 2 rfl) ?_
    refine lv_aload_n hx hb d_JS_init3_28 rfl (lv_at hl 1 rfl) ?_
    refine lv_iconst (v := 0) hx hb d_JS_init3_29 (by decide) ?_
    refine lv_iload hx hb d_JS_init3_30 (lv_at hl 0 rfl) ?_
    refine pw_callr (va_runS (As := [.ref (ad 26 0), .int (nI 0), .int (nI n)]) (rest := [.ref (ad 23 mk)]) ⟨hx, hb, hml, hown, hts0⟩ (k_JR_copyOfRangeW (x := 24) (y := mk) (x2 := 26) (y2 := 0) (a := 0) (b := n) (by decide) n24 (by decide) b26 (Nat.zero_le _) (by omega) (by omega) (by decide) (fun i hi => by rw [Nat.zero_add]; exact hfit i (by omega)) (by omega) _) (va_cwS 3 hts0 (wd_S wd_225 wd_529 wd_224 wd_55) rfl rfl rfl (by decide +kernel) ⟨Nat.le_of_ble_eq_true rfl, Nat.le_of_ble_eq_true rfl⟩) (pw_preS hZ hw hA hK hz) rfl rfl hl.1 rfl (lv_room (Nat.le_of_ble_eq_true rfl)) d_JS_init3_32 ⟨Nat.le_of_ble_eq_true rfl, Nat.le_of_ble_eq_true rfl⟩) hw hA (fun r_14 ad_12 C_13 H locs hp hw => ?_)
    obtain ⟨hae, hce⟩ := hp
    rw [hae, hce] at hw; clear hae hce
    rw [Nat.sub_zero] at hw
    refine W.widen (k := 1) (n := 8) (by omega) (by omega) ?_
    obtain ⟨ad_15, had_15⟩ : ∃ z, z = pw_up ad 24 mk r_14 := ⟨_, rfl⟩
    rw [← had_15] at hw
    have hsad_15 : ad_15 24 mk = r_14 := by rw [had_15]; exact pw_up_self _ _ _ _
    have hadk : ∀ x9 y9, ¬ (x9 = 24 ∧ y9 = mk) → ad_15 x9 y9 = ad x9 y9 := fun x9 y9 h9 => by rw [had_15]; exact pw_up_ne _ _ h9
    have hw : pw_H D cls9 A s.heap ad C ad_15 (pw_up C_11 24 mk (some (.inl (ca 2, n, .inl (va_cpy f (fun _ => 0) 0 0 n))))) H _ := hw
    generalize hC_16 : pw_up C_11 24 mk (some (.inl (ca 2, n, .inl (va_cpy f (fun _ => 0) 0 0 n)))) = C_16 at hw
    have b25 : C_16 25 0 = some (.inr (6, [.ref (ad 26 0), .int 0, .int 0, .int (nI n)])) := by rw [← hC_16]; exact (pw_up_ne _ _ (by omega)).trans b25
    have b26 : C_16 26 0 = some (.inl (ca 2, 16, .inl f)) := by rw [← hC_16]; exact (pw_up_ne _ _ (by omega)).trans b26
    have p8 : C_16 23 mk = some (.inr (5, [.null, .int 0, .int 0, .int 0])) := by rw [← hC_16]; exact (pw_up_ne _ _ (by omega)).trans p8
    have p9 : C_16 24 mk = some (.inl (ca 2, n, .inl (va_cpy f (fun _ => 0) 0 0 n))) := by rw [← hC_16]; exact pw_up_self _ _ _ _
    have hfr : ∀ x y, ¬ (x = 23 ∧ y = mk) → ¬ (x = 24 ∧ y = mk) → C_16 x y = C x y := fun x y h0 h1 => by rw [← hC_16]; exact (pw_up_ne _ _ (by omega)).trans (hfr x y h0 h1)
    refine pw_putF (Cn := "java/lang/String") (T := F_JS) (N := 4) (v := .ref r_14) (ty := .array .byte) hx hb hts in_JS ft_JS to_JS nm_JS hown hK hw 23 mk (by decide) (hadk 23 mk (by omega)) p8 rfl 0 (by decide) (hts _ wd_241) (fun _ h9 => h9) rfl hnm rfl (by decide +kernel) rfl rfl (Nat.le_of_ble_eq_true rfl) d_JS_init3_35 (fun H locs hw => ?_)
    have hw : pw_H D cls9 A s.heap ad C ad_15 (pw_up C_16 23 mk (some (.inr (5, [.ref r_14, .int 0, .int 0, .int 0])))) H _ := hw
    generalize hC_17 : pw_up C_16 23 mk (some (.inr (5, [.ref r_14, .int 0, .int 0, .int 0]))) = C_17 at hw
    have b25 : C_17 25 0 = some (.inr (6, [.ref (ad 26 0), .int 0, .int 0, .int (nI n)])) := by rw [← hC_17]; exact (pw_up_ne _ _ (by omega)).trans b25
    have b26 : C_17 26 0 = some (.inl (ca 2, 16, .inl f)) := by rw [← hC_17]; exact (pw_up_ne _ _ (by omega)).trans b26
    have p9 : C_17 24 mk = some (.inl (ca 2, n, .inl (va_cpy f (fun _ => 0) 0 0 n))) := by rw [← hC_17]; exact (pw_up_ne _ _ (by omega)).trans p9
    have p8 : C_17 23 mk = some (.inr (5, [.ref r_14, .int 0, .int 0, .int 0])) := by rw [← hC_17]; exact pw_up_self _ _ _ _
    have hfr : ∀ x y, ¬ (x = 23 ∧ y = mk) → ¬ (x = 24 ∧ y = mk) → C_17 x y = C x y := fun x y h0 h1 => by rw [← hC_17]; exact (pw_up_ne _ _ (by omega)).trans (hfr x y h0 h1)
    refine lv_goto (tgt := 97) hx hb d_JS_init3_38 (by decide) ?_
    exact pw_vret hx hb hr hlocks hw ⟨r_14, had_15, p8, p9, hfr⟩ d_JS_init3_97
set_option maxHeartbeats 4000000 in
set_option maxRecDepth 100000 in
theorem k_JS_init2 {l : Launch} {D : va_G} {ca : Nat → ClassId} {kS : Nat → Nat} {kT : Nat} {ad : pw_A} {C : pw_C} {n : Nat} {f : Nat → Int32} (b25 : C 25 0 = some (.inr (6, [.ref (ad 26 0), .int 0, .int 0, .int (nI n)]))) (b26 : C 26 0 = some (.inl (ca 2, 16, .inl f))) {mk : Nat} (hn8 : n ≤ 8) (hfit : ∀ i, i < n → fits .byte (.int (f i)) = true) (p8 : C 23 mk = some (.inr (5, [.null, .int 0, .int 0, .int 0]))) (n24 : C 24 mk = none) : gc_Con l y_JS_init2 c_JS_init2 ({ frames := 4, cells := 1, slots := 8, locals := 130 }) D ca (z9_Z kS kT) [.ref (ad 23 mk), .ref (ad 25 0)] ad C (pw_pv (fun ad' C' => ∃ q, ad' = pw_up ad 24 mk q ∧ C' 23 mk = some (.inr (5, [.ref q, .int 0, .int 0, .int 0])) ∧ C' 24 mk = some (.inl (ca 2, n, .inl (va_cpy f (fun _ => 0) 0 0 n))) ∧ ∀ x y, ¬ (x = 23 ∧ y = mk) → ¬ (x = 24 ∧ y = mk) → C' x y = C x y)) 1 8 := by
  have hZ := z9_ok kS kT
  refine pw_ofW (cc := b_JS_init2) (maxL := 2) (ret := none) (by decide) rfl (Nat.le_of_ble_eq_true rfl) ?_
  intro p e s m args below meth c A ls hB hA hw hK hz hl
  obtain ⟨hx, hb, hr, hml, hts0, hlocks, hown, hnm⟩ := hB
  have hts := wd_hts hts0
  have hown : s.vm.findClass "java/lang/String" = some m.cls := hown
  have hl : lv_has ls 2 [(0, .ref (ad 23 mk)), (1, .ref (ad 25 0))] := hl
  have hz0 := hz
  obtain ⟨hz1, hz2, hz3, -⟩ := hz0
  refine lv_aload_n hx hb d_JS_init2_0 rfl (lv_at hl 0 rfl) ?_
  refine lv_aload_n hx hb d_JS_init2_1 rfl (lv_at hl 1 rfl) ?_
  refine lv_null hx hb d_JS_init2_2 ?_
  refine pw_callv (va_runI (As := [.ref (ad 25 0), .null]) (rest := []) ⟨hx, hb, hml, hown, hts0⟩ (k_JS_init3 b25 b26 hn8 hfit p8 n24 _) (cwI 2 hts0 (wd_sub wd_514) rfl rfl rfl (hts _ wd_60) (hts _ wd_512) (hts _ wd_513) rfl (by decide +kernel) ⟨(by (try dsimp only); omega), (by (try dsimp only); omega)⟩) (pw_preS hZ hw hA hK hz) rfl rfl hl.1 rfl (lv_room (Nat.le_of_ble_eq_true rfl)) d_JS_init2_3 ⟨(by (try dsimp only); omega), (by (try dsimp only); omega)⟩) hw hA (fun ad_1 C_2 H locs hp hw => ?_)
  exact pw_vret hx hb hr hlocks hw hp d_JS_init2_6
theorem sg_cpy (f : Nat → Int32) (n i : Nat) (hi : i < n) : va_cpy f (fun _ => 0) 0 0 n i = f i := by
  simp [va_cpy, hi]
set_option maxHeartbeats 4000000 in
set_option maxRecDepth 100000 in
theorem k_JB_toString {l : Launch} {D : va_G} {ca : Nat → ClassId} {kS : Nat → Nat} {kT : Nat} {ad : pw_A} {C : pw_C} {t : List Int32} {f : Nat → Int32} (b25 : C 25 0 = some (.inr (6, [.ref (ad 26 0), .int 0, .int 0, .int (nI t.length)]))) (b26 : C 26 0 = some (.inl (ca 2, 16, .inl f))) {mk : Nat} (hn8 : t.length ≤ 8) (hf : ∀ i, i < t.length → f i = t.getD i 0) (hc : ∀ i, i < t.length → ∃ k : Nat, k < 128 ∧ t.getD i 0 = nI k) (n23 : C 23 mk = none) (n24 : C 24 mk = none) : gc_Con l y_JB_toString c_JB_toString ({ frames := 5, cells := 2, slots := 16, locals := 151 }) D ca (z9_Z kS kT) [.ref (ad 25 0)] ad C (pw_pr (fun r ad' C' => (∃ q, ad' = pw_up (pw_up ad 23 mk r) 24 mk q) ∧ st_at ca ad' C' 23 mk 24 mk t ∧ ∀ x y, ¬ (x = 23 ∧ y = mk) → ¬ (x = 24 ∧ y = mk) → C' x y = C x y)) 2 16 := by
  have hZ := z9_ok kS kT
  refine pw_ofW (cc := b_JB_toString) (maxL := 1) (ret := (some (FieldType.object "java/lang/String"))) (by decide) rfl (Nat.le_of_ble_eq_true rfl) ?_
  intro p e s m args below meth c A ls hB hA hw hK hz hl
  obtain ⟨hx, hb, hr, hml, hts0, hlocks, hown, hnm⟩ := hB
  have hts := wd_hts hts0
  have hown : s.vm.findClass "java/lang/StringBuilder" = some m.cls := hown
  have hl : lv_has ls 1 [(0, .ref (ad 25 0))] := hl
  have hz0 := hz
  obtain ⟨hz1, hz2, hz3, -⟩ := hz0
  have hfr : ∀ x y, ¬ (x = 23 ∧ y = mk) → ¬ (x = 24 ∧ y = mk) → C x y = C x y := fun _ _ _ _ => rfl
  refine pw_new (ci := 5) (fs := [.null, .int 0, .int 0, .int 0]) (Cn := "java/lang/String") (T := F_JS) (N := 4) hx hb hts in_JS ft_JS to_JS hown (hts _ wd_508) (hts _ wd_222) (hts _ wd_60) hK hw hA 23 mk (by decide) n23 rfl (fun j hj => by match j, hj with | 0, _ => rfl | 1, _ => rfl | 2, _ => rfl | 3, _ => rfl | j + 4, h => exact absurd h (by omega)) (by (try dsimp only); omega) (by (try dsimp only); omega) d_JB_toString_0 (fun q_1 H hw => ?_)
  refine W.widen (k := 1) (n := 8) (by omega) (by omega) ?_
  obtain ⟨ad_2, had_2⟩ : ∃ z, z = pw_up ad 23 mk q_1 := ⟨_, rfl⟩
  rw [← had_2] at hw
  have hsad_2 : ad_2 23 mk = q_1 := by rw [had_2]; exact pw_up_self _ _ _ _
  have hadk : ∀ x9 y9, ¬ (x9 = 23 ∧ y9 = mk) → ad_2 x9 y9 = ad x9 y9 := fun x9 y9 h9 => by rw [had_2]; exact pw_up_ne _ _ h9
  have hw : pw_H D cls9 A s.heap ad C ad_2 (pw_up C 23 mk (some (.inr (5, [.null, .int 0, .int 0, .int 0])))) H _ := hw
  generalize hC_3 : pw_up C 23 mk (some (.inr (5, [.null, .int 0, .int 0, .int 0]))) = C_3 at hw
  have b25 : C_3 25 0 = some (.inr (6, [.ref (ad 26 0), .int 0, .int 0, .int (nI t.length)])) := by rw [← hC_3]; exact (pw_up_ne _ _ (by omega)).trans b25
  have b26 : C_3 26 0 = some (.inl (ca 2, 16, .inl f)) := by rw [← hC_3]; exact (pw_up_ne _ _ (by omega)).trans b26
  have p8 : C_3 23 mk = some (.inr (5, [.null, .int 0, .int 0, .int 0])) := by rw [← hC_3]; exact pw_up_self _ _ _ _
  have hfr : ∀ x y, ¬ (x = 23 ∧ y = mk) → ¬ (x = 24 ∧ y = mk) → C_3 x y = C x y := fun x y h0 h1 => by rw [← hC_3]; exact (pw_up_ne _ _ (by omega)).trans (hfr x y h0 h1)
  have n24 : C_3 24 mk = none := by rw [← hC_3]; exact (pw_up_ne _ _ (by omega)).trans n24
  refine lv_dup hx hb d_JB_toString_3 rfl ?_
  refine lv_aload_n hx hb d_JB_toString_4 rfl (lv_at hl 0 rfl) ?_
  rw [← hadk 26 0 (by omega)] at b25
  rw [← hsad_2, ← hadk 25 0 (by omega)]
  refine pw_callv (va_runI (As := [.ref (ad_2 25 0)]) (rest := [.ref (ad_2 23 mk)]) ⟨hx, hb, hml, hown, hts0⟩ (k_JS_init2 (ad := ad_2) b25 b26 hn8 (fun i hi => by obtain ⟨k, hk, hke⟩ := hc i hi; rw [hf i hi, hke]; exact st_fit k hk) p8 n24 _) (cwI 1 hts0 (wd_sub wd_511) rfl rfl rfl (hts _ wd_60) (hts _ wd_509) (hts _ wd_510) rfl (by decide +kernel) ⟨(by (try dsimp only); omega), (by (try dsimp only); omega)⟩) (pw_preS hZ hw hA hK hz) rfl rfl hl.1 rfl (lv_room (Nat.le_of_ble_eq_true rfl)) d_JB_toString_5 ⟨(by (try dsimp only); omega), (by (try dsimp only); omega)⟩) hw hA (fun ad_4 C_5 H locs hp hw => ?_)
  refine W.widen (k := 2) (n := 16) (by omega) (by omega) ?_
  obtain ⟨q9, hae, p8, p9, hf9⟩ := hp
  rw [hsad_2]
  refine pw_aret hx hb hr (Or.inl ⟨_, rfl⟩) hlocks hw ⟨⟨q9, by rw [hae, had_2]⟩, ⟨_, .int 0, .int 0, ?_, p9, fun i hi => ?_, by omega, hc⟩, fun x y h1 h2 => (hf9 x y h1 h2).trans (hfr x y h1 h2)⟩ d_JB_toString_8
  · rw [show ad_4 24 mk = q9 by rw [hae]; exact pw_up_self _ _ _ _]; exact p8
  · rw [sg_cpy _ _ _ hi]; exact hf i hi
def sg_c (v : Int64) (s : Int32) : Int32 := (((v.toUInt64 >>> (s.toInt64.toUInt64 &&& Int64.toUInt64 63)).toInt64 &&& 127).toInt32.toUInt32 % 65536).toInt32
def sg_r (v : Int64) : Nat → List Int32 → List Int32
  | 0, t => t
  | r + 1, t => if sg_c v (nI (8 * (r + 1)) - 8) = 0 then sg_r v r t else sg_r v r (t ++ [sg_c v (nI (8 * (r + 1)) - 8)])
def sg_t (v : Int64) : List Int32 := sg_r v 8 []
theorem sg_and (y : Int64) : ∃ k : Nat, k < 128 ∧ y &&& 127 = Int64.ofNat k := by
  refine ⟨(y.toUInt64 &&& 127).toNat, ?_, ?_⟩
  · rw [UInt64.toNat_and]; exact Nat.lt_of_le_of_lt Nat.and_le_right (by decide)
  · show (⟨y.toUInt64 &&& 127⟩ : Int64) = ⟨UInt64.ofNat (y.toUInt64 &&& 127).toNat⟩
    rw [UInt64.ofNat_toNat]
theorem sg_k : ∀ k, k < 128 → ((Int64.ofNat k).toInt32.toUInt32 % 65536).toInt32 = nI k := by decide +kernel
theorem sg_lt (v : Int64) (s : Int32) : ∃ k : Nat, k < 128 ∧ sg_c v s = nI k := by
  obtain ⟨k, hk, h⟩ := sg_and (v.toUInt64 >>> (s.toInt64.toUInt64 &&& Int64.toUInt64 63)).toInt64
  refine ⟨k, hk, ?_⟩
  unfold sg_c
  rw [h, sg_k k hk]
theorem sg_pos : ∀ r, r < 8 → ¬ nI (8 * (r + 1)) - 8 < 0 := by decide +kernel
theorem sg_nx : ∀ r, r < 8 → (nI (8 * (r + 1)) - 8) + (-8) = nI (8 * r) - 8 := by decide +kernel
theorem sg_hf {t : List Int32} {f : Nat → Int32} {x : Int32} (hf : ∀ i, i < t.length → f i = t.getD i 0) : ∀ i, i < (t ++ [x]).length → upd f t.length x i = (t ++ [x]).getD i 0 := by
  intro i hi
  rw [List.length_append, List.length_singleton] at hi
  by_cases h : i < t.length
  · rw [es_getl h, pk_un (by omega)]; exact hf i h
  · obtain rfl : i = t.length := by omega
    rw [es_getr (Nat.le_refl _), Nat.sub_self, pk_us]; rfl
theorem sg_hc {t : List Int32} {k : Nat} (hk : k < 128) (hc : ∀ i, i < t.length → ∃ k : Nat, k < 128 ∧ t.getD i 0 = nI k) : ∀ i, i < (t ++ [nI k]).length → ∃ j : Nat, j < 128 ∧ (t ++ [nI k]).getD i 0 = nI j := by
  intro i hi
  rw [List.length_append, List.length_singleton] at hi
  by_cases h : i < t.length
  · rw [es_getl h]; exact hc i h
  · obtain rfl : i = t.length := by omega
    rw [es_getr (Nat.le_refl _), Nat.sub_self]; exact ⟨k, hk, rfl⟩
set_option maxHeartbeats 4000000 in
set_option maxRecDepth 100000 in
theorem k_G_signsOf {l : Launch} {D : va_G} {ca : Nat → ClassId} {kS : Nat → Nat} {kT : Nat} {ad : pw_A} {C : pw_C} {mk : Nat} (n23 : C 23 mk = none) (n24 : C 24 mk = none) (n25 : C 25 0 = none) (n26 : C 26 0 = none) (sv : Int64) : gc_Con l y_G_signsOf c_G_signsOf ({ frames := 6, cells := 4, slots := 40, locals := 171 }) D ca (z9_Z kS kT) [.long sv] ad C (pw_pr (fun r ad' C' => (∃ q, ad' = pw_up (pw_up ad 23 mk r) 24 mk q) ∧ st_at ca ad' C' 23 mk 24 mk (sg_t sv) ∧ ∀ x y, ¬ (x = 23 ∧ y = mk) → ¬ (x = 24 ∧ y = mk) → C' x y = C x y)) 4 40 := by
  have hZ := z9_ok kS kT
  refine pw_ofW (cc := b_G_signsOf) (maxL := 5) (ret := (some (FieldType.object "java/lang/String"))) (by decide) rfl (Nat.le_of_ble_eq_true rfl) ?_
  intro p e s m args below meth c A ls hB hA hw hK hz hl
  obtain ⟨hx, hb, hr, hml, hts0, hlocks, hown, hnm⟩ := hB
  have hts := wd_hts hts0
  have hown : s.vm.findClass "GraphWriter" = some m.cls := hown
  have hl : lv_has ls 5 [(0, .long sv)] := hl
  have hz0 := hz
  obtain ⟨hz1, hz2, hz3, -⟩ := hz0
  have hfr : ∀ x y, ¬ (x = 25 ∧ y = 0) → ¬ (x = 26 ∧ y = 0) → C x y = C x y := fun _ _ _ _ => rfl
  have o23 := n23
  have o24 := n24
  have o25 := n25
  have o26 := n26
  refine pw_new (ci := 6) (fs := [.null, .int 0, .int 0, .int 0]) (Cn := "java/lang/StringBuilder") (T := F_JB) (N := 4) hx hb hts in_JB ft_JB to_JB hown (hts _ wd_415) (hts _ wd_416) (hts _ wd_66) hK hw hA 25 0 (by decide) n25 rfl (fun j hj => by match j, hj with | 0, _ => rfl | 1, _ => rfl | 2, _ => rfl | 3, _ => rfl | j + 4, h => exact absurd h (by omega)) (by (try dsimp only); omega) (by (try dsimp only); omega) d_G_signsOf_0 (fun q_1 H hw => ?_)
  refine W.widen (k := 1) (n := 8) (by omega) (by omega) ?_
  obtain ⟨ad_2, had_2⟩ : ∃ z, z = pw_up ad 25 0 q_1 := ⟨_, rfl⟩
  rw [← had_2] at hw
  have hsad_2 : ad_2 25 0 = q_1 := by rw [had_2]; exact pw_up_self _ _ _ _
  have hadk : ∀ x9 y9, ¬ (x9 = 25 ∧ y9 = 0) → ad_2 x9 y9 = ad x9 y9 := fun x9 y9 h9 => by rw [had_2]; exact pw_up_ne _ _ h9
  have hw : pw_H D cls9 A s.heap ad C ad_2 (pw_up C 25 0 (some (.inr (6, [.null, .int 0, .int 0, .int 0])))) H _ := hw
  generalize hC_3 : pw_up C 25 0 (some (.inr (6, [.null, .int 0, .int 0, .int 0]))) = C_3 at hw
  have b25 : C_3 25 0 = some (.inr (6, [.null, .int 0, .int 0, .int 0])) := by rw [← hC_3]; exact pw_up_self _ _ _ _
  have hfr : ∀ x y, ¬ (x = 25 ∧ y = 0) → ¬ (x = 26 ∧ y = 0) → C_3 x y = C x y := fun x y h0 h1 => by rw [← hC_3]; exact (pw_up_ne _ _ (by omega)).trans (hfr x y h0 h1)
  have n23 : C_3 23 mk = none := by rw [← hC_3]; exact (pw_up_ne _ _ (by omega)).trans n23
  have n24 : C_3 24 mk = none := by rw [← hC_3]; exact (pw_up_ne _ _ (by omega)).trans n24
  have n26 : C_3 26 0 = none := by rw [← hC_3]; exact (pw_up_ne _ _ (by decide)).trans n26
  refine lv_dup hx hb d_G_signsOf_3 rfl ?_
  rw [← hsad_2]
  refine pw_callv (va_runI (As := []) (rest := [.ref (ad_2 25 0)]) ⟨hx, hb, hml, hown, hts0⟩ (k_JB_init (ad := ad_2) b25 n26 _) (cwI 0 hts0 (wd_sub wd_419) rfl rfl rfl (hts _ wd_66) (hts _ wd_417) (hts _ wd_418) rfl (by decide +kernel) ⟨(by (try dsimp only); omega), (by (try dsimp only); omega)⟩) (pw_preS hZ hw hA hK hz) rfl rfl hl.1 rfl (lv_room (Nat.le_of_ble_eq_true rfl)) d_G_signsOf_4 ⟨(by (try dsimp only); omega), (by (try dsimp only); omega)⟩) hw hA (fun ad_4 C_5 H locs hp hw => ?_)
  refine W.widen (k := 2) (n := 24) (by omega) (by omega) ?_
  obtain ⟨q26, hae, b25, b26, hf9⟩ := hp
  rw [hae] at hw; clear hae
  rw [hsad_2]
  have hfr : ∀ x y, ¬ (x = 25 ∧ y = 0) → ¬ (x = 26 ∧ y = 0) → C_5 x y = C x y := fun x y h1 h2 => (hf9 x y h1 h2).trans (hfr x y h1 h2)
  have n23 : C_5 23 mk = none := (hf9 23 mk (by omega) (by omega)).trans n23
  have n24 : C_5 24 mk = none := (hf9 24 mk (by omega) (by omega)).trans n24
  obtain ⟨ad_6, had_6⟩ : ∃ z, z = pw_up ad_2 26 0 q26 := ⟨_, rfl⟩
  rw [← had_6] at hw
  have hsad_6 : ad_6 26 0 = q26 := by rw [had_6]; exact pw_up_self _ _ _ _
  have hadk : ∀ x9 y9, ¬ (x9 = 25 ∧ y9 = 0) → ¬ (x9 = 26 ∧ y9 = 0) → ad_6 x9 y9 = ad x9 y9 := fun x9 y9 e0 h9 => by rw [had_6]; exact (pw_up_ne _ _ h9).trans (hadk x9 y9 e0)
  have hq_q_1 : ad_6 25 0 = q_1 := by rw [had_6]; exact (pw_up_ne _ _ (by omega)).trans hsad_2
  rw [← hq_q_1]
  rw [← hsad_6] at b25
  refine lv_astore_n (lv' := [(2, .ref (ad_6 25 0)), (0, .long sv)]) hx hb d_G_signsOf_7 rfl hl (by decide) rfl (fun ls hl => ?_)
  refine lv_bipush (v := 56) hx hb d_G_signsOf_8 (by decide) ?_
  refine lv_istore_n (lv' := [(3, .int 56), (2, .ref (ad_6 25 0)), (0, .long sv)]) hx hb d_G_signsOf_10 rfl hl (by decide) rfl (fun ls hl => ?_)
  have loop : ∀ (r : Nat) (t : List Int32) (f : Nat → Int32) (C1 : pw_C) (H : Heap) (locs : List Loc) (ls : Array Slot), r ≤ 8 → t.length + r ≤ 8 → sg_r sv r t = sg_t sv → (∀ i, i < t.length → f i = t.getD i 0) → (∀ i, i < t.length → ∃ k : Nat, k < 128 ∧ t.getD i 0 = nI k) → C1 25 0 = some (.inr (6, [.ref (ad_6 26 0), .int 0, .int 0, .int (nI t.length)])) → C1 26 0 = some (.inl (ca 2, 16, .inl f)) → (∀ x y, ¬ (x = 25 ∧ y = 0) → ¬ (x = 26 ∧ y = 0) → C1 x y = C x y) → pw_H D cls9 A s.heap ad C ad_6 C1 H locs → lv_has ls 5 [(3, .int (nI (8 * r) - 8)), (2, .ref (ad_6 25 0)), (0, .long sv)] → W p l e ({ frames := 6, cells := 4, slots := 40, locals := 171 }) s m args below meth c H locs 2 24 (MQ below (pw_Q D cls9 ad C (pw_pr (fun r ad' C' => (∃ q, ad' = pw_up (pw_up ad 23 mk r) 24 mk q) ∧ st_at ca ad' C' 23 mk 24 mk (sg_t sv) ∧ ∀ x y, ¬ (x = 23 ∧ y = mk) → ¬ (x = 24 ∧ y = mk) → C' x y = C x y)) A) args s 4 40 A) (F0 m 11 ls []) := by
    intro r
    induction r with
    | zero =>
      intro t f C1 H locs ls hr8 htr hsg hf hc b25 b26 hfr hw hl
      have n23 : C1 23 mk = none := (hfr 23 mk (by omega) (by omega)).trans o23
      have n24 : C1 24 mk = none := (hfr 24 mk (by omega) (by omega)).trans o24
      refine lv_iload_n hx hb d_G_signsOf_11 rfl (lv_at hl 0 rfl) ?_
      refine lv_if_lt (tgt := 44) hx hb d_G_signsOf_12 (by decide) (fun c_7 => ?_) (fun c_7 => ?_)
      · skip
        refine lv_aload_n hx hb d_G_signsOf_44 rfl (lv_at hl 1 rfl) ?_
        refine pw_callr (va_runV (As := []) (rest := []) ⟨hx, hb, hml, hown, hts0⟩ (k_JB_toString (ad := ad_6) b25 b26 (by omega) hf hc n23 n24 _) (cwV 0 hts0 (wd_V wd_507 wd_504 wd_505 wd_506 wd_66) rfl rfl rfl (by decide +kernel) ⟨(by (try dsimp only); omega), (by (try dsimp only); omega)⟩) (pw_preV hZ hw hA hK hz rfl b25 rfl) rfl rfl hl.1 rfl (lv_room (Nat.le_of_ble_eq_true rfl)) d_G_signsOf_45 ⟨(by (try dsimp only); omega), (by (try dsimp only); omega)⟩) hw hA (fun r_10 ad_8 C_9 H locs hp hw => ?_)
        obtain ⟨⟨q9, hae⟩, hst, hf9⟩ := hp
        refine W.widen (k := 4) (n := 40) (by omega) (by omega) ?_
        have hw := (hw.drop (x := 25) (y := 0) (by decide) (ad 25 0)).drop (x := 26) (y := 0) (by decide) (ad 26 0)
        have ht9 : t = sg_t sv := hsg
        have hA9 : pw_up (pw_up ad_8 25 0 (ad 25 0)) 26 0 (ad 26 0) = pw_up (pw_up ad 23 mk r_10) 24 mk q9 := by
          funext x y
          by_cases e26 : x = 26 ∧ y = 0
          · obtain ⟨rfl, rfl⟩ := e26; rw [pw_up_self, pw_up_ne _ _ (by omega), pw_up_ne _ _ (by omega)]
          rw [pw_up_ne _ _ e26]
          by_cases e25 : x = 25 ∧ y = 0
          · obtain ⟨rfl, rfl⟩ := e25; rw [pw_up_self, pw_up_ne _ _ (by omega), pw_up_ne _ _ (by omega)]
          rw [pw_up_ne _ _ e25, hae]
          by_cases e24 : x = 24 ∧ y = mk
          · obtain ⟨rfl, rfl⟩ := e24; rw [pw_up_self, pw_up_self]
          rw [pw_up_ne _ _ e24, pw_up_ne _ _ e24]
          by_cases e23 : x = 23 ∧ y = mk
          · obtain ⟨rfl, rfl⟩ := e23; rw [pw_up_self, pw_up_self]
          rw [pw_up_ne _ _ e23, pw_up_ne _ _ e23]; exact hadk x y e25 e26
        refine pw_aret hx hb hr (Or.inl ⟨_, rfl⟩) hlocks hw ⟨⟨q9, hA9⟩, ?_, fun x y h1 h2 => ?_⟩ d_G_signsOf_48
        · rw [← ht9]; exact hst.ad ((pw_up_ne _ _ (by omega)).trans (pw_up_ne _ _ (by omega))) ((pw_up_ne _ _ (by omega)).trans (pw_up_ne _ _ (by omega))) ((pw_up_ne _ _ (by omega)).trans (pw_up_ne _ _ (by omega)))
        · by_cases e26 : x = 26 ∧ y = 0
          · obtain ⟨rfl, rfl⟩ := e26; rw [pw_up_self]; exact o26.symm
          rw [pw_up_ne _ _ e26]
          by_cases e25 : x = 25 ∧ y = 0
          · obtain ⟨rfl, rfl⟩ := e25; rw [pw_up_self]; exact o25.symm
          rw [pw_up_ne _ _ e25]; exact (hf9 x y h1 h2).trans (hfr x y e25 e26)
      · exact absurd (by decide) c_7
    | succ r ih =>
      intro t f C1 H locs ls hr8 htr hsg hf hc b25 b26 hfr hw hl
      have n23 : C1 23 mk = none := (hfr 23 mk (by omega) (by omega)).trans o23
      have n24 : C1 24 mk = none := (hfr 24 mk (by omega) (by omega)).trans o24
      refine lv_iload_n hx hb d_G_signsOf_11 rfl (lv_at hl 0 rfl) ?_
      refine lv_if_lt (tgt := 44) hx hb d_G_signsOf_12 (by decide) (fun c_11 => ?_) (fun c_11 => ?_)
      · exact absurd c_11 (sg_pos r (by omega))
      · skip
        refine lv_lload_n hx hb d_G_signsOf_15 rfl (lv_at hl 2 rfl) ?_
        refine lv_iload_n hx hb d_G_signsOf_16 rfl (lv_at hl 0 rfl) ?_
        refine lv_lushr hx hb d_G_signsOf_17 rfl ?_
        refine lv_ldc2 (v := 127) hx hb hown (hts _ wd_441) d_G_signsOf_18 ?_
        refine lv_land hx hb d_G_signsOf_21 ?_
        refine lv_l2i hx hb d_G_signsOf_22 rfl ?_
        refine lv_i2c hx hb d_G_signsOf_23 rfl ?_
        refine W.eq (g2 := F0 m 24 ls [.int (sg_c sv (nI (8 * (r + 1)) - 8))]) rfl ?_
        obtain ⟨k, hk, hke⟩ := sg_lt sv (nI (8 * (r + 1)) - 8)
        rw [hke]
        have hsg : (if nI k = 0 then sg_r sv r t else sg_r sv r (t ++ [nI k])) = sg_t sv := by rw [← hke]; exact hsg
        refine lv_istore (lv' := [(4, .int (nI k)), (3, .int (nI (8 * (r + 1)) - 8)), (2, .ref (ad_6 25 0)), (0, .long sv)]) hx hb d_G_signsOf_24 hl (by decide) rfl (fun ls hl => ?_)
        refine lv_iload hx hb d_G_signsOf_26 (lv_at hl 0 rfl) ?_
        refine lv_if_eq (tgt := 38) hx hb d_G_signsOf_28 (by decide) (fun c_12 => ?_) (fun c_12 => ?_)
        · skip
          refine lv_iinc (v := (nI (8 * (r + 1)) - 8) + (-8)) (lv' := [(3, .int ((nI (8 * (r + 1)) - 8) + (-8))), (4, .int (nI k)), (2, .ref (ad_6 25 0)), (0, .long sv)]) hx hb d_G_signsOf_38 hl (k := 1) rfl rfl (by decide) rfl (fun ls hl => ?_)
          refine lv_goto (tgt := 11) hx hb d_G_signsOf_41 (by decide) ?_
          rw [sg_nx r (by omega)] at hl
          exact ih t _ _ _ _ _ (by omega) (by omega) (by rw [if_pos c_12] at hsg; exact hsg) hf hc b25 b26 hfr hw (lv_sub hl [0, 2, 3] rfl)
        · skip
          refine lv_aload_n hx hb d_G_signsOf_31 rfl (lv_at hl 2 rfl) ?_
          refine lv_iload hx hb d_G_signsOf_32 (lv_at hl 0 rfl) ?_
          refine pw_callr (va_runV (As := [.int (nI k)]) (rest := []) ⟨hx, hb, hml, hown, hts0⟩ (k_JB_append (ad := ad_6) b25 b26 (by omega) hk _) (cwV 1 hts0 (wd_V wd_445 wd_442 wd_443 wd_444 wd_66) rfl rfl rfl (by decide +kernel) ⟨(by (try dsimp only); omega), (by (try dsimp only); omega)⟩) (pw_preV hZ hw hA hK hz rfl b25 rfl) rfl rfl hl.1 rfl (lv_room (Nat.le_of_ble_eq_true rfl)) d_G_signsOf_34 ⟨(by (try dsimp only); omega), (by (try dsimp only); omega)⟩) hw hA (fun r_15 ad_13 C_14 H locs hp hw => ?_)
          obtain ⟨⟨hae, hre⟩, b25, b26, hf9⟩ := hp
          rw [hae] at hw; clear hae
          rw [hre]
          have hfr : ∀ x y, ¬ (x = 25 ∧ y = 0) → ¬ (x = 26 ∧ y = 0) → C_14 x y = C x y := fun x y h1 h2 => (hf9 x y h1 h2).trans (hfr x y h1 h2)
          refine lv_pop hx hb d_G_signsOf_37 rfl ?_
          refine lv_iinc (v := (nI (8 * (r + 1)) - 8) + (-8)) (lv' := [(3, .int ((nI (8 * (r + 1)) - 8) + (-8))), (4, .int (nI k)), (2, .ref (ad_6 25 0)), (0, .long sv)]) hx hb d_G_signsOf_38 hl (k := 1) rfl rfl (by decide) rfl (fun ls hl => ?_)
          refine lv_goto (tgt := 11) hx hb d_G_signsOf_41 (by decide) ?_
          rw [sg_nx r (by omega)] at hl
          exact ih (t ++ [nI k]) _ _ _ _ _ (by omega) (by rw [List.length_append, List.length_singleton]; omega) (by rw [if_neg c_12] at hsg; exact hsg) (sg_hf hf) (sg_hc hk hc) (by rw [List.length_append, List.length_singleton]; exact b25) b26 hfr hw (lv_sub hl [0, 2, 3] rfl)
  exact loop 8 [] _ _ _ _ _ (by decide) (by decide) rfl (fun i hi => absurd hi (Nat.not_lt_zero _)) (fun i hi => absurd hi (Nat.not_lt_zero _)) b25 b26 hfr hw (by rw [show nI (8 * 8) - 8 = 56 by decide]; exact hl)
def ga_txt (sv : Int64) : TT := (1, -1, 0, fun _ => 0, tt_v0 (fun _ => 0) 0, sg_t sv, -1, 0)
def ga_text (mk : Nat) (td : Nat → TT) (sv : Int64) : Int32 × Nat × (Nat → TT) := if ¬ lg_cmp (sv &&& (-9187201950435737472)) 0 = 0 then (-1, mk, td) else if 12 ≤ nI mk then (-2, mk, td) else (nI mk, mk + 1, va_up td mk (ga_txt sv))
set_option maxHeartbeats 4000000 in
set_option maxRecDepth 100000 in
theorem k_G_text {l : Launch} {D : va_G} {ca : Nat → ClassId} {kS : Nat → Nat} {kT : Nat} {ad : pw_A} {C : pw_C} {cd : Nat → Option DT} {mk : Nat} {td : Nat → TT} (hG : gw_at ca kS kT ad C cd mk td) (hnn : ∀ x, 19 < x → x < 25 → C x mk = none) (n25 : C 25 0 = none) (n26 : C 26 0 = none) (sv : Int64) : gc_Con l y_G_text c_G_text ({ frames := 7, cells := 7, slots := 90, locals := 195 }) D ca (z9_Z kS kT) [.ref (ad 0 0), .long sv] ad C (pw_pi (fun r ad' C' => (gw_at ca kS kT ad' C' cd (ga_text mk td sv).2.1 (ga_text mk td sv).2.2 ∧ gm_fr mk ad C ad' C') ∧ r = (ga_text mk td sv).1)) 7 90 := by
  have hZ := z9_ok kS kT
  have hG0 := hG
  obtain ⟨g00, g10, g20, hmk, hDD, hTT, hKK⟩ := hG
  refine pw_ofW (cc := b_G_text) (maxL := 3) (ret := (some FieldType.int)) (by decide) rfl (Nat.le_of_ble_eq_true rfl) ?_
  intro p e s m args below meth c A ls hB hA hw hK hz hl
  obtain ⟨hx, hb, hr, hml, hts0, hlocks, hown, hnm⟩ := hB
  have hts := wd_hts hts0
  have hown : s.vm.findClass "GraphWriter" = some m.cls := hown
  have hl : lv_has ls 3 [(0, .ref (ad 0 0)), (1, .long sv)] := hl
  have hz0 := hz
  obtain ⟨hz1, hz2, hz3, hk0, hk1, hk2, hk3, hk4, hk5, hk6, hk7, hao1, hao2, hnw⟩ := hz0
  have n20 := hnn 20 (by decide) (by decide)
  have n21 := hnn 21 (by decide) (by decide)
  have n22 := hnn 22 (by decide) (by decide)
  have n23 := hnn 23 (by decide) (by decide)
  have n24 := hnn 24 (by decide) (by decide)
  have hfr : ∀ x y, ¬ x = 0 → ¬ x = 2 → ¬ ((19 < x ∧ x < 25) ∧ y = mk) → C x y = C x y := fun _ _ _ _ _ => rfl
  refine lv_lload_n hx hb d_G_text_0 rfl (lv_at hl 1 rfl) ?_
  refine lv_ldc2 (v := (-9187201950435737472)) hx hb hown (hts _ wd_411) d_G_text_1 ?_
  refine lv_land hx hb d_G_text_4 ?_
  refine lv_lconst (v := 0) hx hb d_G_text_5 (by decide) ?_
  refine W.lcmp hx hb d_G_text_6 ?_
  refine lv_if_eq (tgt := 12) hx hb d_G_text_7 (by decide) (fun c_1 => ?_) (fun c_1 => ?_)
  · skip
    refine lv_aload_n hx hb d_G_text_12 rfl (lv_at hl 0 rfl) ?_
    refine pw_get (Cn := "GraphWriter") (T := F_G) (N := 4) hx hb hts in_G hown hK hw 0 0 rfl g00 rfl 3 (by decide) (hts _ wd_143) (fun _ h9 => h9) rfl d_G_text_13 ?_
    refine lv_bipush (v := 12) hx hb d_G_text_16 (by decide) ?_
    refine lv_icmp_lt (tgt := 24) hx hb d_G_text_18 (by decide) (fun c_2 => ?_) (fun c_2 => ?_)
    · skip
      refine lv_aload_n hx hb d_G_text_24 rfl (lv_at hl 0 rfl) ?_
      have hmk9 : mk < 12 := (nI_ltI (by omega) (by decide)).mp c_2
      refine pw_new (ci := 3) (fs := [.int 0, .int 0, .null, .null, .null, .int 0, .int 0]) (Cn := "GraphWriter$Thing") (T := F_T) (N := 7) hx hb hts in_T ft_T to_T hown (hts _ wd_78) (hts _ wd_362) (hts _ wd_64) hK hw hA 20 mk (by decide) n20 rfl (fun j hj => by match j, hj with | 0, _ => rfl | 1, _ => rfl | 2, _ => rfl | 3, _ => rfl | 4, _ => rfl | 5, _ => rfl | 6, _ => rfl | j + 7, h => exact absurd h (by omega)) (by (try dsimp only); omega) (by (try dsimp only); omega) d_G_text_25 (fun q_3 H hw => ?_)
      refine W.widen (k := 1) (n := 8) (by omega) (by omega) ?_
      obtain ⟨ad_4, had_4⟩ : ∃ z, z = pw_up ad 20 mk q_3 := ⟨_, rfl⟩
      rw [← had_4] at hw
      have hsad_4 : ad_4 20 mk = q_3 := by rw [had_4]; exact pw_up_self _ _ _ _
      have hadk : ∀ x9 y9, ¬ (x9 = 20 ∧ y9 = mk) → ad_4 x9 y9 = ad x9 y9 := fun x9 y9 h9 => by rw [had_4]; exact pw_up_ne _ _ h9
      have hw : pw_H D cls9 A s.heap ad C ad_4 (pw_up C 20 mk (some (.inr (3, [.int 0, .int 0, .null, .null, .null, .int 0, .int 0])))) H _ := hw
      generalize hC_5 : pw_up C 20 mk (some (.inr (3, [.int 0, .int 0, .null, .null, .null, .int 0, .int 0]))) = C_5 at hw
      have g00 : C_5 0 0 = some (.inr (0, [.ref (ad 1 0), .ref (ad 2 0), .ref (ad 3 0), .int (nI mk)])) := by rw [← hC_5]; exact (pw_up_ne _ _ (by omega)).trans g00
      have g10 : C_5 1 0 = some (.inl (ca 4, 6, .inr (.inr (.inr (.inr (gw_cf ad cd)))))) := by rw [← hC_5]; exact (pw_up_ne _ _ (by omega)).trans g10
      have g20 : C_5 2 0 = some (.inl (ca 5, 12, .inr (.inr (.inr (.inr (gw_tf ad mk)))))) := by rw [← hC_5]; exact (pw_up_ne _ _ (by omega)).trans g20
      have p20 : C_5 20 mk = some (.inr (3, [.int 0, .int 0, .null, .null, .null, .int 0, .int 0])) := by rw [← hC_5]; exact pw_up_self _ _ _ _
      have hfr : ∀ x y, ¬ x = 0 → ¬ x = 2 → ¬ ((19 < x ∧ x < 25) ∧ y = mk) → C_5 x y = C x y := fun x y h0 h1 h2 => by rw [← hC_5]; exact (pw_up_ne _ _ (by omega)).trans (hfr x y h0 h1 h2)
      have n21 : C_5 21 mk = none := by rw [← hC_5]; exact (pw_up_ne _ _ (by omega)).trans n21
      have n22 : C_5 22 mk = none := by rw [← hC_5]; exact (pw_up_ne _ _ (by omega)).trans n22
      have n23 : C_5 23 mk = none := by rw [← hC_5]; exact (pw_up_ne _ _ (by omega)).trans n23
      have n24 : C_5 24 mk = none := by rw [← hC_5]; exact (pw_up_ne _ _ (by omega)).trans n24
      have n25 : C_5 25 0 = none := by rw [← hC_5]; exact (pw_up_ne _ _ (by omega)).trans n25
      have n26 : C_5 26 0 = none := by rw [← hC_5]; exact (pw_up_ne _ _ (by omega)).trans n26
      refine lv_dup hx hb d_G_text_28 rfl ?_
      refine lv_iconst (v := 1) hx hb d_G_text_29 (by decide) ?_
      refine lv_iconst (v := (-1)) hx hb d_G_text_30 (by decide) ?_
      refine lv_iconst (v := 0) hx hb d_G_text_31 (by decide) ?_
      refine pw_newa (atype := .int) (ty := .int) (az := (0, .inl (fun _ => 0))) hx hb (hts _ wd_127) rfl (fun t h => by cases h) hK hw hA 21 mk (by decide) n21 0 rfl (fun _ => rfl) (by decide) (by omega) (by show _ * 4 ≤ _; omega) (by (try dsimp only); omega) (by (try dsimp only); omega) d_G_text_32 (fun q_6 H hw => ?_)
      refine W.widen (k := 2) (n := 8) (by omega) (by omega) ?_
      obtain ⟨ad_7, had_7⟩ : ∃ z, z = pw_up ad_4 21 mk q_6 := ⟨_, rfl⟩
      rw [← had_7] at hw
      have hsad_7 : ad_7 21 mk = q_6 := by rw [had_7]; exact pw_up_self _ _ _ _
      have hadk : ∀ x9 y9, ¬ (x9 = 20 ∧ y9 = mk) → ¬ (x9 = 21 ∧ y9 = mk) → ad_7 x9 y9 = ad x9 y9 := fun x9 y9 e0 h9 => by rw [had_7]; exact (pw_up_ne _ _ h9).trans (hadk x9 y9 e0)
      have hq_q_3 : ad_7 20 mk = q_3 := by rw [had_7]; exact (pw_up_ne _ _ (by omega)).trans hsad_4
      have hw : pw_H D cls9 A s.heap ad C ad_7 (pw_up C_5 21 mk (some (.inl (ca 0, 0, .inl (fun _ => 0))))) H _ := hw
      generalize hC_8 : pw_up C_5 21 mk (some (.inl (ca 0, 0, .inl (fun _ => 0)))) = C_8 at hw
      have g00 : C_8 0 0 = some (.inr (0, [.ref (ad 1 0), .ref (ad 2 0), .ref (ad 3 0), .int (nI mk)])) := by rw [← hC_8]; exact (pw_up_ne _ _ (by omega)).trans g00
      have g10 : C_8 1 0 = some (.inl (ca 4, 6, .inr (.inr (.inr (.inr (gw_cf ad cd)))))) := by rw [← hC_8]; exact (pw_up_ne _ _ (by omega)).trans g10
      have g20 : C_8 2 0 = some (.inl (ca 5, 12, .inr (.inr (.inr (.inr (gw_tf ad mk)))))) := by rw [← hC_8]; exact (pw_up_ne _ _ (by omega)).trans g20
      have p20 : C_8 20 mk = some (.inr (3, [.int 0, .int 0, .null, .null, .null, .int 0, .int 0])) := by rw [← hC_8]; exact (pw_up_ne _ _ (by omega)).trans p20
      have p21 : C_8 21 mk = some (.inl (ca 0, 0, .inl (fun _ => 0))) := by rw [← hC_8]; exact pw_up_self _ _ _ _
      have hfr : ∀ x y, ¬ x = 0 → ¬ x = 2 → ¬ ((19 < x ∧ x < 25) ∧ y = mk) → C_8 x y = C x y := fun x y h0 h1 h2 => by rw [← hC_8]; exact (pw_up_ne _ _ (by omega)).trans (hfr x y h0 h1 h2)
      have n22 : C_8 22 mk = none := by rw [← hC_8]; exact (pw_up_ne _ _ (by omega)).trans n22
      have n23 : C_8 23 mk = none := by rw [← hC_8]; exact (pw_up_ne _ _ (by omega)).trans n23
      have n24 : C_8 24 mk = none := by rw [← hC_8]; exact (pw_up_ne _ _ (by omega)).trans n24
      have n25 : C_8 25 0 = none := by rw [← hC_8]; exact (pw_up_ne _ _ (by omega)).trans n25
      have n26 : C_8 26 0 = none := by rw [← hC_8]; exact (pw_up_ne _ _ (by omega)).trans n26
      refine lv_lload_n hx hb d_G_text_34 rfl (lv_at hl 1 rfl) ?_
      refine pw_callr (va_runS (As := [.long sv]) (rest := [.ref q_6, .int (-1), .int 1, .ref q_3, .ref q_3, .ref (ad 0 0)]) ⟨hx, hb, hml, hown, hts0⟩ (k_G_signsOf (ad := ad_7) (mk := mk) n23 n24 n25 n26 sv _) (va_cwS 1 hts0 (wd_S wd_414 wd_412 wd_413 wd_53) rfl rfl rfl (by decide +kernel) ⟨Nat.le_of_ble_eq_true rfl, Nat.le_of_ble_eq_true rfl⟩) (pw_preS hZ hw hA hK hz) rfl rfl hl.1 rfl (lv_room (Nat.le_of_ble_eq_true rfl)) d_G_text_35 ⟨Nat.le_of_ble_eq_true rfl, Nat.le_of_ble_eq_true rfl⟩) hw hA (fun r_11 ad_9 C_10 H locs hp hw => ?_)
      obtain ⟨⟨q_12, hae⟩, hst, hf9⟩ := hp
      refine W.widen (k := 6) (n := 48) (by omega) (by omega) ?_
      rw [hae] at hw hst; clear hae
      have g00 : C_10 0 0 = some (.inr (0, [.ref (ad 1 0), .ref (ad 2 0), .ref (ad 3 0), .int (nI mk)])) := (hf9 0 0 (by omega) (by omega)).trans g00
      have g10 : C_10 1 0 = some (.inl (ca 4, 6, .inr (.inr (.inr (.inr (gw_cf ad cd)))))) := (hf9 1 0 (by omega) (by omega)).trans g10
      have g20 : C_10 2 0 = some (.inl (ca 5, 12, .inr (.inr (.inr (.inr (gw_tf ad mk)))))) := (hf9 2 0 (by omega) (by omega)).trans g20
      have p20 : C_10 20 mk = some (.inr (3, [.int 0, .int 0, .null, .null, .null, .int 0, .int 0])) := (hf9 20 mk (by omega) (by omega)).trans p20
      have p21 : C_10 21 mk = some (.inl (ca 0, 0, .inl (fun _ => 0))) := (hf9 21 mk (by omega) (by omega)).trans p21
      have n22 : C_10 22 mk = none := (hf9 22 mk (by omega) (by omega)).trans n22
      have hfr : ∀ x y, ¬ x = 0 → ¬ x = 2 → ¬ ((19 < x ∧ x < 25) ∧ y = mk) → C_10 x y = C x y := fun x y a b c => (hf9 x y (by omega) (by omega)).trans (hfr x y a b c)
      obtain ⟨ad_13, had_13⟩ : ∃ z, z = pw_up ad_7 23 mk r_11 := ⟨_, rfl⟩
      rw [← had_13] at hw
      have hsad_13 : ad_13 23 mk = r_11 := by rw [had_13]; exact pw_up_self _ _ _ _
      have hadk : ∀ x9 y9, ¬ (x9 = 20 ∧ y9 = mk) → ¬ (x9 = 21 ∧ y9 = mk) → ¬ (x9 = 23 ∧ y9 = mk) → ad_13 x9 y9 = ad x9 y9 := fun x9 y9 e0 e1 h9 => by rw [had_13]; exact (pw_up_ne _ _ h9).trans (hadk x9 y9 e0 e1)
      have hq_q_3 : ad_13 20 mk = q_3 := by rw [had_13]; exact (pw_up_ne _ _ (by omega)).trans hq_q_3
      have hq_q_6 : ad_13 21 mk = q_6 := by rw [had_13]; exact (pw_up_ne _ _ (by omega)).trans hsad_7
      obtain ⟨ad_14, had_14⟩ : ∃ z, z = pw_up ad_13 24 mk q_12 := ⟨_, rfl⟩
      rw [← had_14] at hw
      have hsad_14 : ad_14 24 mk = q_12 := by rw [had_14]; exact pw_up_self _ _ _ _
      have hadk : ∀ x9 y9, ¬ (x9 = 20 ∧ y9 = mk) → ¬ (x9 = 21 ∧ y9 = mk) → ¬ (x9 = 23 ∧ y9 = mk) → ¬ (x9 = 24 ∧ y9 = mk) → ad_14 x9 y9 = ad x9 y9 := fun x9 y9 e0 e1 e2 h9 => by rw [had_14]; exact (pw_up_ne _ _ h9).trans (hadk x9 y9 e0 e1 e2)
      have hq_q_3 : ad_14 20 mk = q_3 := by rw [had_14]; exact (pw_up_ne _ _ (by omega)).trans hq_q_3
      have hq_q_6 : ad_14 21 mk = q_6 := by rw [had_14]; exact (pw_up_ne _ _ (by omega)).trans hq_q_6
      have hq_r_11 : ad_14 23 mk = r_11 := by rw [had_14]; exact (pw_up_ne _ _ (by omega)).trans hsad_13
      rw [← had_13, ← had_14] at hst
      obtain ⟨f9, v1, v2, s23, s24, hsf, hsn, hsc⟩ := hst
      rw [hsad_14] at s23
      have s24 : C_10 24 mk = some (.inl (ca 2, (sg_t sv).length, .inl f9)) := s24
      rw [← hq_q_3, ← hq_q_6]
      refine pw_callv (va_runI (As := [.int 1, .int (-1), .ref (ad_14 21 mk), .ref r_11]) (rest := [.ref (ad_14 20 mk), .ref (ad 0 0)]) ⟨hx, hb, hml, hown, hts0⟩ (k_T_init (ad := ad_14) (ta := r_11) p20 p21 n22 (by omega) 1 (-1) _) (cwI 4 hts0 (wd_sub wd_371) rfl rfl rfl (hts _ wd_64) (hts _ wd_369) (hts _ wd_370) rfl (by decide +kernel) ⟨(by (try dsimp only); omega), (by (try dsimp only); omega)⟩) (pw_preS hZ hw hA hK hz) rfl rfl hl.1 rfl (lv_room (Nat.le_of_ble_eq_true rfl)) d_G_text_38 ⟨(by (try dsimp only); omega), (by (try dsimp only); omega)⟩) hw hA (fun ad_15 C_16 H locs hp hw => ?_)
      refine W.widen (k := 7) (n := 90) (by omega) (by omega) ?_
      obtain ⟨q_17, hae, t20, t22, hf9⟩ := hp
      rw [hae] at hw; clear hae
      rw [hq_q_6] at t20
      rw [hq_q_3]
      have g00 : C_16 0 0 = some (.inr (0, [.ref (ad 1 0), .ref (ad 2 0), .ref (ad 3 0), .int (nI mk)])) := (hf9 0 0 (by omega) (by omega)).trans g00
      have g10 : C_16 1 0 = some (.inl (ca 4, 6, .inr (.inr (.inr (.inr (gw_cf ad cd)))))) := (hf9 1 0 (by omega) (by omega)).trans g10
      have g20 : C_16 2 0 = some (.inl (ca 5, 12, .inr (.inr (.inr (.inr (gw_tf ad mk)))))) := (hf9 2 0 (by omega) (by omega)).trans g20
      have p21 : C_16 21 mk = some (.inl (ca 0, 0, .inl (fun _ => 0))) := (hf9 21 mk (by omega) (by omega)).trans p21
      have s23 : C_16 23 mk = some (.inr (5, [.ref q_12, .int 0, v1, v2])) := (hf9 23 mk (by omega) (by omega)).trans s23
      have s24 : C_16 24 mk = some (.inl (ca 2, (sg_t sv).length, .inl f9)) := (hf9 24 mk (by omega) (by omega)).trans s24
      have hfr : ∀ x y, ¬ x = 0 → ¬ x = 2 → ¬ ((19 < x ∧ x < 25) ∧ y = mk) → C_16 x y = C x y := fun x y a b c => (hf9 x y (by omega) (by omega)).trans (hfr x y a b c)
      obtain ⟨ad_18, had_18⟩ : ∃ z, z = pw_up ad_14 22 mk q_17 := ⟨_, rfl⟩
      rw [← had_18] at hw
      have hsad_18 : ad_18 22 mk = q_17 := by rw [had_18]; exact pw_up_self _ _ _ _
      have hadk : ∀ x9 y9, ¬ (x9 = 20 ∧ y9 = mk) → ¬ (x9 = 21 ∧ y9 = mk) → ¬ (x9 = 23 ∧ y9 = mk) → ¬ (x9 = 24 ∧ y9 = mk) → ¬ (x9 = 22 ∧ y9 = mk) → ad_18 x9 y9 = ad x9 y9 := fun x9 y9 e0 e1 e2 e3 h9 => by rw [had_18]; exact (pw_up_ne _ _ h9).trans (hadk x9 y9 e0 e1 e2 e3)
      have hq_q_3 : ad_18 20 mk = q_3 := by rw [had_18]; exact (pw_up_ne _ _ (by omega)).trans hq_q_3
      have hq_q_6 : ad_18 21 mk = q_6 := by rw [had_18]; exact (pw_up_ne _ _ (by omega)).trans hq_q_6
      have hq_r_11 : ad_18 23 mk = r_11 := by rw [had_18]; exact (pw_up_ne _ _ (by omega)).trans hq_r_11
      have hq_q_12 : ad_18 24 mk = q_12 := by rw [had_18]; exact (pw_up_ne _ _ (by omega)).trans hsad_14
      have p20 : C_16 20 mk = some (.inr (3, [.int 1, .int (-1), .ref q_6, .ref q_17, .ref r_11, .int (-1), .int 0])) := t20
      have p22 : C_16 22 mk = some (.inl (ca 1, 0, .inr (.inl (tt_v0 (fun _ => 0) 0)))) := t22
      rw [← hq_q_3, ← hadk 0 0 (by omega) (by omega) (by omega) (by omega) (by omega)]
      refine pw_calli (va_runV (As := [.ref (ad_18 20 mk)]) (rest := []) ⟨hx, hb, hml, hown, hts0⟩ (k_G_keep (ad := ad_18) (b1 := ad 1 0) (b3 := ad 3 0) (by rw [hadk 2 0 (by omega) (by omega) (by omega) (by omega) (by omega)]; exact g00) g20 hmk9 p20 _) (cwV 1 hts0 (wd_V wd_406 wd_403 wd_405 wd_6 wd_53) rfl rfl rfl (by decide +kernel) ⟨(by (try dsimp only); omega), (by (try dsimp only); omega)⟩) (pw_preV hZ hw hA hK hz rfl g00 rfl) rfl rfl hl.1 rfl (lv_room (Nat.le_of_ble_eq_true rfl)) d_G_text_41 ⟨(by (try dsimp only); omega), (by (try dsimp only); omega)⟩) hw hA (fun r_21 ad_19 C_20 H locs hp hw => ?_)
      obtain ⟨⟨hae, g00, g20, hf9⟩, hre⟩ := hp
      rw [hae] at hw; clear hae
      rw [hre]
      have g10 : C_20 1 0 = some (.inl (ca 4, 6, .inr (.inr (.inr (.inr (gw_cf ad cd)))))) := (hf9 1 0 (by omega) (by omega)).trans g10
      have p20 : C_20 20 mk = some (.inr (3, [.int 1, .int (-1), .ref q_6, .ref q_17, .ref r_11, .int (-1), .int 0])) := (hf9 20 mk (by omega) (by omega)).trans p20
      have p21 : C_20 21 mk = some (.inl (ca 0, 0, .inl (fun _ => 0))) := (hf9 21 mk (by omega) (by omega)).trans p21
      have s23 : C_20 23 mk = some (.inr (5, [.ref q_12, .int 0, v1, v2])) := (hf9 23 mk (by omega) (by omega)).trans s23
      have s24 : C_20 24 mk = some (.inl (ca 2, (sg_t sv).length, .inl f9)) := (hf9 24 mk (by omega) (by omega)).trans s24
      have p22 : C_20 22 mk = some (.inl (ca 1, 0, .inr (.inl (tt_v0 (fun _ => 0) 0)))) := (hf9 22 mk (by omega) (by omega)).trans p22
      have hfr : ∀ x y, ¬ x = 0 → ¬ x = 2 → ¬ ((19 < x ∧ x < 25) ∧ y = mk) → C_20 x y = C x y := fun x y a b c => (hf9 x y (by omega) (by omega)).trans (hfr x y a b c)
      rw [hadk 2 0 (by omega) (by omega) (by omega) (by omega) (by omega)] at g00
      have e9 : ga_text mk td sv = (nI mk, mk + 1, va_up td mk (ga_txt sv)) := by unfold ga_text; rw [if_neg (fun z => z c_1), if_neg (Int32.not_le.mpr c_2)]
      refine pw_iret hx hb hr hlocks hw ⟨⟨?_, hfr, fun x y h => hadk x y (by omega) (by omega) (by omega) (by omega) (by omega)⟩, by rw [e9]⟩ d_G_text_44
      rw [e9]
      refine hG0.more hmk9 ⟨hfr, fun x y h => hadk x y (by omega) (by omega) (by omega) (by omega) (by omega)⟩ g00 g20 ⟨?_, p21, p22, by show 0 ≤ 24; omega, ?_⟩
      · rw [hq_q_6, hsad_18, show tt_ta kS ad_18 mk (ga_txt sv) = ad_18 23 mk from if_pos (by left; rfl), hq_r_11]; exact p20
      · intro _
        show st_at _ _ _ _ _ _ _ (sg_t sv)
        exact ⟨f9, v1, v2, by rw [hq_q_12]; exact s23, s24, hsf, hsn, hsc⟩
    · skip
      refine lv_bipush (v := (-2)) hx hb d_G_text_21 (by decide) ?_
      have e9 : ga_text mk td sv = (-2, mk, td) := by unfold ga_text; rw [if_neg (fun z => z c_1), if_pos (Int32.not_lt.mp c_2)]
      refine W.widen (k := 7) (n := 90) (by omega) (by omega) ?_
      exact pw_iret hx hb hr hlocks hw ⟨⟨by rw [e9]; exact hG0, fun _ _ _ _ _ => rfl, fun _ _ _ => rfl⟩, by rw [e9]⟩ d_G_text_23
  · skip
    refine lv_iconst (v := (-1)) hx hb d_G_text_10 (by decide) ?_
    have e9 : ga_text mk td sv = (-1, mk, td) := by exact if_pos c_1
    refine W.widen (k := 7) (n := 90) (by omega) (by omega) ?_
    exact pw_iret hx hb hr hlocks hw ⟨⟨by rw [e9]; exact hG0, fun _ _ _ _ _ => rfl, fun _ _ _ => rfl⟩, by rw [e9]⟩ d_G_text_11
