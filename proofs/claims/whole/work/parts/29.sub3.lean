theorem st_cp1 (f : Nat → Int32) (a : Nat) : va_cpy f (fun _ => 0) a 0 1 0 = f a := by
  simp [va_cpy]
set_option maxHeartbeats 4000000 in
set_option maxRecDepth 100000 in
theorem k_JS_substring {l : Launch} {D : va_G} {ca : Nat → ClassId} {kS : Nat → Nat} {kT : Nat} {ad : pw_A} {C : pw_C} {x y x2 y2 : Nat} {t : List Int32} (hT : st_at ca ad C x y x2 y2 t) {u v a : Nat} (hx5 : ¬ x < 50) (hx2 : ¬ x2 < 50) (hu : u + 1 < 50) (nu : C u v = none) (nu1 : C (u + 1) v = none) (ha : a < t.length) (ht1 : 1 < t.length) : gc_Con l y_JS_substring c_JS_substring ({ frames := 4, cells := 2, slots := 16, locals := 128 }) D ca (z9_Z kS kT) [.ref (ad x y), .int (nI a), .int (nI (a + 1))] ad C (pw_pr (fun r ad' C' => (∃ q, ad' = pw_up (pw_up ad u v r) (u + 1) v q) ∧ st_at ca ad' C' u v (u + 1) v [t.getD a 0] ∧ ∀ x9 y9, ¬ (x9 = u ∧ y9 = v) → ¬ (x9 = u + 1 ∧ y9 = v) → C' x9 y9 = C x9 y9)) 2 16 := by
  have hZ := z9_ok kS kT
  have hT0 := hT
  obtain ⟨f, g1, g2, hs0, hs1, hsf, hsn, hsc⟩ := hT
  refine pw_ofW (cc := b_JS_substring) (maxL := 5) (ret := (some (FieldType.object "java/lang/String"))) (by decide) rfl (Nat.le_of_ble_eq_true rfl) ?_
  intro p e s m args below meth c A ls hB hA hw hK hz hl
  obtain ⟨hx, hb, hr, hml, hts0, hlocks, hown, hnm⟩ := hB
  have hts := wd_hts hts0
  have hown : s.vm.findClass "java/lang/String" = some m.cls := hown
  have hl : lv_has ls 5 [(0, .ref (ad x y)), (1, .int (nI a)), (2, .int (nI (a + 1)))] := hl
  have hz0 := hz
  obtain ⟨hz1, hz2, hz3, -⟩ := hz0
  refine lv_aload_n hx hb d_JS_substring_0 rfl (lv_at hl 0 rfl) ?_
  refine pw_calli (va_runV (As := []) (rest := []) ⟨hx, hb, hml, hown, hts0⟩ (k_JS_length hT0 _) (cwV 0 hts0 (wd_V wd_198 wd_195 wd_196 wd_197 wd_60) rfl rfl rfl (by decide +kernel) ⟨(by (try dsimp only); omega), (by (try dsimp only); omega)⟩) (pw_preV hZ hw hA hK hz rfl hs0 rfl) rfl rfl hl.1 rfl (lv_room (Nat.le_of_ble_eq_true rfl)) d_JS_substring_1 ⟨(by (try dsimp only); omega), (by (try dsimp only); omega)⟩) hw hA (fun r_3 ad_1 C_2 H locs hp hw => ?_)
  obtain ⟨⟨hae, hce⟩, hre⟩ := hp
  rw [hae, hce] at hw
  rw [hre]
  clear hae hce hre
  refine lv_istore_n (lv' := [(3, .int (nI t.length)), (0, .ref (ad x y)), (1, .int (nI a)), (2, .int (nI (a + 1)))]) hx hb d_JS_substring_4 rfl hl (by decide) rfl (fun ls hl => ?_)
  refine lv_iload_n hx hb d_JS_substring_5 rfl (lv_at hl 2 rfl) ?_
  refine lv_iload_n hx hb d_JS_substring_6 rfl (lv_at hl 3 rfl) ?_
  refine lv_iload_n hx hb d_JS_substring_7 rfl (lv_at hl 0 rfl) ?_
  refine pw_callv (va_runS (As := [.int (nI a), .int (nI (a + 1)), .int (nI t.length)]) (rest := []) ⟨hx, hb, hml, hown, hts0⟩ (k_JS_checkBoundsBeginEnd (a := a) (b := a + 1) (by omega) (by omega) (by omega) _) (va_cwS 3 hts0 (wd_S wd_207 wd_205 wd_206 wd_60) rfl rfl rfl (by decide +kernel) ⟨Nat.le_of_ble_eq_true rfl, Nat.le_of_ble_eq_true rfl⟩) (pw_preS hZ hw hA hK hz) rfl rfl hl.1 rfl (lv_room (Nat.le_of_ble_eq_true rfl)) d_JS_substring_8 ⟨Nat.le_of_ble_eq_true rfl, Nat.le_of_ble_eq_true rfl⟩) hw hA (fun ad_4 C_5 H locs hp hw => ?_)
  obtain ⟨hae, hce⟩ := hp
  rw [hae, hce] at hw
  clear hae hce
  refine lv_iload_n hx hb d_JS_substring_11 rfl (lv_at hl 2 rfl) ?_
  refine lv_if_ne (tgt := 22) hx hb d_JS_substring_12 (by decide) (fun c_7 => ?_) (fun c_7 => ?_)
  · skip
    refine lv_iload_n hx hb d_JS_substring_22 rfl (lv_at hl 3 rfl) ?_
    refine lv_iload_n hx hb d_JS_substring_23 rfl (lv_at hl 2 rfl) ?_
    refine lv_isub hx hb d_JS_substring_24 ?_
    rw [pk_sub (show a ≤ a + 1 by omega), show a + 1 - a = 1 by omega]
    refine lv_istore (lv' := [(4, .int (nI 1)), (3, .int (nI t.length)), (0, .ref (ad x y)), (1, .int (nI a)), (2, .int (nI (a + 1)))]) hx hb d_JS_substring_25 hl (by decide) rfl (fun ls hl => ?_)
    refine lv_aload_n hx hb d_JS_substring_27 rfl (lv_at hl 2 rfl) ?_
    refine pw_calli (va_runV (As := []) (rest := []) ⟨hx, hb, hml, hown, hts0⟩ (k_JS_isLatin1 hT0 _) (cwV 0 hts0 (wd_V wd_216 wd_213 wd_214 wd_215 wd_60) rfl rfl rfl (by decide +kernel) ⟨(by (try dsimp only); omega), (by (try dsimp only); omega)⟩) (pw_preV hZ hw hA hK hz rfl hs0 rfl) rfl rfl hl.1 rfl (lv_room (Nat.le_of_ble_eq_true rfl)) d_JS_substring_28 ⟨(by (try dsimp only); omega), (by (try dsimp only); omega)⟩) hw hA (fun r_10 ad_8 C_9 H locs hp hw => ?_)
    obtain ⟨⟨hae, hce⟩, hre⟩ := hp
    rw [hae, hce] at hw
    rw [hre]
    clear hae hce hre
    refine lv_if_eq (tgt := 47) hx hb d_JS_substring_31 (by decide) (fun c_11 => ?_) (fun c_11 => ?_)
    · exact absurd c_11 (by decide)
    · skip
      refine lv_aload_n hx hb d_JS_substring_34 rfl (lv_at hl 2 rfl) ?_
      refine pw_get (Cn := "java/lang/String") (T := F_JS) (N := 4) hx hb hts in_JS hown hK hw x y rfl hs0 rfl 0 (by decide) (hts _ wd_241) (fun _ h9 => h9) rfl d_JS_substring_35 ?_
      refine lv_iload_n hx hb d_JS_substring_38 rfl (lv_at hl 3 rfl) ?_
      refine lv_iload hx hb d_JS_substring_39 (lv_at hl 0 rfl) ?_
      obtain ⟨k9, hk9, hk8⟩ := hsc a ha
      refine pw_callr (va_runS (As := [.ref (ad x2 y2), .int (nI a), .int (nI 1)]) (rest := []) ⟨hx, hb, hml, hown, hts0⟩ (k_JL_newString (n := 1) hu nu nu1 hx2 hs1 (by omega) (by omega) (by omega) (by omega) (fun i hi => by rw [show a + i = a by omega, hsf a ha, hk8]; exact st_fit k9 hk9) (by omega) _) (va_cwS 3 hts0 (wd_S wd_219 wd_217 wd_218 wd_62) rfl rfl rfl (by decide +kernel) ⟨Nat.le_of_ble_eq_true rfl, Nat.le_of_ble_eq_true rfl⟩) (pw_preS hZ hw hA hK hz) rfl rfl hl.1 rfl (lv_room (Nat.le_of_ble_eq_true rfl)) d_JS_substring_41 ⟨Nat.le_of_ble_eq_true rfl, Nat.le_of_ble_eq_true rfl⟩) hw hA (fun r_14 ad_12 C_13 H locs hp hw => ?_)
      obtain ⟨q, hae, g1, g2, hf9⟩ := hp
      refine lv_goto (tgt := 57) hx hb d_JS_substring_44 (by decide) ?_
      refine pw_aret hx hb hr (Or.inl ⟨_, rfl⟩) hlocks hw ⟨⟨q, hae⟩, ⟨_, .int 0, .int 0, ?_, g2, fun i hi => ?_, by show 1 < _; decide, fun i hi => ?_⟩, hf9⟩ d_JS_substring_57
      · rw [show ad_12 (u + 1) v = q by rw [hae]; exact pw_up_self _ _ _ _]; exact g1
      · obtain rfl : i = 0 := by have : i < 1 := hi; omega
        rw [st_cp1, hsf a ha]; rfl
      · obtain rfl : i = 0 := by have : i < 1 := hi; omega
        exact ⟨k9, hk9, hk8⟩
  · skip
    refine lv_iload_n hx hb d_JS_substring_15 rfl (lv_at hl 3 rfl) ?_
    refine lv_iload_n hx hb d_JS_substring_16 rfl (lv_at hl 0 rfl) ?_
    refine lv_icmp_ne (tgt := 22) hx hb d_JS_substring_17 (by decide) (fun c_15 => ?_) (fun c_15 => ?_)
    · skip
      refine lv_iload_n hx hb d_JS_substring_22 rfl (lv_at hl 3 rfl) ?_
      refine lv_iload_n hx hb d_JS_substring_23 rfl (lv_at hl 2 rfl) ?_
      refine lv_isub hx hb d_JS_substring_24 ?_
      rw [pk_sub (show a ≤ a + 1 by omega), show a + 1 - a = 1 by omega]
      refine lv_istore (lv' := [(4, .int (nI 1)), (3, .int (nI t.length)), (0, .ref (ad x y)), (1, .int (nI a)), (2, .int (nI (a + 1)))]) hx hb d_JS_substring_25 hl (by decide) rfl (fun ls hl => ?_)
      refine lv_aload_n hx hb d_JS_substring_27 rfl (lv_at hl 2 rfl) ?_
      refine pw_calli (va_runV (As := []) (rest := []) ⟨hx, hb, hml, hown, hts0⟩ (k_JS_isLatin1 hT0 _) (cwV 0 hts0 (wd_V wd_216 wd_213 wd_214 wd_215 wd_60) rfl rfl rfl (by decide +kernel) ⟨(by (try dsimp only); omega), (by (try dsimp only); omega)⟩) (pw_preV hZ hw hA hK hz rfl hs0 rfl) rfl rfl hl.1 rfl (lv_room (Nat.le_of_ble_eq_true rfl)) d_JS_substring_28 ⟨(by (try dsimp only); omega), (by (try dsimp only); omega)⟩) hw hA (fun r_18 ad_16 C_17 H locs hp hw => ?_)
      obtain ⟨⟨hae, hce⟩, hre⟩ := hp
      rw [hae, hce] at hw
      rw [hre]
      clear hae hce hre
      refine lv_if_eq (tgt := 47) hx hb d_JS_substring_31 (by decide) (fun c_19 => ?_) (fun c_19 => ?_)
      · exact absurd c_19 (by decide)
      · skip
        refine lv_aload_n hx hb d_JS_substring_34 rfl (lv_at hl 2 rfl) ?_
        refine pw_get (Cn := "java/lang/String") (T := F_JS) (N := 4) hx hb hts in_JS hown hK hw x y rfl hs0 rfl 0 (by decide) (hts _ wd_241) (fun _ h9 => h9) rfl d_JS_substring_35 ?_
        refine lv_iload_n hx hb d_JS_substring_38 rfl (lv_at hl 3 rfl) ?_
        refine lv_iload hx hb d_JS_substring_39 (lv_at hl 0 rfl) ?_
        obtain ⟨k9, hk9, hk8⟩ := hsc a ha
        refine pw_callr (va_runS (As := [.ref (ad x2 y2), .int (nI a), .int (nI 1)]) (rest := []) ⟨hx, hb, hml, hown, hts0⟩ (k_JL_newString (n := 1) hu nu nu1 hx2 hs1 (by omega) (by omega) (by omega) (by omega) (fun i hi => by rw [show a + i = a by omega, hsf a ha, hk8]; exact st_fit k9 hk9) (by omega) _) (va_cwS 3 hts0 (wd_S wd_219 wd_217 wd_218 wd_62) rfl rfl rfl (by decide +kernel) ⟨Nat.le_of_ble_eq_true rfl, Nat.le_of_ble_eq_true rfl⟩) (pw_preS hZ hw hA hK hz) rfl rfl hl.1 rfl (lv_room (Nat.le_of_ble_eq_true rfl)) d_JS_substring_41 ⟨Nat.le_of_ble_eq_true rfl, Nat.le_of_ble_eq_true rfl⟩) hw hA (fun r_22 ad_20 C_21 H locs hp hw => ?_)
        obtain ⟨q, hae, g1, g2, hf9⟩ := hp
        refine lv_goto (tgt := 57) hx hb d_JS_substring_44 (by decide) ?_
        refine pw_aret hx hb hr (Or.inl ⟨_, rfl⟩) hlocks hw ⟨⟨q, hae⟩, ⟨_, .int 0, .int 0, ?_, g2, fun i hi => ?_, by show 1 < _; decide, fun i hi => ?_⟩, hf9⟩ d_JS_substring_57
        · rw [show ad_20 (u + 1) v = q by rw [hae]; exact pw_up_self _ _ _ _]; exact g1
        · obtain rfl : i = 0 := by have : i < 1 := hi; omega
          rw [st_cp1, hsf a ha]; rfl
        · obtain rfl : i = 0 := by have : i < 1 := hi; omega
          exact ⟨k9, hk9, hk8⟩
    · exact absurd (nI_inj (by omega) (by omega) c_15) (by have := nI_inj (b := 0) (by omega) (by omega) c_7; omega)
