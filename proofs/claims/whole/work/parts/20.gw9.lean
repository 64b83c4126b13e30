set_option maxHeartbeats 4000000 in
set_option maxRecDepth 100000 in
theorem k_G_object {l : Launch} {D : va_G} {ca : Nat → ClassId} {kS : Nat → Nat} {kT : Nat} {ad : pw_A} {C : pw_C} {cd : Nat → Option DT} {mk : Nat} {td : Nat → TT} (hG : gw_at ca kS kT ad C cd mk td) (hwT : wf_t cd mk td) (how9 : ∀ i, i < mk → ¬ (tt_so (td i) = 0 ∨ tt_so (td i) = 4) → tt_ow (td i) = -1) (o k : Int32) : gc_Con l y_G_object c_G_object ({ frames := 2, cells := 0, slots := 0, locals := 40 }) D ca (z9_Z kS kT) [.ref (ad 0 0), .int o, .int k] ad C (pw_pi (fun r ad' C' => (ad' = ad ∧ C' = C) ∧ r = ga_object mk td o k)) 0 0 := by
  have hZ := z9_ok kS kT
  have hG0 := hG
  obtain ⟨g00, g10, g20, hmk, hDD, hTT, hKK⟩ := hG
  refine pw_ofW (cc := b_G_object) (maxL := 4) (ret := (some FieldType.int)) (by decide) rfl (Nat.le_of_ble_eq_true rfl) ?_
  intro p e s m args below meth c A ls hB hA hw hK hz hl
  obtain ⟨hx, hb, hr, hml, hts0, hlocks, hown, hnm⟩ := hB
  have hts := wd_hts hts0
  have hown : s.vm.findClass "GraphWriter" = some m.cls := hown
  have hl : lv_has ls 4 [(0, .ref (ad 0 0)), (1, .int o), (2, .int k)] := hl
  have hz0 := hz
  obtain ⟨hz1, hz2, hz3, hk0, hk1, hk2, hk3, hk4, hk5, hk6, hk7, hao1, hao2, hnw⟩ := hz0
  refine lv_aload_n hx hb d_G_object_0 rfl (lv_at hl 0 rfl) ?_
  refine lv_iload_n hx hb d_G_object_1 rfl (lv_at hl 1 rfl) ?_
  refine pw_calli (va_runV (As := [.int o]) (rest := []) ⟨hx, hb, hml, hown, hts0⟩ (k_G_isMade hG0 o _) (cwV 1 hts0 (wd_V wd_550 wd_547 wd_549 wd_7 wd_53) rfl rfl rfl (by decide +kernel) ⟨Nat.le_of_ble_eq_true rfl, Nat.le_of_ble_eq_true rfl⟩) (pw_preV hZ hw hA hK hz rfl g00 rfl) rfl rfl hl.1 rfl (lv_room (Nat.le_of_ble_eq_true rfl)) d_G_object_2 ⟨Nat.le_of_ble_eq_true rfl, Nat.le_of_ble_eq_true rfl⟩) hw hA (fun r_3 ad_1 C_2 H locs hp hw => ?_)
  obtain ⟨⟨hae, hce⟩, hre⟩ := hp
  rw [hae, hce] at hw
  rw [hre]
  clear hae hce hre
  refine lv_if_ne (tgt := 10) hx hb d_G_object_5 (by decide) (fun c_4 => ?_) (fun c_4 => ?_)
  · skip
    refine lv_aload_n hx hb d_G_object_10 rfl (lv_at hl 0 rfl) ?_
    refine pw_get (Cn := "GraphWriter") (T := F_G) (N := 4) hx hb hts in_G hown hK hw 0 0 rfl g00 rfl 1 (by decide) (hts _ wd_141) (fun _ h9 => h9) rfl d_G_object_11 ?_
    refine lv_iload_n hx hb d_G_object_14 rfl (lv_at hl 1 rfl) ?_
    obtain ⟨j, hj, hoj⟩ := ga_made_1 hmk c_4
    have e8 : o.toNatClampNeg = j := by rw [hoj]; exact nI_clamp (by omega)
    obtain ⟨p20, p21, p22, pn, pt⟩ := hTT j hj
    refine pw_aald hx hb hK hw 2 0 rfl 5 g20 rfl j hoj (by omega) (by omega) d_G_object_15 ?_
    rw [gw_th hj]
    refine lv_astore_n (lv' := [(3, .ref (ad 20 j)), (0, .ref (ad 0 0)), (1, .int o), (2, .int k)]) hx hb d_G_object_16 rfl hl (by decide) rfl (fun ls hl => ?_)
    refine lv_iload_n hx hb d_G_object_17 rfl (lv_at hl 3 rfl) ?_
    rcases ga_sel (k := k) 2 (by decide) with hs | ⟨i, hi, hki⟩
    · refine lv_tableOut (tgt := 90) hx hb d_G_object_18 hs (by decide) ?_
      refine lv_iconst (v := (-1)) hx hb d_G_object_90 (by decide) ?_
      exact pw_iret hx hb hr hlocks hw ⟨⟨rfl, rfl⟩, by unfold ga_object; rw [if_neg c_4, if_neg (show ¬ k = 0 from ga_selne hs 0 (by decide) (by decide)), if_neg (show ¬ k = 1 from ga_selne hs 1 (by decide) (by decide)), if_neg (show ¬ k = 2 from ga_selne hs 2 (by decide) (by decide))]⟩ d_G_object_91
    · match i, hi, hki with
      | 0, _, hki =>
        refine lv_tableIn (off := 26) (tgt := 44) hx hb d_G_object_18 (by rw [hki]; decide) (by rw [hki]; decide) (by rw [hki]; rfl) (by decide) ?_
        refine lv_aload_n hx hb d_G_object_44 rfl (lv_at hl 0 rfl) ?_
        refine pw_get (Cn := "GraphWriter$Thing") (T := F_T) (N := 7) hx hb hts in_T hown hK hw 20 j rfl p20 rfl 0 (by decide) (hts _ wd_375) (fun _ h9 => h9) rfl d_G_object_45 ?_
        exact pw_iret hx hb hr hlocks hw ⟨⟨rfl, rfl⟩, by unfold ga_object; rw [if_neg c_4, if_pos (show k = 0 from hki), e8]⟩ d_G_object_48
      | 1, _, hki =>
        refine lv_tableIn (off := 31) (tgt := 49) hx hb d_G_object_18 (by rw [hki]; decide) (by rw [hki]; decide) (by rw [hki]; rfl) (by decide) ?_
        refine lv_aload_n hx hb d_G_object_49 rfl (lv_at hl 0 rfl) ?_
        refine pw_get (Cn := "GraphWriter$Thing") (T := F_T) (N := 7) hx hb hts in_T hown hK hw 20 j rfl p20 rfl 1 (by decide) (hts _ wd_377) (fun _ h9 => h9) rfl d_G_object_50 ?_
        refine lv_iconst (v := (-1)) hx hb d_G_object_53 (by decide) ?_
        refine lv_icmp_ne (tgt := 61) hx hb d_G_object_54 (by decide) (fun c_5 => ?_) (fun c_5 => ?_)
        · skip
          refine lv_aload_n hx hb d_G_object_61 rfl (lv_at hl 0 rfl) ?_
          refine pw_get (Cn := "GraphWriter$Thing") (T := F_T) (N := 7) hx hb hts in_T hown hK hw 20 j rfl p20 rfl 1 (by decide) (hts _ wd_377) (fun _ h9 => h9) rfl d_G_object_62 ?_
          exact pw_iret hx hb hr hlocks hw ⟨⟨rfl, rfl⟩, by unfold ga_object; rw [if_neg c_4, if_neg (by rw [hki]; decide), if_pos (show k = 1 from hki), e8]⟩ d_G_object_65
        · skip
          refine lv_iconst (v := (-1)) hx hb d_G_object_57 (by decide) ?_
          refine lv_goto (tgt := 65) hx hb d_G_object_58 (by decide) ?_
          exact pw_iret hx hb hr hlocks hw ⟨⟨rfl, rfl⟩, by unfold ga_object; rw [if_neg c_4, if_neg (by rw [hki]; decide), if_pos (show k = 1 from hki), e8]; exact (c_5).symm⟩ d_G_object_65
      | 2, _, hki =>
        refine lv_tableIn (off := 48) (tgt := 66) hx hb d_G_object_18 (by rw [hki]; decide) (by rw [hki]; decide) (by rw [hki]; rfl) (by decide) ?_
        refine lv_aload_n hx hb d_G_object_66 rfl (lv_at hl 0 rfl) ?_
        refine pw_get (Cn := "GraphWriter$Thing") (T := F_T) (N := 7) hx hb hts in_T hown hK hw 20 j rfl p20 rfl 0 (by decide) (hts _ wd_375) (fun _ h9 => h9) rfl d_G_object_67 ?_
        refine lv_iconst (v := 1) hx hb d_G_object_70 (by decide) ?_
        refine lv_icmp_ne (tgt := 84) hx hb d_G_object_71 (by decide) (fun c_6 => ?_) (fun c_6 => ?_)
        · skip
          refine lv_aload_n hx hb d_G_object_84 rfl (lv_at hl 0 rfl) ?_
          refine pw_get (Cn := "GraphWriter$Thing") (T := F_T) (N := 7) hx hb hts in_T hown hK hw 20 j rfl p20 rfl 3 (by decide) (hts _ wd_381) (fun _ h9 => h9) rfl d_G_object_85 ?_
          refine pw_alen hx hb hK hw 22 j rfl 1 p22 rfl d_G_object_88 ?_
          exact pw_iret hx hb hr hlocks hw ⟨⟨rfl, rfl⟩, by unfold ga_object; rw [if_neg c_4, if_neg (by rw [hki]; decide), if_neg (by rw [hki]; decide), if_pos (show k = 2 from hki), e8]; rw [if_neg c_6]⟩ d_G_object_89
        · skip
          refine lv_aload_n hx hb d_G_object_74 rfl (lv_at hl 0 rfl) ?_
          refine pw_get (Cn := "GraphWriter$Thing") (T := F_T) (N := 7) hx hb hts in_T hown hK hw 20 j rfl p20 rfl 4 (by decide) (hts _ wd_383) (fun _ h9 => h9) rfl d_G_object_75 ?_
          rw [show tt_ta kS ad j (td j) = ad 23 j from if_pos (Or.inl c_6)]
          refine pw_calli (va_runV (As := []) (rest := []) ⟨hx, hb, hml, hown, hts0⟩ (k_JS_length (pt (Or.inl c_6)) _) (cwV 0 hts0 (wd_V wd_198 wd_737 wd_196 wd_197 wd_60) rfl rfl rfl (by decide +kernel) ⟨Nat.le_of_ble_eq_true rfl, Nat.le_of_ble_eq_true rfl⟩) (pw_preV hZ hw hA hK hz rfl (st_ob (pt (Or.inl c_6))) rfl) rfl rfl hl.1 rfl (lv_room (Nat.le_of_ble_eq_true rfl)) d_G_object_78 ⟨Nat.le_of_ble_eq_true rfl, Nat.le_of_ble_eq_true rfl⟩) hw hA (fun r_9 ad_7 C_8 H locs hp hw => ?_)
          obtain ⟨⟨hae, hce⟩, hre⟩ := hp
          rw [hae, hce] at hw
          rw [hre]
          clear hae hce hre
          refine lv_goto (tgt := 89) hx hb d_G_object_81 (by decide) ?_
          exact pw_iret hx hb hr hlocks hw ⟨⟨rfl, rfl⟩, by unfold ga_object; rw [if_neg c_4, if_neg (by rw [hki]; decide), if_neg (by rw [hki]; decide), if_pos (show k = 2 from hki), e8]; rw [if_pos c_6]⟩ d_G_object_89
      | i + 3, h, _ => exact absurd h (by omega)
  · skip
    refine lv_iconst (v := (-1)) hx hb d_G_object_8 (by decide) ?_
    exact pw_iret hx hb hr hlocks hw ⟨⟨rfl, rfl⟩, (if_pos c_4).symm⟩ d_G_object_9
theorem ga_cmp {x y : Int64} : (lg_cmp x y = 0 ↔ x = y) ∧ (lg_cmp x y < 0 ↔ x < y) := by
  unfold lg_cmp
  by_cases h2 : x = y
  · subst h2
    have h5 : ¬ x < x := fun h => by have a := Int64.lt_iff_toInt_lt.mp h; omega
    simp [h5]
  · have h3 : ¬ x.toInt = y.toInt := fun h => h2 (Int64.toInt_inj.mp h)
    by_cases h4 : y < x
    · have h5 : ¬ x < y := fun h => by have a := Int64.lt_iff_toInt_lt.mp h; have b := Int64.lt_iff_toInt_lt.mp h4; omega
      simp only [h2, h4, h5, if_true, if_false]
      decide
    · have h5 : x < y := Int64.lt_iff_toInt_lt.mpr (by have b : ¬ y.toInt < x.toInt := fun h => h4 (Int64.lt_iff_toInt_lt.mpr h); omega)
      simp only [h2, h4, h5, if_true, if_false]
      decide
theorem ga_lix {v : Int64} {n : Nat} (hn : n < 2 ^ 31) (h1 : ¬ v < 0) (h2 : v < lN n) : ∃ j : Nat, j < n ∧ v = lN j := by
  obtain ⟨k, hk, rfl⟩ := pk_lOf h1
  exact ⟨k, (pk_lLT hk (by omega)).mp h2, rfl⟩
set_option maxHeartbeats 4000000 in
set_option maxRecDepth 100000 in
theorem k_G_mayBeHeld {l : Launch} {D : va_G} {ca : Nat → ClassId} {kS : Nat → Nat} {kT : Nat} {ad : pw_A} {C : pw_C} {cd : Nat → Option DT} {mk : Nat} {td : Nat → TT} (hG : gw_at ca kS kT ad C cd mk td) (v : Int64) (ty : Int32) : gc_Con l y_G_mayBeHeld c_G_mayBeHeld ({ frames := 0, cells := 0, slots := 0, locals := 0 }) D ca (z9_Z kS kT) [.ref (ad 0 0), .long v, .int ty] ad C (pw_pi (fun r ad' C' => (ad' = ad ∧ C' = C) ∧ r = ga_held mk td v ty)) 0 0 := by
  have hZ := z9_ok kS kT
  have hG0 := hG
  obtain ⟨g00, g10, g20, hmk, hDD, hTT, hKK⟩ := hG
  refine pw_ofW (cc := b_G_mayBeHeld) (maxL := 4) (ret := (some FieldType.boolean)) (by decide) rfl (Nat.le_of_ble_eq_true rfl) ?_
  intro p e s m args below meth c A ls hB hA hw hK hz hl
  obtain ⟨hx, hb, hr, hml, hts0, hlocks, hown, hnm⟩ := hB
  have hts := wd_hts hts0
  have hown : s.vm.findClass "GraphWriter" = some m.cls := hown
  have hl : lv_has ls 4 [(0, .ref (ad 0 0)), (1, .long v), (3, .int ty)] := hl
  have hz0 := hz
  obtain ⟨hz1, hz2, hz3, hk0, hk1, hk2, hk3, hk4, hk5, hk6, hk7, hao1, hao2, hnw⟩ := hz0
  refine lv_lload_n hx hb d_G_mayBeHeld_0 rfl (lv_at hl 1 rfl) ?_
  refine lv_ldc2 (v := (-1)) hx hb hown (hts _ wd_555) d_G_mayBeHeld_1 ?_
  refine W.lcmp hx hb d_G_mayBeHeld_4 ?_
  refine lv_if_ne (tgt := 10) hx hb d_G_mayBeHeld_5 (by decide) (fun c_1 => ?_) (fun c_1 => ?_)
  · skip
    refine lv_lload_n hx hb d_G_mayBeHeld_10 rfl (lv_at hl 1 rfl) ?_
    refine lv_lconst (v := 0) hx hb d_G_mayBeHeld_11 (by decide) ?_
    refine W.lcmp hx hb d_G_mayBeHeld_12 ?_
    refine lv_if_lt (tgt := 26) hx hb d_G_mayBeHeld_13 (by decide) (fun c_2 => ?_) (fun c_2 => ?_)
    · skip
      refine lv_iconst (v := 0) hx hb d_G_mayBeHeld_26 (by decide) ?_
      have e9 : ga_held mk td v ty = 0 := by unfold ga_held; rw [if_neg (fun q => c_1 (ga_cmp.1.mpr q)), if_pos (ga_cmp.2.mp c_2)]
      exact pw_zret hx hb hr hlocks hw rfl ⟨⟨rfl, rfl⟩, e9.symm⟩ d_G_mayBeHeld_27
    · skip
      refine lv_lload_n hx hb d_G_mayBeHeld_16 rfl (lv_at hl 1 rfl) ?_
      refine lv_aload_n hx hb d_G_mayBeHeld_17 rfl (lv_at hl 0 rfl) ?_
      refine pw_get (Cn := "GraphWriter") (T := F_G) (N := 4) hx hb hts in_G hown hK hw 0 0 rfl g00 rfl 3 (by decide) (hts _ wd_143) (fun _ h9 => h9) rfl d_G_mayBeHeld_18 ?_
      refine lv_i2l hx hb d_G_mayBeHeld_21 rfl ?_
      refine W.lcmp hx hb d_G_mayBeHeld_22 ?_
      refine lv_if_lt (tgt := 28) hx hb d_G_mayBeHeld_23 (by decide) (fun c_3 => ?_) (fun c_3 => ?_)
      · skip
        refine lv_iload_n hx hb d_G_mayBeHeld_28 rfl (lv_at hl 2 rfl) ?_
        refine lv_bipush (v := 7) hx hb d_G_mayBeHeld_29 (by decide) ?_
        refine lv_icmp_eq (tgt := 48) hx hb d_G_mayBeHeld_31 (by decide) (fun c_4 => ?_) (fun c_4 => ?_)
        · skip
          refine lv_iconst (v := 1) hx hb d_G_mayBeHeld_48 (by decide) ?_
          refine lv_goto (tgt := 53) hx hb d_G_mayBeHeld_49 (by decide) ?_
          have e9 : ga_held mk td v ty = 1 := by unfold ga_held; rw [if_neg (fun q => c_1 (ga_cmp.1.mpr q)), if_neg (fun q => c_2 (ga_cmp.2.mpr q)), if_neg (Int64.not_le.mpr (by have := ga_cmp.2.mp c_3; rwa [nI_l (by omega)] at this)), if_pos c_4]
          exact pw_zret hx hb hr hlocks hw rfl ⟨⟨rfl, rfl⟩, e9.symm⟩ d_G_mayBeHeld_53
        · skip
          refine lv_aload_n hx hb d_G_mayBeHeld_34 rfl (lv_at hl 0 rfl) ?_
          refine pw_get (Cn := "GraphWriter") (T := F_G) (N := 4) hx hb hts in_G hown hK hw 0 0 rfl g00 rfl 1 (by decide) (hts _ wd_141) (fun _ h9 => h9) rfl d_G_mayBeHeld_35 ?_
          refine lv_lload_n hx hb d_G_mayBeHeld_38 rfl (lv_at hl 1 rfl) ?_
          refine lv_l2i hx hb d_G_mayBeHeld_39 rfl ?_
          have hlt : v < lN mk := by have := ga_cmp.2.mp c_3; rwa [nI_l (by omega)] at this
          obtain ⟨j, hj, hvj⟩ := ga_lix (by omega) (fun q => c_2 (ga_cmp.2.mpr q)) hlt
          have e8 : v.toInt32 = nI j := by rw [hvj]; exact lN_i j
          have e7 : v.toInt32.toNatClampNeg = j := by rw [e8]; exact nI_clamp (by omega)
          obtain ⟨p20, p21, p22, pn, pt⟩ := hTT j hj
          refine pw_aald hx hb hK hw 2 0 rfl 5 g20 rfl j e8 (by omega) (by omega) d_G_mayBeHeld_40 ?_
          rw [gw_th hj]
          refine pw_get (Cn := "GraphWriter$Thing") (T := F_T) (N := 7) hx hb hts in_T hown hK hw 20 j rfl p20 rfl 0 (by decide) (hts _ wd_375) (fun _ h9 => h9) rfl d_G_mayBeHeld_41 ?_
          refine lv_iconst (v := 2) hx hb d_G_mayBeHeld_44 (by decide) ?_
          refine lv_icmp_ne (tgt := 52) hx hb d_G_mayBeHeld_45 (by decide) (fun c_5 => ?_) (fun c_5 => ?_)
          · skip
            refine lv_iconst (v := 0) hx hb d_G_mayBeHeld_52 (by decide) ?_
            have e9 : ga_held mk td v ty = 0 := by unfold ga_held; rw [if_neg (fun q => c_1 (ga_cmp.1.mpr q)), if_neg (fun q => c_2 (ga_cmp.2.mpr q)), if_neg (Int64.not_le.mpr (by have := ga_cmp.2.mp c_3; rwa [nI_l (by omega)] at this)), if_neg c_4, e7, if_neg c_5]
            exact pw_zret hx hb hr hlocks hw rfl ⟨⟨rfl, rfl⟩, e9.symm⟩ d_G_mayBeHeld_53
          · skip
            refine lv_iconst (v := 1) hx hb d_G_mayBeHeld_48 (by decide) ?_
            refine lv_goto (tgt := 53) hx hb d_G_mayBeHeld_49 (by decide) ?_
            have e9 : ga_held mk td v ty = 1 := by unfold ga_held; rw [if_neg (fun q => c_1 (ga_cmp.1.mpr q)), if_neg (fun q => c_2 (ga_cmp.2.mpr q)), if_neg (Int64.not_le.mpr (by have := ga_cmp.2.mp c_3; rwa [nI_l (by omega)] at this)), if_neg c_4, e7, if_pos c_5]
            exact pw_zret hx hb hr hlocks hw rfl ⟨⟨rfl, rfl⟩, e9.symm⟩ d_G_mayBeHeld_53
      · skip
        refine lv_iconst (v := 0) hx hb d_G_mayBeHeld_26 (by decide) ?_
        have e9 : ga_held mk td v ty = 0 := by unfold ga_held; rw [if_neg (fun q => c_1 (ga_cmp.1.mpr q)), if_neg (fun q => c_2 (ga_cmp.2.mpr q)), if_pos (Int64.not_lt.mp (fun q => c_3 (ga_cmp.2.mpr (by rw [nI_l (by omega)]; exact q))))]
        exact pw_zret hx hb hr hlocks hw rfl ⟨⟨rfl, rfl⟩, e9.symm⟩ d_G_mayBeHeld_27
  · skip
    refine lv_iconst (v := 1) hx hb d_G_mayBeHeld_8 (by decide) ?_
    exact pw_zret hx hb hr hlocks hw rfl ⟨⟨rfl, rfl⟩, (if_pos (ga_cmp.1.mp c_1)).symm⟩ d_G_mayBeHeld_9
/-- what a call that changes the graph alone leaves: the stream's cells, and kinds from 25 on -/
abbrev gg_fr (C C' : pw_C) : Prop := ∀ x y, ((2 < x ∧ x < 8) ∨ 24 < x) → C' x y = C x y
theorem os_gg {ca : Nat → ClassId} {ad : pw_A} {C C1 : pw_C} {x : ES} {w0 : List Int32} {wn : Nat} {sn : SN} (h : os_x ca ad C x w0 wn sn) (hf : gg_fr C C1) : os_x ca ad C1 x w0 wn sn := by
  obtain ⟨by0, wt, h30, h40, h50, h60, h70, h⟩ := h
  exact ⟨by0, wt, (hf 3 0 (by decide)).trans h30, (hf 4 0 (by decide)).trans h40, (hf 5 0 (by decide)).trans h50, (hf 6 0 (by decide)).trans h60, (hf 7 0 (by decide)).trans h70, h⟩
theorem st_at.of {ca : Nat → ClassId} {ad : pw_A} {C C1 : pw_C} {u v u2 v2 : Nat} {t : List Int32} (h : st_at ca ad C u v u2 v2 t) (h1 : C1 u v = C u v) (h2 : C1 u2 v2 = C u2 v2) : st_at ca ad C1 u v u2 v2 t := by
  obtain ⟨f, g1, g2, q0, q1, q2⟩ := h
  exact ⟨f, g1, g2, h1.trans q0, h2.trans q1, q2⟩
theorem gw_at.thing {ca : Nat → ClassId} {kS : Nat → Nat} {kT : Nat} {ad : pw_A} {C C1 : pw_C} {cd : Nat → Option DT} {mk : Nat} {td : Nat → TT} (h : gw_at ca kS kT ad C cd mk td) {j : Nat} {t : TT} (hf : ∀ x y, ¬ ((x = 20 ∨ x = 22) ∧ y = j) → C1 x y = C x y) (ht : tt_at ca kS ad C1 j t) : gw_at ca kS kT ad C1 cd mk (va_up td j t) := by
  obtain ⟨h0, h1, h2, h3, h4, h5, h6, h7, h8⟩ := h
  refine ⟨(hf 0 0 (by omega)).trans h0, (hf 1 0 (by omega)).trans h1, (hf 2 0 (by omega)).trans h2, h3, fun k d hk => ?_, fun i hi => ?_, fun i hi => ?_, (hf 52 0 (by omega)).trans h7, h8⟩
  · obtain ⟨q0, q1, q2, q3, q4, q5, q6⟩ := h4 k d hk
    exact ⟨q0, (hf 10 k (by omega)).trans q1, (hf 11 k (by omega)).trans q2, (hf 12 k (by omega)).trans q3, (hf 13 k (by omega)).trans q4, (hf 14 k (by omega)).trans q5, q6.of (hf 15 k (by omega)) (hf 16 k (by omega))⟩
  · by_cases hij : i = j
    · subst hij
      rw [va_up_self]
      exact ht
    · rw [va_up_ne _ _ hij]
      obtain ⟨q1, q2, q3, q4, q5⟩ := h5 i hi
      exact ⟨(hf 20 i (by omega)).trans q1, (hf 21 i (by omega)).trans q2, (hf 22 i (by omega)).trans q3, q4, fun z => (q5 z).of (hf 23 i (by omega)) (hf 24 i (by omega))⟩
  · exact ⟨(h6 i hi).1.of (hf 50 i (by omega)) (hf 51 i (by omega)), (h6 i hi).2⟩
def tt_srp (t : TT) (v : Int32) : TT := (tt_so t, tt_ow t, tt_n t, tt_ty t, tt_va t, tt_tx t, v, tt_ex t)
def tt_sex (t : TT) (v : Int32) : TT := (tt_so t, tt_ow t, tt_n t, tt_ty t, tt_va t, tt_tx t, tt_rp t, v)
def tt_sva (t : TT) (k : Nat) (v : Int64) : TT := (tt_so t, tt_ow t, tt_n t, tt_ty t, vp_updL (tt_va t) k v, tt_tx t, tt_rp t, tt_ex t)
def ga_replace (mk : Nat) (td : Nat → TT) (o p : Int32) : Int32 × (Nat → TT) := if ga_inst mk td o = 0 ∨ p = o then (-1, td) else if ¬ p = -1 ∧ ga_made mk p = 0 then (-1, td) else (0, va_up td o.toNatClampNeg (tt_srp (td o.toNatClampNeg) p))
def ga_extra (mk : Nat) (td : Nat → TT) (o v : Int32) : Int32 × (Nat → TT) := if ga_inst mk td o = 0 then (-1, td) else (0, va_up td o.toNatClampNeg (tt_sex (td o.toNatClampNeg) v))
def ga_set (mk : Nat) (td : Nat → TT) (o k : Int32) (v : Int64) : Int32 × (Nat → TT) := if ga_made mk o = 0 then (-1, td) else if k < 0 ∨ nI (tt_n (td o.toNatClampNeg)) ≤ k then (-1, td) else
  if ¬ tt_ty (td o.toNatClampNeg) k.toNatClampNeg < 6 ∧ ga_held mk td v (tt_ty (td o.toNatClampNeg) k.toNatClampNeg) = 0 then (-1, td) else (0, va_up td o.toNatClampNeg (tt_sva (td o.toNatClampNeg) k.toNatClampNeg v))
theorem ga_inst_1 {mk : Nat} {td : Nat → TT} {o : Int32} (hm : mk ≤ 12) (h : ¬ ga_inst mk td o = 0) : ∃ j : Nat, j < mk ∧ o = nI j := by
  unfold ga_inst at h
  split at h
  · exact absurd rfl h
  · rename_i h1
    exact ga_made_1 hm h1
set_option maxHeartbeats 4000000 in
set_option maxRecDepth 100000 in
theorem k_G_replace {l : Launch} {D : va_G} {ca : Nat → ClassId} {kS : Nat → Nat} {kT : Nat} {ad : pw_A} {C : pw_C} {cd : Nat → Option DT} {mk : Nat} {td : Nat → TT} (hG : gw_at ca kS kT ad C cd mk td) (o p9 : Int32) : gc_Con l y_G_replace c_G_replace ({ frames := 2, cells := 0, slots := 0, locals := 42 }) D ca (z9_Z kS kT) [.ref (ad 0 0), .int o, .int p9] ad C (pw_pi (fun r ad' C' => (ad' = ad ∧ gw_at ca kS kT ad C' cd mk (ga_replace mk td o p9).2 ∧ gg_fr C C') ∧ r = (ga_replace mk td o p9).1)) 0 0 := by
  have hZ := z9_ok kS kT
  have hG0 := hG
  obtain ⟨g00, g10, g20, hmk, hDD, hTT, hKK⟩ := hG
  refine pw_ofW (cc := b_G_replace) (maxL := 3) (ret := (some FieldType.int)) (by decide) rfl (Nat.le_of_ble_eq_true rfl) ?_
  intro p e s m args below meth c A ls hB hA hw hK hz hl
  obtain ⟨hx, hb, hr, hml, hts0, hlocks, hown, hnm⟩ := hB
  have hts := wd_hts hts0
  have hown : s.vm.findClass "GraphWriter" = some m.cls := hown
  have hl : lv_has ls 3 [(0, .ref (ad 0 0)), (1, .int o), (2, .int p9)] := hl
  have hz0 := hz
  obtain ⟨hz1, hz2, hz3, hk0, hk1, hk2, hk3, hk4, hk5, hk6, hk7, hao1, hao2, hnw⟩ := hz0
  refine lv_aload_n hx hb d_G_replace_0 rfl (lv_at hl 0 rfl) ?_
  refine lv_iload_n hx hb d_G_replace_1 rfl (lv_at hl 1 rfl) ?_
  refine pw_calli (va_runV (As := [.int o]) (rest := []) ⟨hx, hb, hml, hown, hts0⟩ (k_G_isInstance hG0 o _) (cwV 1 hts0 (wd_V wd_563 wd_560 wd_562 wd_9 wd_53) rfl rfl rfl (by decide +kernel) ⟨Nat.le_of_ble_eq_true rfl, Nat.le_of_ble_eq_true rfl⟩) (pw_preV hZ hw hA hK hz rfl g00 rfl) rfl rfl hl.1 rfl (lv_room (Nat.le_of_ble_eq_true rfl)) d_G_replace_2 ⟨Nat.le_of_ble_eq_true rfl, Nat.le_of_ble_eq_true rfl⟩) hw hA (fun r_3 ad_1 C_2 H locs hp hw => ?_)
  obtain ⟨⟨hae, hce⟩, hre⟩ := hp
  rw [hae, hce] at hw
  rw [hre]
  clear hae hce hre
  refine lv_if_eq (tgt := 13) hx hb d_G_replace_5 (by decide) (fun c_4 => ?_) (fun c_4 => ?_)
  · skip
    refine lv_iconst (v := (-1)) hx hb d_G_replace_13 (by decide) ?_
    have e9 : ga_replace mk td o p9 = (-1, td) := by unfold ga_replace; rw [if_pos (Or.inl c_4)]
    exact pw_iret hx hb hr hlocks hw ⟨⟨rfl, by rw [e9]; exact hG0, fun _ _ _ => rfl⟩, by rw [e9]⟩ d_G_replace_14
  · skip
    refine lv_iload_n hx hb d_G_replace_8 rfl (lv_at hl 2 rfl) ?_
    refine lv_iload_n hx hb d_G_replace_9 rfl (lv_at hl 1 rfl) ?_
    refine lv_icmp_ne (tgt := 15) hx hb d_G_replace_10 (by decide) (fun c_5 => ?_) (fun c_5 => ?_)
    · skip
      refine lv_iload_n hx hb d_G_replace_15 rfl (lv_at hl 2 rfl) ?_
      refine lv_iconst (v := (-1)) hx hb d_G_replace_16 (by decide) ?_
      refine lv_icmp_eq (tgt := 30) hx hb d_G_replace_17 (by decide) (fun c_6 => ?_) (fun c_6 => ?_)
      · skip
        refine lv_aload_n hx hb d_G_replace_30 rfl (lv_at hl 0 rfl) ?_
        refine pw_get (Cn := "GraphWriter") (T := F_G) (N := 4) hx hb hts in_G hown hK hw 0 0 rfl g00 rfl 1 (by decide) (hts _ wd_141) (fun _ h9 => h9) rfl d_G_replace_31 ?_
        refine lv_iload_n hx hb d_G_replace_34 rfl (lv_at hl 1 rfl) ?_
        obtain ⟨j, hj, hoj⟩ := ga_inst_1 hmk c_4
        have e8 : o.toNatClampNeg = j := by rw [hoj]; exact nI_clamp (by omega)
        have hf9 : ∀ x y, ¬ ((x = 20 ∨ x = 22) ∧ y = j) → C x y = C x y := fun _ _ _ => rfl
        have hfr := hf9
        obtain ⟨p20, p21, p22, pn, pt⟩ := hTT j hj
        refine pw_aald hx hb hK hw 2 0 rfl 5 g20 rfl j hoj (by omega) (by omega) d_G_replace_35 ?_
        rw [gw_th hj]
        refine lv_iload_n hx hb d_G_replace_36 rfl (lv_at hl 2 rfl) ?_
        refine pw_put (Cn := "GraphWriter$Thing") (T := F_T) (N := 7) (v := .int p9) (ty := .int) hx hb hts in_T ft_T to_T nm_T hown hK hw 20 j (by decide) rfl p20 rfl 5 (by decide) (hts _ wd_385) (fun _ h9 => h9) rfl (by decide +kernel) rfl rfl (Nat.le_of_ble_eq_true rfl) d_G_replace_37 (fun H locs hw => ?_)
        have hw : pw_H D cls9 A s.heap ad C ad (pw_up C 20 j (some (.inr (3, [.int (tt_so (td j)), .int (tt_ow (td j)), .ref (ad 21 j), .ref (ad 22 j), .ref (tt_ta kS ad j (td j)), .int p9, .int (tt_ex (td j))])))) H locs := hw
        generalize hC_7 : pw_up C 20 j (some (.inr (3, [.int (tt_so (td j)), .int (tt_ow (td j)), .ref (ad 21 j), .ref (ad 22 j), .ref (tt_ta kS ad j (td j)), .int p9, .int (tt_ex (td j))]))) = C_7 at hw
        have g00 : C_7 0 0 = some (.inr (0, [.ref (ad 1 0), .ref (ad 2 0), .ref (ad 3 0), .int (nI mk)])) := by rw [← hC_7]; exact (pw_up_ne _ _ (by omega)).trans g00
        have g10 : C_7 1 0 = some (.inl (ca 4, 6, .inr (.inr (.inr (.inr (gw_cf ad cd)))))) := by rw [← hC_7]; exact (pw_up_ne _ _ (by omega)).trans g10
        have g20 : C_7 2 0 = some (.inl (ca 5, 12, .inr (.inr (.inr (.inr (gw_tf ad mk)))))) := by rw [← hC_7]; exact (pw_up_ne _ _ (by omega)).trans g20
        have p21 : C_7 21 j = some (.inl (ca 0, tt_n (td j), .inl (tt_ty (td j)))) := by rw [← hC_7]; exact (pw_up_ne _ _ (by omega)).trans p21
        have p22 : C_7 22 j = some (.inl (ca 1, tt_n (td j), .inr (.inl (tt_va (td j))))) := by rw [← hC_7]; exact (pw_up_ne _ _ (by omega)).trans p22
        have p20 : C_7 20 j = some (.inr (3, [.int (tt_so (td j)), .int (tt_ow (td j)), .ref (ad 21 j), .ref (ad 22 j), .ref (tt_ta kS ad j (td j)), .int p9, .int (tt_ex (td j))])) := by rw [← hC_7]; exact pw_up_self _ _ _ _
        have hfr : ∀ x y, ¬ ((x = 20 ∨ x = 22) ∧ y = j) → C_7 x y = C x y := fun x y h => by rw [← hC_7]; exact (pw_up_ne _ _ (by omega)).trans (hfr x y h)
        refine lv_iconst (v := 0) hx hb d_G_replace_40 (by decide) ?_
        have e9 : ga_replace mk td o p9 = (0, va_up td j (tt_srp (td j) p9)) := by unfold ga_replace; rw [if_neg (by rintro (z | z); exact c_4 z; exact c_5 z), if_neg (fun z => z.1 c_6), e8]
        refine pw_iret hx hb hr hlocks hw ⟨⟨rfl, ?_, fun x y h => hfr x y (by omega)⟩, by rw [e9]⟩ d_G_replace_41
        rw [e9]; exact hG0.thing hfr ⟨p20, p21, p22, pn, fun z => (pt z).of (hfr 23 j (by omega)) (hfr 24 j (by omega))⟩
      · skip
        refine lv_aload_n hx hb d_G_replace_20 rfl (lv_at hl 0 rfl) ?_
        refine lv_iload_n hx hb d_G_replace_21 rfl (lv_at hl 2 rfl) ?_
        refine pw_calli (va_runV (As := [.int p9]) (rest := []) ⟨hx, hb, hml, hown, hts0⟩ (k_G_isMade hG0 p9 _) (cwV 1 hts0 (wd_V wd_550 wd_547 wd_549 wd_7 wd_53) rfl rfl rfl (by decide +kernel) ⟨Nat.le_of_ble_eq_true rfl, Nat.le_of_ble_eq_true rfl⟩) (pw_preV hZ hw hA hK hz rfl g00 rfl) rfl rfl hl.1 rfl (lv_room (Nat.le_of_ble_eq_true rfl)) d_G_replace_22 ⟨Nat.le_of_ble_eq_true rfl, Nat.le_of_ble_eq_true rfl⟩) hw hA (fun r_10 ad_8 C_9 H locs hp hw => ?_)
        obtain ⟨⟨hae, hce⟩, hre⟩ := hp
        rw [hae, hce] at hw
        rw [hre]
        clear hae hce hre
        refine lv_if_ne (tgt := 30) hx hb d_G_replace_25 (by decide) (fun c_11 => ?_) (fun c_11 => ?_)
        · skip
          refine lv_aload_n hx hb d_G_replace_30 rfl (lv_at hl 0 rfl) ?_
          refine pw_get (Cn := "GraphWriter") (T := F_G) (N := 4) hx hb hts in_G hown hK hw 0 0 rfl g00 rfl 1 (by decide) (hts _ wd_141) (fun _ h9 => h9) rfl d_G_replace_31 ?_
          refine lv_iload_n hx hb d_G_replace_34 rfl (lv_at hl 1 rfl) ?_
          obtain ⟨j, hj, hoj⟩ := ga_inst_1 hmk c_4
          have e8 : o.toNatClampNeg = j := by rw [hoj]; exact nI_clamp (by omega)
          have hf9 : ∀ x y, ¬ ((x = 20 ∨ x = 22) ∧ y = j) → C x y = C x y := fun _ _ _ => rfl
          have hfr := hf9
          obtain ⟨p20, p21, p22, pn, pt⟩ := hTT j hj
          refine pw_aald hx hb hK hw 2 0 rfl 5 g20 rfl j hoj (by omega) (by omega) d_G_replace_35 ?_
          rw [gw_th hj]
          refine lv_iload_n hx hb d_G_replace_36 rfl (lv_at hl 2 rfl) ?_
          refine pw_put (Cn := "GraphWriter$Thing") (T := F_T) (N := 7) (v := .int p9) (ty := .int) hx hb hts in_T ft_T to_T nm_T hown hK hw 20 j (by decide) rfl p20 rfl 5 (by decide) (hts _ wd_385) (fun _ h9 => h9) rfl (by decide +kernel) rfl rfl (Nat.le_of_ble_eq_true rfl) d_G_replace_37 (fun H locs hw => ?_)
          have hw : pw_H D cls9 A s.heap ad C ad (pw_up C 20 j (some (.inr (3, [.int (tt_so (td j)), .int (tt_ow (td j)), .ref (ad 21 j), .ref (ad 22 j), .ref (tt_ta kS ad j (td j)), .int p9, .int (tt_ex (td j))])))) H locs := hw
          generalize hC_12 : pw_up C 20 j (some (.inr (3, [.int (tt_so (td j)), .int (tt_ow (td j)), .ref (ad 21 j), .ref (ad 22 j), .ref (tt_ta kS ad j (td j)), .int p9, .int (tt_ex (td j))]))) = C_12 at hw
          have g00 : C_12 0 0 = some (.inr (0, [.ref (ad 1 0), .ref (ad 2 0), .ref (ad 3 0), .int (nI mk)])) := by rw [← hC_12]; exact (pw_up_ne _ _ (by omega)).trans g00
          have g10 : C_12 1 0 = some (.inl (ca 4, 6, .inr (.inr (.inr (.inr (gw_cf ad cd)))))) := by rw [← hC_12]; exact (pw_up_ne _ _ (by omega)).trans g10
          have g20 : C_12 2 0 = some (.inl (ca 5, 12, .inr (.inr (.inr (.inr (gw_tf ad mk)))))) := by rw [← hC_12]; exact (pw_up_ne _ _ (by omega)).trans g20
          have p21 : C_12 21 j = some (.inl (ca 0, tt_n (td j), .inl (tt_ty (td j)))) := by rw [← hC_12]; exact (pw_up_ne _ _ (by omega)).trans p21
          have p22 : C_12 22 j = some (.inl (ca 1, tt_n (td j), .inr (.inl (tt_va (td j))))) := by rw [← hC_12]; exact (pw_up_ne _ _ (by omega)).trans p22
          have p20 : C_12 20 j = some (.inr (3, [.int (tt_so (td j)), .int (tt_ow (td j)), .ref (ad 21 j), .ref (ad 22 j), .ref (tt_ta kS ad j (td j)), .int p9, .int (tt_ex (td j))])) := by rw [← hC_12]; exact pw_up_self _ _ _ _
          have hfr : ∀ x y, ¬ ((x = 20 ∨ x = 22) ∧ y = j) → C_12 x y = C x y := fun x y h => by rw [← hC_12]; exact (pw_up_ne _ _ (by omega)).trans (hfr x y h)
          refine lv_iconst (v := 0) hx hb d_G_replace_40 (by decide) ?_
          have e9 : ga_replace mk td o p9 = (0, va_up td j (tt_srp (td j) p9)) := by unfold ga_replace; rw [if_neg (by rintro (z | z); exact c_4 z; exact c_5 z), if_neg (fun z => c_11 z.2), e8]
          refine pw_iret hx hb hr hlocks hw ⟨⟨rfl, ?_, fun x y h => hfr x y (by omega)⟩, by rw [e9]⟩ d_G_replace_41
          rw [e9]; exact hG0.thing hfr ⟨p20, p21, p22, pn, fun z => (pt z).of (hfr 23 j (by omega)) (hfr 24 j (by omega))⟩
        · skip
          refine lv_iconst (v := (-1)) hx hb d_G_replace_28 (by decide) ?_
          have e9 : ga_replace mk td o p9 = (-1, td) := by unfold ga_replace; rw [if_neg (by rintro (z | z); exact c_4 z; exact c_5 z), if_pos ⟨c_6, c_11⟩]
          exact pw_iret hx hb hr hlocks hw ⟨⟨rfl, by rw [e9]; exact hG0, fun _ _ _ => rfl⟩, by rw [e9]⟩ d_G_replace_29
    · skip
      refine lv_iconst (v := (-1)) hx hb d_G_replace_13 (by decide) ?_
      have e9 : ga_replace mk td o p9 = (-1, td) := by unfold ga_replace; rw [if_pos (Or.inr c_5)]
      exact pw_iret hx hb hr hlocks hw ⟨⟨rfl, by rw [e9]; exact hG0, fun _ _ _ => rfl⟩, by rw [e9]⟩ d_G_replace_14
set_option maxHeartbeats 4000000 in
set_option maxRecDepth 100000 in
theorem k_G_extra {l : Launch} {D : va_G} {ca : Nat → ClassId} {kS : Nat → Nat} {kT : Nat} {ad : pw_A} {C : pw_C} {cd : Nat → Option DT} {mk : Nat} {td : Nat → TT} (hG : gw_at ca kS kT ad C cd mk td) (o v : Int32) : gc_Con l y_G_extra c_G_extra ({ frames := 2, cells := 0, slots := 0, locals := 42 }) D ca (z9_Z kS kT) [.ref (ad 0 0), .int o, .int v] ad C (pw_pi (fun r ad' C' => (ad' = ad ∧ gw_at ca kS kT ad C' cd mk (ga_extra mk td o v).2 ∧ gg_fr C C') ∧ r = (ga_extra mk td o v).1)) 0 0 := by
  have hZ := z9_ok kS kT
  have hG0 := hG
  obtain ⟨g00, g10, g20, hmk, hDD, hTT, hKK⟩ := hG
  refine pw_ofW (cc := b_G_extra) (maxL := 3) (ret := (some FieldType.int)) (by decide) rfl (Nat.le_of_ble_eq_true rfl) ?_
  intro p e s m args below meth c A ls hB hA hw hK hz hl
  obtain ⟨hx, hb, hr, hml, hts0, hlocks, hown, hnm⟩ := hB
  have hts := wd_hts hts0
  have hown : s.vm.findClass "GraphWriter" = some m.cls := hown
  have hl : lv_has ls 3 [(0, .ref (ad 0 0)), (1, .int o), (2, .int v)] := hl
  have hz0 := hz
  obtain ⟨hz1, hz2, hz3, hk0, hk1, hk2, hk3, hk4, hk5, hk6, hk7, hao1, hao2, hnw⟩ := hz0
  refine lv_aload_n hx hb d_G_extra_0 rfl (lv_at hl 0 rfl) ?_
  refine lv_iload_n hx hb d_G_extra_1 rfl (lv_at hl 1 rfl) ?_
  refine pw_calli (va_runV (As := [.int o]) (rest := []) ⟨hx, hb, hml, hown, hts0⟩ (k_G_isInstance hG0 o _) (cwV 1 hts0 (wd_V wd_563 wd_560 wd_562 wd_9 wd_53) rfl rfl rfl (by decide +kernel) ⟨Nat.le_of_ble_eq_true rfl, Nat.le_of_ble_eq_true rfl⟩) (pw_preV hZ hw hA hK hz rfl g00 rfl) rfl rfl hl.1 rfl (lv_room (Nat.le_of_ble_eq_true rfl)) d_G_extra_2 ⟨Nat.le_of_ble_eq_true rfl, Nat.le_of_ble_eq_true rfl⟩) hw hA (fun r_3 ad_1 C_2 H locs hp hw => ?_)
  obtain ⟨⟨hae, hce⟩, hre⟩ := hp
  rw [hae, hce] at hw
  rw [hre]
  clear hae hce hre
  refine lv_if_ne (tgt := 10) hx hb d_G_extra_5 (by decide) (fun c_4 => ?_) (fun c_4 => ?_)
  · skip
    refine lv_aload_n hx hb d_G_extra_10 rfl (lv_at hl 0 rfl) ?_
    refine pw_get (Cn := "GraphWriter") (T := F_G) (N := 4) hx hb hts in_G hown hK hw 0 0 rfl g00 rfl 1 (by decide) (hts _ wd_141) (fun _ h9 => h9) rfl d_G_extra_11 ?_
    refine lv_iload_n hx hb d_G_extra_14 rfl (lv_at hl 1 rfl) ?_
    obtain ⟨j, hj, hoj⟩ := ga_inst_1 hmk c_4
    have e8 : o.toNatClampNeg = j := by rw [hoj]; exact nI_clamp (by omega)
    have hf9 : ∀ x y, ¬ ((x = 20 ∨ x = 22) ∧ y = j) → C x y = C x y := fun _ _ _ => rfl
    have hfr := hf9
    obtain ⟨p20, p21, p22, pn, pt⟩ := hTT j hj
    refine pw_aald hx hb hK hw 2 0 rfl 5 g20 rfl j hoj (by omega) (by omega) d_G_extra_15 ?_
    rw [gw_th hj]
    refine lv_iload_n hx hb d_G_extra_16 rfl (lv_at hl 2 rfl) ?_
    refine pw_put (Cn := "GraphWriter$Thing") (T := F_T) (N := 7) (v := .int v) (ty := .int) hx hb hts in_T ft_T to_T nm_T hown hK hw 20 j (by decide) rfl p20 rfl 6 (by decide) (hts _ wd_386) (fun _ h9 => h9) rfl (by decide +kernel) rfl rfl (Nat.le_of_ble_eq_true rfl) d_G_extra_17 (fun H locs hw => ?_)
    have hw : pw_H D cls9 A s.heap ad C ad (pw_up C 20 j (some (.inr (3, [.int (tt_so (td j)), .int (tt_ow (td j)), .ref (ad 21 j), .ref (ad 22 j), .ref (tt_ta kS ad j (td j)), .int (tt_rp (td j)), .int v])))) H locs := hw
    generalize hC_5 : pw_up C 20 j (some (.inr (3, [.int (tt_so (td j)), .int (tt_ow (td j)), .ref (ad 21 j), .ref (ad 22 j), .ref (tt_ta kS ad j (td j)), .int (tt_rp (td j)), .int v]))) = C_5 at hw
    have g00 : C_5 0 0 = some (.inr (0, [.ref (ad 1 0), .ref (ad 2 0), .ref (ad 3 0), .int (nI mk)])) := by rw [← hC_5]; exact (pw_up_ne _ _ (by omega)).trans g00
    have g10 : C_5 1 0 = some (.inl (ca 4, 6, .inr (.inr (.inr (.inr (gw_cf ad cd)))))) := by rw [← hC_5]; exact (pw_up_ne _ _ (by omega)).trans g10
    have g20 : C_5 2 0 = some (.inl (ca 5, 12, .inr (.inr (.inr (.inr (gw_tf ad mk)))))) := by rw [← hC_5]; exact (pw_up_ne _ _ (by omega)).trans g20
    have p21 : C_5 21 j = some (.inl (ca 0, tt_n (td j), .inl (tt_ty (td j)))) := by rw [← hC_5]; exact (pw_up_ne _ _ (by omega)).trans p21
    have p22 : C_5 22 j = some (.inl (ca 1, tt_n (td j), .inr (.inl (tt_va (td j))))) := by rw [← hC_5]; exact (pw_up_ne _ _ (by omega)).trans p22
    have p20 : C_5 20 j = some (.inr (3, [.int (tt_so (td j)), .int (tt_ow (td j)), .ref (ad 21 j), .ref (ad 22 j), .ref (tt_ta kS ad j (td j)), .int (tt_rp (td j)), .int v])) := by rw [← hC_5]; exact pw_up_self _ _ _ _
    have hfr : ∀ x y, ¬ ((x = 20 ∨ x = 22) ∧ y = j) → C_5 x y = C x y := fun x y h => by rw [← hC_5]; exact (pw_up_ne _ _ (by omega)).trans (hfr x y h)
    refine lv_iconst (v := 0) hx hb d_G_extra_20 (by decide) ?_
    have e9 : ga_extra mk td o v = (0, va_up td j (tt_sex (td j) v)) := by unfold ga_extra; rw [if_neg c_4, e8]
    refine pw_iret hx hb hr hlocks hw ⟨⟨rfl, ?_, fun x y h => hfr x y (by omega)⟩, by rw [e9]⟩ d_G_extra_21
    rw [e9]; exact hG0.thing hfr ⟨p20, p21, p22, pn, fun z => (pt z).of (hfr 23 j (by omega)) (hfr 24 j (by omega))⟩
  · skip
    refine lv_iconst (v := (-1)) hx hb d_G_extra_8 (by decide) ?_
    have e9 : ga_extra mk td o v = (-1, td) := by exact if_pos c_4
    exact pw_iret hx hb hr hlocks hw ⟨⟨rfl, by rw [e9]; exact hG0, fun _ _ _ => rfl⟩, by rw [e9]⟩ d_G_extra_9
set_option maxHeartbeats 4000000 in
set_option maxRecDepth 100000 in
theorem k_G_set {l : Launch} {D : va_G} {ca : Nat → ClassId} {kS : Nat → Nat} {kT : Nat} {ad : pw_A} {C : pw_C} {cd : Nat → Option DT} {mk : Nat} {td : Nat → TT} (hG : gw_at ca kS kT ad C cd mk td) (o k : Int32) (v : Int64) : gc_Con l y_G_set c_G_set ({ frames := 1, cells := 0, slots := 0, locals := 23 }) D ca (z9_Z kS kT) [.ref (ad 0 0), .int o, .int k, .long v] ad C (pw_pi (fun r ad' C' => (ad' = ad ∧ gw_at ca kS kT ad C' cd mk (ga_set mk td o k v).2 ∧ gg_fr C C') ∧ r = (ga_set mk td o k v).1)) 0 0 := by
  have hZ := z9_ok kS kT
  have hG0 := hG
  obtain ⟨g00, g10, g20, hmk, hDD, hTT, hKK⟩ := hG
  refine pw_ofW (cc := b_G_set) (maxL := 6) (ret := (some FieldType.int)) (by decide) rfl (Nat.le_of_ble_eq_true rfl) ?_
  intro p e s m args below meth c A ls hB hA hw hK hz hl
  obtain ⟨hx, hb, hr, hml, hts0, hlocks, hown, hnm⟩ := hB
  have hts := wd_hts hts0
  have hown : s.vm.findClass "GraphWriter" = some m.cls := hown
  have hl : lv_has ls 6 [(0, .ref (ad 0 0)), (1, .int o), (2, .int k), (3, .long v)] := hl
  have hz0 := hz
  obtain ⟨hz1, hz2, hz3, hk0, hk1, hk2, hk3, hk4, hk5, hk6, hk7, hao1, hao2, hnw⟩ := hz0
  refine lv_aload_n hx hb d_G_set_0 rfl (lv_at hl 0 rfl) ?_
  refine lv_iload_n hx hb d_G_set_1 rfl (lv_at hl 1 rfl) ?_
  refine pw_calli (va_runV (As := [.int o]) (rest := []) ⟨hx, hb, hml, hown, hts0⟩ (k_G_isMade hG0 o _) (cwV 1 hts0 (wd_V wd_550 wd_547 wd_549 wd_7 wd_53) rfl rfl rfl (by decide +kernel) ⟨Nat.le_of_ble_eq_true rfl, Nat.le_of_ble_eq_true rfl⟩) (pw_preV hZ hw hA hK hz rfl g00 rfl) rfl rfl hl.1 rfl (lv_room (Nat.le_of_ble_eq_true rfl)) d_G_set_2 ⟨Nat.le_of_ble_eq_true rfl, Nat.le_of_ble_eq_true rfl⟩) hw hA (fun r_3 ad_1 C_2 H locs hp hw => ?_)
  obtain ⟨⟨hae, hce⟩, hre⟩ := hp
  rw [hae, hce] at hw
  rw [hre]
  clear hae hce hre
  refine lv_if_ne (tgt := 10) hx hb d_G_set_5 (by decide) (fun c_4 => ?_) (fun c_4 => ?_)
  · skip
    refine lv_aload_n hx hb d_G_set_10 rfl (lv_at hl 0 rfl) ?_
    refine pw_get (Cn := "GraphWriter") (T := F_G) (N := 4) hx hb hts in_G hown hK hw 0 0 rfl g00 rfl 1 (by decide) (hts _ wd_141) (fun _ h9 => h9) rfl d_G_set_11 ?_
    refine lv_iload_n hx hb d_G_set_14 rfl (lv_at hl 1 rfl) ?_
    obtain ⟨j, hj, hoj⟩ := ga_made_1 hmk c_4
    have e8 : o.toNatClampNeg = j := by rw [hoj]; exact nI_clamp (by omega)
    have hf9 : ∀ x y, ¬ ((x = 20 ∨ x = 22) ∧ y = j) → C x y = C x y := fun _ _ _ => rfl
    have hfr := hf9
    obtain ⟨p20, p21, p22, pn, pt⟩ := hTT j hj
    refine pw_aald hx hb hK hw 2 0 rfl 5 g20 rfl j hoj (by omega) (by omega) d_G_set_15 ?_
    rw [gw_th hj]
    refine lv_astore (lv' := [(5, .ref (ad 20 j)), (0, .ref (ad 0 0)), (1, .int o), (2, .int k), (3, .long v)]) hx hb d_G_set_16 hl (by decide) rfl (fun ls hl => ?_)
    refine lv_iload_n hx hb d_G_set_18 rfl (lv_at hl 3 rfl) ?_
    refine lv_if_lt (tgt := 32) hx hb d_G_set_19 (by decide) (fun c_5 => ?_) (fun c_5 => ?_)
    · skip
      refine lv_iconst (v := (-1)) hx hb d_G_set_32 (by decide) ?_
      have e9 : ga_set mk td o k v = (-1, td) := by unfold ga_set; rw [if_neg c_4, e8, if_pos (Or.inl c_5)]
      exact pw_iret hx hb hr hlocks hw ⟨⟨rfl, by rw [e9]; exact hG0, fun _ _ _ => rfl⟩, by rw [e9]⟩ d_G_set_33
    · skip
      refine lv_iload_n hx hb d_G_set_22 rfl (lv_at hl 3 rfl) ?_
      refine lv_aload hx hb d_G_set_23 (lv_at hl 0 rfl) ?_
      refine pw_get (Cn := "GraphWriter$Thing") (T := F_T) (N := 7) hx hb hts in_T hown hK hw 20 j rfl p20 rfl 2 (by decide) (hts _ wd_379) (fun _ h9 => h9) rfl d_G_set_25 ?_
      refine pw_alen hx hb hK hw 21 j rfl 0 p21 rfl d_G_set_28 ?_
      refine lv_icmp_lt (tgt := 34) hx hb d_G_set_29 (by decide) (fun c_6 => ?_) (fun c_6 => ?_)
      · skip
        refine lv_aload hx hb d_G_set_34 (lv_at hl 0 rfl) ?_
        refine pw_get (Cn := "GraphWriter$Thing") (T := F_T) (N := 7) hx hb hts in_T hown hK hw 20 j rfl p20 rfl 2 (by decide) (hts _ wd_379) (fun _ h9 => h9) rfl d_G_set_36 ?_
        refine lv_iload_n hx hb d_G_set_39 rfl (lv_at hl 3 rfl) ?_
        obtain ⟨i, hi, hki⟩ := ga_ix (n := tt_n (td j)) (by omega) c_5 (Int32.not_le.mpr c_6)
        have e7 : k.toNatClampNeg = i := by rw [hki]; exact nI_clamp (by omega)
        refine pw_iald hx hb hK hw 21 j rfl 0 p21 rfl i hki (by omega) (by omega) d_G_set_40 ?_
        refine lv_bipush (v := 6) hx hb d_G_set_41 (by decide) ?_
        refine lv_icmp_lt (tgt := 63) hx hb d_G_set_43 (by decide) (fun c_7 => ?_) (fun c_7 => ?_)
        · skip
          refine lv_aload hx hb d_G_set_63 (lv_at hl 0 rfl) ?_
          refine pw_get (Cn := "GraphWriter$Thing") (T := F_T) (N := 7) hx hb hts in_T hown hK hw 20 j rfl p20 rfl 3 (by decide) (hts _ wd_381) (fun _ h9 => h9) rfl d_G_set_65 ?_
          refine lv_iload_n hx hb d_G_set_68 rfl (lv_at hl 3 rfl) ?_
          refine lv_lload_n hx hb d_G_set_69 rfl (lv_at hl 4 rfl) ?_
          refine pw_last hx hb hK hw 22 j rfl 1 p22 rfl (by decide) i hki (by omega) (by omega) d_G_set_70 (fun H locs hw => ?_)
          have hw : pw_H D cls9 A s.heap ad C ad (pw_up C 22 j (some (.inl (ca 1, tt_n (td j), .inr (.inl (vp_updL (tt_va (td j)) i v)))))) H locs := hw
          generalize hC_8 : pw_up C 22 j (some (.inl (ca 1, tt_n (td j), .inr (.inl (vp_updL (tt_va (td j)) i v))))) = C_8 at hw
          have g00 : C_8 0 0 = some (.inr (0, [.ref (ad 1 0), .ref (ad 2 0), .ref (ad 3 0), .int (nI mk)])) := by rw [← hC_8]; exact (pw_up_ne _ _ (by omega)).trans g00
          have g10 : C_8 1 0 = some (.inl (ca 4, 6, .inr (.inr (.inr (.inr (gw_cf ad cd)))))) := by rw [← hC_8]; exact (pw_up_ne _ _ (by omega)).trans g10
          have g20 : C_8 2 0 = some (.inl (ca 5, 12, .inr (.inr (.inr (.inr (gw_tf ad mk)))))) := by rw [← hC_8]; exact (pw_up_ne _ _ (by omega)).trans g20
          have p20 : C_8 20 j = some (.inr (3, [.int (tt_so (td j)), .int (tt_ow (td j)), .ref (ad 21 j), .ref (ad 22 j), .ref (tt_ta kS ad j (td j)), .int (tt_rp (td j)), .int (tt_ex (td j))])) := by rw [← hC_8]; exact (pw_up_ne _ _ (by omega)).trans p20
          have p21 : C_8 21 j = some (.inl (ca 0, tt_n (td j), .inl (tt_ty (td j)))) := by rw [← hC_8]; exact (pw_up_ne _ _ (by omega)).trans p21
          have p22 : C_8 22 j = some (.inl (ca 1, tt_n (td j), .inr (.inl (vp_updL (tt_va (td j)) i v)))) := by rw [← hC_8]; exact pw_up_self _ _ _ _
          have hfr : ∀ x y, ¬ ((x = 20 ∨ x = 22) ∧ y = j) → C_8 x y = C x y := fun x y h => by rw [← hC_8]; exact (pw_up_ne _ _ (by omega)).trans (hfr x y h)
          refine lv_iconst (v := 0) hx hb d_G_set_71 (by decide) ?_
          have e9 : ga_set mk td o k v = (0, va_up td j (tt_sva (td j) i v)) := by unfold ga_set; rw [if_neg c_4, e8, if_neg (by rintro (z | z); exact c_5 z; exact absurd c_6 (Int32.not_lt.mpr z)), e7, if_neg (fun z => z.1 c_7)]
          refine pw_iret hx hb hr hlocks hw ⟨⟨rfl, ?_, fun x y h => hfr x y (by omega)⟩, by rw [e9]⟩ d_G_set_72
          rw [e9]; exact hG0.thing hfr ⟨p20, p21, p22, pn, fun z => (pt z).of (hfr 23 j (by omega)) (hfr 24 j (by omega))⟩
        · skip
          refine lv_aload_n hx hb d_G_set_46 rfl (lv_at hl 1 rfl) ?_
          refine lv_lload_n hx hb d_G_set_47 rfl (lv_at hl 4 rfl) ?_
          refine lv_aload hx hb d_G_set_48 (lv_at hl 0 rfl) ?_
          refine pw_get (Cn := "GraphWriter$Thing") (T := F_T) (N := 7) hx hb hts in_T hown hK hw 20 j rfl p20 rfl 2 (by decide) (hts _ wd_379) (fun _ h9 => h9) rfl d_G_set_50 ?_
          refine lv_iload_n hx hb d_G_set_53 rfl (lv_at hl 3 rfl) ?_
          refine pw_iald hx hb hK hw 21 j rfl 0 p21 rfl i hki (by omega) (by omega) d_G_set_54 ?_
          refine pw_calli (va_runV (As := [.long v, .int (tt_ty (td j) i)]) (rest := []) ⟨hx, hb, hml, hown, hts0⟩ (k_G_mayBeHeld hG0 v (tt_ty (td j) i) _) (cwV 2 hts0 (wd_V wd_554 wd_551 wd_553 wd_8 wd_53) rfl rfl rfl (by decide +kernel) ⟨Nat.le_of_ble_eq_true rfl, Nat.le_of_ble_eq_true rfl⟩) (pw_preV hZ hw hA hK hz rfl g00 rfl) rfl rfl hl.1 rfl (lv_room (Nat.le_of_ble_eq_true rfl)) d_G_set_55 ⟨Nat.le_of_ble_eq_true rfl, Nat.le_of_ble_eq_true rfl⟩) hw hA (fun r_11 ad_9 C_10 H locs hp hw => ?_)
          obtain ⟨⟨hae, hce⟩, hre⟩ := hp
          rw [hae, hce] at hw
          rw [hre]
          clear hae hce hre
          refine lv_if_ne (tgt := 63) hx hb d_G_set_58 (by decide) (fun c_12 => ?_) (fun c_12 => ?_)
          · skip
            refine lv_aload hx hb d_G_set_63 (lv_at hl 0 rfl) ?_
            refine pw_get (Cn := "GraphWriter$Thing") (T := F_T) (N := 7) hx hb hts in_T hown hK hw 20 j rfl p20 rfl 3 (by decide) (hts _ wd_381) (fun _ h9 => h9) rfl d_G_set_65 ?_
            refine lv_iload_n hx hb d_G_set_68 rfl (lv_at hl 3 rfl) ?_
            refine lv_lload_n hx hb d_G_set_69 rfl (lv_at hl 4 rfl) ?_
            refine pw_last hx hb hK hw 22 j rfl 1 p22 rfl (by decide) i hki (by omega) (by omega) d_G_set_70 (fun H locs hw => ?_)
            have hw : pw_H D cls9 A s.heap ad C ad (pw_up C 22 j (some (.inl (ca 1, tt_n (td j), .inr (.inl (vp_updL (tt_va (td j)) i v)))))) H locs := hw
            generalize hC_13 : pw_up C 22 j (some (.inl (ca 1, tt_n (td j), .inr (.inl (vp_updL (tt_va (td j)) i v))))) = C_13 at hw
            have g00 : C_13 0 0 = some (.inr (0, [.ref (ad 1 0), .ref (ad 2 0), .ref (ad 3 0), .int (nI mk)])) := by rw [← hC_13]; exact (pw_up_ne _ _ (by omega)).trans g00
            have g10 : C_13 1 0 = some (.inl (ca 4, 6, .inr (.inr (.inr (.inr (gw_cf ad cd)))))) := by rw [← hC_13]; exact (pw_up_ne _ _ (by omega)).trans g10
            have g20 : C_13 2 0 = some (.inl (ca 5, 12, .inr (.inr (.inr (.inr (gw_tf ad mk)))))) := by rw [← hC_13]; exact (pw_up_ne _ _ (by omega)).trans g20
            have p20 : C_13 20 j = some (.inr (3, [.int (tt_so (td j)), .int (tt_ow (td j)), .ref (ad 21 j), .ref (ad 22 j), .ref (tt_ta kS ad j (td j)), .int (tt_rp (td j)), .int (tt_ex (td j))])) := by rw [← hC_13]; exact (pw_up_ne _ _ (by omega)).trans p20
            have p21 : C_13 21 j = some (.inl (ca 0, tt_n (td j), .inl (tt_ty (td j)))) := by rw [← hC_13]; exact (pw_up_ne _ _ (by omega)).trans p21
            have p22 : C_13 22 j = some (.inl (ca 1, tt_n (td j), .inr (.inl (vp_updL (tt_va (td j)) i v)))) := by rw [← hC_13]; exact pw_up_self _ _ _ _
            have hfr : ∀ x y, ¬ ((x = 20 ∨ x = 22) ∧ y = j) → C_13 x y = C x y := fun x y h => by rw [← hC_13]; exact (pw_up_ne _ _ (by omega)).trans (hfr x y h)
            refine lv_iconst (v := 0) hx hb d_G_set_71 (by decide) ?_
            have e9 : ga_set mk td o k v = (0, va_up td j (tt_sva (td j) i v)) := by unfold ga_set; rw [if_neg c_4, e8, if_neg (by rintro (z | z); exact c_5 z; exact absurd c_6 (Int32.not_lt.mpr z)), e7, if_neg (fun z => c_12 z.2)]
            refine pw_iret hx hb hr hlocks hw ⟨⟨rfl, ?_, fun x y h => hfr x y (by omega)⟩, by rw [e9]⟩ d_G_set_72
            rw [e9]; exact hG0.thing hfr ⟨p20, p21, p22, pn, fun z => (pt z).of (hfr 23 j (by omega)) (hfr 24 j (by omega))⟩
          · skip
            refine lv_iconst (v := (-1)) hx hb d_G_set_61 (by decide) ?_
            have e9 : ga_set mk td o k v = (-1, td) := by unfold ga_set; rw [if_neg c_4, e8, if_neg (by rintro (z | z); exact c_5 z; exact absurd c_6 (Int32.not_lt.mpr z)), e7, if_pos ⟨c_7, c_12⟩]
            exact pw_iret hx hb hr hlocks hw ⟨⟨rfl, by rw [e9]; exact hG0, fun _ _ _ => rfl⟩, by rw [e9]⟩ d_G_set_62
      · skip
        refine lv_iconst (v := (-1)) hx hb d_G_set_32 (by decide) ?_
        have e9 : ga_set mk td o k v = (-1, td) := by unfold ga_set; rw [if_neg c_4, e8, if_pos (Or.inr (Int32.not_lt.mp c_6))]
        exact pw_iret hx hb hr hlocks hw ⟨⟨rfl, by rw [e9]; exact hG0, fun _ _ _ => rfl⟩, by rw [e9]⟩ d_G_set_33
  · skip
    refine lv_iconst (v := (-1)) hx hb d_G_set_8 (by decide) ?_
    have e9 : ga_set mk td o k v = (-1, td) := by exact if_pos c_4
    exact pw_iret hx hb hr hlocks hw ⟨⟨rfl, by rw [e9]; exact hG0, fun _ _ _ => rfl⟩, by rw [e9]⟩ d_G_set_9
