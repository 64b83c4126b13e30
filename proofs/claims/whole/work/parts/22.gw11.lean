def ga_field (cd : Nat → Option DT) (k n t tr : Int32) : Int32 × (Nat → Option DT) := if ga_isdef cd k = 0 ∨ n < 0 ∨ 26 ≤ n ∨ t < 0 ∨ 7 < t then (-1, cd) else match cd k.toNatClampNeg with
  | none => (-1, cd)
  | some d => if dd_kd d = 3 ∨ ¬ dd_us d = 0 then (-1, cd) else if 4 ≤ nI (dd_fn d) ∨ ¬ ga_hasr d n (dd_fn d) = 0 then (-1, cd) else (nI (dd_fn d + 1), va_up cd k.toNatClampNeg (some (ga_add d n t tr)))
theorem ga_add_fn (d : DT) (n t tr : Int32) : dd_fn (ga_add d n t tr) = dd_fn d + 1 := rfl
set_option maxHeartbeats 4000000 in
set_option maxRecDepth 100000 in
theorem k_G_field {l : Launch} {D : va_G} {ca : Nat → ClassId} {kS : Nat → Nat} {kT : Nat} {ad : pw_A} {C : pw_C} {cd : Nat → Option DT} {mk : Nat} {td : Nat → TT} (hG : gw_at ca kS kT ad C cd mk td) (hwf : wf_d cd) (hsf : ∀ k d, cd k = some d → dd_sh d ≤ dd_fn d) (k n t tr : Int32) : gc_Con l y_G_field c_G_field ({ frames := 3, cells := 0, slots := 0, locals := 66 }) D ca (z9_Z kS kT) [.ref (ad 0 0), .int k, .int n, .int t, .int tr] ad C (pw_pi (fun r ad' C' => (ad' = ad ∧ gw_at ca kS kT ad C' (ga_field cd k n t tr).2 mk td ∧ gg_fr C C') ∧ r = (ga_field cd k n t tr).1)) 0 0 := by
  have hZ := z9_ok kS kT
  have hG0 := hG
  obtain ⟨g00, g10, g20, hmk, hDD, hTT, hKK⟩ := hG
  refine pw_ofW (cc := b_G_field) (maxL := 6) (ret := (some FieldType.int)) (by decide) rfl (Nat.le_of_ble_eq_true rfl) ?_
  intro p e s m args below meth c A ls hB hA hw hK hz hl
  obtain ⟨hx, hb, hr, hml, hts0, hlocks, hown, hnm⟩ := hB
  have hts := wd_hts hts0
  have hown : s.vm.findClass "GraphWriter" = some m.cls := hown
  have hl : lv_has ls 6 [(0, .ref (ad 0 0)), (1, .int k), (2, .int n), (3, .int t), (4, .int tr)] := hl
  have hz0 := hz
  obtain ⟨hz1, hz2, hz3, hk0, hk1, hk2, hk3, hk4, hk5, hk6, hk7, hao1, hao2, hnw⟩ := hz0
  refine lv_aload_n hx hb d_G_field_0 rfl (lv_at hl 0 rfl) ?_
  refine lv_iload_n hx hb d_G_field_1 rfl (lv_at hl 1 rfl) ?_
  refine pw_calli (va_runV (As := [.int k]) (rest := []) ⟨hx, hb, hml, hown, hts0⟩ (k_G_isDefined hG0 k _) (cwV 1 hts0 (wd_V wd_164 wd_161 wd_163 wd_1 wd_53) rfl rfl rfl (by decide +kernel) ⟨Nat.le_of_ble_eq_true rfl, Nat.le_of_ble_eq_true rfl⟩) (pw_preV hZ hw hA hK hz rfl g00 rfl) rfl rfl hl.1 rfl (lv_room (Nat.le_of_ble_eq_true rfl)) d_G_field_2 ⟨Nat.le_of_ble_eq_true rfl, Nat.le_of_ble_eq_true rfl⟩) hw hA (fun r_3 ad_1 C_2 H locs hp hw => ?_)
  obtain ⟨⟨hae, hce⟩, hre⟩ := hp
  rw [hae, hce] at hw
  rw [hre]
  clear hae hce hre
  refine lv_if_eq (tgt := 28) hx hb d_G_field_5 (by decide) (fun c_4 => ?_) (fun c_4 => ?_)
  · skip
    refine lv_iconst (v := (-1)) hx hb d_G_field_28 (by decide) ?_
    have e9 : ga_field cd k n t tr = (-1, cd) := by exact if_pos (Or.inl c_4)
    exact pw_iret hx hb hr hlocks hw ⟨⟨rfl, by rw [e9]; exact hG0, fun _ _ _ => rfl⟩, by rw [e9]⟩ d_G_field_29
  · skip
    refine lv_iload_n hx hb d_G_field_8 rfl (lv_at hl 2 rfl) ?_
    refine lv_if_lt (tgt := 28) hx hb d_G_field_9 (by decide) (fun c_5 => ?_) (fun c_5 => ?_)
    · skip
      refine lv_iconst (v := (-1)) hx hb d_G_field_28 (by decide) ?_
      have e9 : ga_field cd k n t tr = (-1, cd) := by exact if_pos (Or.inr (Or.inl c_5))
      exact pw_iret hx hb hr hlocks hw ⟨⟨rfl, by rw [e9]; exact hG0, fun _ _ _ => rfl⟩, by rw [e9]⟩ d_G_field_29
    · skip
      refine lv_iload_n hx hb d_G_field_12 rfl (lv_at hl 2 rfl) ?_
      refine lv_bipush (v := 26) hx hb d_G_field_13 (by decide) ?_
      refine lv_icmp_ge (tgt := 28) hx hb d_G_field_15 (by decide) (fun c_6 => ?_) (fun c_6 => ?_)
      · skip
        refine lv_iconst (v := (-1)) hx hb d_G_field_28 (by decide) ?_
        have e9 : ga_field cd k n t tr = (-1, cd) := by exact if_pos (Or.inr (Or.inr (Or.inl c_6)))
        exact pw_iret hx hb hr hlocks hw ⟨⟨rfl, by rw [e9]; exact hG0, fun _ _ _ => rfl⟩, by rw [e9]⟩ d_G_field_29
      · skip
        refine lv_iload_n hx hb d_G_field_18 rfl (lv_at hl 3 rfl) ?_
        refine lv_if_lt (tgt := 28) hx hb d_G_field_19 (by decide) (fun c_7 => ?_) (fun c_7 => ?_)
        · skip
          refine lv_iconst (v := (-1)) hx hb d_G_field_28 (by decide) ?_
          have e9 : ga_field cd k n t tr = (-1, cd) := by exact if_pos (Or.inr (Or.inr (Or.inr (Or.inl c_7))))
          exact pw_iret hx hb hr hlocks hw ⟨⟨rfl, by rw [e9]; exact hG0, fun _ _ _ => rfl⟩, by rw [e9]⟩ d_G_field_29
        · skip
          refine lv_iload_n hx hb d_G_field_22 rfl (lv_at hl 3 rfl) ?_
          refine lv_bipush (v := 7) hx hb d_G_field_23 (by decide) ?_
          refine lv_icmp_le (tgt := 30) hx hb d_G_field_25 (by decide) (fun c_8 => ?_) (fun c_8 => ?_)
          · skip
            refine lv_aload_n hx hb d_G_field_30 rfl (lv_at hl 0 rfl) ?_
            refine pw_get (Cn := "GraphWriter") (T := F_G) (N := 4) hx hb hts in_G hown hK hw 0 0 rfl g00 rfl 0 (by decide) (hts _ wd_140) (fun _ h9 => h9) rfl d_G_field_31 ?_
            refine lv_iload_n hx hb d_G_field_34 rfl (lv_at hl 1 rfl) ?_
            obtain ⟨j, d, hj, hkj, hcd⟩ := ga_isdef_1 c_4
            have e8 : k.toNatClampNeg = j := by rw [hkj]; exact nI_clamp (by omega)
            obtain ⟨-, -, -, hfn4, hsh4, hor, -⟩ := hwf j d hcd
            have hsfd := hsf j d hcd
            refine pw_aald hx hb hK hw 1 0 rfl 4 g10 rfl j hkj (by omega) (by omega) d_G_field_35 ?_
            rw [gw_cl hcd]
            obtain ⟨q06, q10, q11, q12, q13, q14, qst⟩ := hDD j d hcd
            have hd0 : dd_at ca ad C j d := ⟨q10, q11, q12, q13, q14, qst⟩
            have hn1 : ¬ (ga_isdef cd k = 0 ∨ n < 0 ∨ 26 ≤ n ∨ t < 0 ∨ 7 < t) := by rintro (z | z | z | z | z); exact c_4 z; exact c_5 z; exact c_6 z; exact c_7 z; exact absurd z (Int32.not_lt.mpr c_8)
            refine lv_astore (lv' := [(5, .ref (ad 10 j)), (0, .ref (ad 0 0)), (1, .int k), (2, .int n), (3, .int t), (4, .int tr)]) hx hb d_G_field_36 hl (by decide) rfl (fun ls hl => ?_)
            refine lv_aload hx hb d_G_field_38 (lv_at hl 0 rfl) ?_
            refine pw_get (Cn := "GraphWriter$Defined") (T := F_D) (N := 11) hx hb hts in_D hown hK hw 10 j rfl q10 rfl 1 (by decide) (hts _ wd_297) (fun _ h9 => h9) rfl d_G_field_40 ?_
            refine lv_iconst (v := 3) hx hb d_G_field_43 (by decide) ?_
            refine lv_icmp_eq (tgt := 55) hx hb d_G_field_44 (by decide) (fun c_9 => ?_) (fun c_9 => ?_)
            · skip
              refine lv_iconst (v := (-1)) hx hb d_G_field_55 (by decide) ?_
              have e9 : ga_field cd k n t tr = (-1, cd) := by unfold ga_field; rw [if_neg hn1, e8]; simp only [hcd]; rw [if_pos (Or.inl c_9)]
              exact pw_iret hx hb hr hlocks hw ⟨⟨rfl, by rw [e9]; exact hG0, fun _ _ _ => rfl⟩, by rw [e9]⟩ d_G_field_56
            · skip
              refine lv_aload hx hb d_G_field_47 (lv_at hl 0 rfl) ?_
              refine pw_get (Cn := "GraphWriter$Defined") (T := F_D) (N := 11) hx hb hts in_D hown hK hw 10 j rfl q10 rfl 10 (by decide) (hts _ wd_314) (fun _ h9 => h9) rfl d_G_field_49 ?_
              refine lv_if_eq (tgt := 57) hx hb d_G_field_52 (by decide) (fun c_10 => ?_) (fun c_10 => ?_)
              · skip
                refine lv_aload hx hb d_G_field_57 (lv_at hl 0 rfl) ?_
                refine pw_get (Cn := "GraphWriter$Defined") (T := F_D) (N := 11) hx hb hts in_D hown hK hw 10 j rfl q10 rfl 8 (by decide) (hts _ wd_311) (fun _ h9 => h9) rfl d_G_field_59 ?_
                refine lv_iconst (v := 4) hx hb d_G_field_62 (by decide) ?_
                refine lv_icmp_ge (tgt := 75) hx hb d_G_field_63 (by decide) (fun c_11 => ?_) (fun c_11 => ?_)
                · skip
                  refine lv_iconst (v := (-1)) hx hb d_G_field_75 (by decide) ?_
                  have e9 : ga_field cd k n t tr = (-1, cd) := by unfold ga_field; rw [if_neg hn1, e8]; simp only [hcd]; rw [if_neg (by rintro (z | z); exact c_9 z; exact z c_10), if_pos (Or.inl c_11)]
                  exact pw_iret hx hb hr hlocks hw ⟨⟨rfl, by rw [e9]; exact hG0, fun _ _ _ => rfl⟩, by rw [e9]⟩ d_G_field_76
                · skip
                  refine lv_aload hx hb d_G_field_66 (lv_at hl 0 rfl) ?_
                  refine lv_iload_n hx hb d_G_field_68 rfl (lv_at hl 3 rfl) ?_
                  refine pw_calli (va_runV (As := [.int n]) (rest := []) ⟨hx, hb, hml, hown, hts0⟩ (k_D_hasField hZ hd0 hfn4 n _) (cwV 1 hts0 (wd_V wd_345 wd_342 wd_343 wd_344 wd_57) rfl rfl rfl (by decide +kernel) ⟨Nat.le_of_ble_eq_true rfl, Nat.le_of_ble_eq_true rfl⟩) (pw_preV hZ hw hA hK hz rfl q10 rfl) rfl rfl hl.1 rfl (lv_room (Nat.le_of_ble_eq_true rfl)) d_G_field_69 ⟨Nat.le_of_ble_eq_true rfl, Nat.le_of_ble_eq_true rfl⟩) hw hA (fun r_14 ad_12 C_13 H locs hp hw => ?_)
                  obtain ⟨⟨hae, hce⟩, hre⟩ := hp
                  rw [hae, hce] at hw
                  rw [hre]
                  clear hae hce hre
                  refine lv_if_eq (tgt := 77) hx hb d_G_field_72 (by decide) (fun c_15 => ?_) (fun c_15 => ?_)
                  · skip
                    refine lv_aload hx hb d_G_field_77 (lv_at hl 0 rfl) ?_
                    refine lv_iload_n hx hb d_G_field_79 rfl (lv_at hl 3 rfl) ?_
                    refine lv_iload_n hx hb d_G_field_80 rfl (lv_at hl 4 rfl) ?_
                    refine lv_iload hx hb d_G_field_81 (lv_at hl 5 rfl) ?_
                    have hf4 : dd_fn d < 4 := (nI_ltI (by omega) (by decide)).mp (Int32.not_le.mp c_11)
                    refine pw_callv (va_runV (As := [.int n, .int t, .int tr]) (rest := []) ⟨hx, hb, hml, hown, hts0⟩ (k_D_addField hZ hd0 hf4 hsfd (fun i hi => by obtain ⟨g, hg, he⟩ := hor i hi; exact ⟨g, by omega, he⟩) n t tr _) (cwV 3 hts0 (wd_V wd_349 wd_346 wd_347 wd_348 wd_57) rfl rfl rfl (by decide +kernel) ⟨Nat.le_of_ble_eq_true rfl, Nat.le_of_ble_eq_true rfl⟩) (pw_preV hZ hw hA hK hz rfl q10 rfl) rfl rfl hl.1 rfl (lv_room (Nat.le_of_ble_eq_true rfl)) d_G_field_83 ⟨Nat.le_of_ble_eq_true rfl, Nat.le_of_ble_eq_true rfl⟩) hw hA (fun ad_16 C_17 H locs hp hw => ?_)
                    obtain ⟨hae, hd, hf1⟩ := hp
                    rw [hae] at hw; clear hae
                    have hd1 := hd
                    obtain ⟨q10, q11, q12, q13, q14, qst9⟩ := hd
                    refine lv_aload hx hb d_G_field_86 (lv_at hl 0 rfl) ?_
                    refine pw_get (Cn := "GraphWriter$Defined") (T := F_D) (N := 11) hx hb hts in_D hown hK hw 10 j rfl q10 rfl 8 (by decide) (hts _ wd_311) (fun _ h9 => h9) rfl d_G_field_88 ?_
                    have e9 : ga_field cd k n t tr = (nI (dd_fn d + 1), va_up cd j (some (ga_add d n t tr))) := by unfold ga_field; rw [if_neg hn1, e8]; simp only [hcd]; rw [if_neg (by rintro (z | z); exact c_9 z; exact z c_10), if_neg (by rintro (z | z); exact c_11 z; exact z c_15)]
                    exact pw_iret hx hb hr hlocks hw ⟨⟨rfl, by rw [e9]; exact hG0.klass hcd hf1 hd1, fun x y h => hf1 x y (by omega)⟩, by rw [e9]; rfl⟩ d_G_field_91
                  · skip
                    refine lv_iconst (v := (-1)) hx hb d_G_field_75 (by decide) ?_
                    have e9 : ga_field cd k n t tr = (-1, cd) := by unfold ga_field; rw [if_neg hn1, e8]; simp only [hcd]; rw [if_neg (by rintro (z | z); exact c_9 z; exact z c_10), if_pos (Or.inr c_15)]
                    exact pw_iret hx hb hr hlocks hw ⟨⟨rfl, by rw [e9]; exact hG0, fun _ _ _ => rfl⟩, by rw [e9]⟩ d_G_field_76
              · skip
                refine lv_iconst (v := (-1)) hx hb d_G_field_55 (by decide) ?_
                have e9 : ga_field cd k n t tr = (-1, cd) := by unfold ga_field; rw [if_neg hn1, e8]; simp only [hcd]; rw [if_pos (Or.inr c_10)]
                exact pw_iret hx hb hr hlocks hw ⟨⟨rfl, by rw [e9]; exact hG0, fun _ _ _ => rfl⟩, by rw [e9]⟩ d_G_field_56
          · skip
            refine lv_iconst (v := (-1)) hx hb d_G_field_28 (by decide) ?_
            have e9 : ga_field cd k n t tr = (-1, cd) := by exact if_pos (Or.inr (Or.inr (Or.inr (Or.inr (Int32.not_le.mp c_8)))))
            exact pw_iret hx hb hr hlocks hw ⟨⟨rfl, by rw [e9]; exact hG0, fun _ _ _ => rfl⟩, by rw [e9]⟩ d_G_field_29
