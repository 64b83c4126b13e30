def ga_sty (cd : Nat → Option DT) (d0 : DT) : Nat → (Nat → Int32)
  | 0 => fun _ => 0
  | j + 1 => match cd (dd_cf d0 j).toNatClampNeg with
    | none => ga_sty cd d0 j
    | some d => va_cpy (dd_ty d) (ga_sty cd d0 j) 0 (ga_sum cd d0 j) (dd_fn d)
theorem ga_sum_4 {cd : Nat → Option DT} (hwf : wf_d cd) (d0 : DT) : ∀ j, ga_sum cd d0 j ≤ 4 * j := by
  intro j
  induction j with
  | zero => exact Nat.le_refl _
  | succ j ih =>
    show ga_sum cd d0 j + _ ≤ _
    cases hc : cd (dd_cf d0 j).toNatClampNeg with
    | none => simp only; omega
    | some d => have := (hwf _ d hc).2.2.2.1; simp only; omega
theorem ga_sum_s {cd : Nat → Option DT} {d0 d : DT} {j i : Nat} (hi : i < 6) (h1 : dd_cf d0 j = nI i) (h2 : cd i = some d) : ga_sum cd d0 (j + 1) = ga_sum cd d0 j + dd_fn d := by
  have e : (dd_cf d0 j).toNatClampNeg = i := by rw [h1]; exact nI_clamp (by omega)
  show ga_sum cd d0 j + (match cd (dd_cf d0 j).toNatClampNeg with | none => 0 | some d => dd_fn d) = _
  rw [e]; simp only [h2]
theorem ga_sty_s {cd : Nat → Option DT} {d0 d : DT} {j i : Nat} (hi : i < 6) (h1 : dd_cf d0 j = nI i) (h2 : cd i = some d) : ga_sty cd d0 (j + 1) = va_cpy (dd_ty d) (ga_sty cd d0 j) 0 (ga_sum cd d0 j) (dd_fn d) := by
  have e : (dd_cf d0 j).toNatClampNeg = i := by rw [h1]; exact nI_clamp (by omega)
  show (match cd (dd_cf d0 j).toNatClampNeg with | none => ga_sty cd d0 j | some d => va_cpy (dd_ty d) (ga_sty cd d0 j) 0 (ga_sum cd d0 j) (dd_fn d)) = _
  rw [e]; simp only [h2]
set_option maxHeartbeats 4000000 in
set_option maxRecDepth 100000 in
theorem k_G_slotTypes {l : Launch} {D : va_G} {ca : Nat → ClassId} {kS : Nat → Nat} {kT : Nat} {ad : pw_A} {C : pw_C} {cd : Nat → Option DT} {mk : Nat} {td : Nat → TT} (hG : gw_at ca kS kT ad C cd mk td) (hwf : wf_d cd) (n21 : C 21 mk = none) {k0 : Nat} {d0 : DT} (hcd0 : cd k0 = some d0) : gc_Con l y_G_slotTypes c_G_slotTypes ({ frames := 1, cells := 1, slots := 24, locals := 60 }) D ca (z9_Z kS kT) [.ref (ad 0 0), .ref (ad 11 k0)] ad C (pw_pr (fun r ad' C' => ad' = pw_up ad 21 mk r ∧ C' 21 mk = some (.inl (ca 0, ga_sum cd d0 (dd_cn d0), .inl (ga_sty cd d0 (dd_cn d0)))) ∧ ∀ x y, ¬ (x = 21 ∧ y = mk) → C' x y = C x y)) 1 24 := by
  have hZ := z9_ok kS kT
  have hG0 := hG
  obtain ⟨g00, g10, g20, hmk, hDD, hTT, hKK⟩ := hG
  refine pw_ofW (cc := b_G_slotTypes) (maxL := 7) (ret := (some (FieldType.array FieldType.int))) (by decide) rfl (Nat.le_of_ble_eq_true rfl) ?_
  intro p e s m args below meth c A ls hB hA hw hK hz hl
  obtain ⟨hx, hb, hr, hml, hts0, hlocks, hown, hnm⟩ := hB
  have hts := wd_hts hts0
  have hown : s.vm.findClass "GraphWriter" = some m.cls := hown
  have hl : lv_has ls 7 [(0, .ref (ad 0 0)), (1, .ref (ad 11 k0))] := hl
  have hz0 := hz
  obtain ⟨hz1, hz2, hz3, hk0, hk1, hk2, hk3, hk4, hk5, hk6, hk7, hao1, hao2, hnw⟩ := hz0
  obtain ⟨hk06, hcn, hch, -⟩ := hwf k0 d0 hcd0
  have h24 := ga_sum_4 hwf d0 (dd_cn d0)
  have hfr : ∀ x y, ¬ (x = 21 ∧ y = mk) → C x y = C x y := fun _ _ _ => rfl
  obtain ⟨e06, e10, e11, e12, e13, e14, est⟩ := hDD k0 d0 hcd0
  have loop2 : ∀ (q : Nat) (ad1 : pw_A), ad1 = pw_up ad 21 mk q → ∀ (r : Nat) (C1 : pw_C) (H : Heap) (locs : List Loc) (lv : List (Nat × Value)) (ls : Array Slot), r ≤ dd_cn d0 → C1 21 mk = some (.inl (ca 0, ga_sum cd d0 (dd_cn d0), .inl (ga_sty cd d0 (dd_cn d0 - r)))) → (∀ x y, ¬ (x = 21 ∧ y = mk) → C1 x y = C x y) → pw_H D cls9 A s.heap ad C ad1 C1 H locs → lv_has ls 7 ([(5, .int (nI (dd_cn d0 - r))), (4, .int (nI (ga_sum cd d0 (dd_cn d0 - r)))), (3, .ref q), (0, .ref (ad 0 0)), (1, .ref (ad 11 k0))] ++ lv) → W p l e ({ frames := 1, cells := 1, slots := 24, locals := 60 }) s m args below meth c H locs 1 24 (MQ below (pw_Q D cls9 ad C (pw_pr (fun r ad' C' => ad' = pw_up ad 21 mk r ∧ C' 21 mk = some (.inl (ca 0, ga_sum cd d0 (dd_cn d0), .inl (ga_sty cd d0 (dd_cn d0)))) ∧ ∀ x y, ¬ (x = 21 ∧ y = mk) → C' x y = C x y)) A) args s 1 24 A) (F0 m 40 ls []) := by
    intro q ad1 had1 r
    have hq : ad1 21 mk = q := by rw [had1]; exact pw_up_self _ _ _ _
    have hadk : ∀ x y, ¬ (x = 21 ∧ y = mk) → ad1 x y = ad x y := fun x y h9 => by rw [had1]; exact pw_up_ne _ _ h9
    induction r with
    | zero =>
      intro C1 H locs lv ls hr9 p21 hfr hw hl
      have hl : lv_has ls 7 [(5, .int (nI (dd_cn d0 - 0))), (4, .int (nI (ga_sum cd d0 (dd_cn d0 - 0)))), (3, .ref q), (0, .ref (ad 0 0)), (1, .ref (ad 11 k0))] := ⟨hl.1, hl.2.1, fun a h => hl.2.2 a (List.mem_append_left _ h)⟩
      have g00 : C1 0 0 = some (.inr (0, [.ref (ad 1 0), .ref (ad 2 0), .ref (ad 3 0), .int (nI mk)])) := (hfr 0 0 (by omega)).trans g00
      have g10 : C1 1 0 = some (.inl (ca 4, 6, .inr (.inr (.inr (.inr (gw_cf ad cd)))))) := (hfr 1 0 (by omega)).trans g10
      have g20 : C1 2 0 = some (.inl (ca 5, 12, .inr (.inr (.inr (.inr (gw_tf ad mk)))))) := (hfr 2 0 (by omega)).trans g20
      have e10 : C1 10 k0 = some (.inr (2, [.int (nI k0), .int (dd_kd d0), .long (dd_id d0), .ref (ad 15 k0), .ref (ad 11 k0), .ref (ad 12 k0), .ref (ad 13 k0), .ref (ad 14 k0), .int (nI (dd_fn d0)), .int (nI (dd_sh d0)), .int (dd_us d0)])) := (hfr 10 k0 (by omega)).trans e10
      have e11 : C1 11 k0 = some (.inl (ca 0, dd_cn d0, .inl (dd_cf d0))) := (hfr 11 k0 (by omega)).trans e11
      have e12 : C1 12 k0 = some (.inl (ca 0, 4, .inl (dd_nm d0))) := (hfr 12 k0 (by omega)).trans e12
      have e13 : C1 13 k0 = some (.inl (ca 0, 4, .inl (dd_ty d0))) := (hfr 13 k0 (by omega)).trans e13
      have e14 : C1 14 k0 = some (.inl (ca 0, 4, .inl (dd_or d0))) := (hfr 14 k0 (by omega)).trans e14
      refine lv_iload hx hb d_G_slotTypes_40 (lv_at hl 0 rfl) ?_
      refine lv_aload_n hx hb d_G_slotTypes_42 rfl (lv_at hl 4 rfl) ?_
      refine pw_alen hx hb hK hw 11 k0 (hadk 11 k0 (by omega)) 0 e11 rfl d_G_slotTypes_43 ?_
      refine lv_icmp_ge (tgt := 91) hx hb d_G_slotTypes_44 (by decide) (fun c_1 => ?_) (fun c_1 => ?_)
      · skip
        refine lv_aload_n hx hb d_G_slotTypes_91 rfl (lv_at hl 2 rfl) ?_
        exact pw_aret hx hb hr (Or.inr ⟨_, rfl⟩) hlocks hw ⟨had1, p21, hfr⟩ d_G_slotTypes_92
      · exact absurd (nI_le (by omega) (by omega)) c_1
    | succ r ih =>
      intro C1 H locs lv ls hr9 p21 hfr hw hl
      have hl : lv_has ls 7 [(5, .int (nI (dd_cn d0 - (r + 1)))), (4, .int (nI (ga_sum cd d0 (dd_cn d0 - (r + 1))))), (3, .ref q), (0, .ref (ad 0 0)), (1, .ref (ad 11 k0))] := ⟨hl.1, hl.2.1, fun a h => hl.2.2 a (List.mem_append_left _ h)⟩
      obtain ⟨lv9, hlv9⟩ : ∃ z, z = dd_cn d0 - (r + 1) := ⟨_, rfl⟩
      rw [← hlv9] at hl p21
      obtain ⟨c9, d, hc6, hcf, hcd⟩ := hch lv9 (by omega)
      have esum := ga_sum_s hc6 hcf hcd
      have esty := ga_sty_s hc6 hcf hcd
      have hfn := (hwf c9 d hcd).2.2.2.1
      have hle : ga_sum cd d0 lv9 + dd_fn d ≤ ga_sum cd d0 (dd_cn d0) := by rw [← esum]; have := ga_sum_le cd d0 (dd_cn d0 - (lv9 + 1)) (lv9 + 1); rwa [show lv9 + 1 + (dd_cn d0 - (lv9 + 1)) = dd_cn d0 by omega] at this
      obtain ⟨q06, q10, q11, q12, q13, q14, qst⟩ := hDD c9 d hcd
      have g00 : C1 0 0 = some (.inr (0, [.ref (ad 1 0), .ref (ad 2 0), .ref (ad 3 0), .int (nI mk)])) := (hfr 0 0 (by omega)).trans g00
      have g10 : C1 1 0 = some (.inl (ca 4, 6, .inr (.inr (.inr (.inr (gw_cf ad cd)))))) := (hfr 1 0 (by omega)).trans g10
      have g20 : C1 2 0 = some (.inl (ca 5, 12, .inr (.inr (.inr (.inr (gw_tf ad mk)))))) := (hfr 2 0 (by omega)).trans g20
      have e10 : C1 10 k0 = some (.inr (2, [.int (nI k0), .int (dd_kd d0), .long (dd_id d0), .ref (ad 15 k0), .ref (ad 11 k0), .ref (ad 12 k0), .ref (ad 13 k0), .ref (ad 14 k0), .int (nI (dd_fn d0)), .int (nI (dd_sh d0)), .int (dd_us d0)])) := (hfr 10 k0 (by omega)).trans e10
      have e11 : C1 11 k0 = some (.inl (ca 0, dd_cn d0, .inl (dd_cf d0))) := (hfr 11 k0 (by omega)).trans e11
      have e12 : C1 12 k0 = some (.inl (ca 0, 4, .inl (dd_nm d0))) := (hfr 12 k0 (by omega)).trans e12
      have e13 : C1 13 k0 = some (.inl (ca 0, 4, .inl (dd_ty d0))) := (hfr 13 k0 (by omega)).trans e13
      have e14 : C1 14 k0 = some (.inl (ca 0, 4, .inl (dd_or d0))) := (hfr 14 k0 (by omega)).trans e14
      have q10 : C1 10 c9 = some (.inr (2, [.int (nI c9), .int (dd_kd d), .long (dd_id d), .ref (ad 15 c9), .ref (ad 11 c9), .ref (ad 12 c9), .ref (ad 13 c9), .ref (ad 14 c9), .int (nI (dd_fn d)), .int (nI (dd_sh d)), .int (dd_us d)])) := (hfr 10 c9 (by omega)).trans q10
      have q11 : C1 11 c9 = some (.inl (ca 0, dd_cn d, .inl (dd_cf d))) := (hfr 11 c9 (by omega)).trans q11
      have q12 : C1 12 c9 = some (.inl (ca 0, 4, .inl (dd_nm d))) := (hfr 12 c9 (by omega)).trans q12
      have q13 : C1 13 c9 = some (.inl (ca 0, 4, .inl (dd_ty d))) := (hfr 13 c9 (by omega)).trans q13
      have q14 : C1 14 c9 = some (.inl (ca 0, 4, .inl (dd_or d))) := (hfr 14 c9 (by omega)).trans q14
      refine lv_iload hx hb d_G_slotTypes_40 (lv_at hl 0 rfl) ?_
      refine lv_aload_n hx hb d_G_slotTypes_42 rfl (lv_at hl 4 rfl) ?_
      refine pw_alen hx hb hK hw 11 k0 (hadk 11 k0 (by omega)) 0 e11 rfl d_G_slotTypes_43 ?_
      refine lv_icmp_ge (tgt := 91) hx hb d_G_slotTypes_44 (by decide) (fun c_2 => ?_) (fun c_2 => ?_)
      · exact absurd c_2 (nI_ge (by omega) (by omega))
      · skip
        refine lv_aload_n hx hb d_G_slotTypes_47 rfl (lv_at hl 3 rfl) ?_
        refine pw_get (Cn := "GraphWriter") (T := F_G) (N := 4) hx hb hts in_G hown hK hw 0 0 (hadk 0 0 (by omega)) g00 rfl 0 (by decide) (hts _ wd_140) (fun _ h9 => h9) rfl d_G_slotTypes_48 ?_
        refine lv_aload_n hx hb d_G_slotTypes_51 rfl (lv_at hl 4 rfl) ?_
        refine lv_iload hx hb d_G_slotTypes_52 (lv_at hl 0 rfl) ?_
        refine pw_iald hx hb hK hw 11 k0 (hadk 11 k0 (by omega)) 0 e11 rfl lv9 rfl (by omega) (by omega) d_G_slotTypes_54 ?_
        refine pw_aald hx hb hK hw 1 0 (hadk 1 0 (by omega)) 4 g10 rfl c9 hcf (by omega) (by omega) d_G_slotTypes_55 ?_
        rw [gw_cl hcd]
        refine lv_astore (lv' := [(6, .ref (ad 10 c9)), (5, .int (nI lv9)), (4, .int (nI (ga_sum cd d0 lv9))), (3, .ref q), (0, .ref (ad 0 0)), (1, .ref (ad 11 k0))]) hx hb d_G_slotTypes_56 hl (by decide) rfl (fun ls hl => ?_)
        refine lv_aload hx hb d_G_slotTypes_58 (lv_at hl 0 rfl) ?_
        refine pw_get (Cn := "GraphWriter$Defined") (T := F_D) (N := 11) hx hb hts in_D hown hK hw 10 c9 (hadk 10 c9 (by omega)) q10 rfl 6 (by decide) (hts _ wd_307) (fun _ h9 => h9) rfl d_G_slotTypes_60 ?_
        refine lv_iconst (v := 0) hx hb d_G_slotTypes_63 (by decide) ?_
        refine lv_aload_n hx hb d_G_slotTypes_64 rfl (lv_at hl 3 rfl) ?_
        refine lv_iload hx hb d_G_slotTypes_65 (lv_at hl 2 rfl) ?_
        refine lv_aload hx hb d_G_slotTypes_67 (lv_at hl 0 rfl) ?_
        refine pw_get (Cn := "GraphWriter$Defined") (T := F_D) (N := 11) hx hb hts in_D hown hK hw 10 c9 (hadk 10 c9 (by omega)) q10 rfl 8 (by decide) (hts _ wd_311) (fun _ h9 => h9) rfl d_G_slotTypes_69 ?_
        refine pw_copyi hx hb (hml.trans hl.1.symm) hown (hts _ wd_367) (hts _ wd_185) (hts _ wd_184) (hts _ wd_59) hK hw 13 c9 21 mk (by decide) (by decide) (hadk 13 c9 (by omega)) hq 0 0 q13 p21 rfl rfl rfl 0 (ga_sum cd d0 lv9) (dd_fn d) (by decide) rfl rfl (by omega) (by omega) ⟨by omega, by omega⟩ (fun _ _ => rfl) (Nat.le_of_ble_eq_true rfl) (Nat.le_of_ble_eq_true rfl) d_G_slotTypes_72 (fun H locs hw => ?_)
        have hw : pw_H D cls9 A s.heap ad C ad1 (pw_up C1 21 mk (some (.inl (ca 0, ga_sum cd d0 (dd_cn d0), .inl (va_cpy (dd_ty d) (ga_sty cd d0 lv9) 0 (ga_sum cd d0 lv9) (dd_fn d)))))) H _ := hw
        generalize hC_3 : pw_up C1 21 mk (some (.inl (ca 0, ga_sum cd d0 (dd_cn d0), .inl (va_cpy (dd_ty d) (ga_sty cd d0 lv9) 0 (ga_sum cd d0 lv9) (dd_fn d))))) = C_3 at hw
        have g00 : C_3 0 0 = some (.inr (0, [.ref (ad 1 0), .ref (ad 2 0), .ref (ad 3 0), .int (nI mk)])) := by rw [← hC_3]; exact (pw_up_ne _ _ (by omega)).trans g00
        have g10 : C_3 1 0 = some (.inl (ca 4, 6, .inr (.inr (.inr (.inr (gw_cf ad cd)))))) := by rw [← hC_3]; exact (pw_up_ne _ _ (by omega)).trans g10
        have g20 : C_3 2 0 = some (.inl (ca 5, 12, .inr (.inr (.inr (.inr (gw_tf ad mk)))))) := by rw [← hC_3]; exact (pw_up_ne _ _ (by omega)).trans g20
        have e10 : C_3 10 k0 = some (.inr (2, [.int (nI k0), .int (dd_kd d0), .long (dd_id d0), .ref (ad 15 k0), .ref (ad 11 k0), .ref (ad 12 k0), .ref (ad 13 k0), .ref (ad 14 k0), .int (nI (dd_fn d0)), .int (nI (dd_sh d0)), .int (dd_us d0)])) := by rw [← hC_3]; exact (pw_up_ne _ _ (by omega)).trans e10
        have e11 : C_3 11 k0 = some (.inl (ca 0, dd_cn d0, .inl (dd_cf d0))) := by rw [← hC_3]; exact (pw_up_ne _ _ (by omega)).trans e11
        have e12 : C_3 12 k0 = some (.inl (ca 0, 4, .inl (dd_nm d0))) := by rw [← hC_3]; exact (pw_up_ne _ _ (by omega)).trans e12
        have e13 : C_3 13 k0 = some (.inl (ca 0, 4, .inl (dd_ty d0))) := by rw [← hC_3]; exact (pw_up_ne _ _ (by omega)).trans e13
        have e14 : C_3 14 k0 = some (.inl (ca 0, 4, .inl (dd_or d0))) := by rw [← hC_3]; exact (pw_up_ne _ _ (by omega)).trans e14
        have q10 : C_3 10 c9 = some (.inr (2, [.int (nI c9), .int (dd_kd d), .long (dd_id d), .ref (ad 15 c9), .ref (ad 11 c9), .ref (ad 12 c9), .ref (ad 13 c9), .ref (ad 14 c9), .int (nI (dd_fn d)), .int (nI (dd_sh d)), .int (dd_us d)])) := by rw [← hC_3]; exact (pw_up_ne _ _ (by omega)).trans q10
        have q11 : C_3 11 c9 = some (.inl (ca 0, dd_cn d, .inl (dd_cf d))) := by rw [← hC_3]; exact (pw_up_ne _ _ (by omega)).trans q11
        have q12 : C_3 12 c9 = some (.inl (ca 0, 4, .inl (dd_nm d))) := by rw [← hC_3]; exact (pw_up_ne _ _ (by omega)).trans q12
        have q13 : C_3 13 c9 = some (.inl (ca 0, 4, .inl (dd_ty d))) := by rw [← hC_3]; exact (pw_up_ne _ _ (by omega)).trans q13
        have q14 : C_3 14 c9 = some (.inl (ca 0, 4, .inl (dd_or d))) := by rw [← hC_3]; exact (pw_up_ne _ _ (by omega)).trans q14
        have p21 : C_3 21 mk = some (.inl (ca 0, ga_sum cd d0 (dd_cn d0), .inl (va_cpy (dd_ty d) (ga_sty cd d0 lv9) 0 (ga_sum cd d0 lv9) (dd_fn d)))) := by rw [← hC_3]; exact pw_up_self _ _ _ _
        have hfr : ∀ x y, ¬ (x = 21 ∧ y = mk) → C_3 x y = C x y := fun x y h0 => by rw [← hC_3]; exact (pw_up_ne _ _ (by omega)).trans (hfr x y h0)
        refine lv_iload hx hb d_G_slotTypes_75 (lv_at hl 2 rfl) ?_
        refine lv_aload hx hb d_G_slotTypes_77 (lv_at hl 0 rfl) ?_
        refine pw_get (Cn := "GraphWriter$Defined") (T := F_D) (N := 11) hx hb hts in_D hown hK hw 10 c9 (hadk 10 c9 (by omega)) q10 rfl 8 (by decide) (hts _ wd_311) (fun _ h9 => h9) rfl d_G_slotTypes_79 ?_
        refine lv_iadd hx hb d_G_slotTypes_82 ?_
        rw [nI_add]
        refine lv_istore (lv' := [(4, .int (nI (ga_sum cd d0 lv9 + dd_fn d))), (6, .ref (ad 10 c9)), (5, .int (nI lv9)), (3, .ref q), (0, .ref (ad 0 0)), (1, .ref (ad 11 k0))]) hx hb d_G_slotTypes_83 hl (by decide) rfl (fun ls hl => ?_)
        refine lv_iinc (v := (nI lv9) + 1) (lv' := [(5, .int ((nI lv9) + 1)), (4, .int (nI (ga_sum cd d0 lv9 + dd_fn d))), (6, .ref (ad 10 c9)), (3, .ref q), (0, .ref (ad 0 0)), (1, .ref (ad 11 k0))]) hx hb d_G_slotTypes_85 hl (k := 2) rfl rfl (by decide) rfl (fun ls hl => ?_)
        refine lv_goto (tgt := 40) hx hb d_G_slotTypes_88 (by decide) ?_
        rw [nI_1] at hl
        rw [← esty] at p21
        exact ih _ _ _ [(6, .ref (ad 10 c9))] _ (by omega) (by rw [show dd_cn d0 - r = lv9 + 1 by omega]; exact p21) hfr hw (by rw [show dd_cn d0 - r = lv9 + 1 by omega, esum]; exact lv_sub hl [0, 1, 3, 4, 5, 2] rfl)
  have loop1 : ∀ (r : Nat) (ls : Array Slot), r ≤ dd_cn d0 → lv_has ls 7 [(3, .int (nI (dd_cn d0 - r))), (2, .int (nI (ga_sum cd d0 (dd_cn d0 - r)))), (0, .ref (ad 0 0)), (1, .ref (ad 11 k0))] → W p l e ({ frames := 1, cells := 1, slots := 24, locals := 60 }) s m args below meth c s.heap [] 0 0 (MQ below (pw_Q D cls9 ad C (pw_pr (fun r ad' C' => ad' = pw_up ad 21 mk r ∧ C' 21 mk = some (.inl (ca 0, ga_sum cd d0 (dd_cn d0), .inl (ga_sty cd d0 (dd_cn d0)))) ∧ ∀ x y, ¬ (x = 21 ∧ y = mk) → C' x y = C x y)) A) args s 1 24 A) (F0 m 4 ls []) := by
    intro r
    induction r with
    | zero =>
      intro ls hr9 hl
      refine lv_iload_n hx hb d_G_slotTypes_4 rfl (lv_at hl 0 rfl) ?_
      refine lv_aload_n hx hb d_G_slotTypes_5 rfl (lv_at hl 3 rfl) ?_
      refine pw_alen hx hb hK hw 11 k0 rfl 0 e11 rfl d_G_slotTypes_6 ?_
      refine lv_icmp_ge (tgt := 30) hx hb d_G_slotTypes_7 (by decide) (fun c_4 => ?_) (fun c_4 => ?_)
      · skip
        refine lv_iload_n hx hb d_G_slotTypes_30 rfl (lv_at hl 1 rfl) ?_
        rw [Nat.sub_zero]
        refine pw_newa (atype := .int) (ty := .int) (az := ((ga_sum cd d0 (dd_cn d0)), .inl (fun _ => 0))) hx hb (hts _ wd_127) rfl (fun t h => by cases h) hK hw hA 21 mk (by decide) n21 0 rfl (fun _ => rfl) rfl (by omega) (by show _ * 4 ≤ _; omega) (by (try dsimp only); omega) (by (try dsimp only); omega) d_G_slotTypes_31 (fun q_5 H hw => ?_)
        refine W.widen (k := 1) (n := 24) (by omega) (by omega) ?_
        obtain ⟨ad_6, had_6⟩ : ∃ z, z = pw_up ad 21 mk q_5 := ⟨_, rfl⟩
        rw [← had_6] at hw
        have hsad_6 : ad_6 21 mk = q_5 := by rw [had_6]; exact pw_up_self _ _ _ _
        have hadk : ∀ x y, ¬ (x = 21 ∧ y = mk) → ad_6 x y = ad x y := fun x y h9 => by rw [had_6]; exact pw_up_ne _ _ h9
        have hw : pw_H D cls9 A s.heap ad C ad_6 (pw_up C 21 mk (some (.inl (ca 0, (ga_sum cd d0 (dd_cn d0)), .inl (fun _ => 0))))) H _ := hw
        generalize hC_7 : pw_up C 21 mk (some (.inl (ca 0, (ga_sum cd d0 (dd_cn d0)), .inl (fun _ => 0)))) = C_7 at hw
        have g00 : C_7 0 0 = some (.inr (0, [.ref (ad 1 0), .ref (ad 2 0), .ref (ad 3 0), .int (nI mk)])) := by rw [← hC_7]; exact (pw_up_ne _ _ (by omega)).trans g00
        have g10 : C_7 1 0 = some (.inl (ca 4, 6, .inr (.inr (.inr (.inr (gw_cf ad cd)))))) := by rw [← hC_7]; exact (pw_up_ne _ _ (by omega)).trans g10
        have g20 : C_7 2 0 = some (.inl (ca 5, 12, .inr (.inr (.inr (.inr (gw_tf ad mk)))))) := by rw [← hC_7]; exact (pw_up_ne _ _ (by omega)).trans g20
        have e10 : C_7 10 k0 = some (.inr (2, [.int (nI k0), .int (dd_kd d0), .long (dd_id d0), .ref (ad 15 k0), .ref (ad 11 k0), .ref (ad 12 k0), .ref (ad 13 k0), .ref (ad 14 k0), .int (nI (dd_fn d0)), .int (nI (dd_sh d0)), .int (dd_us d0)])) := by rw [← hC_7]; exact (pw_up_ne _ _ (by omega)).trans e10
        have e11 : C_7 11 k0 = some (.inl (ca 0, dd_cn d0, .inl (dd_cf d0))) := by rw [← hC_7]; exact (pw_up_ne _ _ (by omega)).trans e11
        have e12 : C_7 12 k0 = some (.inl (ca 0, 4, .inl (dd_nm d0))) := by rw [← hC_7]; exact (pw_up_ne _ _ (by omega)).trans e12
        have e13 : C_7 13 k0 = some (.inl (ca 0, 4, .inl (dd_ty d0))) := by rw [← hC_7]; exact (pw_up_ne _ _ (by omega)).trans e13
        have e14 : C_7 14 k0 = some (.inl (ca 0, 4, .inl (dd_or d0))) := by rw [← hC_7]; exact (pw_up_ne _ _ (by omega)).trans e14
        have p21 : C_7 21 mk = some (.inl (ca 0, (ga_sum cd d0 (dd_cn d0)), .inl (fun _ => 0))) := by rw [← hC_7]; exact pw_up_self _ _ _ _
        have hfr : ∀ x y, ¬ (x = 21 ∧ y = mk) → C_7 x y = C x y := fun x y h0 => by rw [← hC_7]; exact (pw_up_ne _ _ (by omega)).trans (hfr x y h0)
        refine lv_astore_n (lv' := [(3, .ref q_5), (2, .int (nI (ga_sum cd d0 (dd_cn d0 - 0)))), (0, .ref (ad 0 0)), (1, .ref (ad 11 k0))]) hx hb d_G_slotTypes_33 rfl hl (by decide) rfl (fun ls hl => ?_)
        refine lv_iconst (v := 0) hx hb d_G_slotTypes_34 (by decide) ?_
        refine lv_istore (lv' := [(4, .int 0), (3, .ref q_5), (2, .int (nI (ga_sum cd d0 (dd_cn d0 - 0)))), (0, .ref (ad 0 0)), (1, .ref (ad 11 k0))]) hx hb d_G_slotTypes_35 hl (by decide) rfl (fun ls hl => ?_)
        refine lv_iconst (v := 0) hx hb d_G_slotTypes_37 (by decide) ?_
        refine lv_istore (lv' := [(5, .int 0), (4, .int 0), (3, .ref q_5), (2, .int (nI (ga_sum cd d0 (dd_cn d0 - 0)))), (0, .ref (ad 0 0)), (1, .ref (ad 11 k0))]) hx hb d_G_slotTypes_38 hl (by decide) rfl (fun ls hl => ?_)
        exact loop2 q_5 ad_6 had_6 (dd_cn d0) _ _ _ [(2, .int (nI (ga_sum cd d0 (dd_cn d0 - 0))))] _ (Nat.le_refl _) (by rw [Nat.sub_self]; exact p21) hfr hw (by rw [Nat.sub_self]; exact lv_sub hl [0, 1, 2, 4, 5, 3] rfl)
      · exact absurd (nI_le (by omega) (by omega)) c_4
    | succ r ih =>
      intro ls hr9 hl
      obtain ⟨lv9, hlv9⟩ : ∃ z, z = dd_cn d0 - (r + 1) := ⟨_, rfl⟩
      rw [← hlv9] at hl
      obtain ⟨c9, d, hc6, hcf, hcd⟩ := hch lv9 (by omega)
      have esum := ga_sum_s hc6 hcf hcd
      refine lv_iload_n hx hb d_G_slotTypes_4 rfl (lv_at hl 0 rfl) ?_
      refine lv_aload_n hx hb d_G_slotTypes_5 rfl (lv_at hl 3 rfl) ?_
      refine pw_alen hx hb hK hw 11 k0 rfl 0 e11 rfl d_G_slotTypes_6 ?_
      refine lv_icmp_ge (tgt := 30) hx hb d_G_slotTypes_7 (by decide) (fun c_8 => ?_) (fun c_8 => ?_)
      · exact absurd c_8 (nI_ge (by omega) (by omega))
      · skip
        refine lv_iload_n hx hb d_G_slotTypes_10 rfl (lv_at hl 1 rfl) ?_
        refine lv_aload_n hx hb d_G_slotTypes_11 rfl (lv_at hl 2 rfl) ?_
        refine pw_get (Cn := "GraphWriter") (T := F_G) (N := 4) hx hb hts in_G hown hK hw 0 0 rfl g00 rfl 0 (by decide) (hts _ wd_140) (fun _ h9 => h9) rfl d_G_slotTypes_12 ?_
        refine lv_aload_n hx hb d_G_slotTypes_15 rfl (lv_at hl 3 rfl) ?_
        refine lv_iload_n hx hb d_G_slotTypes_16 rfl (lv_at hl 0 rfl) ?_
        refine pw_iald hx hb hK hw 11 k0 rfl 0 e11 rfl lv9 rfl (by omega) (by omega) d_G_slotTypes_17 ?_
        refine pw_aald hx hb hK hw 1 0 rfl 4 g10 rfl c9 hcf (by omega) (by omega) d_G_slotTypes_18 ?_
        rw [gw_cl hcd]
        obtain ⟨q06, q10, q11, q12, q13, q14, qst⟩ := hDD c9 d hcd
        refine pw_get (Cn := "GraphWriter$Defined") (T := F_D) (N := 11) hx hb hts in_D hown hK hw 10 c9 rfl q10 rfl 8 (by decide) (hts _ wd_311) (fun _ h9 => h9) rfl d_G_slotTypes_19 ?_
        refine lv_iadd hx hb d_G_slotTypes_22 ?_
        rw [nI_add]
        refine lv_istore_n (lv' := [(2, .int (nI (ga_sum cd d0 lv9 + dd_fn d))), (3, .int (nI lv9)), (0, .ref (ad 0 0)), (1, .ref (ad 11 k0))]) hx hb d_G_slotTypes_23 rfl hl (by decide) rfl (fun ls hl => ?_)
        refine lv_iinc (v := (nI lv9) + 1) (lv' := [(3, .int ((nI lv9) + 1)), (2, .int (nI (ga_sum cd d0 lv9 + dd_fn d))), (0, .ref (ad 0 0)), (1, .ref (ad 11 k0))]) hx hb d_G_slotTypes_24 hl (k := 1) rfl rfl (by decide) rfl (fun ls hl => ?_)
        refine lv_goto (tgt := 4) hx hb d_G_slotTypes_27 (by decide) ?_
        rw [nI_1] at hl
        exact ih _ (by omega) (by rw [show dd_cn d0 - r = lv9 + 1 by omega, esum]; exact hl)
  refine lv_iconst (v := 0) hx hb d_G_slotTypes_0 (by decide) ?_
  refine lv_istore_n (lv' := [(2, .int 0), (0, .ref (ad 0 0)), (1, .ref (ad 11 k0))]) hx hb d_G_slotTypes_1 rfl hl (by decide) rfl (fun ls hl => ?_)
  refine lv_iconst (v := 0) hx hb d_G_slotTypes_2 (by decide) ?_
  refine lv_istore_n (lv' := [(3, .int 0), (2, .int 0), (0, .ref (ad 0 0)), (1, .ref (ad 11 k0))]) hx hb d_G_slotTypes_3 rfl hl (by decide) rfl (fun ls hl => ?_)
  exact loop1 (dd_cn d0) _ (Nat.le_refl _) (by rw [Nat.sub_self]; exact hl)
