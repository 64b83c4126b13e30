set_option maxHeartbeats 4000000 in
set_option maxRecDepth 100000 in
theorem k_JR_copyOf1 {l : Launch} {D : va_G} {ca : Nat → ClassId} {kS : Nat → Nat} {kT : Nat} {ad : pw_A} {C : pw_C} {x y x2 y2 n m9 : Nat} {f : Nat → Int32} (hx5 : x < 50) (hno : C x y = none) (hx2 : x2 < 50) (hs1 : C x2 y2 = some (.inl (ca 0, n, .inl f))) (hnm9 : n < m9) (hm8 : m9 ≤ 8) : gc_Con l y_JR_copyOf1 c_JR_copyOf1 ({ frames := 1, cells := 1, slots := 8, locals := 60 }) D ca (z9_Z kS kT) [.ref (ad x2 y2), .int (nI m9)] ad C (pw_pr (fun r ad' C' => ad' = pw_up ad x y r ∧ C' = pw_up C x y (some (.inl (ca 0, m9, .inl (va_cpy f (fun _ => 0) 0 0 n)))))) 1 8 := by
  have hZ := z9_ok kS kT
  refine pw_ofW (cc := b_JR_copyOf1) (maxL := 3) (ret := (some (FieldType.array FieldType.int))) (by decide) rfl (Nat.le_of_ble_eq_true rfl) ?_
  intro p e s m args below meth c A ls hB hA hw hK hz hl
  obtain ⟨hx, hb, hr, hml, hts0, hlocks, hown, hnm⟩ := hB
  have hts := wd_hts hts0
  have hown : s.vm.findClass "java/util/Arrays" = some m.cls := hown
  have hl : lv_has ls 3 [(0, .ref (ad x2 y2)), (1, .int (nI m9))] := hl
  have hz0 := hz
  obtain ⟨hz1, hz2, hz3, -⟩ := hz0
  have hne9 : ¬ (x2 = x ∧ y2 = y) := by rintro ⟨rfl, rfl⟩; rw [hno] at hs1; exact absurd hs1 (by simp)
  refine lv_iload_n hx hb d_JR_copyOf1_0 rfl (lv_at hl 1 rfl) ?_
  refine lv_aload_n hx hb d_JR_copyOf1_1 rfl (lv_at hl 0 rfl) ?_
  refine pw_alen hx hb hK hw x2 y2 rfl 0 hs1 rfl d_JR_copyOf1_2 ?_
  refine lv_icmp_ne (tgt := 14) hx hb d_JR_copyOf1_3 (by decide) (fun c_1 => ?_) (fun c_1 => ?_)
  · skip
    refine lv_iload_n hx hb d_JR_copyOf1_14 rfl (lv_at hl 1 rfl) ?_
    refine pw_newa (atype := .int) (ty := .int) (az := (m9, .inl (fun _ => 0))) hx hb (hts _ wd_127) rfl (fun t h => by cases h) hK hw hA x y hx5 hno 0 rfl (fun _ => rfl) rfl (by omega) (by show _ * 4 ≤ _; omega) (by (try dsimp only); omega) (by (try dsimp only); omega) d_JR_copyOf1_15 (fun q_2 H hw => ?_)
    refine W.widen (k := 1) (n := 8) (by omega) (by omega) ?_
    obtain ⟨ad_3, had_3⟩ : ∃ z, z = pw_up ad x y q_2 := ⟨_, rfl⟩
    rw [← had_3] at hw
    have hsad_3 : ad_3 x y = q_2 := by rw [had_3]; exact pw_up_self _ _ _ _
    have hadk : ∀ x9 y9, ¬ (x9 = x ∧ y9 = y) → ad_3 x9 y9 = ad x9 y9 := fun x9 y9 h9 => by rw [had_3]; exact pw_up_ne _ _ h9
    have hw : pw_H D cls9 A s.heap ad C ad_3 (pw_up C x y (some (.inl (ca 0, m9, .inl (fun _ => 0))))) H _ := hw
    generalize hC_4 : pw_up C x y (some (.inl (ca 0, m9, .inl (fun _ => 0)))) = C_4 at hw
    have hs1 : C_4 x2 y2 = some (.inl (ca 0, n, .inl f)) := by rw [← hC_4]; exact (pw_up_ne _ _ (by omega)).trans hs1
    have p9 : C_4 x y = some (.inl (ca 0, m9, .inl (fun _ => 0))) := by rw [← hC_4]; exact pw_up_self _ _ _ _
    refine lv_astore_n (lv' := [(2, .ref q_2), (0, .ref (ad x2 y2)), (1, .int (nI m9))]) hx hb d_JR_copyOf1_17 rfl hl (by decide) rfl (fun ls hl => ?_)
    refine lv_aload_n hx hb d_JR_copyOf1_18 rfl (lv_at hl 1 rfl) ?_
    refine lv_iconst (v := 0) hx hb d_JR_copyOf1_19 (by decide) ?_
    refine lv_aload_n hx hb d_JR_copyOf1_20 rfl (lv_at hl 0 rfl) ?_
    refine lv_iconst (v := 0) hx hb d_JR_copyOf1_21 (by decide) ?_
    refine lv_aload_n hx hb d_JR_copyOf1_22 rfl (lv_at hl 1 rfl) ?_
    refine pw_alen hx hb hK hw x2 y2 (hadk x2 y2 (by omega)) 0 hs1 rfl d_JR_copyOf1_23 ?_
    refine lv_iload_n hx hb d_JR_copyOf1_24 rfl (lv_at hl 2 rfl) ?_
    refine va_mmin (rest := [.int 0, .ref q_2, .int 0, .ref (ad x2 y2)]) hx hb (hml.trans hl.1.symm) hown (hts _ wd_180) (hts _ wd_181) (hts _ wd_58) (hts _ wd_182) (Nat.le_of_ble_eq_true rfl) (Nat.le_of_ble_eq_true rfl) (by (try dsimp only); omega) (by (try dsimp only); omega) d_JR_copyOf1_25 ?_
    rw [show (if nI (m9) < nI (n) then nI (m9) else nI (n)) = nI (n) from pk_min (by omega) (by omega) (by omega)]
    refine pw_copyi hx hb (hml.trans hl.1.symm) hown (hts _ wd_183) (hts _ wd_185) (hts _ wd_184) (hts _ wd_59) hK hw x2 y2 x y hx2 hx5 (hadk x2 y2 (by omega)) hsad_3 0 0 hs1 p9 rfl rfl rfl 0 0 (n) (by decide) (by decide) rfl (by omega) (by omega) ⟨by omega, by omega⟩ (fun _ _ => rfl) (Nat.le_of_ble_eq_true rfl) (Nat.le_of_ble_eq_true rfl) d_JR_copyOf1_28 (fun H locs hw => ?_)
    have hw : pw_H D cls9 A s.heap ad C ad_3 (pw_up C_4 x y (some (.inl (ca 0, m9, .inl (va_cpy f (fun _ => 0) 0 0 (n)))))) H _ := hw
    generalize hC_5 : pw_up C_4 x y (some (.inl (ca 0, m9, .inl (va_cpy f (fun _ => 0) 0 0 (n))))) = C_5 at hw
    have hs1 : C_5 x2 y2 = some (.inl (ca 0, n, .inl f)) := by rw [← hC_5]; exact (pw_up_ne _ _ (by omega)).trans hs1
    have p9 : C_5 x y = some (.inl (ca 0, m9, .inl (va_cpy f (fun _ => 0) 0 0 (n)))) := by rw [← hC_5]; exact pw_up_self _ _ _ _
    refine lv_aload_n hx hb d_JR_copyOf1_31 rfl (lv_at hl 0 rfl) ?_
    refine pw_aret hx hb hr (Or.inr ⟨_, rfl⟩) hlocks hw ⟨had_3, ?_⟩ d_JR_copyOf1_32
    rw [← hC_5, ← hC_4, pw_up_up]
  · exact absurd (nI_inj (by omega) (by omega) c_1) (by omega)
def ga_chn (cd : Nat → Option DT) (sp : Int32) : Nat := if sp = -1 then 1 else match cd sp.toNatClampNeg with
  | none => 1
  | some d => dd_cn d + 1
def ga_chf (cd : Nat → Option DT) (k : Nat) (sp : Int32) : Nat → Int32 := if sp = -1 then upd (fun _ => 0) 0 (nI k) else match cd sp.toNatClampNeg with
  | none => upd (fun _ => 0) 0 (nI k)
  | some d => upd (va_cpy (dd_cf d) (fun _ => 0) 0 0 (dd_cn d)) (dd_cn d) (nI k)
set_option maxHeartbeats 4000000 in
set_option maxRecDepth 100000 in
theorem k_G_chainTo {l : Launch} {D : va_G} {ca : Nat → ClassId} {kS : Nat → Nat} {kT : Nat} {ad : pw_A} {C : pw_C} {cd : Nat → Option DT} {mk : Nat} {td : Nat → TT} (hG : gw_at ca kS kT ad C cd mk td) (hwf : wf_d cd) {k : Nat} (n11 : C 11 k = none) {sp : Int32} (hsp : sp = -1 ∨ ∃ j d, sp = nI j ∧ cd j = some d) : gc_Con l y_G_chainTo c_G_chainTo ({ frames := 2, cells := 1, slots := 8, locals := 82 }) D ca (z9_Z kS kT) [.ref (ad 0 0), .int (nI k), .int sp] ad C (pw_pr (fun r ad' C' => ad' = pw_up ad 11 k r ∧ C' = pw_up C 11 k (some (.inl (ca 0, ga_chn cd sp, .inl (ga_chf cd k sp)))))) 1 8 := by
  have hZ := z9_ok kS kT
  have hG0 := hG
  obtain ⟨g00, g10, g20, hmk, hDD, hTT, hKK⟩ := hG
  refine pw_ofW (cc := b_G_chainTo) (maxL := 5) (ret := (some (FieldType.array FieldType.int))) (by decide) rfl (Nat.le_of_ble_eq_true rfl) ?_
  intro p e s m args below meth c A ls hB hA hw hK hz hl
  obtain ⟨hx, hb, hr, hml, hts0, hlocks, hown, hnm⟩ := hB
  have hts := wd_hts hts0
  have hown : s.vm.findClass "GraphWriter" = some m.cls := hown
  have hl : lv_has ls 5 [(0, .ref (ad 0 0)), (1, .int (nI k)), (2, .int sp)] := hl
  have hz0 := hz
  obtain ⟨hz1, hz2, hz3, hk0, hk1, hk2, hk3, hk4, hk5, hk6, hk7, hao1, hao2, hnw⟩ := hz0
  refine lv_iload_n hx hb d_G_chainTo_0 rfl (lv_at hl 2 rfl) ?_
  refine lv_iconst (v := (-1)) hx hb d_G_chainTo_1 (by decide) ?_
  refine lv_icmp_ne (tgt := 13) hx hb d_G_chainTo_2 (by decide) (fun c_1 => ?_) (fun c_1 => ?_)
  · skip
    refine lv_aload_n hx hb d_G_chainTo_13 rfl (lv_at hl 0 rfl) ?_
    refine pw_get (Cn := "GraphWriter") (T := F_G) (N := 4) hx hb hts in_G hown hK hw 0 0 rfl g00 rfl 0 (by decide) (hts _ wd_140) (fun _ h9 => h9) rfl d_G_chainTo_14 ?_
    refine lv_iload_n hx hb d_G_chainTo_17 rfl (lv_at hl 2 rfl) ?_
    obtain ⟨j, d, hkj, hcd⟩ : ∃ j d, sp = nI j ∧ cd j = some d := by rcases hsp with h | h; exact absurd h c_1; exact h
    obtain ⟨hj, hcn, -⟩ := hwf j d hcd
    have e8 : sp.toNatClampNeg = j := by rw [hkj]; exact nI_clamp (by omega)
    refine pw_aald hx hb hK hw 1 0 rfl 4 g10 rfl j hkj (by omega) (by omega) d_G_chainTo_18 ?_
    rw [gw_cl hcd]
    obtain ⟨q06, q10, q11, q12, q13, q14, qst⟩ := hDD j d hcd
    refine pw_get (Cn := "GraphWriter$Defined") (T := F_D) (N := 11) hx hb hts in_D hown hK hw 10 j rfl q10 rfl 4 (by decide) (hts _ wd_303) (fun _ h9 => h9) rfl d_G_chainTo_19 ?_
    refine lv_astore_n (lv' := [(3, .ref (ad 11 j)), (0, .ref (ad 0 0)), (1, .int (nI k)), (2, .int sp)]) hx hb d_G_chainTo_22 rfl hl (by decide) rfl (fun ls hl => ?_)
    refine lv_aload_n hx hb d_G_chainTo_23 rfl (lv_at hl 0 rfl) ?_
    refine lv_aload_n hx hb d_G_chainTo_24 rfl (lv_at hl 0 rfl) ?_
    refine pw_alen hx hb hK hw 11 j rfl 0 q11 rfl d_G_chainTo_25 ?_
    refine lv_iconst (v := 1) hx hb d_G_chainTo_26 (by decide) ?_
    refine lv_iadd hx hb d_G_chainTo_27 ?_
    rw [nI_1]
    have hjk : ¬ j = k := by rintro rfl; rw [n11] at q11; exact absurd q11 (by simp)
    refine pw_callr (va_runS (As := [.ref (ad 11 j), .int (nI (dd_cn d + 1))]) (rest := []) ⟨hx, hb, hml, hown, hts0⟩ (k_JR_copyOf1 (by decide) n11 (by decide) q11 (Nat.lt_succ_self _) (by omega) _) (va_cwS 2 hts0 (wd_S wd_172 wd_170 wd_171 wd_55) rfl rfl rfl (by decide +kernel) ⟨Nat.le_of_ble_eq_true rfl, Nat.le_of_ble_eq_true rfl⟩) (pw_preS hZ hw hA hK hz) rfl rfl hl.1 rfl (lv_room (Nat.le_of_ble_eq_true rfl)) d_G_chainTo_28 ⟨Nat.le_of_ble_eq_true rfl, Nat.le_of_ble_eq_true rfl⟩) hw hA (fun r_4 ad_2 C_3 H locs hp hw => ?_)
    obtain ⟨hae, hce⟩ := hp
    rw [hae, hce] at hw; clear hae hce
    refine W.widen (k := 1) (n := 8) (by omega) (by omega) ?_
    obtain ⟨ad_5, had_5⟩ : ∃ z, z = pw_up ad 11 k r_4 := ⟨_, rfl⟩
    rw [← had_5] at hw
    have hsad_5 : ad_5 11 k = r_4 := by rw [had_5]; exact pw_up_self _ _ _ _
    have hadk : ∀ x9 y9, ¬ (x9 = 11 ∧ y9 = k) → ad_5 x9 y9 = ad x9 y9 := fun x9 y9 h9 => by rw [had_5]; exact pw_up_ne _ _ h9
    have hw : pw_H D cls9 A s.heap ad C ad_5 (pw_up C 11 k (some (.inl (ca 0, (dd_cn d + 1), .inl (va_cpy (dd_cf d) (fun _ => 0) 0 0 (dd_cn d)))))) H _ := hw
    generalize hC_6 : pw_up C 11 k (some (.inl (ca 0, (dd_cn d + 1), .inl (va_cpy (dd_cf d) (fun _ => 0) 0 0 (dd_cn d))))) = C_6 at hw
    have g00 : C_6 0 0 = some (.inr (0, [.ref (ad 1 0), .ref (ad 2 0), .ref (ad 3 0), .int (nI mk)])) := by rw [← hC_6]; exact (pw_up_ne _ _ (by omega)).trans g00
    have g10 : C_6 1 0 = some (.inl (ca 4, 6, .inr (.inr (.inr (.inr (gw_cf ad cd)))))) := by rw [← hC_6]; exact (pw_up_ne _ _ (by omega)).trans g10
    have g20 : C_6 2 0 = some (.inl (ca 5, 12, .inr (.inr (.inr (.inr (gw_tf ad mk)))))) := by rw [← hC_6]; exact (pw_up_ne _ _ (by omega)).trans g20
    have q10 : C_6 10 j = some (.inr (2, [.int (nI j), .int (dd_kd d), .long (dd_id d), .ref (ad 15 j), .ref (ad 11 j), .ref (ad 12 j), .ref (ad 13 j), .ref (ad 14 j), .int (nI (dd_fn d)), .int (nI (dd_sh d)), .int (dd_us d)])) := by rw [← hC_6]; exact (pw_up_ne _ _ (by omega)).trans q10
    have q11 : C_6 11 j = some (.inl (ca 0, dd_cn d, .inl (dd_cf d))) := by rw [← hC_6]; exact (pw_up_ne _ _ (by omega)).trans q11
    have q12 : C_6 12 j = some (.inl (ca 0, 4, .inl (dd_nm d))) := by rw [← hC_6]; exact (pw_up_ne _ _ (by omega)).trans q12
    have q13 : C_6 13 j = some (.inl (ca 0, 4, .inl (dd_ty d))) := by rw [← hC_6]; exact (pw_up_ne _ _ (by omega)).trans q13
    have q14 : C_6 14 j = some (.inl (ca 0, 4, .inl (dd_or d))) := by rw [← hC_6]; exact (pw_up_ne _ _ (by omega)).trans q14
    have p11 : C_6 11 k = some (.inl (ca 0, (dd_cn d + 1), .inl (va_cpy (dd_cf d) (fun _ => 0) 0 0 (dd_cn d)))) := by rw [← hC_6]; exact pw_up_self _ _ _ _
    refine lv_astore (lv' := [(4, .ref r_4), (3, .ref (ad 11 j)), (0, .ref (ad 0 0)), (1, .int (nI k)), (2, .int sp)]) hx hb d_G_chainTo_31 hl (by decide) rfl (fun ls hl => ?_)
    refine lv_aload hx hb d_G_chainTo_33 (lv_at hl 0 rfl) ?_
    refine lv_aload_n hx hb d_G_chainTo_35 rfl (lv_at hl 1 rfl) ?_
    refine pw_alen hx hb hK hw 11 j (hadk 11 j (by omega)) 0 q11 rfl d_G_chainTo_36 ?_
    refine lv_iload_n hx hb d_G_chainTo_37 rfl (lv_at hl 3 rfl) ?_
    refine pw_iast hx hb hK hw 11 k hsad_5 0 p11 rfl (by decide) (dd_cn d) rfl (by omega) (by omega) d_G_chainTo_38 (fun H locs hw => ?_)
    have hw : pw_H D cls9 A s.heap ad C ad_5 (pw_up C_6 11 k (some (.inl (ca 0, (dd_cn d + 1), .inl (upd (va_cpy (dd_cf d) (fun _ => 0) 0 0 (dd_cn d)) (dd_cn d) (nI k)))))) H _ := hw
    generalize hC_7 : pw_up C_6 11 k (some (.inl (ca 0, (dd_cn d + 1), .inl (upd (va_cpy (dd_cf d) (fun _ => 0) 0 0 (dd_cn d)) (dd_cn d) (nI k))))) = C_7 at hw
    have g00 : C_7 0 0 = some (.inr (0, [.ref (ad 1 0), .ref (ad 2 0), .ref (ad 3 0), .int (nI mk)])) := by rw [← hC_7]; exact (pw_up_ne _ _ (by omega)).trans g00
    have g10 : C_7 1 0 = some (.inl (ca 4, 6, .inr (.inr (.inr (.inr (gw_cf ad cd)))))) := by rw [← hC_7]; exact (pw_up_ne _ _ (by omega)).trans g10
    have g20 : C_7 2 0 = some (.inl (ca 5, 12, .inr (.inr (.inr (.inr (gw_tf ad mk)))))) := by rw [← hC_7]; exact (pw_up_ne _ _ (by omega)).trans g20
    have q10 : C_7 10 j = some (.inr (2, [.int (nI j), .int (dd_kd d), .long (dd_id d), .ref (ad 15 j), .ref (ad 11 j), .ref (ad 12 j), .ref (ad 13 j), .ref (ad 14 j), .int (nI (dd_fn d)), .int (nI (dd_sh d)), .int (dd_us d)])) := by rw [← hC_7]; exact (pw_up_ne _ _ (by omega)).trans q10
    have q11 : C_7 11 j = some (.inl (ca 0, dd_cn d, .inl (dd_cf d))) := by rw [← hC_7]; exact (pw_up_ne _ _ (by omega)).trans q11
    have q12 : C_7 12 j = some (.inl (ca 0, 4, .inl (dd_nm d))) := by rw [← hC_7]; exact (pw_up_ne _ _ (by omega)).trans q12
    have q13 : C_7 13 j = some (.inl (ca 0, 4, .inl (dd_ty d))) := by rw [← hC_7]; exact (pw_up_ne _ _ (by omega)).trans q13
    have q14 : C_7 14 j = some (.inl (ca 0, 4, .inl (dd_or d))) := by rw [← hC_7]; exact (pw_up_ne _ _ (by omega)).trans q14
    have p11 : C_7 11 k = some (.inl (ca 0, (dd_cn d + 1), .inl (upd (va_cpy (dd_cf d) (fun _ => 0) 0 0 (dd_cn d)) (dd_cn d) (nI k)))) := by rw [← hC_7]; exact pw_up_self _ _ _ _
    refine lv_aload hx hb d_G_chainTo_39 (lv_at hl 0 rfl) ?_
    refine pw_aret hx hb hr (Or.inr ⟨_, rfl⟩) hlocks hw ⟨had_5, ?_⟩ d_G_chainTo_41
    rw [← hC_7, ← hC_6, pw_up_up]; unfold ga_chn ga_chf; rw [if_neg c_1, if_neg c_1, e8]; simp only [hcd]
  · skip
    refine lv_iconst (v := 1) hx hb d_G_chainTo_5 (by decide) ?_
    refine pw_newa (atype := .int) (ty := .int) (az := (1, .inl (fun _ => 0))) hx hb (hts _ wd_127) rfl (fun t h => by cases h) hK hw hA 11 k (by decide) n11 0 rfl (fun _ => rfl) (by decide) (by omega) (by show _ * 4 ≤ _; omega) (by (try dsimp only); omega) (by (try dsimp only); omega) d_G_chainTo_6 (fun q_8 H hw => ?_)
    refine W.widen (k := 1) (n := 8) (by omega) (by omega) ?_
    obtain ⟨ad_9, had_9⟩ : ∃ z, z = pw_up ad 11 k q_8 := ⟨_, rfl⟩
    rw [← had_9] at hw
    have hsad_9 : ad_9 11 k = q_8 := by rw [had_9]; exact pw_up_self _ _ _ _
    have hadk : ∀ x9 y9, ¬ (x9 = 11 ∧ y9 = k) → ad_9 x9 y9 = ad x9 y9 := fun x9 y9 h9 => by rw [had_9]; exact pw_up_ne _ _ h9
    have hw : pw_H D cls9 A s.heap ad C ad_9 (pw_up C 11 k (some (.inl (ca 0, 1, .inl (fun _ => 0))))) H _ := hw
    generalize hC_10 : pw_up C 11 k (some (.inl (ca 0, 1, .inl (fun _ => 0)))) = C_10 at hw
    have g00 : C_10 0 0 = some (.inr (0, [.ref (ad 1 0), .ref (ad 2 0), .ref (ad 3 0), .int (nI mk)])) := by rw [← hC_10]; exact (pw_up_ne _ _ (by omega)).trans g00
    have g10 : C_10 1 0 = some (.inl (ca 4, 6, .inr (.inr (.inr (.inr (gw_cf ad cd)))))) := by rw [← hC_10]; exact (pw_up_ne _ _ (by omega)).trans g10
    have g20 : C_10 2 0 = some (.inl (ca 5, 12, .inr (.inr (.inr (.inr (gw_tf ad mk)))))) := by rw [← hC_10]; exact (pw_up_ne _ _ (by omega)).trans g20
    have p11 : C_10 11 k = some (.inl (ca 0, 1, .inl (fun _ => 0))) := by rw [← hC_10]; exact pw_up_self _ _ _ _
    refine lv_dup hx hb d_G_chainTo_8 rfl ?_
    refine lv_iconst (v := 0) hx hb d_G_chainTo_9 (by decide) ?_
    refine lv_iload_n hx hb d_G_chainTo_10 rfl (lv_at hl 1 rfl) ?_
    refine pw_iast hx hb hK hw 11 k hsad_9 0 p11 rfl (by decide) 0 (by decide) (by omega) (by omega) d_G_chainTo_11 (fun H locs hw => ?_)
    have hw : pw_H D cls9 A s.heap ad C ad_9 (pw_up C_10 11 k (some (.inl (ca 0, 1, .inl (upd (fun _ => 0) 0 (nI k)))))) H _ := hw
    generalize hC_11 : pw_up C_10 11 k (some (.inl (ca 0, 1, .inl (upd (fun _ => 0) 0 (nI k))))) = C_11 at hw
    have g00 : C_11 0 0 = some (.inr (0, [.ref (ad 1 0), .ref (ad 2 0), .ref (ad 3 0), .int (nI mk)])) := by rw [← hC_11]; exact (pw_up_ne _ _ (by omega)).trans g00
    have g10 : C_11 1 0 = some (.inl (ca 4, 6, .inr (.inr (.inr (.inr (gw_cf ad cd)))))) := by rw [← hC_11]; exact (pw_up_ne _ _ (by omega)).trans g10
    have g20 : C_11 2 0 = some (.inl (ca 5, 12, .inr (.inr (.inr (.inr (gw_tf ad mk)))))) := by rw [← hC_11]; exact (pw_up_ne _ _ (by omega)).trans g20
    have p11 : C_11 11 k = some (.inl (ca 0, 1, .inl (upd (fun _ => 0) 0 (nI k)))) := by rw [← hC_11]; exact pw_up_self _ _ _ _
    refine pw_aret hx hb hr (Or.inr ⟨_, rfl⟩) hlocks hw ⟨had_9, ?_⟩ d_G_chainTo_12
    rw [← hC_11, ← hC_10, pw_up_up]; unfold ga_chn ga_chf; rw [if_pos c_1, if_pos c_1]
theorem st_cls : ∀ k, k < 6 → (z9_tx 7).getD k 0 = nI (65 + k) := by decide +kernel
abbrev dn_fr (k : Nat) (ad : pw_A) (C : pw_C) (ad' : pw_A) (C' : pw_C) : Prop := (∀ x y, ¬ ((9 < x ∧ x < 17 ∧ ¬ x = 11) ∧ y = k) → C' x y = C x y) ∧ ∀ x y, ¬ ((11 < x ∧ x < 17) ∧ y = k) → ad' x y = ad x y
set_option maxHeartbeats 4000000 in
set_option maxRecDepth 100000 in
theorem k_D_init {l : Launch} {D : va_G} {ca : Nat → ClassId} {kS : Nat → Nat} {kT : Nat} {ad : pw_A} {C : pw_C} {k : Nat} (hk6 : k < 6) (p10 : C 10 k = some (.inr (2, [.int 0, .int 0, .long 0, .null, .null, .null, .null, .null, .int 0, .int 0, .int 0]))) (hst0 : st_at ca ad C 50 7 51 7 (z9_tx 7)) (hka : ad 50 7 = kS 7) (n12 : C 12 k = none) (n13 : C 13 k = none) (n14 : C 14 k = none) (n15 : C 15 k = none) (n16 : C 16 k = none) (kd : Int32) (id : Int64) : gc_Con l y_D_init c_D_init ({ frames := 5, cells := 5, slots := 40, locals := 152 }) D ca (z9_Z kS kT) [.ref (ad 10 k), .int (nI k), .int kd, .long id, .ref (ad 11 k)] ad C (pw_pv (fun ad' C' => C' 10 k = some (.inr (2, [.int (nI k), .int kd, .long (if kd = 3 then 0 else id), .ref (ad' 15 k), .ref (ad 11 k), .ref (ad' 12 k), .ref (ad' 13 k), .ref (ad' 14 k), .int 0, .int 0, .int 0])) ∧ C' 12 k = some (.inl (ca 0, 4, .inl (fun _ => 0))) ∧ C' 13 k = some (.inl (ca 0, 4, .inl (fun _ => 0))) ∧ C' 14 k = some (.inl (ca 0, 4, .inl (fun _ => 0))) ∧ st_at ca ad' C' 15 k 16 k [nI (65 + k)] ∧ dn_fr k ad C ad' C')) 5 40 := by
  have hZ := z9_ok kS kT
  refine pw_ofW (cc := b_D_init) (maxL := 6) (ret := none) (by decide) rfl (Nat.le_of_ble_eq_true rfl) ?_
  intro p e s m args below meth c A ls hB hA hw hK hz hl
  obtain ⟨hx, hb, hr, hml, hts0, hlocks, hown, hnm⟩ := hB
  have hts := wd_hts hts0
  have hown : s.vm.findClass "GraphWriter$Defined" = some m.cls := hown
  have hl : lv_has ls 6 [(0, .ref (ad 10 k)), (1, .int (nI k)), (2, .int kd), (3, .long id), (5, .ref (ad 11 k))] := hl
  have hz0 := hz
  obtain ⟨hz1, hz2, hz3, -⟩ := hz0
  have hk7 := hz.2.2.2.2.2.2.2.2.2.2.1
  have hfr : ∀ x y, ¬ ((9 < x ∧ x < 17 ∧ ¬ x = 11) ∧ y = k) → C x y = C x y := fun _ _ _ => rfl
  refine lv_aload_n hx hb d_D_init_0 rfl (lv_at hl 0 rfl) ?_
  refine W.objInit hx hb hown (hts _ wd_189) (hts _ wd_74) (hts _ wd_75) rfl (by rw [hml]; exact hl.1) rfl d_D_init_1 (Nat.le_of_ble_eq_true rfl) (Nat.le_of_ble_eq_true rfl) ?_
  refine W.eq (g2 := F0 m 4 ls []) rfl ?_
  refine lv_aload_n hx hb d_D_init_4 rfl (lv_at hl 0 rfl) ?_
  refine lv_iconst (v := 4) hx hb d_D_init_5 (by decide) ?_
  refine pw_newa (atype := .int) (ty := .int) (az := (4, .inl (fun _ => 0))) hx hb (hts _ wd_127) rfl (fun t h => by cases h) hK hw hA 12 k (by decide) n12 0 rfl (fun _ => rfl) (by decide) (by omega) (by show _ * 4 ≤ _; omega) (by (try dsimp only); omega) (by (try dsimp only); omega) d_D_init_6 (fun q_1 H hw => ?_)
  refine W.widen (k := 1) (n := 8) (by omega) (by omega) ?_
  obtain ⟨ad_2, had_2⟩ : ∃ z, z = pw_up ad 12 k q_1 := ⟨_, rfl⟩
  rw [← had_2] at hw
  have hsad_2 : ad_2 12 k = q_1 := by rw [had_2]; exact pw_up_self _ _ _ _
  have hadk : ∀ x9 y9, ¬ (x9 = 12 ∧ y9 = k) → ad_2 x9 y9 = ad x9 y9 := fun x9 y9 h9 => by rw [had_2]; exact pw_up_ne _ _ h9
  have hw : pw_H D cls9 A s.heap ad C ad_2 (pw_up C 12 k (some (.inl (ca 0, 4, .inl (fun _ => 0))))) H _ := hw
  generalize hC_3 : pw_up C 12 k (some (.inl (ca 0, 4, .inl (fun _ => 0)))) = C_3 at hw
  have p10 : C_3 10 k = some (.inr (2, [.int 0, .int 0, .long 0, .null, .null, .null, .null, .null, .int 0, .int 0, .int 0])) := by rw [← hC_3]; exact (pw_up_ne _ _ (by omega)).trans p10
  have p12 : C_3 12 k = some (.inl (ca 0, 4, .inl (fun _ => 0))) := by rw [← hC_3]; exact pw_up_self _ _ _ _
  have hfr : ∀ x y, ¬ ((9 < x ∧ x < 17 ∧ ¬ x = 11) ∧ y = k) → C_3 x y = C x y := fun x y h0 => by rw [← hC_3]; exact (pw_up_ne _ _ (by omega)).trans (hfr x y h0)
  have n13 : C_3 13 k = none := by rw [← hC_3]; exact (pw_up_ne _ _ (by omega)).trans n13
  have n14 : C_3 14 k = none := by rw [← hC_3]; exact (pw_up_ne _ _ (by omega)).trans n14
  have n15 : C_3 15 k = none := by rw [← hC_3]; exact (pw_up_ne _ _ (by omega)).trans n15
  have n16 : C_3 16 k = none := by rw [← hC_3]; exact (pw_up_ne _ _ (by omega)).trans n16
  refine pw_putF (Cn := "GraphWriter$Defined") (T := F_D) (N := 11) (v := .ref q_1) (ty := .array .int) hx hb hts in_D ft_D to_D nm_D hown hK hw 10 k (by decide) (hadk 10 k (by omega)) p10 rfl 5 (by decide) (hts _ wd_304) (fun _ h9 => h9) rfl hnm rfl (by decide +kernel) rfl rfl (Nat.le_of_ble_eq_true rfl) d_D_init_8 (fun H locs hw => ?_)
  have hw : pw_H D cls9 A s.heap ad C ad_2 (pw_up C_3 10 k (some (.inr (2, [.int 0, .int 0, .long 0, .null, .null, .ref q_1, .null, .null, .int 0, .int 0, .int 0])))) H _ := hw
  generalize hC_4 : pw_up C_3 10 k (some (.inr (2, [.int 0, .int 0, .long 0, .null, .null, .ref q_1, .null, .null, .int 0, .int 0, .int 0]))) = C_4 at hw
  have p12 : C_4 12 k = some (.inl (ca 0, 4, .inl (fun _ => 0))) := by rw [← hC_4]; exact (pw_up_ne _ _ (by omega)).trans p12
  have p10 : C_4 10 k = some (.inr (2, [.int 0, .int 0, .long 0, .null, .null, .ref q_1, .null, .null, .int 0, .int 0, .int 0])) := by rw [← hC_4]; exact pw_up_self _ _ _ _
  have hfr : ∀ x y, ¬ ((9 < x ∧ x < 17 ∧ ¬ x = 11) ∧ y = k) → C_4 x y = C x y := fun x y h0 => by rw [← hC_4]; exact (pw_up_ne _ _ (by omega)).trans (hfr x y h0)
  have n13 : C_4 13 k = none := by rw [← hC_4]; exact (pw_up_ne _ _ (by omega)).trans n13
  have n14 : C_4 14 k = none := by rw [← hC_4]; exact (pw_up_ne _ _ (by omega)).trans n14
  have n15 : C_4 15 k = none := by rw [← hC_4]; exact (pw_up_ne _ _ (by omega)).trans n15
  have n16 : C_4 16 k = none := by rw [← hC_4]; exact (pw_up_ne _ _ (by omega)).trans n16
  refine lv_aload_n hx hb d_D_init_11 rfl (lv_at hl 0 rfl) ?_
  refine lv_iconst (v := 4) hx hb d_D_init_12 (by decide) ?_
  refine pw_newa (atype := .int) (ty := .int) (az := (4, .inl (fun _ => 0))) hx hb (hts _ wd_127) rfl (fun t h => by cases h) hK hw hA 13 k (by decide) n13 0 rfl (fun _ => rfl) (by decide) (by omega) (by show _ * 4 ≤ _; omega) (by (try dsimp only); omega) (by (try dsimp only); omega) d_D_init_13 (fun q_5 H hw => ?_)
  refine W.widen (k := 2) (n := 16) (by omega) (by omega) ?_
  obtain ⟨ad_6, had_6⟩ : ∃ z, z = pw_up ad_2 13 k q_5 := ⟨_, rfl⟩
  rw [← had_6] at hw
  have hsad_6 : ad_6 13 k = q_5 := by rw [had_6]; exact pw_up_self _ _ _ _
  have hadk : ∀ x9 y9, ¬ (x9 = 12 ∧ y9 = k) → ¬ (x9 = 13 ∧ y9 = k) → ad_6 x9 y9 = ad x9 y9 := fun x9 y9 e0 h9 => by rw [had_6]; exact (pw_up_ne _ _ h9).trans (hadk x9 y9 e0)
  have hq_q_1 : ad_6 12 k = q_1 := by rw [had_6]; exact (pw_up_ne _ _ (by omega)).trans hsad_2
  have hw : pw_H D cls9 A s.heap ad C ad_6 (pw_up C_4 13 k (some (.inl (ca 0, 4, .inl (fun _ => 0))))) H _ := hw
  generalize hC_7 : pw_up C_4 13 k (some (.inl (ca 0, 4, .inl (fun _ => 0)))) = C_7 at hw
  have p10 : C_7 10 k = some (.inr (2, [.int 0, .int 0, .long 0, .null, .null, .ref q_1, .null, .null, .int 0, .int 0, .int 0])) := by rw [← hC_7]; exact (pw_up_ne _ _ (by omega)).trans p10
  have p12 : C_7 12 k = some (.inl (ca 0, 4, .inl (fun _ => 0))) := by rw [← hC_7]; exact (pw_up_ne _ _ (by omega)).trans p12
  have p13 : C_7 13 k = some (.inl (ca 0, 4, .inl (fun _ => 0))) := by rw [← hC_7]; exact pw_up_self _ _ _ _
  have hfr : ∀ x y, ¬ ((9 < x ∧ x < 17 ∧ ¬ x = 11) ∧ y = k) → C_7 x y = C x y := fun x y h0 => by rw [← hC_7]; exact (pw_up_ne _ _ (by omega)).trans (hfr x y h0)
  have n14 : C_7 14 k = none := by rw [← hC_7]; exact (pw_up_ne _ _ (by omega)).trans n14
  have n15 : C_7 15 k = none := by rw [← hC_7]; exact (pw_up_ne _ _ (by omega)).trans n15
  have n16 : C_7 16 k = none := by rw [← hC_7]; exact (pw_up_ne _ _ (by omega)).trans n16
  refine pw_putF (Cn := "GraphWriter$Defined") (T := F_D) (N := 11) (v := .ref q_5) (ty := .array .int) hx hb hts in_D ft_D to_D nm_D hown hK hw 10 k (by decide) (hadk 10 k (by omega) (by omega)) p10 rfl 6 (by decide) (hts _ wd_306) (fun _ h9 => h9) rfl hnm rfl (by decide +kernel) rfl rfl (Nat.le_of_ble_eq_true rfl) d_D_init_15 (fun H locs hw => ?_)
  have hw : pw_H D cls9 A s.heap ad C ad_6 (pw_up C_7 10 k (some (.inr (2, [.int 0, .int 0, .long 0, .null, .null, .ref q_1, .ref q_5, .null, .int 0, .int 0, .int 0])))) H _ := hw
  generalize hC_8 : pw_up C_7 10 k (some (.inr (2, [.int 0, .int 0, .long 0, .null, .null, .ref q_1, .ref q_5, .null, .int 0, .int 0, .int 0]))) = C_8 at hw
  have p12 : C_8 12 k = some (.inl (ca 0, 4, .inl (fun _ => 0))) := by rw [← hC_8]; exact (pw_up_ne _ _ (by omega)).trans p12
  have p13 : C_8 13 k = some (.inl (ca 0, 4, .inl (fun _ => 0))) := by rw [← hC_8]; exact (pw_up_ne _ _ (by omega)).trans p13
  have p10 : C_8 10 k = some (.inr (2, [.int 0, .int 0, .long 0, .null, .null, .ref q_1, .ref q_5, .null, .int 0, .int 0, .int 0])) := by rw [← hC_8]; exact pw_up_self _ _ _ _
  have hfr : ∀ x y, ¬ ((9 < x ∧ x < 17 ∧ ¬ x = 11) ∧ y = k) → C_8 x y = C x y := fun x y h0 => by rw [← hC_8]; exact (pw_up_ne _ _ (by omega)).trans (hfr x y h0)
  have n14 : C_8 14 k = none := by rw [← hC_8]; exact (pw_up_ne _ _ (by omega)).trans n14
  have n15 : C_8 15 k = none := by rw [← hC_8]; exact (pw_up_ne _ _ (by omega)).trans n15
  have n16 : C_8 16 k = none := by rw [← hC_8]; exact (pw_up_ne _ _ (by omega)).trans n16
  refine lv_aload_n hx hb d_D_init_18 rfl (lv_at hl 0 rfl) ?_
  refine lv_iconst (v := 4) hx hb d_D_init_19 (by decide) ?_
  refine pw_newa (atype := .int) (ty := .int) (az := (4, .inl (fun _ => 0))) hx hb (hts _ wd_127) rfl (fun t h => by cases h) hK hw hA 14 k (by decide) n14 0 rfl (fun _ => rfl) (by decide) (by omega) (by show _ * 4 ≤ _; omega) (by (try dsimp only); omega) (by (try dsimp only); omega) d_D_init_20 (fun q_9 H hw => ?_)
  refine W.widen (k := 3) (n := 24) (by omega) (by omega) ?_
  obtain ⟨ad_10, had_10⟩ : ∃ z, z = pw_up ad_6 14 k q_9 := ⟨_, rfl⟩
  rw [← had_10] at hw
  have hsad_10 : ad_10 14 k = q_9 := by rw [had_10]; exact pw_up_self _ _ _ _
  have hadk : ∀ x9 y9, ¬ (x9 = 12 ∧ y9 = k) → ¬ (x9 = 13 ∧ y9 = k) → ¬ (x9 = 14 ∧ y9 = k) → ad_10 x9 y9 = ad x9 y9 := fun x9 y9 e0 e1 h9 => by rw [had_10]; exact (pw_up_ne _ _ h9).trans (hadk x9 y9 e0 e1)
  have hq_q_1 : ad_10 12 k = q_1 := by rw [had_10]; exact (pw_up_ne _ _ (by omega)).trans hq_q_1
  have hq_q_5 : ad_10 13 k = q_5 := by rw [had_10]; exact (pw_up_ne _ _ (by omega)).trans hsad_6
  have hw : pw_H D cls9 A s.heap ad C ad_10 (pw_up C_8 14 k (some (.inl (ca 0, 4, .inl (fun _ => 0))))) H _ := hw
  generalize hC_11 : pw_up C_8 14 k (some (.inl (ca 0, 4, .inl (fun _ => 0)))) = C_11 at hw
  have p10 : C_11 10 k = some (.inr (2, [.int 0, .int 0, .long 0, .null, .null, .ref q_1, .ref q_5, .null, .int 0, .int 0, .int 0])) := by rw [← hC_11]; exact (pw_up_ne _ _ (by omega)).trans p10
  have p12 : C_11 12 k = some (.inl (ca 0, 4, .inl (fun _ => 0))) := by rw [← hC_11]; exact (pw_up_ne _ _ (by omega)).trans p12
  have p13 : C_11 13 k = some (.inl (ca 0, 4, .inl (fun _ => 0))) := by rw [← hC_11]; exact (pw_up_ne _ _ (by omega)).trans p13
  have p14 : C_11 14 k = some (.inl (ca 0, 4, .inl (fun _ => 0))) := by rw [← hC_11]; exact pw_up_self _ _ _ _
  have hfr : ∀ x y, ¬ ((9 < x ∧ x < 17 ∧ ¬ x = 11) ∧ y = k) → C_11 x y = C x y := fun x y h0 => by rw [← hC_11]; exact (pw_up_ne _ _ (by omega)).trans (hfr x y h0)
  have n15 : C_11 15 k = none := by rw [← hC_11]; exact (pw_up_ne _ _ (by omega)).trans n15
  have n16 : C_11 16 k = none := by rw [← hC_11]; exact (pw_up_ne _ _ (by omega)).trans n16
  refine pw_putF (Cn := "GraphWriter$Defined") (T := F_D) (N := 11) (v := .ref q_9) (ty := .array .int) hx hb hts in_D ft_D to_D nm_D hown hK hw 10 k (by decide) (hadk 10 k (by omega) (by omega) (by omega)) p10 rfl 7 (by decide) (hts _ wd_308) (fun _ h9 => h9) rfl hnm rfl (by decide +kernel) rfl rfl (Nat.le_of_ble_eq_true rfl) d_D_init_22 (fun H locs hw => ?_)
  have hw : pw_H D cls9 A s.heap ad C ad_10 (pw_up C_11 10 k (some (.inr (2, [.int 0, .int 0, .long 0, .null, .null, .ref q_1, .ref q_5, .ref q_9, .int 0, .int 0, .int 0])))) H _ := hw
  generalize hC_12 : pw_up C_11 10 k (some (.inr (2, [.int 0, .int 0, .long 0, .null, .null, .ref q_1, .ref q_5, .ref q_9, .int 0, .int 0, .int 0]))) = C_12 at hw
  have p12 : C_12 12 k = some (.inl (ca 0, 4, .inl (fun _ => 0))) := by rw [← hC_12]; exact (pw_up_ne _ _ (by omega)).trans p12
  have p13 : C_12 13 k = some (.inl (ca 0, 4, .inl (fun _ => 0))) := by rw [← hC_12]; exact (pw_up_ne _ _ (by omega)).trans p13
  have p14 : C_12 14 k = some (.inl (ca 0, 4, .inl (fun _ => 0))) := by rw [← hC_12]; exact (pw_up_ne _ _ (by omega)).trans p14
  have p10 : C_12 10 k = some (.inr (2, [.int 0, .int 0, .long 0, .null, .null, .ref q_1, .ref q_5, .ref q_9, .int 0, .int 0, .int 0])) := by rw [← hC_12]; exact pw_up_self _ _ _ _
  have hfr : ∀ x y, ¬ ((9 < x ∧ x < 17 ∧ ¬ x = 11) ∧ y = k) → C_12 x y = C x y := fun x y h0 => by rw [← hC_12]; exact (pw_up_ne _ _ (by omega)).trans (hfr x y h0)
  have n15 : C_12 15 k = none := by rw [← hC_12]; exact (pw_up_ne _ _ (by omega)).trans n15
  have n16 : C_12 16 k = none := by rw [← hC_12]; exact (pw_up_ne _ _ (by omega)).trans n16
  refine lv_aload_n hx hb d_D_init_25 rfl (lv_at hl 0 rfl) ?_
  refine lv_iload_n hx hb d_D_init_26 rfl (lv_at hl 1 rfl) ?_
  refine pw_putF (Cn := "GraphWriter$Defined") (T := F_D) (N := 11) (v := .int (nI k)) (ty := .int) hx hb hts in_D ft_D to_D nm_D hown hK hw 10 k (by decide) (hadk 10 k (by omega) (by omega) (by omega)) p10 rfl 0 (by decide) (hts _ wd_294) (fun _ h9 => h9) rfl hnm rfl (by decide +kernel) rfl rfl (Nat.le_of_ble_eq_true rfl) d_D_init_27 (fun H locs hw => ?_)
  have hw : pw_H D cls9 A s.heap ad C ad_10 (pw_up C_12 10 k (some (.inr (2, [.int (nI k), .int 0, .long 0, .null, .null, .ref q_1, .ref q_5, .ref q_9, .int 0, .int 0, .int 0])))) H _ := hw
  generalize hC_13 : pw_up C_12 10 k (some (.inr (2, [.int (nI k), .int 0, .long 0, .null, .null, .ref q_1, .ref q_5, .ref q_9, .int 0, .int 0, .int 0]))) = C_13 at hw
  have p12 : C_13 12 k = some (.inl (ca 0, 4, .inl (fun _ => 0))) := by rw [← hC_13]; exact (pw_up_ne _ _ (by omega)).trans p12
  have p13 : C_13 13 k = some (.inl (ca 0, 4, .inl (fun _ => 0))) := by rw [← hC_13]; exact (pw_up_ne _ _ (by omega)).trans p13
  have p14 : C_13 14 k = some (.inl (ca 0, 4, .inl (fun _ => 0))) := by rw [← hC_13]; exact (pw_up_ne _ _ (by omega)).trans p14
  have p10 : C_13 10 k = some (.inr (2, [.int (nI k), .int 0, .long 0, .null, .null, .ref q_1, .ref q_5, .ref q_9, .int 0, .int 0, .int 0])) := by rw [← hC_13]; exact pw_up_self _ _ _ _
  have hfr : ∀ x y, ¬ ((9 < x ∧ x < 17 ∧ ¬ x = 11) ∧ y = k) → C_13 x y = C x y := fun x y h0 => by rw [← hC_13]; exact (pw_up_ne _ _ (by omega)).trans (hfr x y h0)
  have n15 : C_13 15 k = none := by rw [← hC_13]; exact (pw_up_ne _ _ (by omega)).trans n15
  have n16 : C_13 16 k = none := by rw [← hC_13]; exact (pw_up_ne _ _ (by omega)).trans n16
  refine lv_aload_n hx hb d_D_init_30 rfl (lv_at hl 0 rfl) ?_
  refine lv_iload_n hx hb d_D_init_31 rfl (lv_at hl 2 rfl) ?_
  refine pw_putF (Cn := "GraphWriter$Defined") (T := F_D) (N := 11) (v := .int kd) (ty := .int) hx hb hts in_D ft_D to_D nm_D hown hK hw 10 k (by decide) (hadk 10 k (by omega) (by omega) (by omega)) p10 rfl 1 (by decide) (hts _ wd_296) (fun _ h9 => h9) rfl hnm rfl (by decide +kernel) rfl rfl (Nat.le_of_ble_eq_true rfl) d_D_init_32 (fun H locs hw => ?_)
  have hw : pw_H D cls9 A s.heap ad C ad_10 (pw_up C_13 10 k (some (.inr (2, [.int (nI k), .int kd, .long 0, .null, .null, .ref q_1, .ref q_5, .ref q_9, .int 0, .int 0, .int 0])))) H _ := hw
  generalize hC_14 : pw_up C_13 10 k (some (.inr (2, [.int (nI k), .int kd, .long 0, .null, .null, .ref q_1, .ref q_5, .ref q_9, .int 0, .int 0, .int 0]))) = C_14 at hw
  have p12 : C_14 12 k = some (.inl (ca 0, 4, .inl (fun _ => 0))) := by rw [← hC_14]; exact (pw_up_ne _ _ (by omega)).trans p12
  have p13 : C_14 13 k = some (.inl (ca 0, 4, .inl (fun _ => 0))) := by rw [← hC_14]; exact (pw_up_ne _ _ (by omega)).trans p13
  have p14 : C_14 14 k = some (.inl (ca 0, 4, .inl (fun _ => 0))) := by rw [← hC_14]; exact (pw_up_ne _ _ (by omega)).trans p14
  have p10 : C_14 10 k = some (.inr (2, [.int (nI k), .int kd, .long 0, .null, .null, .ref q_1, .ref q_5, .ref q_9, .int 0, .int 0, .int 0])) := by rw [← hC_14]; exact pw_up_self _ _ _ _
  have hfr : ∀ x y, ¬ ((9 < x ∧ x < 17 ∧ ¬ x = 11) ∧ y = k) → C_14 x y = C x y := fun x y h0 => by rw [← hC_14]; exact (pw_up_ne _ _ (by omega)).trans (hfr x y h0)
  have n15 : C_14 15 k = none := by rw [← hC_14]; exact (pw_up_ne _ _ (by omega)).trans n15
  have n16 : C_14 16 k = none := by rw [← hC_14]; exact (pw_up_ne _ _ (by omega)).trans n16
  refine lv_aload_n hx hb d_D_init_35 rfl (lv_at hl 0 rfl) ?_
  refine lv_iload_n hx hb d_D_init_36 rfl (lv_at hl 2 rfl) ?_
  refine lv_iconst (v := 3) hx hb d_D_init_37 (by decide) ?_
  refine lv_icmp_ne (tgt := 45) hx hb d_D_init_38 (by decide) (fun c_15 => ?_) (fun c_15 => ?_)
  · skip
    refine lv_lload_n hx hb d_D_init_45 rfl (lv_at hl 3 rfl) ?_
    refine pw_putF (Cn := "GraphWriter$Defined") (T := F_D) (N := 11) (v := .long id) (ty := .long) hx hb hts in_D ft_D to_D nm_D hown hK hw 10 k (by decide) (hadk 10 k (by omega) (by omega) (by omega)) p10 rfl 2 (by decide) (hts _ wd_298) (fun _ h9 => h9) rfl hnm rfl (by decide +kernel) rfl rfl (Nat.le_of_ble_eq_true rfl) d_D_init_46 (fun H locs hw => ?_)
    have hw : pw_H D cls9 A s.heap ad C ad_10 (pw_up C_14 10 k (some (.inr (2, [.int (nI k), .int kd, .long id, .null, .null, .ref q_1, .ref q_5, .ref q_9, .int 0, .int 0, .int 0])))) H _ := hw
    generalize hC_16 : pw_up C_14 10 k (some (.inr (2, [.int (nI k), .int kd, .long id, .null, .null, .ref q_1, .ref q_5, .ref q_9, .int 0, .int 0, .int 0]))) = C_16 at hw
    have p12 : C_16 12 k = some (.inl (ca 0, 4, .inl (fun _ => 0))) := by rw [← hC_16]; exact (pw_up_ne _ _ (by omega)).trans p12
    have p13 : C_16 13 k = some (.inl (ca 0, 4, .inl (fun _ => 0))) := by rw [← hC_16]; exact (pw_up_ne _ _ (by omega)).trans p13
    have p14 : C_16 14 k = some (.inl (ca 0, 4, .inl (fun _ => 0))) := by rw [← hC_16]; exact (pw_up_ne _ _ (by omega)).trans p14
    have p10 : C_16 10 k = some (.inr (2, [.int (nI k), .int kd, .long id, .null, .null, .ref q_1, .ref q_5, .ref q_9, .int 0, .int 0, .int 0])) := by rw [← hC_16]; exact pw_up_self _ _ _ _
    have hfr : ∀ x y, ¬ ((9 < x ∧ x < 17 ∧ ¬ x = 11) ∧ y = k) → C_16 x y = C x y := fun x y h0 => by rw [← hC_16]; exact (pw_up_ne _ _ (by omega)).trans (hfr x y h0)
    have n15 : C_16 15 k = none := by rw [← hC_16]; exact (pw_up_ne _ _ (by omega)).trans n15
    have n16 : C_16 16 k = none := by rw [← hC_16]; exact (pw_up_ne _ _ (by omega)).trans n16
    refine lv_aload_n hx hb d_D_init_49 rfl (lv_at hl 0 rfl) ?_
    refine va_ldcS (q := kS 7) (tx := "ABCDEF") hx hb hown hk7 d_D_init_50 ?_
    refine lv_iload_n hx hb d_D_init_52 rfl (lv_at hl 1 rfl) ?_
    refine lv_iload_n hx hb d_D_init_53 rfl (lv_at hl 1 rfl) ?_
    refine lv_iconst (v := 1) hx hb d_D_init_54 (by decide) ?_
    refine lv_iadd hx hb d_D_init_55 ?_
    have hst1 : st_at ca ad_10 C_16 50 7 51 7 (z9_tx 7) := hst0.ad (hfr 50 7 (by omega)) (hfr 51 7 (by omega)) (hadk 51 7 (by omega) (by omega) (by omega))
    have hst9 := hst1
    obtain ⟨f0, u1, u2, s50, s51, -⟩ := hst9
    rw [nI_1, ← hka, ← hadk 50 7 (by omega) (by omega) (by omega)]
    refine pw_callr (va_runV (As := [.int (nI k), .int (nI (k + 1))]) (rest := [.ref (ad 10 k)]) ⟨hx, hb, hml, hown, hts0⟩ (k_JS_substring (ad := ad_10) (u := 15) (v := k) hst1 (by decide) (by decide) (by decide) n15 n16 (by show k < 6; omega) (by decide) _) (cwV 2 hts0 (wd_V wd_194 wd_191 wd_192 wd_193 wd_60) rfl rfl rfl (by decide +kernel) ⟨(by (try dsimp only); omega), (by (try dsimp only); omega)⟩) (pw_preV hZ hw hA hK hz rfl s50 rfl) rfl rfl hl.1 rfl (lv_room (Nat.le_of_ble_eq_true rfl)) d_D_init_56 ⟨(by (try dsimp only); omega), (by (try dsimp only); omega)⟩) hw hA (fun r_19 ad_17 C_18 H locs hp hw => ?_)
    obtain ⟨⟨q_20, hae⟩, hst, hf9⟩ := hp
    refine W.widen (k := 5) (n := 40) (by omega) (by omega) ?_
    have hs15 : ad_17 15 k = r_19 := by rw [hae]; exact (pw_up_ne _ _ (by omega)).trans (pw_up_self _ _ _ _)
    have hs16 : ad_17 16 k = q_20 := by rw [hae]; exact pw_up_self _ _ _ _
    have hr_q_1 : ad_17 12 k = q_1 := by rw [hae]; exact ((pw_up_ne _ _ (by omega)).trans (pw_up_ne _ _ (by omega))).trans hq_q_1
    have hr_q_5 : ad_17 13 k = q_5 := by rw [hae]; exact ((pw_up_ne _ _ (by omega)).trans (pw_up_ne _ _ (by omega))).trans hq_q_5
    have hr_q_9 : ad_17 14 k = q_9 := by rw [hae]; exact ((pw_up_ne _ _ (by omega)).trans (pw_up_ne _ _ (by omega))).trans hsad_10
    have hadk : ∀ x9 y9, ¬ (x9 = 12 ∧ y9 = k) → ¬ (x9 = 13 ∧ y9 = k) → ¬ (x9 = 14 ∧ y9 = k) → ¬ (x9 = 15 ∧ y9 = k) → ¬ (x9 = 16 ∧ y9 = k) → ad_17 x9 y9 = ad x9 y9 := fun x9 y9 e0 e1 e2 h1 h2 => by rw [hae]; exact ((pw_up_ne _ _ (by omega)).trans (pw_up_ne _ _ (by omega))).trans (hadk x9 y9 e0 e1 e2)
    clear hae
    have p10 : C_18 10 k = some (.inr (2, [.int (nI k), .int kd, .long id, .null, .null, .ref q_1, .ref q_5, .ref q_9, .int 0, .int 0, .int 0])) := (hf9 10 k (by omega) (by omega)).trans p10
    have p12 : C_18 12 k = some (.inl (ca 0, 4, .inl (fun _ => 0))) := (hf9 12 k (by omega) (by omega)).trans p12
    have p13 : C_18 13 k = some (.inl (ca 0, 4, .inl (fun _ => 0))) := (hf9 13 k (by omega) (by omega)).trans p13
    have p14 : C_18 14 k = some (.inl (ca 0, 4, .inl (fun _ => 0))) := (hf9 14 k (by omega) (by omega)).trans p14
    have hfr : ∀ x y, ¬ ((9 < x ∧ x < 17 ∧ ¬ x = 11) ∧ y = k) → C_18 x y = C x y := fun x y a => (hf9 x y (by omega) (by omega)).trans (hfr x y a)
    rw [st_cls k hk6] at hst
    obtain ⟨f9, v1, v2, s15, s16, hsf, hsn, hsc⟩ := hst
    have s16 : C_18 16 k = _ := s16
    rw [show (15 : Nat) + 1 = 16 from rfl, hs16] at s15
    have s16 : C_18 16 k = some (.inl (ca 2, 1, .inl f9)) := s16
    refine pw_putF (Cn := "GraphWriter$Defined") (T := F_D) (N := 11) (v := .ref r_19) (ty := .object "java/lang/String") hx hb hts in_D ft_D to_D nm_D hown hK hw 10 k (by decide) (hadk 10 k (by omega) (by omega) (by omega) (by omega) (by omega)) p10 rfl 3 (by decide) (hts _ wd_300) (fun _ h9 => h9) rfl hnm rfl (by decide +kernel) rfl rfl (Nat.le_of_ble_eq_true rfl) d_D_init_59 (fun H locs hw => ?_)
    have hw : pw_H D cls9 A s.heap ad C ad_17 (pw_up C_18 10 k (some (.inr (2, [.int (nI k), .int kd, .long id, .ref r_19, .null, .ref q_1, .ref q_5, .ref q_9, .int 0, .int 0, .int 0])))) H _ := hw
    generalize hC_21 : pw_up C_18 10 k (some (.inr (2, [.int (nI k), .int kd, .long id, .ref r_19, .null, .ref q_1, .ref q_5, .ref q_9, .int 0, .int 0, .int 0]))) = C_21 at hw
    have p12 : C_21 12 k = some (.inl (ca 0, 4, .inl (fun _ => 0))) := by rw [← hC_21]; exact (pw_up_ne _ _ (by omega)).trans p12
    have p13 : C_21 13 k = some (.inl (ca 0, 4, .inl (fun _ => 0))) := by rw [← hC_21]; exact (pw_up_ne _ _ (by omega)).trans p13
    have p14 : C_21 14 k = some (.inl (ca 0, 4, .inl (fun _ => 0))) := by rw [← hC_21]; exact (pw_up_ne _ _ (by omega)).trans p14
    have s15 : C_21 15 k = some (.inr (5, [.ref q_20, .int 0, v1, v2])) := by rw [← hC_21]; exact (pw_up_ne _ _ (by omega)).trans s15
    have s16 : C_21 16 k = some (.inl (ca 2, 1, .inl f9)) := by rw [← hC_21]; exact (pw_up_ne _ _ (by omega)).trans s16
    have p10 : C_21 10 k = some (.inr (2, [.int (nI k), .int kd, .long id, .ref r_19, .null, .ref q_1, .ref q_5, .ref q_9, .int 0, .int 0, .int 0])) := by rw [← hC_21]; exact pw_up_self _ _ _ _
    have hfr : ∀ x y, ¬ ((9 < x ∧ x < 17 ∧ ¬ x = 11) ∧ y = k) → C_21 x y = C x y := fun x y h0 => by rw [← hC_21]; exact (pw_up_ne _ _ (by omega)).trans (hfr x y h0)
    refine lv_aload_n hx hb d_D_init_62 rfl (lv_at hl 0 rfl) ?_
    refine lv_aload hx hb d_D_init_63 (lv_at hl 4 rfl) ?_
    refine pw_putF (Cn := "GraphWriter$Defined") (T := F_D) (N := 11) (v := .ref (ad 11 k)) (ty := .array .int) hx hb hts in_D ft_D to_D nm_D hown hK hw 10 k (by decide) (hadk 10 k (by omega) (by omega) (by omega) (by omega) (by omega)) p10 rfl 4 (by decide) (hts _ wd_302) (fun _ h9 => h9) rfl hnm rfl (by decide +kernel) rfl rfl (Nat.le_of_ble_eq_true rfl) d_D_init_65 (fun H locs hw => ?_)
    have hw : pw_H D cls9 A s.heap ad C ad_17 (pw_up C_21 10 k (some (.inr (2, [.int (nI k), .int kd, .long id, .ref r_19, .ref (ad 11 k), .ref q_1, .ref q_5, .ref q_9, .int 0, .int 0, .int 0])))) H _ := hw
    generalize hC_22 : pw_up C_21 10 k (some (.inr (2, [.int (nI k), .int kd, .long id, .ref r_19, .ref (ad 11 k), .ref q_1, .ref q_5, .ref q_9, .int 0, .int 0, .int 0]))) = C_22 at hw
    have p12 : C_22 12 k = some (.inl (ca 0, 4, .inl (fun _ => 0))) := by rw [← hC_22]; exact (pw_up_ne _ _ (by omega)).trans p12
    have p13 : C_22 13 k = some (.inl (ca 0, 4, .inl (fun _ => 0))) := by rw [← hC_22]; exact (pw_up_ne _ _ (by omega)).trans p13
    have p14 : C_22 14 k = some (.inl (ca 0, 4, .inl (fun _ => 0))) := by rw [← hC_22]; exact (pw_up_ne _ _ (by omega)).trans p14
    have s15 : C_22 15 k = some (.inr (5, [.ref q_20, .int 0, v1, v2])) := by rw [← hC_22]; exact (pw_up_ne _ _ (by omega)).trans s15
    have s16 : C_22 16 k = some (.inl (ca 2, 1, .inl f9)) := by rw [← hC_22]; exact (pw_up_ne _ _ (by omega)).trans s16
    have p10 : C_22 10 k = some (.inr (2, [.int (nI k), .int kd, .long id, .ref r_19, .ref (ad 11 k), .ref q_1, .ref q_5, .ref q_9, .int 0, .int 0, .int 0])) := by rw [← hC_22]; exact pw_up_self _ _ _ _
    have hfr : ∀ x y, ¬ ((9 < x ∧ x < 17 ∧ ¬ x = 11) ∧ y = k) → C_22 x y = C x y := fun x y h0 => by rw [← hC_22]; exact (pw_up_ne _ _ (by omega)).trans (hfr x y h0)
    refine pw_vret hx hb hr hlocks hw ⟨?_, p12, p13, p14, ⟨f9, v1, v2, by rw [hs16]; exact s15, s16, hsf, hsn, hsc⟩, hfr, fun x y h => hadk x y (by omega) (by omega) (by omega) (by omega) (by omega)⟩ d_D_init_68
    rw [hs15, hr_q_1, hr_q_5, hr_q_9, if_neg c_15]; exact p10
  · skip
    refine lv_lconst (v := 0) hx hb d_D_init_41 (by decide) ?_
    refine lv_goto (tgt := 46) hx hb d_D_init_42 (by decide) ?_
    refine pw_putF (Cn := "GraphWriter$Defined") (T := F_D) (N := 11) (v := .long 0) (ty := .long) hx hb hts in_D ft_D to_D nm_D hown hK hw 10 k (by decide) (hadk 10 k (by omega) (by omega) (by omega)) p10 rfl 2 (by decide) (hts _ wd_298) (fun _ h9 => h9) rfl hnm rfl (by decide +kernel) rfl rfl (Nat.le_of_ble_eq_true rfl) d_D_init_46 (fun H locs hw => ?_)
    have hw : pw_H D cls9 A s.heap ad C ad_10 (pw_up C_14 10 k (some (.inr (2, [.int (nI k), .int kd, .long 0, .null, .null, .ref q_1, .ref q_5, .ref q_9, .int 0, .int 0, .int 0])))) H _ := hw
    generalize hC_23 : pw_up C_14 10 k (some (.inr (2, [.int (nI k), .int kd, .long 0, .null, .null, .ref q_1, .ref q_5, .ref q_9, .int 0, .int 0, .int 0]))) = C_23 at hw
    have p12 : C_23 12 k = some (.inl (ca 0, 4, .inl (fun _ => 0))) := by rw [← hC_23]; exact (pw_up_ne _ _ (by omega)).trans p12
    have p13 : C_23 13 k = some (.inl (ca 0, 4, .inl (fun _ => 0))) := by rw [← hC_23]; exact (pw_up_ne _ _ (by omega)).trans p13
    have p14 : C_23 14 k = some (.inl (ca 0, 4, .inl (fun _ => 0))) := by rw [← hC_23]; exact (pw_up_ne _ _ (by omega)).trans p14
    have p10 : C_23 10 k = some (.inr (2, [.int (nI k), .int kd, .long 0, .null, .null, .ref q_1, .ref q_5, .ref q_9, .int 0, .int 0, .int 0])) := by rw [← hC_23]; exact pw_up_self _ _ _ _
    have hfr : ∀ x y, ¬ ((9 < x ∧ x < 17 ∧ ¬ x = 11) ∧ y = k) → C_23 x y = C x y := fun x y h0 => by rw [← hC_23]; exact (pw_up_ne _ _ (by omega)).trans (hfr x y h0)
    have n15 : C_23 15 k = none := by rw [← hC_23]; exact (pw_up_ne _ _ (by omega)).trans n15
    have n16 : C_23 16 k = none := by rw [← hC_23]; exact (pw_up_ne _ _ (by omega)).trans n16
    refine lv_aload_n hx hb d_D_init_49 rfl (lv_at hl 0 rfl) ?_
    refine va_ldcS (q := kS 7) (tx := "ABCDEF") hx hb hown hk7 d_D_init_50 ?_
    refine lv_iload_n hx hb d_D_init_52 rfl (lv_at hl 1 rfl) ?_
    refine lv_iload_n hx hb d_D_init_53 rfl (lv_at hl 1 rfl) ?_
    refine lv_iconst (v := 1) hx hb d_D_init_54 (by decide) ?_
    refine lv_iadd hx hb d_D_init_55 ?_
    have hst1 : st_at ca ad_10 C_23 50 7 51 7 (z9_tx 7) := hst0.ad (hfr 50 7 (by omega)) (hfr 51 7 (by omega)) (hadk 51 7 (by omega) (by omega) (by omega))
    have hst9 := hst1
    obtain ⟨f0, u1, u2, s50, s51, -⟩ := hst9
    rw [nI_1, ← hka, ← hadk 50 7 (by omega) (by omega) (by omega)]
    refine pw_callr (va_runV (As := [.int (nI k), .int (nI (k + 1))]) (rest := [.ref (ad 10 k)]) ⟨hx, hb, hml, hown, hts0⟩ (k_JS_substring (ad := ad_10) (u := 15) (v := k) hst1 (by decide) (by decide) (by decide) n15 n16 (by show k < 6; omega) (by decide) _) (cwV 2 hts0 (wd_V wd_194 wd_191 wd_192 wd_193 wd_60) rfl rfl rfl (by decide +kernel) ⟨(by (try dsimp only); omega), (by (try dsimp only); omega)⟩) (pw_preV hZ hw hA hK hz rfl s50 rfl) rfl rfl hl.1 rfl (lv_room (Nat.le_of_ble_eq_true rfl)) d_D_init_56 ⟨(by (try dsimp only); omega), (by (try dsimp only); omega)⟩) hw hA (fun r_26 ad_24 C_25 H locs hp hw => ?_)
    obtain ⟨⟨q_27, hae⟩, hst, hf9⟩ := hp
    refine W.widen (k := 5) (n := 40) (by omega) (by omega) ?_
    have hs15 : ad_24 15 k = r_26 := by rw [hae]; exact (pw_up_ne _ _ (by omega)).trans (pw_up_self _ _ _ _)
    have hs16 : ad_24 16 k = q_27 := by rw [hae]; exact pw_up_self _ _ _ _
    have hr_q_1 : ad_24 12 k = q_1 := by rw [hae]; exact ((pw_up_ne _ _ (by omega)).trans (pw_up_ne _ _ (by omega))).trans hq_q_1
    have hr_q_5 : ad_24 13 k = q_5 := by rw [hae]; exact ((pw_up_ne _ _ (by omega)).trans (pw_up_ne _ _ (by omega))).trans hq_q_5
    have hr_q_9 : ad_24 14 k = q_9 := by rw [hae]; exact ((pw_up_ne _ _ (by omega)).trans (pw_up_ne _ _ (by omega))).trans hsad_10
    have hadk : ∀ x9 y9, ¬ (x9 = 12 ∧ y9 = k) → ¬ (x9 = 13 ∧ y9 = k) → ¬ (x9 = 14 ∧ y9 = k) → ¬ (x9 = 15 ∧ y9 = k) → ¬ (x9 = 16 ∧ y9 = k) → ad_24 x9 y9 = ad x9 y9 := fun x9 y9 e0 e1 e2 h1 h2 => by rw [hae]; exact ((pw_up_ne _ _ (by omega)).trans (pw_up_ne _ _ (by omega))).trans (hadk x9 y9 e0 e1 e2)
    clear hae
    have p10 : C_25 10 k = some (.inr (2, [.int (nI k), .int kd, .long 0, .null, .null, .ref q_1, .ref q_5, .ref q_9, .int 0, .int 0, .int 0])) := (hf9 10 k (by omega) (by omega)).trans p10
    have p12 : C_25 12 k = some (.inl (ca 0, 4, .inl (fun _ => 0))) := (hf9 12 k (by omega) (by omega)).trans p12
    have p13 : C_25 13 k = some (.inl (ca 0, 4, .inl (fun _ => 0))) := (hf9 13 k (by omega) (by omega)).trans p13
    have p14 : C_25 14 k = some (.inl (ca 0, 4, .inl (fun _ => 0))) := (hf9 14 k (by omega) (by omega)).trans p14
    have hfr : ∀ x y, ¬ ((9 < x ∧ x < 17 ∧ ¬ x = 11) ∧ y = k) → C_25 x y = C x y := fun x y a => (hf9 x y (by omega) (by omega)).trans (hfr x y a)
    rw [st_cls k hk6] at hst
    obtain ⟨f9, v1, v2, s15, s16, hsf, hsn, hsc⟩ := hst
    have s16 : C_25 16 k = _ := s16
    rw [show (15 : Nat) + 1 = 16 from rfl, hs16] at s15
    have s16 : C_25 16 k = some (.inl (ca 2, 1, .inl f9)) := s16
    refine pw_putF (Cn := "GraphWriter$Defined") (T := F_D) (N := 11) (v := .ref r_26) (ty := .object "java/lang/String") hx hb hts in_D ft_D to_D nm_D hown hK hw 10 k (by decide) (hadk 10 k (by omega) (by omega) (by omega) (by omega) (by omega)) p10 rfl 3 (by decide) (hts _ wd_300) (fun _ h9 => h9) rfl hnm rfl (by decide +kernel) rfl rfl (Nat.le_of_ble_eq_true rfl) d_D_init_59 (fun H locs hw => ?_)
    have hw : pw_H D cls9 A s.heap ad C ad_24 (pw_up C_25 10 k (some (.inr (2, [.int (nI k), .int kd, .long 0, .ref r_26, .null, .ref q_1, .ref q_5, .ref q_9, .int 0, .int 0, .int 0])))) H _ := hw
    generalize hC_28 : pw_up C_25 10 k (some (.inr (2, [.int (nI k), .int kd, .long 0, .ref r_26, .null, .ref q_1, .ref q_5, .ref q_9, .int 0, .int 0, .int 0]))) = C_28 at hw
    have p12 : C_28 12 k = some (.inl (ca 0, 4, .inl (fun _ => 0))) := by rw [← hC_28]; exact (pw_up_ne _ _ (by omega)).trans p12
    have p13 : C_28 13 k = some (.inl (ca 0, 4, .inl (fun _ => 0))) := by rw [← hC_28]; exact (pw_up_ne _ _ (by omega)).trans p13
    have p14 : C_28 14 k = some (.inl (ca 0, 4, .inl (fun _ => 0))) := by rw [← hC_28]; exact (pw_up_ne _ _ (by omega)).trans p14
    have s15 : C_28 15 k = some (.inr (5, [.ref q_27, .int 0, v1, v2])) := by rw [← hC_28]; exact (pw_up_ne _ _ (by omega)).trans s15
    have s16 : C_28 16 k = some (.inl (ca 2, 1, .inl f9)) := by rw [← hC_28]; exact (pw_up_ne _ _ (by omega)).trans s16
    have p10 : C_28 10 k = some (.inr (2, [.int (nI k), .int kd, .long 0, .ref r_26, .null, .ref q_1, .ref q_5, .ref q_9, .int 0, .int 0, .int 0])) := by rw [← hC_28]; exact pw_up_self _ _ _ _
    have hfr : ∀ x y, ¬ ((9 < x ∧ x < 17 ∧ ¬ x = 11) ∧ y = k) → C_28 x y = C x y := fun x y h0 => by rw [← hC_28]; exact (pw_up_ne _ _ (by omega)).trans (hfr x y h0)
    refine lv_aload_n hx hb d_D_init_62 rfl (lv_at hl 0 rfl) ?_
    refine lv_aload hx hb d_D_init_63 (lv_at hl 4 rfl) ?_
    refine pw_putF (Cn := "GraphWriter$Defined") (T := F_D) (N := 11) (v := .ref (ad 11 k)) (ty := .array .int) hx hb hts in_D ft_D to_D nm_D hown hK hw 10 k (by decide) (hadk 10 k (by omega) (by omega) (by omega) (by omega) (by omega)) p10 rfl 4 (by decide) (hts _ wd_302) (fun _ h9 => h9) rfl hnm rfl (by decide +kernel) rfl rfl (Nat.le_of_ble_eq_true rfl) d_D_init_65 (fun H locs hw => ?_)
    have hw : pw_H D cls9 A s.heap ad C ad_24 (pw_up C_28 10 k (some (.inr (2, [.int (nI k), .int kd, .long 0, .ref r_26, .ref (ad 11 k), .ref q_1, .ref q_5, .ref q_9, .int 0, .int 0, .int 0])))) H _ := hw
    generalize hC_29 : pw_up C_28 10 k (some (.inr (2, [.int (nI k), .int kd, .long 0, .ref r_26, .ref (ad 11 k), .ref q_1, .ref q_5, .ref q_9, .int 0, .int 0, .int 0]))) = C_29 at hw
    have p12 : C_29 12 k = some (.inl (ca 0, 4, .inl (fun _ => 0))) := by rw [← hC_29]; exact (pw_up_ne _ _ (by omega)).trans p12
    have p13 : C_29 13 k = some (.inl (ca 0, 4, .inl (fun _ => 0))) := by rw [← hC_29]; exact (pw_up_ne _ _ (by omega)).trans p13
    have p14 : C_29 14 k = some (.inl (ca 0, 4, .inl (fun _ => 0))) := by rw [← hC_29]; exact (pw_up_ne _ _ (by omega)).trans p14
    have s15 : C_29 15 k = some (.inr (5, [.ref q_27, .int 0, v1, v2])) := by rw [← hC_29]; exact (pw_up_ne _ _ (by omega)).trans s15
    have s16 : C_29 16 k = some (.inl (ca 2, 1, .inl f9)) := by rw [← hC_29]; exact (pw_up_ne _ _ (by omega)).trans s16
    have p10 : C_29 10 k = some (.inr (2, [.int (nI k), .int kd, .long 0, .ref r_26, .ref (ad 11 k), .ref q_1, .ref q_5, .ref q_9, .int 0, .int 0, .int 0])) := by rw [← hC_29]; exact pw_up_self _ _ _ _
    have hfr : ∀ x y, ¬ ((9 < x ∧ x < 17 ∧ ¬ x = 11) ∧ y = k) → C_29 x y = C x y := fun x y h0 => by rw [← hC_29]; exact (pw_up_ne _ _ (by omega)).trans (hfr x y h0)
    refine pw_vret hx hb hr hlocks hw ⟨?_, p12, p13, p14, ⟨f9, v1, v2, by rw [hs16]; exact s15, s16, hsf, hsn, hsc⟩, hfr, fun x y h => hadk x y (by omega) (by omega) (by omega) (by omega) (by omega)⟩ d_D_init_68
    rw [hs15, hr_q_1, hr_q_5, hr_q_9, if_pos c_15]; exact p10
