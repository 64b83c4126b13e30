def ga_cst (k n : Int32) : TT := (4, k, 0, fun _ => 0, tt_v0 (fun _ => 0) 0, [(z9_tx 0).getD n.toNatClampNeg 0], -1, 0)
def ga_constant (cd : Nat → Option DT) (mk : Nat) (td : Nat → TT) (k n : Int32) : Int32 × Nat × (Nat → TT) := if ga_isdef cd k = 0 ∨ n < 0 ∨ ¬ n < 26 then (-1, mk, td) else match cd k.toNatClampNeg with
  | none => (-1, mk, td)
  | some d => if ¬ dd_kd d = 3 then (-1, mk, td) else if 12 ≤ nI mk then (-2, mk, td) else (nI mk, mk + 1, va_up td mk (ga_cst k n))
set_option maxHeartbeats 4000000 in
set_option maxRecDepth 100000 in
theorem k_G_constant {l : Launch} {D : va_G} {ca : Nat → ClassId} {kS : Nat → Nat} {kT : Nat} {ad : pw_A} {C : pw_C} {cd : Nat → Option DT} {mk : Nat} {td : Nat → TT} (hG : gw_at ca kS kT ad C cd mk td) (hnn : ∀ x, 19 < x → x < 25 → C x mk = none) (k n : Int32) : gc_Con l y_G_constant c_G_constant ({ frames := 5, cells := 5, slots := 60, locals := 152 }) D ca (z9_Z kS kT) [.ref (ad 0 0), .int k, .int n] ad C (pw_pi (fun r ad' C' => (gw_at ca kS kT ad' C' cd (ga_constant cd mk td k n).2.1 (ga_constant cd mk td k n).2.2 ∧ gm_fr mk ad C ad' C') ∧ r = (ga_constant cd mk td k n).1)) 5 60 := by
  have hZ := z9_ok kS kT
  have hG0 := hG
  obtain ⟨g00, g10, g20, hmk, hDD, hTT, hKK⟩ := hG
  refine pw_ofW (cc := b_G_constant) (maxL := 4) (ret := (some FieldType.int)) (by decide) rfl (Nat.le_of_ble_eq_true rfl) ?_
  intro p e s m args below meth c A ls hB hA hw hK hz hl
  obtain ⟨hx, hb, hr, hml, hts0, hlocks, hown, hnm⟩ := hB
  have hts := wd_hts hts0
  have hown : s.vm.findClass "GraphWriter" = some m.cls := hown
  have hl : lv_has ls 4 [(0, .ref (ad 0 0)), (1, .int k), (2, .int n)] := hl
  have hz0 := hz
  obtain ⟨hz1, hz2, hz3, hk0, hk1, hk2, hk3, hk4, hk5, hk6, hk7, hao1, hao2, hnw⟩ := hz0
  have n20 := hnn 20 (by decide) (by decide)
  have n21 := hnn 21 (by decide) (by decide)
  have n22 := hnn 22 (by decide) (by decide)
  have n23 := hnn 23 (by decide) (by decide)
  have n24 := hnn 24 (by decide) (by decide)
  have hfr : ∀ x y, ¬ x = 0 → ¬ x = 2 → ¬ ((19 < x ∧ x < 25) ∧ y = mk) → C x y = C x y := fun _ _ _ _ _ => rfl
  refine lv_aload_n hx hb d_G_constant_0 rfl (lv_at hl 0 rfl) ?_
  refine lv_iload_n hx hb d_G_constant_1 rfl (lv_at hl 1 rfl) ?_
  refine pw_calli (va_runV (As := [.int k]) (rest := []) ⟨hx, hb, hml, hown, hts0⟩ (k_G_isDefined hG0 k _) (cwV 1 hts0 (wd_V wd_164 wd_161 wd_163 wd_1 wd_53) rfl rfl rfl (by decide +kernel) ⟨(by (try dsimp only); omega), (by (try dsimp only); omega)⟩) (pw_preV hZ hw hA hK hz rfl g00 rfl) rfl rfl hl.1 rfl (lv_room (Nat.le_of_ble_eq_true rfl)) d_G_constant_2 ⟨(by (try dsimp only); omega), (by (try dsimp only); omega)⟩) hw hA (fun r_3 ad_1 C_2 H locs hp hw => ?_)
  obtain ⟨⟨hae, hce⟩, hre⟩ := hp
  rw [hae, hce] at hw
  rw [hre]
  clear hae hce hre
  refine lv_if_eq (tgt := 18) hx hb d_G_constant_5 (by decide) (fun c_4 => ?_) (fun c_4 => ?_)
  · skip
    refine lv_iconst (v := (-1)) hx hb d_G_constant_18 (by decide) ?_
    have e9 : ga_constant cd mk td k n = (-1, mk, td) := by exact if_pos (Or.inl c_4)
    refine W.widen (k := 5) (n := 60) (by omega) (by omega) ?_
    exact pw_iret hx hb hr hlocks hw ⟨⟨by rw [e9]; exact hG0, fun _ _ _ _ _ => rfl, fun _ _ _ => rfl⟩, by rw [e9]⟩ d_G_constant_19
  · skip
    refine lv_iload_n hx hb d_G_constant_8 rfl (lv_at hl 2 rfl) ?_
    refine lv_if_lt (tgt := 18) hx hb d_G_constant_9 (by decide) (fun c_5 => ?_) (fun c_5 => ?_)
    · skip
      refine lv_iconst (v := (-1)) hx hb d_G_constant_18 (by decide) ?_
      have e9 : ga_constant cd mk td k n = (-1, mk, td) := by exact if_pos (Or.inr (Or.inl c_5))
      refine W.widen (k := 5) (n := 60) (by omega) (by omega) ?_
      exact pw_iret hx hb hr hlocks hw ⟨⟨by rw [e9]; exact hG0, fun _ _ _ _ _ => rfl, fun _ _ _ => rfl⟩, by rw [e9]⟩ d_G_constant_19
    · skip
      refine lv_iload_n hx hb d_G_constant_12 rfl (lv_at hl 2 rfl) ?_
      refine lv_bipush (v := 26) hx hb d_G_constant_13 (by decide) ?_
      refine lv_icmp_lt (tgt := 20) hx hb d_G_constant_15 (by decide) (fun c_6 => ?_) (fun c_6 => ?_)
      · skip
        refine lv_aload_n hx hb d_G_constant_20 rfl (lv_at hl 0 rfl) ?_
        refine pw_get (Cn := "GraphWriter") (T := F_G) (N := 4) hx hb hts in_G hown hK hw 0 0 rfl g00 rfl 0 (by decide) (hts _ wd_140) (fun _ h9 => h9) rfl d_G_constant_21 ?_
        refine lv_iload_n hx hb d_G_constant_24 rfl (lv_at hl 1 rfl) ?_
        obtain ⟨j, d, hj, hkj, hcd⟩ := ga_isdef_1 c_4
        have e8 : k.toNatClampNeg = j := by rw [hkj]; exact nI_clamp (by omega)
        refine pw_aald hx hb hK hw 1 0 rfl 4 g10 rfl j hkj (by omega) (by omega) d_G_constant_25 ?_
        rw [gw_cl hcd]
        obtain ⟨q06, q10, q11, q12, q13, q14, qst⟩ := hDD j d hcd
        refine pw_get (Cn := "GraphWriter$Defined") (T := F_D) (N := 11) hx hb hts in_D hown hK hw 10 j rfl q10 rfl 1 (by decide) (hts _ wd_297) (fun _ h9 => h9) rfl d_G_constant_26 ?_
        refine lv_iconst (v := 3) hx hb d_G_constant_29 (by decide) ?_
        refine lv_icmp_eq (tgt := 35) hx hb d_G_constant_30 (by decide) (fun c_7 => ?_) (fun c_7 => ?_)
        · skip
          refine lv_aload_n hx hb d_G_constant_35 rfl (lv_at hl 0 rfl) ?_
          refine pw_get (Cn := "GraphWriter") (T := F_G) (N := 4) hx hb hts in_G hown hK hw 0 0 rfl g00 rfl 3 (by decide) (hts _ wd_143) (fun _ h9 => h9) rfl d_G_constant_36 ?_
          refine lv_bipush (v := 12) hx hb d_G_constant_39 (by decide) ?_
          refine lv_icmp_lt (tgt := 47) hx hb d_G_constant_41 (by decide) (fun c_8 => ?_) (fun c_8 => ?_)
          · skip
            obtain ⟨n9, hn9, hn8⟩ : ∃ i : Nat, i < 26 ∧ n = nI i := by obtain ⟨i, hi, h9⟩ := nI_of c_5; exact ⟨i, (nI_ltI hi (by decide)).mp (h9 ▸ c_6), h9⟩
            have e7 : n.toNatClampNeg = n9 := by rw [hn8]; exact nI_clamp (by omega)
            have hmk9 : mk < 12 := (nI_ltI (by omega) (by decide)).mp c_8
            refine va_ldcS (q := kS 0) (tx := "abcdefghijklmnopqrstuvwxyz") hx hb hown hk0 d_G_constant_47 ?_
            refine lv_iload_n hx hb d_G_constant_49 rfl (lv_at hl 2 rfl) ?_
            refine lv_iload_n hx hb d_G_constant_50 rfl (lv_at hl 2 rfl) ?_
            refine lv_iconst (v := 1) hx hb d_G_constant_51 (by decide) ?_
            refine lv_iadd hx hb d_G_constant_52 ?_
            rw [hn8, nI_1]
            obtain ⟨hst0, hka⟩ := hKK.1 0 (by decide)
            have hst9 := hst0
            obtain ⟨f0, u1, u2, s50, s51, -⟩ := hst9
            rw [← hka]
            refine pw_callr (va_runV (As := [.int (nI n9), .int (nI (n9 + 1))]) (rest := []) ⟨hx, hb, hml, hown, hts0⟩ (k_JS_substring (u := 23) (v := mk) hst0 (by decide) (by decide) (by decide) n23 n24 (by show n9 < 26; omega) (by decide) _) (cwV 2 hts0 (wd_V wd_194 wd_542 wd_192 wd_193 wd_60) rfl rfl rfl (by decide +kernel) ⟨(by (try dsimp only); omega), (by (try dsimp only); omega)⟩) (pw_preV hZ hw hA hK hz rfl s50 rfl) rfl rfl hl.1 rfl (lv_room (Nat.le_of_ble_eq_true rfl)) d_G_constant_53 ⟨(by (try dsimp only); omega), (by (try dsimp only); omega)⟩) hw hA (fun r_11 ad_9 C_10 H locs hp hw => ?_)
            obtain ⟨⟨q_12, hae⟩, hst, hf9⟩ := hp
            refine W.widen (k := 2) (n := 16) (by omega) (by omega) ?_
            have hs23 : ad_9 23 mk = r_11 := by rw [hae]; exact (pw_up_ne _ _ (by omega)).trans (pw_up_self _ _ _ _)
            have hs24 : ad_9 24 mk = q_12 := by rw [hae]; exact pw_up_self _ _ _ _
            have hadk : ∀ x9 y9, ¬ (x9 = 23 ∧ y9 = mk) → ¬ (x9 = 24 ∧ y9 = mk) → ad_9 x9 y9 = ad x9 y9 := fun x9 y9 h1 h2 => by rw [hae]; exact (pw_up_ne _ _ (by omega)).trans (pw_up_ne _ _ (by omega))
            clear hae
            have g00 : C_10 0 0 = some (.inr (0, [.ref (ad 1 0), .ref (ad 2 0), .ref (ad 3 0), .int (nI mk)])) := (hf9 0 0 (by omega) (by omega)).trans g00
            have g10 : C_10 1 0 = some (.inl (ca 4, 6, .inr (.inr (.inr (.inr (gw_cf ad cd)))))) := (hf9 1 0 (by omega) (by omega)).trans g10
            have g20 : C_10 2 0 = some (.inl (ca 5, 12, .inr (.inr (.inr (.inr (gw_tf ad mk)))))) := (hf9 2 0 (by omega) (by omega)).trans g20
            have q10 : C_10 10 j = some (.inr (2, [.int (nI j), .int (dd_kd d), .long (dd_id d), .ref (ad 15 j), .ref (ad 11 j), .ref (ad 12 j), .ref (ad 13 j), .ref (ad 14 j), .int (nI (dd_fn d)), .int (nI (dd_sh d)), .int (dd_us d)])) := (hf9 10 j (by omega) (by omega)).trans q10
            have q11 : C_10 11 j = some (.inl (ca 0, dd_cn d, .inl (dd_cf d))) := (hf9 11 j (by omega) (by omega)).trans q11
            have q12 : C_10 12 j = some (.inl (ca 0, 4, .inl (dd_nm d))) := (hf9 12 j (by omega) (by omega)).trans q12
            have q13 : C_10 13 j = some (.inl (ca 0, 4, .inl (dd_ty d))) := (hf9 13 j (by omega) (by omega)).trans q13
            have q14 : C_10 14 j = some (.inl (ca 0, 4, .inl (dd_or d))) := (hf9 14 j (by omega) (by omega)).trans q14
            have n20 : C_10 20 mk = none := (hf9 20 mk (by omega) (by omega)).trans n20
            have n21 : C_10 21 mk = none := (hf9 21 mk (by omega) (by omega)).trans n21
            have n22 : C_10 22 mk = none := (hf9 22 mk (by omega) (by omega)).trans n22
            have hfr : ∀ x y, ¬ x = 0 → ¬ x = 2 → ¬ ((19 < x ∧ x < 25) ∧ y = mk) → C_10 x y = C x y := fun x y a b c => (hf9 x y (by omega) (by omega)).trans (hfr x y a b c)
            obtain ⟨f9, v1, v2, s23, s24, hsf, hsn, hsc⟩ := hst
            have s24 : C_10 24 mk = _ := s24
            rw [show (23 : Nat) + 1 = 24 from rfl, hs24] at s23
            have s24 : C_10 24 mk = some (.inl (ca 2, 1, .inl f9)) := s24
            refine lv_astore_n (lv' := [(3, .ref r_11), (0, .ref (ad 0 0)), (1, .int k), (2, .int n)]) hx hb d_G_constant_56 rfl hl (by decide) rfl (fun ls hl => ?_)
            refine lv_aload_n hx hb d_G_constant_57 rfl (lv_at hl 1 rfl) ?_
            refine pw_new (ci := 3) (fs := [.int 0, .int 0, .null, .null, .null, .int 0, .int 0]) (Cn := "GraphWriter$Thing") (T := F_T) (N := 7) hx hb hts in_T ft_T to_T hown (hts _ wd_78) (hts _ wd_362) (hts _ wd_64) hK hw hA 20 mk (by decide) n20 rfl (fun j hj => by match j, hj with | 0, _ => rfl | 1, _ => rfl | 2, _ => rfl | 3, _ => rfl | 4, _ => rfl | 5, _ => rfl | 6, _ => rfl | j + 7, h => exact absurd h (by omega)) (by (try dsimp only); omega) (by (try dsimp only); omega) d_G_constant_58 (fun q_13 H hw => ?_)
            refine W.widen (k := 3) (n := 24) (by omega) (by omega) ?_
            obtain ⟨ad_14, had_14⟩ : ∃ z, z = pw_up ad_9 20 mk q_13 := ⟨_, rfl⟩
            rw [← had_14] at hw
            have hsad_14 : ad_14 20 mk = q_13 := by rw [had_14]; exact pw_up_self _ _ _ _
            have hadk : ∀ x9 y9, ¬ (x9 = 23 ∧ y9 = mk) → ¬ (x9 = 24 ∧ y9 = mk) → ¬ (x9 = 20 ∧ y9 = mk) → ad_14 x9 y9 = ad x9 y9 := fun x9 y9 e0 e1 h9 => by rw [had_14]; exact (pw_up_ne _ _ h9).trans (hadk x9 y9 e0 e1)
            have hq_r_11 : ad_14 23 mk = r_11 := by rw [had_14]; exact (pw_up_ne _ _ (by omega)).trans hs23
            have hq_q_12 : ad_14 24 mk = q_12 := by rw [had_14]; exact (pw_up_ne _ _ (by omega)).trans hs24
            have hw : pw_H D cls9 A s.heap ad C ad_14 (pw_up C_10 20 mk (some (.inr (3, [.int 0, .int 0, .null, .null, .null, .int 0, .int 0])))) H _ := hw
            generalize hC_15 : pw_up C_10 20 mk (some (.inr (3, [.int 0, .int 0, .null, .null, .null, .int 0, .int 0]))) = C_15 at hw
            have g00 : C_15 0 0 = some (.inr (0, [.ref (ad 1 0), .ref (ad 2 0), .ref (ad 3 0), .int (nI mk)])) := by rw [← hC_15]; exact (pw_up_ne _ _ (by omega)).trans g00
            have g10 : C_15 1 0 = some (.inl (ca 4, 6, .inr (.inr (.inr (.inr (gw_cf ad cd)))))) := by rw [← hC_15]; exact (pw_up_ne _ _ (by omega)).trans g10
            have g20 : C_15 2 0 = some (.inl (ca 5, 12, .inr (.inr (.inr (.inr (gw_tf ad mk)))))) := by rw [← hC_15]; exact (pw_up_ne _ _ (by omega)).trans g20
            have q10 : C_15 10 j = some (.inr (2, [.int (nI j), .int (dd_kd d), .long (dd_id d), .ref (ad 15 j), .ref (ad 11 j), .ref (ad 12 j), .ref (ad 13 j), .ref (ad 14 j), .int (nI (dd_fn d)), .int (nI (dd_sh d)), .int (dd_us d)])) := by rw [← hC_15]; exact (pw_up_ne _ _ (by omega)).trans q10
            have q11 : C_15 11 j = some (.inl (ca 0, dd_cn d, .inl (dd_cf d))) := by rw [← hC_15]; exact (pw_up_ne _ _ (by omega)).trans q11
            have q12 : C_15 12 j = some (.inl (ca 0, 4, .inl (dd_nm d))) := by rw [← hC_15]; exact (pw_up_ne _ _ (by omega)).trans q12
            have q13 : C_15 13 j = some (.inl (ca 0, 4, .inl (dd_ty d))) := by rw [← hC_15]; exact (pw_up_ne _ _ (by omega)).trans q13
            have q14 : C_15 14 j = some (.inl (ca 0, 4, .inl (dd_or d))) := by rw [← hC_15]; exact (pw_up_ne _ _ (by omega)).trans q14
            have s23 : C_15 23 mk = some (.inr (5, [.ref q_12, .int 0, v1, v2])) := by rw [← hC_15]; exact (pw_up_ne _ _ (by omega)).trans s23
            have s24 : C_15 24 mk = some (.inl (ca 2, 1, .inl f9)) := by rw [← hC_15]; exact (pw_up_ne _ _ (by omega)).trans s24
            have p20 : C_15 20 mk = some (.inr (3, [.int 0, .int 0, .null, .null, .null, .int 0, .int 0])) := by rw [← hC_15]; exact pw_up_self _ _ _ _
            have hfr : ∀ x y, ¬ x = 0 → ¬ x = 2 → ¬ ((19 < x ∧ x < 25) ∧ y = mk) → C_15 x y = C x y := fun x y h0 h1 h2 => by rw [← hC_15]; exact (pw_up_ne _ _ (by omega)).trans (hfr x y h0 h1 h2)
            have n21 : C_15 21 mk = none := by rw [← hC_15]; exact (pw_up_ne _ _ (by omega)).trans n21
            have n22 : C_15 22 mk = none := by rw [← hC_15]; exact (pw_up_ne _ _ (by omega)).trans n22
            refine lv_dup hx hb d_G_constant_61 rfl ?_
            refine lv_iconst (v := 4) hx hb d_G_constant_62 (by decide) ?_
            refine lv_iload_n hx hb d_G_constant_63 rfl (lv_at hl 2 rfl) ?_
            refine lv_iconst (v := 0) hx hb d_G_constant_64 (by decide) ?_
            refine pw_newa (atype := .int) (ty := .int) (az := (0, .inl (fun _ => 0))) hx hb (hts _ wd_127) rfl (fun t h => by cases h) hK hw hA 21 mk (by decide) n21 0 rfl (fun _ => rfl) (by decide) (by omega) (by show _ * 4 ≤ _; omega) (by (try dsimp only); omega) (by (try dsimp only); omega) d_G_constant_65 (fun q_16 H hw => ?_)
            refine W.widen (k := 4) (n := 24) (by omega) (by omega) ?_
            obtain ⟨ad_17, had_17⟩ : ∃ z, z = pw_up ad_14 21 mk q_16 := ⟨_, rfl⟩
            rw [← had_17] at hw
            have hsad_17 : ad_17 21 mk = q_16 := by rw [had_17]; exact pw_up_self _ _ _ _
            have hadk : ∀ x9 y9, ¬ (x9 = 23 ∧ y9 = mk) → ¬ (x9 = 24 ∧ y9 = mk) → ¬ (x9 = 20 ∧ y9 = mk) → ¬ (x9 = 21 ∧ y9 = mk) → ad_17 x9 y9 = ad x9 y9 := fun x9 y9 e0 e1 e2 h9 => by rw [had_17]; exact (pw_up_ne _ _ h9).trans (hadk x9 y9 e0 e1 e2)
            have hq_r_11 : ad_17 23 mk = r_11 := by rw [had_17]; exact (pw_up_ne _ _ (by omega)).trans hq_r_11
            have hq_q_12 : ad_17 24 mk = q_12 := by rw [had_17]; exact (pw_up_ne _ _ (by omega)).trans hq_q_12
            have hq_q_13 : ad_17 20 mk = q_13 := by rw [had_17]; exact (pw_up_ne _ _ (by omega)).trans hsad_14
            have hw : pw_H D cls9 A s.heap ad C ad_17 (pw_up C_15 21 mk (some (.inl (ca 0, 0, .inl (fun _ => 0))))) H _ := hw
            generalize hC_18 : pw_up C_15 21 mk (some (.inl (ca 0, 0, .inl (fun _ => 0)))) = C_18 at hw
            have g00 : C_18 0 0 = some (.inr (0, [.ref (ad 1 0), .ref (ad 2 0), .ref (ad 3 0), .int (nI mk)])) := by rw [← hC_18]; exact (pw_up_ne _ _ (by omega)).trans g00
            have g10 : C_18 1 0 = some (.inl (ca 4, 6, .inr (.inr (.inr (.inr (gw_cf ad cd)))))) := by rw [← hC_18]; exact (pw_up_ne _ _ (by omega)).trans g10
            have g20 : C_18 2 0 = some (.inl (ca 5, 12, .inr (.inr (.inr (.inr (gw_tf ad mk)))))) := by rw [← hC_18]; exact (pw_up_ne _ _ (by omega)).trans g20
            have q10 : C_18 10 j = some (.inr (2, [.int (nI j), .int (dd_kd d), .long (dd_id d), .ref (ad 15 j), .ref (ad 11 j), .ref (ad 12 j), .ref (ad 13 j), .ref (ad 14 j), .int (nI (dd_fn d)), .int (nI (dd_sh d)), .int (dd_us d)])) := by rw [← hC_18]; exact (pw_up_ne _ _ (by omega)).trans q10
            have q11 : C_18 11 j = some (.inl (ca 0, dd_cn d, .inl (dd_cf d))) := by rw [← hC_18]; exact (pw_up_ne _ _ (by omega)).trans q11
            have q12 : C_18 12 j = some (.inl (ca 0, 4, .inl (dd_nm d))) := by rw [← hC_18]; exact (pw_up_ne _ _ (by omega)).trans q12
            have q13 : C_18 13 j = some (.inl (ca 0, 4, .inl (dd_ty d))) := by rw [← hC_18]; exact (pw_up_ne _ _ (by omega)).trans q13
            have q14 : C_18 14 j = some (.inl (ca 0, 4, .inl (dd_or d))) := by rw [← hC_18]; exact (pw_up_ne _ _ (by omega)).trans q14
            have s23 : C_18 23 mk = some (.inr (5, [.ref q_12, .int 0, v1, v2])) := by rw [← hC_18]; exact (pw_up_ne _ _ (by omega)).trans s23
            have s24 : C_18 24 mk = some (.inl (ca 2, 1, .inl f9)) := by rw [← hC_18]; exact (pw_up_ne _ _ (by omega)).trans s24
            have p20 : C_18 20 mk = some (.inr (3, [.int 0, .int 0, .null, .null, .null, .int 0, .int 0])) := by rw [← hC_18]; exact (pw_up_ne _ _ (by omega)).trans p20
            have p21 : C_18 21 mk = some (.inl (ca 0, 0, .inl (fun _ => 0))) := by rw [← hC_18]; exact pw_up_self _ _ _ _
            have hfr : ∀ x y, ¬ x = 0 → ¬ x = 2 → ¬ ((19 < x ∧ x < 25) ∧ y = mk) → C_18 x y = C x y := fun x y h0 h1 h2 => by rw [← hC_18]; exact (pw_up_ne _ _ (by omega)).trans (hfr x y h0 h1 h2)
            have n22 : C_18 22 mk = none := by rw [← hC_18]; exact (pw_up_ne _ _ (by omega)).trans n22
            refine lv_aload_n hx hb d_G_constant_67 rfl (lv_at hl 0 rfl) ?_
            rw [← hq_q_13, ← hsad_17]
            refine pw_callv (va_runI (As := [.int 4, .int k, .ref (ad_17 21 mk), .ref r_11]) (rest := [.ref (ad_17 20 mk), .ref (ad 0 0)]) ⟨hx, hb, hml, hown, hts0⟩ (k_T_init (ad := ad_17) (ta := r_11) p20 p21 n22 (by omega) 4 k _) (cwI 4 hts0 (wd_sub wd_371) rfl rfl rfl (hts _ wd_64) (hts _ wd_369) (hts _ wd_370) rfl (by decide +kernel) ⟨(by (try dsimp only); omega), (by (try dsimp only); omega)⟩) (pw_preS hZ hw hA hK hz) rfl rfl hl.1 rfl (lv_room (Nat.le_of_ble_eq_true rfl)) d_G_constant_68 ⟨(by (try dsimp only); omega), (by (try dsimp only); omega)⟩) hw hA (fun ad_19 C_20 H locs hp hw => ?_)
            refine W.widen (k := 5) (n := 60) (by omega) (by omega) ?_
            obtain ⟨q_21, hae, t20, t22, hf9⟩ := hp
            rw [hae] at hw; clear hae
            rw [hsad_17] at t20
            rw [hq_q_13]
            have g00 : C_20 0 0 = some (.inr (0, [.ref (ad 1 0), .ref (ad 2 0), .ref (ad 3 0), .int (nI mk)])) := (hf9 0 0 (by omega) (by omega)).trans g00
            have g10 : C_20 1 0 = some (.inl (ca 4, 6, .inr (.inr (.inr (.inr (gw_cf ad cd)))))) := (hf9 1 0 (by omega) (by omega)).trans g10
            have g20 : C_20 2 0 = some (.inl (ca 5, 12, .inr (.inr (.inr (.inr (gw_tf ad mk)))))) := (hf9 2 0 (by omega) (by omega)).trans g20
            have q10 : C_20 10 j = some (.inr (2, [.int (nI j), .int (dd_kd d), .long (dd_id d), .ref (ad 15 j), .ref (ad 11 j), .ref (ad 12 j), .ref (ad 13 j), .ref (ad 14 j), .int (nI (dd_fn d)), .int (nI (dd_sh d)), .int (dd_us d)])) := (hf9 10 j (by omega) (by omega)).trans q10
            have q11 : C_20 11 j = some (.inl (ca 0, dd_cn d, .inl (dd_cf d))) := (hf9 11 j (by omega) (by omega)).trans q11
            have q12 : C_20 12 j = some (.inl (ca 0, 4, .inl (dd_nm d))) := (hf9 12 j (by omega) (by omega)).trans q12
            have q13 : C_20 13 j = some (.inl (ca 0, 4, .inl (dd_ty d))) := (hf9 13 j (by omega) (by omega)).trans q13
            have q14 : C_20 14 j = some (.inl (ca 0, 4, .inl (dd_or d))) := (hf9 14 j (by omega) (by omega)).trans q14
            have s23 : C_20 23 mk = some (.inr (5, [.ref q_12, .int 0, v1, v2])) := (hf9 23 mk (by omega) (by omega)).trans s23
            have s24 : C_20 24 mk = some (.inl (ca 2, 1, .inl f9)) := (hf9 24 mk (by omega) (by omega)).trans s24
            have p21 : C_20 21 mk = some (.inl (ca 0, 0, .inl (fun _ => 0))) := (hf9 21 mk (by omega) (by omega)).trans p21
            have hfr : ∀ x y, ¬ x = 0 → ¬ x = 2 → ¬ ((19 < x ∧ x < 25) ∧ y = mk) → C_20 x y = C x y := fun x y a b c => (hf9 x y (by omega) (by omega)).trans (hfr x y a b c)
            obtain ⟨ad_22, had_22⟩ : ∃ z, z = pw_up ad_17 22 mk q_21 := ⟨_, rfl⟩
            rw [← had_22] at hw
            have hsad_22 : ad_22 22 mk = q_21 := by rw [had_22]; exact pw_up_self _ _ _ _
            have hadk : ∀ x9 y9, ¬ (x9 = 23 ∧ y9 = mk) → ¬ (x9 = 24 ∧ y9 = mk) → ¬ (x9 = 20 ∧ y9 = mk) → ¬ (x9 = 21 ∧ y9 = mk) → ¬ (x9 = 22 ∧ y9 = mk) → ad_22 x9 y9 = ad x9 y9 := fun x9 y9 e0 e1 e2 e3 h9 => by rw [had_22]; exact (pw_up_ne _ _ h9).trans (hadk x9 y9 e0 e1 e2 e3)
            have hq_r_11 : ad_22 23 mk = r_11 := by rw [had_22]; exact (pw_up_ne _ _ (by omega)).trans hq_r_11
            have hq_q_12 : ad_22 24 mk = q_12 := by rw [had_22]; exact (pw_up_ne _ _ (by omega)).trans hq_q_12
            have hq_q_13 : ad_22 20 mk = q_13 := by rw [had_22]; exact (pw_up_ne _ _ (by omega)).trans hq_q_13
            have hq_q_16 : ad_22 21 mk = q_16 := by rw [had_22]; exact (pw_up_ne _ _ (by omega)).trans hsad_17
            have p20 : C_20 20 mk = some (.inr (3, [.int 4, .int k, .ref q_16, .ref q_21, .ref r_11, .int (-1), .int 0])) := t20
            have p22 : C_20 22 mk = some (.inl (ca 1, 0, .inr (.inl (tt_v0 (fun _ => 0) 0)))) := t22
            rw [← hq_q_13, ← hadk 0 0 (by omega) (by omega) (by omega) (by omega) (by omega)]
            refine pw_calli (va_runV (As := [.ref (ad_22 20 mk)]) (rest := []) ⟨hx, hb, hml, hown, hts0⟩ (k_G_keep (ad := ad_22) (b1 := ad 1 0) (b3 := ad 3 0) (by rw [hadk 2 0 (by omega) (by omega) (by omega) (by omega) (by omega)]; exact g00) g20 hmk9 p20 _) (cwV 1 hts0 (wd_V wd_406 wd_403 wd_405 wd_6 wd_53) rfl rfl rfl (by decide +kernel) ⟨(by (try dsimp only); omega), (by (try dsimp only); omega)⟩) (pw_preV hZ hw hA hK hz rfl g00 rfl) rfl rfl hl.1 rfl (lv_room (Nat.le_of_ble_eq_true rfl)) d_G_constant_71 ⟨(by (try dsimp only); omega), (by (try dsimp only); omega)⟩) hw hA (fun r_25 ad_23 C_24 H locs hp hw => ?_)
            obtain ⟨⟨hae, g00, g20, hf9⟩, hre⟩ := hp
            rw [hae] at hw; clear hae
            rw [hre]
            have g10 : C_24 1 0 = some (.inl (ca 4, 6, .inr (.inr (.inr (.inr (gw_cf ad cd)))))) := (hf9 1 0 (by omega) (by omega)).trans g10
            have q10 : C_24 10 j = some (.inr (2, [.int (nI j), .int (dd_kd d), .long (dd_id d), .ref (ad 15 j), .ref (ad 11 j), .ref (ad 12 j), .ref (ad 13 j), .ref (ad 14 j), .int (nI (dd_fn d)), .int (nI (dd_sh d)), .int (dd_us d)])) := (hf9 10 j (by omega) (by omega)).trans q10
            have q11 : C_24 11 j = some (.inl (ca 0, dd_cn d, .inl (dd_cf d))) := (hf9 11 j (by omega) (by omega)).trans q11
            have q12 : C_24 12 j = some (.inl (ca 0, 4, .inl (dd_nm d))) := (hf9 12 j (by omega) (by omega)).trans q12
            have q13 : C_24 13 j = some (.inl (ca 0, 4, .inl (dd_ty d))) := (hf9 13 j (by omega) (by omega)).trans q13
            have q14 : C_24 14 j = some (.inl (ca 0, 4, .inl (dd_or d))) := (hf9 14 j (by omega) (by omega)).trans q14
            have s23 : C_24 23 mk = some (.inr (5, [.ref q_12, .int 0, v1, v2])) := (hf9 23 mk (by omega) (by omega)).trans s23
            have s24 : C_24 24 mk = some (.inl (ca 2, 1, .inl f9)) := (hf9 24 mk (by omega) (by omega)).trans s24
            have p20 : C_24 20 mk = some (.inr (3, [.int 4, .int k, .ref q_16, .ref q_21, .ref r_11, .int (-1), .int 0])) := (hf9 20 mk (by omega) (by omega)).trans p20
            have p21 : C_24 21 mk = some (.inl (ca 0, 0, .inl (fun _ => 0))) := (hf9 21 mk (by omega) (by omega)).trans p21
            have p22 : C_24 22 mk = some (.inl (ca 1, 0, .inr (.inl (tt_v0 (fun _ => 0) 0)))) := (hf9 22 mk (by omega) (by omega)).trans p22
            have hfr : ∀ x y, ¬ x = 0 → ¬ x = 2 → ¬ ((19 < x ∧ x < 25) ∧ y = mk) → C_24 x y = C x y := fun x y a b c => (hf9 x y (by omega) (by omega)).trans (hfr x y a b c)
            rw [hadk 2 0 (by omega) (by omega) (by omega) (by omega) (by omega)] at g00
            have e9 : ga_constant cd mk td k n = (nI mk, mk + 1, va_up td mk (ga_cst k n)) := by unfold ga_constant; rw [if_neg (by rintro (z | z | z); exact c_4 z; exact c_5 z; exact z c_6), e8]; simp only [hcd]; rw [if_neg (fun z => z c_7), if_neg (Int32.not_le.mpr c_8)]
            rw [hn8] at e9
            refine pw_iret hx hb hr hlocks hw ⟨⟨?_, hfr, fun x y h => hadk x y (by omega) (by omega) (by omega) (by omega) (by omega)⟩, by rw [e9]⟩ d_G_constant_74
            rw [e9]
            refine hG0.more hmk9 ⟨hfr, fun x y h => hadk x y (by omega) (by omega) (by omega) (by omega) (by omega)⟩ g00 g20 ⟨?_, p21, p22, by show 0 ≤ 24; omega, ?_⟩
            · rw [hq_q_16, hsad_22, show tt_ta kS ad_22 mk (ga_cst k (nI n9)) = ad_22 23 mk from if_pos (by right; rfl), hq_r_11]; exact p20
            · intro _
              show st_at _ _ _ _ _ _ _ [(z9_tx 0).getD (nI n9).toNatClampNeg 0]; rw [nI_clamp (by omega)]
              exact ⟨f9, v1, v2, by rw [hq_q_12]; exact s23, s24, hsf, hsn, hsc⟩
          · skip
            refine lv_bipush (v := (-2)) hx hb d_G_constant_44 (by decide) ?_
            have e9 : ga_constant cd mk td k n = (-2, mk, td) := by unfold ga_constant; rw [if_neg (by rintro (z | z | z); exact c_4 z; exact c_5 z; exact z c_6), e8]; simp only [hcd]; rw [if_neg (fun z => z c_7), if_pos (Int32.not_lt.mp c_8)]
            refine W.widen (k := 5) (n := 60) (by omega) (by omega) ?_
            exact pw_iret hx hb hr hlocks hw ⟨⟨by rw [e9]; exact hG0, fun _ _ _ _ _ => rfl, fun _ _ _ => rfl⟩, by rw [e9]⟩ d_G_constant_46
        · skip
          refine lv_iconst (v := (-1)) hx hb d_G_constant_33 (by decide) ?_
          have e9 : ga_constant cd mk td k n = (-1, mk, td) := by unfold ga_constant; rw [if_neg (by rintro (z | z | z); exact c_4 z; exact c_5 z; exact z c_6), e8]; simp only [hcd]; rw [if_pos c_7]
          refine W.widen (k := 5) (n := 60) (by omega) (by omega) ?_
          exact pw_iret hx hb hr hlocks hw ⟨⟨by rw [e9]; exact hG0, fun _ _ _ _ _ => rfl, fun _ _ _ => rfl⟩, by rw [e9]⟩ d_G_constant_34
      · skip
        refine lv_iconst (v := (-1)) hx hb d_G_constant_18 (by decide) ?_
        have e9 : ga_constant cd mk td k n = (-1, mk, td) := by exact if_pos (Or.inr (Or.inr c_6))
        refine W.widen (k := 5) (n := 60) (by omega) (by omega) ?_
        exact pw_iret hx hb hr hlocks hw ⟨⟨by rw [e9]; exact hG0, fun _ _ _ _ _ => rfl, fun _ _ _ => rfl⟩, by rw [e9]⟩ d_G_constant_19
