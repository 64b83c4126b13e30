theorem st_ob {ca : Nat → ClassId} {ad : pw_A} {C : pw_C} {u v u2 v2 : Nat} {t : List Int32} (h : st_at ca ad C u v u2 v2 t) : C u v = some (.inr (5, [.ref (ad u2 v2), .int 0, h.choose_spec.choose, h.choose_spec.choose_spec.choose])) := h.choose_spec.choose_spec.choose_spec.1
set_option maxHeartbeats 4000000 in
set_option maxRecDepth 100000 in
theorem k_G_writeDescriptor {l : Launch} {D : va_G} {ca : Nat → ClassId} {kS : Nat → Nat} {kT : Nat} {ad : pw_A} {C : pw_C} {cd : Nat → Option DT} {mk : Nat} {td : Nat → TT} (hG : gw_at ca kS kT ad C cd mk td) {x : ES} {w0 : List Int32} {wn : Nat} {sn : SN} (hO : os_x ca ad C x w0 wn sn) (hwf : wf_d cd) {k0 : Nat} {d0 : DT} (hcd0 : cd k0 = some d0) : gc_Con l y_G_writeDescriptor c_G_writeDescriptor ({ frames := 6, cells := 0, slots := 0, locals := 133 }) D ca (z9_Z kS kT) [.ref (ad 0 0), .ref (ad 10 k0)] ad C (pw_pv (fun ad' C' => ad' = ad ∧ os_x ca ad C' (ga_descr cd d0 x) w0 wn sn ∧ os_fr C C')) 0 0 := by
  have hZ := z9_ok kS kT
  have hG0 := hG
  obtain ⟨g00, g10, g20, hmk, hDD, hTT, hKK⟩ := hG
  have hO0 := hO
  obtain ⟨by0, wt, h30, h40, h50, h60, h70, hlen, hby, hwn, hw0, hwt⟩ := hO
  refine pw_ofW (cc := b_G_writeDescriptor) (maxL := 6) (ret := none) (by decide) rfl (Nat.le_of_ble_eq_true rfl) ?_
  intro p e s m args below meth c A ls hB hA hw hK hz hl
  obtain ⟨hx, hb, hr, hml, hts0, hlocks, hown, hnm⟩ := hB
  have hts := wd_hts hts0
  have hown : s.vm.findClass "GraphWriter" = some m.cls := hown
  have hl : lv_has ls 6 [(0, .ref (ad 0 0)), (1, .ref (ad 10 k0))] := hl
  have hz0 := hz
  obtain ⟨hz1, hz2, hz3, hk0, hk1, hk2, hk3, hk4, hk5, hk6, hk7, hao1, hao2, hnw⟩ := hz0
  have hfr : os_fr C C := fun _ _ _ => rfl
  obtain ⟨hk06, hcn, hch, -⟩ := hwf k0 d0 hcd0
  have tail : ∀ (x1 : ES) (C1 : pw_C) (H : Heap) (locs : List Loc) (ls : Array Slot), ga_dfin d0 (x1, false) = ga_descr cd d0 x → os_x ca ad C1 x1 w0 wn sn → gw_at ca kS kT ad C1 cd mk td → os_fr C C1 → pw_H D cls9 A s.heap ad C ad C1 H locs → lv_has ls 6 [(0, .ref (ad 0 0)), (1, .ref (ad 10 k0))] → W p l e ({ frames := 6, cells := 0, slots := 0, locals := 133 }) s m args below meth c H locs 0 0 (MQ below (pw_Q D cls9 ad C (pw_pv (fun ad' C' => ad' = ad ∧ os_x ca ad C' (ga_descr cd d0 x) w0 wn sn ∧ os_fr C C')) A) args s 0 0 A) (F0 m 219 ls []) := by
    intro x1 C1 H locs ls hga hO hG hfr hw hl
    have hO0 := hO
    obtain ⟨by0, wt, h30, h40, h50, h60, h70, hlen, hby, hwn, hw0, hwt⟩ := hO
    have hG0 := hG
    obtain ⟨g00, g10, g20, hmk, hDD, hTT, hKK⟩ := hG
    obtain ⟨e06, e10, e11, e12, e13, e14, est⟩ := hDD k0 d0 hcd0
    refine lv_aload_n hx hb d_G_writeDescriptor_219 rfl (lv_at hl 1 rfl) ?_
    refine pw_get (Cn := "GraphWriter$Defined") (T := F_D) (N := 11) hx hb hts in_D hown hK hw 10 k0 rfl e10 rfl 1 (by decide) (hts _ wd_297) (fun _ h9 => h9) rfl d_G_writeDescriptor_220 ?_
    refine lv_iconst (v := 3) hx hb d_G_writeDescriptor_223 (by decide) ?_
    refine lv_icmp_eq (tgt := 241) hx hb d_G_writeDescriptor_224 (by decide) (fun c_1 => ?_) (fun c_1 => ?_)
    · skip
      refine lv_aload_n hx hb d_G_writeDescriptor_241 rfl (lv_at hl 0 rfl) ?_
      refine pw_get (Cn := "GraphWriter") (T := F_G) (N := 4) hx hb hts in_G hown hK hw 0 0 rfl g00 rfl 2 (by decide) (hts _ wd_142) (fun _ h9 => h9) rfl d_G_writeDescriptor_242 ?_
      refine lv_bipush (v := 32) hx hb d_G_writeDescriptor_245 (by decide) ?_
      refine pw_ldcwS (q := ad 50 5) (tx := "java.lang.Enum") hx hb hown (by rw [(hKK.1 5 (by decide)).2]; exact hk5) d_G_writeDescriptor_247 ?_
      refine lv_lconst (v := 0) hx hb d_G_writeDescriptor_250 (by decide) ?_
      refine lv_bipush (v := 18) hx hb d_G_writeDescriptor_251 (by decide) ?_
      refine lv_iconst (v := 0) hx hb d_G_writeDescriptor_253 (by decide) ?_
      refine pw_calli (va_runV (As := [.int 32, .ref (ad 50 5), .long 0, .int 18, .int 0]) (rest := []) ⟨hx, hb, hml, hown, hts0⟩ (k_O_openDescriptor hO0 (hKK.1 5 (by decide)).1 (by decide) (by decide) (k := 32) (by decide) 0 18 0 _) (cwV 5 hts0 (wd_V wd_646 wd_643 wd_644 wd_645 wd_54) rfl rfl rfl (by decide +kernel) ⟨Nat.le_of_ble_eq_true rfl, Nat.le_of_ble_eq_true rfl⟩) (pw_preV hZ hw hA hK hz rfl h30 rfl) rfl rfl hl.1 rfl (lv_room (Nat.le_of_ble_eq_true rfl)) d_G_writeDescriptor_254 ⟨Nat.le_of_ble_eq_true rfl, Nat.le_of_ble_eq_true rfl⟩) hw hA (fun r_4 ad_2 C_3 H locs hp hw => ?_)
      obtain ⟨⟨hae, hO, hf1⟩, hre⟩ := hp
      rw [hae] at hw; clear hae
      have hfr : os_fr C C_3 := fun x y h => (hf1 x y h).trans (hfr x y h)
      rw [hre]; clear hre r_4
      obtain ⟨x_5, hx_5⟩ : ∃ z, z = (es_desc x1 32 (z9_tx 5) 0 18 0).1 := ⟨_, rfl⟩
      rw [← hx_5] at hO
      have hO0 := hO
      obtain ⟨by0, wt, h30, h40, h50, h60, h70, hlen, hby, hwn, hw0, hwt⟩ := hO
      have hG := hG0.fr hf1
      have hG0 := hG
      obtain ⟨g00, g10, g20, hmk, hDD, hTT, hKK⟩ := hG
      obtain ⟨e06, e10, e11, e12, e13, e14, est⟩ := hDD k0 d0 hcd0
      refine lv_if_eq (tgt := 267) hx hb d_G_writeDescriptor_257 (by decide) (fun c_6 => ?_) (fun c_6 => ?_)
      · skip
        have e9 : ga_descr cd d0 x = x_5 := by rw [← hga, hx_5]; unfold ga_dfin ga_top; rw [if_neg (show ¬ (x1, false).2 = true from Bool.false_ne_true), if_pos c_1, if_pos (by exact c_6)]
        refine pw_vret hx hb hr hlocks hw ⟨rfl, ?_, hfr⟩ d_G_writeDescriptor_267
        rw [e9]; exact hO0
      · skip
        refine lv_aload_n hx hb d_G_writeDescriptor_260 rfl (lv_at hl 0 rfl) ?_
        refine pw_get (Cn := "GraphWriter") (T := F_G) (N := 4) hx hb hts in_G hown hK hw 0 0 rfl g00 rfl 2 (by decide) (hts _ wd_142) (fun _ h9 => h9) rfl d_G_writeDescriptor_261 ?_
        refine pw_callv (va_runV (As := []) (rest := []) ⟨hx, hb, hml, hown, hts0⟩ (k_O_closeTopDescriptor hZ hO0 _) (cwV 0 hts0 (wd_V wd_652 wd_649 wd_650 wd_651 wd_54) rfl rfl rfl (by decide +kernel) ⟨Nat.le_of_ble_eq_true rfl, Nat.le_of_ble_eq_true rfl⟩) (pw_preV hZ hw hA hK hz rfl h30 rfl) rfl rfl hl.1 rfl (lv_room (Nat.le_of_ble_eq_true rfl)) d_G_writeDescriptor_264 ⟨Nat.le_of_ble_eq_true rfl, Nat.le_of_ble_eq_true rfl⟩) hw hA (fun ad_7 C_8 H locs hp hw => ?_)
        obtain ⟨hae, hO, hf1⟩ := hp
        rw [hae] at hw; clear hae
        have hfr : os_fr C C_8 := fun x y h => (hf1 x y h).trans (hfr x y h)
        obtain ⟨x_10, hx_10⟩ : ∃ z, z = es_close x_5 := ⟨_, rfl⟩
        rw [← hx_10] at hO
        have hO0 := hO
        obtain ⟨by0, wt, h30, h40, h50, h60, h70, hlen, hby, hwn, hw0, hwt⟩ := hO
        have hG := hG0.fr hf1
        have hG0 := hG
        obtain ⟨g00, g10, g20, hmk, hDD, hTT, hKK⟩ := hG
        obtain ⟨e06, e10, e11, e12, e13, e14, est⟩ := hDD k0 d0 hcd0
        have e9 : ga_descr cd d0 x = x_10 := by rw [← hga, hx_10, hx_5]; unfold ga_dfin ga_top; rw [if_neg (show ¬ (x1, false).2 = true from Bool.false_ne_true), if_pos c_1, if_neg (by exact c_6)]
        refine pw_vret hx hb hr hlocks hw ⟨rfl, ?_, hfr⟩ d_G_writeDescriptor_267
        rw [e9]; exact hO0
    · skip
      refine lv_aload_n hx hb d_G_writeDescriptor_227 rfl (lv_at hl 0 rfl) ?_
      refine pw_get (Cn := "GraphWriter") (T := F_G) (N := 4) hx hb hts in_G hown hK hw 0 0 rfl g00 rfl 2 (by decide) (hts _ wd_142) (fun _ h9 => h9) rfl d_G_writeDescriptor_228 ?_
      refine lv_ldc2 (v := 112) hx hb hown (hts _ wd_600) d_G_writeDescriptor_231 ?_
      refine lv_iconst (v := 1) hx hb d_G_writeDescriptor_234 (by decide) ?_
      refine pw_callv (va_runV (As := [.long 112, .int 1]) (rest := []) ⟨hx, hb, hml, hown, hts0⟩ (k_O_put hO0 112 (w := 1) (by decide) _) (cwV 2 hts0 (wd_V wd_139 wd_136 wd_137 wd_138 wd_54) rfl rfl rfl (by decide +kernel) ⟨Nat.le_of_ble_eq_true rfl, Nat.le_of_ble_eq_true rfl⟩) (pw_preV hZ hw hA hK hz rfl h30 rfl) rfl rfl hl.1 rfl (lv_room (Nat.le_of_ble_eq_true rfl)) d_G_writeDescriptor_235 ⟨Nat.le_of_ble_eq_true rfl, Nat.le_of_ble_eq_true rfl⟩) hw hA (fun ad_11 C_12 H locs hp hw => ?_)
      obtain ⟨hae, hO, hf1⟩ := hp
      rw [hae] at hw; clear hae
      have hfr : os_fr C C_12 := fun x y h => (hf1 x y h).trans (hfr x y h)
      obtain ⟨x_14, hx_14⟩ : ∃ z, z = es_put x1 112 1 := ⟨_, rfl⟩
      rw [← hx_14] at hO
      have hO0 := hO
      obtain ⟨by0, wt, h30, h40, h50, h60, h70, hlen, hby, hwn, hw0, hwt⟩ := hO
      have hG := hG0.fr hf1
      have hG0 := hG
      obtain ⟨g00, g10, g20, hmk, hDD, hTT, hKK⟩ := hG
      obtain ⟨e06, e10, e11, e12, e13, e14, est⟩ := hDD k0 d0 hcd0
      refine lv_goto (tgt := 267) hx hb d_G_writeDescriptor_238 (by decide) ?_
      have e9 : ga_descr cd d0 x = x_14 := by rw [← hga, hx_14]; unfold ga_dfin; rw [if_neg (show ¬ (x1, false).2 = true from Bool.false_ne_true), if_neg c_1]
      refine pw_vret hx hb hr hlocks hw ⟨rfl, ?_, hfr⟩ d_G_writeDescriptor_267
      rw [e9]; exact hO0
  have key : ∀ (n : Nat) (x1 : ES) (C1 : pw_C) (H : Heap) (locs : List Loc) (lv : List (Nat × Value)) (ls : Array Slot), n ≤ dd_cn d0 → ga_dfin d0 (ga_dch cd d0 n x1) = ga_descr cd d0 x → os_x ca ad C1 x1 w0 wn sn → gw_at ca kS kT ad C1 cd mk td → os_fr C C1 → pw_H D cls9 A s.heap ad C ad C1 H locs → lv_has ls 6 ([(2, .int (nI n - 1)), (0, .ref (ad 0 0)), (1, .ref (ad 10 k0))] ++ lv) → W p l e ({ frames := 6, cells := 0, slots := 0, locals := 133 }) s m args below meth c H locs 0 0 (MQ below (pw_Q D cls9 ad C (pw_pv (fun ad' C' => ad' = ad ∧ os_x ca ad C' (ga_descr cd d0 x) w0 wn sn ∧ os_fr C C')) A) args s 0 0 A) (F0 m 8 ls []) := by
    intro n
    induction n with
    | zero =>
      intro x1 C1 H locs lv ls hn9 hga hO hG hfr hw hl
      have hl : lv_has ls 6 [(2, .int (nI 0 - 1)), (0, .ref (ad 0 0)), (1, .ref (ad 10 k0))] := ⟨hl.1, hl.2.1, fun a h => hl.2.2 a (List.mem_append_left _ h)⟩
      have hO0 := hO
      obtain ⟨by0, wt, h30, h40, h50, h60, h70, hlen, hby, hwn, hw0, hwt⟩ := hO
      have hG0 := hG
      obtain ⟨g00, g10, g20, hmk, hDD, hTT, hKK⟩ := hG
      refine lv_iload_n hx hb d_G_writeDescriptor_8 rfl (lv_at hl 0 rfl) ?_
      refine lv_if_lt (tgt := 219) hx hb d_G_writeDescriptor_9 (by decide) (fun c_15 => ?_) (fun c_15 => ?_)
      · skip
        exact tail x1 C1 _ _ _ hga hO0 hG0 hfr hw (lv_sub hl [1, 2] rfl)
      · exact absurd (by decide) c_15
    | succ n ih =>
      intro x1 C1 H locs lv ls hn9 hga hO hG hfr hw hl
      have hl : lv_has ls 6 [(2, .int (nI (n + 1) - 1)), (0, .ref (ad 0 0)), (1, .ref (ad 10 k0))] := ⟨hl.1, hl.2.1, fun a h => hl.2.2 a (List.mem_append_left _ h)⟩
      rw [nI_pred] at hl
      obtain ⟨c9, d, hc6, hcf, hcd⟩ := hch n (by omega)
      obtain ⟨-, -, -, hfn, hsh, hor, hnm9, hty9⟩ := hwf c9 d hcd
      have ecl : (dd_cf d0 n).toNatClampNeg = c9 := by rw [hcf]; exact nI_clamp (by omega)
      have hO0 := hO
      obtain ⟨by0, wt, h30, h40, h50, h60, h70, hlen, hby, hwn, hw0, hwt⟩ := hO
      have hG0 := hG
      obtain ⟨g00, g10, g20, hmk, hDD, hTT, hKK⟩ := hG
      obtain ⟨e06, e10, e11, e12, e13, e14, est⟩ := hDD k0 d0 hcd0
      refine lv_iload_n hx hb d_G_writeDescriptor_8 rfl (lv_at hl 0 rfl) ?_
      refine lv_if_lt (tgt := 219) hx hb d_G_writeDescriptor_9 (by decide) (fun c_16 => ?_) (fun c_16 => ?_)
      · exact absurd c_16 (nI_pos (by omega))
      · skip
        refine lv_aload_n hx hb d_G_writeDescriptor_12 rfl (lv_at hl 1 rfl) ?_
        refine pw_get (Cn := "GraphWriter") (T := F_G) (N := 4) hx hb hts in_G hown hK hw 0 0 rfl g00 rfl 0 (by decide) (hts _ wd_140) (fun _ h9 => h9) rfl d_G_writeDescriptor_13 ?_
        refine lv_aload_n hx hb d_G_writeDescriptor_16 rfl (lv_at hl 2 rfl) ?_
        refine pw_get (Cn := "GraphWriter$Defined") (T := F_D) (N := 11) hx hb hts in_D hown hK hw 10 k0 rfl e10 rfl 4 (by decide) (hts _ wd_303) (fun _ h9 => h9) rfl d_G_writeDescriptor_17 ?_
        refine lv_iload_n hx hb d_G_writeDescriptor_20 rfl (lv_at hl 0 rfl) ?_
        refine pw_iald hx hb hK hw 11 k0 rfl 0 e11 rfl n rfl (by omega) (by omega) d_G_writeDescriptor_21 ?_
        refine pw_aald hx hb hK hw 1 0 rfl 4 g10 rfl c9 hcf (by omega) (by omega) d_G_writeDescriptor_22 ?_
        rw [gw_cl hcd]
        obtain ⟨q06, q10, q11, q12, q13, q14, qst⟩ := hDD c9 d hcd
        refine lv_astore_n (lv' := [(3, .ref (ad 10 c9)), (2, .int (nI n)), (0, .ref (ad 0 0)), (1, .ref (ad 10 k0))]) hx hb d_G_writeDescriptor_23 rfl hl (by decide) rfl (fun ls hl => ?_)
        refine lv_aload_n hx hb d_G_writeDescriptor_24 rfl (lv_at hl 0 rfl) ?_
        refine pw_get (Cn := "GraphWriter$Defined") (T := F_D) (N := 11) hx hb hts in_D hown hK hw 10 c9 rfl q10 rfl 1 (by decide) (hts _ wd_297) (fun _ h9 => h9) rfl d_G_writeDescriptor_25 ?_
        refine lv_if_ne (tgt := 34) hx hb d_G_writeDescriptor_28 (by decide) (fun c_17 => ?_) (fun c_17 => ?_)
        · skip
          refine lv_aload_n hx hb d_G_writeDescriptor_34 rfl (lv_at hl 2 rfl) ?_
          refine pw_get (Cn := "GraphWriter") (T := F_G) (N := 4) hx hb hts in_G hown hK hw 0 0 rfl g00 rfl 2 (by decide) (hts _ wd_142) (fun _ h9 => h9) rfl d_G_writeDescriptor_35 ?_
          refine lv_bipush (v := 24) hx hb d_G_writeDescriptor_38 (by decide) ?_
          refine lv_aload_n hx hb d_G_writeDescriptor_40 rfl (lv_at hl 0 rfl) ?_
          refine pw_get (Cn := "GraphWriter$Defined") (T := F_D) (N := 11) hx hb hts in_D hown hK hw 10 c9 rfl q10 rfl 0 (by decide) (hts _ wd_295) (fun _ h9 => h9) rfl d_G_writeDescriptor_41 ?_
          refine lv_iadd hx hb d_G_writeDescriptor_44 ?_
          rw [show (24 : Int32) = nI 24 from rfl, nI_add]
          refine lv_aload_n hx hb d_G_writeDescriptor_45 rfl (lv_at hl 0 rfl) ?_
          refine pw_get (Cn := "GraphWriter$Defined") (T := F_D) (N := 11) hx hb hts in_D hown hK hw 10 c9 rfl q10 rfl 3 (by decide) (hts _ wd_301) (fun _ h9 => h9) rfl d_G_writeDescriptor_46 ?_
          refine lv_aload_n hx hb d_G_writeDescriptor_49 rfl (lv_at hl 0 rfl) ?_
          refine pw_get (Cn := "GraphWriter$Defined") (T := F_D) (N := 11) hx hb hts in_D hown hK hw 10 c9 rfl q10 rfl 2 (by decide) (hts _ wd_299) (fun _ h9 => h9) rfl d_G_writeDescriptor_50 ?_
          refine lv_aload_n hx hb d_G_writeDescriptor_53 rfl (lv_at hl 0 rfl) ?_
          refine pw_calli (va_runV (As := []) (rest := [.long (dd_id d), .ref (ad 15 c9), .int (nI (24 + c9)), .ref (ad 3 0)]) ⟨hx, hb, hml, hown, hts0⟩ (k_D_flags ⟨q10, q11, q12, q13, q14, qst⟩ _) (cwV 0 hts0 (wd_V wd_674 wd_671 wd_672 wd_673 wd_57) rfl rfl rfl (by decide +kernel) ⟨Nat.le_of_ble_eq_true rfl, Nat.le_of_ble_eq_true rfl⟩) (pw_preV hZ hw hA hK hz rfl q10 rfl) rfl rfl hl.1 rfl (lv_room (Nat.le_of_ble_eq_true rfl)) d_G_writeDescriptor_54 ⟨Nat.le_of_ble_eq_true rfl, Nat.le_of_ble_eq_true rfl⟩) hw hA (fun r_20 ad_18 C_19 H locs hp hw => ?_)
          obtain ⟨⟨hae, hce⟩, hre⟩ := hp
          rw [hae, hce] at hw
          rw [hre]
          clear hae hce hre
          refine lv_aload_n hx hb d_G_writeDescriptor_57 rfl (lv_at hl 0 rfl) ?_
          refine pw_get (Cn := "GraphWriter$Defined") (T := F_D) (N := 11) hx hb hts in_D hown hK hw 10 c9 rfl q10 rfl 9 (by decide) (hts _ wd_313) (fun _ h9 => h9) rfl d_G_writeDescriptor_58 ?_
          refine pw_calli (va_runV (As := [.int (nI (24 + c9)), .ref (ad 15 c9), .long (dd_id d), .int (ga_fl d), .int (nI (dd_sh d))]) (rest := []) ⟨hx, hb, hml, hown, hts0⟩ (k_O_openDescriptor hO0 qst (by decide) (by decide) (k := 24 + c9) (by omega) (dd_id d) (ga_fl d) (nI (dd_sh d)) _) (cwV 5 hts0 (wd_V wd_646 wd_643 wd_644 wd_645 wd_54) rfl rfl rfl (by decide +kernel) ⟨Nat.le_of_ble_eq_true rfl, Nat.le_of_ble_eq_true rfl⟩) (pw_preV hZ hw hA hK hz rfl h30 rfl) rfl rfl hl.1 rfl (lv_room (Nat.le_of_ble_eq_true rfl)) d_G_writeDescriptor_61 ⟨Nat.le_of_ble_eq_true rfl, Nat.le_of_ble_eq_true rfl⟩) hw hA (fun r_23 ad_21 C_22 H locs hp hw => ?_)
          obtain ⟨⟨hae, hO, hf1⟩, hre⟩ := hp
          rw [hae] at hw; clear hae
          have hfr : os_fr C C_22 := fun x y h => (hf1 x y h).trans (hfr x y h)
          rw [hre]; clear hre r_23
          obtain ⟨x_24, hx_24⟩ : ∃ z, z = (es_desc x1 (24 + c9) [nI (65 + c9)] (dd_id d) (ga_fl d) (nI (dd_sh d))).1 := ⟨_, rfl⟩
          rw [← hx_24] at hO
          have hO0 := hO
          obtain ⟨by0, wt, h30, h40, h50, h60, h70, hlen, hby, hwn, hw0, hwt⟩ := hO
          have hG := hG0.fr hf1
          have hG0 := hG
          obtain ⟨g00, g10, g20, hmk, hDD, hTT, hKK⟩ := hG
          obtain ⟨e06, e10, e11, e12, e13, e14, est⟩ := hDD k0 d0 hcd0
          obtain ⟨q06, q10, q11, q12, q13, q14, qst⟩ := hDD c9 d hcd
          refine lv_if_ne (tgt := 68) hx hb d_G_writeDescriptor_64 (by decide) (fun c_25 => ?_) (fun c_25 => ?_)
          · skip
            refine lv_iconst (v := 0) hx hb d_G_writeDescriptor_68 (by decide) ?_
            refine lv_istore (lv' := [(4, .int 0), (3, .ref (ad 10 c9)), (2, .int (nI n)), (0, .ref (ad 0 0)), (1, .ref (ad 10 k0))]) hx hb d_G_writeDescriptor_69 hl (by decide) rfl (fun ls hl => ?_)
            have e7 : ga_dfin d0 (ga_dch cd d0 n (es_put (ga_frec d (dd_sh d) x_24) 120 1)) = ga_descr cd d0 x := by
              rw [← hga]
              conv => rhs; rw [ga_dch, ecl]
              simp only [hcd]
              rw [if_neg c_17, if_neg c_25, hx_24]
            have inner : ∀ (r : Nat) (x1 : ES) (C1 : pw_C) (H : Heap) (locs : List Loc) (lv : List (Nat × Value)) (ls : Array Slot), r ≤ dd_sh d → ga_dfin d0 (ga_dch cd d0 n (es_put (ga_frec d r x1) 120 1)) = ga_descr cd d0 x → os_x ca ad C1 x1 w0 wn sn → gw_at ca kS kT ad C1 cd mk td → os_fr C C1 → pw_H D cls9 A s.heap ad C ad C1 H locs → lv_has ls 6 ([(4, .int (nI (dd_sh d - r))), (3, .ref (ad 10 c9)), (2, .int (nI n)), (0, .ref (ad 0 0)), (1, .ref (ad 10 k0))] ++ lv) → W p l e ({ frames := 6, cells := 0, slots := 0, locals := 133 }) s m args below meth c H locs 0 0 (MQ below (pw_Q D cls9 ad C (pw_pv (fun ad' C' => ad' = ad ∧ os_x ca ad C' (ga_descr cd d0 x) w0 wn sn ∧ os_fr C C')) A) args s 0 0 A) (F0 m 71 ls []) := by
              intro r
              induction r with
              | zero =>
                intro x1 C1 H locs lv ls hr9 hga hO hG hfr hw hl
                have hl : lv_has ls 6 [(4, .int (nI (dd_sh d - 0))), (3, .ref (ad 10 c9)), (2, .int (nI n)), (0, .ref (ad 0 0)), (1, .ref (ad 10 k0))] := ⟨hl.1, hl.2.1, fun a h => hl.2.2 a (List.mem_append_left _ h)⟩
                have hO0 := hO
                obtain ⟨by0, wt, h30, h40, h50, h60, h70, hlen, hby, hwn, hw0, hwt⟩ := hO
                have hG0 := hG
                obtain ⟨g00, g10, g20, hmk, hDD, hTT, hKK⟩ := hG
                obtain ⟨q06, q10, q11, q12, q13, q14, qst⟩ := hDD c9 d hcd
                refine lv_iload hx hb d_G_writeDescriptor_71 (lv_at hl 0 rfl) ?_
                refine lv_aload_n hx hb d_G_writeDescriptor_73 rfl (lv_at hl 1 rfl) ?_
                refine pw_get (Cn := "GraphWriter$Defined") (T := F_D) (N := 11) hx hb hts in_D hown hK hw 10 c9 rfl q10 rfl 9 (by decide) (hts _ wd_313) (fun _ h9 => h9) rfl d_G_writeDescriptor_74 ?_
                refine lv_icmp_ge (tgt := 202) hx hb d_G_writeDescriptor_77 (by decide) (fun c_26 => ?_) (fun c_26 => ?_)
                · skip
                  refine lv_aload_n hx hb d_G_writeDescriptor_202 rfl (lv_at hl 3 rfl) ?_
                  refine pw_get (Cn := "GraphWriter") (T := F_G) (N := 4) hx hb hts in_G hown hK hw 0 0 rfl g00 rfl 2 (by decide) (hts _ wd_142) (fun _ h9 => h9) rfl d_G_writeDescriptor_203 ?_
                  refine lv_ldc2 (v := 120) hx hb hown (hts _ wd_682) d_G_writeDescriptor_206 ?_
                  refine lv_iconst (v := 1) hx hb d_G_writeDescriptor_209 (by decide) ?_
                  refine pw_callv (va_runV (As := [.long 120, .int 1]) (rest := []) ⟨hx, hb, hml, hown, hts0⟩ (k_O_put hO0 120 (w := 1) (by decide) _) (cwV 2 hts0 (wd_V wd_139 wd_136 wd_137 wd_138 wd_54) rfl rfl rfl (by decide +kernel) ⟨Nat.le_of_ble_eq_true rfl, Nat.le_of_ble_eq_true rfl⟩) (pw_preV hZ hw hA hK hz rfl h30 rfl) rfl rfl hl.1 rfl (lv_room (Nat.le_of_ble_eq_true rfl)) d_G_writeDescriptor_210 ⟨Nat.le_of_ble_eq_true rfl, Nat.le_of_ble_eq_true rfl⟩) hw hA (fun ad_27 C_28 H locs hp hw => ?_)
                  obtain ⟨hae, hO, hf1⟩ := hp
                  rw [hae] at hw; clear hae
                  have hfr : os_fr C C_28 := fun x y h => (hf1 x y h).trans (hfr x y h)
                  obtain ⟨x_30, hx_30⟩ : ∃ z, z = es_put x1 120 1 := ⟨_, rfl⟩
                  rw [← hx_30] at hO
                  have hO0 := hO
                  obtain ⟨by0, wt, h30, h40, h50, h60, h70, hlen, hby, hwn, hw0, hwt⟩ := hO
                  have hG := hG0.fr hf1
                  have hG0 := hG
                  obtain ⟨g00, g10, g20, hmk, hDD, hTT, hKK⟩ := hG
                  obtain ⟨q06, q10, q11, q12, q13, q14, qst⟩ := hDD c9 d hcd
                  refine lv_iinc (v := (nI n) + (-1)) (lv' := [(2, .int ((nI n) + (-1))), (4, .int (nI (dd_sh d - 0))), (3, .ref (ad 10 c9)), (0, .ref (ad 0 0)), (1, .ref (ad 10 k0))]) hx hb d_G_writeDescriptor_213 hl (k := 2) rfl rfl (by decide) rfl (fun ls hl => ?_)
                  refine lv_goto (tgt := 8) hx hb d_G_writeDescriptor_216 (by decide) ?_
                  rw [← Int32.sub_eq_add_neg] at hl
                  refine ih _ _ _ _ _ _ (by omega) ?_ hO0 hG0 hfr hw (lv_sub (l' := [(2, .int (nI n - 1)), (0, .ref (ad 0 0)), (1, .ref (ad 10 k0))] ++ [(4, .int (nI (dd_sh d - 0))), (3, .ref (ad 10 c9))]) hl [0, 3, 4, 1, 2] rfl)
                  rw [hx_30]; exact hga
                · exact absurd (nI_le (by omega) (by omega)) c_26
              | succ r ihr =>
                intro x1 C1 H locs lv ls hr9 hga hO hG hfr hw hl
                have hl : lv_has ls 6 [(4, .int (nI (dd_sh d - (r + 1)))), (3, .ref (ad 10 c9)), (2, .int (nI n)), (0, .ref (ad 0 0)), (1, .ref (ad 10 k0))] := ⟨hl.1, hl.2.1, fun a h => hl.2.2 a (List.mem_append_left _ h)⟩
                have hO0 := hO
                obtain ⟨by0, wt, h30, h40, h50, h60, h70, hlen, hby, hwn, hw0, hwt⟩ := hO
                have hG0 := hG
                obtain ⟨g00, g10, g20, hmk, hDD, hTT, hKK⟩ := hG
                obtain ⟨q06, q10, q11, q12, q13, q14, qst⟩ := hDD c9 d hcd
                obtain ⟨f9, hf9, hof⟩ := hor (dd_sh d - (r + 1)) (by omega)
                have hf4 : f9 < 4 := by omega
                obtain ⟨n9, hn26, hnf⟩ := hnm9 f9 hf4
                obtain ⟨t9, ht8, htf⟩ := hty9 f9 hf4
                refine lv_iload hx hb d_G_writeDescriptor_71 (lv_at hl 0 rfl) ?_
                refine lv_aload_n hx hb d_G_writeDescriptor_73 rfl (lv_at hl 1 rfl) ?_
                refine pw_get (Cn := "GraphWriter$Defined") (T := F_D) (N := 11) hx hb hts in_D hown hK hw 10 c9 rfl q10 rfl 9 (by decide) (hts _ wd_313) (fun _ h9 => h9) rfl d_G_writeDescriptor_74 ?_
                refine lv_icmp_ge (tgt := 202) hx hb d_G_writeDescriptor_77 (by decide) (fun c_31 => ?_) (fun c_31 => ?_)
                · exact absurd c_31 (nI_ge (by omega) (by omega))
                · skip
                  refine lv_aload_n hx hb d_G_writeDescriptor_80 rfl (lv_at hl 1 rfl) ?_
                  refine pw_get (Cn := "GraphWriter$Defined") (T := F_D) (N := 11) hx hb hts in_D hown hK hw 10 c9 rfl q10 rfl 6 (by decide) (hts _ wd_307) (fun _ h9 => h9) rfl d_G_writeDescriptor_81 ?_
                  refine lv_aload_n hx hb d_G_writeDescriptor_84 rfl (lv_at hl 1 rfl) ?_
                  refine pw_get (Cn := "GraphWriter$Defined") (T := F_D) (N := 11) hx hb hts in_D hown hK hw 10 c9 rfl q10 rfl 7 (by decide) (hts _ wd_309) (fun _ h9 => h9) rfl d_G_writeDescriptor_85 ?_
                  refine lv_iload hx hb d_G_writeDescriptor_88 (lv_at hl 0 rfl) ?_
                  refine pw_iald hx hb hK hw 14 c9 rfl 0 q14 rfl (dd_sh d - (r + 1)) rfl (by omega) (by omega) d_G_writeDescriptor_90 ?_
                  refine pw_iald hx hb hK hw 13 c9 rfl 0 q13 rfl f9 hof (by omega) (by omega) d_G_writeDescriptor_91 ?_
                  rw [htf]
                  refine lv_istore (lv' := [(5, .int (nI t9)), (4, .int (nI (dd_sh d - (r + 1)))), (3, .ref (ad 10 c9)), (2, .int (nI n)), (0, .ref (ad 0 0)), (1, .ref (ad 10 k0))]) hx hb d_G_writeDescriptor_92 hl (by decide) rfl (fun ls hl => ?_)
                  refine lv_aload_n hx hb d_G_writeDescriptor_94 rfl (lv_at hl 4 rfl) ?_
                  refine pw_get (Cn := "GraphWriter") (T := F_G) (N := 4) hx hb hts in_G hown hK hw 0 0 rfl g00 rfl 2 (by decide) (hts _ wd_142) (fun _ h9 => h9) rfl d_G_writeDescriptor_95 ?_
                  refine pw_ldcwS (q := ad 50 3) (tx := "BCIJSZ[L") hx hb hown (by rw [(hKK.1 3 (by decide)).2]; exact hk3) d_G_writeDescriptor_98 ?_
                  refine lv_iload hx hb d_G_writeDescriptor_101 (lv_at hl 0 rfl) ?_
                  refine pw_calli (va_runV (As := [.int (nI t9)]) (rest := [.ref (ad 3 0)]) ⟨hx, hb, hml, hown, hts0⟩ (k_JS_charAt (hKK.1 3 (by decide)).1 (j := t9) (by exact ht8) _) (cwV 1 hts0 (wd_V wd_628 wd_676 wd_626 wd_627 wd_60) rfl rfl rfl (by decide +kernel) ⟨Nat.le_of_ble_eq_true rfl, Nat.le_of_ble_eq_true rfl⟩) (pw_preV hZ hw hA hK hz rfl (st_ob (hKK.1 3 (by decide)).1) rfl) rfl rfl hl.1 rfl (lv_room (Nat.le_of_ble_eq_true rfl)) d_G_writeDescriptor_103 ⟨Nat.le_of_ble_eq_true rfl, Nat.le_of_ble_eq_true rfl⟩) hw hA (fun r_34 ad_32 C_33 H locs hp hw => ?_)
                  obtain ⟨⟨hae, hce⟩, hre⟩ := hp
                  rw [hae, hce] at hw
                  rw [hre]
                  clear hae hce hre
                  refine lv_i2l hx hb d_G_writeDescriptor_106 rfl ?_
                  refine lv_iconst (v := 1) hx hb d_G_writeDescriptor_107 (by decide) ?_
                  refine pw_callv (va_runV (As := [.long (((z9_tx 3).getD t9 0).toInt64), .int 1]) (rest := []) ⟨hx, hb, hml, hown, hts0⟩ (k_O_put hO0 (((z9_tx 3).getD t9 0).toInt64) (w := 1) (by decide) _) (cwV 2 hts0 (wd_V wd_139 wd_136 wd_137 wd_138 wd_54) rfl rfl rfl (by decide +kernel) ⟨Nat.le_of_ble_eq_true rfl, Nat.le_of_ble_eq_true rfl⟩) (pw_preV hZ hw hA hK hz rfl h30 rfl) rfl rfl hl.1 rfl (lv_room (Nat.le_of_ble_eq_true rfl)) d_G_writeDescriptor_108 ⟨Nat.le_of_ble_eq_true rfl, Nat.le_of_ble_eq_true rfl⟩) hw hA (fun ad_35 C_36 H locs hp hw => ?_)
                  obtain ⟨hae, hO, hf1⟩ := hp
                  rw [hae] at hw; clear hae
                  have hfr : os_fr C C_36 := fun x y h => (hf1 x y h).trans (hfr x y h)
                  obtain ⟨x_38, hx_38⟩ : ∃ z, z = es_put x1 (((z9_tx 3).getD t9 0).toInt64) 1 := ⟨_, rfl⟩
                  rw [← hx_38] at hO
                  have hO0 := hO
                  obtain ⟨by0, wt, h30, h40, h50, h60, h70, hlen, hby, hwn, hw0, hwt⟩ := hO
                  have hG := hG0.fr hf1
                  have hG0 := hG
                  obtain ⟨g00, g10, g20, hmk, hDD, hTT, hKK⟩ := hG
                  obtain ⟨q06, q10, q11, q12, q13, q14, qst⟩ := hDD c9 d hcd
                  refine lv_aload_n hx hb d_G_writeDescriptor_111 rfl (lv_at hl 4 rfl) ?_
                  refine pw_get (Cn := "GraphWriter") (T := F_G) (N := 4) hx hb hts in_G hown hK hw 0 0 rfl g00 rfl 2 (by decide) (hts _ wd_142) (fun _ h9 => h9) rfl d_G_writeDescriptor_112 ?_
                  refine va_ldcS (q := ad 50 0) (tx := "abcdefghijklmnopqrstuvwxyz") hx hb hown (by rw [(hKK.1 0 (by decide)).2]; exact hk0) d_G_writeDescriptor_115 ?_
                  refine lv_aload_n hx hb d_G_writeDescriptor_117 rfl (lv_at hl 2 rfl) ?_
                  refine pw_get (Cn := "GraphWriter$Defined") (T := F_D) (N := 11) hx hb hts in_D hown hK hw 10 c9 rfl q10 rfl 5 (by decide) (hts _ wd_305) (fun _ h9 => h9) rfl d_G_writeDescriptor_118 ?_
                  refine lv_aload_n hx hb d_G_writeDescriptor_121 rfl (lv_at hl 2 rfl) ?_
                  refine pw_get (Cn := "GraphWriter$Defined") (T := F_D) (N := 11) hx hb hts in_D hown hK hw 10 c9 rfl q10 rfl 7 (by decide) (hts _ wd_309) (fun _ h9 => h9) rfl d_G_writeDescriptor_122 ?_
                  refine lv_iload hx hb d_G_writeDescriptor_125 (lv_at hl 1 rfl) ?_
                  refine pw_iald hx hb hK hw 14 c9 rfl 0 q14 rfl (dd_sh d - (r + 1)) rfl (by omega) (by omega) d_G_writeDescriptor_127 ?_
                  refine pw_iald hx hb hK hw 12 c9 rfl 0 q12 rfl f9 hof (by omega) (by omega) d_G_writeDescriptor_128 ?_
                  rw [hnf]
                  refine pw_calli (va_runV (As := [.int (nI n9)]) (rest := [.ref (ad 3 0)]) ⟨hx, hb, hml, hown, hts0⟩ (k_JS_charAt (hKK.1 0 (by decide)).1 (j := n9) (by exact hn26) _) (cwV 1 hts0 (wd_V wd_628 wd_676 wd_626 wd_627 wd_60) rfl rfl rfl (by decide +kernel) ⟨Nat.le_of_ble_eq_true rfl, Nat.le_of_ble_eq_true rfl⟩) (pw_preV hZ hw hA hK hz rfl (st_ob (hKK.1 0 (by decide)).1) rfl) rfl rfl hl.1 rfl (lv_room (Nat.le_of_ble_eq_true rfl)) d_G_writeDescriptor_129 ⟨Nat.le_of_ble_eq_true rfl, Nat.le_of_ble_eq_true rfl⟩) hw hA (fun r_41 ad_39 C_40 H locs hp hw => ?_)
                  obtain ⟨⟨hae, hce⟩, hre⟩ := hp
                  rw [hae, hce] at hw
                  rw [hre]
                  clear hae hce hre
                  refine pw_callv (va_runV (As := [.int ((z9_tx 0).getD n9 0)]) (rest := []) ⟨hx, hb, hml, hown, hts0⟩ (k_O_putSign hZ hO0 (c0 := (z9_tx 0).getD n9 0) _) (cwV 1 hts0 (wd_V wd_680 wd_677 wd_678 wd_679 wd_54) rfl rfl rfl (by decide +kernel) ⟨Nat.le_of_ble_eq_true rfl, Nat.le_of_ble_eq_true rfl⟩) (pw_preV hZ hw hA hK hz rfl h30 rfl) rfl rfl hl.1 rfl (lv_room (Nat.le_of_ble_eq_true rfl)) d_G_writeDescriptor_132 ⟨Nat.le_of_ble_eq_true rfl, Nat.le_of_ble_eq_true rfl⟩) hw hA (fun ad_42 C_43 H locs hp hw => ?_)
                  obtain ⟨hae, hO, hf1⟩ := hp
                  rw [hae] at hw; clear hae
                  have hfr : os_fr C C_43 := fun x y h => (hf1 x y h).trans (hfr x y h)
                  obtain ⟨x_45, hx_45⟩ : ∃ z, z = es_sign x_38 ((z9_tx 0).getD n9 0) := ⟨_, rfl⟩
                  rw [← hx_45] at hO
                  have hO0 := hO
                  obtain ⟨by0, wt, h30, h40, h50, h60, h70, hlen, hby, hwn, hw0, hwt⟩ := hO
                  have hG := hG0.fr hf1
                  have hG0 := hG
                  obtain ⟨g00, g10, g20, hmk, hDD, hTT, hKK⟩ := hG
                  obtain ⟨q06, q10, q11, q12, q13, q14, qst⟩ := hDD c9 d hcd
                  refine lv_iload hx hb d_G_writeDescriptor_135 (lv_at hl 0 rfl) ?_
                  refine lv_bipush (v := 6) hx hb d_G_writeDescriptor_137 (by decide) ?_
                  refine lv_icmp_ne (tgt := 165) hx hb d_G_writeDescriptor_139 (by decide) (fun c_46 => ?_) (fun c_46 => ?_)
                  · skip
                    refine lv_iload hx hb d_G_writeDescriptor_165 (lv_at hl 0 rfl) ?_
                    refine lv_bipush (v := 7) hx hb d_G_writeDescriptor_167 (by decide) ?_
                    refine lv_icmp_ne (tgt := 196) hx hb d_G_writeDescriptor_169 (by decide) (fun c_47 => ?_) (fun c_47 => ?_)
                    · skip
                      refine lv_iinc (v := (nI (dd_sh d - (r + 1))) + 1) (lv' := [(4, .int ((nI (dd_sh d - (r + 1))) + 1)), (5, .int (nI t9)), (3, .ref (ad 10 c9)), (2, .int (nI n)), (0, .ref (ad 0 0)), (1, .ref (ad 10 k0))]) hx hb d_G_writeDescriptor_196 hl (k := 1) rfl rfl (by decide) rfl (fun ls hl => ?_)
                      refine lv_goto (tgt := 71) hx hb d_G_writeDescriptor_199 (by decide) ?_
                      rw [nI_1, show dd_sh d - (r + 1) + 1 = dd_sh d - r by omega] at hl
                      refine ihr _ _ _ _ [(5, .int (nI t9))] _ (by omega) ?_ hO0 hG0 hfr hw (lv_sub hl [0, 2, 3, 4, 5, 1] rfl)
                      have e1 : (dd_or d (dd_sh d - (r + 1))).toNatClampNeg = f9 := by rw [hof]; exact nI_clamp (by omega)
                      have e2 : (dd_ty d f9).toNatClampNeg = t9 := by rw [htf]; exact nI_clamp (by omega)
                      have e3 : (dd_nm d f9).toNatClampNeg = n9 := by rw [hnf]; exact nI_clamp (by omega)
                      have e4 : ga_fent d x1 (dd_sh d - (r + 1)) = ga_tyt (es_sign (es_put x1 ((z9_tx 3).getD t9 0).toInt64 1) ((z9_tx 0).getD n9 0)) (nI t9) := by unfold ga_fent; rw [e1, e2, e3, htf]
                      have e5 : ga_fent d x1 (dd_sh d - (r + 1)) = x_45 := by rw [e4, ← hx_38, ← hx_45]; unfold ga_tyt; rw [if_neg c_46, if_neg c_47]
                      rw [← e5, ← hga]; show _ = ga_dfin d0 (ga_dch cd d0 n (es_put (ga_frec d r (ga_fent d x1 (dd_sh d - 1 - r))) 120 1)); rw [show dd_sh d - 1 - r = dd_sh d - (r + 1) by omega]
                    · skip
                      refine lv_aload_n hx hb d_G_writeDescriptor_172 rfl (lv_at hl 4 rfl) ?_
                      refine pw_get (Cn := "GraphWriter") (T := F_G) (N := 4) hx hb hts in_G hown hK hw 0 0 rfl g00 rfl 2 (by decide) (hts _ wd_142) (fun _ h9 => h9) rfl d_G_writeDescriptor_173 ?_
                      refine lv_bipush (v := 34) hx hb d_G_writeDescriptor_176 (by decide) ?_
                      refine pw_calli (va_runV (As := [.int 34]) (rest := []) ⟨hx, hb, hml, hown, hts0⟩ (k_O_putReference hZ hO0 (k := 34) (by decide) _) (cwV 1 hts0 (wd_V wd_608 wd_605 wd_606 wd_607 wd_54) rfl rfl rfl (by decide +kernel) ⟨Nat.le_of_ble_eq_true rfl, Nat.le_of_ble_eq_true rfl⟩) (pw_preV hZ hw hA hK hz rfl h30 rfl) rfl rfl hl.1 rfl (lv_room (Nat.le_of_ble_eq_true rfl)) d_G_writeDescriptor_178 ⟨Nat.le_of_ble_eq_true rfl, Nat.le_of_ble_eq_true rfl⟩) hw hA (fun r_50 ad_48 C_49 H locs hp hw => ?_)
                      obtain ⟨⟨hae, hO, hf1⟩, hre⟩ := hp
                      rw [hae] at hw; clear hae
                      have hfr : os_fr C C_49 := fun x y h => (hf1 x y h).trans (hfr x y h)
                      rw [hre]; clear hre r_50
                      obtain ⟨x_51, hx_51⟩ : ∃ z, z = (es_ref x_45 34).1 := ⟨_, rfl⟩
                      rw [← hx_51] at hO
                      have hO0 := hO
                      obtain ⟨by0, wt, h30, h40, h50, h60, h70, hlen, hby, hwn, hw0, hwt⟩ := hO
                      have hG := hG0.fr hf1
                      have hG0 := hG
                      obtain ⟨g00, g10, g20, hmk, hDD, hTT, hKK⟩ := hG
                      obtain ⟨q06, q10, q11, q12, q13, q14, qst⟩ := hDD c9 d hcd
                      refine lv_if_ne (tgt := 196) hx hb d_G_writeDescriptor_181 (by decide) (fun c_52 => ?_) (fun c_52 => ?_)
                      · skip
                        refine lv_iinc (v := (nI (dd_sh d - (r + 1))) + 1) (lv' := [(4, .int ((nI (dd_sh d - (r + 1))) + 1)), (5, .int (nI t9)), (3, .ref (ad 10 c9)), (2, .int (nI n)), (0, .ref (ad 0 0)), (1, .ref (ad 10 k0))]) hx hb d_G_writeDescriptor_196 hl (k := 1) rfl rfl (by decide) rfl (fun ls hl => ?_)
                        refine lv_goto (tgt := 71) hx hb d_G_writeDescriptor_199 (by decide) ?_
                        rw [nI_1, show dd_sh d - (r + 1) + 1 = dd_sh d - r by omega] at hl
                        refine ihr _ _ _ _ [(5, .int (nI t9))] _ (by omega) ?_ hO0 hG0 hfr hw (lv_sub hl [0, 2, 3, 4, 5, 1] rfl)
                        have e1 : (dd_or d (dd_sh d - (r + 1))).toNatClampNeg = f9 := by rw [hof]; exact nI_clamp (by omega)
                        have e2 : (dd_ty d f9).toNatClampNeg = t9 := by rw [htf]; exact nI_clamp (by omega)
                        have e3 : (dd_nm d f9).toNatClampNeg = n9 := by rw [hnf]; exact nI_clamp (by omega)
                        have e4 : ga_fent d x1 (dd_sh d - (r + 1)) = ga_tyt (es_sign (es_put x1 ((z9_tx 3).getD t9 0).toInt64 1) ((z9_tx 0).getD n9 0)) (nI t9) := by unfold ga_fent; rw [e1, e2, e3, htf]
                        have e5 : ga_fent d x1 (dd_sh d - (r + 1)) = x_51 := by rw [e4, ← hx_38, ← hx_45]; unfold ga_tyt; rw [if_neg c_46, if_pos c_47]; unfold ga_tt; rw [if_neg (by exact c_52)]; rw [← hx_51]
                        rw [← e5, ← hga]; show _ = ga_dfin d0 (ga_dch cd d0 n (es_put (ga_frec d r (ga_fent d x1 (dd_sh d - 1 - r))) 120 1)); rw [show dd_sh d - 1 - r = dd_sh d - (r + 1) by omega]
                      · skip
                        refine lv_aload_n hx hb d_G_writeDescriptor_184 rfl (lv_at hl 4 rfl) ?_
                        refine pw_get (Cn := "GraphWriter") (T := F_G) (N := 4) hx hb hts in_G hown hK hw 0 0 rfl g00 rfl 2 (by decide) (hts _ wd_142) (fun _ h9 => h9) rfl d_G_writeDescriptor_185 ?_
                        refine lv_bipush (v := 34) hx hb d_G_writeDescriptor_188 (by decide) ?_
                        refine pw_ldcwS (q := ad 50 4) (tx := "Ljava/lang/Object;") hx hb hown (by rw [(hKK.1 4 (by decide)).2]; exact hk4) d_G_writeDescriptor_190 ?_
                        refine pw_callv (va_runV (As := [.int 34, .ref (ad 50 4)]) (rest := []) ⟨hx, hb, hml, hown, hts0⟩ (k_O_putText hO0 (hKK.1 4 (by decide)).1 (by decide) (by decide) (k := 34) (by decide) _) (cwV 2 hts0 (wd_V wd_614 wd_611 wd_612 wd_613 wd_54) rfl rfl rfl (by decide +kernel) ⟨Nat.le_of_ble_eq_true rfl, Nat.le_of_ble_eq_true rfl⟩) (pw_preV hZ hw hA hK hz rfl h30 rfl) rfl rfl hl.1 rfl (lv_room (Nat.le_of_ble_eq_true rfl)) d_G_writeDescriptor_193 ⟨Nat.le_of_ble_eq_true rfl, Nat.le_of_ble_eq_true rfl⟩) hw hA (fun ad_53 C_54 H locs hp hw => ?_)
                        obtain ⟨hae, hO, hf1⟩ := hp
                        rw [hae] at hw; clear hae
                        have hfr : os_fr C C_54 := fun x y h => (hf1 x y h).trans (hfr x y h)
                        obtain ⟨x_56, hx_56⟩ : ∃ z, z = es_text x_51 34 (z9_tx 4) := ⟨_, rfl⟩
                        rw [← hx_56] at hO
                        have hO0 := hO
                        obtain ⟨by0, wt, h30, h40, h50, h60, h70, hlen, hby, hwn, hw0, hwt⟩ := hO
                        have hG := hG0.fr hf1
                        have hG0 := hG
                        obtain ⟨g00, g10, g20, hmk, hDD, hTT, hKK⟩ := hG
                        obtain ⟨q06, q10, q11, q12, q13, q14, qst⟩ := hDD c9 d hcd
                        refine lv_iinc (v := (nI (dd_sh d - (r + 1))) + 1) (lv' := [(4, .int ((nI (dd_sh d - (r + 1))) + 1)), (5, .int (nI t9)), (3, .ref (ad 10 c9)), (2, .int (nI n)), (0, .ref (ad 0 0)), (1, .ref (ad 10 k0))]) hx hb d_G_writeDescriptor_196 hl (k := 1) rfl rfl (by decide) rfl (fun ls hl => ?_)
                        refine lv_goto (tgt := 71) hx hb d_G_writeDescriptor_199 (by decide) ?_
                        rw [nI_1, show dd_sh d - (r + 1) + 1 = dd_sh d - r by omega] at hl
                        refine ihr _ _ _ _ [(5, .int (nI t9))] _ (by omega) ?_ hO0 hG0 hfr hw (lv_sub hl [0, 2, 3, 4, 5, 1] rfl)
                        have e1 : (dd_or d (dd_sh d - (r + 1))).toNatClampNeg = f9 := by rw [hof]; exact nI_clamp (by omega)
                        have e2 : (dd_ty d f9).toNatClampNeg = t9 := by rw [htf]; exact nI_clamp (by omega)
                        have e3 : (dd_nm d f9).toNatClampNeg = n9 := by rw [hnf]; exact nI_clamp (by omega)
                        have e4 : ga_fent d x1 (dd_sh d - (r + 1)) = ga_tyt (es_sign (es_put x1 ((z9_tx 3).getD t9 0).toInt64 1) ((z9_tx 0).getD n9 0)) (nI t9) := by unfold ga_fent; rw [e1, e2, e3, htf]
                        have e5 : ga_fent d x1 (dd_sh d - (r + 1)) = x_56 := by rw [e4, ← hx_38, ← hx_45]; unfold ga_tyt; rw [if_neg c_46, if_pos c_47]; unfold ga_tt; rw [if_pos (by exact c_52)]; rw [← hx_51]; rw [← hx_56]
                        rw [← e5, ← hga]; show _ = ga_dfin d0 (ga_dch cd d0 n (es_put (ga_frec d r (ga_fent d x1 (dd_sh d - 1 - r))) 120 1)); rw [show dd_sh d - 1 - r = dd_sh d - (r + 1) by omega]
                  · skip
                    refine lv_aload_n hx hb d_G_writeDescriptor_142 rfl (lv_at hl 4 rfl) ?_
                    refine pw_get (Cn := "GraphWriter") (T := F_G) (N := 4) hx hb hts in_G hown hK hw 0 0 rfl g00 rfl 2 (by decide) (hts _ wd_142) (fun _ h9 => h9) rfl d_G_writeDescriptor_143 ?_
                    refine lv_bipush (v := 33) hx hb d_G_writeDescriptor_146 (by decide) ?_
                    refine pw_calli (va_runV (As := [.int 33]) (rest := []) ⟨hx, hb, hml, hown, hts0⟩ (k_O_putReference hZ hO0 (k := 33) (by decide) _) (cwV 1 hts0 (wd_V wd_608 wd_605 wd_606 wd_607 wd_54) rfl rfl rfl (by decide +kernel) ⟨Nat.le_of_ble_eq_true rfl, Nat.le_of_ble_eq_true rfl⟩) (pw_preV hZ hw hA hK hz rfl h30 rfl) rfl rfl hl.1 rfl (lv_room (Nat.le_of_ble_eq_true rfl)) d_G_writeDescriptor_148 ⟨Nat.le_of_ble_eq_true rfl, Nat.le_of_ble_eq_true rfl⟩) hw hA (fun r_59 ad_57 C_58 H locs hp hw => ?_)
                    obtain ⟨⟨hae, hO, hf1⟩, hre⟩ := hp
                    rw [hae] at hw; clear hae
                    have hfr : os_fr C C_58 := fun x y h => (hf1 x y h).trans (hfr x y h)
                    rw [hre]; clear hre r_59
                    obtain ⟨x_60, hx_60⟩ : ∃ z, z = (es_ref x_45 33).1 := ⟨_, rfl⟩
                    rw [← hx_60] at hO
                    have hO0 := hO
                    obtain ⟨by0, wt, h30, h40, h50, h60, h70, hlen, hby, hwn, hw0, hwt⟩ := hO
                    have hG := hG0.fr hf1
                    have hG0 := hG
                    obtain ⟨g00, g10, g20, hmk, hDD, hTT, hKK⟩ := hG
                    obtain ⟨q06, q10, q11, q12, q13, q14, qst⟩ := hDD c9 d hcd
                    refine lv_if_ne (tgt := 165) hx hb d_G_writeDescriptor_151 (by decide) (fun c_61 => ?_) (fun c_61 => ?_)
                    · skip
                      refine lv_iload hx hb d_G_writeDescriptor_165 (lv_at hl 0 rfl) ?_
                      refine lv_bipush (v := 7) hx hb d_G_writeDescriptor_167 (by decide) ?_
                      refine lv_icmp_ne (tgt := 196) hx hb d_G_writeDescriptor_169 (by decide) (fun c_62 => ?_) (fun c_62 => ?_)
                      · skip
                        refine lv_iinc (v := (nI (dd_sh d - (r + 1))) + 1) (lv' := [(4, .int ((nI (dd_sh d - (r + 1))) + 1)), (5, .int (nI t9)), (3, .ref (ad 10 c9)), (2, .int (nI n)), (0, .ref (ad 0 0)), (1, .ref (ad 10 k0))]) hx hb d_G_writeDescriptor_196 hl (k := 1) rfl rfl (by decide) rfl (fun ls hl => ?_)
                        refine lv_goto (tgt := 71) hx hb d_G_writeDescriptor_199 (by decide) ?_
                        rw [nI_1, show dd_sh d - (r + 1) + 1 = dd_sh d - r by omega] at hl
                        refine ihr _ _ _ _ [(5, .int (nI t9))] _ (by omega) ?_ hO0 hG0 hfr hw (lv_sub hl [0, 2, 3, 4, 5, 1] rfl)
                        have e1 : (dd_or d (dd_sh d - (r + 1))).toNatClampNeg = f9 := by rw [hof]; exact nI_clamp (by omega)
                        have e2 : (dd_ty d f9).toNatClampNeg = t9 := by rw [htf]; exact nI_clamp (by omega)
                        have e3 : (dd_nm d f9).toNatClampNeg = n9 := by rw [hnf]; exact nI_clamp (by omega)
                        have e4 : ga_fent d x1 (dd_sh d - (r + 1)) = ga_tyt (es_sign (es_put x1 ((z9_tx 3).getD t9 0).toInt64 1) ((z9_tx 0).getD n9 0)) (nI t9) := by unfold ga_fent; rw [e1, e2, e3, htf]
                        have e5 : ga_fent d x1 (dd_sh d - (r + 1)) = x_60 := by rw [e4, ← hx_38, ← hx_45]; unfold ga_tyt; rw [if_pos c_46]; unfold ga_tt; rw [if_neg (by exact c_61)]; rw [← hx_60]
                        rw [← e5, ← hga]; show _ = ga_dfin d0 (ga_dch cd d0 n (es_put (ga_frec d r (ga_fent d x1 (dd_sh d - 1 - r))) 120 1)); rw [show dd_sh d - 1 - r = dd_sh d - (r + 1) by omega]
                      · exact absurd ((show nI t9 = 6 from c_46).symm.trans c_62) (by decide)
                    · skip
                      refine lv_aload_n hx hb d_G_writeDescriptor_154 rfl (lv_at hl 4 rfl) ?_
                      refine pw_get (Cn := "GraphWriter") (T := F_G) (N := 4) hx hb hts in_G hown hK hw 0 0 rfl g00 rfl 2 (by decide) (hts _ wd_142) (fun _ h9 => h9) rfl d_G_writeDescriptor_155 ?_
                      refine lv_bipush (v := 33) hx hb d_G_writeDescriptor_158 (by decide) ?_
                      refine va_ldcS (q := ad 50 1) (tx := "[I") hx hb hown (by rw [(hKK.1 1 (by decide)).2]; exact hk1) d_G_writeDescriptor_160 ?_
                      refine pw_callv (va_runV (As := [.int 33, .ref (ad 50 1)]) (rest := []) ⟨hx, hb, hml, hown, hts0⟩ (k_O_putText hO0 (hKK.1 1 (by decide)).1 (by decide) (by decide) (k := 33) (by decide) _) (cwV 2 hts0 (wd_V wd_614 wd_611 wd_612 wd_613 wd_54) rfl rfl rfl (by decide +kernel) ⟨Nat.le_of_ble_eq_true rfl, Nat.le_of_ble_eq_true rfl⟩) (pw_preV hZ hw hA hK hz rfl h30 rfl) rfl rfl hl.1 rfl (lv_room (Nat.le_of_ble_eq_true rfl)) d_G_writeDescriptor_162 ⟨Nat.le_of_ble_eq_true rfl, Nat.le_of_ble_eq_true rfl⟩) hw hA (fun ad_63 C_64 H locs hp hw => ?_)
                      obtain ⟨hae, hO, hf1⟩ := hp
                      rw [hae] at hw; clear hae
                      have hfr : os_fr C C_64 := fun x y h => (hf1 x y h).trans (hfr x y h)
                      obtain ⟨x_66, hx_66⟩ : ∃ z, z = es_text x_60 33 (z9_tx 1) := ⟨_, rfl⟩
                      rw [← hx_66] at hO
                      have hO0 := hO
                      obtain ⟨by0, wt, h30, h40, h50, h60, h70, hlen, hby, hwn, hw0, hwt⟩ := hO
                      have hG := hG0.fr hf1
                      have hG0 := hG
                      obtain ⟨g00, g10, g20, hmk, hDD, hTT, hKK⟩ := hG
                      obtain ⟨q06, q10, q11, q12, q13, q14, qst⟩ := hDD c9 d hcd
                      refine lv_iload hx hb d_G_writeDescriptor_165 (lv_at hl 0 rfl) ?_
                      refine lv_bipush (v := 7) hx hb d_G_writeDescriptor_167 (by decide) ?_
                      refine lv_icmp_ne (tgt := 196) hx hb d_G_writeDescriptor_169 (by decide) (fun c_67 => ?_) (fun c_67 => ?_)
                      · skip
                        refine lv_iinc (v := (nI (dd_sh d - (r + 1))) + 1) (lv' := [(4, .int ((nI (dd_sh d - (r + 1))) + 1)), (5, .int (nI t9)), (3, .ref (ad 10 c9)), (2, .int (nI n)), (0, .ref (ad 0 0)), (1, .ref (ad 10 k0))]) hx hb d_G_writeDescriptor_196 hl (k := 1) rfl rfl (by decide) rfl (fun ls hl => ?_)
                        refine lv_goto (tgt := 71) hx hb d_G_writeDescriptor_199 (by decide) ?_
                        rw [nI_1, show dd_sh d - (r + 1) + 1 = dd_sh d - r by omega] at hl
                        refine ihr _ _ _ _ [(5, .int (nI t9))] _ (by omega) ?_ hO0 hG0 hfr hw (lv_sub hl [0, 2, 3, 4, 5, 1] rfl)
                        have e1 : (dd_or d (dd_sh d - (r + 1))).toNatClampNeg = f9 := by rw [hof]; exact nI_clamp (by omega)
                        have e2 : (dd_ty d f9).toNatClampNeg = t9 := by rw [htf]; exact nI_clamp (by omega)
                        have e3 : (dd_nm d f9).toNatClampNeg = n9 := by rw [hnf]; exact nI_clamp (by omega)
                        have e4 : ga_fent d x1 (dd_sh d - (r + 1)) = ga_tyt (es_sign (es_put x1 ((z9_tx 3).getD t9 0).toInt64 1) ((z9_tx 0).getD n9 0)) (nI t9) := by unfold ga_fent; rw [e1, e2, e3, htf]
                        have e5 : ga_fent d x1 (dd_sh d - (r + 1)) = x_66 := by rw [e4, ← hx_38, ← hx_45]; unfold ga_tyt; rw [if_pos c_46]; unfold ga_tt; rw [if_pos (by exact c_61)]; rw [← hx_60]; rw [← hx_66]
                        rw [← e5, ← hga]; show _ = ga_dfin d0 (ga_dch cd d0 n (es_put (ga_frec d r (ga_fent d x1 (dd_sh d - 1 - r))) 120 1)); rw [show dd_sh d - 1 - r = dd_sh d - (r + 1) by omega]
                      · exact absurd ((show nI t9 = 6 from c_46).symm.trans c_67) (by decide)
            exact inner (dd_sh d) x_24 _ _ _ [] _ (Nat.le_refl _) e7 hO0 hG0 hfr hw (by rw [Nat.sub_self]; exact hl)
          · skip
            have e9 : ga_descr cd d0 x = x_24 := by rw [← hga, ga_dch, ecl]; simp only [hcd]; rw [if_neg c_17, if_pos c_25, hx_24]; rfl
            refine pw_vret hx hb hr hlocks hw ⟨rfl, ?_, hfr⟩ d_G_writeDescriptor_67
            rw [e9]; exact hO0
        · skip
          refine lv_goto (tgt := 219) hx hb d_G_writeDescriptor_31 (by decide) ?_
          exact tail x1 C1 _ _ _ (by rw [← hga, ga_dch, ecl]; simp only [hcd]; rw [if_pos c_17]) hO0 hG0 hfr hw (lv_sub hl [2, 3] rfl)
  obtain ⟨e06, e10, e11, e12, e13, e14, est⟩ := hDD k0 d0 hcd0
  refine lv_aload_n hx hb d_G_writeDescriptor_0 rfl (lv_at hl 1 rfl) ?_
  refine pw_get (Cn := "GraphWriter$Defined") (T := F_D) (N := 11) hx hb hts in_D hown hK hw 10 k0 rfl e10 rfl 4 (by decide) (hts _ wd_303) (fun _ h9 => h9) rfl d_G_writeDescriptor_1 ?_
  refine pw_alen hx hb hK hw 11 k0 rfl 0 e11 rfl d_G_writeDescriptor_4 ?_
  refine lv_iconst (v := 1) hx hb d_G_writeDescriptor_5 (by decide) ?_
  refine lv_isub hx hb d_G_writeDescriptor_6 ?_
  refine lv_istore_n (lv' := [(2, .int ((nI (dd_cn d0)) - 1)), (0, .ref (ad 0 0)), (1, .ref (ad 10 k0))]) hx hb d_G_writeDescriptor_7 rfl hl (by decide) rfl (fun ls hl => ?_)
  exact key (dd_cn d0) x C _ _ [] _ (Nat.le_refl _) rfl hO0 hG0 hfr hw hl
