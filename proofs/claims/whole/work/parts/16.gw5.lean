theorem gw_wd_ok : ∀ t, t < 6 → ∃ w, w ≤ 8 ∧ gw_wd t = nI w := by
  intro t ht
  match t, ht with
  | 0, _ => exact ⟨1, by decide, rfl⟩
  | 1, _ => exact ⟨2, by decide, rfl⟩
  | 2, _ => exact ⟨4, by decide, rfl⟩
  | 3, _ => exact ⟨8, by decide, rfl⟩
  | 4, _ => exact ⟨2, by decide, rfl⟩
  | 5, _ => exact ⟨1, by decide, rfl⟩
  | t + 6, h => exact absurd h (by omega)
theorem ga_sum_le (cd : Nat → Option DT) (d0 : DT) : ∀ (m j : Nat), ga_sum cd d0 j ≤ ga_sum cd d0 (j + m) := by
  intro m
  induction m with
  | zero => intro j; exact Nat.le_refl _
  | succ m ih => intro j; exact Nat.le_trans (ih j) (Nat.le_add_right _ _)
set_option maxHeartbeats 4000000 in
set_option maxRecDepth 100000 in
theorem k_G_writeParts {l : Launch} {D : va_G} {ca : Nat → ClassId} {kS : Nat → Nat} {kT : Nat} {ad : pw_A} {C : pw_C} {cd : Nat → Option DT} {mk : Nat} {td : Nat → TT} (hG : gw_at ca kS kT ad C cd mk td) {x : ES} {w0 : List Int32} {wn : Nat} {sn : SN} (hO : os_x ca ad C x w0 wn sn) {n : Nat} (hn9 : n ≤ 12) (IH : gi_obj l D ca kS kT cd mk td n) (hwf : wf_d cd) {o k fi : Nat} {d : DT} (ho : o < mk) (hcd : cd k = some d) (hfi : fi + dd_fn d ≤ tt_n (td o)) (hva : ∀ f, f < dd_fn d → ¬ dd_ty d f < 6 → wf_v mk (tt_va (td o) (fi + f))) : gc_Con l y_G_writeParts c_G_writeParts (gr_P n) D ca (z9_Z kS kT) [.ref (ad 0 0), .ref (ad 20 o), .ref (ad 10 k), .int (nI fi), .int (nI (12 - n))] ad C (gp_O ca ad C w0 wn sn (ga_parts (fun x g => ga_obj cd td n x g 0) k (td o) d fi x)) 0 0 := by
  have hZ := z9_ok kS kT
  have hG0 := hG
  obtain ⟨g00, g10, g20, hmk, hDD, hTT, hKK⟩ := hG
  have hO0 := hO
  obtain ⟨by0, wt, h30, h40, h50, h60, h70, hlen, hby, hwn, hw0, hwt⟩ := hO
  refine pw_ofW (cc := b_G_writeParts) (maxL := 10) (ret := none) (by decide) rfl (Nat.le_of_ble_eq_true rfl) ?_
  intro p e s m args below meth c A ls hB hA hw hK hz hl
  obtain ⟨hx, hb, hr, hml, hts0, hlocks, hown, hnm⟩ := hB
  have hts := wd_hts hts0
  have hown : s.vm.findClass "GraphWriter" = some m.cls := hown
  have hl : lv_has ls 10 [(0, .ref (ad 0 0)), (1, .ref (ad 20 o)), (2, .ref (ad 10 k)), (3, .int (nI fi)), (4, .int (nI (12 - n)))] := hl
  have hz0 := hz
  obtain ⟨hz1, hz2, hz3, hk0, hk1, hk2, hk3, hk4, hk5, hk6, hk7, hao1, hao2, hnw⟩ := hz0
  have hfr : os_fr C C := fun _ _ _ => rfl
  obtain ⟨hk6, -, -, hfn, hsh, hor, -, hty9⟩ := hwf k d hcd
  have loop : ∀ (r : Nat) (x1 : ES) (C1 : pw_C) (H : Heap) (locs : List Loc) (lv : List (Nat × Value)) (ls : Array Slot), r ≤ dd_sh d → ga_cust k (td o) d (ga_prec (fun x g => ga_obj cd td n x g 0) (td o) d fi r x1) = ga_parts (fun x g => ga_obj cd td n x g 0) k (td o) d fi x → os_x ca ad C1 x1 w0 wn sn → gw_at ca kS kT ad C1 cd mk td → os_fr C C1 → pw_H D cls9 A s.heap ad C ad C1 H locs → lv_has ls 10 ([(5, .int (nI (dd_sh d - r))), (0, .ref (ad 0 0)), (1, .ref (ad 20 o)), (2, .ref (ad 10 k)), (3, .int (nI fi)), (4, .int (nI (12 - n)))] ++ lv) → W p l e (gr_P n) s m args below meth c H locs 0 0 (MQ below (pw_Q D cls9 ad C (gp_O ca ad C w0 wn sn (ga_parts (fun x g => ga_obj cd td n x g 0) k (td o) d fi x)) A) args s 0 0 A) (F0 m 3 ls []) := by
    intro r
    induction r with
    | zero =>
      intro x1 C1 H locs lv ls hr9 hga hO hG hfr hw hl
      have hl : lv_has ls 10 [(5, .int (nI (dd_sh d - 0))), (0, .ref (ad 0 0)), (1, .ref (ad 20 o)), (2, .ref (ad 10 k)), (3, .int (nI fi)), (4, .int (nI (12 - n)))] := ⟨hl.1, hl.2.1, fun a h => hl.2.2 a (List.mem_append_left _ h)⟩
      have hO0 := hO
      obtain ⟨by0, wt, h30, h40, h50, h60, h70, hlen, hby, hwn, hw0, hwt⟩ := hO
      have hG0 := hG
      obtain ⟨g00, g10, g20, hmk, hDD, hTT, hKK⟩ := hG
      obtain ⟨p20, p21, p22, pn, pt⟩ := hTT o ho
      obtain ⟨q06, q10, q11, q12, q13, q14, qst⟩ := hDD k d hcd
      refine lv_iload hx hb d_G_writeParts_3 (lv_at hl 0 rfl) ?_
      refine lv_aload_n hx hb d_G_writeParts_5 rfl (lv_at hl 3 rfl) ?_
      refine pw_get (Cn := "GraphWriter$Defined") (T := F_D) (N := 11) hx hb hts in_D hown hK hw 10 k rfl q10 rfl 9 (by decide) (hts _ wd_313) (fun _ h9 => h9) rfl d_G_writeParts_6 ?_
      refine lv_icmp_ge (tgt := 97) hx hb d_G_writeParts_9 (by decide) (fun c_1 => ?_) (fun c_1 => ?_)
      · skip
        refine lv_aload_n hx hb d_G_writeParts_97 rfl (lv_at hl 3 rfl) ?_
        refine pw_get (Cn := "GraphWriter$Defined") (T := F_D) (N := 11) hx hb hts in_D hown hK hw 10 k rfl q10 rfl 1 (by decide) (hts _ wd_297) (fun _ h9 => h9) rfl d_G_writeParts_98 ?_
        refine lv_iconst (v := 2) hx hb d_G_writeParts_101 (by decide) ?_
        refine lv_icmp_ne (tgt := 156) hx hb d_G_writeParts_102 (by decide) (fun c_2 => ?_) (fun c_2 => ?_)
        · skip
          have e9 : ga_parts (fun x g => ga_obj cd td n x g 0) k (td o) d fi x = x1 := by rw [← hga]; show ga_cust k (td o) d x1 = _; unfold ga_cust; rw [if_neg c_2]
          refine pw_vret hx hb hr hlocks hw ⟨rfl, ?_, hfr⟩ d_G_writeParts_156
          rw [e9]; exact hO0
        · skip
          refine lv_aload_n hx hb d_G_writeParts_105 rfl (lv_at hl 1 rfl) ?_
          refine pw_get (Cn := "GraphWriter") (T := F_G) (N := 4) hx hb hts in_G hown hK hw 0 0 rfl g00 rfl 2 (by decide) (hts _ wd_142) (fun _ h9 => h9) rfl d_G_writeParts_106 ?_
          refine lv_ldc2 (v := 119) hx hb hown (hts _ wd_701) d_G_writeParts_109 ?_
          refine lv_iconst (v := 1) hx hb d_G_writeParts_112 (by decide) ?_
          refine pw_callv (va_runV (As := [.long 119, .int 1]) (rest := []) ⟨hx, hb, hml, hown, hts0⟩ (k_O_put hO0 119 (w := 1) (by decide) _) (cwV 2 hts0 (wd_V wd_139 wd_136 wd_137 wd_138 wd_54) rfl rfl rfl (by decide +kernel) ⟨(by (try dsimp only); omega), (by (try dsimp only); omega)⟩) (pw_preV hZ hw hA hK hz rfl h30 rfl) rfl rfl hl.1 rfl (lv_room (Nat.le_of_ble_eq_true rfl)) d_G_writeParts_113 ⟨(by (try dsimp only); omega), (by (try dsimp only); omega)⟩) hw hA (fun ad_3 C_4 H locs hp hw => ?_)
          obtain ⟨hae, hO, hf1⟩ := hp
          rw [hae] at hw; clear hae
          have hfr : os_fr C C_4 := fun x y h => (hf1 x y h).trans (hfr x y h)
          obtain ⟨x_6, hx_6⟩ : ∃ z, z = es_put x1 119 1 := ⟨_, rfl⟩
          rw [← hx_6] at hO
          have hO0 := hO
          obtain ⟨by0, wt, h30, h40, h50, h60, h70, hlen, hby, hwn, hw0, hwt⟩ := hO
          have hG := hG0.fr hf1
          have hG0 := hG
          obtain ⟨g00, g10, g20, hmk, hDD, hTT, hKK⟩ := hG
          obtain ⟨p20, p21, p22, pn, pt⟩ := hTT o ho
          obtain ⟨q06, q10, q11, q12, q13, q14, qst⟩ := hDD k d hcd
          refine lv_aload_n hx hb d_G_writeParts_116 rfl (lv_at hl 1 rfl) ?_
          refine pw_get (Cn := "GraphWriter") (T := F_G) (N := 4) hx hb hts in_G hown hK hw 0 0 rfl g00 rfl 2 (by decide) (hts _ wd_142) (fun _ h9 => h9) rfl d_G_writeParts_117 ?_
          refine lv_ldc2 (v := 4) hx hb hown (hts _ wd_702) d_G_writeParts_120 ?_
          refine lv_iconst (v := 1) hx hb d_G_writeParts_123 (by decide) ?_
          refine pw_callv (va_runV (As := [.long 4, .int 1]) (rest := []) ⟨hx, hb, hml, hown, hts0⟩ (k_O_put hO0 4 (w := 1) (by decide) _) (cwV 2 hts0 (wd_V wd_139 wd_136 wd_137 wd_138 wd_54) rfl rfl rfl (by decide +kernel) ⟨(by (try dsimp only); omega), (by (try dsimp only); omega)⟩) (pw_preV hZ hw hA hK hz rfl h30 rfl) rfl rfl hl.1 rfl (lv_room (Nat.le_of_ble_eq_true rfl)) d_G_writeParts_124 ⟨(by (try dsimp only); omega), (by (try dsimp only); omega)⟩) hw hA (fun ad_7 C_8 H locs hp hw => ?_)
          obtain ⟨hae, hO, hf1⟩ := hp
          rw [hae] at hw; clear hae
          have hfr : os_fr C C_8 := fun x y h => (hf1 x y h).trans (hfr x y h)
          obtain ⟨x_10, hx_10⟩ : ∃ z, z = es_put x_6 4 1 := ⟨_, rfl⟩
          rw [← hx_10] at hO
          have hO0 := hO
          obtain ⟨by0, wt, h30, h40, h50, h60, h70, hlen, hby, hwn, hw0, hwt⟩ := hO
          have hG := hG0.fr hf1
          have hG0 := hG
          obtain ⟨g00, g10, g20, hmk, hDD, hTT, hKK⟩ := hG
          obtain ⟨p20, p21, p22, pn, pt⟩ := hTT o ho
          obtain ⟨q06, q10, q11, q12, q13, q14, qst⟩ := hDD k d hcd
          refine lv_aload_n hx hb d_G_writeParts_127 rfl (lv_at hl 1 rfl) ?_
          refine pw_get (Cn := "GraphWriter") (T := F_G) (N := 4) hx hb hts in_G hown hK hw 0 0 rfl g00 rfl 2 (by decide) (hts _ wd_142) (fun _ h9 => h9) rfl d_G_writeParts_128 ?_
          refine lv_aload_n hx hb d_G_writeParts_131 rfl (lv_at hl 2 rfl) ?_
          refine pw_get (Cn := "GraphWriter$Thing") (T := F_T) (N := 7) hx hb hts in_T hown hK hw 20 o rfl p20 rfl 6 (by decide) (hts _ wd_386) (fun _ h9 => h9) rfl d_G_writeParts_132 ?_
          refine lv_aload_n hx hb d_G_writeParts_135 rfl (lv_at hl 3 rfl) ?_
          refine pw_get (Cn := "GraphWriter$Defined") (T := F_D) (N := 11) hx hb hts in_D hown hK hw 10 k rfl q10 rfl 0 (by decide) (hts _ wd_295) (fun _ h9 => h9) rfl d_G_writeParts_136 ?_
          refine lv_iadd hx hb d_G_writeParts_139 ?_
          refine lv_i2l hx hb d_G_writeParts_140 rfl ?_
          refine lv_iconst (v := 4) hx hb d_G_writeParts_141 (by decide) ?_
          refine pw_callv (va_runV (As := [.long (((tt_ex (td o)) + (nI k)).toInt64), .int 4]) (rest := []) ⟨hx, hb, hml, hown, hts0⟩ (k_O_put hO0 (((tt_ex (td o)) + (nI k)).toInt64) (w := 4) (by decide) _) (cwV 2 hts0 (wd_V wd_139 wd_136 wd_137 wd_138 wd_54) rfl rfl rfl (by decide +kernel) ⟨(by (try dsimp only); omega), (by (try dsimp only); omega)⟩) (pw_preV hZ hw hA hK hz rfl h30 rfl) rfl rfl hl.1 rfl (lv_room (Nat.le_of_ble_eq_true rfl)) d_G_writeParts_142 ⟨(by (try dsimp only); omega), (by (try dsimp only); omega)⟩) hw hA (fun ad_11 C_12 H locs hp hw => ?_)
          obtain ⟨hae, hO, hf1⟩ := hp
          rw [hae] at hw; clear hae
          have hfr : os_fr C C_12 := fun x y h => (hf1 x y h).trans (hfr x y h)
          obtain ⟨x_14, hx_14⟩ : ∃ z, z = es_put x_10 (((tt_ex (td o)) + (nI k)).toInt64) 4 := ⟨_, rfl⟩
          rw [← hx_14] at hO
          have hO0 := hO
          obtain ⟨by0, wt, h30, h40, h50, h60, h70, hlen, hby, hwn, hw0, hwt⟩ := hO
          have hG := hG0.fr hf1
          have hG0 := hG
          obtain ⟨g00, g10, g20, hmk, hDD, hTT, hKK⟩ := hG
          obtain ⟨p20, p21, p22, pn, pt⟩ := hTT o ho
          obtain ⟨q06, q10, q11, q12, q13, q14, qst⟩ := hDD k d hcd
          refine lv_aload_n hx hb d_G_writeParts_145 rfl (lv_at hl 1 rfl) ?_
          refine pw_get (Cn := "GraphWriter") (T := F_G) (N := 4) hx hb hts in_G hown hK hw 0 0 rfl g00 rfl 2 (by decide) (hts _ wd_142) (fun _ h9 => h9) rfl d_G_writeParts_146 ?_
          refine lv_ldc2 (v := 120) hx hb hown (hts _ wd_682) d_G_writeParts_149 ?_
          refine lv_iconst (v := 1) hx hb d_G_writeParts_152 (by decide) ?_
          refine pw_callv (va_runV (As := [.long 120, .int 1]) (rest := []) ⟨hx, hb, hml, hown, hts0⟩ (k_O_put hO0 120 (w := 1) (by decide) _) (cwV 2 hts0 (wd_V wd_139 wd_136 wd_137 wd_138 wd_54) rfl rfl rfl (by decide +kernel) ⟨(by (try dsimp only); omega), (by (try dsimp only); omega)⟩) (pw_preV hZ hw hA hK hz rfl h30 rfl) rfl rfl hl.1 rfl (lv_room (Nat.le_of_ble_eq_true rfl)) d_G_writeParts_153 ⟨(by (try dsimp only); omega), (by (try dsimp only); omega)⟩) hw hA (fun ad_15 C_16 H locs hp hw => ?_)
          obtain ⟨hae, hO, hf1⟩ := hp
          rw [hae] at hw; clear hae
          have hfr : os_fr C C_16 := fun x y h => (hf1 x y h).trans (hfr x y h)
          obtain ⟨x_18, hx_18⟩ : ∃ z, z = es_put x_14 120 1 := ⟨_, rfl⟩
          rw [← hx_18] at hO
          have hO0 := hO
          obtain ⟨by0, wt, h30, h40, h50, h60, h70, hlen, hby, hwn, hw0, hwt⟩ := hO
          have hG := hG0.fr hf1
          have hG0 := hG
          obtain ⟨g00, g10, g20, hmk, hDD, hTT, hKK⟩ := hG
          obtain ⟨p20, p21, p22, pn, pt⟩ := hTT o ho
          obtain ⟨q06, q10, q11, q12, q13, q14, qst⟩ := hDD k d hcd
          have e9 : ga_parts (fun x g => ga_obj cd td n x g 0) k (td o) d fi x = x_18 := by rw [← hga]; show ga_cust k (td o) d x1 = _; unfold ga_cust; rw [if_pos c_2, ← hx_6, ← hx_10, ← hx_14, ← hx_18]
          refine pw_vret hx hb hr hlocks hw ⟨rfl, ?_, hfr⟩ d_G_writeParts_156
          rw [e9]; exact hO0
      · exact absurd (nI_le (by omega) (by omega)) c_1
    | succ r ih =>
      intro x1 C1 H locs lv ls hr9 hga hO hG hfr hw hl
      have hl : lv_has ls 10 [(5, .int (nI (dd_sh d - (r + 1)))), (0, .ref (ad 0 0)), (1, .ref (ad 20 o)), (2, .ref (ad 10 k)), (3, .int (nI fi)), (4, .int (nI (12 - n)))] := ⟨hl.1, hl.2.1, fun a h => hl.2.2 a (List.mem_append_left _ h)⟩
      have hO0 := hO
      obtain ⟨by0, wt, h30, h40, h50, h60, h70, hlen, hby, hwn, hw0, hwt⟩ := hO
      have hG0 := hG
      obtain ⟨g00, g10, g20, hmk, hDD, hTT, hKK⟩ := hG
      obtain ⟨p20, p21, p22, pn, pt⟩ := hTT o ho
      obtain ⟨q06, q10, q11, q12, q13, q14, qst⟩ := hDD k d hcd
      obtain ⟨f9, hf9, hof⟩ := hor (dd_sh d - (r + 1)) (by omega)
      obtain ⟨t9, ht8, htf⟩ := hty9 f9 (by omega)
      have e1 : (dd_or d (dd_sh d - (r + 1))).toNatClampNeg = f9 := by rw [hof]; exact nI_clamp (by omega)
      have e2 : (dd_ty d f9).toNatClampNeg = t9 := by rw [htf]; exact nI_clamp (by omega)
      refine lv_iload hx hb d_G_writeParts_3 (lv_at hl 0 rfl) ?_
      refine lv_aload_n hx hb d_G_writeParts_5 rfl (lv_at hl 3 rfl) ?_
      refine pw_get (Cn := "GraphWriter$Defined") (T := F_D) (N := 11) hx hb hts in_D hown hK hw 10 k rfl q10 rfl 9 (by decide) (hts _ wd_313) (fun _ h9 => h9) rfl d_G_writeParts_6 ?_
      refine lv_icmp_ge (tgt := 97) hx hb d_G_writeParts_9 (by decide) (fun c_19 => ?_) (fun c_19 => ?_)
      · exact absurd c_19 (nI_ge (by omega) (by omega))
      · skip
        refine lv_aload_n hx hb d_G_writeParts_12 rfl (lv_at hl 3 rfl) ?_
        refine pw_get (Cn := "GraphWriter$Defined") (T := F_D) (N := 11) hx hb hts in_D hown hK hw 10 k rfl q10 rfl 7 (by decide) (hts _ wd_309) (fun _ h9 => h9) rfl d_G_writeParts_13 ?_
        refine lv_iload hx hb d_G_writeParts_16 (lv_at hl 0 rfl) ?_
        refine pw_iald hx hb hK hw 14 k rfl 0 q14 rfl (dd_sh d - (r + 1)) rfl (by omega) (by omega) d_G_writeParts_18 ?_
        rw [hof]
        refine lv_istore (lv' := [(6, .int (nI f9)), (5, .int (nI (dd_sh d - (r + 1)))), (0, .ref (ad 0 0)), (1, .ref (ad 20 o)), (2, .ref (ad 10 k)), (3, .int (nI fi)), (4, .int (nI (12 - n)))]) hx hb d_G_writeParts_19 hl (by decide) rfl (fun ls hl => ?_)
        refine lv_aload_n hx hb d_G_writeParts_21 rfl (lv_at hl 4 rfl) ?_
        refine pw_get (Cn := "GraphWriter$Defined") (T := F_D) (N := 11) hx hb hts in_D hown hK hw 10 k rfl q10 rfl 6 (by decide) (hts _ wd_307) (fun _ h9 => h9) rfl d_G_writeParts_22 ?_
        refine lv_iload hx hb d_G_writeParts_25 (lv_at hl 0 rfl) ?_
        refine pw_iald hx hb hK hw 13 k rfl 0 q13 rfl f9 rfl (by omega) (by omega) d_G_writeParts_27 ?_
        rw [htf]
        refine lv_istore (lv' := [(7, .int (nI t9)), (6, .int (nI f9)), (5, .int (nI (dd_sh d - (r + 1)))), (0, .ref (ad 0 0)), (1, .ref (ad 20 o)), (2, .ref (ad 10 k)), (3, .int (nI fi)), (4, .int (nI (12 - n)))]) hx hb d_G_writeParts_28 hl (by decide) rfl (fun ls hl => ?_)
        refine lv_aload_n hx hb d_G_writeParts_30 rfl (lv_at hl 4 rfl) ?_
        refine pw_get (Cn := "GraphWriter$Thing") (T := F_T) (N := 7) hx hb hts in_T hown hK hw 20 o rfl p20 rfl 3 (by decide) (hts _ wd_381) (fun _ h9 => h9) rfl d_G_writeParts_31 ?_
        refine lv_iload_n hx hb d_G_writeParts_34 rfl (lv_at hl 6 rfl) ?_
        refine lv_iload hx hb d_G_writeParts_35 (lv_at hl 1 rfl) ?_
        refine lv_iadd hx hb d_G_writeParts_37 ?_
        rw [nI_add]
        refine pw_lald hx hb hK hw 22 o rfl 1 p22 rfl (fi + f9) rfl (by omega) (by omega) d_G_writeParts_38 ?_
        refine lv_lstore (lv' := [(8, .long (tt_va (td o) (fi + f9))), (7, .int (nI t9)), (6, .int (nI f9)), (5, .int (nI (dd_sh d - (r + 1)))), (0, .ref (ad 0 0)), (1, .ref (ad 20 o)), (2, .ref (ad 10 k)), (3, .int (nI fi)), (4, .int (nI (12 - n)))]) hx hb d_G_writeParts_39 hl (by decide) rfl (fun ls hl => ?_)
        refine lv_iload hx hb d_G_writeParts_41 (lv_at hl 1 rfl) ?_
        refine lv_bipush (v := 6) hx hb d_G_writeParts_43 (by decide) ?_
        refine lv_icmp_lt (tgt := 63) hx hb d_G_writeParts_45 (by decide) (fun c_20 => ?_) (fun c_20 => ?_)
        · skip
          refine lv_aload_n hx hb d_G_writeParts_63 rfl (lv_at hl 4 rfl) ?_
          refine pw_get (Cn := "GraphWriter") (T := F_G) (N := 4) hx hb hts in_G hown hK hw 0 0 rfl g00 rfl 2 (by decide) (hts _ wd_142) (fun _ h9 => h9) rfl d_G_writeParts_64 ?_
          refine lv_iload hx hb d_G_writeParts_67 (lv_at hl 1 rfl) ?_
          refine lv_iconst (v := 5) hx hb d_G_writeParts_69 (by decide) ?_
          refine lv_icmp_ne (tgt := 80) hx hb d_G_writeParts_70 (by decide) (fun c_21 => ?_) (fun c_21 => ?_)
          · skip
            refine lv_lload hx hb d_G_writeParts_80 (lv_at hl 0 rfl) ?_
            refine va_gets (v := .ref kT) hx hb hz3 hw.2.2.1 hown (hts _ wd_699) (fun _ h9 => h9) d_G_writeParts_82 ?_
            refine lv_iload hx hb d_G_writeParts_85 (lv_at hl 1 rfl) ?_
            have ht6 : t9 < 6 := (nI_ltI (by omega) (by decide)).mp c_20
            obtain ⟨w9, hw98, hw9⟩ := gw_wd_ok t9 ht6
            refine pw_iald hx hb hK hw 52 0 hKK.2.2 0 hKK.2.1 rfl t9 rfl (by omega) (by omega) d_G_writeParts_87 ?_
            rw [hw9]
            refine pw_callv (va_runV (As := [.long (tt_va (td o) (fi + f9)), .int (nI w9)]) (rest := []) ⟨hx, hb, hml, hown, hts0⟩ (k_O_put hO0 (tt_va (td o) (fi + f9)) (w := w9) hw98 _) (cwV 2 hts0 (wd_V wd_139 wd_136 wd_137 wd_138 wd_54) rfl rfl rfl (by decide +kernel) ⟨(by (try dsimp only); omega), (by (try dsimp only); omega)⟩) (pw_preV hZ hw hA hK hz rfl h30 rfl) rfl rfl hl.1 rfl (lv_room (Nat.le_of_ble_eq_true rfl)) d_G_writeParts_88 ⟨(by (try dsimp only); omega), (by (try dsimp only); omega)⟩) hw hA (fun ad_22 C_23 H locs hp hw => ?_)
            obtain ⟨hae, hO, hf1⟩ := hp
            rw [hae] at hw; clear hae
            have hfr : os_fr C C_23 := fun x y h => (hf1 x y h).trans (hfr x y h)
            obtain ⟨x_25, hx_25⟩ : ∃ z, z = es_put x1 (tt_va (td o) (fi + f9)) w9 := ⟨_, rfl⟩
            rw [← hx_25] at hO
            have hO0 := hO
            obtain ⟨by0, wt, h30, h40, h50, h60, h70, hlen, hby, hwn, hw0, hwt⟩ := hO
            have hG := hG0.fr hf1
            have hG0 := hG
            obtain ⟨g00, g10, g20, hmk, hDD, hTT, hKK⟩ := hG
            obtain ⟨p20, p21, p22, pn, pt⟩ := hTT o ho
            obtain ⟨q06, q10, q11, q12, q13, q14, qst⟩ := hDD k d hcd
            refine lv_iinc (v := (nI (dd_sh d - (r + 1))) + 1) (lv' := [(5, .int ((nI (dd_sh d - (r + 1))) + 1)), (8, .long (tt_va (td o) (fi + f9))), (7, .int (nI t9)), (6, .int (nI f9)), (0, .ref (ad 0 0)), (1, .ref (ad 20 o)), (2, .ref (ad 10 k)), (3, .int (nI fi)), (4, .int (nI (12 - n)))]) hx hb d_G_writeParts_91 hl (k := 3) rfl rfl (by decide) rfl (fun ls hl => ?_)
            refine lv_goto (tgt := 3) hx hb d_G_writeParts_94 (by decide) ?_
            rw [nI_1, show dd_sh d - (r + 1) + 1 = dd_sh d - r by omega] at hl
            have e5 : ga_part (fun x g => ga_obj cd td n x g 0) (td o) d fi x1 (dd_sh d - (r + 1)) = x_25 := by
              unfold ga_part; rw [e1, e2, htf]; rw [if_pos c_20, if_neg c_21, hw9, nI_clamp (by omega)]; exact hx_25.symm
            refine ih _ _ _ _ [(8, .long (tt_va (td o) (fi + f9))), (7, .int (nI t9)), (6, .int (nI f9))] _ (by omega) ?_ hO0 hG0 hfr hw (lv_sub hl [0, 4, 5, 6, 7, 8, 1, 2, 3] rfl)
            rw [← e5, ← hga]; show _ = ga_cust k (td o) d (ga_prec _ (td o) d fi r (ga_part _ (td o) d fi x1 (dd_sh d - 1 - r))); rw [show dd_sh d - 1 - r = dd_sh d - (r + 1) by omega]
          · skip
            refine lv_lload hx hb d_G_writeParts_73 (lv_at hl 0 rfl) ?_
            refine lv_lconst (v := 1) hx hb d_G_writeParts_75 (by decide) ?_
            refine lv_land hx hb d_G_writeParts_76 ?_
            refine lv_goto (tgt := 82) hx hb d_G_writeParts_77 (by decide) ?_
            refine va_gets (v := .ref kT) hx hb hz3 hw.2.2.1 hown (hts _ wd_699) (fun _ h9 => h9) d_G_writeParts_82 ?_
            refine lv_iload hx hb d_G_writeParts_85 (lv_at hl 1 rfl) ?_
            have ht6 : t9 < 6 := (nI_ltI (by omega) (by decide)).mp c_20
            obtain ⟨w9, hw98, hw9⟩ := gw_wd_ok t9 ht6
            refine pw_iald hx hb hK hw 52 0 hKK.2.2 0 hKK.2.1 rfl t9 rfl (by omega) (by omega) d_G_writeParts_87 ?_
            rw [hw9]
            refine pw_callv (va_runV (As := [.long ((tt_va (td o) (fi + f9)) &&& 1), .int (nI w9)]) (rest := []) ⟨hx, hb, hml, hown, hts0⟩ (k_O_put hO0 ((tt_va (td o) (fi + f9)) &&& 1) (w := w9) hw98 _) (cwV 2 hts0 (wd_V wd_139 wd_136 wd_137 wd_138 wd_54) rfl rfl rfl (by decide +kernel) ⟨(by (try dsimp only); omega), (by (try dsimp only); omega)⟩) (pw_preV hZ hw hA hK hz rfl h30 rfl) rfl rfl hl.1 rfl (lv_room (Nat.le_of_ble_eq_true rfl)) d_G_writeParts_88 ⟨(by (try dsimp only); omega), (by (try dsimp only); omega)⟩) hw hA (fun ad_26 C_27 H locs hp hw => ?_)
            obtain ⟨hae, hO, hf1⟩ := hp
            rw [hae] at hw; clear hae
            have hfr : os_fr C C_27 := fun x y h => (hf1 x y h).trans (hfr x y h)
            obtain ⟨x_29, hx_29⟩ : ∃ z, z = es_put x1 ((tt_va (td o) (fi + f9)) &&& 1) w9 := ⟨_, rfl⟩
            rw [← hx_29] at hO
            have hO0 := hO
            obtain ⟨by0, wt, h30, h40, h50, h60, h70, hlen, hby, hwn, hw0, hwt⟩ := hO
            have hG := hG0.fr hf1
            have hG0 := hG
            obtain ⟨g00, g10, g20, hmk, hDD, hTT, hKK⟩ := hG
            obtain ⟨p20, p21, p22, pn, pt⟩ := hTT o ho
            obtain ⟨q06, q10, q11, q12, q13, q14, qst⟩ := hDD k d hcd
            refine lv_iinc (v := (nI (dd_sh d - (r + 1))) + 1) (lv' := [(5, .int ((nI (dd_sh d - (r + 1))) + 1)), (8, .long (tt_va (td o) (fi + f9))), (7, .int (nI t9)), (6, .int (nI f9)), (0, .ref (ad 0 0)), (1, .ref (ad 20 o)), (2, .ref (ad 10 k)), (3, .int (nI fi)), (4, .int (nI (12 - n)))]) hx hb d_G_writeParts_91 hl (k := 3) rfl rfl (by decide) rfl (fun ls hl => ?_)
            refine lv_goto (tgt := 3) hx hb d_G_writeParts_94 (by decide) ?_
            rw [nI_1, show dd_sh d - (r + 1) + 1 = dd_sh d - r by omega] at hl
            have e5 : ga_part (fun x g => ga_obj cd td n x g 0) (td o) d fi x1 (dd_sh d - (r + 1)) = x_29 := by
              unfold ga_part; rw [e1, e2, htf]; rw [if_pos c_20, if_pos c_21, hw9, nI_clamp (by omega)]; exact hx_29.symm
            refine ih _ _ _ _ [(8, .long (tt_va (td o) (fi + f9))), (7, .int (nI t9)), (6, .int (nI f9))] _ (by omega) ?_ hO0 hG0 hfr hw (lv_sub hl [0, 4, 5, 6, 7, 8, 1, 2, 3] rfl)
            rw [← e5, ← hga]; show _ = ga_cust k (td o) d (ga_prec _ (td o) d fi r (ga_part _ (td o) d fi x1 (dd_sh d - 1 - r))); rw [show dd_sh d - 1 - r = dd_sh d - (r + 1) by omega]
        · skip
          refine lv_aload_n hx hb d_G_writeParts_48 rfl (lv_at hl 4 rfl) ?_
          refine lv_lload hx hb d_G_writeParts_49 (lv_at hl 0 rfl) ?_
          refine lv_l2i hx hb d_G_writeParts_51 rfl ?_
          refine lv_iconst (v := 0) hx hb d_G_writeParts_52 (by decide) ?_
          refine lv_iload hx hb d_G_writeParts_53 (lv_at hl 8 rfl) ?_
          refine lv_iconst (v := 1) hx hb d_G_writeParts_55 (by decide) ?_
          refine lv_iadd hx hb d_G_writeParts_56 ?_
          rw [nI_1, show 12 - n + 1 = 13 - n by omega]
          refine pw_callv (va_runV (As := [.int ((tt_va (td o) (fi + f9)).toInt32), .int 0, .int (nI (13 - n))]) (rest := []) ⟨hx, hb, hml, hown, hts0⟩ (IH hG0 hO0 ((tt_va (td o) (fi + f9)).toInt32) 0 (hva f9 hf9 (by rw [htf]; exact c_20)).g _) (cwV 3 hts0 (wd_V wd_599 wd_596 wd_598 wd_10 wd_53) rfl rfl rfl (by decide +kernel) ⟨(by (try dsimp only); omega), (by (try dsimp only); omega)⟩) (pw_preV hZ hw hA hK hz rfl g00 rfl) rfl rfl hl.1 rfl (lv_room (Nat.le_of_ble_eq_true rfl)) d_G_writeParts_57 ⟨(by (try dsimp only); omega), (by (try dsimp only); omega)⟩) hw hA (fun ad_30 C_31 H locs hp hw => ?_)
          obtain ⟨hae, hO, hf1⟩ := hp
          rw [hae] at hw; clear hae
          have hfr : os_fr C C_31 := fun x y h => (hf1 x y h).trans (hfr x y h)
          obtain ⟨x_33, hx_33⟩ : ∃ z, z = ga_obj cd td n x1 ((tt_va (td o) (fi + f9)).toInt32) 0 := ⟨_, rfl⟩
          rw [← hx_33] at hO
          have hO0 := hO
          obtain ⟨by0, wt, h30, h40, h50, h60, h70, hlen, hby, hwn, hw0, hwt⟩ := hO
          have hG := hG0.fr hf1
          have hG0 := hG
          obtain ⟨g00, g10, g20, hmk, hDD, hTT, hKK⟩ := hG
          obtain ⟨p20, p21, p22, pn, pt⟩ := hTT o ho
          obtain ⟨q06, q10, q11, q12, q13, q14, qst⟩ := hDD k d hcd
          refine lv_goto (tgt := 91) hx hb d_G_writeParts_60 (by decide) ?_
          refine lv_iinc (v := (nI (dd_sh d - (r + 1))) + 1) (lv' := [(5, .int ((nI (dd_sh d - (r + 1))) + 1)), (8, .long (tt_va (td o) (fi + f9))), (7, .int (nI t9)), (6, .int (nI f9)), (0, .ref (ad 0 0)), (1, .ref (ad 20 o)), (2, .ref (ad 10 k)), (3, .int (nI fi)), (4, .int (nI (12 - n)))]) hx hb d_G_writeParts_91 hl (k := 3) rfl rfl (by decide) rfl (fun ls hl => ?_)
          refine lv_goto (tgt := 3) hx hb d_G_writeParts_94 (by decide) ?_
          rw [nI_1, show dd_sh d - (r + 1) + 1 = dd_sh d - r by omega] at hl
          have e5 : ga_part (fun x g => ga_obj cd td n x g 0) (td o) d fi x1 (dd_sh d - (r + 1)) = x_33 := by
            unfold ga_part; rw [e1, e2, htf]; rw [if_neg c_20]; exact hx_33.symm
          refine ih _ _ _ _ [(8, .long (tt_va (td o) (fi + f9))), (7, .int (nI t9)), (6, .int (nI f9))] _ (by omega) ?_ hO0 hG0 hfr hw (lv_sub hl [0, 4, 5, 6, 7, 8, 1, 2, 3] rfl)
          rw [← e5, ← hga]; show _ = ga_cust k (td o) d (ga_prec _ (td o) d fi r (ga_part _ (td o) d fi x1 (dd_sh d - 1 - r))); rw [show dd_sh d - 1 - r = dd_sh d - (r + 1) by omega]
  refine lv_iconst (v := 0) hx hb d_G_writeParts_0 (by decide) ?_
  refine lv_istore (lv' := [(5, .int 0), (0, .ref (ad 0 0)), (1, .ref (ad 20 o)), (2, .ref (ad 10 k)), (3, .int (nI fi)), (4, .int (nI (12 - n)))]) hx hb d_G_writeParts_1 hl (by decide) rfl (fun ls hl => ?_)
  exact loop (dd_sh d) x C _ _ [] _ (Nat.le_refl _) rfl hO0 hG0 hfr hw (by rw [Nat.sub_self]; exact hl)
set_option maxHeartbeats 4000000 in
set_option maxRecDepth 100000 in
theorem k_G_writeInstance {l : Launch} {D : va_G} {ca : Nat → ClassId} {kS : Nat → Nat} {kT : Nat} {ad : pw_A} {C : pw_C} {cd : Nat → Option DT} {mk : Nat} {td : Nat → TT} (hG : gw_at ca kS kT ad C cd mk td) {x : ES} {w0 : List Int32} {wn : Nat} {sn : SN} (hO : os_x ca ad C x w0 wn sn) {n : Nat} (hn9 : n ≤ 12) (IH : gi_obj l D ca kS kT cd mk td n) (hwf : wf_d cd) (hwT : wf_t cd mk td) {o : Nat} (ho : o < mk) (hso : tt_so (td o) = 0) : gc_Con l y_G_writeInstance c_G_writeInstance (gr_I n) D ca (z9_Z kS kT) [.ref (ad 0 0), .int (nI o), .int (nI (12 - n))] ad C (gp_O ca ad C w0 wn sn (ga_instn (fun x g => ga_obj cd td n x g 0) cd x o (td o))) 0 0 := by
  have hZ := z9_ok kS kT
  have hG0 := hG
  obtain ⟨g00, g10, g20, hmk, hDD, hTT, hKK⟩ := hG
  have hO0 := hO
  obtain ⟨by0, wt, h30, h40, h50, h60, h70, hlen, hby, hwn, hw0, hwt⟩ := hO
  refine pw_ofW (cc := b_G_writeInstance) (maxL := 8) (ret := none) (by decide) rfl (Nat.le_of_ble_eq_true rfl) ?_
  intro p e s m args below meth c A ls hB hA hw hK hz hl
  obtain ⟨hx, hb, hr, hml, hts0, hlocks, hown, hnm⟩ := hB
  have hts := wd_hts hts0
  have hown : s.vm.findClass "GraphWriter" = some m.cls := hown
  have hl : lv_has ls 8 [(0, .ref (ad 0 0)), (1, .int (nI o)), (2, .int (nI (12 - n)))] := hl
  have hz0 := hz
  obtain ⟨hz1, hz2, hz3, hk0, hk1, hk2, hk3, hk4, hk5, hk6, hk7, hao1, hao2, hnw⟩ := hz0
  have hfr : os_fr C C := fun _ _ _ => rfl
  obtain ⟨k9, d9, hk96, how, hcd9⟩ := (hwT o ho).2.2.1 (Or.inl hso)
  obtain ⟨hsum, hval⟩ := (hwT o ho).2.2.2.2 hso k9 d9 how hcd9
  have eow : (tt_ow (td o)).toNatClampNeg = k9 := by rw [how]; exact nI_clamp (by omega)
  obtain ⟨hk06, hcn, hch, -⟩ := hwf k9 d9 hcd9
  have loop : ∀ (r : Nat) (x1 : ES) (C1 : pw_C) (H : Heap) (locs : List Loc) (lv : List (Nat × Value)) (ls : Array Slot), r ≤ dd_cn d9 → ga_irun (fun x g => ga_obj cd td n x g 0) cd (td o) d9 r x1 (ga_sum cd d9 (dd_cn d9 - r)) = ga_instn (fun x g => ga_obj cd td n x g 0) cd x o (td o) → os_x ca ad C1 x1 w0 wn sn → gw_at ca kS kT ad C1 cd mk td → os_fr C C1 → pw_H D cls9 A s.heap ad C ad C1 H locs → lv_has ls 8 ([(6, .int (nI (dd_cn d9 - r))), (5, .int (nI (ga_sum cd d9 (dd_cn d9 - r)))), (3, .ref (ad 20 o)), (4, .ref (ad 10 k9)), (0, .ref (ad 0 0)), (1, .int (nI o)), (2, .int (nI (12 - n)))] ++ lv) → W p l e (gr_I n) s m args below meth c H locs 0 0 (MQ below (pw_Q D cls9 ad C (gp_O ca ad C w0 wn sn (ga_instn (fun x g => ga_obj cd td n x g 0) cd x o (td o))) A) args s 0 0 A) (F0 m 70 ls []) := by
    intro r
    induction r with
    | zero =>
      intro x1 C1 H locs lv ls hr9 hga hO hG hfr hw hl
      have hl : lv_has ls 8 [(6, .int (nI (dd_cn d9 - 0))), (5, .int (nI (ga_sum cd d9 (dd_cn d9 - 0)))), (3, .ref (ad 20 o)), (4, .ref (ad 10 k9)), (0, .ref (ad 0 0)), (1, .int (nI o)), (2, .int (nI (12 - n)))] := ⟨hl.1, hl.2.1, fun a h => hl.2.2 a (List.mem_append_left _ h)⟩
      have hO0 := hO
      obtain ⟨by0, wt, h30, h40, h50, h60, h70, hlen, hby, hwn, hw0, hwt⟩ := hO
      have hG0 := hG
      obtain ⟨g00, g10, g20, hmk, hDD, hTT, hKK⟩ := hG
      obtain ⟨e06, e10, e11, e12, e13, e14, est⟩ := hDD k9 d9 hcd9
      refine lv_iload hx hb d_G_writeInstance_70 (lv_at hl 0 rfl) ?_
      refine lv_aload hx hb d_G_writeInstance_72 (lv_at hl 3 rfl) ?_
      refine pw_get (Cn := "GraphWriter$Defined") (T := F_D) (N := 11) hx hb hts in_D hown hK hw 10 k9 rfl e10 rfl 4 (by decide) (hts _ wd_303) (fun _ h9 => h9) rfl d_G_writeInstance_74 ?_
      refine pw_alen hx hb hK hw 11 k9 rfl 0 e11 rfl d_G_writeInstance_77 ?_
      refine lv_icmp_ge (tgt := 130) hx hb d_G_writeInstance_78 (by decide) (fun c_1 => ?_) (fun c_1 => ?_)
      · skip
        have e9 : ga_instn (fun x g => ga_obj cd td n x g 0) cd x o (td o) = x1 := by rw [← hga]; rfl
        refine pw_vret hx hb hr hlocks hw ⟨rfl, ?_, hfr⟩ d_G_writeInstance_130
        rw [e9]; exact hO0
      · exact absurd (nI_le (by omega) (by omega)) c_1
    | succ r ih =>
      intro x1 C1 H locs lv ls hr9 hga hO hG hfr hw hl
      have hl : lv_has ls 8 [(6, .int (nI (dd_cn d9 - (r + 1)))), (5, .int (nI (ga_sum cd d9 (dd_cn d9 - (r + 1))))), (3, .ref (ad 20 o)), (4, .ref (ad 10 k9)), (0, .ref (ad 0 0)), (1, .int (nI o)), (2, .int (nI (12 - n)))] := ⟨hl.1, hl.2.1, fun a h => hl.2.2 a (List.mem_append_left _ h)⟩
      obtain ⟨lv9, hlv9⟩ : ∃ z, z = dd_cn d9 - (r + 1) := ⟨_, rfl⟩
      rw [← hlv9] at hl hga
      obtain ⟨c9, d, hc6, hcf, hcd⟩ := hch lv9 (by omega)
      have ecl : (dd_cf d9 lv9).toNatClampNeg = c9 := by rw [hcf]; exact nI_clamp (by omega)
      have esum : ga_sum cd d9 (lv9 + 1) = ga_sum cd d9 lv9 + dd_fn d := by show ga_sum cd d9 lv9 + (match cd (dd_cf d9 lv9).toNatClampNeg with | none => 0 | some d => dd_fn d) = _; rw [ecl]; simp only [hcd]
      have hfi : ga_sum cd d9 lv9 + dd_fn d ≤ tt_n (td o) := by rw [← esum, ← hsum]; have := ga_sum_le cd d9 (dd_cn d9 - (lv9 + 1)) (lv9 + 1); rwa [show lv9 + 1 + (dd_cn d9 - (lv9 + 1)) = dd_cn d9 by omega] at this
      have hO0 := hO
      obtain ⟨by0, wt, h30, h40, h50, h60, h70, hlen, hby, hwn, hw0, hwt⟩ := hO
      have hG0 := hG
      obtain ⟨g00, g10, g20, hmk, hDD, hTT, hKK⟩ := hG
      obtain ⟨e06, e10, e11, e12, e13, e14, est⟩ := hDD k9 d9 hcd9
      obtain ⟨p20, p21, p22, pn, pt⟩ := hTT o ho
      have hn24 := pn
      refine lv_iload hx hb d_G_writeInstance_70 (lv_at hl 0 rfl) ?_
      refine lv_aload hx hb d_G_writeInstance_72 (lv_at hl 3 rfl) ?_
      refine pw_get (Cn := "GraphWriter$Defined") (T := F_D) (N := 11) hx hb hts in_D hown hK hw 10 k9 rfl e10 rfl 4 (by decide) (hts _ wd_303) (fun _ h9 => h9) rfl d_G_writeInstance_74 ?_
      refine pw_alen hx hb hK hw 11 k9 rfl 0 e11 rfl d_G_writeInstance_77 ?_
      refine lv_icmp_ge (tgt := 130) hx hb d_G_writeInstance_78 (by decide) (fun c_2 => ?_) (fun c_2 => ?_)
      · exact absurd c_2 (nI_ge (by omega) (by omega))
      · skip
        refine lv_aload_n hx hb d_G_writeInstance_81 rfl (lv_at hl 4 rfl) ?_
        refine pw_get (Cn := "GraphWriter") (T := F_G) (N := 4) hx hb hts in_G hown hK hw 0 0 rfl g00 rfl 0 (by decide) (hts _ wd_140) (fun _ h9 => h9) rfl d_G_writeInstance_82 ?_
        refine lv_aload hx hb d_G_writeInstance_85 (lv_at hl 3 rfl) ?_
        refine pw_get (Cn := "GraphWriter$Defined") (T := F_D) (N := 11) hx hb hts in_D hown hK hw 10 k9 rfl e10 rfl 4 (by decide) (hts _ wd_303) (fun _ h9 => h9) rfl d_G_writeInstance_87 ?_
        refine lv_iload hx hb d_G_writeInstance_90 (lv_at hl 0 rfl) ?_
        refine pw_iald hx hb hK hw 11 k9 rfl 0 e11 rfl lv9 rfl (by omega) (by omega) d_G_writeInstance_92 ?_
        refine pw_aald hx hb hK hw 1 0 rfl 4 g10 rfl c9 hcf (by omega) (by omega) d_G_writeInstance_93 ?_
        rw [gw_cl hcd]
        obtain ⟨q06, q10, q11, q12, q13, q14, qst⟩ := hDD c9 d hcd
        refine lv_astore (lv' := [(7, .ref (ad 10 c9)), (6, .int (nI lv9)), (5, .int (nI (ga_sum cd d9 lv9))), (3, .ref (ad 20 o)), (4, .ref (ad 10 k9)), (0, .ref (ad 0 0)), (1, .int (nI o)), (2, .int (nI (12 - n)))]) hx hb d_G_writeInstance_94 hl (by decide) rfl (fun ls hl => ?_)
        refine lv_aload hx hb d_G_writeInstance_96 (lv_at hl 0 rfl) ?_
        refine pw_get (Cn := "GraphWriter$Defined") (T := F_D) (N := 11) hx hb hts in_D hown hK hw 10 c9 rfl q10 rfl 1 (by decide) (hts _ wd_297) (fun _ h9 => h9) rfl d_G_writeInstance_98 ?_
        refine lv_if_eq (tgt := 114) hx hb d_G_writeInstance_101 (by decide) (fun c_3 => ?_) (fun c_3 => ?_)
        · skip
          refine lv_iload hx hb d_G_writeInstance_114 (lv_at hl 2 rfl) ?_
          refine lv_aload hx hb d_G_writeInstance_116 (lv_at hl 0 rfl) ?_
          refine pw_get (Cn := "GraphWriter$Defined") (T := F_D) (N := 11) hx hb hts in_D hown hK hw 10 c9 rfl q10 rfl 8 (by decide) (hts _ wd_311) (fun _ h9 => h9) rfl d_G_writeInstance_118 ?_
          refine lv_iadd hx hb d_G_writeInstance_121 ?_
          rw [nI_add]
          refine lv_istore (lv' := [(5, .int (nI (ga_sum cd d9 lv9 + dd_fn d))), (7, .ref (ad 10 c9)), (6, .int (nI lv9)), (3, .ref (ad 20 o)), (4, .ref (ad 10 k9)), (0, .ref (ad 0 0)), (1, .int (nI o)), (2, .int (nI (12 - n)))]) hx hb d_G_writeInstance_122 hl (by decide) rfl (fun ls hl => ?_)
          refine lv_iinc (v := (nI lv9) + 1) (lv' := [(6, .int ((nI lv9) + 1)), (5, .int (nI (ga_sum cd d9 lv9 + dd_fn d))), (7, .ref (ad 10 c9)), (3, .ref (ad 20 o)), (4, .ref (ad 10 k9)), (0, .ref (ad 0 0)), (1, .int (nI o)), (2, .int (nI (12 - n)))]) hx hb d_G_writeInstance_124 hl (k := 2) rfl rfl (by decide) rfl (fun ls hl => ?_)
          refine lv_goto (tgt := 70) hx hb d_G_writeInstance_127 (by decide) ?_
          rw [nI_1] at hl
          have e5 : (if dd_kd d = 0 then x1 else ga_parts (fun x g => ga_obj cd td n x g 0) c9 (td o) d (ga_sum cd d9 lv9) x1) = x1 := by rw [if_pos c_3]
          refine ih _ _ _ _ [(7, .ref (ad 10 c9))] _ (by omega) ?_ hO0 hG0 hfr hw (by rw [show dd_cn d9 - r = lv9 + 1 by omega, esum]; exact lv_sub hl [0, 1, 3, 4, 5, 6, 7, 2] rfl)
          rw [show dd_cn d9 - r = lv9 + 1 by omega, esum, ← e5, ← hga]; conv => rhs; rw [ga_irun]
          rw [show dd_cn d9 - 1 - r = lv9 by omega, ecl]; simp only [hcd]
        · skip
          refine lv_aload_n hx hb d_G_writeInstance_104 rfl (lv_at hl 5 rfl) ?_
          refine lv_aload_n hx hb d_G_writeInstance_105 rfl (lv_at hl 3 rfl) ?_
          refine lv_aload hx hb d_G_writeInstance_106 (lv_at hl 0 rfl) ?_
          refine lv_iload hx hb d_G_writeInstance_108 (lv_at hl 2 rfl) ?_
          refine lv_iload_n hx hb d_G_writeInstance_110 rfl (lv_at hl 7 rfl) ?_
          refine pw_callv (va_runV (As := [.ref (ad 20 o), .ref (ad 10 c9), .int (nI (ga_sum cd d9 lv9)), .int (nI (12 - n))]) (rest := []) ⟨hx, hb, hml, hown, hts0⟩ (k_G_writeParts hG0 hO0 hn9 IH hwf (o := o) (k := c9) (fi := ga_sum cd d9 lv9) ho hcd hfi (fun f hf ht => hval lv9 c9 d f (by omega) hcf hcd hf ht) _) (cwV 4 hts0 (wd_V wd_698 wd_695 wd_697 wd_17 wd_53) rfl rfl rfl (by decide +kernel) ⟨(by (try dsimp only); omega), (by (try dsimp only); omega)⟩) (pw_preV hZ hw hA hK hz rfl g00 rfl) rfl rfl hl.1 rfl (lv_room (Nat.le_of_ble_eq_true rfl)) d_G_writeInstance_111 ⟨(by (try dsimp only); omega), (by (try dsimp only); omega)⟩) hw hA (fun ad_4 C_5 H locs hp hw => ?_)
          obtain ⟨hae, hO, hf1⟩ := hp
          rw [hae] at hw; clear hae
          have hfr : os_fr C C_5 := fun x y h => (hf1 x y h).trans (hfr x y h)
          obtain ⟨x_7, hx_7⟩ : ∃ z, z = ga_parts (fun x g => ga_obj cd td n x g 0) c9 (td o) d (ga_sum cd d9 lv9) x1 := ⟨_, rfl⟩
          rw [← hx_7] at hO
          have hO0 := hO
          obtain ⟨by0, wt, h30, h40, h50, h60, h70, hlen, hby, hwn, hw0, hwt⟩ := hO
          have hG := hG0.fr hf1
          have hG0 := hG
          obtain ⟨g00, g10, g20, hmk, hDD, hTT, hKK⟩ := hG
          obtain ⟨e06, e10, e11, e12, e13, e14, est⟩ := hDD k9 d9 hcd9
          obtain ⟨p20, p21, p22, pn, pt⟩ := hTT o ho
          obtain ⟨q06, q10, q11, q12, q13, q14, qst⟩ := hDD c9 d hcd
          refine lv_iload hx hb d_G_writeInstance_114 (lv_at hl 2 rfl) ?_
          refine lv_aload hx hb d_G_writeInstance_116 (lv_at hl 0 rfl) ?_
          refine pw_get (Cn := "GraphWriter$Defined") (T := F_D) (N := 11) hx hb hts in_D hown hK hw 10 c9 rfl q10 rfl 8 (by decide) (hts _ wd_311) (fun _ h9 => h9) rfl d_G_writeInstance_118 ?_
          refine lv_iadd hx hb d_G_writeInstance_121 ?_
          rw [nI_add]
          refine lv_istore (lv' := [(5, .int (nI (ga_sum cd d9 lv9 + dd_fn d))), (7, .ref (ad 10 c9)), (6, .int (nI lv9)), (3, .ref (ad 20 o)), (4, .ref (ad 10 k9)), (0, .ref (ad 0 0)), (1, .int (nI o)), (2, .int (nI (12 - n)))]) hx hb d_G_writeInstance_122 hl (by decide) rfl (fun ls hl => ?_)
          refine lv_iinc (v := (nI lv9) + 1) (lv' := [(6, .int ((nI lv9) + 1)), (5, .int (nI (ga_sum cd d9 lv9 + dd_fn d))), (7, .ref (ad 10 c9)), (3, .ref (ad 20 o)), (4, .ref (ad 10 k9)), (0, .ref (ad 0 0)), (1, .int (nI o)), (2, .int (nI (12 - n)))]) hx hb d_G_writeInstance_124 hl (k := 2) rfl rfl (by decide) rfl (fun ls hl => ?_)
          refine lv_goto (tgt := 70) hx hb d_G_writeInstance_127 (by decide) ?_
          rw [nI_1] at hl
          have e5 : (if dd_kd d = 0 then x1 else ga_parts (fun x g => ga_obj cd td n x g 0) c9 (td o) d (ga_sum cd d9 lv9) x1) = x_7 := by rw [if_neg c_3, hx_7]
          refine ih _ _ _ _ [(7, .ref (ad 10 c9))] _ (by omega) ?_ hO0 hG0 hfr hw (by rw [show dd_cn d9 - r = lv9 + 1 by omega, esum]; exact lv_sub hl [0, 1, 3, 4, 5, 6, 7, 2] rfl)
          rw [show dd_cn d9 - r = lv9 + 1 by omega, esum, ← e5, ← hga]; conv => rhs; rw [ga_irun]
          rw [show dd_cn d9 - 1 - r = lv9 by omega, ecl]; simp only [hcd]
  obtain ⟨p20, p21, p22, pn, pt⟩ := hTT o ho
  refine lv_aload_n hx hb d_G_writeInstance_0 rfl (lv_at hl 0 rfl) ?_
  refine pw_get (Cn := "GraphWriter") (T := F_G) (N := 4) hx hb hts in_G hown hK hw 0 0 rfl g00 rfl 1 (by decide) (hts _ wd_141) (fun _ h9 => h9) rfl d_G_writeInstance_1 ?_
  refine lv_iload_n hx hb d_G_writeInstance_4 rfl (lv_at hl 1 rfl) ?_
  refine pw_aald hx hb hK hw 2 0 rfl 5 g20 rfl o rfl (by omega) (by omega) d_G_writeInstance_5 ?_
  rw [gw_th ho]
  refine lv_astore_n (lv' := [(3, .ref (ad 20 o)), (0, .ref (ad 0 0)), (1, .int (nI o)), (2, .int (nI (12 - n)))]) hx hb d_G_writeInstance_6 rfl hl (by decide) rfl (fun ls hl => ?_)
  refine lv_aload_n hx hb d_G_writeInstance_7 rfl (lv_at hl 1 rfl) ?_
  refine pw_get (Cn := "GraphWriter") (T := F_G) (N := 4) hx hb hts in_G hown hK hw 0 0 rfl g00 rfl 0 (by decide) (hts _ wd_140) (fun _ h9 => h9) rfl d_G_writeInstance_8 ?_
  refine lv_aload_n hx hb d_G_writeInstance_11 rfl (lv_at hl 0 rfl) ?_
  refine pw_get (Cn := "GraphWriter$Thing") (T := F_T) (N := 7) hx hb hts in_T hown hK hw 20 o rfl p20 rfl 1 (by decide) (hts _ wd_377) (fun _ h9 => h9) rfl d_G_writeInstance_12 ?_
  refine pw_aald hx hb hK hw 1 0 rfl 4 g10 rfl k9 how (by omega) (by omega) d_G_writeInstance_15 ?_
  rw [gw_cl hcd9]
  obtain ⟨e06, e10, e11, e12, e13, e14, est⟩ := hDD k9 d9 hcd9
  refine lv_astore (lv' := [(4, .ref (ad 10 k9)), (3, .ref (ad 20 o)), (0, .ref (ad 0 0)), (1, .int (nI o)), (2, .int (nI (12 - n)))]) hx hb d_G_writeInstance_16 hl (by decide) rfl (fun ls hl => ?_)
  refine lv_aload hx hb d_G_writeInstance_18 (lv_at hl 0 rfl) ?_
  refine pw_get (Cn := "GraphWriter$Defined") (T := F_D) (N := 11) hx hb hts in_D hown hK hw 10 k9 rfl e10 rfl 1 (by decide) (hts _ wd_297) (fun _ h9 => h9) rfl d_G_writeInstance_20 ?_
  refine lv_if_ne (tgt := 39) hx hb d_G_writeInstance_23 (by decide) (fun c_8 => ?_) (fun c_8 => ?_)
  · skip
    refine lv_aload_n hx hb d_G_writeInstance_39 rfl (lv_at hl 2 rfl) ?_
    refine pw_get (Cn := "GraphWriter") (T := F_G) (N := 4) hx hb hts in_G hown hK hw 0 0 rfl g00 rfl 2 (by decide) (hts _ wd_142) (fun _ h9 => h9) rfl d_G_writeInstance_40 ?_
    refine lv_ldc2 (v := 115) hx hb hown (hts _ wd_694) d_G_writeInstance_43 ?_
    refine lv_iconst (v := 1) hx hb d_G_writeInstance_46 (by decide) ?_
    refine pw_callv (va_runV (As := [.long 115, .int 1]) (rest := []) ⟨hx, hb, hml, hown, hts0⟩ (k_O_put hO0 115 (w := 1) (by decide) _) (cwV 2 hts0 (wd_V wd_139 wd_136 wd_137 wd_138 wd_54) rfl rfl rfl (by decide +kernel) ⟨(by (try dsimp only); omega), (by (try dsimp only); omega)⟩) (pw_preV hZ hw hA hK hz rfl h30 rfl) rfl rfl hl.1 rfl (lv_room (Nat.le_of_ble_eq_true rfl)) d_G_writeInstance_47 ⟨(by (try dsimp only); omega), (by (try dsimp only); omega)⟩) hw hA (fun ad_9 C_10 H locs hp hw => ?_)
    obtain ⟨hae, hO, hf1⟩ := hp
    rw [hae] at hw; clear hae
    have hfr : os_fr C C_10 := fun x y h => (hf1 x y h).trans (hfr x y h)
    obtain ⟨x_12, hx_12⟩ : ∃ z, z = es_put x 115 1 := ⟨_, rfl⟩
    rw [← hx_12] at hO
    have hO0 := hO
    obtain ⟨by0, wt, h30, h40, h50, h60, h70, hlen, hby, hwn, hw0, hwt⟩ := hO
    have hG := hG0.fr hf1
    have hG0 := hG
    obtain ⟨g00, g10, g20, hmk, hDD, hTT, hKK⟩ := hG
    obtain ⟨p20, p21, p22, pn, pt⟩ := hTT o ho
    obtain ⟨e06, e10, e11, e12, e13, e14, est⟩ := hDD k9 d9 hcd9
    refine lv_aload_n hx hb d_G_writeInstance_50 rfl (lv_at hl 2 rfl) ?_
    refine lv_aload hx hb d_G_writeInstance_51 (lv_at hl 0 rfl) ?_
    refine pw_callv (va_runV (As := [.ref (ad 10 k9)]) (rest := []) ⟨hx, hb, hml, hown, hts0⟩ (k_G_writeDescriptor hG0 hO0 hwf hcd9 _) (cwV 1 hts0 (wd_V wd_670 wd_667 wd_669 wd_15 wd_53) rfl rfl rfl (by decide +kernel) ⟨(by (try dsimp only); omega), (by (try dsimp only); omega)⟩) (pw_preV hZ hw hA hK hz rfl g00 rfl) rfl rfl hl.1 rfl (lv_room (Nat.le_of_ble_eq_true rfl)) d_G_writeInstance_53 ⟨(by (try dsimp only); omega), (by (try dsimp only); omega)⟩) hw hA (fun ad_13 C_14 H locs hp hw => ?_)
    obtain ⟨hae, hO, hf1⟩ := hp
    rw [hae] at hw; clear hae
    have hfr : os_fr C C_14 := fun x y h => (hf1 x y h).trans (hfr x y h)
    obtain ⟨x_16, hx_16⟩ : ∃ z, z = ga_descr cd d9 x_12 := ⟨_, rfl⟩
    rw [← hx_16] at hO
    have hO0 := hO
    obtain ⟨by0, wt, h30, h40, h50, h60, h70, hlen, hby, hwn, hw0, hwt⟩ := hO
    have hG := hG0.fr hf1
    have hG0 := hG
    obtain ⟨g00, g10, g20, hmk, hDD, hTT, hKK⟩ := hG
    obtain ⟨p20, p21, p22, pn, pt⟩ := hTT o ho
    obtain ⟨e06, e10, e11, e12, e13, e14, est⟩ := hDD k9 d9 hcd9
    refine lv_aload_n hx hb d_G_writeInstance_56 rfl (lv_at hl 2 rfl) ?_
    refine pw_get (Cn := "GraphWriter") (T := F_G) (N := 4) hx hb hts in_G hown hK hw 0 0 rfl g00 rfl 2 (by decide) (hts _ wd_142) (fun _ h9 => h9) rfl d_G_writeInstance_57 ?_
    refine lv_iload_n hx hb d_G_writeInstance_60 rfl (lv_at hl 3 rfl) ?_
    refine pw_callv (va_runV (As := [.int (nI o)]) (rest := []) ⟨hx, hb, hml, hown, hts0⟩ (k_O_giveHandle hZ hO0 (k := o) (by omega) _) (cwV 1 hts0 (wd_V wd_619 wd_655 wd_617 wd_618 wd_54) rfl rfl rfl (by decide +kernel) ⟨(by (try dsimp only); omega), (by (try dsimp only); omega)⟩) (pw_preV hZ hw hA hK hz rfl h30 rfl) rfl rfl hl.1 rfl (lv_room (Nat.le_of_ble_eq_true rfl)) d_G_writeInstance_61 ⟨(by (try dsimp only); omega), (by (try dsimp only); omega)⟩) hw hA (fun ad_17 C_18 H locs hp hw => ?_)
    obtain ⟨hae, hO, hf1⟩ := hp
    rw [hae] at hw; clear hae
    have hfr : os_fr C C_18 := fun x y h => (hf1 x y h).trans (hfr x y h)
    obtain ⟨x_20, hx_20⟩ : ∃ z, z = es_give x_16 o := ⟨_, rfl⟩
    rw [← hx_20] at hO
    have hO0 := hO
    obtain ⟨by0, wt, h30, h40, h50, h60, h70, hlen, hby, hwn, hw0, hwt⟩ := hO
    have hG := hG0.fr hf1
    have hG0 := hG
    obtain ⟨g00, g10, g20, hmk, hDD, hTT, hKK⟩ := hG
    obtain ⟨p20, p21, p22, pn, pt⟩ := hTT o ho
    obtain ⟨e06, e10, e11, e12, e13, e14, est⟩ := hDD k9 d9 hcd9
    refine lv_iconst (v := 0) hx hb d_G_writeInstance_64 (by decide) ?_
    refine lv_istore (lv' := [(5, .int 0), (4, .ref (ad 10 k9)), (3, .ref (ad 20 o)), (0, .ref (ad 0 0)), (1, .int (nI o)), (2, .int (nI (12 - n)))]) hx hb d_G_writeInstance_65 hl (by decide) rfl (fun ls hl => ?_)
    refine lv_iconst (v := 0) hx hb d_G_writeInstance_67 (by decide) ?_
    refine lv_istore (lv' := [(6, .int 0), (5, .int 0), (4, .ref (ad 10 k9)), (3, .ref (ad 20 o)), (0, .ref (ad 0 0)), (1, .int (nI o)), (2, .int (nI (12 - n)))]) hx hb d_G_writeInstance_68 hl (by decide) rfl (fun ls hl => ?_)
    have e5 : ga_instn (fun x g => ga_obj cd td n x g 0) cd x o (td o) = ga_irun (fun x g => ga_obj cd td n x g 0) cd (td o) d9 (dd_cn d9) x_20 0 := by unfold ga_instn; rw [eow]; simp only [hcd9]; rw [if_neg c_8, ← hx_12, ← hx_16, ← hx_20]
    exact loop (dd_cn d9) x_20 _ _ _ [] _ (Nat.le_refl _) (by rw [Nat.sub_self]; exact e5.symm) hO0 hG0 hfr hw (by rw [Nat.sub_self]; exact lv_sub hl [0, 1, 3, 2, 4, 5, 6] rfl)
  · skip
    refine lv_aload_n hx hb d_G_writeInstance_26 rfl (lv_at hl 2 rfl) ?_
    refine pw_get (Cn := "GraphWriter") (T := F_G) (N := 4) hx hb hts in_G hown hK hw 0 0 rfl g00 rfl 2 (by decide) (hts _ wd_142) (fun _ h9 => h9) rfl d_G_writeInstance_27 ?_
    refine lv_aload hx hb d_G_writeInstance_30 (lv_at hl 0 rfl) ?_
    refine pw_get (Cn := "GraphWriter$Defined") (T := F_D) (N := 11) hx hb hts in_D hown hK hw 10 k9 rfl e10 rfl 3 (by decide) (hts _ wd_301) (fun _ h9 => h9) rfl d_G_writeInstance_32 ?_
    refine pw_callv (va_runV (As := [.ref (ad 15 k9)]) (rest := []) ⟨hx, hb, hml, hown, hts0⟩ (k_O_abort hO0 est (by decide) (by decide) _) (cwV 1 hts0 (wd_V wd_691 wd_688 wd_689 wd_690 wd_54) rfl rfl rfl (by decide +kernel) ⟨(by (try dsimp only); omega), (by (try dsimp only); omega)⟩) (pw_preV hZ hw hA hK hz rfl h30 rfl) rfl rfl hl.1 rfl (lv_room (Nat.le_of_ble_eq_true rfl)) d_G_writeInstance_35 ⟨(by (try dsimp only); omega), (by (try dsimp only); omega)⟩) hw hA (fun ad_21 C_22 H locs hp hw => ?_)
    obtain ⟨hae, hO, hf1⟩ := hp
    rw [hae] at hw; clear hae
    have hfr : os_fr C C_22 := fun x y h => (hf1 x y h).trans (hfr x y h)
    obtain ⟨x_24, hx_24⟩ : ∃ z, z = es_abort x [nI (65 + k9)] := ⟨_, rfl⟩
    rw [← hx_24] at hO
    have hO0 := hO
    obtain ⟨by0, wt, h30, h40, h50, h60, h70, hlen, hby, hwn, hw0, hwt⟩ := hO
    have hG := hG0.fr hf1
    have hG0 := hG
    obtain ⟨g00, g10, g20, hmk, hDD, hTT, hKK⟩ := hG
    obtain ⟨p20, p21, p22, pn, pt⟩ := hTT o ho
    obtain ⟨e06, e10, e11, e12, e13, e14, est⟩ := hDD k9 d9 hcd9
    have e9 : ga_instn (fun x g => ga_obj cd td n x g 0) cd x o (td o) = x_24 := by unfold ga_instn; rw [eow]; simp only [hcd9]; rw [if_pos c_8, ← hx_24]
    refine pw_vret hx hb hr hlocks hw ⟨rfl, ?_, hfr⟩ d_G_writeInstance_38
    rw [e9]; exact hO0
