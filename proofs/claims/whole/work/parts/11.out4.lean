theorem st_at.fr {ca : Nat → ClassId} {ad : pw_A} {C C1 : pw_C} {u v u2 v2 : Nat} {t : List Int32} (h : st_at ca ad C u v u2 v2 t) (hf : os_fr C C1) (hu : u < 3 ∨ 7 < u) (hu2 : u2 < 3 ∨ 7 < u2) : st_at ca ad C1 u v u2 v2 t := by
  obtain ⟨f, g1, g2, h0, h1, h2⟩ := h
  exact ⟨f, g1, g2, (hf u v hu).trans h0, (hf u2 v2 hu2).trans h1, h2⟩
def es_utf (x : ES) (t : List Int32) : ES := t.foldl (fun x c => es_put x c.toInt64 1) (es_put x (nI t.length).toInt64 2)
def es_text (x : ES) (k : Nat) (t : List Int32) : ES := es_utf (es_give (es_put x 116 1) k) t
/-- a descriptor is begun; 0 if it has a handle: then a reference is all -/
def es_desc (x : ES) (k : Nat) (t : List Int32) (i : Int64) (fl fd : Int32) : ES × Int32 := if (es_ref x k).2 = 0 then (es_put (es_put (es_give (es_put (es_utf (es_put (es_ref x k).1 114 1) t) i 8) k) fl.toInt64 1) fd.toInt64 2, 1) else ((es_ref x k).1, 0)
def es_abort (x : ES) (t : List Int32) : ES := (fun z : ES => if z.2.1 = 0 then es_oc z (-3) else z) (es_put (es_utf (es_put (es_put (es_put x 123 1) 121 1) 116 1) t) 121 1)
set_option maxHeartbeats 4000000 in
set_option maxRecDepth 100000 in
theorem k_O_putUtf {l : Launch} {D : va_G} {ca : Nat → ClassId} {kS : Nat → Nat} {kT : Nat} {ad : pw_A} {C : pw_C} {x : ES} {w0 : List Int32} {wn : Nat} {sn : SN} (hO : os_x ca ad C x w0 wn sn) {u v u2 v2 : Nat} {t : List Int32} (hT : st_at ca ad C u v u2 v2 t) (hu : u < 3 ∨ 7 < u) (hu2 : u2 < 3 ∨ 7 < u2) : gc_Con l y_O_putUtf c_O_putUtf ({ frames := 4, cells := 0, slots := 0, locals := 85 }) D ca (z9_Z kS kT) [.ref (ad 3 0), .ref (ad u v)] ad C (pw_pv (fun ad' C' => ad' = ad ∧ os_x ca ad C' (es_utf x t) w0 wn sn ∧ os_fr C C')) 0 0 := by
  have hZ := z9_ok kS kT
  have hO0 := hO
  obtain ⟨by0, wt, h30, h40, h50, h60, h70, hlen, hby, hwn, hw0, hwt⟩ := hO
  have hT0 := hT
  obtain ⟨f, g1, g2, hs0, hs1, hsf, hsn, hsc⟩ := hT
  refine pw_ofW (cc := b_O_putUtf) (maxL := 3) (ret := none) (by decide) rfl (Nat.le_of_ble_eq_true rfl) ?_
  intro p e s m args below meth c A ls hB hA hw hK hz hl
  obtain ⟨hx, hb, hr, hml, hts0, hlocks, hown, hnm⟩ := hB
  have hts := wd_hts hts0
  have hown : s.vm.findClass "GraphWriter$Out" = some m.cls := hown
  have hl : lv_has ls 3 [(0, .ref (ad 3 0)), (1, .ref (ad u v))] := hl
  have hfr : os_fr C C := fun _ _ _ => rfl
  refine lv_aload_n hx hb d_O_putUtf_0 rfl (lv_at hl 0 rfl) ?_
  refine lv_aload_n hx hb d_O_putUtf_1 rfl (lv_at hl 1 rfl) ?_
  refine pw_calli (va_runV (As := []) (rest := [.ref (ad 3 0)]) ⟨hx, hb, hml, hown, hts0⟩ (k_JS_length hT0 _) (cwV 0 hts0 (wd_V wd_198 wd_624 wd_196 wd_197 wd_60) rfl rfl rfl (by decide +kernel) ⟨Nat.le_of_ble_eq_true rfl, Nat.le_of_ble_eq_true rfl⟩) (pw_preV hZ hw hA hK hz rfl hs0 rfl) rfl rfl hl.1 rfl (lv_room (Nat.le_of_ble_eq_true rfl)) d_O_putUtf_2 ⟨Nat.le_of_ble_eq_true rfl, Nat.le_of_ble_eq_true rfl⟩) hw hA (fun r_3 ad_1 C_2 H locs hp hw => ?_)
  obtain ⟨⟨hae, hce⟩, hre⟩ := hp
  rw [hae, hce] at hw
  rw [hre]
  clear hae hce hre
  refine lv_i2l hx hb d_O_putUtf_5 rfl ?_
  refine lv_iconst (v := 2) hx hb d_O_putUtf_6 (by decide) ?_
  refine pw_callv (va_runV (As := [.long ((nI t.length).toInt64), .int 2]) (rest := []) ⟨hx, hb, hml, hown, hts0⟩ (k_O_put hO0 ((nI t.length).toInt64) (w := 2) (by decide) _) (cwV 2 hts0 (wd_V wd_139 wd_585 wd_137 wd_138 wd_54) rfl rfl rfl (by decide +kernel) ⟨Nat.le_of_ble_eq_true rfl, Nat.le_of_ble_eq_true rfl⟩) (pw_preV hZ hw hA hK hz rfl h30 rfl) rfl rfl hl.1 rfl (lv_room (Nat.le_of_ble_eq_true rfl)) d_O_putUtf_7 ⟨Nat.le_of_ble_eq_true rfl, Nat.le_of_ble_eq_true rfl⟩) hw hA (fun ad_4 C_5 H locs hp hw => ?_)
  obtain ⟨hae, hO, hf1⟩ := hp
  rw [hae] at hw; clear hae
  have hfr : os_fr C C_5 := fun x y h => (hf1 x y h).trans (hfr x y h)
  obtain ⟨x_7, hx_7⟩ : ∃ z, z = es_put x ((nI t.length).toInt64) 2 := ⟨_, rfl⟩
  rw [← hx_7] at hO
  have hO0 := hO
  obtain ⟨by0, wt, h30, h40, h50, h60, h70, hlen, hby, hwn, hw0, hwt⟩ := hO
  have hT := hT0.fr hf1 hu hu2
  have hT0 := hT
  obtain ⟨f, g1, g2, hs0, hs1, hsf, hsn, hsc⟩ := hT
  refine lv_iconst (v := 0) hx hb d_O_putUtf_10 (by decide) ?_
  refine lv_istore_n (lv' := [(2, .int 0), (0, .ref (ad 3 0)), (1, .ref (ad u v))]) hx hb d_O_putUtf_11 rfl hl (by decide) rfl (fun ls hl => ?_)
  have key : ∀ (r j : Nat), j + r = t.length → ∀ (x1 : ES) (C1 : pw_C) (H : Heap) (locs : List Loc) (ls : Array Slot), x1 = (t.take j).foldl (fun x c => es_put x c.toInt64 1) x_7 → os_x ca ad C1 x1 w0 wn sn → st_at ca ad C1 u v u2 v2 t → os_fr C C1 → pw_H D cls9 A s.heap ad C ad C1 H locs → lv_has ls 3 [(2, .int (nI j)), (0, .ref (ad 3 0)), (1, .ref (ad u v))] → W p l e ({ frames := 4, cells := 0, slots := 0, locals := 85 }) s m args below meth c H locs 0 0 (MQ below (pw_Q D cls9 ad C (pw_pv (fun ad' C' => ad' = ad ∧ os_x ca ad C' (es_utf x t) w0 wn sn ∧ os_fr C C')) A) args s 0 0 A) (F0 m 12 ls []) := by
    intro r
    induction r with
    | zero =>
      intro j hj x1 C1 H locs ls hx1 hO hT hfr hw hl
      have hO0 := hO
      obtain ⟨by0, wt, h30, h40, h50, h60, h70, hlen, hby, hwn, hw0, hwt⟩ := hO
      have hT0 := hT
      obtain ⟨f, g1, g2, hs0, hs1, hsf, hsn, hsc⟩ := hT
      refine lv_iload_n hx hb d_O_putUtf_12 rfl (lv_at hl 0 rfl) ?_
      refine lv_aload_n hx hb d_O_putUtf_13 rfl (lv_at hl 2 rfl) ?_
      refine pw_calli (va_runV (As := []) (rest := [.int (nI j)]) ⟨hx, hb, hml, hown, hts0⟩ (k_JS_length hT0 _) (cwV 0 hts0 (wd_V wd_198 wd_624 wd_196 wd_197 wd_60) rfl rfl rfl (by decide +kernel) ⟨Nat.le_of_ble_eq_true rfl, Nat.le_of_ble_eq_true rfl⟩) (pw_preV hZ hw hA hK hz rfl hs0 rfl) rfl rfl hl.1 rfl (lv_room (Nat.le_of_ble_eq_true rfl)) d_O_putUtf_14 ⟨Nat.le_of_ble_eq_true rfl, Nat.le_of_ble_eq_true rfl⟩) hw hA (fun r_10 ad_8 C_9 H locs hp hw => ?_)
      obtain ⟨⟨hae, hce⟩, hre⟩ := hp
      rw [hae, hce] at hw
      rw [hre]
      clear hae hce hre
      refine lv_icmp_ge (tgt := 37) hx hb d_O_putUtf_17 (by decide) (fun c_11 => ?_) (fun c_11 => ?_)
      · skip
        have e9 : es_utf x t = x1 := by rw [hx1, hx_7, List.take_of_length_le (by omega)]; rfl
        refine pw_vret hx hb hr hlocks hw ⟨rfl, ?_, hfr⟩ d_O_putUtf_37
        rw [e9]; exact hO0
      · exact absurd (nI_le (by omega) (by omega)) c_11
    | succ r ih =>
      intro j hj x1 C1 H locs ls hx1 hO hT hfr hw hl
      have hO0 := hO
      obtain ⟨by0, wt, h30, h40, h50, h60, h70, hlen, hby, hwn, hw0, hwt⟩ := hO
      have hT0 := hT
      obtain ⟨f, g1, g2, hs0, hs1, hsf, hsn, hsc⟩ := hT
      refine lv_iload_n hx hb d_O_putUtf_12 rfl (lv_at hl 0 rfl) ?_
      refine lv_aload_n hx hb d_O_putUtf_13 rfl (lv_at hl 2 rfl) ?_
      refine pw_calli (va_runV (As := []) (rest := [.int (nI j)]) ⟨hx, hb, hml, hown, hts0⟩ (k_JS_length hT0 _) (cwV 0 hts0 (wd_V wd_198 wd_624 wd_196 wd_197 wd_60) rfl rfl rfl (by decide +kernel) ⟨Nat.le_of_ble_eq_true rfl, Nat.le_of_ble_eq_true rfl⟩) (pw_preV hZ hw hA hK hz rfl hs0 rfl) rfl rfl hl.1 rfl (lv_room (Nat.le_of_ble_eq_true rfl)) d_O_putUtf_14 ⟨Nat.le_of_ble_eq_true rfl, Nat.le_of_ble_eq_true rfl⟩) hw hA (fun r_14 ad_12 C_13 H locs hp hw => ?_)
      obtain ⟨⟨hae, hce⟩, hre⟩ := hp
      rw [hae, hce] at hw
      rw [hre]
      clear hae hce hre
      refine lv_icmp_ge (tgt := 37) hx hb d_O_putUtf_17 (by decide) (fun c_15 => ?_) (fun c_15 => ?_)
      · exact absurd c_15 (nI_ge (by omega) (by omega))
      · skip
        refine lv_aload_n hx hb d_O_putUtf_20 rfl (lv_at hl 1 rfl) ?_
        refine lv_aload_n hx hb d_O_putUtf_21 rfl (lv_at hl 2 rfl) ?_
        refine lv_iload_n hx hb d_O_putUtf_22 rfl (lv_at hl 0 rfl) ?_
        refine pw_calli (va_runV (As := [.int (nI j)]) (rest := [.ref (ad 3 0)]) ⟨hx, hb, hml, hown, hts0⟩ (k_JS_charAt hT0 (j := j) (by omega) _) (cwV 1 hts0 (wd_V wd_628 wd_625 wd_626 wd_627 wd_60) rfl rfl rfl (by decide +kernel) ⟨Nat.le_of_ble_eq_true rfl, Nat.le_of_ble_eq_true rfl⟩) (pw_preV hZ hw hA hK hz rfl hs0 rfl) rfl rfl hl.1 rfl (lv_room (Nat.le_of_ble_eq_true rfl)) d_O_putUtf_23 ⟨Nat.le_of_ble_eq_true rfl, Nat.le_of_ble_eq_true rfl⟩) hw hA (fun r_18 ad_16 C_17 H locs hp hw => ?_)
        obtain ⟨⟨hae, hce⟩, hre⟩ := hp
        rw [hae, hce] at hw
        rw [hre]
        clear hae hce hre
        refine lv_i2l hx hb d_O_putUtf_26 rfl ?_
        refine lv_iconst (v := 1) hx hb d_O_putUtf_27 (by decide) ?_
        refine pw_callv (va_runV (As := [.long ((t.getD j 0).toInt64), .int 1]) (rest := []) ⟨hx, hb, hml, hown, hts0⟩ (k_O_put hO0 ((t.getD j 0).toInt64) (w := 1) (by decide) _) (cwV 2 hts0 (wd_V wd_139 wd_585 wd_137 wd_138 wd_54) rfl rfl rfl (by decide +kernel) ⟨Nat.le_of_ble_eq_true rfl, Nat.le_of_ble_eq_true rfl⟩) (pw_preV hZ hw hA hK hz rfl h30 rfl) rfl rfl hl.1 rfl (lv_room (Nat.le_of_ble_eq_true rfl)) d_O_putUtf_28 ⟨Nat.le_of_ble_eq_true rfl, Nat.le_of_ble_eq_true rfl⟩) hw hA (fun ad_19 C_20 H locs hp hw => ?_)
        obtain ⟨hae, hO, hf1⟩ := hp
        rw [hae] at hw; clear hae
        have hfr : os_fr C C_20 := fun x y h => (hf1 x y h).trans (hfr x y h)
        obtain ⟨x_22, hx_22⟩ : ∃ z, z = es_put x1 ((t.getD j 0).toInt64) 1 := ⟨_, rfl⟩
        rw [← hx_22] at hO
        have hO0 := hO
        obtain ⟨by0, wt, h30, h40, h50, h60, h70, hlen, hby, hwn, hw0, hwt⟩ := hO
        have hT := hT0.fr hf1 hu hu2
        have hT0 := hT
        obtain ⟨f, g1, g2, hs0, hs1, hsf, hsn, hsc⟩ := hT
        refine lv_iinc (v := (nI j) + 1) (lv' := [(2, .int ((nI j) + 1)), (0, .ref (ad 3 0)), (1, .ref (ad u v))]) hx hb d_O_putUtf_31 hl (k := 0) rfl rfl (by decide) rfl (fun ls hl => ?_)
        refine lv_goto (tgt := 12) hx hb d_O_putUtf_34 (by decide) ?_
        rw [nI_1] at hl
        refine ih (j + 1) (by omega) _ _ _ _ _ ?_ hO0 hT0 hfr hw hl
        have hjl : j < t.length := by omega
        rw [hx_22, hx1, List.take_add_one, List.getElem?_eq_getElem hjl, List.foldl_append]
        simp [List.getD, hjl]
  exact key t.length 0 (by omega) x_7 _ _ _ _ (by rw [List.take_zero]; rfl) hO0 hT0 hfr hw hl
set_option maxHeartbeats 4000000 in
set_option maxRecDepth 100000 in
theorem k_O_putText {l : Launch} {D : va_G} {ca : Nat → ClassId} {kS : Nat → Nat} {kT : Nat} {ad : pw_A} {C : pw_C} {x : ES} {w0 : List Int32} {wn : Nat} {sn : SN} (hO : os_x ca ad C x w0 wn sn) {u v u2 v2 : Nat} {t : List Int32} (hT : st_at ca ad C u v u2 v2 t) (hu : u < 3 ∨ 7 < u) (hu2 : u2 < 3 ∨ 7 < u2) {k : Nat} (hk : k < 35) : gc_Con l y_O_putText c_O_putText ({ frames := 5, cells := 0, slots := 0, locals := 107 }) D ca (z9_Z kS kT) [.ref (ad 3 0), .int (nI k), .ref (ad u v)] ad C (pw_pv (fun ad' C' => ad' = ad ∧ os_x ca ad C' (es_text x k t) w0 wn sn ∧ os_fr C C')) 0 0 := by
  have hZ := z9_ok kS kT
  have hO0 := hO
  obtain ⟨by0, wt, h30, h40, h50, h60, h70, hlen, hby, hwn, hw0, hwt⟩ := hO
  have hT0 := hT
  obtain ⟨f, g1, g2, hs0, hs1, hsf, hsn, hsc⟩ := hT
  refine pw_ofW (cc := b_O_putText) (maxL := 3) (ret := none) (by decide) rfl (Nat.le_of_ble_eq_true rfl) ?_
  intro p e s m args below meth c A ls hB hA hw hK hz hl
  obtain ⟨hx, hb, hr, hml, hts0, hlocks, hown, hnm⟩ := hB
  have hts := wd_hts hts0
  have hown : s.vm.findClass "GraphWriter$Out" = some m.cls := hown
  have hl : lv_has ls 3 [(0, .ref (ad 3 0)), (1, .int (nI k)), (2, .ref (ad u v))] := hl
  have hfr : os_fr C C := fun _ _ _ => rfl
  refine lv_aload_n hx hb d_O_putText_0 rfl (lv_at hl 0 rfl) ?_
  refine lv_ldc2 (v := 116) hx hb hown (hts _ wd_615) d_O_putText_1 ?_
  refine lv_iconst (v := 1) hx hb d_O_putText_4 (by decide) ?_
  refine pw_callv (va_runV (As := [.long 116, .int 1]) (rest := []) ⟨hx, hb, hml, hown, hts0⟩ (k_O_put hO0 116 (w := 1) (by decide) _) (cwV 2 hts0 (wd_V wd_139 wd_585 wd_137 wd_138 wd_54) rfl rfl rfl (by decide +kernel) ⟨Nat.le_of_ble_eq_true rfl, Nat.le_of_ble_eq_true rfl⟩) (pw_preV hZ hw hA hK hz rfl h30 rfl) rfl rfl hl.1 rfl (lv_room (Nat.le_of_ble_eq_true rfl)) d_O_putText_5 ⟨Nat.le_of_ble_eq_true rfl, Nat.le_of_ble_eq_true rfl⟩) hw hA (fun ad_1 C_2 H locs hp hw => ?_)
  obtain ⟨hae, hO, hf1⟩ := hp
  rw [hae] at hw; clear hae
  have hfr : os_fr C C_2 := fun x y h => (hf1 x y h).trans (hfr x y h)
  obtain ⟨x_4, hx_4⟩ : ∃ z, z = es_put x 116 1 := ⟨_, rfl⟩
  rw [← hx_4] at hO
  have hO0 := hO
  obtain ⟨by0, wt, h30, h40, h50, h60, h70, hlen, hby, hwn, hw0, hwt⟩ := hO
  have hT := hT0.fr hf1 hu hu2
  have hT0 := hT
  obtain ⟨f, g1, g2, hs0, hs1, hsf, hsn, hsc⟩ := hT
  refine lv_aload_n hx hb d_O_putText_8 rfl (lv_at hl 0 rfl) ?_
  refine lv_iload_n hx hb d_O_putText_9 rfl (lv_at hl 1 rfl) ?_
  refine pw_callv (va_runV (As := [.int (nI k)]) (rest := []) ⟨hx, hb, hml, hown, hts0⟩ (k_O_giveHandle hZ hO0 hk _) (cwV 1 hts0 (wd_V wd_619 wd_616 wd_617 wd_618 wd_54) rfl rfl rfl (by decide +kernel) ⟨Nat.le_of_ble_eq_true rfl, Nat.le_of_ble_eq_true rfl⟩) (pw_preV hZ hw hA hK hz rfl h30 rfl) rfl rfl hl.1 rfl (lv_room (Nat.le_of_ble_eq_true rfl)) d_O_putText_10 ⟨Nat.le_of_ble_eq_true rfl, Nat.le_of_ble_eq_true rfl⟩) hw hA (fun ad_5 C_6 H locs hp hw => ?_)
  obtain ⟨hae, hO, hf1⟩ := hp
  rw [hae] at hw; clear hae
  have hfr : os_fr C C_6 := fun x y h => (hf1 x y h).trans (hfr x y h)
  obtain ⟨x_8, hx_8⟩ : ∃ z, z = es_give x_4 k := ⟨_, rfl⟩
  rw [← hx_8] at hO
  have hO0 := hO
  obtain ⟨by0, wt, h30, h40, h50, h60, h70, hlen, hby, hwn, hw0, hwt⟩ := hO
  have hT := hT0.fr hf1 hu hu2
  have hT0 := hT
  obtain ⟨f, g1, g2, hs0, hs1, hsf, hsn, hsc⟩ := hT
  refine lv_aload_n hx hb d_O_putText_13 rfl (lv_at hl 0 rfl) ?_
  refine lv_aload_n hx hb d_O_putText_14 rfl (lv_at hl 2 rfl) ?_
  refine pw_callv (va_runV (As := [.ref (ad u v)]) (rest := []) ⟨hx, hb, hml, hown, hts0⟩ (k_O_putUtf hO0 hT0 hu hu2 _) (cwV 1 hts0 (wd_V wd_623 wd_620 wd_621 wd_622 wd_54) rfl rfl rfl (by decide +kernel) ⟨Nat.le_of_ble_eq_true rfl, Nat.le_of_ble_eq_true rfl⟩) (pw_preV hZ hw hA hK hz rfl h30 rfl) rfl rfl hl.1 rfl (lv_room (Nat.le_of_ble_eq_true rfl)) d_O_putText_15 ⟨Nat.le_of_ble_eq_true rfl, Nat.le_of_ble_eq_true rfl⟩) hw hA (fun ad_9 C_10 H locs hp hw => ?_)
  obtain ⟨hae, hO, hf1⟩ := hp
  rw [hae] at hw; clear hae
  have hfr : os_fr C C_10 := fun x y h => (hf1 x y h).trans (hfr x y h)
  obtain ⟨x_12, hx_12⟩ : ∃ z, z = es_utf x_8 t := ⟨_, rfl⟩
  rw [← hx_12] at hO
  have hO0 := hO
  obtain ⟨by0, wt, h30, h40, h50, h60, h70, hlen, hby, hwn, hw0, hwt⟩ := hO
  have hT := hT0.fr hf1 hu hu2
  have hT0 := hT
  obtain ⟨f, g1, g2, hs0, hs1, hsf, hsn, hsc⟩ := hT
  have e9 : es_text x k t = x_12 := by rw [hx_12, hx_8, hx_4]; rfl
  refine pw_vret hx hb hr hlocks hw ⟨rfl, ?_, hfr⟩ d_O_putText_18
  rw [e9]; exact hO0
set_option maxHeartbeats 4000000 in
set_option maxRecDepth 100000 in
theorem k_O_abort {l : Launch} {D : va_G} {ca : Nat → ClassId} {kS : Nat → Nat} {kT : Nat} {ad : pw_A} {C : pw_C} {x : ES} {w0 : List Int32} {wn : Nat} {sn : SN} (hO : os_x ca ad C x w0 wn sn) {u v u2 v2 : Nat} {t : List Int32} (hT : st_at ca ad C u v u2 v2 t) (hu : u < 3 ∨ 7 < u) (hu2 : u2 < 3 ∨ 7 < u2) : gc_Con l y_O_abort c_O_abort ({ frames := 5, cells := 0, slots := 0, locals := 107 }) D ca (z9_Z kS kT) [.ref (ad 3 0), .ref (ad u v)] ad C (pw_pv (fun ad' C' => ad' = ad ∧ os_x ca ad C' (es_abort x t) w0 wn sn ∧ os_fr C C')) 0 0 := by
  have hZ := z9_ok kS kT
  have hO0 := hO
  obtain ⟨by0, wt, h30, h40, h50, h60, h70, hlen, hby, hwn, hw0, hwt⟩ := hO
  have hT0 := hT
  obtain ⟨f, g1, g2, hs0, hs1, hsf, hsn, hsc⟩ := hT
  refine pw_ofW (cc := b_O_abort) (maxL := 2) (ret := none) (by decide) rfl (Nat.le_of_ble_eq_true rfl) ?_
  intro p e s m args below meth c A ls hB hA hw hK hz hl
  obtain ⟨hx, hb, hr, hml, hts0, hlocks, hown, hnm⟩ := hB
  have hts := wd_hts hts0
  have hown : s.vm.findClass "GraphWriter$Out" = some m.cls := hown
  have hl : lv_has ls 2 [(0, .ref (ad 3 0)), (1, .ref (ad u v))] := hl
  have hfr : os_fr C C := fun _ _ _ => rfl
  refine lv_aload_n hx hb d_O_abort_0 rfl (lv_at hl 0 rfl) ?_
  refine lv_ldc2 (v := 123) hx hb hown (hts _ wd_692) d_O_abort_1 ?_
  refine lv_iconst (v := 1) hx hb d_O_abort_4 (by decide) ?_
  refine pw_callv (va_runV (As := [.long 123, .int 1]) (rest := []) ⟨hx, hb, hml, hown, hts0⟩ (k_O_put hO0 123 (w := 1) (by decide) _) (cwV 2 hts0 (wd_V wd_139 wd_585 wd_137 wd_138 wd_54) rfl rfl rfl (by decide +kernel) ⟨Nat.le_of_ble_eq_true rfl, Nat.le_of_ble_eq_true rfl⟩) (pw_preV hZ hw hA hK hz rfl h30 rfl) rfl rfl hl.1 rfl (lv_room (Nat.le_of_ble_eq_true rfl)) d_O_abort_5 ⟨Nat.le_of_ble_eq_true rfl, Nat.le_of_ble_eq_true rfl⟩) hw hA (fun ad_1 C_2 H locs hp hw => ?_)
  obtain ⟨hae, hO, hf1⟩ := hp
  rw [hae] at hw; clear hae
  have hfr : os_fr C C_2 := fun x y h => (hf1 x y h).trans (hfr x y h)
  obtain ⟨x_4, hx_4⟩ : ∃ z, z = es_put x 123 1 := ⟨_, rfl⟩
  rw [← hx_4] at hO
  have hO0 := hO
  obtain ⟨by0, wt, h30, h40, h50, h60, h70, hlen, hby, hwn, hw0, hwt⟩ := hO
  have hT := hT0.fr hf1 hu hu2
  have hT0 := hT
  obtain ⟨f, g1, g2, hs0, hs1, hsf, hsn, hsc⟩ := hT
  refine lv_aload_n hx hb d_O_abort_8 rfl (lv_at hl 0 rfl) ?_
  refine lv_ldc2 (v := 121) hx hb hown (hts _ wd_693) d_O_abort_9 ?_
  refine lv_iconst (v := 1) hx hb d_O_abort_12 (by decide) ?_
  refine pw_callv (va_runV (As := [.long 121, .int 1]) (rest := []) ⟨hx, hb, hml, hown, hts0⟩ (k_O_put hO0 121 (w := 1) (by decide) _) (cwV 2 hts0 (wd_V wd_139 wd_585 wd_137 wd_138 wd_54) rfl rfl rfl (by decide +kernel) ⟨Nat.le_of_ble_eq_true rfl, Nat.le_of_ble_eq_true rfl⟩) (pw_preV hZ hw hA hK hz rfl h30 rfl) rfl rfl hl.1 rfl (lv_room (Nat.le_of_ble_eq_true rfl)) d_O_abort_13 ⟨Nat.le_of_ble_eq_true rfl, Nat.le_of_ble_eq_true rfl⟩) hw hA (fun ad_5 C_6 H locs hp hw => ?_)
  obtain ⟨hae, hO, hf1⟩ := hp
  rw [hae] at hw; clear hae
  have hfr : os_fr C C_6 := fun x y h => (hf1 x y h).trans (hfr x y h)
  obtain ⟨x_8, hx_8⟩ : ∃ z, z = es_put x_4 121 1 := ⟨_, rfl⟩
  rw [← hx_8] at hO
  have hO0 := hO
  obtain ⟨by0, wt, h30, h40, h50, h60, h70, hlen, hby, hwn, hw0, hwt⟩ := hO
  have hT := hT0.fr hf1 hu hu2
  have hT0 := hT
  obtain ⟨f, g1, g2, hs0, hs1, hsf, hsn, hsc⟩ := hT
  refine lv_aload_n hx hb d_O_abort_16 rfl (lv_at hl 0 rfl) ?_
  refine lv_ldc2 (v := 116) hx hb hown (hts _ wd_615) d_O_abort_17 ?_
  refine lv_iconst (v := 1) hx hb d_O_abort_20 (by decide) ?_
  refine pw_callv (va_runV (As := [.long 116, .int 1]) (rest := []) ⟨hx, hb, hml, hown, hts0⟩ (k_O_put hO0 116 (w := 1) (by decide) _) (cwV 2 hts0 (wd_V wd_139 wd_585 wd_137 wd_138 wd_54) rfl rfl rfl (by decide +kernel) ⟨Nat.le_of_ble_eq_true rfl, Nat.le_of_ble_eq_true rfl⟩) (pw_preV hZ hw hA hK hz rfl h30 rfl) rfl rfl hl.1 rfl (lv_room (Nat.le_of_ble_eq_true rfl)) d_O_abort_21 ⟨Nat.le_of_ble_eq_true rfl, Nat.le_of_ble_eq_true rfl⟩) hw hA (fun ad_9 C_10 H locs hp hw => ?_)
  obtain ⟨hae, hO, hf1⟩ := hp
  rw [hae] at hw; clear hae
  have hfr : os_fr C C_10 := fun x y h => (hf1 x y h).trans (hfr x y h)
  obtain ⟨x_12, hx_12⟩ : ∃ z, z = es_put x_8 116 1 := ⟨_, rfl⟩
  rw [← hx_12] at hO
  have hO0 := hO
  obtain ⟨by0, wt, h30, h40, h50, h60, h70, hlen, hby, hwn, hw0, hwt⟩ := hO
  have hT := hT0.fr hf1 hu hu2
  have hT0 := hT
  obtain ⟨f, g1, g2, hs0, hs1, hsf, hsn, hsc⟩ := hT
  refine lv_aload_n hx hb d_O_abort_24 rfl (lv_at hl 0 rfl) ?_
  refine lv_aload_n hx hb d_O_abort_25 rfl (lv_at hl 1 rfl) ?_
  refine pw_callv (va_runV (As := [.ref (ad u v)]) (rest := []) ⟨hx, hb, hml, hown, hts0⟩ (k_O_putUtf hO0 hT0 hu hu2 _) (cwV 1 hts0 (wd_V wd_623 wd_620 wd_621 wd_622 wd_54) rfl rfl rfl (by decide +kernel) ⟨Nat.le_of_ble_eq_true rfl, Nat.le_of_ble_eq_true rfl⟩) (pw_preV hZ hw hA hK hz rfl h30 rfl) rfl rfl hl.1 rfl (lv_room (Nat.le_of_ble_eq_true rfl)) d_O_abort_26 ⟨Nat.le_of_ble_eq_true rfl, Nat.le_of_ble_eq_true rfl⟩) hw hA (fun ad_13 C_14 H locs hp hw => ?_)
  obtain ⟨hae, hO, hf1⟩ := hp
  rw [hae] at hw; clear hae
  have hfr : os_fr C C_14 := fun x y h => (hf1 x y h).trans (hfr x y h)
  obtain ⟨x_16, hx_16⟩ : ∃ z, z = es_utf x_12 t := ⟨_, rfl⟩
  rw [← hx_16] at hO
  have hO0 := hO
  obtain ⟨by0, wt, h30, h40, h50, h60, h70, hlen, hby, hwn, hw0, hwt⟩ := hO
  have hT := hT0.fr hf1 hu hu2
  have hT0 := hT
  obtain ⟨f, g1, g2, hs0, hs1, hsf, hsn, hsc⟩ := hT
  refine lv_aload_n hx hb d_O_abort_29 rfl (lv_at hl 0 rfl) ?_
  refine lv_ldc2 (v := 121) hx hb hown (hts _ wd_693) d_O_abort_30 ?_
  refine lv_iconst (v := 1) hx hb d_O_abort_33 (by decide) ?_
  refine pw_callv (va_runV (As := [.long 121, .int 1]) (rest := []) ⟨hx, hb, hml, hown, hts0⟩ (k_O_put hO0 121 (w := 1) (by decide) _) (cwV 2 hts0 (wd_V wd_139 wd_585 wd_137 wd_138 wd_54) rfl rfl rfl (by decide +kernel) ⟨Nat.le_of_ble_eq_true rfl, Nat.le_of_ble_eq_true rfl⟩) (pw_preV hZ hw hA hK hz rfl h30 rfl) rfl rfl hl.1 rfl (lv_room (Nat.le_of_ble_eq_true rfl)) d_O_abort_34 ⟨Nat.le_of_ble_eq_true rfl, Nat.le_of_ble_eq_true rfl⟩) hw hA (fun ad_17 C_18 H locs hp hw => ?_)
  obtain ⟨hae, hO, hf1⟩ := hp
  rw [hae] at hw; clear hae
  have hfr : os_fr C C_18 := fun x y h => (hf1 x y h).trans (hfr x y h)
  obtain ⟨x_20, hx_20⟩ : ∃ z, z = es_put x_16 121 1 := ⟨_, rfl⟩
  rw [← hx_20] at hO
  have hO0 := hO
  obtain ⟨by0, wt, h30, h40, h50, h60, h70, hlen, hby, hwn, hw0, hwt⟩ := hO
  have hT := hT0.fr hf1 hu hu2
  have hT0 := hT
  obtain ⟨f, g1, g2, hs0, hs1, hsf, hsn, hsc⟩ := hT
  refine lv_aload_n hx hb d_O_abort_37 rfl (lv_at hl 0 rfl) ?_
  refine pw_get (Cn := "GraphWriter$Out") (T := F_O) (N := 11) hx hb hts in_O hown hK hw 3 0 rfl h30 rfl 6 (by decide) (hts _ wd_97) (fun _ h9 => h9) rfl d_O_abort_38 ?_
  refine lv_if_ne (tgt := 50) hx hb d_O_abort_41 (by decide) (fun c_21 => ?_) (fun c_21 => ?_)
  · skip
    have e9 : es_abort x t = x_20 := by show (fun z : ES => if z.2.1 = 0 then es_oc z (-3) else z) _ = _; rw [hx_20, hx_16, hx_12, hx_8, hx_4] at c_21 ⊢; exact if_neg c_21
    refine pw_vret hx hb hr hlocks hw ⟨rfl, ?_, hfr⟩ d_O_abort_50
    rw [e9]; exact hO0
  · skip
    refine lv_aload_n hx hb d_O_abort_44 rfl (lv_at hl 0 rfl) ?_
    refine lv_bipush (v := (-3)) hx hb d_O_abort_45 (by decide) ?_
    refine pw_put (Cn := "GraphWriter$Out") (T := F_O) (N := 11) (v := .int (-3)) (ty := .int) hx hb hts in_O ft_O to_O nm_O hown hK hw 3 0 (by decide) rfl h30 rfl 6 (by decide) (hts _ wd_97) (fun _ h9 => h9) rfl (by decide +kernel) rfl rfl (Nat.le_of_ble_eq_true rfl) d_O_abort_47 (fun H locs hw => ?_)
    have hw : pw_H D cls9 A s.heap ad C ad (pw_up C_18 3 0 (some (.inr (1, [.ref (ad 4 0), .ref (ad 5 0), .ref (ad 6 0), .int (nI x_20.1.length), .int (nI wn), .int x_20.2.2.2, .int (-3), .ref (ad 7 0), .int sn.2.1, .int sn.2.2.1, .int sn.2.2.2])))) H locs := hw
    generalize hC_22 : pw_up C_18 3 0 (some (.inr (1, [.ref (ad 4 0), .ref (ad 5 0), .ref (ad 6 0), .int (nI x_20.1.length), .int (nI wn), .int x_20.2.2.2, .int (-3), .ref (ad 7 0), .int sn.2.1, .int sn.2.2.1, .int sn.2.2.2]))) = C_22 at hw
    have h40 : C_22 4 0 = some (.inl (ca 2, 1400, .inl by0)) := by rw [← hC_22]; exact (pw_up_ne _ _ (by decide)).trans h40
    have h50 : C_22 5 0 = some (.inl (ca 2, 255, .inl wt)) := by rw [← hC_22]; exact (pw_up_ne _ _ (by decide)).trans h50
    have h60 : C_22 6 0 = some (.inl (ca 0, 35, .inl x_20.2.2.1)) := by rw [← hC_22]; exact (pw_up_ne _ _ (by decide)).trans h60
    have h70 : C_22 7 0 = some (.inl (ca 0, 35, .inl sn.1)) := by rw [← hC_22]; exact (pw_up_ne _ _ (by decide)).trans h70
    have hs0 : C_22 u v = some (.inr (5, [.ref (ad u2 v2), .int 0, g1, g2])) := by rw [← hC_22]; exact (pw_up_ne _ _ (by omega)).trans hs0
    have hs1 : C_22 u2 v2 = some (.inl (ca 2, t.length, .inl f)) := by rw [← hC_22]; exact (pw_up_ne _ _ (by omega)).trans hs1
    have h30 : C_22 3 0 = some (.inr (1, [.ref (ad 4 0), .ref (ad 5 0), .ref (ad 6 0), .int (nI x_20.1.length), .int (nI wn), .int x_20.2.2.2, .int (-3), .ref (ad 7 0), .int sn.2.1, .int sn.2.2.1, .int sn.2.2.2])) := by rw [← hC_22]; exact pw_up_self _ _ _ _
    have hfr : ∀ x y, (x < 3 ∨ 7 < x) → C_22 x y = C x y := fun x y h => by rw [← hC_22]; exact (pw_up_ne _ _ (by omega)).trans (hfr x y h)
    have e9 : es_abort x t = es_oc x_20 (-3) := by show (fun z : ES => if z.2.1 = 0 then es_oc z (-3) else z) _ = _; rw [hx_20, hx_16, hx_12, hx_8, hx_4] at c_21 ⊢; exact if_pos c_21
    refine pw_vret hx hb hr hlocks hw ⟨rfl, ?_, hfr⟩ d_O_abort_50
    rw [e9]; exact ⟨by0, wt, h30, h40, h50, h60, h70, hlen, hby, hwn, hw0, hwt⟩
set_option maxHeartbeats 4000000 in
set_option maxRecDepth 100000 in
theorem k_O_openDescriptor {l : Launch} {D : va_G} {ca : Nat → ClassId} {kS : Nat → Nat} {kT : Nat} {ad : pw_A} {C : pw_C} {x : ES} {w0 : List Int32} {wn : Nat} {sn : SN} (hO : os_x ca ad C x w0 wn sn) {u v u2 v2 : Nat} {t : List Int32} (hT : st_at ca ad C u v u2 v2 t) (hu : u < 3 ∨ 7 < u) (hu2 : u2 < 3 ∨ 7 < u2) {k : Nat} (hk : k < 35) (i0 : Int64) (fl fd : Int32) : gc_Con l y_O_openDescriptor c_O_openDescriptor ({ frames := 5, cells := 0, slots := 0, locals := 107 }) D ca (z9_Z kS kT) [.ref (ad 3 0), .int (nI k), .ref (ad u v), .long i0, .int fl, .int fd] ad C (pw_pi (fun r ad' C' => (ad' = ad ∧ os_x ca ad C' (es_desc x k t i0 fl fd).1 w0 wn sn ∧ os_fr C C') ∧ r = (es_desc x k t i0 fl fd).2)) 0 0 := by
  have hZ := z9_ok kS kT
  have hO0 := hO
  obtain ⟨by0, wt, h30, h40, h50, h60, h70, hlen, hby, hwn, hw0, hwt⟩ := hO
  have hT0 := hT
  obtain ⟨f, g1, g2, hs0, hs1, hsf, hsn, hsc⟩ := hT
  refine pw_ofW (cc := b_O_openDescriptor) (maxL := 7) (ret := (some FieldType.boolean)) (by decide) rfl (Nat.le_of_ble_eq_true rfl) ?_
  intro p e s m args below meth c A ls hB hA hw hK hz hl
  obtain ⟨hx, hb, hr, hml, hts0, hlocks, hown, hnm⟩ := hB
  have hts := wd_hts hts0
  have hown : s.vm.findClass "GraphWriter$Out" = some m.cls := hown
  have hl : lv_has ls 7 [(0, .ref (ad 3 0)), (1, .int (nI k)), (2, .ref (ad u v)), (3, .long i0), (5, .int fl), (6, .int fd)] := hl
  have hfr : os_fr C C := fun _ _ _ => rfl
  refine lv_aload_n hx hb d_O_openDescriptor_0 rfl (lv_at hl 0 rfl) ?_
  refine lv_iload_n hx hb d_O_openDescriptor_1 rfl (lv_at hl 1 rfl) ?_
  refine pw_calli (va_runV (As := [.int (nI k)]) (rest := []) ⟨hx, hb, hml, hown, hts0⟩ (k_O_putReference hZ hO0 hk _) (cwV 1 hts0 (wd_V wd_608 wd_647 wd_606 wd_607 wd_54) rfl rfl rfl (by decide +kernel) ⟨Nat.le_of_ble_eq_true rfl, Nat.le_of_ble_eq_true rfl⟩) (pw_preV hZ hw hA hK hz rfl h30 rfl) rfl rfl hl.1 rfl (lv_room (Nat.le_of_ble_eq_true rfl)) d_O_openDescriptor_2 ⟨Nat.le_of_ble_eq_true rfl, Nat.le_of_ble_eq_true rfl⟩) hw hA (fun r_3 ad_1 C_2 H locs hp hw => ?_)
  obtain ⟨⟨hae, hO, hf1⟩, hre⟩ := hp
  rw [hae] at hw; clear hae
  have hfr : os_fr C C_2 := fun x y h => (hf1 x y h).trans (hfr x y h)
  obtain ⟨x_4, hx_4⟩ : ∃ z, z = (es_ref x k).1 := ⟨_, rfl⟩
  rw [← hx_4] at hO
  have hO0 := hO
  obtain ⟨by0, wt, h30, h40, h50, h60, h70, hlen, hby, hwn, hw0, hwt⟩ := hO
  have hT := hT0.fr hf1 hu hu2
  have hT0 := hT
  obtain ⟨f, g1, g2, hs0, hs1, hsf, hsn, hsc⟩ := hT
  refine lv_if_eq (tgt := 10) hx hb d_O_openDescriptor_5 (by decide) (fun c_5 => ?_) (fun c_5 => ?_)
  · skip
    refine lv_aload_n hx hb d_O_openDescriptor_10 rfl (lv_at hl 0 rfl) ?_
    refine lv_ldc2 (v := 114) hx hb hown (hts _ wd_648) d_O_openDescriptor_11 ?_
    refine lv_iconst (v := 1) hx hb d_O_openDescriptor_14 (by decide) ?_
    refine pw_callv (va_runV (As := [.long 114, .int 1]) (rest := []) ⟨hx, hb, hml, hown, hts0⟩ (k_O_put hO0 114 (w := 1) (by decide) _) (cwV 2 hts0 (wd_V wd_139 wd_585 wd_137 wd_138 wd_54) rfl rfl rfl (by decide +kernel) ⟨Nat.le_of_ble_eq_true rfl, Nat.le_of_ble_eq_true rfl⟩) (pw_preV hZ hw hA hK hz rfl h30 rfl) rfl rfl hl.1 rfl (lv_room (Nat.le_of_ble_eq_true rfl)) d_O_openDescriptor_15 ⟨Nat.le_of_ble_eq_true rfl, Nat.le_of_ble_eq_true rfl⟩) hw hA (fun ad_6 C_7 H locs hp hw => ?_)
    obtain ⟨hae, hO, hf1⟩ := hp
    rw [hae] at hw; clear hae
    have hfr : os_fr C C_7 := fun x y h => (hf1 x y h).trans (hfr x y h)
    obtain ⟨x_9, hx_9⟩ : ∃ z, z = es_put x_4 114 1 := ⟨_, rfl⟩
    rw [← hx_9] at hO
    have hO0 := hO
    obtain ⟨by0, wt, h30, h40, h50, h60, h70, hlen, hby, hwn, hw0, hwt⟩ := hO
    have hT := hT0.fr hf1 hu hu2
    have hT0 := hT
    obtain ⟨f, g1, g2, hs0, hs1, hsf, hsn, hsc⟩ := hT
    refine lv_aload_n hx hb d_O_openDescriptor_18 rfl (lv_at hl 0 rfl) ?_
    refine lv_aload_n hx hb d_O_openDescriptor_19 rfl (lv_at hl 2 rfl) ?_
    refine pw_callv (va_runV (As := [.ref (ad u v)]) (rest := []) ⟨hx, hb, hml, hown, hts0⟩ (k_O_putUtf hO0 hT0 hu hu2 _) (cwV 1 hts0 (wd_V wd_623 wd_620 wd_621 wd_622 wd_54) rfl rfl rfl (by decide +kernel) ⟨Nat.le_of_ble_eq_true rfl, Nat.le_of_ble_eq_true rfl⟩) (pw_preV hZ hw hA hK hz rfl h30 rfl) rfl rfl hl.1 rfl (lv_room (Nat.le_of_ble_eq_true rfl)) d_O_openDescriptor_20 ⟨Nat.le_of_ble_eq_true rfl, Nat.le_of_ble_eq_true rfl⟩) hw hA (fun ad_10 C_11 H locs hp hw => ?_)
    obtain ⟨hae, hO, hf1⟩ := hp
    rw [hae] at hw; clear hae
    have hfr : os_fr C C_11 := fun x y h => (hf1 x y h).trans (hfr x y h)
    obtain ⟨x_13, hx_13⟩ : ∃ z, z = es_utf x_9 t := ⟨_, rfl⟩
    rw [← hx_13] at hO
    have hO0 := hO
    obtain ⟨by0, wt, h30, h40, h50, h60, h70, hlen, hby, hwn, hw0, hwt⟩ := hO
    have hT := hT0.fr hf1 hu hu2
    have hT0 := hT
    obtain ⟨f, g1, g2, hs0, hs1, hsf, hsn, hsc⟩ := hT
    refine lv_aload_n hx hb d_O_openDescriptor_23 rfl (lv_at hl 0 rfl) ?_
    refine lv_lload_n hx hb d_O_openDescriptor_24 rfl (lv_at hl 3 rfl) ?_
    refine lv_bipush (v := 8) hx hb d_O_openDescriptor_25 (by decide) ?_
    refine pw_callv (va_runV (As := [.long i0, .int 8]) (rest := []) ⟨hx, hb, hml, hown, hts0⟩ (k_O_put hO0 i0 (w := 8) (by decide) _) (cwV 2 hts0 (wd_V wd_139 wd_585 wd_137 wd_138 wd_54) rfl rfl rfl (by decide +kernel) ⟨Nat.le_of_ble_eq_true rfl, Nat.le_of_ble_eq_true rfl⟩) (pw_preV hZ hw hA hK hz rfl h30 rfl) rfl rfl hl.1 rfl (lv_room (Nat.le_of_ble_eq_true rfl)) d_O_openDescriptor_27 ⟨Nat.le_of_ble_eq_true rfl, Nat.le_of_ble_eq_true rfl⟩) hw hA (fun ad_14 C_15 H locs hp hw => ?_)
    obtain ⟨hae, hO, hf1⟩ := hp
    rw [hae] at hw; clear hae
    have hfr : os_fr C C_15 := fun x y h => (hf1 x y h).trans (hfr x y h)
    obtain ⟨x_17, hx_17⟩ : ∃ z, z = es_put x_13 i0 8 := ⟨_, rfl⟩
    rw [← hx_17] at hO
    have hO0 := hO
    obtain ⟨by0, wt, h30, h40, h50, h60, h70, hlen, hby, hwn, hw0, hwt⟩ := hO
    have hT := hT0.fr hf1 hu hu2
    have hT0 := hT
    obtain ⟨f, g1, g2, hs0, hs1, hsf, hsn, hsc⟩ := hT
    refine lv_aload_n hx hb d_O_openDescriptor_30 rfl (lv_at hl 0 rfl) ?_
    refine lv_iload_n hx hb d_O_openDescriptor_31 rfl (lv_at hl 1 rfl) ?_
    refine pw_callv (va_runV (As := [.int (nI k)]) (rest := []) ⟨hx, hb, hml, hown, hts0⟩ (k_O_giveHandle hZ hO0 hk _) (cwV 1 hts0 (wd_V wd_619 wd_616 wd_617 wd_618 wd_54) rfl rfl rfl (by decide +kernel) ⟨Nat.le_of_ble_eq_true rfl, Nat.le_of_ble_eq_true rfl⟩) (pw_preV hZ hw hA hK hz rfl h30 rfl) rfl rfl hl.1 rfl (lv_room (Nat.le_of_ble_eq_true rfl)) d_O_openDescriptor_32 ⟨Nat.le_of_ble_eq_true rfl, Nat.le_of_ble_eq_true rfl⟩) hw hA (fun ad_18 C_19 H locs hp hw => ?_)
    obtain ⟨hae, hO, hf1⟩ := hp
    rw [hae] at hw; clear hae
    have hfr : os_fr C C_19 := fun x y h => (hf1 x y h).trans (hfr x y h)
    obtain ⟨x_21, hx_21⟩ : ∃ z, z = es_give x_17 k := ⟨_, rfl⟩
    rw [← hx_21] at hO
    have hO0 := hO
    obtain ⟨by0, wt, h30, h40, h50, h60, h70, hlen, hby, hwn, hw0, hwt⟩ := hO
    have hT := hT0.fr hf1 hu hu2
    have hT0 := hT
    obtain ⟨f, g1, g2, hs0, hs1, hsf, hsn, hsc⟩ := hT
    refine lv_aload_n hx hb d_O_openDescriptor_35 rfl (lv_at hl 0 rfl) ?_
    refine lv_iload hx hb d_O_openDescriptor_36 (lv_at hl 4 rfl) ?_
    refine lv_i2l hx hb d_O_openDescriptor_38 rfl ?_
    refine lv_iconst (v := 1) hx hb d_O_openDescriptor_39 (by decide) ?_
    refine pw_callv (va_runV (As := [.long fl.toInt64, .int 1]) (rest := []) ⟨hx, hb, hml, hown, hts0⟩ (k_O_put hO0 fl.toInt64 (w := 1) (by decide) _) (cwV 2 hts0 (wd_V wd_139 wd_585 wd_137 wd_138 wd_54) rfl rfl rfl (by decide +kernel) ⟨Nat.le_of_ble_eq_true rfl, Nat.le_of_ble_eq_true rfl⟩) (pw_preV hZ hw hA hK hz rfl h30 rfl) rfl rfl hl.1 rfl (lv_room (Nat.le_of_ble_eq_true rfl)) d_O_openDescriptor_40 ⟨Nat.le_of_ble_eq_true rfl, Nat.le_of_ble_eq_true rfl⟩) hw hA (fun ad_22 C_23 H locs hp hw => ?_)
    obtain ⟨hae, hO, hf1⟩ := hp
    rw [hae] at hw; clear hae
    have hfr : os_fr C C_23 := fun x y h => (hf1 x y h).trans (hfr x y h)
    obtain ⟨x_25, hx_25⟩ : ∃ z, z = es_put x_21 fl.toInt64 1 := ⟨_, rfl⟩
    rw [← hx_25] at hO
    have hO0 := hO
    obtain ⟨by0, wt, h30, h40, h50, h60, h70, hlen, hby, hwn, hw0, hwt⟩ := hO
    have hT := hT0.fr hf1 hu hu2
    have hT0 := hT
    obtain ⟨f, g1, g2, hs0, hs1, hsf, hsn, hsc⟩ := hT
    refine lv_aload_n hx hb d_O_openDescriptor_43 rfl (lv_at hl 0 rfl) ?_
    refine lv_iload hx hb d_O_openDescriptor_44 (lv_at hl 5 rfl) ?_
    refine lv_i2l hx hb d_O_openDescriptor_46 rfl ?_
    refine lv_iconst (v := 2) hx hb d_O_openDescriptor_47 (by decide) ?_
    refine pw_callv (va_runV (As := [.long fd.toInt64, .int 2]) (rest := []) ⟨hx, hb, hml, hown, hts0⟩ (k_O_put hO0 fd.toInt64 (w := 2) (by decide) _) (cwV 2 hts0 (wd_V wd_139 wd_585 wd_137 wd_138 wd_54) rfl rfl rfl (by decide +kernel) ⟨Nat.le_of_ble_eq_true rfl, Nat.le_of_ble_eq_true rfl⟩) (pw_preV hZ hw hA hK hz rfl h30 rfl) rfl rfl hl.1 rfl (lv_room (Nat.le_of_ble_eq_true rfl)) d_O_openDescriptor_48 ⟨Nat.le_of_ble_eq_true rfl, Nat.le_of_ble_eq_true rfl⟩) hw hA (fun ad_26 C_27 H locs hp hw => ?_)
    obtain ⟨hae, hO, hf1⟩ := hp
    rw [hae] at hw; clear hae
    have hfr : os_fr C C_27 := fun x y h => (hf1 x y h).trans (hfr x y h)
    obtain ⟨x_29, hx_29⟩ : ∃ z, z = es_put x_25 fd.toInt64 2 := ⟨_, rfl⟩
    rw [← hx_29] at hO
    have hO0 := hO
    obtain ⟨by0, wt, h30, h40, h50, h60, h70, hlen, hby, hwn, hw0, hwt⟩ := hO
    have hT := hT0.fr hf1 hu hu2
    have hT0 := hT
    obtain ⟨f, g1, g2, hs0, hs1, hsf, hsn, hsc⟩ := hT
    refine lv_iconst (v := 1) hx hb d_O_openDescriptor_51 (by decide) ?_
    have e9 : es_desc x k t i0 fl fd = (x_29, 1) := by rw [hx_29, hx_25, hx_21, hx_17, hx_13, hx_9, hx_4]; exact if_pos (by rw [← hre]; exact c_5)
    refine pw_zret hx hb hr hlocks hw rfl ⟨⟨rfl, ?_, hfr⟩, ?_⟩ d_O_openDescriptor_52
    · rw [e9]; exact hO0
    · rw [e9]
  · skip
    refine lv_iconst (v := 0) hx hb d_O_openDescriptor_8 (by decide) ?_
    have e9 : es_desc x k t i0 fl fd = (x_4, 0) := by rw [hx_4]; exact if_neg (by rw [← hre]; exact c_5)
    refine pw_zret hx hb hr hlocks hw rfl ⟨⟨rfl, ?_, hfr⟩, ?_⟩ d_O_openDescriptor_9
    · rw [e9]; exact hO0
    · rw [e9]
