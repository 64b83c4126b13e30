/-- a handle is given -/
def es_give (x : ES) (k : Nat) : ES := (x.1, x.2.1, upd x.2.2.1 k x.2.2.2, x.2.2.2 + 1)
/-- the reference to what has a handle; 1 if it has one -/
def es_ref (x : ES) (k : Nat) : ES × Int32 := if x.2.2.1 k = -1 then (x, 0) else (es_put (es_put x 113 1) ((8257536 + x.2.2.1 k).toInt64) 4, 1)
def es_close (x : ES) : ES := es_put (es_put x 120 1) 112 1
def es_sign (x : ES) (c : Int32) : ES := es_put (es_put x 1 2) c.toInt64 1
def es_forget (x : ES) : ES := (x.1, x.2.1, fun j => if j < 35 then -1 else x.2.2.1 j, 0)
theorem es_put_tail (x : ES) (n : Int64) (w : Nat) : (es_put x n w).2.2 = x.2.2 := by
  unfold es_put
  split
  · split <;> rfl
  · rfl
set_option maxHeartbeats 4000000 in
set_option maxRecDepth 100000 in
/-- O_giveHandle -/
theorem k_O_giveHandle {l : Launch} {D : va_G} {ca : Nat → ClassId} {Z : (Nat → Prop) → State → Prop} (hZ : pw_Zok Z) {ad : pw_A} {C : pw_C} {x : ES} {w0 : List Int32} {wn : Nat} {sn : SN} (hO : os_x ca ad C x w0 wn sn) {k : Nat} (hk : k < 35) : gc_Con l y_O_giveHandle c_O_giveHandle ({ frames := 0, cells := 0, slots := 0, locals := 0 }) D ca Z [.ref (ad 3 0), .int (nI k)] ad C (pw_pv (fun ad' C' => ad' = ad ∧ os_x ca ad C' (es_give x k) w0 wn sn ∧ os_fr C C')) 0 0 := by
  have hO0 := hO
  obtain ⟨by0, wt, h30, h40, h50, h60, h70, hlen, hby, hwn, hw0, hwt⟩ := hO
  refine pw_ofW (cc := b_O_giveHandle) (maxL := 2) (ret := none) (by decide) rfl (Nat.le_of_ble_eq_true rfl) ?_
  intro p e s m args below meth c A ls hB hA hw hK hz hl
  obtain ⟨hx, hb, hr, hml, hts0, hlocks, hown, hnm⟩ := hB
  have hts := wd_hts hts0
  have hown : s.vm.findClass "GraphWriter$Out" = some m.cls := hown
  have hl : lv_has ls 2 [(0, .ref (ad 3 0)), (1, .int (nI k))] := hl
  have hfr : os_fr C C := fun _ _ _ => rfl
  refine lv_aload_n hx hb d_O_giveHandle_0 rfl (lv_at hl 0 rfl) ?_
  refine pw_get (Cn := "GraphWriter$Out") (T := F_O) (N := 11) hx hb hts in_O hown hK hw 3 0 rfl h30 rfl 2 (by decide) (hts _ wd_89) (fun _ h9 => h9) rfl d_O_giveHandle_1 ?_
  refine lv_iload_n hx hb d_O_giveHandle_4 rfl (lv_at hl 1 rfl) ?_
  refine lv_aload_n hx hb d_O_giveHandle_5 rfl (lv_at hl 0 rfl) ?_
  refine pw_get (Cn := "GraphWriter$Out") (T := F_O) (N := 11) hx hb hts in_O hown hK hw 3 0 rfl h30 rfl 5 (by decide) (hts _ wd_95) (fun _ h9 => h9) rfl d_O_giveHandle_6 ?_
  refine pw_iast hx hb hK hw 6 0 rfl 0 h60 rfl (by decide) k rfl (by omega) (by omega) d_O_giveHandle_9 (fun H locs hw => ?_)
  have hw : pw_H D cls9 A s.heap ad C ad (pw_up C 6 0 (some (.inl (ca 0, 35, .inl (upd x.2.2.1 k x.2.2.2))))) H locs := hw
  generalize hC_1 : pw_up C 6 0 (some (.inl (ca 0, 35, .inl (upd x.2.2.1 k x.2.2.2)))) = C_1 at hw
  have h30 : C_1 3 0 = some (.inr (1, [.ref (ad 4 0), .ref (ad 5 0), .ref (ad 6 0), .int (nI x.1.length), .int (nI wn), .int x.2.2.2, .int x.2.1, .ref (ad 7 0), .int sn.2.1, .int sn.2.2.1, .int sn.2.2.2])) := by rw [← hC_1]; exact (pw_up_ne _ _ (by decide)).trans h30
  have h40 : C_1 4 0 = some (.inl (ca 2, 1400, .inl by0)) := by rw [← hC_1]; exact (pw_up_ne _ _ (by decide)).trans h40
  have h50 : C_1 5 0 = some (.inl (ca 2, 255, .inl wt)) := by rw [← hC_1]; exact (pw_up_ne _ _ (by decide)).trans h50
  have h70 : C_1 7 0 = some (.inl (ca 0, 35, .inl sn.1)) := by rw [← hC_1]; exact (pw_up_ne _ _ (by decide)).trans h70
  have h60 : C_1 6 0 = some (.inl (ca 0, 35, .inl (upd x.2.2.1 k x.2.2.2))) := by rw [← hC_1]; exact pw_up_self _ _ _ _
  have hfr : ∀ x y, (x < 3 ∨ 7 < x) → C_1 x y = C x y := fun x y h => by rw [← hC_1]; exact (pw_up_ne _ _ (by omega)).trans (hfr x y h)
  refine lv_aload_n hx hb d_O_giveHandle_10 rfl (lv_at hl 0 rfl) ?_
  refine lv_dup hx hb d_O_giveHandle_11 rfl ?_
  refine pw_get (Cn := "GraphWriter$Out") (T := F_O) (N := 11) hx hb hts in_O hown hK hw 3 0 rfl h30 rfl 5 (by decide) (hts _ wd_95) (fun _ h9 => h9) rfl d_O_giveHandle_12 ?_
  refine lv_iconst (v := 1) hx hb d_O_giveHandle_15 (by decide) ?_
  refine lv_iadd hx hb d_O_giveHandle_16 ?_
  refine pw_put (Cn := "GraphWriter$Out") (T := F_O) (N := 11) (v := .int (x.2.2.2 + 1)) (ty := .int) hx hb hts in_O ft_O to_O nm_O hown hK hw 3 0 (by decide) rfl h30 rfl 5 (by decide) (hts _ wd_95) (fun _ h9 => h9) rfl (by decide +kernel) rfl rfl (Nat.le_of_ble_eq_true rfl) d_O_giveHandle_17 (fun H locs hw => ?_)
  have hw : pw_H D cls9 A s.heap ad C ad (pw_up C_1 3 0 (some (.inr (1, [.ref (ad 4 0), .ref (ad 5 0), .ref (ad 6 0), .int (nI x.1.length), .int (nI wn), .int (x.2.2.2 + 1), .int x.2.1, .ref (ad 7 0), .int sn.2.1, .int sn.2.2.1, .int sn.2.2.2])))) H locs := hw
  generalize hC_2 : pw_up C_1 3 0 (some (.inr (1, [.ref (ad 4 0), .ref (ad 5 0), .ref (ad 6 0), .int (nI x.1.length), .int (nI wn), .int (x.2.2.2 + 1), .int x.2.1, .ref (ad 7 0), .int sn.2.1, .int sn.2.2.1, .int sn.2.2.2]))) = C_2 at hw
  have h40 : C_2 4 0 = some (.inl (ca 2, 1400, .inl by0)) := by rw [← hC_2]; exact (pw_up_ne _ _ (by decide)).trans h40
  have h50 : C_2 5 0 = some (.inl (ca 2, 255, .inl wt)) := by rw [← hC_2]; exact (pw_up_ne _ _ (by decide)).trans h50
  have h60 : C_2 6 0 = some (.inl (ca 0, 35, .inl (upd x.2.2.1 k x.2.2.2))) := by rw [← hC_2]; exact (pw_up_ne _ _ (by decide)).trans h60
  have h70 : C_2 7 0 = some (.inl (ca 0, 35, .inl sn.1)) := by rw [← hC_2]; exact (pw_up_ne _ _ (by decide)).trans h70
  have h30 : C_2 3 0 = some (.inr (1, [.ref (ad 4 0), .ref (ad 5 0), .ref (ad 6 0), .int (nI x.1.length), .int (nI wn), .int (x.2.2.2 + 1), .int x.2.1, .ref (ad 7 0), .int sn.2.1, .int sn.2.2.1, .int sn.2.2.2])) := by rw [← hC_2]; exact pw_up_self _ _ _ _
  have hfr : ∀ x y, (x < 3 ∨ 7 < x) → C_2 x y = C x y := fun x y h => by rw [← hC_2]; exact (pw_up_ne _ _ (by omega)).trans (hfr x y h)
  exact pw_vret hx hb hr hlocks hw ⟨rfl, ⟨by0, wt, h30, h40, h50, h60, h70, hlen, hby, hwn, hw0, hwt⟩, hfr⟩ d_O_giveHandle_20
set_option maxHeartbeats 4000000 in
set_option maxRecDepth 100000 in
/-- O_closeTopDescriptor -/
theorem k_O_closeTopDescriptor {l : Launch} {D : va_G} {ca : Nat → ClassId} {Z : (Nat → Prop) → State → Prop} (hZ : pw_Zok Z) {ad : pw_A} {C : pw_C} {x : ES} {w0 : List Int32} {wn : Nat} {sn : SN} (hO : os_x ca ad C x w0 wn sn) : gc_Con l y_O_closeTopDescriptor c_O_closeTopDescriptor ({ frames := 1, cells := 0, slots := 0, locals := 24 }) D ca Z [.ref (ad 3 0)] ad C (pw_pv (fun ad' C' => ad' = ad ∧ os_x ca ad C' (es_close x) w0 wn sn ∧ os_fr C C')) 0 0 := by
  have hO0 := hO
  obtain ⟨by0, wt, h30, h40, h50, h60, h70, hlen, hby, hwn, hw0, hwt⟩ := hO
  refine pw_ofW (cc := b_O_closeTopDescriptor) (maxL := 1) (ret := none) (by decide) rfl (Nat.le_of_ble_eq_true rfl) ?_
  intro p e s m args below meth c A ls hB hA hw hK hz hl
  obtain ⟨hx, hb, hr, hml, hts0, hlocks, hown, hnm⟩ := hB
  have hts := wd_hts hts0
  have hown : s.vm.findClass "GraphWriter$Out" = some m.cls := hown
  have hl : lv_has ls 1 [(0, .ref (ad 3 0))] := hl
  have hfr : os_fr C C := fun _ _ _ => rfl
  refine lv_aload_n hx hb d_O_closeTopDescriptor_0 rfl (lv_at hl 0 rfl) ?_
  refine lv_ldc2 (v := 120) hx hb hown (hts _ wd_653) d_O_closeTopDescriptor_1 ?_
  refine lv_iconst (v := 1) hx hb d_O_closeTopDescriptor_4 (by decide) ?_
  refine pw_callv (va_runV (As := [.long 120, .int 1]) (rest := []) ⟨hx, hb, hml, hown, hts0⟩ (k_O_put hO0 120 (w := 1) (by decide) _) (cwV 2 hts0 (wd_V wd_139 wd_585 wd_137 wd_138 wd_54) rfl rfl rfl (by decide +kernel) ⟨Nat.le_of_ble_eq_true rfl, Nat.le_of_ble_eq_true rfl⟩) (pw_preV hZ hw hA hK hz rfl h30 rfl) rfl rfl hl.1 rfl (lv_room (Nat.le_of_ble_eq_true rfl)) d_O_closeTopDescriptor_5 ⟨Nat.le_of_ble_eq_true rfl, Nat.le_of_ble_eq_true rfl⟩) hw hA (fun ad_1 C_2 H locs hp hw => ?_)
  obtain ⟨hae, hO, hf1⟩ := hp
  rw [hae] at hw; clear hae
  have hfr : os_fr C C_2 := fun x y h => (hf1 x y h).trans (hfr x y h)
  obtain ⟨x_4, hx_4⟩ : ∃ z, z = es_put x 120 1 := ⟨_, rfl⟩
  rw [← hx_4] at hO
  have hO0 := hO
  obtain ⟨by0, wt, h30, h40, h50, h60, h70, hlen, hby, hwn, hw0, hwt⟩ := hO
  refine lv_aload_n hx hb d_O_closeTopDescriptor_8 rfl (lv_at hl 0 rfl) ?_
  refine lv_ldc2 (v := 112) hx hb hown (hts _ wd_654) d_O_closeTopDescriptor_9 ?_
  refine lv_iconst (v := 1) hx hb d_O_closeTopDescriptor_12 (by decide) ?_
  refine pw_callv (va_runV (As := [.long 112, .int 1]) (rest := []) ⟨hx, hb, hml, hown, hts0⟩ (k_O_put hO0 112 (w := 1) (by decide) _) (cwV 2 hts0 (wd_V wd_139 wd_585 wd_137 wd_138 wd_54) rfl rfl rfl (by decide +kernel) ⟨Nat.le_of_ble_eq_true rfl, Nat.le_of_ble_eq_true rfl⟩) (pw_preV hZ hw hA hK hz rfl h30 rfl) rfl rfl hl.1 rfl (lv_room (Nat.le_of_ble_eq_true rfl)) d_O_closeTopDescriptor_13 ⟨Nat.le_of_ble_eq_true rfl, Nat.le_of_ble_eq_true rfl⟩) hw hA (fun ad_5 C_6 H locs hp hw => ?_)
  obtain ⟨hae, hO, hf1⟩ := hp
  rw [hae] at hw; clear hae
  have hfr : os_fr C C_6 := fun x y h => (hf1 x y h).trans (hfr x y h)
  obtain ⟨x_8, hx_8⟩ : ∃ z, z = es_put x_4 112 1 := ⟨_, rfl⟩
  rw [← hx_8] at hO
  have hO0 := hO
  obtain ⟨by0, wt, h30, h40, h50, h60, h70, hlen, hby, hwn, hw0, hwt⟩ := hO
  have e9 : es_close x = x_8 := by rw [hx_8, hx_4]; rfl
  refine pw_vret hx hb hr hlocks hw ⟨rfl, ?_, hfr⟩ d_O_closeTopDescriptor_16
  rw [e9]; exact hO0
set_option maxHeartbeats 4000000 in
set_option maxRecDepth 100000 in
/-- O_putSign -/
theorem k_O_putSign {l : Launch} {D : va_G} {ca : Nat → ClassId} {Z : (Nat → Prop) → State → Prop} (hZ : pw_Zok Z) {ad : pw_A} {C : pw_C} {x : ES} {w0 : List Int32} {wn : Nat} {sn : SN} (hO : os_x ca ad C x w0 wn sn) {c0 : Int32} : gc_Con l y_O_putSign c_O_putSign ({ frames := 1, cells := 0, slots := 0, locals := 24 }) D ca Z [.ref (ad 3 0), .int c0] ad C (pw_pv (fun ad' C' => ad' = ad ∧ os_x ca ad C' (es_sign x c0) w0 wn sn ∧ os_fr C C')) 0 0 := by
  have hO0 := hO
  obtain ⟨by0, wt, h30, h40, h50, h60, h70, hlen, hby, hwn, hw0, hwt⟩ := hO
  refine pw_ofW (cc := b_O_putSign) (maxL := 2) (ret := none) (by decide) rfl (Nat.le_of_ble_eq_true rfl) ?_
  intro p e s m args below meth c A ls hB hA hw hK hz hl
  obtain ⟨hx, hb, hr, hml, hts0, hlocks, hown, hnm⟩ := hB
  have hts := wd_hts hts0
  have hown : s.vm.findClass "GraphWriter$Out" = some m.cls := hown
  have hl : lv_has ls 2 [(0, .ref (ad 3 0)), (1, .int c0)] := hl
  have hfr : os_fr C C := fun _ _ _ => rfl
  refine lv_aload_n hx hb d_O_putSign_0 rfl (lv_at hl 0 rfl) ?_
  refine lv_lconst (v := 1) hx hb d_O_putSign_1 (by decide) ?_
  refine lv_iconst (v := 2) hx hb d_O_putSign_2 (by decide) ?_
  refine pw_callv (va_runV (As := [.long 1, .int 2]) (rest := []) ⟨hx, hb, hml, hown, hts0⟩ (k_O_put hO0 1 (w := 2) (by decide) _) (cwV 2 hts0 (wd_V wd_139 wd_585 wd_137 wd_138 wd_54) rfl rfl rfl (by decide +kernel) ⟨Nat.le_of_ble_eq_true rfl, Nat.le_of_ble_eq_true rfl⟩) (pw_preV hZ hw hA hK hz rfl h30 rfl) rfl rfl hl.1 rfl (lv_room (Nat.le_of_ble_eq_true rfl)) d_O_putSign_3 ⟨Nat.le_of_ble_eq_true rfl, Nat.le_of_ble_eq_true rfl⟩) hw hA (fun ad_1 C_2 H locs hp hw => ?_)
  obtain ⟨hae, hO, hf1⟩ := hp
  rw [hae] at hw; clear hae
  have hfr : os_fr C C_2 := fun x y h => (hf1 x y h).trans (hfr x y h)
  obtain ⟨x_4, hx_4⟩ : ∃ z, z = es_put x 1 2 := ⟨_, rfl⟩
  rw [← hx_4] at hO
  have hO0 := hO
  obtain ⟨by0, wt, h30, h40, h50, h60, h70, hlen, hby, hwn, hw0, hwt⟩ := hO
  refine lv_aload_n hx hb d_O_putSign_6 rfl (lv_at hl 0 rfl) ?_
  refine lv_iload_n hx hb d_O_putSign_7 rfl (lv_at hl 1 rfl) ?_
  refine lv_i2l hx hb d_O_putSign_8 rfl ?_
  refine lv_iconst (v := 1) hx hb d_O_putSign_9 (by decide) ?_
  refine pw_callv (va_runV (As := [.long c0.toInt64, .int 1]) (rest := []) ⟨hx, hb, hml, hown, hts0⟩ (k_O_put hO0 c0.toInt64 (w := 1) (by decide) _) (cwV 2 hts0 (wd_V wd_139 wd_585 wd_137 wd_138 wd_54) rfl rfl rfl (by decide +kernel) ⟨Nat.le_of_ble_eq_true rfl, Nat.le_of_ble_eq_true rfl⟩) (pw_preV hZ hw hA hK hz rfl h30 rfl) rfl rfl hl.1 rfl (lv_room (Nat.le_of_ble_eq_true rfl)) d_O_putSign_10 ⟨Nat.le_of_ble_eq_true rfl, Nat.le_of_ble_eq_true rfl⟩) hw hA (fun ad_5 C_6 H locs hp hw => ?_)
  obtain ⟨hae, hO, hf1⟩ := hp
  rw [hae] at hw; clear hae
  have hfr : os_fr C C_6 := fun x y h => (hf1 x y h).trans (hfr x y h)
  obtain ⟨x_8, hx_8⟩ : ∃ z, z = es_put x_4 c0.toInt64 1 := ⟨_, rfl⟩
  rw [← hx_8] at hO
  have hO0 := hO
  obtain ⟨by0, wt, h30, h40, h50, h60, h70, hlen, hby, hwn, hw0, hwt⟩ := hO
  have e9 : es_sign x c0 = x_8 := by rw [hx_8, hx_4]; rfl
  refine pw_vret hx hb hr hlocks hw ⟨rfl, ?_, hfr⟩ d_O_putSign_13
  rw [e9]; exact hO0
set_option maxHeartbeats 4000000 in
set_option maxRecDepth 100000 in
/-- O_putReference -/
theorem k_O_putReference {l : Launch} {D : va_G} {ca : Nat → ClassId} {Z : (Nat → Prop) → State → Prop} (hZ : pw_Zok Z) {ad : pw_A} {C : pw_C} {x : ES} {w0 : List Int32} {wn : Nat} {sn : SN} (hO : os_x ca ad C x w0 wn sn) {k : Nat} (hk : k < 35) : gc_Con l y_O_putReference c_O_putReference ({ frames := 1, cells := 0, slots := 0, locals := 24 }) D ca Z [.ref (ad 3 0), .int (nI k)] ad C (pw_pi (fun r ad' C' => (ad' = ad ∧ os_x ca ad C' (es_ref x k).1 w0 wn sn ∧ os_fr C C') ∧ r = (es_ref x k).2)) 0 0 := by
  have hO0 := hO
  obtain ⟨by0, wt, h30, h40, h50, h60, h70, hlen, hby, hwn, hw0, hwt⟩ := hO
  refine pw_ofW (cc := b_O_putReference) (maxL := 2) (ret := (some FieldType.boolean)) (by decide) rfl (Nat.le_of_ble_eq_true rfl) ?_
  intro p e s m args below meth c A ls hB hA hw hK hz hl
  obtain ⟨hx, hb, hr, hml, hts0, hlocks, hown, hnm⟩ := hB
  have hts := wd_hts hts0
  have hown : s.vm.findClass "GraphWriter$Out" = some m.cls := hown
  have hl : lv_has ls 2 [(0, .ref (ad 3 0)), (1, .int (nI k))] := hl
  have hfr : os_fr C C := fun _ _ _ => rfl
  refine lv_aload_n hx hb d_O_putReference_0 rfl (lv_at hl 0 rfl) ?_
  refine pw_get (Cn := "GraphWriter$Out") (T := F_O) (N := 11) hx hb hts in_O hown hK hw 3 0 rfl h30 rfl 2 (by decide) (hts _ wd_89) (fun _ h9 => h9) rfl d_O_putReference_1 ?_
  refine lv_iload_n hx hb d_O_putReference_4 rfl (lv_at hl 1 rfl) ?_
  refine pw_iald hx hb hK hw 6 0 rfl 0 h60 rfl k rfl (by omega) (by omega) d_O_putReference_5 ?_
  refine lv_iconst (v := (-1)) hx hb d_O_putReference_6 (by decide) ?_
  refine lv_icmp_ne (tgt := 12) hx hb d_O_putReference_7 (by decide) (fun c_1 => ?_) (fun c_1 => ?_)
  · skip
    refine lv_aload_n hx hb d_O_putReference_12 rfl (lv_at hl 0 rfl) ?_
    refine lv_ldc2 (v := 113) hx hb hown (hts _ wd_609) d_O_putReference_13 ?_
    refine lv_iconst (v := 1) hx hb d_O_putReference_16 (by decide) ?_
    refine pw_callv (va_runV (As := [.long 113, .int 1]) (rest := []) ⟨hx, hb, hml, hown, hts0⟩ (k_O_put hO0 113 (w := 1) (by decide) _) (cwV 2 hts0 (wd_V wd_139 wd_585 wd_137 wd_138 wd_54) rfl rfl rfl (by decide +kernel) ⟨Nat.le_of_ble_eq_true rfl, Nat.le_of_ble_eq_true rfl⟩) (pw_preV hZ hw hA hK hz rfl h30 rfl) rfl rfl hl.1 rfl (lv_room (Nat.le_of_ble_eq_true rfl)) d_O_putReference_17 ⟨Nat.le_of_ble_eq_true rfl, Nat.le_of_ble_eq_true rfl⟩) hw hA (fun ad_2 C_3 H locs hp hw => ?_)
    obtain ⟨hae, hO, hf1⟩ := hp
    rw [hae] at hw; clear hae
    have hfr : os_fr C C_3 := fun x y h => (hf1 x y h).trans (hfr x y h)
    obtain ⟨x_5, hx_5⟩ : ∃ z, z = es_put x 113 1 := ⟨_, rfl⟩
    rw [← hx_5] at hO
    have hO0 := hO
    obtain ⟨by0, wt, h30, h40, h50, h60, h70, hlen, hby, hwn, hw0, hwt⟩ := hO
    refine lv_aload_n hx hb d_O_putReference_20 rfl (lv_at hl 0 rfl) ?_
    refine lv_ldc (v := 8257536) hx hb hown (hts _ wd_610) d_O_putReference_21 ?_
    refine lv_aload_n hx hb d_O_putReference_23 rfl (lv_at hl 0 rfl) ?_
    refine pw_get (Cn := "GraphWriter$Out") (T := F_O) (N := 11) hx hb hts in_O hown hK hw 3 0 rfl h30 rfl 2 (by decide) (hts _ wd_89) (fun _ h9 => h9) rfl d_O_putReference_24 ?_
    refine lv_iload_n hx hb d_O_putReference_27 rfl (lv_at hl 1 rfl) ?_
    refine pw_iald hx hb hK hw 6 0 rfl 0 h60 rfl k rfl (by omega) (by omega) d_O_putReference_28 ?_
    refine lv_iadd hx hb d_O_putReference_29 ?_
    refine lv_i2l hx hb d_O_putReference_30 rfl ?_
    refine lv_iconst (v := 4) hx hb d_O_putReference_31 (by decide) ?_
    refine pw_callv (va_runV (As := [.long ((8257536 + (x_5.2.2.1 k)).toInt64), .int 4]) (rest := []) ⟨hx, hb, hml, hown, hts0⟩ (k_O_put hO0 ((8257536 + (x_5.2.2.1 k)).toInt64) (w := 4) (by decide) _) (cwV 2 hts0 (wd_V wd_139 wd_585 wd_137 wd_138 wd_54) rfl rfl rfl (by decide +kernel) ⟨Nat.le_of_ble_eq_true rfl, Nat.le_of_ble_eq_true rfl⟩) (pw_preV hZ hw hA hK hz rfl h30 rfl) rfl rfl hl.1 rfl (lv_room (Nat.le_of_ble_eq_true rfl)) d_O_putReference_32 ⟨Nat.le_of_ble_eq_true rfl, Nat.le_of_ble_eq_true rfl⟩) hw hA (fun ad_6 C_7 H locs hp hw => ?_)
    obtain ⟨hae, hO, hf1⟩ := hp
    rw [hae] at hw; clear hae
    have hfr : os_fr C C_7 := fun x y h => (hf1 x y h).trans (hfr x y h)
    obtain ⟨x_9, hx_9⟩ : ∃ z, z = es_put x_5 ((8257536 + (x_5.2.2.1 k)).toInt64) 4 := ⟨_, rfl⟩
    rw [← hx_9] at hO
    have hO0 := hO
    obtain ⟨by0, wt, h30, h40, h50, h60, h70, hlen, hby, hwn, hw0, hwt⟩ := hO
    refine lv_iconst (v := 1) hx hb d_O_putReference_35 (by decide) ?_
    have e8 : x_5.2.2 = x.2.2 := by rw [hx_5]; exact es_put_tail _ _ _
    have e9 : es_ref x k = (x_9, 1) := by rw [hx_9, e8, hx_5]; exact if_neg (by assumption)
    refine pw_zret hx hb hr hlocks hw rfl ⟨⟨rfl, ?_, hfr⟩, ?_⟩ d_O_putReference_36
    · rw [e9]; exact hO0
    · rw [e9]
  · skip
    refine lv_iconst (v := 0) hx hb d_O_putReference_10 (by decide) ?_
    have e9 : es_ref x k = (x, 0) := if_pos (by assumption)
    refine pw_zret hx hb hr hlocks hw rfl ⟨⟨rfl, ?_, hfr⟩, ?_⟩ d_O_putReference_11
    · rw [e9]; exact hO0
    · rw [e9]
