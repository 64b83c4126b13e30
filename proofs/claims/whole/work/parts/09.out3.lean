theorem pw_up_up {α : Type} (f : Nat → Nat → α) (x y : Nat) (v w : α) : pw_up (pw_up f x y v) x y w = pw_up f x y w := by
  funext a b
  by_cases h : a = x ∧ b = y
  · simp [pw_up, h]
  · simp [pw_up, h]
def es_snap (x : ES) (wn : Nat) (sn : SN) : SN := (va_cpy x.2.2.1 sn.1 0 0 35, nI x.1.length, nI wn, x.2.2.2)
def es_back (x : ES) (l0 : Nat) (sn : SN) : ES := (x.1.take l0, x.2.1, va_cpy sn.1 x.2.2.1 0 0 35, sn.2.2.2)
def es_oc (x : ES) (oc : Int32) : ES := (x.1, oc, x.2.2)
def es_flush (x : ES) (q : List Int32) : ES := if q = [] then x else q.foldl (fun x b => es_put x b.toInt64 1) (es_put (es_put x 119 1) (nI q.length).toInt64 1)
def es_wait (n : Int64) (w : Nat) : Nat → ES → List Int32 → ES × List Int32
  | 0, x, q => (x, q)
  | r + 1, x, q => if (q ++ [es_by n w (w - 1 - r)]).length = 255 then es_wait n w r (es_flush x (q ++ [es_by n w (w - 1 - r)])) [] else es_wait n w r x (q ++ [es_by n w (w - 1 - r)])
theorem os_cut {ca : Nat → ClassId} {ad : pw_A} {C : pw_C} {x : ES} {w0 : List Int32} {wn : Nat} {sn : SN} (h : os_x ca ad C x w0 wn sn) : os_x ca ad C x (w0.take wn) wn sn := by
  obtain ⟨by0, wt, h30, h40, h50, h60, h70, hlen, hby, hwn, hw0, hwt⟩ := h
  refine ⟨by0, wt, h30, h40, h50, h60, h70, hlen, hby, ?_, ?_, fun i hi => ?_⟩
  · rw [List.length_take]; omega
  · rw [List.length_take]; omega
  · rw [List.length_take] at hi
    rw [hwt i (by omega)]
    simp [List.getD, List.getElem?_take, show i < wn by omega]
set_option maxHeartbeats 4000000 in
set_option maxRecDepth 100000 in
theorem k_JR_fill {l : Launch} {D : va_G} {ca : Nat → ClassId} {Z : (Nat → Prop) → State → Prop} {ad : pw_A} {C : pw_C} {x y n : Nat} {f : Nat → Int32} (hx5 : x < 50) (he : C x y = some (.inl (ca 0, n, .inl f))) (hn : n < 2 ^ 31) (v : Int32) : gc_Con l y_JR_fill c_JR_fill ({ frames := 0, cells := 0, slots := 0, locals := 0 }) D ca Z [.ref (ad x y), .int v] ad C (pw_pv (fun ad' C' => ad' = ad ∧ C' = pw_up C x y (some (.inl (ca 0, n, .inl (fun j => if j < n then v else f j)))))) 0 0 := by
  refine pw_ofW (cc := b_JR_fill) (maxL := 4) (ret := none) (by decide) rfl (Nat.le_of_ble_eq_true rfl) ?_
  intro p e s m args below meth c A ls hB hA hw hK hz hl
  obtain ⟨hx, hb, hr, hml, hts0, hlocks, hown, hnm⟩ := hB
  have hts := wd_hts hts0
  have hown : s.vm.findClass "java/util/Arrays" = some m.cls := hown
  have hl : lv_has ls 4 [(0, .ref (ad x y)), (1, .int v)] := hl
  have key : ∀ (r j : Nat), j + r = n → ∀ (C1 : pw_C) (H : Heap) (locs : List Loc) (ls : Array Slot), C1 = pw_up C x y (some (.inl (ca 0, n, .inl (fun i => if i < j then v else f i)))) → pw_H D cls9 A s.heap ad C ad C1 H locs → lv_has ls 4 [(3, .int (nI n)), (2, .int (nI j)), (0, .ref (ad x y)), (1, .int v)] → W p l e ({ frames := 0, cells := 0, slots := 0, locals := 0 }) s m args below meth c H locs 0 0 (MQ below (pw_Q D cls9 ad C (pw_pv (fun ad' C' => ad' = ad ∧ C' = pw_up C x y (some (.inl (ca 0, n, .inl (fun j => if j < n then v else f j)))))) A) args s 0 0 A) (F0 m 5 ls []) := by
    intro r
    induction r with
    | zero =>
      intro j hj C1 H locs ls hC1 hw hl
      have he : C1 x y = some (.inl (ca 0, n, .inl (fun i => if i < j then v else f i))) := by rw [hC1]; exact pw_up_self _ _ _ _
      refine lv_iload_n hx hb d_JR_fill_5 rfl (lv_at hl 1 rfl) ?_
      refine lv_iload_n hx hb d_JR_fill_6 rfl (lv_at hl 0 rfl) ?_
      refine lv_icmp_ge (tgt := 20) hx hb d_JR_fill_7 (by decide) (fun c_1 => ?_) (fun c_1 => ?_)
      · skip
        have hjn : j = n := by omega
        subst hjn
        exact pw_vret hx hb hr hlocks hw ⟨rfl, hC1⟩ d_JR_fill_20
      · exact absurd (nI_le (by omega) (by omega)) c_1
    | succ r ih =>
      intro j hj C1 H locs ls hC1 hw hl
      have he : C1 x y = some (.inl (ca 0, n, .inl (fun i => if i < j then v else f i))) := by rw [hC1]; exact pw_up_self _ _ _ _
      refine lv_iload_n hx hb d_JR_fill_5 rfl (lv_at hl 1 rfl) ?_
      refine lv_iload_n hx hb d_JR_fill_6 rfl (lv_at hl 0 rfl) ?_
      refine lv_icmp_ge (tgt := 20) hx hb d_JR_fill_7 (by decide) (fun c_2 => ?_) (fun c_2 => ?_)
      · exact absurd c_2 (nI_ge (by omega) (by omega))
      · skip
        refine lv_aload_n hx hb d_JR_fill_10 rfl (lv_at hl 2 rfl) ?_
        refine lv_iload_n hx hb d_JR_fill_11 rfl (lv_at hl 1 rfl) ?_
        refine lv_iload_n hx hb d_JR_fill_12 rfl (lv_at hl 3 rfl) ?_
        refine pw_iast hx hb hK hw x y rfl 0 he rfl (by omega) j rfl (by omega) (by omega) d_JR_fill_13 (fun H locs hw => ?_)
        have hw : pw_H D cls9 A s.heap ad C ad (pw_up C1 x y (some (.inl (ca 0, n, .inl (upd (fun i => if i < j then v else f i) j v))))) H locs := hw
        generalize hC_3 : pw_up C1 x y (some (.inl (ca 0, n, .inl (upd (fun i => if i < j then v else f i) j v)))) = C_3 at hw
        have he : C_3 x y = some (.inl (ca 0, n, .inl (upd (fun i => if i < j then v else f i) j v))) := by rw [← hC_3]; exact pw_up_self _ _ _ _
        refine lv_iinc (v := (nI j) + 1) (lv' := [(2, .int ((nI j) + 1)), (3, .int (nI n)), (0, .ref (ad x y)), (1, .int v)]) hx hb d_JR_fill_14 hl (k := 1) rfl rfl (by decide) rfl (fun ls hl => ?_)
        refine lv_goto (tgt := 5) hx hb d_JR_fill_17 (by decide) ?_
        rw [nI_1] at hl
        refine ih (j + 1) (by omega) _ _ _ _ ?_ hw (lv_sub hl [1, 0, 2, 3] rfl)
        rw [← hC_3, hC1, pw_up_up]
        congr 6
        funext i
        simp only [upd]
        by_cases h1 : i = j
        · subst h1; simp
        · by_cases h2 : i < j
          · simp [h1, h2, show i < j + 1 by omega]
          · simp [h1, h2, show ¬ i < j + 1 by omega]
  refine lv_iconst (v := 0) hx hb d_JR_fill_0 (by decide) ?_
  refine lv_istore_n (lv' := [(2, .int 0), (0, .ref (ad x y)), (1, .int v)]) hx hb d_JR_fill_1 rfl hl (by decide) rfl (fun ls hl => ?_)
  refine lv_aload_n hx hb d_JR_fill_2 rfl (lv_at hl 1 rfl) ?_
  refine pw_alen hx hb hK hw x y rfl 0 he rfl d_JR_fill_3 ?_
  refine lv_istore_n (lv' := [(3, .int (nI n)), (2, .int 0), (0, .ref (ad x y)), (1, .int v)]) hx hb d_JR_fill_4 rfl hl (by decide) rfl (fun ls hl => ?_)
  refine key n 0 (by omega) C _ _ _ ?_ hw (lv_sub hl [0, 1, 2, 3] rfl)
  funext a b
  by_cases h : a = x ∧ b = y
  · obtain ⟨rfl, rfl⟩ := h; rw [pw_up_self, he]; simp
  · rw [pw_up_ne _ _ h]
set_option maxHeartbeats 4000000 in
set_option maxRecDepth 100000 in
/-- O_forgetHandles -/
theorem k_O_forgetHandles {l : Launch} {D : va_G} {ca : Nat → ClassId} {Z : (Nat → Prop) → State → Prop} (hZ : pw_Zok Z) {ad : pw_A} {C : pw_C} {x : ES} {w0 : List Int32} {wn : Nat} {sn : SN} (hO : os_x ca ad C x w0 wn sn) : gc_Con l y_O_forgetHandles c_O_forgetHandles ({ frames := 1, cells := 0, slots := 0, locals := 23 }) D ca Z [.ref (ad 3 0)] ad C (pw_pv (fun ad' C' => ad' = ad ∧ os_x ca ad C' (es_forget x) w0 wn sn ∧ os_fr C C')) 0 0 := by
  have hO0 := hO
  obtain ⟨by0, wt, h30, h40, h50, h60, h70, hlen, hby, hwn, hw0, hwt⟩ := hO
  refine pw_ofW (cc := b_O_forgetHandles) (maxL := 1) (ret := none) (by decide) rfl (Nat.le_of_ble_eq_true rfl) ?_
  intro p e s m args below meth c A ls hB hA hw hK hz hl
  obtain ⟨hx, hb, hr, hml, hts0, hlocks, hown, hnm⟩ := hB
  have hts := wd_hts hts0
  have hown : s.vm.findClass "GraphWriter$Out" = some m.cls := hown
  have hl : lv_has ls 1 [(0, .ref (ad 3 0))] := hl
  have hfr : os_fr C C := fun _ _ _ => rfl
  refine lv_aload_n hx hb d_O_forgetHandles_0 rfl (lv_at hl 0 rfl) ?_
  refine pw_get (Cn := "GraphWriter$Out") (T := F_O) (N := 11) hx hb hts in_O hown hK hw 3 0 rfl h30 rfl 2 (by decide) (hts _ wd_89) (fun _ h9 => h9) rfl d_O_forgetHandles_1 ?_
  refine lv_iconst (v := (-1)) hx hb d_O_forgetHandles_4 (by decide) ?_
  refine pw_callv (va_runS (As := [.ref (ad 6 0), .int (-1)]) (rest := []) ⟨hx, hb, hml, hown, hts0⟩ (k_JR_fill (by decide) h60 (by decide) (-1) _) (va_cwS 2 hts0 (wd_S wd_134 wd_132 wd_133 wd_55) rfl rfl rfl (by decide +kernel) ⟨Nat.le_of_ble_eq_true rfl, Nat.le_of_ble_eq_true rfl⟩) (pw_preS hZ hw hA hK hz) rfl rfl hl.1 rfl (lv_room (Nat.le_of_ble_eq_true rfl)) d_O_forgetHandles_5 ⟨Nat.le_of_ble_eq_true rfl, Nat.le_of_ble_eq_true rfl⟩) hw hA (fun ad_1 C_2 H locs hp hw => ?_)
  obtain ⟨hae, hC1⟩ := hp
  rw [hae] at hw; clear hae
  have h30 : C_2 3 0 = some (.inr (1, [.ref (ad 4 0), .ref (ad 5 0), .ref (ad 6 0), .int (nI x.1.length), .int (nI wn), .int x.2.2.2, .int x.2.1, .ref (ad 7 0), .int sn.2.1, .int sn.2.2.1, .int sn.2.2.2])) := by rw [hC1]; exact (pw_up_ne _ _ (by decide)).trans h30
  have h40 : C_2 4 0 = some (.inl (ca 2, 1400, .inl by0)) := by rw [hC1]; exact (pw_up_ne _ _ (by decide)).trans h40
  have h50 : C_2 5 0 = some (.inl (ca 2, 255, .inl wt)) := by rw [hC1]; exact (pw_up_ne _ _ (by decide)).trans h50
  have h70 : C_2 7 0 = some (.inl (ca 0, 35, .inl sn.1)) := by rw [hC1]; exact (pw_up_ne _ _ (by decide)).trans h70
  have h60 : C_2 6 0 = some (.inl (ca 0, 35, .inl (fun j => if j < 35 then -1 else x.2.2.1 j))) := by rw [hC1]; exact pw_up_self _ _ _ _
  have hfr : os_fr C C_2 := fun x y h => by rw [hC1]; exact (pw_up_ne _ _ (by omega)).trans (hfr x y h)
  refine lv_aload_n hx hb d_O_forgetHandles_8 rfl (lv_at hl 0 rfl) ?_
  refine lv_iconst (v := 0) hx hb d_O_forgetHandles_9 (by decide) ?_
  refine pw_put (Cn := "GraphWriter$Out") (T := F_O) (N := 11) (v := .int 0) (ty := .int) hx hb hts in_O ft_O to_O nm_O hown hK hw 3 0 (by decide) rfl h30 rfl 5 (by decide) (hts _ wd_95) (fun _ h9 => h9) rfl (by decide +kernel) rfl rfl (Nat.le_of_ble_eq_true rfl) d_O_forgetHandles_10 (fun H locs hw => ?_)
  have hw : pw_H D cls9 A s.heap ad C ad (pw_up C_2 3 0 (some (.inr (1, [.ref (ad 4 0), .ref (ad 5 0), .ref (ad 6 0), .int (nI x.1.length), .int (nI wn), .int 0, .int x.2.1, .ref (ad 7 0), .int sn.2.1, .int sn.2.2.1, .int sn.2.2.2])))) H locs := hw
  generalize hC_4 : pw_up C_2 3 0 (some (.inr (1, [.ref (ad 4 0), .ref (ad 5 0), .ref (ad 6 0), .int (nI x.1.length), .int (nI wn), .int 0, .int x.2.1, .ref (ad 7 0), .int sn.2.1, .int sn.2.2.1, .int sn.2.2.2]))) = C_4 at hw
  have h40 : C_4 4 0 = some (.inl (ca 2, 1400, .inl by0)) := by rw [← hC_4]; exact (pw_up_ne _ _ (by decide)).trans h40
  have h50 : C_4 5 0 = some (.inl (ca 2, 255, .inl wt)) := by rw [← hC_4]; exact (pw_up_ne _ _ (by decide)).trans h50
  have h60 : C_4 6 0 = some (.inl (ca 0, 35, .inl (fun j => if j < 35 then -1 else x.2.2.1 j))) := by rw [← hC_4]; exact (pw_up_ne _ _ (by decide)).trans h60
  have h70 : C_4 7 0 = some (.inl (ca 0, 35, .inl sn.1)) := by rw [← hC_4]; exact (pw_up_ne _ _ (by decide)).trans h70
  have h30 : C_4 3 0 = some (.inr (1, [.ref (ad 4 0), .ref (ad 5 0), .ref (ad 6 0), .int (nI x.1.length), .int (nI wn), .int 0, .int x.2.1, .ref (ad 7 0), .int sn.2.1, .int sn.2.2.1, .int sn.2.2.2])) := by rw [← hC_4]; exact pw_up_self _ _ _ _
  have hfr : ∀ x y, (x < 3 ∨ 7 < x) → C_4 x y = C x y := fun x y h => by rw [← hC_4]; exact (pw_up_ne _ _ (by omega)).trans (hfr x y h)
  exact pw_vret hx hb hr hlocks hw ⟨rfl, ⟨by0, wt, h30, h40, h50, h60, h70, hlen, hby, hwn, hw0, hwt⟩, hfr⟩ d_O_forgetHandles_13
set_option maxHeartbeats 4000000 in
set_option maxRecDepth 100000 in
/-- O_begin -/
theorem k_O_begin {l : Launch} {D : va_G} {ca : Nat → ClassId} {Z : (Nat → Prop) → State → Prop} (hZ : pw_Zok Z) {ad : pw_A} {C : pw_C} {x : ES} {w0 : List Int32} {wn : Nat} {sn : SN} (hO : os_x ca ad C x w0 wn sn) : gc_Con l y_O_begin c_O_begin ({ frames := 1, cells := 0, slots := 0, locals := 60 }) D ca Z [.ref (ad 3 0)] ad C (pw_pv (fun ad' C' => ad' = ad ∧ os_x ca ad C' x w0 wn (es_snap x wn sn) ∧ os_fr C C')) 0 0 := by
  have hO0 := hO
  obtain ⟨by0, wt, h30, h40, h50, h60, h70, hlen, hby, hwn, hw0, hwt⟩ := hO
  refine pw_ofW (cc := b_O_begin) (maxL := 1) (ret := none) (by decide) rfl (Nat.le_of_ble_eq_true rfl) ?_
  intro p e s m args below meth c A ls hB hA hw hK hz hl
  obtain ⟨hx, hb, hr, hml, hts0, hlocks, hown, hnm⟩ := hB
  have hts := wd_hts hts0
  have hown : s.vm.findClass "GraphWriter$Out" = some m.cls := hown
  have hl : lv_has ls 1 [(0, .ref (ad 3 0))] := hl
  have hfr : os_fr C C := fun _ _ _ => rfl
  refine lv_aload_n hx hb d_O_begin_0 rfl (lv_at hl 0 rfl) ?_
  refine pw_get (Cn := "GraphWriter$Out") (T := F_O) (N := 11) hx hb hts in_O hown hK hw 3 0 rfl h30 rfl 2 (by decide) (hts _ wd_89) (fun _ h9 => h9) rfl d_O_begin_1 ?_
  refine lv_iconst (v := 0) hx hb d_O_begin_4 (by decide) ?_
  refine lv_aload_n hx hb d_O_begin_5 rfl (lv_at hl 0 rfl) ?_
  refine pw_get (Cn := "GraphWriter$Out") (T := F_O) (N := 11) hx hb hts in_O hown hK hw 3 0 rfl h30 rfl 7 (by decide) (hts _ wd_99) (fun _ h9 => h9) rfl d_O_begin_6 ?_
  refine lv_iconst (v := 0) hx hb d_O_begin_9 (by decide) ?_
  refine lv_bipush (v := 35) hx hb d_O_begin_10 (by decide) ?_
  refine pw_copyi hx hb (hml.trans hl.1.symm) hown (hts _ wd_594) (hts _ wd_185) (hts _ wd_184) (hts _ wd_59) hK hw 6 0 7 0 (by decide) (by decide) rfl rfl 0 0 h60 h70 rfl rfl rfl 0 0 35 (by decide) (by decide) (by decide) (by omega) (by omega) ⟨by omega, by omega⟩ (fun _ _ => rfl) (Nat.le_of_ble_eq_true rfl) (Nat.le_of_ble_eq_true rfl) d_O_begin_12 (fun H locs hw => ?_)
  have hw : pw_H D cls9 A s.heap ad C ad (pw_up C 7 0 (some (.inl (ca 0, 35, .inl (va_cpy x.2.2.1 sn.1 0 0 35))))) H locs := hw
  generalize hC_1 : pw_up C 7 0 (some (.inl (ca 0, 35, .inl (va_cpy x.2.2.1 sn.1 0 0 35)))) = C_1 at hw
  have h30 : C_1 3 0 = some (.inr (1, [.ref (ad 4 0), .ref (ad 5 0), .ref (ad 6 0), .int (nI x.1.length), .int (nI wn), .int x.2.2.2, .int x.2.1, .ref (ad 7 0), .int sn.2.1, .int sn.2.2.1, .int sn.2.2.2])) := by rw [← hC_1]; exact (pw_up_ne _ _ (by decide)).trans h30
  have h40 : C_1 4 0 = some (.inl (ca 2, 1400, .inl by0)) := by rw [← hC_1]; exact (pw_up_ne _ _ (by decide)).trans h40
  have h50 : C_1 5 0 = some (.inl (ca 2, 255, .inl wt)) := by rw [← hC_1]; exact (pw_up_ne _ _ (by decide)).trans h50
  have h60 : C_1 6 0 = some (.inl (ca 0, 35, .inl x.2.2.1)) := by rw [← hC_1]; exact (pw_up_ne _ _ (by decide)).trans h60
  have h70 : C_1 7 0 = some (.inl (ca 0, 35, .inl (va_cpy x.2.2.1 sn.1 0 0 35))) := by rw [← hC_1]; exact pw_up_self _ _ _ _
  have hfr : ∀ x y, (x < 3 ∨ 7 < x) → C_1 x y = C x y := fun x y h => by rw [← hC_1]; exact (pw_up_ne _ _ (by omega)).trans (hfr x y h)
  refine lv_aload_n hx hb d_O_begin_15 rfl (lv_at hl 0 rfl) ?_
  refine lv_aload_n hx hb d_O_begin_16 rfl (lv_at hl 0 rfl) ?_
  refine pw_get (Cn := "GraphWriter$Out") (T := F_O) (N := 11) hx hb hts in_O hown hK hw 3 0 rfl h30 rfl 3 (by decide) (hts _ wd_91) (fun _ h9 => h9) rfl d_O_begin_17 ?_
  refine pw_put (Cn := "GraphWriter$Out") (T := F_O) (N := 11) (v := .int (nI x.1.length)) (ty := .int) hx hb hts in_O ft_O to_O nm_O hown hK hw 3 0 (by decide) rfl h30 rfl 8 (by decide) (hts _ wd_100) (fun _ h9 => h9) rfl (by decide +kernel) rfl rfl (Nat.le_of_ble_eq_true rfl) d_O_begin_20 (fun H locs hw => ?_)
  have hw : pw_H D cls9 A s.heap ad C ad (pw_up C_1 3 0 (some (.inr (1, [.ref (ad 4 0), .ref (ad 5 0), .ref (ad 6 0), .int (nI x.1.length), .int (nI wn), .int x.2.2.2, .int x.2.1, .ref (ad 7 0), .int (nI x.1.length), .int sn.2.2.1, .int sn.2.2.2])))) H locs := hw
  generalize hC_2 : pw_up C_1 3 0 (some (.inr (1, [.ref (ad 4 0), .ref (ad 5 0), .ref (ad 6 0), .int (nI x.1.length), .int (nI wn), .int x.2.2.2, .int x.2.1, .ref (ad 7 0), .int (nI x.1.length), .int sn.2.2.1, .int sn.2.2.2]))) = C_2 at hw
  have h40 : C_2 4 0 = some (.inl (ca 2, 1400, .inl by0)) := by rw [← hC_2]; exact (pw_up_ne _ _ (by decide)).trans h40
  have h50 : C_2 5 0 = some (.inl (ca 2, 255, .inl wt)) := by rw [← hC_2]; exact (pw_up_ne _ _ (by decide)).trans h50
  have h60 : C_2 6 0 = some (.inl (ca 0, 35, .inl x.2.2.1)) := by rw [← hC_2]; exact (pw_up_ne _ _ (by decide)).trans h60
  have h70 : C_2 7 0 = some (.inl (ca 0, 35, .inl (va_cpy x.2.2.1 sn.1 0 0 35))) := by rw [← hC_2]; exact (pw_up_ne _ _ (by decide)).trans h70
  have h30 : C_2 3 0 = some (.inr (1, [.ref (ad 4 0), .ref (ad 5 0), .ref (ad 6 0), .int (nI x.1.length), .int (nI wn), .int x.2.2.2, .int x.2.1, .ref (ad 7 0), .int (nI x.1.length), .int sn.2.2.1, .int sn.2.2.2])) := by rw [← hC_2]; exact pw_up_self _ _ _ _
  have hfr : ∀ x y, (x < 3 ∨ 7 < x) → C_2 x y = C x y := fun x y h => by rw [← hC_2]; exact (pw_up_ne _ _ (by omega)).trans (hfr x y h)
  refine lv_aload_n hx hb d_O_begin_23 rfl (lv_at hl 0 rfl) ?_
  refine lv_aload_n hx hb d_O_begin_24 rfl (lv_at hl 0 rfl) ?_
  refine pw_get (Cn := "GraphWriter$Out") (T := F_O) (N := 11) hx hb hts in_O hown hK hw 3 0 rfl h30 rfl 4 (by decide) (hts _ wd_93) (fun _ h9 => h9) rfl d_O_begin_25 ?_
  refine pw_put (Cn := "GraphWriter$Out") (T := F_O) (N := 11) (v := .int (nI wn)) (ty := .int) hx hb hts in_O ft_O to_O nm_O hown hK hw 3 0 (by decide) rfl h30 rfl 9 (by decide) (hts _ wd_101) (fun _ h9 => h9) rfl (by decide +kernel) rfl rfl (Nat.le_of_ble_eq_true rfl) d_O_begin_28 (fun H locs hw => ?_)
  have hw : pw_H D cls9 A s.heap ad C ad (pw_up C_2 3 0 (some (.inr (1, [.ref (ad 4 0), .ref (ad 5 0), .ref (ad 6 0), .int (nI x.1.length), .int (nI wn), .int x.2.2.2, .int x.2.1, .ref (ad 7 0), .int (nI x.1.length), .int (nI wn), .int sn.2.2.2])))) H locs := hw
  generalize hC_3 : pw_up C_2 3 0 (some (.inr (1, [.ref (ad 4 0), .ref (ad 5 0), .ref (ad 6 0), .int (nI x.1.length), .int (nI wn), .int x.2.2.2, .int x.2.1, .ref (ad 7 0), .int (nI x.1.length), .int (nI wn), .int sn.2.2.2]))) = C_3 at hw
  have h40 : C_3 4 0 = some (.inl (ca 2, 1400, .inl by0)) := by rw [← hC_3]; exact (pw_up_ne _ _ (by decide)).trans h40
  have h50 : C_3 5 0 = some (.inl (ca 2, 255, .inl wt)) := by rw [← hC_3]; exact (pw_up_ne _ _ (by decide)).trans h50
  have h60 : C_3 6 0 = some (.inl (ca 0, 35, .inl x.2.2.1)) := by rw [← hC_3]; exact (pw_up_ne _ _ (by decide)).trans h60
  have h70 : C_3 7 0 = some (.inl (ca 0, 35, .inl (va_cpy x.2.2.1 sn.1 0 0 35))) := by rw [← hC_3]; exact (pw_up_ne _ _ (by decide)).trans h70
  have h30 : C_3 3 0 = some (.inr (1, [.ref (ad 4 0), .ref (ad 5 0), .ref (ad 6 0), .int (nI x.1.length), .int (nI wn), .int x.2.2.2, .int x.2.1, .ref (ad 7 0), .int (nI x.1.length), .int (nI wn), .int sn.2.2.2])) := by rw [← hC_3]; exact pw_up_self _ _ _ _
  have hfr : ∀ x y, (x < 3 ∨ 7 < x) → C_3 x y = C x y := fun x y h => by rw [← hC_3]; exact (pw_up_ne _ _ (by omega)).trans (hfr x y h)
  refine lv_aload_n hx hb d_O_begin_31 rfl (lv_at hl 0 rfl) ?_
  refine lv_aload_n hx hb d_O_begin_32 rfl (lv_at hl 0 rfl) ?_
  refine pw_get (Cn := "GraphWriter$Out") (T := F_O) (N := 11) hx hb hts in_O hown hK hw 3 0 rfl h30 rfl 5 (by decide) (hts _ wd_95) (fun _ h9 => h9) rfl d_O_begin_33 ?_
  refine pw_put (Cn := "GraphWriter$Out") (T := F_O) (N := 11) (v := .int x.2.2.2) (ty := .int) hx hb hts in_O ft_O to_O nm_O hown hK hw 3 0 (by decide) rfl h30 rfl 10 (by decide) (hts _ wd_102) (fun _ h9 => h9) rfl (by decide +kernel) rfl rfl (Nat.le_of_ble_eq_true rfl) d_O_begin_36 (fun H locs hw => ?_)
  have hw : pw_H D cls9 A s.heap ad C ad (pw_up C_3 3 0 (some (.inr (1, [.ref (ad 4 0), .ref (ad 5 0), .ref (ad 6 0), .int (nI x.1.length), .int (nI wn), .int x.2.2.2, .int x.2.1, .ref (ad 7 0), .int (nI x.1.length), .int (nI wn), .int x.2.2.2])))) H locs := hw
  generalize hC_4 : pw_up C_3 3 0 (some (.inr (1, [.ref (ad 4 0), .ref (ad 5 0), .ref (ad 6 0), .int (nI x.1.length), .int (nI wn), .int x.2.2.2, .int x.2.1, .ref (ad 7 0), .int (nI x.1.length), .int (nI wn), .int x.2.2.2]))) = C_4 at hw
  have h40 : C_4 4 0 = some (.inl (ca 2, 1400, .inl by0)) := by rw [← hC_4]; exact (pw_up_ne _ _ (by decide)).trans h40
  have h50 : C_4 5 0 = some (.inl (ca 2, 255, .inl wt)) := by rw [← hC_4]; exact (pw_up_ne _ _ (by decide)).trans h50
  have h60 : C_4 6 0 = some (.inl (ca 0, 35, .inl x.2.2.1)) := by rw [← hC_4]; exact (pw_up_ne _ _ (by decide)).trans h60
  have h70 : C_4 7 0 = some (.inl (ca 0, 35, .inl (va_cpy x.2.2.1 sn.1 0 0 35))) := by rw [← hC_4]; exact (pw_up_ne _ _ (by decide)).trans h70
  have h30 : C_4 3 0 = some (.inr (1, [.ref (ad 4 0), .ref (ad 5 0), .ref (ad 6 0), .int (nI x.1.length), .int (nI wn), .int x.2.2.2, .int x.2.1, .ref (ad 7 0), .int (nI x.1.length), .int (nI wn), .int x.2.2.2])) := by rw [← hC_4]; exact pw_up_self _ _ _ _
  have hfr : ∀ x y, (x < 3 ∨ 7 < x) → C_4 x y = C x y := fun x y h => by rw [← hC_4]; exact (pw_up_ne _ _ (by omega)).trans (hfr x y h)
  exact pw_vret hx hb hr hlocks hw ⟨rfl, ⟨by0, wt, h30, h40, h50, h60, h70, hlen, hby, hwn, hw0, hwt⟩, hfr⟩ d_O_begin_39
set_option maxHeartbeats 4000000 in
set_option maxRecDepth 100000 in
/-- O_goBack -/
theorem k_O_goBack {l : Launch} {D : va_G} {ca : Nat → ClassId} {Z : (Nat → Prop) → State → Prop} (hZ : pw_Zok Z) {ad : pw_A} {C : pw_C} {x : ES} {w0 : List Int32} {wn : Nat} {sn : SN} (hO : os_x ca ad C x w0 wn sn) {l0 wz : Nat} (h1 : sn.2.1 = nI l0) (h2 : sn.2.2.1 = nI wz) (h3 : l0 ≤ x.1.length) (h4 : wz ≤ w0.length) : gc_Con l y_O_goBack c_O_goBack ({ frames := 1, cells := 0, slots := 0, locals := 60 }) D ca Z [.ref (ad 3 0)] ad C (pw_pv (fun ad' C' => ad' = ad ∧ os_x ca ad C' (es_back x l0 sn) w0 wz sn ∧ os_fr C C')) 0 0 := by
  have hO0 := hO
  obtain ⟨by0, wt, h30, h40, h50, h60, h70, hlen, hby, hwn, hw0, hwt⟩ := hO
  refine pw_ofW (cc := b_O_goBack) (maxL := 1) (ret := none) (by decide) rfl (Nat.le_of_ble_eq_true rfl) ?_
  intro p e s m args below meth c A ls hB hA hw hK hz hl
  obtain ⟨hx, hb, hr, hml, hts0, hlocks, hown, hnm⟩ := hB
  have hts := wd_hts hts0
  have hown : s.vm.findClass "GraphWriter$Out" = some m.cls := hown
  have hl : lv_has ls 1 [(0, .ref (ad 3 0))] := hl
  have hfr : os_fr C C := fun _ _ _ => rfl
  refine lv_aload_n hx hb d_O_goBack_0 rfl (lv_at hl 0 rfl) ?_
  refine pw_get (Cn := "GraphWriter$Out") (T := F_O) (N := 11) hx hb hts in_O hown hK hw 3 0 rfl h30 rfl 7 (by decide) (hts _ wd_99) (fun _ h9 => h9) rfl d_O_goBack_1 ?_
  refine lv_iconst (v := 0) hx hb d_O_goBack_4 (by decide) ?_
  refine lv_aload_n hx hb d_O_goBack_5 rfl (lv_at hl 0 rfl) ?_
  refine pw_get (Cn := "GraphWriter$Out") (T := F_O) (N := 11) hx hb hts in_O hown hK hw 3 0 rfl h30 rfl 2 (by decide) (hts _ wd_89) (fun _ h9 => h9) rfl d_O_goBack_6 ?_
  refine lv_iconst (v := 0) hx hb d_O_goBack_9 (by decide) ?_
  refine lv_bipush (v := 35) hx hb d_O_goBack_10 (by decide) ?_
  refine pw_copyi hx hb (hml.trans hl.1.symm) hown (hts _ wd_594) (hts _ wd_185) (hts _ wd_184) (hts _ wd_59) hK hw 7 0 6 0 (by decide) (by decide) rfl rfl 0 0 h70 h60 rfl rfl rfl 0 0 35 (by decide) (by decide) (by decide) (by omega) (by omega) ⟨by omega, by omega⟩ (fun _ _ => rfl) (Nat.le_of_ble_eq_true rfl) (Nat.le_of_ble_eq_true rfl) d_O_goBack_12 (fun H locs hw => ?_)
  have hw : pw_H D cls9 A s.heap ad C ad (pw_up C 6 0 (some (.inl (ca 0, 35, .inl (va_cpy sn.1 x.2.2.1 0 0 35))))) H locs := hw
  generalize hC_1 : pw_up C 6 0 (some (.inl (ca 0, 35, .inl (va_cpy sn.1 x.2.2.1 0 0 35)))) = C_1 at hw
  have h30 : C_1 3 0 = some (.inr (1, [.ref (ad 4 0), .ref (ad 5 0), .ref (ad 6 0), .int (nI x.1.length), .int (nI wn), .int x.2.2.2, .int x.2.1, .ref (ad 7 0), .int sn.2.1, .int sn.2.2.1, .int sn.2.2.2])) := by rw [← hC_1]; exact (pw_up_ne _ _ (by decide)).trans h30
  have h40 : C_1 4 0 = some (.inl (ca 2, 1400, .inl by0)) := by rw [← hC_1]; exact (pw_up_ne _ _ (by decide)).trans h40
  have h50 : C_1 5 0 = some (.inl (ca 2, 255, .inl wt)) := by rw [← hC_1]; exact (pw_up_ne _ _ (by decide)).trans h50
  have h70 : C_1 7 0 = some (.inl (ca 0, 35, .inl sn.1)) := by rw [← hC_1]; exact (pw_up_ne _ _ (by decide)).trans h70
  have h60 : C_1 6 0 = some (.inl (ca 0, 35, .inl (va_cpy sn.1 x.2.2.1 0 0 35))) := by rw [← hC_1]; exact pw_up_self _ _ _ _
  have hfr : ∀ x y, (x < 3 ∨ 7 < x) → C_1 x y = C x y := fun x y h => by rw [← hC_1]; exact (pw_up_ne _ _ (by omega)).trans (hfr x y h)
  refine lv_aload_n hx hb d_O_goBack_15 rfl (lv_at hl 0 rfl) ?_
  refine lv_aload_n hx hb d_O_goBack_16 rfl (lv_at hl 0 rfl) ?_
  refine pw_get (Cn := "GraphWriter$Out") (T := F_O) (N := 11) hx hb hts in_O hown hK hw 3 0 rfl h30 rfl 8 (by decide) (hts _ wd_100) (fun _ h9 => h9) rfl d_O_goBack_17 ?_
  refine pw_put (Cn := "GraphWriter$Out") (T := F_O) (N := 11) (v := .int sn.2.1) (ty := .int) hx hb hts in_O ft_O to_O nm_O hown hK hw 3 0 (by decide) rfl h30 rfl 3 (by decide) (hts _ wd_91) (fun _ h9 => h9) rfl (by decide +kernel) rfl rfl (Nat.le_of_ble_eq_true rfl) d_O_goBack_20 (fun H locs hw => ?_)
  have hw : pw_H D cls9 A s.heap ad C ad (pw_up C_1 3 0 (some (.inr (1, [.ref (ad 4 0), .ref (ad 5 0), .ref (ad 6 0), .int sn.2.1, .int (nI wn), .int x.2.2.2, .int x.2.1, .ref (ad 7 0), .int sn.2.1, .int sn.2.2.1, .int sn.2.2.2])))) H locs := hw
  generalize hC_2 : pw_up C_1 3 0 (some (.inr (1, [.ref (ad 4 0), .ref (ad 5 0), .ref (ad 6 0), .int sn.2.1, .int (nI wn), .int x.2.2.2, .int x.2.1, .ref (ad 7 0), .int sn.2.1, .int sn.2.2.1, .int sn.2.2.2]))) = C_2 at hw
  have h40 : C_2 4 0 = some (.inl (ca 2, 1400, .inl by0)) := by rw [← hC_2]; exact (pw_up_ne _ _ (by decide)).trans h40
  have h50 : C_2 5 0 = some (.inl (ca 2, 255, .inl wt)) := by rw [← hC_2]; exact (pw_up_ne _ _ (by decide)).trans h50
  have h60 : C_2 6 0 = some (.inl (ca 0, 35, .inl (va_cpy sn.1 x.2.2.1 0 0 35))) := by rw [← hC_2]; exact (pw_up_ne _ _ (by decide)).trans h60
  have h70 : C_2 7 0 = some (.inl (ca 0, 35, .inl sn.1)) := by rw [← hC_2]; exact (pw_up_ne _ _ (by decide)).trans h70
  have h30 : C_2 3 0 = some (.inr (1, [.ref (ad 4 0), .ref (ad 5 0), .ref (ad 6 0), .int sn.2.1, .int (nI wn), .int x.2.2.2, .int x.2.1, .ref (ad 7 0), .int sn.2.1, .int sn.2.2.1, .int sn.2.2.2])) := by rw [← hC_2]; exact pw_up_self _ _ _ _
  have hfr : ∀ x y, (x < 3 ∨ 7 < x) → C_2 x y = C x y := fun x y h => by rw [← hC_2]; exact (pw_up_ne _ _ (by omega)).trans (hfr x y h)
  refine lv_aload_n hx hb d_O_goBack_23 rfl (lv_at hl 0 rfl) ?_
  refine lv_aload_n hx hb d_O_goBack_24 rfl (lv_at hl 0 rfl) ?_
  refine pw_get (Cn := "GraphWriter$Out") (T := F_O) (N := 11) hx hb hts in_O hown hK hw 3 0 rfl h30 rfl 9 (by decide) (hts _ wd_101) (fun _ h9 => h9) rfl d_O_goBack_25 ?_
  refine pw_put (Cn := "GraphWriter$Out") (T := F_O) (N := 11) (v := .int sn.2.2.1) (ty := .int) hx hb hts in_O ft_O to_O nm_O hown hK hw 3 0 (by decide) rfl h30 rfl 4 (by decide) (hts _ wd_93) (fun _ h9 => h9) rfl (by decide +kernel) rfl rfl (Nat.le_of_ble_eq_true rfl) d_O_goBack_28 (fun H locs hw => ?_)
  have hw : pw_H D cls9 A s.heap ad C ad (pw_up C_2 3 0 (some (.inr (1, [.ref (ad 4 0), .ref (ad 5 0), .ref (ad 6 0), .int sn.2.1, .int sn.2.2.1, .int x.2.2.2, .int x.2.1, .ref (ad 7 0), .int sn.2.1, .int sn.2.2.1, .int sn.2.2.2])))) H locs := hw
  generalize hC_3 : pw_up C_2 3 0 (some (.inr (1, [.ref (ad 4 0), .ref (ad 5 0), .ref (ad 6 0), .int sn.2.1, .int sn.2.2.1, .int x.2.2.2, .int x.2.1, .ref (ad 7 0), .int sn.2.1, .int sn.2.2.1, .int sn.2.2.2]))) = C_3 at hw
  have h40 : C_3 4 0 = some (.inl (ca 2, 1400, .inl by0)) := by rw [← hC_3]; exact (pw_up_ne _ _ (by decide)).trans h40
  have h50 : C_3 5 0 = some (.inl (ca 2, 255, .inl wt)) := by rw [← hC_3]; exact (pw_up_ne _ _ (by decide)).trans h50
  have h60 : C_3 6 0 = some (.inl (ca 0, 35, .inl (va_cpy sn.1 x.2.2.1 0 0 35))) := by rw [← hC_3]; exact (pw_up_ne _ _ (by decide)).trans h60
  have h70 : C_3 7 0 = some (.inl (ca 0, 35, .inl sn.1)) := by rw [← hC_3]; exact (pw_up_ne _ _ (by decide)).trans h70
  have h30 : C_3 3 0 = some (.inr (1, [.ref (ad 4 0), .ref (ad 5 0), .ref (ad 6 0), .int sn.2.1, .int sn.2.2.1, .int x.2.2.2, .int x.2.1, .ref (ad 7 0), .int sn.2.1, .int sn.2.2.1, .int sn.2.2.2])) := by rw [← hC_3]; exact pw_up_self _ _ _ _
  have hfr : ∀ x y, (x < 3 ∨ 7 < x) → C_3 x y = C x y := fun x y h => by rw [← hC_3]; exact (pw_up_ne _ _ (by omega)).trans (hfr x y h)
  refine lv_aload_n hx hb d_O_goBack_31 rfl (lv_at hl 0 rfl) ?_
  refine lv_aload_n hx hb d_O_goBack_32 rfl (lv_at hl 0 rfl) ?_
  refine pw_get (Cn := "GraphWriter$Out") (T := F_O) (N := 11) hx hb hts in_O hown hK hw 3 0 rfl h30 rfl 10 (by decide) (hts _ wd_102) (fun _ h9 => h9) rfl d_O_goBack_33 ?_
  refine pw_put (Cn := "GraphWriter$Out") (T := F_O) (N := 11) (v := .int sn.2.2.2) (ty := .int) hx hb hts in_O ft_O to_O nm_O hown hK hw 3 0 (by decide) rfl h30 rfl 5 (by decide) (hts _ wd_95) (fun _ h9 => h9) rfl (by decide +kernel) rfl rfl (Nat.le_of_ble_eq_true rfl) d_O_goBack_36 (fun H locs hw => ?_)
  have hw : pw_H D cls9 A s.heap ad C ad (pw_up C_3 3 0 (some (.inr (1, [.ref (ad 4 0), .ref (ad 5 0), .ref (ad 6 0), .int sn.2.1, .int sn.2.2.1, .int sn.2.2.2, .int x.2.1, .ref (ad 7 0), .int sn.2.1, .int sn.2.2.1, .int sn.2.2.2])))) H locs := hw
  generalize hC_4 : pw_up C_3 3 0 (some (.inr (1, [.ref (ad 4 0), .ref (ad 5 0), .ref (ad 6 0), .int sn.2.1, .int sn.2.2.1, .int sn.2.2.2, .int x.2.1, .ref (ad 7 0), .int sn.2.1, .int sn.2.2.1, .int sn.2.2.2]))) = C_4 at hw
  have h40 : C_4 4 0 = some (.inl (ca 2, 1400, .inl by0)) := by rw [← hC_4]; exact (pw_up_ne _ _ (by decide)).trans h40
  have h50 : C_4 5 0 = some (.inl (ca 2, 255, .inl wt)) := by rw [← hC_4]; exact (pw_up_ne _ _ (by decide)).trans h50
  have h60 : C_4 6 0 = some (.inl (ca 0, 35, .inl (va_cpy sn.1 x.2.2.1 0 0 35))) := by rw [← hC_4]; exact (pw_up_ne _ _ (by decide)).trans h60
  have h70 : C_4 7 0 = some (.inl (ca 0, 35, .inl sn.1)) := by rw [← hC_4]; exact (pw_up_ne _ _ (by decide)).trans h70
  have h30 : C_4 3 0 = some (.inr (1, [.ref (ad 4 0), .ref (ad 5 0), .ref (ad 6 0), .int sn.2.1, .int sn.2.2.1, .int sn.2.2.2, .int x.2.1, .ref (ad 7 0), .int sn.2.1, .int sn.2.2.1, .int sn.2.2.2])) := by rw [← hC_4]; exact pw_up_self _ _ _ _
  have hfr : ∀ x y, (x < 3 ∨ 7 < x) → C_4 x y = C x y := fun x y h => by rw [← hC_4]; exact (pw_up_ne _ _ (by omega)).trans (hfr x y h)
  refine pw_vret hx hb hr hlocks hw ⟨rfl, ⟨by0, wt, ?_, h40, h50, h60, h70, ?_, ?_, h4, hw0, hwt⟩, hfr⟩ d_O_goBack_39
  · have e1 : (es_back x l0 sn).1.length = l0 := by simp only [es_back, List.length_take]; omega
    rw [e1, ← h1, ← h2]; exact h30
  · simp only [es_back, List.length_take]; omega
  · intro i hi
    simp only [es_back, List.length_take] at hi
    rw [hby i (by omega)]; simp [es_back, List.getD, List.getElem?_take, show i < l0 by omega]
set_option maxHeartbeats 4000000 in
set_option maxRecDepth 100000 in
/-- O_hasRoomToWait -/
theorem k_O_hasRoomToWait {l : Launch} {D : va_G} {ca : Nat → ClassId} {Z : (Nat → Prop) → State → Prop} (hZ : pw_Zok Z) {ad : pw_A} {C : pw_C} {x : ES} {w0 : List Int32} {wn : Nat} {sn : SN} (hO : os_x ca ad C x w0 wn sn) {k : Nat} (hk : k ≤ 8) : gc_Con l y_O_hasRoomToWait c_O_hasRoomToWait ({ frames := 0, cells := 0, slots := 0, locals := 0 }) D ca Z [.ref (ad 3 0), .int (nI k)] ad C (pw_pi (fun r ad' C' => (ad' = ad ∧ C' = C) ∧ r = if x.1.length + wn + k + (if 255 ≤ wn + k then 2 else 0) ≤ 1400 then 1 else 0)) 0 0 := by
  have hO0 := hO
  obtain ⟨by0, wt, h30, h40, h50, h60, h70, hlen, hby, hwn, hw0, hwt⟩ := hO
  refine pw_ofW (cc := b_O_hasRoomToWait) (maxL := 3) (ret := (some FieldType.boolean)) (by decide) rfl (Nat.le_of_ble_eq_true rfl) ?_
  intro p e s m args below meth c A ls hB hA hw hK hz hl
  obtain ⟨hx, hb, hr, hml, hts0, hlocks, hown, hnm⟩ := hB
  have hts := wd_hts hts0
  have hown : s.vm.findClass "GraphWriter$Out" = some m.cls := hown
  have hl : lv_has ls 3 [(0, .ref (ad 3 0)), (1, .int (nI k))] := hl
  have hfr : os_fr C C := fun _ _ _ => rfl
  refine lv_aload_n hx hb d_O_hasRoomToWait_0 rfl (lv_at hl 0 rfl) ?_
  refine pw_get (Cn := "GraphWriter$Out") (T := F_O) (N := 11) hx hb hts in_O hown hK hw 3 0 rfl h30 rfl 4 (by decide) (hts _ wd_93) (fun _ h9 => h9) rfl d_O_hasRoomToWait_1 ?_
  refine lv_iload_n hx hb d_O_hasRoomToWait_4 rfl (lv_at hl 1 rfl) ?_
  refine lv_iadd hx hb d_O_hasRoomToWait_5 ?_
  rw [nI_add]
  refine lv_sipush (v := 255) hx hb d_O_hasRoomToWait_6 (by decide) ?_
  refine lv_icmp_lt (tgt := 16) hx hb d_O_hasRoomToWait_9 (by decide) (fun c_1 => ?_) (fun c_1 => ?_)
  · have h255 : ¬ 255 ≤ wn + k := by
      have := nI_ltI (a := wn + k) (b := 255) (by omega) (by decide)
      first | exact Nat.not_le.mpr (this.mp c_1) | exact Nat.not_lt.mp (fun z => c_1 (this.mpr z))
    refine lv_iconst (v := 0) hx hb d_O_hasRoomToWait_16 (by decide) ?_
    refine lv_istore_n (lv' := [(2, .int 0), (0, .ref (ad 3 0)), (1, .int (nI k))]) hx hb d_O_hasRoomToWait_17 rfl hl (by decide) rfl (fun ls hl => ?_)
    refine lv_aload_n hx hb d_O_hasRoomToWait_18 rfl (lv_at hl 1 rfl) ?_
    refine pw_get (Cn := "GraphWriter$Out") (T := F_O) (N := 11) hx hb hts in_O hown hK hw 3 0 rfl h30 rfl 3 (by decide) (hts _ wd_91) (fun _ h9 => h9) rfl d_O_hasRoomToWait_19 ?_
    refine lv_aload_n hx hb d_O_hasRoomToWait_22 rfl (lv_at hl 1 rfl) ?_
    refine pw_get (Cn := "GraphWriter$Out") (T := F_O) (N := 11) hx hb hts in_O hown hK hw 3 0 rfl h30 rfl 4 (by decide) (hts _ wd_93) (fun _ h9 => h9) rfl d_O_hasRoomToWait_23 ?_
    refine lv_iadd hx hb d_O_hasRoomToWait_26 ?_
    rw [nI_add]
    refine lv_iload_n hx hb d_O_hasRoomToWait_27 rfl (lv_at hl 2 rfl) ?_
    refine lv_iadd hx hb d_O_hasRoomToWait_28 ?_
    rw [nI_add]
    refine lv_iload_n hx hb d_O_hasRoomToWait_29 rfl (lv_at hl 0 rfl) ?_
    refine lv_iadd hx hb d_O_hasRoomToWait_30 ?_
    rw [show (0 : Int32) = nI 0 from rfl, nI_add]
    refine lv_sipush (v := 1400) hx hb d_O_hasRoomToWait_31 (by decide) ?_
    refine lv_icmp_gt (tgt := 41) hx hb d_O_hasRoomToWait_34 (by decide) (fun c_2 => ?_) (fun c_2 => ?_)
    · have hq := nI_ltI (a := 1400) (b := x.1.length + wn + k + 0) (by decide) (by omega)
      refine lv_iconst (v := 0) hx hb d_O_hasRoomToWait_41 (by decide) ?_
      exact pw_zret hx hb hr hlocks hw rfl ⟨⟨rfl, rfl⟩, by rw [if_neg h255]; exact (if_neg (by have := hq.mp c_2; omega)).symm⟩ d_O_hasRoomToWait_42
    · have hq := nI_ltI (a := 1400) (b := x.1.length + wn + k + 0) (by decide) (by omega)
      refine lv_iconst (v := 1) hx hb d_O_hasRoomToWait_37 (by decide) ?_
      refine lv_goto (tgt := 42) hx hb d_O_hasRoomToWait_38 (by decide) ?_
      exact pw_zret hx hb hr hlocks hw rfl ⟨⟨rfl, rfl⟩, by rw [if_neg h255]; exact (if_pos (by have := mt hq.mpr c_2; omega)).symm⟩ d_O_hasRoomToWait_42
  · have h255 : 255 ≤ wn + k := by
      have := nI_ltI (a := wn + k) (b := 255) (by omega) (by decide)
      first | exact Nat.not_le.mpr (this.mp c_1) | exact Nat.not_lt.mp (fun z => c_1 (this.mpr z))
    refine lv_iconst (v := 2) hx hb d_O_hasRoomToWait_12 (by decide) ?_
    refine lv_goto (tgt := 17) hx hb d_O_hasRoomToWait_13 (by decide) ?_
    refine lv_istore_n (lv' := [(2, .int 2), (0, .ref (ad 3 0)), (1, .int (nI k))]) hx hb d_O_hasRoomToWait_17 rfl hl (by decide) rfl (fun ls hl => ?_)
    refine lv_aload_n hx hb d_O_hasRoomToWait_18 rfl (lv_at hl 1 rfl) ?_
    refine pw_get (Cn := "GraphWriter$Out") (T := F_O) (N := 11) hx hb hts in_O hown hK hw 3 0 rfl h30 rfl 3 (by decide) (hts _ wd_91) (fun _ h9 => h9) rfl d_O_hasRoomToWait_19 ?_
    refine lv_aload_n hx hb d_O_hasRoomToWait_22 rfl (lv_at hl 1 rfl) ?_
    refine pw_get (Cn := "GraphWriter$Out") (T := F_O) (N := 11) hx hb hts in_O hown hK hw 3 0 rfl h30 rfl 4 (by decide) (hts _ wd_93) (fun _ h9 => h9) rfl d_O_hasRoomToWait_23 ?_
    refine lv_iadd hx hb d_O_hasRoomToWait_26 ?_
    rw [nI_add]
    refine lv_iload_n hx hb d_O_hasRoomToWait_27 rfl (lv_at hl 2 rfl) ?_
    refine lv_iadd hx hb d_O_hasRoomToWait_28 ?_
    rw [nI_add]
    refine lv_iload_n hx hb d_O_hasRoomToWait_29 rfl (lv_at hl 0 rfl) ?_
    refine lv_iadd hx hb d_O_hasRoomToWait_30 ?_
    rw [show (2 : Int32) = nI 2 from rfl, nI_add]
    refine lv_sipush (v := 1400) hx hb d_O_hasRoomToWait_31 (by decide) ?_
    refine lv_icmp_gt (tgt := 41) hx hb d_O_hasRoomToWait_34 (by decide) (fun c_3 => ?_) (fun c_3 => ?_)
    · have hq := nI_ltI (a := 1400) (b := x.1.length + wn + k + 2) (by decide) (by omega)
      refine lv_iconst (v := 0) hx hb d_O_hasRoomToWait_41 (by decide) ?_
      exact pw_zret hx hb hr hlocks hw rfl ⟨⟨rfl, rfl⟩, by rw [if_pos h255]; exact (if_neg (by have := hq.mp c_3; omega)).symm⟩ d_O_hasRoomToWait_42
    · have hq := nI_ltI (a := 1400) (b := x.1.length + wn + k + 2) (by decide) (by omega)
      refine lv_iconst (v := 1) hx hb d_O_hasRoomToWait_37 (by decide) ?_
      refine lv_goto (tgt := 42) hx hb d_O_hasRoomToWait_38 (by decide) ?_
      exact pw_zret hx hb hr hlocks hw rfl ⟨⟨rfl, rfl⟩, by rw [if_pos h255]; exact (if_pos (by have := mt hq.mpr c_3; omega)).symm⟩ d_O_hasRoomToWait_42
set_option maxHeartbeats 4000000 in
set_option maxRecDepth 100000 in
/-- O_flush -/
theorem k_O_flush {l : Launch} {D : va_G} {ca : Nat → ClassId} {Z : (Nat → Prop) → State → Prop} (hZ : pw_Zok Z) {ad : pw_A} {C : pw_C} {x : ES} {w0 : List Int32} {wn : Nat} {sn : SN} (hO : os_x ca ad C x w0 wn sn) : gc_Con l y_O_flush c_O_flush ({ frames := 1, cells := 0, slots := 0, locals := 24 }) D ca Z [.ref (ad 3 0)] ad C (pw_pv (fun ad' C' => ad' = ad ∧ os_x ca ad C' (es_flush x (w0.take wn)) w0 0 sn ∧ os_fr C C')) 0 0 := by
  have hO0 := hO
  obtain ⟨by0, wt, h30, h40, h50, h60, h70, hlen, hby, hwn, hw0, hwt⟩ := hO
  refine pw_ofW (cc := b_O_flush) (maxL := 2) (ret := none) (by decide) rfl (Nat.le_of_ble_eq_true rfl) ?_
  intro p e s m args below meth c A ls hB hA hw hK hz hl
  obtain ⟨hx, hb, hr, hml, hts0, hlocks, hown, hnm⟩ := hB
  have hts := wd_hts hts0
  have hown : s.vm.findClass "GraphWriter$Out" = some m.cls := hown
  have hl : lv_has ls 2 [(0, .ref (ad 3 0))] := hl
  have hfr : os_fr C C := fun _ _ _ => rfl
  refine lv_aload_n hx hb d_O_flush_0 rfl (lv_at hl 0 rfl) ?_
  refine pw_get (Cn := "GraphWriter$Out") (T := F_O) (N := 11) hx hb hts in_O hown hK hw 3 0 rfl h30 rfl 4 (by decide) (hts _ wd_93) (fun _ h9 => h9) rfl d_O_flush_1 ?_
  refine lv_if_ne (tgt := 8) hx hb d_O_flush_4 (by decide) (fun c_1 => ?_) (fun c_1 => ?_)
  · have hwn0 : wn ≠ 0 := fun z => c_1 (by rw [z]; rfl)
    have hne : w0.take wn ≠ [] := by
      intro z
      have h9 : (w0.take wn).length = 0 := by rw [z]; rfl
      rw [List.length_take] at h9; omega
    have hlt : (w0.take wn).length = wn := by rw [List.length_take]; omega
    refine lv_aload_n hx hb d_O_flush_8 rfl (lv_at hl 0 rfl) ?_
    refine lv_ldc2 (v := 119) hx hb hown (hts _ wd_584) d_O_flush_9 ?_
    refine lv_iconst (v := 1) hx hb d_O_flush_12 (by decide) ?_
    refine pw_callv (va_runV (As := [.long 119, .int 1]) (rest := []) ⟨hx, hb, hml, hown, hts0⟩ (k_O_put hO0 119 (w := 1) (by decide) _) (cwV 2 hts0 (wd_V wd_139 wd_585 wd_137 wd_138 wd_54) rfl rfl rfl (by decide +kernel) ⟨Nat.le_of_ble_eq_true rfl, Nat.le_of_ble_eq_true rfl⟩) (pw_preV hZ hw hA hK hz rfl h30 rfl) rfl rfl hl.1 rfl (lv_room (Nat.le_of_ble_eq_true rfl)) d_O_flush_13 ⟨Nat.le_of_ble_eq_true rfl, Nat.le_of_ble_eq_true rfl⟩) hw hA (fun ad_2 C_3 H locs hp hw => ?_)
    obtain ⟨hae, hO, hf1⟩ := hp
    rw [hae] at hw; clear hae
    have hfr : os_fr C C_3 := fun x y h => (hf1 x y h).trans (hfr x y h)
    obtain ⟨x_5, hx_5⟩ : ∃ z, z = es_put x 119 1 := ⟨_, rfl⟩
    rw [← hx_5] at hO
    have hO0 := hO
    obtain ⟨by0, wt, h30, h40, h50, h60, h70, hlen, hby, hwn, hw0, hwt⟩ := hO
    refine lv_aload_n hx hb d_O_flush_16 rfl (lv_at hl 0 rfl) ?_
    refine lv_aload_n hx hb d_O_flush_17 rfl (lv_at hl 0 rfl) ?_
    refine pw_get (Cn := "GraphWriter$Out") (T := F_O) (N := 11) hx hb hts in_O hown hK hw 3 0 rfl h30 rfl 4 (by decide) (hts _ wd_93) (fun _ h9 => h9) rfl d_O_flush_18 ?_
    refine lv_i2l hx hb d_O_flush_21 rfl ?_
    refine lv_iconst (v := 1) hx hb d_O_flush_22 (by decide) ?_
    refine pw_callv (va_runV (As := [.long ((nI wn).toInt64), .int 1]) (rest := []) ⟨hx, hb, hml, hown, hts0⟩ (k_O_put hO0 ((nI wn).toInt64) (w := 1) (by decide) _) (cwV 2 hts0 (wd_V wd_139 wd_585 wd_137 wd_138 wd_54) rfl rfl rfl (by decide +kernel) ⟨Nat.le_of_ble_eq_true rfl, Nat.le_of_ble_eq_true rfl⟩) (pw_preV hZ hw hA hK hz rfl h30 rfl) rfl rfl hl.1 rfl (lv_room (Nat.le_of_ble_eq_true rfl)) d_O_flush_23 ⟨Nat.le_of_ble_eq_true rfl, Nat.le_of_ble_eq_true rfl⟩) hw hA (fun ad_6 C_7 H locs hp hw => ?_)
    obtain ⟨hae, hO, hf1⟩ := hp
    rw [hae] at hw; clear hae
    have hfr : os_fr C C_7 := fun x y h => (hf1 x y h).trans (hfr x y h)
    obtain ⟨x_9, hx_9⟩ : ∃ z, z = es_put x_5 ((nI wn).toInt64) 1 := ⟨_, rfl⟩
    rw [← hx_9] at hO
    have hO0 := hO
    obtain ⟨by0, wt, h30, h40, h50, h60, h70, hlen, hby, hwn, hw0, hwt⟩ := hO
    refine lv_iconst (v := 0) hx hb d_O_flush_26 (by decide) ?_
    refine lv_istore_n (lv' := [(1, .int 0), (0, .ref (ad 3 0))]) hx hb d_O_flush_27 rfl hl (by decide) rfl (fun ls hl => ?_)
    obtain ⟨q0, hq0⟩ : ∃ z, z = w0.take wn := ⟨_, rfl⟩
    have hx9 : x_9 = es_put (es_put x 119 1) (nI wn).toInt64 1 := by rw [hx_9, hx_5]
    have key : ∀ (r j : Nat), j + r = wn → ∀ (x1 : ES) (C1 : pw_C) (H : Heap) (locs : List Loc) (ls : Array Slot), x1 = (q0.take j).foldl (fun x b => es_put x b.toInt64 1) x_9 → os_x ca ad C1 x1 w0 wn sn → os_fr C C1 → pw_H D cls9 A s.heap ad C ad C1 H locs → lv_has ls 2 [(1, .int (nI j)), (0, .ref (ad 3 0))] → W p l e ({ frames := 1, cells := 0, slots := 0, locals := 24 }) s m args below meth c H locs 0 0 (MQ below (pw_Q D cls9 ad C (pw_pv (fun ad' C' => ad' = ad ∧ os_x ca ad C' (es_flush x (w0.take wn)) w0 0 sn ∧ os_fr C C')) A) args s 0 0 A) (F0 m 28 ls []) := by
      intro r
      induction r with
      | zero =>
        intro j hj x1 C1 H locs ls hx1 hO hfr hw hl
        have hO0 := hO
        obtain ⟨by0, wt, h30, h40, h50, h60, h70, hlen, hby, hwn, hw0, hwt⟩ := hO
        refine lv_iload_n hx hb d_O_flush_28 rfl (lv_at hl 0 rfl) ?_
        refine lv_aload_n hx hb d_O_flush_29 rfl (lv_at hl 1 rfl) ?_
        refine pw_get (Cn := "GraphWriter$Out") (T := F_O) (N := 11) hx hb hts in_O hown hK hw 3 0 rfl h30 rfl 4 (by decide) (hts _ wd_93) (fun _ h9 => h9) rfl d_O_flush_30 ?_
        refine lv_icmp_ge (tgt := 54) hx hb d_O_flush_33 (by decide) (fun c_10 => ?_) (fun c_10 => ?_)
        · skip
          refine lv_aload_n hx hb d_O_flush_54 rfl (lv_at hl 1 rfl) ?_
          refine lv_iconst (v := 0) hx hb d_O_flush_55 (by decide) ?_
          refine pw_put (Cn := "GraphWriter$Out") (T := F_O) (N := 11) (v := .int 0) (ty := .int) hx hb hts in_O ft_O to_O nm_O hown hK hw 3 0 (by decide) rfl h30 rfl 4 (by decide) (hts _ wd_93) (fun _ h9 => h9) rfl (by decide +kernel) rfl rfl (Nat.le_of_ble_eq_true rfl) d_O_flush_56 (fun H locs hw => ?_)
          have hw : pw_H D cls9 A s.heap ad C ad (pw_up C1 3 0 (some (.inr (1, [.ref (ad 4 0), .ref (ad 5 0), .ref (ad 6 0), .int (nI x1.1.length), .int 0, .int x1.2.2.2, .int x1.2.1, .ref (ad 7 0), .int sn.2.1, .int sn.2.2.1, .int sn.2.2.2])))) H locs := hw
          generalize hC_11 : pw_up C1 3 0 (some (.inr (1, [.ref (ad 4 0), .ref (ad 5 0), .ref (ad 6 0), .int (nI x1.1.length), .int 0, .int x1.2.2.2, .int x1.2.1, .ref (ad 7 0), .int sn.2.1, .int sn.2.2.1, .int sn.2.2.2]))) = C_11 at hw
          have h40 : C_11 4 0 = some (.inl (ca 2, 1400, .inl by0)) := by rw [← hC_11]; exact (pw_up_ne _ _ (by decide)).trans h40
          have h50 : C_11 5 0 = some (.inl (ca 2, 255, .inl wt)) := by rw [← hC_11]; exact (pw_up_ne _ _ (by decide)).trans h50
          have h60 : C_11 6 0 = some (.inl (ca 0, 35, .inl x1.2.2.1)) := by rw [← hC_11]; exact (pw_up_ne _ _ (by decide)).trans h60
          have h70 : C_11 7 0 = some (.inl (ca 0, 35, .inl sn.1)) := by rw [← hC_11]; exact (pw_up_ne _ _ (by decide)).trans h70
          have h30 : C_11 3 0 = some (.inr (1, [.ref (ad 4 0), .ref (ad 5 0), .ref (ad 6 0), .int (nI x1.1.length), .int 0, .int x1.2.2.2, .int x1.2.1, .ref (ad 7 0), .int sn.2.1, .int sn.2.2.1, .int sn.2.2.2])) := by rw [← hC_11]; exact pw_up_self _ _ _ _
          have hfr : ∀ x y, (x < 3 ∨ 7 < x) → C_11 x y = C x y := fun x y h => by rw [← hC_11]; exact (pw_up_ne _ _ (by omega)).trans (hfr x y h)
          have e9 : es_flush x (w0.take wn) = x1 := by rw [hx1, ← hq0, es_flush, if_neg (by rw [hq0]; exact hne), hx9, List.take_of_length_le (by rw [hq0, hlt]; omega), hq0, hlt]
          refine pw_vret hx hb hr hlocks hw ⟨rfl, ?_, hfr⟩ d_O_flush_59
          rw [e9]; exact ⟨by0, wt, h30, h40, h50, h60, h70, hlen, hby, by omega, hw0, hwt⟩
        · exact absurd (nI_le (by omega) (by omega)) c_10
      | succ r ih =>
        intro j hj x1 C1 H locs ls hx1 hO hfr hw hl
        have hO0 := hO
        obtain ⟨by0, wt, h30, h40, h50, h60, h70, hlen, hby, hwn, hw0, hwt⟩ := hO
        refine lv_iload_n hx hb d_O_flush_28 rfl (lv_at hl 0 rfl) ?_
        refine lv_aload_n hx hb d_O_flush_29 rfl (lv_at hl 1 rfl) ?_
        refine pw_get (Cn := "GraphWriter$Out") (T := F_O) (N := 11) hx hb hts in_O hown hK hw 3 0 rfl h30 rfl 4 (by decide) (hts _ wd_93) (fun _ h9 => h9) rfl d_O_flush_30 ?_
        refine lv_icmp_ge (tgt := 54) hx hb d_O_flush_33 (by decide) (fun c_12 => ?_) (fun c_12 => ?_)
        · exact absurd c_12 (nI_ge (by omega) (by omega))
        · skip
          refine lv_aload_n hx hb d_O_flush_36 rfl (lv_at hl 1 rfl) ?_
          refine lv_aload_n hx hb d_O_flush_37 rfl (lv_at hl 1 rfl) ?_
          refine pw_get (Cn := "GraphWriter$Out") (T := F_O) (N := 11) hx hb hts in_O hown hK hw 3 0 rfl h30 rfl 1 (by decide) (hts _ wd_88) (fun _ h9 => h9) rfl d_O_flush_38 ?_
          refine lv_iload_n hx hb d_O_flush_41 rfl (lv_at hl 0 rfl) ?_
          refine pw_bald hx hb hK hw 5 0 rfl 2 h50 rfl j rfl (by omega) (by omega) d_O_flush_42 ?_
          refine lv_i2l hx hb d_O_flush_43 rfl ?_
          refine lv_iconst (v := 1) hx hb d_O_flush_44 (by decide) ?_
          have hwj : wt j = q0[j]'(by rw [hq0, hlt]; omega) := by
            rw [hwt j (by omega)]; simp [hq0, List.getD, show j < w0.length by omega]
          refine pw_callv (va_runV (As := [.long ((wt j).toInt64), .int 1]) (rest := []) ⟨hx, hb, hml, hown, hts0⟩ (k_O_put hO0 ((wt j).toInt64) (w := 1) (by decide) _) (cwV 2 hts0 (wd_V wd_139 wd_585 wd_137 wd_138 wd_54) rfl rfl rfl (by decide +kernel) ⟨Nat.le_of_ble_eq_true rfl, Nat.le_of_ble_eq_true rfl⟩) (pw_preV hZ hw hA hK hz rfl h30 rfl) rfl rfl hl.1 rfl (lv_room (Nat.le_of_ble_eq_true rfl)) d_O_flush_45 ⟨Nat.le_of_ble_eq_true rfl, Nat.le_of_ble_eq_true rfl⟩) hw hA (fun ad_13 C_14 H locs hp hw => ?_)
          obtain ⟨hae, hO, hf1⟩ := hp
          rw [hae] at hw; clear hae
          have hfr : os_fr C C_14 := fun x y h => (hf1 x y h).trans (hfr x y h)
          obtain ⟨x_16, hx_16⟩ : ∃ z, z = es_put x1 ((wt j).toInt64) 1 := ⟨_, rfl⟩
          rw [← hx_16] at hO
          have hO0 := hO
          obtain ⟨by0, wt, h30, h40, h50, h60, h70, hlen, hby, hwn, hw0, hwt⟩ := hO
          refine lv_iinc (v := (nI j) + 1) (lv' := [(1, .int ((nI j) + 1)), (0, .ref (ad 3 0))]) hx hb d_O_flush_48 hl (k := 0) rfl rfl (by decide) rfl (fun ls hl => ?_)
          refine lv_goto (tgt := 28) hx hb d_O_flush_51 (by decide) ?_
          rw [nI_1] at hl
          refine ih (j + 1) (by omega) _ _ _ _ _ ?_ hO0 hfr hw hl
          have hjl : j < q0.length := by rw [hq0, hlt]; omega
          rw [hx_16, hx1, List.take_add_one, List.getElem?_eq_getElem hjl, List.foldl_append]
          simp only [Option.toList_some, List.foldl_cons, List.foldl_nil]
          rw [hwj]
    exact key wn 0 (by omega) x_9 _ _ _ _ (by rw [List.take_zero]; rfl) hO0 hfr hw hl
  · have hwn0 : wn = 0 := (nI_eq (by omega) (by decide)).mp c_1
    subst hwn0
    have e9 : es_flush x (w0.take 0) = x := by rw [List.take_zero]; exact if_pos rfl
    refine pw_vret hx hb hr hlocks hw ⟨rfl, ?_, hfr⟩ d_O_flush_7
    rw [e9]; exact hO0
def es_ans (x : ES) : Int32 := if x.2.1 = 0 then nI x.1.length else x.2.1
def es_set (x : ES) (l0 : Nat) (sn : SN) : ES := es_oc (if x.2.1 = -2 then es_back x l0 sn else if x.2.1 = -3 then es_forget x else x) 0
set_option maxHeartbeats 4000000 in
set_option maxRecDepth 100000 in
/-- O_settle -/
theorem k_O_settle {l : Launch} {D : va_G} {ca : Nat → ClassId} {Z : (Nat → Prop) → State → Prop} (hZ : pw_Zok Z) {ad : pw_A} {C : pw_C} {x : ES} {w0 : List Int32} {wn : Nat} {sn : SN} (hO : os_x ca ad C x w0 wn sn) {l0 wz : Nat} (h1 : sn.2.1 = nI l0) (h2 : sn.2.2.1 = nI wz) (h3 : l0 ≤ x.1.length) (h4 : wz ≤ w0.length) : gc_Con l y_O_settle c_O_settle ({ frames := 2, cells := 0, slots := 0, locals := 80 }) D ca Z [.ref (ad 3 0)] ad C (pw_pi (fun r ad' C' => (ad' = ad ∧ os_x ca ad C' (es_set x l0 sn) w0 (if x.2.1 = -2 then wz else wn) sn ∧ os_fr C C') ∧ r = es_ans x)) 0 0 := by
  have hO0 := hO
  obtain ⟨by0, wt, h30, h40, h50, h60, h70, hlen, hby, hwn, hw0, hwt⟩ := hO
  refine pw_ofW (cc := b_O_settle) (maxL := 2) (ret := (some FieldType.int)) (by decide) rfl (Nat.le_of_ble_eq_true rfl) ?_
  intro p e s m args below meth c A ls hB hA hw hK hz hl
  obtain ⟨hx, hb, hr, hml, hts0, hlocks, hown, hnm⟩ := hB
  have hts := wd_hts hts0
  have hown : s.vm.findClass "GraphWriter$Out" = some m.cls := hown
  have hl : lv_has ls 2 [(0, .ref (ad 3 0))] := hl
  have hfr : os_fr C C := fun _ _ _ => rfl
  refine lv_aload_n hx hb d_O_settle_0 rfl (lv_at hl 0 rfl) ?_
  refine pw_get (Cn := "GraphWriter$Out") (T := F_O) (N := 11) hx hb hts in_O hown hK hw 3 0 rfl h30 rfl 6 (by decide) (hts _ wd_97) (fun _ h9 => h9) rfl d_O_settle_1 ?_
  refine lv_if_ne (tgt := 14) hx hb d_O_settle_4 (by decide) (fun c_1 => ?_) (fun c_1 => ?_)
  · skip
    refine lv_aload_n hx hb d_O_settle_14 rfl (lv_at hl 0 rfl) ?_
    refine pw_get (Cn := "GraphWriter$Out") (T := F_O) (N := 11) hx hb hts in_O hown hK hw 3 0 rfl h30 rfl 6 (by decide) (hts _ wd_97) (fun _ h9 => h9) rfl d_O_settle_15 ?_
    refine lv_istore_n (lv' := [(1, .int x.2.1), (0, .ref (ad 3 0))]) hx hb d_O_settle_18 rfl hl (by decide) rfl (fun ls hl => ?_)
    refine lv_aload_n hx hb d_O_settle_19 rfl (lv_at hl 1 rfl) ?_
    refine pw_get (Cn := "GraphWriter$Out") (T := F_O) (N := 11) hx hb hts in_O hown hK hw 3 0 rfl h30 rfl 6 (by decide) (hts _ wd_97) (fun _ h9 => h9) rfl d_O_settle_20 ?_
    refine lv_bipush (v := (-2)) hx hb d_O_settle_23 (by decide) ?_
    refine lv_icmp_ne (tgt := 35) hx hb d_O_settle_25 (by decide) (fun c_2 => ?_) (fun c_2 => ?_)
    · skip
      refine lv_aload_n hx hb d_O_settle_35 rfl (lv_at hl 1 rfl) ?_
      refine pw_get (Cn := "GraphWriter$Out") (T := F_O) (N := 11) hx hb hts in_O hown hK hw 3 0 rfl h30 rfl 6 (by decide) (hts _ wd_97) (fun _ h9 => h9) rfl d_O_settle_36 ?_
      refine lv_bipush (v := (-3)) hx hb d_O_settle_39 (by decide) ?_
      refine lv_icmp_ne (tgt := 48) hx hb d_O_settle_41 (by decide) (fun c_3 => ?_) (fun c_3 => ?_)
      · skip
        refine lv_aload_n hx hb d_O_settle_48 rfl (lv_at hl 1 rfl) ?_
        refine lv_iconst (v := 0) hx hb d_O_settle_49 (by decide) ?_
        refine pw_put (Cn := "GraphWriter$Out") (T := F_O) (N := 11) (v := .int 0) (ty := .int) hx hb hts in_O ft_O to_O nm_O hown hK hw 3 0 (by decide) rfl h30 rfl 6 (by decide) (hts _ wd_97) (fun _ h9 => h9) rfl (by decide +kernel) rfl rfl (Nat.le_of_ble_eq_true rfl) d_O_settle_50 (fun H locs hw => ?_)
        have hw : pw_H D cls9 A s.heap ad C ad (pw_up C 3 0 (some (.inr (1, [.ref (ad 4 0), .ref (ad 5 0), .ref (ad 6 0), .int (nI x.1.length), .int (nI wn), .int x.2.2.2, .int 0, .ref (ad 7 0), .int sn.2.1, .int sn.2.2.1, .int sn.2.2.2])))) H locs := hw
        generalize hC_4 : pw_up C 3 0 (some (.inr (1, [.ref (ad 4 0), .ref (ad 5 0), .ref (ad 6 0), .int (nI x.1.length), .int (nI wn), .int x.2.2.2, .int 0, .ref (ad 7 0), .int sn.2.1, .int sn.2.2.1, .int sn.2.2.2]))) = C_4 at hw
        have h40 : C_4 4 0 = some (.inl (ca 2, 1400, .inl by0)) := by rw [← hC_4]; exact (pw_up_ne _ _ (by decide)).trans h40
        have h50 : C_4 5 0 = some (.inl (ca 2, 255, .inl wt)) := by rw [← hC_4]; exact (pw_up_ne _ _ (by decide)).trans h50
        have h60 : C_4 6 0 = some (.inl (ca 0, 35, .inl x.2.2.1)) := by rw [← hC_4]; exact (pw_up_ne _ _ (by decide)).trans h60
        have h70 : C_4 7 0 = some (.inl (ca 0, 35, .inl sn.1)) := by rw [← hC_4]; exact (pw_up_ne _ _ (by decide)).trans h70
        have h30 : C_4 3 0 = some (.inr (1, [.ref (ad 4 0), .ref (ad 5 0), .ref (ad 6 0), .int (nI x.1.length), .int (nI wn), .int x.2.2.2, .int 0, .ref (ad 7 0), .int sn.2.1, .int sn.2.2.1, .int sn.2.2.2])) := by rw [← hC_4]; exact pw_up_self _ _ _ _
        have hfr : ∀ x y, (x < 3 ∨ 7 < x) → C_4 x y = C x y := fun x y h => by rw [← hC_4]; exact (pw_up_ne _ _ (by omega)).trans (hfr x y h)
        refine lv_iload_n hx hb d_O_settle_53 rfl (lv_at hl 0 rfl) ?_
        have ea : es_ans x = x.2.1 := by unfold es_ans; first | exact if_pos c_1 | exact if_neg c_1
        have es : es_set x l0 sn = es_oc x 0 := by unfold es_set; rw [if_neg c_2, if_neg c_3]
        refine pw_iret hx hb hr hlocks hw ⟨⟨rfl, ?_, hfr⟩, ea.symm⟩ d_O_settle_54
        rw [es]; rw [if_neg c_2]
        exact ⟨by0, wt, h30, h40, h50, h60, h70, hlen, hby, hwn, hw0, hwt⟩
      · skip
        refine lv_aload_n hx hb d_O_settle_44 rfl (lv_at hl 1 rfl) ?_
        refine pw_callv (va_runV (As := []) (rest := []) ⟨hx, hb, hml, hown, hts0⟩ (k_O_forgetHandles hZ hO0 _) (cwV 0 hts0 (wd_V wd_131 wd_711 wd_129 wd_130 wd_54) rfl rfl rfl (by decide +kernel) ⟨Nat.le_of_ble_eq_true rfl, Nat.le_of_ble_eq_true rfl⟩) (pw_preV hZ hw hA hK hz rfl h30 rfl) rfl rfl hl.1 rfl (lv_room (Nat.le_of_ble_eq_true rfl)) d_O_settle_45 ⟨Nat.le_of_ble_eq_true rfl, Nat.le_of_ble_eq_true rfl⟩) hw hA (fun ad_5 C_6 H locs hp hw => ?_)
        obtain ⟨hae, hO, hf1⟩ := hp
        rw [hae] at hw; clear hae
        have hfr : os_fr C C_6 := fun x y h => (hf1 x y h).trans (hfr x y h)
        obtain ⟨x_8, hx_8⟩ : ∃ z, z = es_forget x := ⟨_, rfl⟩
        rw [← hx_8] at hO
        have hO0 := hO
        obtain ⟨by0, wt, h30, h40, h50, h60, h70, hlen, hby, hwn, hw0, hwt⟩ := hO
        refine lv_aload_n hx hb d_O_settle_48 rfl (lv_at hl 1 rfl) ?_
        refine lv_iconst (v := 0) hx hb d_O_settle_49 (by decide) ?_
        refine pw_put (Cn := "GraphWriter$Out") (T := F_O) (N := 11) (v := .int 0) (ty := .int) hx hb hts in_O ft_O to_O nm_O hown hK hw 3 0 (by decide) rfl h30 rfl 6 (by decide) (hts _ wd_97) (fun _ h9 => h9) rfl (by decide +kernel) rfl rfl (Nat.le_of_ble_eq_true rfl) d_O_settle_50 (fun H locs hw => ?_)
        have hw : pw_H D cls9 A s.heap ad C ad (pw_up C_6 3 0 (some (.inr (1, [.ref (ad 4 0), .ref (ad 5 0), .ref (ad 6 0), .int (nI x_8.1.length), .int (nI wn), .int x_8.2.2.2, .int 0, .ref (ad 7 0), .int sn.2.1, .int sn.2.2.1, .int sn.2.2.2])))) H locs := hw
        generalize hC_9 : pw_up C_6 3 0 (some (.inr (1, [.ref (ad 4 0), .ref (ad 5 0), .ref (ad 6 0), .int (nI x_8.1.length), .int (nI wn), .int x_8.2.2.2, .int 0, .ref (ad 7 0), .int sn.2.1, .int sn.2.2.1, .int sn.2.2.2]))) = C_9 at hw
        have h40 : C_9 4 0 = some (.inl (ca 2, 1400, .inl by0)) := by rw [← hC_9]; exact (pw_up_ne _ _ (by decide)).trans h40
        have h50 : C_9 5 0 = some (.inl (ca 2, 255, .inl wt)) := by rw [← hC_9]; exact (pw_up_ne _ _ (by decide)).trans h50
        have h60 : C_9 6 0 = some (.inl (ca 0, 35, .inl x_8.2.2.1)) := by rw [← hC_9]; exact (pw_up_ne _ _ (by decide)).trans h60
        have h70 : C_9 7 0 = some (.inl (ca 0, 35, .inl sn.1)) := by rw [← hC_9]; exact (pw_up_ne _ _ (by decide)).trans h70
        have h30 : C_9 3 0 = some (.inr (1, [.ref (ad 4 0), .ref (ad 5 0), .ref (ad 6 0), .int (nI x_8.1.length), .int (nI wn), .int x_8.2.2.2, .int 0, .ref (ad 7 0), .int sn.2.1, .int sn.2.2.1, .int sn.2.2.2])) := by rw [← hC_9]; exact pw_up_self _ _ _ _
        have hfr : ∀ x y, (x < 3 ∨ 7 < x) → C_9 x y = C x y := fun x y h => by rw [← hC_9]; exact (pw_up_ne _ _ (by omega)).trans (hfr x y h)
        refine lv_iload_n hx hb d_O_settle_53 rfl (lv_at hl 0 rfl) ?_
        have ea : es_ans x = x.2.1 := by unfold es_ans; first | exact if_pos c_1 | exact if_neg c_1
        have es : es_set x l0 sn = es_oc x_8 0 := by rw [hx_8]; unfold es_set; rw [if_neg c_2, if_pos c_3]
        refine pw_iret hx hb hr hlocks hw ⟨⟨rfl, ?_, hfr⟩, ea.symm⟩ d_O_settle_54
        rw [es]; rw [if_neg c_2]
        exact ⟨by0, wt, h30, h40, h50, h60, h70, hlen, hby, hwn, hw0, hwt⟩
    · skip
      refine lv_aload_n hx hb d_O_settle_28 rfl (lv_at hl 1 rfl) ?_
      refine pw_callv (va_runV (As := []) (rest := []) ⟨hx, hb, hml, hown, hts0⟩ (k_O_goBack hZ hO0 h1 h2 h3 h4 _) (cwV 0 hts0 (wd_V wd_710 wd_707 wd_709 wd_18 wd_54) rfl rfl rfl (by decide +kernel) ⟨Nat.le_of_ble_eq_true rfl, Nat.le_of_ble_eq_true rfl⟩) (pw_preV hZ hw hA hK hz rfl h30 rfl) rfl rfl hl.1 rfl (lv_room (Nat.le_of_ble_eq_true rfl)) d_O_settle_29 ⟨Nat.le_of_ble_eq_true rfl, Nat.le_of_ble_eq_true rfl⟩) hw hA (fun ad_10 C_11 H locs hp hw => ?_)
      obtain ⟨hae, hO, hf1⟩ := hp
      rw [hae] at hw; clear hae
      have hfr : os_fr C C_11 := fun x y h => (hf1 x y h).trans (hfr x y h)
      obtain ⟨x_13, hx_13⟩ : ∃ z, z = es_back x l0 sn := ⟨_, rfl⟩
      rw [← hx_13] at hO
      have hO0 := hO
      obtain ⟨by0, wt, h30, h40, h50, h60, h70, hlen, hby, hwn, hw0, hwt⟩ := hO
      refine lv_goto (tgt := 48) hx hb d_O_settle_32 (by decide) ?_
      refine lv_aload_n hx hb d_O_settle_48 rfl (lv_at hl 1 rfl) ?_
      refine lv_iconst (v := 0) hx hb d_O_settle_49 (by decide) ?_
      refine pw_put (Cn := "GraphWriter$Out") (T := F_O) (N := 11) (v := .int 0) (ty := .int) hx hb hts in_O ft_O to_O nm_O hown hK hw 3 0 (by decide) rfl h30 rfl 6 (by decide) (hts _ wd_97) (fun _ h9 => h9) rfl (by decide +kernel) rfl rfl (Nat.le_of_ble_eq_true rfl) d_O_settle_50 (fun H locs hw => ?_)
      have hw : pw_H D cls9 A s.heap ad C ad (pw_up C_11 3 0 (some (.inr (1, [.ref (ad 4 0), .ref (ad 5 0), .ref (ad 6 0), .int (nI x_13.1.length), .int (nI wz), .int x_13.2.2.2, .int 0, .ref (ad 7 0), .int sn.2.1, .int sn.2.2.1, .int sn.2.2.2])))) H locs := hw
      generalize hC_14 : pw_up C_11 3 0 (some (.inr (1, [.ref (ad 4 0), .ref (ad 5 0), .ref (ad 6 0), .int (nI x_13.1.length), .int (nI wz), .int x_13.2.2.2, .int 0, .ref (ad 7 0), .int sn.2.1, .int sn.2.2.1, .int sn.2.2.2]))) = C_14 at hw
      have h40 : C_14 4 0 = some (.inl (ca 2, 1400, .inl by0)) := by rw [← hC_14]; exact (pw_up_ne _ _ (by decide)).trans h40
      have h50 : C_14 5 0 = some (.inl (ca 2, 255, .inl wt)) := by rw [← hC_14]; exact (pw_up_ne _ _ (by decide)).trans h50
      have h60 : C_14 6 0 = some (.inl (ca 0, 35, .inl x_13.2.2.1)) := by rw [← hC_14]; exact (pw_up_ne _ _ (by decide)).trans h60
      have h70 : C_14 7 0 = some (.inl (ca 0, 35, .inl sn.1)) := by rw [← hC_14]; exact (pw_up_ne _ _ (by decide)).trans h70
      have h30 : C_14 3 0 = some (.inr (1, [.ref (ad 4 0), .ref (ad 5 0), .ref (ad 6 0), .int (nI x_13.1.length), .int (nI wz), .int x_13.2.2.2, .int 0, .ref (ad 7 0), .int sn.2.1, .int sn.2.2.1, .int sn.2.2.2])) := by rw [← hC_14]; exact pw_up_self _ _ _ _
      have hfr : ∀ x y, (x < 3 ∨ 7 < x) → C_14 x y = C x y := fun x y h => by rw [← hC_14]; exact (pw_up_ne _ _ (by omega)).trans (hfr x y h)
      refine lv_iload_n hx hb d_O_settle_53 rfl (lv_at hl 0 rfl) ?_
      have ea : es_ans x = x.2.1 := by unfold es_ans; first | exact if_pos c_1 | exact if_neg c_1
      have es : es_set x l0 sn = es_oc x_13 0 := by rw [hx_13]; unfold es_set; rw [if_pos c_2]
      refine pw_iret hx hb hr hlocks hw ⟨⟨rfl, ?_, hfr⟩, ea.symm⟩ d_O_settle_54
      rw [es]; rw [if_pos c_2]
      exact ⟨by0, wt, h30, h40, h50, h60, h70, hlen, hby, hwn, hw0, hwt⟩
  · skip
    refine lv_aload_n hx hb d_O_settle_7 rfl (lv_at hl 0 rfl) ?_
    refine pw_get (Cn := "GraphWriter$Out") (T := F_O) (N := 11) hx hb hts in_O hown hK hw 3 0 rfl h30 rfl 3 (by decide) (hts _ wd_91) (fun _ h9 => h9) rfl d_O_settle_8 ?_
    refine lv_goto (tgt := 18) hx hb d_O_settle_11 (by decide) ?_
    refine lv_istore_n (lv' := [(1, .int (nI x.1.length)), (0, .ref (ad 3 0))]) hx hb d_O_settle_18 rfl hl (by decide) rfl (fun ls hl => ?_)
    refine lv_aload_n hx hb d_O_settle_19 rfl (lv_at hl 1 rfl) ?_
    refine pw_get (Cn := "GraphWriter$Out") (T := F_O) (N := 11) hx hb hts in_O hown hK hw 3 0 rfl h30 rfl 6 (by decide) (hts _ wd_97) (fun _ h9 => h9) rfl d_O_settle_20 ?_
    refine lv_bipush (v := (-2)) hx hb d_O_settle_23 (by decide) ?_
    refine lv_icmp_ne (tgt := 35) hx hb d_O_settle_25 (by decide) (fun c_15 => ?_) (fun c_15 => ?_)
    · skip
      refine lv_aload_n hx hb d_O_settle_35 rfl (lv_at hl 1 rfl) ?_
      refine pw_get (Cn := "GraphWriter$Out") (T := F_O) (N := 11) hx hb hts in_O hown hK hw 3 0 rfl h30 rfl 6 (by decide) (hts _ wd_97) (fun _ h9 => h9) rfl d_O_settle_36 ?_
      refine lv_bipush (v := (-3)) hx hb d_O_settle_39 (by decide) ?_
      refine lv_icmp_ne (tgt := 48) hx hb d_O_settle_41 (by decide) (fun c_16 => ?_) (fun c_16 => ?_)
      · skip
        refine lv_aload_n hx hb d_O_settle_48 rfl (lv_at hl 1 rfl) ?_
        refine lv_iconst (v := 0) hx hb d_O_settle_49 (by decide) ?_
        refine pw_put (Cn := "GraphWriter$Out") (T := F_O) (N := 11) (v := .int 0) (ty := .int) hx hb hts in_O ft_O to_O nm_O hown hK hw 3 0 (by decide) rfl h30 rfl 6 (by decide) (hts _ wd_97) (fun _ h9 => h9) rfl (by decide +kernel) rfl rfl (Nat.le_of_ble_eq_true rfl) d_O_settle_50 (fun H locs hw => ?_)
        have hw : pw_H D cls9 A s.heap ad C ad (pw_up C 3 0 (some (.inr (1, [.ref (ad 4 0), .ref (ad 5 0), .ref (ad 6 0), .int (nI x.1.length), .int (nI wn), .int x.2.2.2, .int 0, .ref (ad 7 0), .int sn.2.1, .int sn.2.2.1, .int sn.2.2.2])))) H locs := hw
        generalize hC_17 : pw_up C 3 0 (some (.inr (1, [.ref (ad 4 0), .ref (ad 5 0), .ref (ad 6 0), .int (nI x.1.length), .int (nI wn), .int x.2.2.2, .int 0, .ref (ad 7 0), .int sn.2.1, .int sn.2.2.1, .int sn.2.2.2]))) = C_17 at hw
        have h40 : C_17 4 0 = some (.inl (ca 2, 1400, .inl by0)) := by rw [← hC_17]; exact (pw_up_ne _ _ (by decide)).trans h40
        have h50 : C_17 5 0 = some (.inl (ca 2, 255, .inl wt)) := by rw [← hC_17]; exact (pw_up_ne _ _ (by decide)).trans h50
        have h60 : C_17 6 0 = some (.inl (ca 0, 35, .inl x.2.2.1)) := by rw [← hC_17]; exact (pw_up_ne _ _ (by decide)).trans h60
        have h70 : C_17 7 0 = some (.inl (ca 0, 35, .inl sn.1)) := by rw [← hC_17]; exact (pw_up_ne _ _ (by decide)).trans h70
        have h30 : C_17 3 0 = some (.inr (1, [.ref (ad 4 0), .ref (ad 5 0), .ref (ad 6 0), .int (nI x.1.length), .int (nI wn), .int x.2.2.2, .int 0, .ref (ad 7 0), .int sn.2.1, .int sn.2.2.1, .int sn.2.2.2])) := by rw [← hC_17]; exact pw_up_self _ _ _ _
        have hfr : ∀ x y, (x < 3 ∨ 7 < x) → C_17 x y = C x y := fun x y h => by rw [← hC_17]; exact (pw_up_ne _ _ (by omega)).trans (hfr x y h)
        refine lv_iload_n hx hb d_O_settle_53 rfl (lv_at hl 0 rfl) ?_
        have ea : es_ans x = nI x.1.length := by unfold es_ans; first | exact if_pos c_1 | exact if_neg c_1
        have es : es_set x l0 sn = es_oc x 0 := by unfold es_set; rw [if_neg c_15, if_neg c_16]
        refine pw_iret hx hb hr hlocks hw ⟨⟨rfl, ?_, hfr⟩, ea.symm⟩ d_O_settle_54
        rw [es]; rw [if_neg c_15]
        exact ⟨by0, wt, h30, h40, h50, h60, h70, hlen, hby, hwn, hw0, hwt⟩
      · skip
        refine lv_aload_n hx hb d_O_settle_44 rfl (lv_at hl 1 rfl) ?_
        refine pw_callv (va_runV (As := []) (rest := []) ⟨hx, hb, hml, hown, hts0⟩ (k_O_forgetHandles hZ hO0 _) (cwV 0 hts0 (wd_V wd_131 wd_711 wd_129 wd_130 wd_54) rfl rfl rfl (by decide +kernel) ⟨Nat.le_of_ble_eq_true rfl, Nat.le_of_ble_eq_true rfl⟩) (pw_preV hZ hw hA hK hz rfl h30 rfl) rfl rfl hl.1 rfl (lv_room (Nat.le_of_ble_eq_true rfl)) d_O_settle_45 ⟨Nat.le_of_ble_eq_true rfl, Nat.le_of_ble_eq_true rfl⟩) hw hA (fun ad_18 C_19 H locs hp hw => ?_)
        obtain ⟨hae, hO, hf1⟩ := hp
        rw [hae] at hw; clear hae
        have hfr : os_fr C C_19 := fun x y h => (hf1 x y h).trans (hfr x y h)
        obtain ⟨x_21, hx_21⟩ : ∃ z, z = es_forget x := ⟨_, rfl⟩
        rw [← hx_21] at hO
        have hO0 := hO
        obtain ⟨by0, wt, h30, h40, h50, h60, h70, hlen, hby, hwn, hw0, hwt⟩ := hO
        refine lv_aload_n hx hb d_O_settle_48 rfl (lv_at hl 1 rfl) ?_
        refine lv_iconst (v := 0) hx hb d_O_settle_49 (by decide) ?_
        refine pw_put (Cn := "GraphWriter$Out") (T := F_O) (N := 11) (v := .int 0) (ty := .int) hx hb hts in_O ft_O to_O nm_O hown hK hw 3 0 (by decide) rfl h30 rfl 6 (by decide) (hts _ wd_97) (fun _ h9 => h9) rfl (by decide +kernel) rfl rfl (Nat.le_of_ble_eq_true rfl) d_O_settle_50 (fun H locs hw => ?_)
        have hw : pw_H D cls9 A s.heap ad C ad (pw_up C_19 3 0 (some (.inr (1, [.ref (ad 4 0), .ref (ad 5 0), .ref (ad 6 0), .int (nI x_21.1.length), .int (nI wn), .int x_21.2.2.2, .int 0, .ref (ad 7 0), .int sn.2.1, .int sn.2.2.1, .int sn.2.2.2])))) H locs := hw
        generalize hC_22 : pw_up C_19 3 0 (some (.inr (1, [.ref (ad 4 0), .ref (ad 5 0), .ref (ad 6 0), .int (nI x_21.1.length), .int (nI wn), .int x_21.2.2.2, .int 0, .ref (ad 7 0), .int sn.2.1, .int sn.2.2.1, .int sn.2.2.2]))) = C_22 at hw
        have h40 : C_22 4 0 = some (.inl (ca 2, 1400, .inl by0)) := by rw [← hC_22]; exact (pw_up_ne _ _ (by decide)).trans h40
        have h50 : C_22 5 0 = some (.inl (ca 2, 255, .inl wt)) := by rw [← hC_22]; exact (pw_up_ne _ _ (by decide)).trans h50
        have h60 : C_22 6 0 = some (.inl (ca 0, 35, .inl x_21.2.2.1)) := by rw [← hC_22]; exact (pw_up_ne _ _ (by decide)).trans h60
        have h70 : C_22 7 0 = some (.inl (ca 0, 35, .inl sn.1)) := by rw [← hC_22]; exact (pw_up_ne _ _ (by decide)).trans h70
        have h30 : C_22 3 0 = some (.inr (1, [.ref (ad 4 0), .ref (ad 5 0), .ref (ad 6 0), .int (nI x_21.1.length), .int (nI wn), .int x_21.2.2.2, .int 0, .ref (ad 7 0), .int sn.2.1, .int sn.2.2.1, .int sn.2.2.2])) := by rw [← hC_22]; exact pw_up_self _ _ _ _
        have hfr : ∀ x y, (x < 3 ∨ 7 < x) → C_22 x y = C x y := fun x y h => by rw [← hC_22]; exact (pw_up_ne _ _ (by omega)).trans (hfr x y h)
        refine lv_iload_n hx hb d_O_settle_53 rfl (lv_at hl 0 rfl) ?_
        have ea : es_ans x = nI x.1.length := by unfold es_ans; first | exact if_pos c_1 | exact if_neg c_1
        have es : es_set x l0 sn = es_oc x_21 0 := by rw [hx_21]; unfold es_set; rw [if_neg c_15, if_pos c_16]
        refine pw_iret hx hb hr hlocks hw ⟨⟨rfl, ?_, hfr⟩, ea.symm⟩ d_O_settle_54
        rw [es]; rw [if_neg c_15]
        exact ⟨by0, wt, h30, h40, h50, h60, h70, hlen, hby, hwn, hw0, hwt⟩
    · skip
      refine lv_aload_n hx hb d_O_settle_28 rfl (lv_at hl 1 rfl) ?_
      refine pw_callv (va_runV (As := []) (rest := []) ⟨hx, hb, hml, hown, hts0⟩ (k_O_goBack hZ hO0 h1 h2 h3 h4 _) (cwV 0 hts0 (wd_V wd_710 wd_707 wd_709 wd_18 wd_54) rfl rfl rfl (by decide +kernel) ⟨Nat.le_of_ble_eq_true rfl, Nat.le_of_ble_eq_true rfl⟩) (pw_preV hZ hw hA hK hz rfl h30 rfl) rfl rfl hl.1 rfl (lv_room (Nat.le_of_ble_eq_true rfl)) d_O_settle_29 ⟨Nat.le_of_ble_eq_true rfl, Nat.le_of_ble_eq_true rfl⟩) hw hA (fun ad_23 C_24 H locs hp hw => ?_)
      obtain ⟨hae, hO, hf1⟩ := hp
      rw [hae] at hw; clear hae
      have hfr : os_fr C C_24 := fun x y h => (hf1 x y h).trans (hfr x y h)
      obtain ⟨x_26, hx_26⟩ : ∃ z, z = es_back x l0 sn := ⟨_, rfl⟩
      rw [← hx_26] at hO
      have hO0 := hO
      obtain ⟨by0, wt, h30, h40, h50, h60, h70, hlen, hby, hwn, hw0, hwt⟩ := hO
      refine lv_goto (tgt := 48) hx hb d_O_settle_32 (by decide) ?_
      refine lv_aload_n hx hb d_O_settle_48 rfl (lv_at hl 1 rfl) ?_
      refine lv_iconst (v := 0) hx hb d_O_settle_49 (by decide) ?_
      refine pw_put (Cn := "GraphWriter$Out") (T := F_O) (N := 11) (v := .int 0) (ty := .int) hx hb hts in_O ft_O to_O nm_O hown hK hw 3 0 (by decide) rfl h30 rfl 6 (by decide) (hts _ wd_97) (fun _ h9 => h9) rfl (by decide +kernel) rfl rfl (Nat.le_of_ble_eq_true rfl) d_O_settle_50 (fun H locs hw => ?_)
      have hw : pw_H D cls9 A s.heap ad C ad (pw_up C_24 3 0 (some (.inr (1, [.ref (ad 4 0), .ref (ad 5 0), .ref (ad 6 0), .int (nI x_26.1.length), .int (nI wz), .int x_26.2.2.2, .int 0, .ref (ad 7 0), .int sn.2.1, .int sn.2.2.1, .int sn.2.2.2])))) H locs := hw
      generalize hC_27 : pw_up C_24 3 0 (some (.inr (1, [.ref (ad 4 0), .ref (ad 5 0), .ref (ad 6 0), .int (nI x_26.1.length), .int (nI wz), .int x_26.2.2.2, .int 0, .ref (ad 7 0), .int sn.2.1, .int sn.2.2.1, .int sn.2.2.2]))) = C_27 at hw
      have h40 : C_27 4 0 = some (.inl (ca 2, 1400, .inl by0)) := by rw [← hC_27]; exact (pw_up_ne _ _ (by decide)).trans h40
      have h50 : C_27 5 0 = some (.inl (ca 2, 255, .inl wt)) := by rw [← hC_27]; exact (pw_up_ne _ _ (by decide)).trans h50
      have h60 : C_27 6 0 = some (.inl (ca 0, 35, .inl x_26.2.2.1)) := by rw [← hC_27]; exact (pw_up_ne _ _ (by decide)).trans h60
      have h70 : C_27 7 0 = some (.inl (ca 0, 35, .inl sn.1)) := by rw [← hC_27]; exact (pw_up_ne _ _ (by decide)).trans h70
      have h30 : C_27 3 0 = some (.inr (1, [.ref (ad 4 0), .ref (ad 5 0), .ref (ad 6 0), .int (nI x_26.1.length), .int (nI wz), .int x_26.2.2.2, .int 0, .ref (ad 7 0), .int sn.2.1, .int sn.2.2.1, .int sn.2.2.2])) := by rw [← hC_27]; exact pw_up_self _ _ _ _
      have hfr : ∀ x y, (x < 3 ∨ 7 < x) → C_27 x y = C x y := fun x y h => by rw [← hC_27]; exact (pw_up_ne _ _ (by omega)).trans (hfr x y h)
      refine lv_iload_n hx hb d_O_settle_53 rfl (lv_at hl 0 rfl) ?_
      have ea : es_ans x = nI x.1.length := by unfold es_ans; first | exact if_pos c_1 | exact if_neg c_1
      have es : es_set x l0 sn = es_oc x_26 0 := by rw [hx_26]; unfold es_set; rw [if_pos c_15]
      refine pw_iret hx hb hr hlocks hw ⟨⟨rfl, ?_, hfr⟩, ea.symm⟩ d_O_settle_54
      rw [es]; rw [if_pos c_15]
      exact ⟨by0, wt, h30, h40, h50, h60, h70, hlen, hby, hwn, hw0, hwt⟩
set_option maxHeartbeats 4000000 in
set_option maxRecDepth 100000 in
/-- O_letWait -/
theorem k_O_letWait {l : Launch} {D : va_G} {ca : Nat → ClassId} {Z : (Nat → Prop) → State → Prop} (hZ : pw_Zok Z) {ad : pw_A} {C : pw_C} {x : ES} {w0 : List Int32} {wn : Nat} {sn : SN} (hO : os_x ca ad C x w0 wn sn) (n : Int64) {w : Nat} (hw8 : w ≤ 8) (hq : wn = w0.length) (hq2 : wn < 255) : gc_Con l y_O_letWait c_O_letWait ({ frames := 2, cells := 0, slots := 0, locals := 45 }) D ca Z [.ref (ad 3 0), .long n, .int (nI w)] ad C (pw_pv (fun ad' C' => ad' = ad ∧ os_x ca ad C' (es_wait n w w x w0).1 (es_wait n w w x w0).2 (es_wait n w w x w0).2.length sn ∧ os_fr C C')) 0 0 := by
  have hO0 := hO
  obtain ⟨by0, wt, h30, h40, h50, h60, h70, hlen, hby, hwn, hw0, hwt⟩ := hO
  refine pw_ofW (cc := b_O_letWait) (maxL := 5) (ret := none) (by decide) rfl (Nat.le_of_ble_eq_true rfl) ?_
  intro p e s m args below meth c A ls hB hA hw hK hz hl
  obtain ⟨hx, hb, hr, hml, hts0, hlocks, hown, hnm⟩ := hB
  have hts := wd_hts hts0
  have hown : s.vm.findClass "GraphWriter$Out" = some m.cls := hown
  have hl : lv_has ls 5 [(0, .ref (ad 3 0)), (1, .long n), (3, .int (nI w))] := hl
  have hfr : os_fr C C := fun _ _ _ => rfl
  have key : ∀ (r : Nat), r ≤ w → ∀ (x1 : ES) (q1 : List Int32) (C1 : pw_C) (H : Heap) (locs : List Loc) (ls : Array Slot), es_wait n w r x1 q1 = es_wait n w w x w0 → q1.length < 255 → os_x ca ad C1 x1 q1 q1.length sn → os_fr C C1 → pw_H D cls9 A s.heap ad C ad C1 H locs → lv_has ls 5 [(4, .int (8 * nI r - 8)), (0, .ref (ad 3 0)), (1, .long n), (3, .int (nI w))] → W p l e ({ frames := 2, cells := 0, slots := 0, locals := 45 }) s m args below meth c H locs 0 0 (MQ below (pw_Q D cls9 ad C (pw_pv (fun ad' C' => ad' = ad ∧ os_x ca ad C' (es_wait n w w x w0).1 (es_wait n w w x w0).2 (es_wait n w w x w0).2.length sn ∧ os_fr C C')) A) args s 0 0 A) (F0 m 9 ls []) := by
    intro r
    induction r with
    | zero =>
      intro hr9 x1 q1 C1 H locs ls hes hq1 hO hfr hw hl
      have hO0 := hO
      obtain ⟨by0, wt, h30, h40, h50, h60, h70, hlen, hby, hwn, hw0, hwt⟩ := hO
      refine lv_iload hx hb d_O_letWait_9 (lv_at hl 0 rfl) ?_
      refine lv_if_lt (tgt := 59) hx hb d_O_letWait_11 (by decide) (fun c_1 => ?_) (fun c_1 => ?_)
      · skip
        have e1 : (es_wait n w w x w0) = (x1, q1) := hes.symm
        refine pw_vret hx hb hr hlocks hw ⟨rfl, ?_, hfr⟩ d_O_letWait_59
        rw [e1]; exact hO0
      · exact absurd (by decide) c_1
    | succ r ih =>
      intro hr9 x1 q1 C1 H locs ls hes hq1 hO hfr hw hl
      have hO0 := hO
      obtain ⟨by0, wt, h30, h40, h50, h60, h70, hlen, hby, hwn, hw0, hwt⟩ := hO
      rw [es_sh1 r] at hl
      refine lv_iload hx hb d_O_letWait_9 (lv_at hl 0 rfl) ?_
      refine lv_if_lt (tgt := 59) hx hb d_O_letWait_11 (by decide) (fun c_2 => ?_) (fun c_2 => ?_)
      · exact absurd c_2 (nI_pos (by omega))
      · skip
        refine lv_aload_n hx hb d_O_letWait_14 rfl (lv_at hl 1 rfl) ?_
        refine pw_get (Cn := "GraphWriter$Out") (T := F_O) (N := 11) hx hb hts in_O hown hK hw 3 0 rfl h30 rfl 1 (by decide) (hts _ wd_88) (fun _ h9 => h9) rfl d_O_letWait_15 ?_
        refine lv_aload_n hx hb d_O_letWait_18 rfl (lv_at hl 1 rfl) ?_
        refine pw_get (Cn := "GraphWriter$Out") (T := F_O) (N := 11) hx hb hts in_O hown hK hw 3 0 rfl h30 rfl 4 (by decide) (hts _ wd_93) (fun _ h9 => h9) rfl d_O_letWait_19 ?_
        refine lv_lload_n hx hb d_O_letWait_22 rfl (lv_at hl 2 rfl) ?_
        refine lv_iload hx hb d_O_letWait_23 (lv_at hl 0 rfl) ?_
        refine lv_lushr hx hb d_O_letWait_25 rfl ?_
        refine lv_l2i hx hb d_O_letWait_26 rfl ?_
        refine lv_i2b hx hb d_O_letWait_27 rfl ?_
        refine pw_bast hx hb hK hw 5 0 rfl 2 h50 rfl (by decide) q1.length rfl (by omega) (by omega) d_O_letWait_28 (fun H locs hw => ?_)
        have hw : pw_H D cls9 A s.heap ad C ad (pw_up C1 5 0 (some (.inl (ca 2, 255, .inl (upd wt q1.length (vp_nar .byte ((((n.toUInt64 >>> ((nI (8 * r)).toInt64.toUInt64 &&& Int64.toUInt64 63)).toInt64).toInt32).toInt8.toInt32))))))) H locs := hw
        generalize hC_3 : pw_up C1 5 0 (some (.inl (ca 2, 255, .inl (upd wt q1.length (vp_nar .byte ((((n.toUInt64 >>> ((nI (8 * r)).toInt64.toUInt64 &&& Int64.toUInt64 63)).toInt64).toInt32).toInt8.toInt32)))))) = C_3 at hw
        have h30 : C_3 3 0 = some (.inr (1, [.ref (ad 4 0), .ref (ad 5 0), .ref (ad 6 0), .int (nI x1.1.length), .int (nI q1.length), .int x1.2.2.2, .int x1.2.1, .ref (ad 7 0), .int sn.2.1, .int sn.2.2.1, .int sn.2.2.2])) := by rw [← hC_3]; exact (pw_up_ne _ _ (by decide)).trans h30
        have h40 : C_3 4 0 = some (.inl (ca 2, 1400, .inl by0)) := by rw [← hC_3]; exact (pw_up_ne _ _ (by decide)).trans h40
        have h60 : C_3 6 0 = some (.inl (ca 0, 35, .inl x1.2.2.1)) := by rw [← hC_3]; exact (pw_up_ne _ _ (by decide)).trans h60
        have h70 : C_3 7 0 = some (.inl (ca 0, 35, .inl sn.1)) := by rw [← hC_3]; exact (pw_up_ne _ _ (by decide)).trans h70
        have h50 : C_3 5 0 = some (.inl (ca 2, 255, .inl (upd wt q1.length (vp_nar .byte ((((n.toUInt64 >>> ((nI (8 * r)).toInt64.toUInt64 &&& Int64.toUInt64 63)).toInt64).toInt32).toInt8.toInt32))))) := by rw [← hC_3]; exact pw_up_self _ _ _ _
        have hfr : ∀ x y, (x < 3 ∨ 7 < x) → C_3 x y = C x y := fun x y h => by rw [← hC_3]; exact (pw_up_ne _ _ (by omega)).trans (hfr x y h)
        refine lv_aload_n hx hb d_O_letWait_29 rfl (lv_at hl 1 rfl) ?_
        refine lv_dup hx hb d_O_letWait_30 rfl ?_
        refine pw_get (Cn := "GraphWriter$Out") (T := F_O) (N := 11) hx hb hts in_O hown hK hw 3 0 rfl h30 rfl 4 (by decide) (hts _ wd_93) (fun _ h9 => h9) rfl d_O_letWait_31 ?_
        refine lv_iconst (v := 1) hx hb d_O_letWait_34 (by decide) ?_
        refine lv_iadd hx hb d_O_letWait_35 ?_
        rw [nI_1]
        refine pw_put (Cn := "GraphWriter$Out") (T := F_O) (N := 11) (v := .int (nI (q1.length + 1))) (ty := .int) hx hb hts in_O ft_O to_O nm_O hown hK hw 3 0 (by decide) rfl h30 rfl 4 (by decide) (hts _ wd_93) (fun _ h9 => h9) rfl (by decide +kernel) rfl rfl (Nat.le_of_ble_eq_true rfl) d_O_letWait_36 (fun H locs hw => ?_)
        have hw : pw_H D cls9 A s.heap ad C ad (pw_up C_3 3 0 (some (.inr (1, [.ref (ad 4 0), .ref (ad 5 0), .ref (ad 6 0), .int (nI x1.1.length), .int (nI (q1.length + 1)), .int x1.2.2.2, .int x1.2.1, .ref (ad 7 0), .int sn.2.1, .int sn.2.2.1, .int sn.2.2.2])))) H locs := hw
        generalize hC_4 : pw_up C_3 3 0 (some (.inr (1, [.ref (ad 4 0), .ref (ad 5 0), .ref (ad 6 0), .int (nI x1.1.length), .int (nI (q1.length + 1)), .int x1.2.2.2, .int x1.2.1, .ref (ad 7 0), .int sn.2.1, .int sn.2.2.1, .int sn.2.2.2]))) = C_4 at hw
        have h40 : C_4 4 0 = some (.inl (ca 2, 1400, .inl by0)) := by rw [← hC_4]; exact (pw_up_ne _ _ (by decide)).trans h40
        have h50 : C_4 5 0 = some (.inl (ca 2, 255, .inl (upd wt q1.length (vp_nar .byte ((((n.toUInt64 >>> ((nI (8 * r)).toInt64.toUInt64 &&& Int64.toUInt64 63)).toInt64).toInt32).toInt8.toInt32))))) := by rw [← hC_4]; exact (pw_up_ne _ _ (by decide)).trans h50
        have h60 : C_4 6 0 = some (.inl (ca 0, 35, .inl x1.2.2.1)) := by rw [← hC_4]; exact (pw_up_ne _ _ (by decide)).trans h60
        have h70 : C_4 7 0 = some (.inl (ca 0, 35, .inl sn.1)) := by rw [← hC_4]; exact (pw_up_ne _ _ (by decide)).trans h70
        have h30 : C_4 3 0 = some (.inr (1, [.ref (ad 4 0), .ref (ad 5 0), .ref (ad 6 0), .int (nI x1.1.length), .int (nI (q1.length + 1)), .int x1.2.2.2, .int x1.2.1, .ref (ad 7 0), .int sn.2.1, .int sn.2.2.1, .int sn.2.2.2])) := by rw [← hC_4]; exact pw_up_self _ _ _ _
        have hfr : ∀ x y, (x < 3 ∨ 7 < x) → C_4 x y = C x y := fun x y h => by rw [← hC_4]; exact (pw_up_ne _ _ (by omega)).trans (hfr x y h)
        obtain ⟨b1, hb1⟩ : ∃ z, z = es_by n w (w - 1 - r) := ⟨_, rfl⟩
        have hlq : (q1 ++ [b1]).length = q1.length + 1 := by simp
        have hO9 : os_x ca ad C_4 x1 (q1 ++ [b1]) (q1 ++ [b1]).length sn := by
          refine ⟨by0, _, ?_, h40, h50, h60, h70, hlen, hby, Nat.le_refl _, by rw [hlq]; omega, fun i hi => ?_⟩
          · rw [hlq]; exact h30
          · rw [hlq] at hi
            by_cases h2 : i < q1.length
            · rw [pk_un (by omega), hwt i h2, es_getl h2]
            · rw [show i = q1.length by omega, pk_us, es_getr (Nat.le_refl _), pk_vb, Nat.sub_self]; show _ = b1; rw [hb1]; unfold es_by; rw [show w - 1 - (w - 1 - r) = r by omega]
        refine lv_aload_n hx hb d_O_letWait_39 rfl (lv_at hl 1 rfl) ?_
        refine pw_get (Cn := "GraphWriter$Out") (T := F_O) (N := 11) hx hb hts in_O hown hK hw 3 0 rfl h30 rfl 4 (by decide) (hts _ wd_93) (fun _ h9 => h9) rfl d_O_letWait_40 ?_
        refine lv_sipush (v := 255) hx hb d_O_letWait_43 (by decide) ?_
        refine lv_icmp_ne (tgt := 53) hx hb d_O_letWait_46 (by decide) (fun c_5 => ?_) (fun c_5 => ?_)
        · have hn5 : ¬ q1.length + 1 = 255 := fun z => c_5 (by rw [z]; rfl)
          refine lv_iinc (v := (nI (8 * r)) + (-8)) (lv' := [(4, .int ((nI (8 * r)) + (-8))), (0, .ref (ad 3 0)), (1, .long n), (3, .int (nI w))]) hx hb d_O_letWait_53 hl (k := 0) rfl rfl (by decide) rfl (fun ls hl => ?_)
          rw [es_sh2 r] at hl
          refine lv_goto (tgt := 9) hx hb d_O_letWait_56 (by decide) ?_
          exact ih (by omega) x1 (q1 ++ [b1]) _ _ _ _ (by rw [← hes, hb1]; show _ = es_wait n w (r + 1) x1 q1; rw [es_wait, if_neg (by simp; omega)]) (by rw [hlq]; omega) hO9 hfr hw hl
        · have hn5 : q1.length + 1 = 255 := (nI_eq (by omega) (by decide)).mp c_5
          refine lv_aload_n hx hb d_O_letWait_49 rfl (lv_at hl 1 rfl) ?_
          refine pw_callv (va_runV (As := []) (rest := []) ⟨hx, hb, hml, hown, hts0⟩ (k_O_flush hZ hO9 _) (cwV 0 hts0 (wd_V wd_583 wd_580 wd_581 wd_582 wd_54) rfl rfl rfl (by decide +kernel) ⟨Nat.le_of_ble_eq_true rfl, Nat.le_of_ble_eq_true rfl⟩) (pw_preV hZ hw hA hK hz rfl h30 rfl) rfl rfl hl.1 rfl (lv_room (Nat.le_of_ble_eq_true rfl)) d_O_letWait_50 ⟨Nat.le_of_ble_eq_true rfl, Nat.le_of_ble_eq_true rfl⟩) hw hA (fun ad_6 C_7 H locs hp hw => ?_)
          obtain ⟨hae, hO, hf1⟩ := hp
          rw [hae] at hw; clear hae
          have hfr : os_fr C C_7 := fun x y h => (hf1 x y h).trans (hfr x y h)
          have hO := os_cut hO
          rw [List.take_zero, List.take_length] at hO
          refine lv_iinc (v := (nI (8 * r)) + (-8)) (lv' := [(4, .int ((nI (8 * r)) + (-8))), (0, .ref (ad 3 0)), (1, .long n), (3, .int (nI w))]) hx hb d_O_letWait_53 hl (k := 0) rfl rfl (by decide) rfl (fun ls hl => ?_)
          rw [es_sh2 r] at hl
          refine lv_goto (tgt := 9) hx hb d_O_letWait_56 (by decide) ?_
          exact ih (by omega) _ [] _ _ _ _ (by rw [← hes, hb1]; show _ = es_wait n w (r + 1) x1 q1; rw [es_wait, if_pos (by simp; omega)]) (by decide) hO hfr hw hl
  refine lv_bipush (v := 8) hx hb d_O_letWait_0 (by decide) ?_
  refine lv_iload_n hx hb d_O_letWait_2 rfl (lv_at hl 2 rfl) ?_
  refine lv_imul hx hb d_O_letWait_3 ?_
  refine lv_bipush (v := 8) hx hb d_O_letWait_4 (by decide) ?_
  refine lv_isub hx hb d_O_letWait_6 ?_
  refine lv_istore (lv' := [(4, .int ((8 * (nI w)) - 8)), (0, .ref (ad 3 0)), (1, .long n), (3, .int (nI w))]) hx hb d_O_letWait_7 hl (by decide) rfl (fun ls hl => ?_)
  exact key w (Nat.le_refl _) x w0 C _ _ _ rfl (by omega) (by rw [← hq]; exact hO0) hfr hw hl
