set_option maxHeartbeats 4000000 in
set_option maxRecDepth 100000 in
theorem k_G_keep {l : Launch} {D : va_G} {ca : Nat → ClassId} {Z : (Nat → Prop) → State → Prop} {ad : pw_A} {C : pw_C} {mk b1 b3 : Nat} {f : Nat → Option Nat} {fs : List Value} (g00 : C 0 0 = some (.inr (0, [.ref b1, .ref (ad 2 0), .ref b3, .int (nI mk)]))) (g20 : C 2 0 = some (.inl (ca 5, 12, .inr (.inr (.inr (.inr f)))))) (hmk : mk < 12) (p20 : C 20 mk = some (.inr (3, fs))) : gc_Con l y_G_keep c_G_keep ({ frames := 0, cells := 0, slots := 0, locals := 0 }) D ca Z [.ref (ad 0 0), .ref (ad 20 mk)] ad C (pw_pi (fun r ad' C' => (ad' = ad ∧ C' 0 0 = some (.inr (0, [.ref b1, .ref (ad 2 0), .ref b3, .int (nI (mk + 1))])) ∧ C' 2 0 = some (.inl (ca 5, 12, .inr (.inr (.inr (.inr (va_up f mk (some (ad 20 mk)))))))) ∧ ∀ x y, ¬ (x = 0 ∧ y = 0) → ¬ (x = 2 ∧ y = 0) → C' x y = C x y) ∧ r = nI mk)) 0 0 := by
  refine pw_ofW (cc := b_G_keep) (maxL := 2) (ret := (some FieldType.int)) (by decide) rfl (Nat.le_of_ble_eq_true rfl) ?_
  intro p e s m args below meth c A ls hB hA hw hK hz hl
  obtain ⟨hx, hb, hr, hml, hts0, hlocks, hown, hnm⟩ := hB
  have hts := wd_hts hts0
  have hown : s.vm.findClass "GraphWriter" = some m.cls := hown
  have hl : lv_has ls 2 [(0, .ref (ad 0 0)), (1, .ref (ad 20 mk))] := hl
  have hfr : ∀ x y, ¬ (x = 0 ∧ y = 0) → ¬ (x = 2 ∧ y = 0) → C x y = C x y := fun _ _ _ _ => rfl
  refine lv_aload_n hx hb d_G_keep_0 rfl (lv_at hl 0 rfl) ?_
  refine pw_get (Cn := "GraphWriter") (T := F_G) (N := 4) hx hb hts in_G hown hK hw 0 0 rfl g00 rfl 1 (by decide) (hts _ wd_141) (fun _ h9 => h9) rfl d_G_keep_1 ?_
  refine lv_aload_n hx hb d_G_keep_4 rfl (lv_at hl 0 rfl) ?_
  refine pw_get (Cn := "GraphWriter") (T := F_G) (N := 4) hx hb hts in_G hown hK hw 0 0 rfl g00 rfl 3 (by decide) (hts _ wd_143) (fun _ h9 => h9) rfl d_G_keep_5 ?_
  refine lv_aload_n hx hb d_G_keep_8 rfl (lv_at hl 1 rfl) ?_
  refine pw_aast (ci := 3) (r := ("GraphWriter$Thing", F_T, 7)) hx hb hK hw 2 0 rfl 5 g20 rfl 20 mk rfl p20 rfl (by decide) (by decide) mk rfl (by omega) (by omega) d_G_keep_9 (fun H locs hw => ?_)
  have hw : pw_H D cls9 A s.heap ad C ad (pw_up C 2 0 (some (.inl (ca 5, 12, .inr (.inr (.inr (.inr (va_up f mk (some (ad 20 mk)))))))))) H locs := hw
  generalize hC_1 : pw_up C 2 0 (some (.inl (ca 5, 12, .inr (.inr (.inr (.inr (va_up f mk (some (ad 20 mk))))))))) = C_1 at hw
  have g00 : C_1 0 0 = some (.inr (0, [.ref b1, .ref (ad 2 0), .ref b3, .int (nI mk)])) := by rw [← hC_1]; exact (pw_up_ne _ _ (by decide)).trans g00
  have p20 : C_1 20 mk = some (.inr (3, fs)) := by rw [← hC_1]; exact (pw_up_ne _ _ (by omega)).trans p20
  have g20 : C_1 2 0 = some (.inl (ca 5, 12, .inr (.inr (.inr (.inr (va_up f mk (some (ad 20 mk)))))))) := by rw [← hC_1]; exact pw_up_self _ _ _ _
  have hfr : ∀ x y, ¬ (x = 0 ∧ y = 0) → ¬ (x = 2 ∧ y = 0) → C_1 x y = C x y := fun x y h0 h1 => by rw [← hC_1]; exact (pw_up_ne _ _ (by omega)).trans (hfr x y h0 h1)
  refine lv_aload_n hx hb d_G_keep_10 rfl (lv_at hl 0 rfl) ?_
  refine lv_dup hx hb d_G_keep_11 rfl ?_
  refine pw_get (Cn := "GraphWriter") (T := F_G) (N := 4) hx hb hts in_G hown hK hw 0 0 rfl g00 rfl 3 (by decide) (hts _ wd_143) (fun _ h9 => h9) rfl d_G_keep_12 ?_
  refine lv_iconst (v := 1) hx hb d_G_keep_15 (by decide) ?_
  refine lv_iadd hx hb d_G_keep_16 ?_
  rw [nI_1]
  refine pw_put (Cn := "GraphWriter") (T := F_G) (N := 4) (v := .int (nI (mk + 1))) (ty := .int) hx hb hts in_G ft_G to_G nm_G hown hK hw 0 0 (by decide) rfl g00 rfl 3 (by decide) (hts _ wd_143) (fun _ h9 => h9) rfl (by decide +kernel) rfl rfl (Nat.le_of_ble_eq_true rfl) d_G_keep_17 (fun H locs hw => ?_)
  have hw : pw_H D cls9 A s.heap ad C ad (pw_up C_1 0 0 (some (.inr (0, [.ref b1, .ref (ad 2 0), .ref b3, .int (nI (mk + 1))])))) H locs := hw
  generalize hC_2 : pw_up C_1 0 0 (some (.inr (0, [.ref b1, .ref (ad 2 0), .ref b3, .int (nI (mk + 1))]))) = C_2 at hw
  have g20 : C_2 2 0 = some (.inl (ca 5, 12, .inr (.inr (.inr (.inr (va_up f mk (some (ad 20 mk)))))))) := by rw [← hC_2]; exact (pw_up_ne _ _ (by decide)).trans g20
  have p20 : C_2 20 mk = some (.inr (3, fs)) := by rw [← hC_2]; exact (pw_up_ne _ _ (by omega)).trans p20
  have g00 : C_2 0 0 = some (.inr (0, [.ref b1, .ref (ad 2 0), .ref b3, .int (nI (mk + 1))])) := by rw [← hC_2]; exact pw_up_self _ _ _ _
  have hfr : ∀ x y, ¬ (x = 0 ∧ y = 0) → ¬ (x = 2 ∧ y = 0) → C_2 x y = C x y := fun x y h0 h1 => by rw [← hC_2]; exact (pw_up_ne _ _ (by omega)).trans (hfr x y h0 h1)
  refine lv_aload_n hx hb d_G_keep_20 rfl (lv_at hl 0 rfl) ?_
  refine pw_get (Cn := "GraphWriter") (T := F_G) (N := 4) hx hb hts in_G hown hK hw 0 0 rfl g00 rfl 3 (by decide) (hts _ wd_143) (fun _ h9 => h9) rfl d_G_keep_21 ?_
  refine lv_iconst (v := 1) hx hb d_G_keep_24 (by decide) ?_
  refine lv_isub hx hb d_G_keep_25 ?_
  rw [nI_pred]
  exact pw_iret hx hb hr hlocks hw ⟨⟨rfl, g00, g20, hfr⟩, rfl⟩ d_G_keep_26
