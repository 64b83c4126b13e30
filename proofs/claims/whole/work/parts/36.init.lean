theorem os_at.mv {ca : Nat → ClassId} {ad : pw_A} {C C1 : pw_C} {bs : List Int32} {oc : Int32} {la : Nat → Int32} {hn : Int32} {w0 : List Int32} {wn : Nat} {sn : SN} (h : os_at ca ad C bs oc la hn w0 wn sn) (hf : ∀ x, 2 < x → x < 8 → C1 x 0 = C x 0) : os_at ca ad C1 bs oc la hn w0 wn sn := by
  obtain ⟨by0, wt, h30, h40, h50, h60, h70, hr⟩ := h
  exact ⟨by0, wt, (hf 3 (by decide) (by decide)).trans h30, (hf 4 (by decide) (by decide)).trans h40, (hf 5 (by decide) (by decide)).trans h50, (hf 6 (by decide) (by decide)).trans h60, (hf 7 (by decide) (by decide)).trans h70, hr⟩
def es_z : ES := ([], 0, fun _ => 0, 0)
def sn_z : SN := (fun _ => 0, 0, 0, 0)
set_option maxHeartbeats 4000000 in
set_option maxRecDepth 100000 in
theorem k_O_init {l : Launch} {D : va_G} {ca : Nat → ClassId} {kS : Nat → Nat} {kT : Nat} {ad : pw_A} {C : pw_C} (h30 : C 3 0 = some (.inr (1, [.null, .null, .null, .int 0, .int 0, .int 0, .int 0, .null, .int 0, .int 0, .int 0]))) (n4 : C 4 0 = none) (n5 : C 5 0 = none) (n6 : C 6 0 = none) (n7 : C 7 0 = none) : gc_Con l y_O_init c_O_init ({ frames := 1, cells := 4, slots := 1725, locals := 60 }) D ca (z9_Z kS kT) [.ref (ad 3 0)] ad C (pw_pv (fun ad' C' => (∀ x y, ¬ (x = 4 ∧ y = 0) → ¬ (x = 5 ∧ y = 0) → ¬ (x = 6 ∧ y = 0) → ¬ (x = 7 ∧ y = 0) → ad' x y = ad x y) ∧ os_x ca ad' C' es_z [] 0 sn_z ∧ os_fr C C')) 4 1725 := by
  have hZ := z9_ok kS kT
  refine pw_ofW (cc := b_O_init) (maxL := 1) (ret := none) (by decide) rfl (Nat.le_of_ble_eq_true rfl) ?_
  intro p e s m args below meth c A ls hB hA hw hK hz hl
  obtain ⟨hx, hb, hr, hml, hts0, hlocks, hown, hnm⟩ := hB
  have hts := wd_hts hts0
  have hown : s.vm.findClass "GraphWriter$Out" = some m.cls := hown
  have hl : lv_has ls 1 [(0, .ref (ad 3 0))] := hl
  have hz0 := hz
  obtain ⟨hz1, hz2, hz3, -⟩ := hz0
  have hfr : ∀ x y, (x < 3 ∨ 7 < x) → C x y = C x y := fun _ _ _ => rfl
  refine lv_aload_n hx hb d_O_init_0 rfl (lv_at hl 0 rfl) ?_
  refine W.objInit hx hb hown (hts _ wd_85) (hts _ wd_74) (hts _ wd_75) rfl (by rw [hml]; exact hl.1) rfl d_O_init_1 (Nat.le_of_ble_eq_true rfl) (Nat.le_of_ble_eq_true rfl) ?_
  refine W.eq (g2 := F0 m 4 ls []) rfl ?_
  refine lv_aload_n hx hb d_O_init_4 rfl (lv_at hl 0 rfl) ?_
  refine lv_sipush (v := 1400) hx hb d_O_init_5 (by decide) ?_
  refine pw_newa (atype := .byte) (ty := .byte) (az := (1400, .inl (fun _ => 0))) hx hb (hts _ wd_126) rfl (fun t h => by cases h) hK hw hA 4 0 (by decide) n4 2 rfl (fun _ => rfl) (by decide) (by omega) (by show _ * 1 ≤ _; omega) (by (try dsimp only); omega) (by (try dsimp only); omega) d_O_init_8 (fun q_1 H hw => ?_)
  refine W.widen (k := 1) (n := 1400) (by omega) (by omega) ?_
  obtain ⟨ad_2, had_2⟩ : ∃ z, z = pw_up ad 4 0 q_1 := ⟨_, rfl⟩
  rw [← had_2] at hw
  have hsad_2 : ad_2 4 0 = q_1 := by rw [had_2]; exact pw_up_self _ _ _ _
  have hadk : ∀ x9 y9, ¬ (x9 = 4 ∧ y9 = 0) → ad_2 x9 y9 = ad x9 y9 := fun x9 y9 h9 => by rw [had_2]; exact pw_up_ne _ _ h9
  have hw : pw_H D cls9 A s.heap ad C ad_2 (pw_up C 4 0 (some (.inl (ca 2, 1400, .inl (fun _ => 0))))) H _ := hw
  generalize hC_3 : pw_up C 4 0 (some (.inl (ca 2, 1400, .inl (fun _ => 0)))) = C_3 at hw
  have h30 : C_3 3 0 = some (.inr (1, [.null, .null, .null, .int 0, .int 0, .int 0, .int 0, .null, .int 0, .int 0, .int 0])) := by rw [← hC_3]; exact (pw_up_ne _ _ (by decide)).trans h30
  have h40 : C_3 4 0 = some (.inl (ca 2, 1400, .inl (fun _ => 0))) := by rw [← hC_3]; exact pw_up_self _ _ _ _
  have hfr : ∀ x y, (x < 3 ∨ 7 < x) → C_3 x y = C x y := fun x y h0 => by rw [← hC_3]; exact (pw_up_ne _ _ (by omega)).trans (hfr x y h0)
  have n5 : C_3 5 0 = none := by rw [← hC_3]; exact (pw_up_ne _ _ (by decide)).trans n5
  have n6 : C_3 6 0 = none := by rw [← hC_3]; exact (pw_up_ne _ _ (by decide)).trans n6
  have n7 : C_3 7 0 = none := by rw [← hC_3]; exact (pw_up_ne _ _ (by decide)).trans n7
  refine pw_putF (Cn := "GraphWriter$Out") (T := F_O) (N := 11) (v := .ref q_1) (ty := .array .byte) hx hb hts in_O ft_O to_O nm_O hown hK hw 3 0 (by decide) (hadk 3 0 (by omega)) h30 rfl 0 (by decide) (hts _ wd_86) (fun _ h9 => h9) rfl hnm rfl (by decide +kernel) rfl rfl (Nat.le_of_ble_eq_true rfl) d_O_init_10 (fun H locs hw => ?_)
  have hw : pw_H D cls9 A s.heap ad C ad_2 (pw_up C_3 3 0 (some (.inr (1, [.ref q_1, .null, .null, .int 0, .int 0, .int 0, .int 0, .null, .int 0, .int 0, .int 0])))) H _ := hw
  generalize hC_4 : pw_up C_3 3 0 (some (.inr (1, [.ref q_1, .null, .null, .int 0, .int 0, .int 0, .int 0, .null, .int 0, .int 0, .int 0]))) = C_4 at hw
  have h40 : C_4 4 0 = some (.inl (ca 2, 1400, .inl (fun _ => 0))) := by rw [← hC_4]; exact (pw_up_ne _ _ (by decide)).trans h40
  have h30 : C_4 3 0 = some (.inr (1, [.ref q_1, .null, .null, .int 0, .int 0, .int 0, .int 0, .null, .int 0, .int 0, .int 0])) := by rw [← hC_4]; exact pw_up_self _ _ _ _
  have hfr : ∀ x y, (x < 3 ∨ 7 < x) → C_4 x y = C x y := fun x y h0 => by rw [← hC_4]; exact (pw_up_ne _ _ (by omega)).trans (hfr x y h0)
  have n5 : C_4 5 0 = none := by rw [← hC_4]; exact (pw_up_ne _ _ (by decide)).trans n5
  have n6 : C_4 6 0 = none := by rw [← hC_4]; exact (pw_up_ne _ _ (by decide)).trans n6
  have n7 : C_4 7 0 = none := by rw [← hC_4]; exact (pw_up_ne _ _ (by decide)).trans n7
  refine lv_aload_n hx hb d_O_init_13 rfl (lv_at hl 0 rfl) ?_
  refine lv_sipush (v := 255) hx hb d_O_init_14 (by decide) ?_
  refine pw_newa (atype := .byte) (ty := .byte) (az := (255, .inl (fun _ => 0))) hx hb (hts _ wd_126) rfl (fun t h => by cases h) hK hw hA 5 0 (by decide) n5 2 rfl (fun _ => rfl) (by decide) (by omega) (by show _ * 1 ≤ _; omega) (by (try dsimp only); omega) (by (try dsimp only); omega) d_O_init_17 (fun q_5 H hw => ?_)
  refine W.widen (k := 2) (n := 1655) (by omega) (by omega) ?_
  obtain ⟨ad_6, had_6⟩ : ∃ z, z = pw_up ad_2 5 0 q_5 := ⟨_, rfl⟩
  rw [← had_6] at hw
  have hsad_6 : ad_6 5 0 = q_5 := by rw [had_6]; exact pw_up_self _ _ _ _
  have hadk : ∀ x9 y9, ¬ (x9 = 4 ∧ y9 = 0) → ¬ (x9 = 5 ∧ y9 = 0) → ad_6 x9 y9 = ad x9 y9 := fun x9 y9 e0 h9 => by rw [had_6]; exact (pw_up_ne _ _ h9).trans (hadk x9 y9 e0)
  have hq_q_1 : ad_6 4 0 = q_1 := by rw [had_6]; exact (pw_up_ne _ _ (by omega)).trans hsad_2
  have hw : pw_H D cls9 A s.heap ad C ad_6 (pw_up C_4 5 0 (some (.inl (ca 2, 255, .inl (fun _ => 0))))) H _ := hw
  generalize hC_7 : pw_up C_4 5 0 (some (.inl (ca 2, 255, .inl (fun _ => 0)))) = C_7 at hw
  have h30 : C_7 3 0 = some (.inr (1, [.ref q_1, .null, .null, .int 0, .int 0, .int 0, .int 0, .null, .int 0, .int 0, .int 0])) := by rw [← hC_7]; exact (pw_up_ne _ _ (by decide)).trans h30
  have h40 : C_7 4 0 = some (.inl (ca 2, 1400, .inl (fun _ => 0))) := by rw [← hC_7]; exact (pw_up_ne _ _ (by decide)).trans h40
  have h50 : C_7 5 0 = some (.inl (ca 2, 255, .inl (fun _ => 0))) := by rw [← hC_7]; exact pw_up_self _ _ _ _
  have hfr : ∀ x y, (x < 3 ∨ 7 < x) → C_7 x y = C x y := fun x y h0 => by rw [← hC_7]; exact (pw_up_ne _ _ (by omega)).trans (hfr x y h0)
  have n6 : C_7 6 0 = none := by rw [← hC_7]; exact (pw_up_ne _ _ (by decide)).trans n6
  have n7 : C_7 7 0 = none := by rw [← hC_7]; exact (pw_up_ne _ _ (by decide)).trans n7
  refine pw_putF (Cn := "GraphWriter$Out") (T := F_O) (N := 11) (v := .ref q_5) (ty := .array .byte) hx hb hts in_O ft_O to_O nm_O hown hK hw 3 0 (by decide) (hadk 3 0 (by omega) (by omega)) h30 rfl 1 (by decide) (hts _ wd_88) (fun _ h9 => h9) rfl hnm rfl (by decide +kernel) rfl rfl (Nat.le_of_ble_eq_true rfl) d_O_init_19 (fun H locs hw => ?_)
  have hw : pw_H D cls9 A s.heap ad C ad_6 (pw_up C_7 3 0 (some (.inr (1, [.ref q_1, .ref q_5, .null, .int 0, .int 0, .int 0, .int 0, .null, .int 0, .int 0, .int 0])))) H _ := hw
  generalize hC_8 : pw_up C_7 3 0 (some (.inr (1, [.ref q_1, .ref q_5, .null, .int 0, .int 0, .int 0, .int 0, .null, .int 0, .int 0, .int 0]))) = C_8 at hw
  have h40 : C_8 4 0 = some (.inl (ca 2, 1400, .inl (fun _ => 0))) := by rw [← hC_8]; exact (pw_up_ne _ _ (by decide)).trans h40
  have h50 : C_8 5 0 = some (.inl (ca 2, 255, .inl (fun _ => 0))) := by rw [← hC_8]; exact (pw_up_ne _ _ (by decide)).trans h50
  have h30 : C_8 3 0 = some (.inr (1, [.ref q_1, .ref q_5, .null, .int 0, .int 0, .int 0, .int 0, .null, .int 0, .int 0, .int 0])) := by rw [← hC_8]; exact pw_up_self _ _ _ _
  have hfr : ∀ x y, (x < 3 ∨ 7 < x) → C_8 x y = C x y := fun x y h0 => by rw [← hC_8]; exact (pw_up_ne _ _ (by omega)).trans (hfr x y h0)
  have n6 : C_8 6 0 = none := by rw [← hC_8]; exact (pw_up_ne _ _ (by decide)).trans n6
  have n7 : C_8 7 0 = none := by rw [← hC_8]; exact (pw_up_ne _ _ (by decide)).trans n7
  refine lv_aload_n hx hb d_O_init_22 rfl (lv_at hl 0 rfl) ?_
  refine lv_bipush (v := 35) hx hb d_O_init_23 (by decide) ?_
  refine pw_newa (atype := .int) (ty := .int) (az := (35, .inl (fun _ => 0))) hx hb (hts _ wd_127) rfl (fun t h => by cases h) hK hw hA 6 0 (by decide) n6 0 rfl (fun _ => rfl) (by decide) (by omega) (by show _ * 4 ≤ _; omega) (by (try dsimp only); omega) (by (try dsimp only); omega) d_O_init_25 (fun q_9 H hw => ?_)
  refine W.widen (k := 3) (n := 1690) (by omega) (by omega) ?_
  obtain ⟨ad_10, had_10⟩ : ∃ z, z = pw_up ad_6 6 0 q_9 := ⟨_, rfl⟩
  rw [← had_10] at hw
  have hsad_10 : ad_10 6 0 = q_9 := by rw [had_10]; exact pw_up_self _ _ _ _
  have hadk : ∀ x9 y9, ¬ (x9 = 4 ∧ y9 = 0) → ¬ (x9 = 5 ∧ y9 = 0) → ¬ (x9 = 6 ∧ y9 = 0) → ad_10 x9 y9 = ad x9 y9 := fun x9 y9 e0 e1 h9 => by rw [had_10]; exact (pw_up_ne _ _ h9).trans (hadk x9 y9 e0 e1)
  have hq_q_1 : ad_10 4 0 = q_1 := by rw [had_10]; exact (pw_up_ne _ _ (by omega)).trans hq_q_1
  have hq_q_5 : ad_10 5 0 = q_5 := by rw [had_10]; exact (pw_up_ne _ _ (by omega)).trans hsad_6
  have hw : pw_H D cls9 A s.heap ad C ad_10 (pw_up C_8 6 0 (some (.inl (ca 0, 35, .inl (fun _ => 0))))) H _ := hw
  generalize hC_11 : pw_up C_8 6 0 (some (.inl (ca 0, 35, .inl (fun _ => 0)))) = C_11 at hw
  have h30 : C_11 3 0 = some (.inr (1, [.ref q_1, .ref q_5, .null, .int 0, .int 0, .int 0, .int 0, .null, .int 0, .int 0, .int 0])) := by rw [← hC_11]; exact (pw_up_ne _ _ (by decide)).trans h30
  have h40 : C_11 4 0 = some (.inl (ca 2, 1400, .inl (fun _ => 0))) := by rw [← hC_11]; exact (pw_up_ne _ _ (by decide)).trans h40
  have h50 : C_11 5 0 = some (.inl (ca 2, 255, .inl (fun _ => 0))) := by rw [← hC_11]; exact (pw_up_ne _ _ (by decide)).trans h50
  have h60 : C_11 6 0 = some (.inl (ca 0, 35, .inl (fun _ => 0))) := by rw [← hC_11]; exact pw_up_self _ _ _ _
  have hfr : ∀ x y, (x < 3 ∨ 7 < x) → C_11 x y = C x y := fun x y h0 => by rw [← hC_11]; exact (pw_up_ne _ _ (by omega)).trans (hfr x y h0)
  have n7 : C_11 7 0 = none := by rw [← hC_11]; exact (pw_up_ne _ _ (by decide)).trans n7
  refine pw_putF (Cn := "GraphWriter$Out") (T := F_O) (N := 11) (v := .ref q_9) (ty := .array .int) hx hb hts in_O ft_O to_O nm_O hown hK hw 3 0 (by decide) (hadk 3 0 (by omega) (by omega) (by omega)) h30 rfl 2 (by decide) (hts _ wd_89) (fun _ h9 => h9) rfl hnm rfl (by decide +kernel) rfl rfl (Nat.le_of_ble_eq_true rfl) d_O_init_27 (fun H locs hw => ?_)
  have hw : pw_H D cls9 A s.heap ad C ad_10 (pw_up C_11 3 0 (some (.inr (1, [.ref q_1, .ref q_5, .ref q_9, .int 0, .int 0, .int 0, .int 0, .null, .int 0, .int 0, .int 0])))) H _ := hw
  generalize hC_12 : pw_up C_11 3 0 (some (.inr (1, [.ref q_1, .ref q_5, .ref q_9, .int 0, .int 0, .int 0, .int 0, .null, .int 0, .int 0, .int 0]))) = C_12 at hw
  have h40 : C_12 4 0 = some (.inl (ca 2, 1400, .inl (fun _ => 0))) := by rw [← hC_12]; exact (pw_up_ne _ _ (by decide)).trans h40
  have h50 : C_12 5 0 = some (.inl (ca 2, 255, .inl (fun _ => 0))) := by rw [← hC_12]; exact (pw_up_ne _ _ (by decide)).trans h50
  have h60 : C_12 6 0 = some (.inl (ca 0, 35, .inl (fun _ => 0))) := by rw [← hC_12]; exact (pw_up_ne _ _ (by decide)).trans h60
  have h30 : C_12 3 0 = some (.inr (1, [.ref q_1, .ref q_5, .ref q_9, .int 0, .int 0, .int 0, .int 0, .null, .int 0, .int 0, .int 0])) := by rw [← hC_12]; exact pw_up_self _ _ _ _
  have hfr : ∀ x y, (x < 3 ∨ 7 < x) → C_12 x y = C x y := fun x y h0 => by rw [← hC_12]; exact (pw_up_ne _ _ (by omega)).trans (hfr x y h0)
  have n7 : C_12 7 0 = none := by rw [← hC_12]; exact (pw_up_ne _ _ (by decide)).trans n7
  refine lv_aload_n hx hb d_O_init_30 rfl (lv_at hl 0 rfl) ?_
  refine lv_iconst (v := 0) hx hb d_O_init_31 (by decide) ?_
  refine pw_put (Cn := "GraphWriter$Out") (T := F_O) (N := 11) (v := .int 0) (ty := .int) hx hb hts in_O ft_O to_O nm_O hown hK hw 3 0 (by decide) (hadk 3 0 (by omega) (by omega) (by omega)) h30 rfl 6 (by decide) (hts _ wd_97) (fun _ h9 => h9) rfl (by decide +kernel) rfl rfl (Nat.le_of_ble_eq_true rfl) d_O_init_32 (fun H locs hw => ?_)
  have hw : pw_H D cls9 A s.heap ad C ad_10 (pw_up C_12 3 0 (some (.inr (1, [.ref q_1, .ref q_5, .ref q_9, .int 0, .int 0, .int 0, .int 0, .null, .int 0, .int 0, .int 0])))) H _ := hw
  generalize hC_13 : pw_up C_12 3 0 (some (.inr (1, [.ref q_1, .ref q_5, .ref q_9, .int 0, .int 0, .int 0, .int 0, .null, .int 0, .int 0, .int 0]))) = C_13 at hw
  have h40 : C_13 4 0 = some (.inl (ca 2, 1400, .inl (fun _ => 0))) := by rw [← hC_13]; exact (pw_up_ne _ _ (by decide)).trans h40
  have h50 : C_13 5 0 = some (.inl (ca 2, 255, .inl (fun _ => 0))) := by rw [← hC_13]; exact (pw_up_ne _ _ (by decide)).trans h50
  have h60 : C_13 6 0 = some (.inl (ca 0, 35, .inl (fun _ => 0))) := by rw [← hC_13]; exact (pw_up_ne _ _ (by decide)).trans h60
  have h30 : C_13 3 0 = some (.inr (1, [.ref q_1, .ref q_5, .ref q_9, .int 0, .int 0, .int 0, .int 0, .null, .int 0, .int 0, .int 0])) := by rw [← hC_13]; exact pw_up_self _ _ _ _
  have hfr : ∀ x y, (x < 3 ∨ 7 < x) → C_13 x y = C x y := fun x y h0 => by rw [← hC_13]; exact (pw_up_ne _ _ (by omega)).trans (hfr x y h0)
  have n7 : C_13 7 0 = none := by rw [← hC_13]; exact (pw_up_ne _ _ (by decide)).trans n7
  refine lv_aload_n hx hb d_O_init_35 rfl (lv_at hl 0 rfl) ?_
  refine lv_bipush (v := 35) hx hb d_O_init_36 (by decide) ?_
  refine pw_newa (atype := .int) (ty := .int) (az := (35, .inl (fun _ => 0))) hx hb (hts _ wd_127) rfl (fun t h => by cases h) hK hw hA 7 0 (by decide) n7 0 rfl (fun _ => rfl) (by decide) (by omega) (by show _ * 4 ≤ _; omega) (by (try dsimp only); omega) (by (try dsimp only); omega) d_O_init_38 (fun q_14 H hw => ?_)
  refine W.widen (k := 4) (n := 1725) (by omega) (by omega) ?_
  obtain ⟨ad_15, had_15⟩ : ∃ z, z = pw_up ad_10 7 0 q_14 := ⟨_, rfl⟩
  rw [← had_15] at hw
  have hsad_15 : ad_15 7 0 = q_14 := by rw [had_15]; exact pw_up_self _ _ _ _
  have hadk : ∀ x9 y9, ¬ (x9 = 4 ∧ y9 = 0) → ¬ (x9 = 5 ∧ y9 = 0) → ¬ (x9 = 6 ∧ y9 = 0) → ¬ (x9 = 7 ∧ y9 = 0) → ad_15 x9 y9 = ad x9 y9 := fun x9 y9 e0 e1 e2 h9 => by rw [had_15]; exact (pw_up_ne _ _ h9).trans (hadk x9 y9 e0 e1 e2)
  have hq_q_1 : ad_15 4 0 = q_1 := by rw [had_15]; exact (pw_up_ne _ _ (by omega)).trans hq_q_1
  have hq_q_5 : ad_15 5 0 = q_5 := by rw [had_15]; exact (pw_up_ne _ _ (by omega)).trans hq_q_5
  have hq_q_9 : ad_15 6 0 = q_9 := by rw [had_15]; exact (pw_up_ne _ _ (by omega)).trans hsad_10
  have hw : pw_H D cls9 A s.heap ad C ad_15 (pw_up C_13 7 0 (some (.inl (ca 0, 35, .inl (fun _ => 0))))) H _ := hw
  generalize hC_16 : pw_up C_13 7 0 (some (.inl (ca 0, 35, .inl (fun _ => 0)))) = C_16 at hw
  have h30 : C_16 3 0 = some (.inr (1, [.ref q_1, .ref q_5, .ref q_9, .int 0, .int 0, .int 0, .int 0, .null, .int 0, .int 0, .int 0])) := by rw [← hC_16]; exact (pw_up_ne _ _ (by decide)).trans h30
  have h40 : C_16 4 0 = some (.inl (ca 2, 1400, .inl (fun _ => 0))) := by rw [← hC_16]; exact (pw_up_ne _ _ (by decide)).trans h40
  have h50 : C_16 5 0 = some (.inl (ca 2, 255, .inl (fun _ => 0))) := by rw [← hC_16]; exact (pw_up_ne _ _ (by decide)).trans h50
  have h60 : C_16 6 0 = some (.inl (ca 0, 35, .inl (fun _ => 0))) := by rw [← hC_16]; exact (pw_up_ne _ _ (by decide)).trans h60
  have h70 : C_16 7 0 = some (.inl (ca 0, 35, .inl (fun _ => 0))) := by rw [← hC_16]; exact pw_up_self _ _ _ _
  have hfr : ∀ x y, (x < 3 ∨ 7 < x) → C_16 x y = C x y := fun x y h0 => by rw [← hC_16]; exact (pw_up_ne _ _ (by omega)).trans (hfr x y h0)
  refine pw_putF (Cn := "GraphWriter$Out") (T := F_O) (N := 11) (v := .ref q_14) (ty := .array .int) hx hb hts in_O ft_O to_O nm_O hown hK hw 3 0 (by decide) (hadk 3 0 (by omega) (by omega) (by omega) (by omega)) h30 rfl 7 (by decide) (hts _ wd_99) (fun _ h9 => h9) rfl hnm rfl (by decide +kernel) rfl rfl (Nat.le_of_ble_eq_true rfl) d_O_init_40 (fun H locs hw => ?_)
  have hw : pw_H D cls9 A s.heap ad C ad_15 (pw_up C_16 3 0 (some (.inr (1, [.ref q_1, .ref q_5, .ref q_9, .int 0, .int 0, .int 0, .int 0, .ref q_14, .int 0, .int 0, .int 0])))) H _ := hw
  generalize hC_17 : pw_up C_16 3 0 (some (.inr (1, [.ref q_1, .ref q_5, .ref q_9, .int 0, .int 0, .int 0, .int 0, .ref q_14, .int 0, .int 0, .int 0]))) = C_17 at hw
  have h40 : C_17 4 0 = some (.inl (ca 2, 1400, .inl (fun _ => 0))) := by rw [← hC_17]; exact (pw_up_ne _ _ (by decide)).trans h40
  have h50 : C_17 5 0 = some (.inl (ca 2, 255, .inl (fun _ => 0))) := by rw [← hC_17]; exact (pw_up_ne _ _ (by decide)).trans h50
  have h60 : C_17 6 0 = some (.inl (ca 0, 35, .inl (fun _ => 0))) := by rw [← hC_17]; exact (pw_up_ne _ _ (by decide)).trans h60
  have h70 : C_17 7 0 = some (.inl (ca 0, 35, .inl (fun _ => 0))) := by rw [← hC_17]; exact (pw_up_ne _ _ (by decide)).trans h70
  have h30 : C_17 3 0 = some (.inr (1, [.ref q_1, .ref q_5, .ref q_9, .int 0, .int 0, .int 0, .int 0, .ref q_14, .int 0, .int 0, .int 0])) := by rw [← hC_17]; exact pw_up_self _ _ _ _
  have hfr : ∀ x y, (x < 3 ∨ 7 < x) → C_17 x y = C x y := fun x y h0 => by rw [← hC_17]; exact (pw_up_ne _ _ (by omega)).trans (hfr x y h0)
  refine pw_vret hx hb hr hlocks hw ⟨hadk, ⟨_, _, ?_, h40, h50, h60, h70, by decide, fun i hi => absurd hi (Nat.not_lt_zero _), Nat.le_refl _, by decide, fun i hi => absurd hi (Nat.not_lt_zero _)⟩, hfr⟩ d_O_init_43
  rw [hq_q_1, hq_q_5, hq_q_9, hsad_15]; exact h30
set_option maxHeartbeats 4000000 in
set_option maxRecDepth 100000 in
theorem k_G_init {l : Launch} {D : va_G} {ca : Nat → ClassId} {kS : Nat → Nat} {kT : Nat} {ad : pw_A} {C : pw_C} (hKS : gw_ks ca kS kT ad C) (g00 : C 0 0 = some (.inr (0, [.null, .null, .null, .int 0]))) (hno : ∀ x, 0 < x → x < 8 → C x 0 = none) : gc_Con l y_G_init c_G_init ({ frames := 2, cells := 7, slots := 1760, locals := 80 }) D ca (z9_Z kS kT) [.ref (ad 0 0)] ad C (pw_pv (fun ad' C' => (∀ x y, (x < 1 ∨ 7 < x) → ad' x y = ad x y) ∧ gw_at ca kS kT ad' C' (fun _ => none) 0 (fun _ => ga_cst 0 0) ∧ os_x ca ad' C' (es_put (es_forget es_z) 2901213189 4) [] 0 sn_z ∧ ∀ x y, 7 < x → C' x y = C x y)) 7 1760 := by
  have hZ := z9_ok kS kT
  refine pw_ofW (cc := b_G_init) (maxL := 1) (ret := none) (by decide) rfl (Nat.le_of_ble_eq_true rfl) ?_
  intro p e s m args below meth c A ls hB hA hw hK hz hl
  obtain ⟨hx, hb, hr, hml, hts0, hlocks, hown, hnm⟩ := hB
  have hts := wd_hts hts0
  have hown : s.vm.findClass "GraphWriter" = some m.cls := hown
  have hl : lv_has ls 1 [(0, .ref (ad 0 0))] := hl
  have hz0 := hz
  obtain ⟨hz1, hz2, hz3, -⟩ := hz0
  have n1 := hno 1 (by decide) (by decide)
  have n2 := hno 2 (by decide) (by decide)
  have n3 := hno 3 (by decide) (by decide)
  have n4 := hno 4 (by decide) (by decide)
  have n5 := hno 5 (by decide) (by decide)
  have n6 := hno 6 (by decide) (by decide)
  have n7 := hno 7 (by decide) (by decide)
  have hfr : ∀ x y, 7 < x → C x y = C x y := fun _ _ _ => rfl
  have hz9 := hz
  obtain ⟨-, -, -, -, -, -, -, -, -, -, -, hao1, hao2, hnw, -⟩ := hz9
  refine lv_aload_n hx hb d_G_init_0 rfl (lv_at hl 0 rfl) ?_
  refine W.objInit hx hb hown (hts _ wd_73) (hts _ wd_74) (hts _ wd_75) rfl (by rw [hml]; exact hl.1) rfl d_G_init_1 (Nat.le_of_ble_eq_true rfl) (Nat.le_of_ble_eq_true rfl) ?_
  refine W.eq (g2 := F0 m 4 ls []) rfl ?_
  refine lv_aload_n hx hb d_G_init_4 rfl (lv_at hl 0 rfl) ?_
  refine lv_bipush (v := 6) hx hb d_G_init_5 (by decide) ?_
  refine pw_newq (Cn := "GraphWriter$Defined") (N' := 6) hx hb hown (hts _ wd_76) hao1 hK hw hA 1 0 (by decide) n1 4 rfl (by decide) (by decide) (by decide) (by (try dsimp only); omega) (by (try dsimp only); omega) d_G_init_7 (fun q_1 H hw => ?_)
  refine W.widen (k := 1) (n := 6) (by omega) (by omega) ?_
  obtain ⟨ad_2, had_2⟩ : ∃ z, z = pw_up ad 1 0 q_1 := ⟨_, rfl⟩
  rw [← had_2] at hw
  have hsad_2 : ad_2 1 0 = q_1 := by rw [had_2]; exact pw_up_self _ _ _ _
  have hadk : ∀ x9 y9, ¬ (x9 = 1 ∧ y9 = 0) → ad_2 x9 y9 = ad x9 y9 := fun x9 y9 h9 => by rw [had_2]; exact pw_up_ne _ _ h9
  have hw : pw_H D cls9 A s.heap ad C ad_2 (pw_up C 1 0 (some (.inl (ca 4, 6, .inr (.inr (.inr (.inr (fun _ => none)))))))) H _ := hw
  generalize hC_3 : pw_up C 1 0 (some (.inl (ca 4, 6, .inr (.inr (.inr (.inr (fun _ => none))))))) = C_3 at hw
  have g00 : C_3 0 0 = some (.inr (0, [.null, .null, .null, .int 0])) := by rw [← hC_3]; exact (pw_up_ne _ _ (by decide)).trans g00
  have g10 : C_3 1 0 = some (.inl (ca 4, 6, .inr (.inr (.inr (.inr (fun _ => none)))))) := by rw [← hC_3]; exact pw_up_self _ _ _ _
  have hfr : ∀ x y, 7 < x → C_3 x y = C x y := fun x y h0 => by rw [← hC_3]; exact (pw_up_ne _ _ (by omega)).trans (hfr x y h0)
  have n2 : C_3 2 0 = none := by rw [← hC_3]; exact (pw_up_ne _ _ (by decide)).trans n2
  have n3 : C_3 3 0 = none := by rw [← hC_3]; exact (pw_up_ne _ _ (by decide)).trans n3
  have n4 : C_3 4 0 = none := by rw [← hC_3]; exact (pw_up_ne _ _ (by decide)).trans n4
  have n5 : C_3 5 0 = none := by rw [← hC_3]; exact (pw_up_ne _ _ (by decide)).trans n5
  have n6 : C_3 6 0 = none := by rw [← hC_3]; exact (pw_up_ne _ _ (by decide)).trans n6
  have n7 : C_3 7 0 = none := by rw [← hC_3]; exact (pw_up_ne _ _ (by decide)).trans n7
  refine pw_putF (Cn := "GraphWriter") (T := F_G) (N := 4) (v := .ref q_1) (ty := .array (.object "GraphWriter$Defined")) hx hb hts in_G ft_G to_G nm_G hown hK hw 0 0 (by decide) (hadk 0 0 (by omega)) g00 rfl 0 (by decide) (hts _ wd_140) (fun _ h9 => h9) rfl hnm rfl (by decide +kernel) rfl rfl (Nat.le_of_ble_eq_true rfl) d_G_init_10 (fun H locs hw => ?_)
  have hw : pw_H D cls9 A s.heap ad C ad_2 (pw_up C_3 0 0 (some (.inr (0, [.ref q_1, .null, .null, .int 0])))) H _ := hw
  generalize hC_4 : pw_up C_3 0 0 (some (.inr (0, [.ref q_1, .null, .null, .int 0]))) = C_4 at hw
  have g10 : C_4 1 0 = some (.inl (ca 4, 6, .inr (.inr (.inr (.inr (fun _ => none)))))) := by rw [← hC_4]; exact (pw_up_ne _ _ (by decide)).trans g10
  have g00 : C_4 0 0 = some (.inr (0, [.ref q_1, .null, .null, .int 0])) := by rw [← hC_4]; exact pw_up_self _ _ _ _
  have hfr : ∀ x y, 7 < x → C_4 x y = C x y := fun x y h0 => by rw [← hC_4]; exact (pw_up_ne _ _ (by omega)).trans (hfr x y h0)
  have n2 : C_4 2 0 = none := by rw [← hC_4]; exact (pw_up_ne _ _ (by decide)).trans n2
  have n3 : C_4 3 0 = none := by rw [← hC_4]; exact (pw_up_ne _ _ (by decide)).trans n3
  have n4 : C_4 4 0 = none := by rw [← hC_4]; exact (pw_up_ne _ _ (by decide)).trans n4
  have n5 : C_4 5 0 = none := by rw [← hC_4]; exact (pw_up_ne _ _ (by decide)).trans n5
  have n6 : C_4 6 0 = none := by rw [← hC_4]; exact (pw_up_ne _ _ (by decide)).trans n6
  have n7 : C_4 7 0 = none := by rw [← hC_4]; exact (pw_up_ne _ _ (by decide)).trans n7
  refine lv_aload_n hx hb d_G_init_13 rfl (lv_at hl 0 rfl) ?_
  refine lv_bipush (v := 12) hx hb d_G_init_14 (by decide) ?_
  refine pw_newq (Cn := "GraphWriter$Thing") (N' := 12) hx hb hown (hts _ wd_78) hao2 hK hw hA 2 0 (by decide) n2 5 rfl (by decide) (by decide) (by decide) (by (try dsimp only); omega) (by (try dsimp only); omega) d_G_init_16 (fun q_5 H hw => ?_)
  refine W.widen (k := 2) (n := 18) (by omega) (by omega) ?_
  obtain ⟨ad_6, had_6⟩ : ∃ z, z = pw_up ad_2 2 0 q_5 := ⟨_, rfl⟩
  rw [← had_6] at hw
  have hsad_6 : ad_6 2 0 = q_5 := by rw [had_6]; exact pw_up_self _ _ _ _
  have hadk : ∀ x9 y9, ¬ (x9 = 1 ∧ y9 = 0) → ¬ (x9 = 2 ∧ y9 = 0) → ad_6 x9 y9 = ad x9 y9 := fun x9 y9 e0 h9 => by rw [had_6]; exact (pw_up_ne _ _ h9).trans (hadk x9 y9 e0)
  have hq_q_1 : ad_6 1 0 = q_1 := by rw [had_6]; exact (pw_up_ne _ _ (by omega)).trans hsad_2
  have hw : pw_H D cls9 A s.heap ad C ad_6 (pw_up C_4 2 0 (some (.inl (ca 5, 12, .inr (.inr (.inr (.inr (fun _ => none)))))))) H _ := hw
  generalize hC_7 : pw_up C_4 2 0 (some (.inl (ca 5, 12, .inr (.inr (.inr (.inr (fun _ => none))))))) = C_7 at hw
  have g00 : C_7 0 0 = some (.inr (0, [.ref q_1, .null, .null, .int 0])) := by rw [← hC_7]; exact (pw_up_ne _ _ (by decide)).trans g00
  have g10 : C_7 1 0 = some (.inl (ca 4, 6, .inr (.inr (.inr (.inr (fun _ => none)))))) := by rw [← hC_7]; exact (pw_up_ne _ _ (by decide)).trans g10
  have g20 : C_7 2 0 = some (.inl (ca 5, 12, .inr (.inr (.inr (.inr (fun _ => none)))))) := by rw [← hC_7]; exact pw_up_self _ _ _ _
  have hfr : ∀ x y, 7 < x → C_7 x y = C x y := fun x y h0 => by rw [← hC_7]; exact (pw_up_ne _ _ (by omega)).trans (hfr x y h0)
  have n3 : C_7 3 0 = none := by rw [← hC_7]; exact (pw_up_ne _ _ (by decide)).trans n3
  have n4 : C_7 4 0 = none := by rw [← hC_7]; exact (pw_up_ne _ _ (by decide)).trans n4
  have n5 : C_7 5 0 = none := by rw [← hC_7]; exact (pw_up_ne _ _ (by decide)).trans n5
  have n6 : C_7 6 0 = none := by rw [← hC_7]; exact (pw_up_ne _ _ (by decide)).trans n6
  have n7 : C_7 7 0 = none := by rw [← hC_7]; exact (pw_up_ne _ _ (by decide)).trans n7
  refine pw_putF (Cn := "GraphWriter") (T := F_G) (N := 4) (v := .ref q_5) (ty := .array (.object "GraphWriter$Thing")) hx hb hts in_G ft_G to_G nm_G hown hK hw 0 0 (by decide) (hadk 0 0 (by omega) (by omega)) g00 rfl 1 (by decide) (hts _ wd_141) (fun _ h9 => h9) rfl hnm rfl (by decide +kernel) rfl rfl (Nat.le_of_ble_eq_true rfl) d_G_init_19 (fun H locs hw => ?_)
  have hw : pw_H D cls9 A s.heap ad C ad_6 (pw_up C_7 0 0 (some (.inr (0, [.ref q_1, .ref q_5, .null, .int 0])))) H _ := hw
  generalize hC_8 : pw_up C_7 0 0 (some (.inr (0, [.ref q_1, .ref q_5, .null, .int 0]))) = C_8 at hw
  have g10 : C_8 1 0 = some (.inl (ca 4, 6, .inr (.inr (.inr (.inr (fun _ => none)))))) := by rw [← hC_8]; exact (pw_up_ne _ _ (by decide)).trans g10
  have g20 : C_8 2 0 = some (.inl (ca 5, 12, .inr (.inr (.inr (.inr (fun _ => none)))))) := by rw [← hC_8]; exact (pw_up_ne _ _ (by decide)).trans g20
  have g00 : C_8 0 0 = some (.inr (0, [.ref q_1, .ref q_5, .null, .int 0])) := by rw [← hC_8]; exact pw_up_self _ _ _ _
  have hfr : ∀ x y, 7 < x → C_8 x y = C x y := fun x y h0 => by rw [← hC_8]; exact (pw_up_ne _ _ (by omega)).trans (hfr x y h0)
  have n3 : C_8 3 0 = none := by rw [← hC_8]; exact (pw_up_ne _ _ (by decide)).trans n3
  have n4 : C_8 4 0 = none := by rw [← hC_8]; exact (pw_up_ne _ _ (by decide)).trans n4
  have n5 : C_8 5 0 = none := by rw [← hC_8]; exact (pw_up_ne _ _ (by decide)).trans n5
  have n6 : C_8 6 0 = none := by rw [← hC_8]; exact (pw_up_ne _ _ (by decide)).trans n6
  have n7 : C_8 7 0 = none := by rw [← hC_8]; exact (pw_up_ne _ _ (by decide)).trans n7
  refine lv_aload_n hx hb d_G_init_22 rfl (lv_at hl 0 rfl) ?_
  refine pw_new (ci := 1) (fs := [.null, .null, .null, .int 0, .int 0, .int 0, .int 0, .null, .int 0, .int 0, .int 0]) (Cn := "GraphWriter$Out") (T := F_O) (N := 11) hx hb hts in_O ft_O to_O hown (hts _ wd_80) (hts _ wd_81) (hts _ wd_54) hK hw hA 3 0 (by decide) n3 rfl (fun j hj => by match j, hj with | 0, _ => rfl | 1, _ => rfl | 2, _ => rfl | 3, _ => rfl | 4, _ => rfl | 5, _ => rfl | 6, _ => rfl | 7, _ => rfl | 8, _ => rfl | 9, _ => rfl | 10, _ => rfl | j + 11, h => exact absurd h (by omega)) (by (try dsimp only); omega) (by (try dsimp only); omega) d_G_init_23 (fun q_9 H hw => ?_)
  refine W.widen (k := 3) (n := 30) (by omega) (by omega) ?_
  obtain ⟨ad_10, had_10⟩ : ∃ z, z = pw_up ad_6 3 0 q_9 := ⟨_, rfl⟩
  rw [← had_10] at hw
  have hsad_10 : ad_10 3 0 = q_9 := by rw [had_10]; exact pw_up_self _ _ _ _
  have hadk : ∀ x9 y9, ¬ (x9 = 1 ∧ y9 = 0) → ¬ (x9 = 2 ∧ y9 = 0) → ¬ (x9 = 3 ∧ y9 = 0) → ad_10 x9 y9 = ad x9 y9 := fun x9 y9 e0 e1 h9 => by rw [had_10]; exact (pw_up_ne _ _ h9).trans (hadk x9 y9 e0 e1)
  have hq_q_1 : ad_10 1 0 = q_1 := by rw [had_10]; exact (pw_up_ne _ _ (by omega)).trans hq_q_1
  have hq_q_5 : ad_10 2 0 = q_5 := by rw [had_10]; exact (pw_up_ne _ _ (by omega)).trans hsad_6
  have hw : pw_H D cls9 A s.heap ad C ad_10 (pw_up C_8 3 0 (some (.inr (1, [.null, .null, .null, .int 0, .int 0, .int 0, .int 0, .null, .int 0, .int 0, .int 0])))) H _ := hw
  generalize hC_11 : pw_up C_8 3 0 (some (.inr (1, [.null, .null, .null, .int 0, .int 0, .int 0, .int 0, .null, .int 0, .int 0, .int 0]))) = C_11 at hw
  have g00 : C_11 0 0 = some (.inr (0, [.ref q_1, .ref q_5, .null, .int 0])) := by rw [← hC_11]; exact (pw_up_ne _ _ (by decide)).trans g00
  have g10 : C_11 1 0 = some (.inl (ca 4, 6, .inr (.inr (.inr (.inr (fun _ => none)))))) := by rw [← hC_11]; exact (pw_up_ne _ _ (by decide)).trans g10
  have g20 : C_11 2 0 = some (.inl (ca 5, 12, .inr (.inr (.inr (.inr (fun _ => none)))))) := by rw [← hC_11]; exact (pw_up_ne _ _ (by decide)).trans g20
  have h30 : C_11 3 0 = some (.inr (1, [.null, .null, .null, .int 0, .int 0, .int 0, .int 0, .null, .int 0, .int 0, .int 0])) := by rw [← hC_11]; exact pw_up_self _ _ _ _
  have hfr : ∀ x y, 7 < x → C_11 x y = C x y := fun x y h0 => by rw [← hC_11]; exact (pw_up_ne _ _ (by omega)).trans (hfr x y h0)
  have n4 : C_11 4 0 = none := by rw [← hC_11]; exact (pw_up_ne _ _ (by decide)).trans n4
  have n5 : C_11 5 0 = none := by rw [← hC_11]; exact (pw_up_ne _ _ (by decide)).trans n5
  have n6 : C_11 6 0 = none := by rw [← hC_11]; exact (pw_up_ne _ _ (by decide)).trans n6
  have n7 : C_11 7 0 = none := by rw [← hC_11]; exact (pw_up_ne _ _ (by decide)).trans n7
  refine lv_dup hx hb d_G_init_26 rfl ?_
  rw [← hsad_10]
  refine pw_callv (va_runIN (As := []) (rest := [.ref (ad_10 3 0), .ref (ad 0 0)]) ⟨hx, hb, hml, hown, hts0⟩ (k_O_init (ad := ad_10) h30 n4 n5 n6 n7 _) ⟨va_cnB 0 hts0 (wd_sub wd_84) rfl rfl rfl hnw (hts _ wd_54) (by decide +kernel) ⟨(by (try dsimp only); omega), (by (try dsimp only); omega)⟩, rfl, hts _ wd_83⟩ (pw_preS hZ hw hA hK hz) rfl rfl hl.1 rfl (lv_room (Nat.le_of_ble_eq_true rfl)) d_G_init_27 ⟨(by (try dsimp only); omega), (by (try dsimp only); omega)⟩) hw hA (fun ad_12 C_13 H locs hp hw => ?_)
  refine W.widen (k := 7) (n := 1760) (by omega) (by omega) ?_
  obtain ⟨hae, hOs, hf9⟩ := hp
  rw [hsad_10]
  have hr_q_1 : ad_12 1 0 = q_1 := (hae 1 0 (by omega) (by omega) (by omega) (by omega)).trans hq_q_1
  have hr_q_5 : ad_12 2 0 = q_5 := (hae 2 0 (by omega) (by omega) (by omega) (by omega)).trans hq_q_5
  have hr_q_9 : ad_12 3 0 = q_9 := (hae 3 0 (by omega) (by omega) (by omega) (by omega)).trans hsad_10
  have hadk : ∀ x9 y9, ¬ (x9 = 1 ∧ y9 = 0) → ¬ (x9 = 2 ∧ y9 = 0) → ¬ (x9 = 3 ∧ y9 = 0) → ¬ (x9 = 4 ∧ y9 = 0) → ¬ (x9 = 5 ∧ y9 = 0) → ¬ (x9 = 6 ∧ y9 = 0) → ¬ (x9 = 7 ∧ y9 = 0) → ad_12 x9 y9 = ad x9 y9 := fun x9 y9 e0 e1 e2 e3 e4 e5 e6 => (hae x9 y9 e3 e4 e5 e6).trans (hadk x9 y9 e0 e1 e2)
  have g00 : C_13 0 0 = some (.inr (0, [.ref q_1, .ref q_5, .null, .int 0])) := (hf9 0 0 (by omega)).trans g00
  have g10 : C_13 1 0 = some (.inl (ca 4, 6, .inr (.inr (.inr (.inr (fun _ => none)))))) := (hf9 1 0 (by omega)).trans g10
  have g20 : C_13 2 0 = some (.inl (ca 5, 12, .inr (.inr (.inr (.inr (fun _ => none)))))) := (hf9 2 0 (by omega)).trans g20
  have hfr : ∀ x y, 7 < x → C_13 x y = C x y := fun x y h9 => (hf9 x y (Or.inr h9)).trans (hfr x y h9)
  refine pw_putF (Cn := "GraphWriter") (T := F_G) (N := 4) (v := .ref q_9) (ty := .object "GraphWriter$Out") hx hb hts in_G ft_G to_G nm_G hown hK hw 0 0 (by decide) (hadk 0 0 (by omega) (by omega) (by omega) (by omega) (by omega) (by omega) (by omega)) g00 rfl 2 (by decide) (hts _ wd_142) (fun _ h9 => h9) rfl hnm rfl (by decide +kernel) rfl rfl (Nat.le_of_ble_eq_true rfl) d_G_init_30 (fun H locs hw => ?_)
  have hw : pw_H D cls9 A s.heap ad C ad_12 (pw_up C_13 0 0 (some (.inr (0, [.ref q_1, .ref q_5, .ref q_9, .int 0])))) H _ := hw
  generalize hC_14 : pw_up C_13 0 0 (some (.inr (0, [.ref q_1, .ref q_5, .ref q_9, .int 0]))) = C_14 at hw
  have g10 : C_14 1 0 = some (.inl (ca 4, 6, .inr (.inr (.inr (.inr (fun _ => none)))))) := by rw [← hC_14]; exact (pw_up_ne _ _ (by decide)).trans g10
  have g20 : C_14 2 0 = some (.inl (ca 5, 12, .inr (.inr (.inr (.inr (fun _ => none)))))) := by rw [← hC_14]; exact (pw_up_ne _ _ (by decide)).trans g20
  have g00 : C_14 0 0 = some (.inr (0, [.ref q_1, .ref q_5, .ref q_9, .int 0])) := by rw [← hC_14]; exact pw_up_self _ _ _ _
  have hfr : ∀ x y, 7 < x → C_14 x y = C x y := fun x y h0 => by rw [← hC_14]; exact (pw_up_ne _ _ (by omega)).trans (hfr x y h0)
  have hOs := hOs.mv (C1 := C_14) (fun x h1 h2 => by rw [← hC_14]; exact pw_up_ne _ _ (by omega))
  refine lv_aload_n hx hb d_G_init_33 rfl (lv_at hl 0 rfl) ?_
  refine pw_get (Cn := "GraphWriter") (T := F_G) (N := 4) hx hb hts in_G hown hK hw 0 0 (hadk 0 0 (by omega) (by omega) (by omega) (by omega) (by omega) (by omega) (by omega)) g00 rfl 2 (by decide) (hts _ wd_142) (fun _ h9 => h9) rfl d_G_init_34 ?_
  have hOs9 := hOs
  obtain ⟨by0, wt, h30, -⟩ := hOs9
  rw [← hr_q_9]
  refine pw_callv (va_runV (As := []) (rest := []) ⟨hx, hb, hml, hown, hts0⟩ (k_O_forgetHandles hZ hOs _) (cwV 0 hts0 (wd_V wd_131 wd_128 wd_129 wd_130 wd_54) rfl rfl rfl (by decide +kernel) ⟨(by (try dsimp only); omega), (by (try dsimp only); omega)⟩) (pw_preV hZ hw hA hK hz rfl h30 rfl) rfl rfl hl.1 rfl (lv_room (Nat.le_of_ble_eq_true rfl)) d_G_init_37 ⟨(by (try dsimp only); omega), (by (try dsimp only); omega)⟩) hw hA (fun ad_15 C_16 H locs hp hw => ?_)
  obtain ⟨hae, hOs, hf9⟩ := hp
  rw [hae] at hw; clear hae
  have g00 : C_16 0 0 = some (.inr (0, [.ref q_1, .ref q_5, .ref q_9, .int 0])) := (hf9 0 0 (by omega)).trans g00
  have g10 : C_16 1 0 = some (.inl (ca 4, 6, .inr (.inr (.inr (.inr (fun _ => none)))))) := (hf9 1 0 (by omega)).trans g10
  have g20 : C_16 2 0 = some (.inl (ca 5, 12, .inr (.inr (.inr (.inr (fun _ => none)))))) := (hf9 2 0 (by omega)).trans g20
  have hfr : ∀ x y, 7 < x → C_16 x y = C x y := fun x y h9 => (hf9 x y (Or.inr h9)).trans (hfr x y h9)
  refine lv_aload_n hx hb d_G_init_40 rfl (lv_at hl 0 rfl) ?_
  refine pw_get (Cn := "GraphWriter") (T := F_G) (N := 4) hx hb hts in_G hown hK hw 0 0 (hadk 0 0 (by omega) (by omega) (by omega) (by omega) (by omega) (by omega) (by omega)) g00 rfl 2 (by decide) (hts _ wd_142) (fun _ h9 => h9) rfl d_G_init_41 ?_
  refine lv_ldc2 (v := 2901213189) hx hb hown (hts _ wd_135) d_G_init_44 ?_
  refine lv_iconst (v := 4) hx hb d_G_init_47 (by decide) ?_
  have hOs9 := hOs
  obtain ⟨by0, wt, h30, -⟩ := hOs9
  rw [← hr_q_9]
  refine pw_callv (va_runV (As := [.long 2901213189, .int (nI 4)]) (rest := []) ⟨hx, hb, hml, hown, hts0⟩ (k_O_put hOs _ (w := 4) (by decide) _) (cwV 2 hts0 (wd_V wd_139 wd_136 wd_137 wd_138 wd_54) rfl rfl rfl (by decide +kernel) ⟨(by (try dsimp only); omega), (by (try dsimp only); omega)⟩) (pw_preV hZ hw hA hK hz rfl h30 rfl) rfl rfl hl.1 rfl (lv_room (Nat.le_of_ble_eq_true rfl)) d_G_init_48 ⟨(by (try dsimp only); omega), (by (try dsimp only); omega)⟩) hw hA (fun ad_18 C_19 H locs hp hw => ?_)
  obtain ⟨hae, hOs, hf9⟩ := hp
  rw [hae] at hw; clear hae
  have g00 : C_19 0 0 = some (.inr (0, [.ref q_1, .ref q_5, .ref q_9, .int 0])) := (hf9 0 0 (by omega)).trans g00
  have g10 : C_19 1 0 = some (.inl (ca 4, 6, .inr (.inr (.inr (.inr (fun _ => none)))))) := (hf9 1 0 (by omega)).trans g10
  have g20 : C_19 2 0 = some (.inl (ca 5, 12, .inr (.inr (.inr (.inr (fun _ => none)))))) := (hf9 2 0 (by omega)).trans g20
  have hfr : ∀ x y, 7 < x → C_19 x y = C x y := fun x y h9 => (hf9 x y (Or.inr h9)).trans (hfr x y h9)
  have hA9 : ∀ x y, (x < 1 ∨ 7 < x) → ad_12 x y = ad x y := fun x y h => hadk x y (by omega) (by omega) (by omega) (by omega) (by omega) (by omega) (by omega)
  refine pw_vret hx hb hr hlocks hw ⟨hA9, ⟨?_, ?_, ?_, by decide, fun k d h => absurd h (by simp), fun i hi => absurd hi (Nat.not_lt_zero _), fun i hi => ?_, ?_, ?_⟩, hOs, hfr⟩ d_G_init_51
  · rw [hr_q_1, hr_q_5, hr_q_9]; exact g00
  · rw [show gw_cf ad_12 (fun _ => none) = fun _ => none by funext k; rfl]; exact g10
  · rw [show gw_tf ad_12 0 = fun _ => none by funext k; simp [gw_tf]]; exact g20
  · obtain ⟨k1, k2⟩ := hKS.1 i hi
    exact ⟨k1.ad (hfr 50 i (by decide)) (hfr 51 i (by decide)) (hA9 51 i (by decide)), (hA9 50 i (by decide)).trans k2⟩
  · exact (hfr 52 0 (by decide)).trans hKS.2.1
  · exact (hA9 52 0 (by decide)).trans hKS.2.2
