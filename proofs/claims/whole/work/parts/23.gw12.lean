/-- values at first: NULL where an object stands -/
def tt_v0 (ty : Nat → Int32) : Nat → Nat → Int64 := fun j q => if q < j ∧ ¬ ty q < 6 then -1 else 0
theorem tt_v0_s (ty : Nat → Int32) (j : Nat) (h : ¬ ty j < 6) : vp_updL (tt_v0 ty j) j (-1) = tt_v0 ty (j + 1) := by
  funext q
  unfold vp_updL tt_v0
  by_cases h1 : q = j
  · subst h1; simp [h]
  · by_cases h2 : q < j
    · simp [h1, h2, show q < j + 1 by omega]
    · simp [h1, h2, show ¬ q < j + 1 by omega]
theorem tt_v0_n (ty : Nat → Int32) (j : Nat) (h : ty j < 6) : tt_v0 ty j = tt_v0 ty (j + 1) := by
  funext q
  unfold tt_v0
  by_cases h1 : q = j
  · subst h1; simp [h]
  · by_cases h2 : q < j
    · simp [h2, show q < j + 1 by omega]
    · simp [h2, show ¬ q < j + 1 by omega]
set_option maxHeartbeats 4000000 in
set_option maxRecDepth 100000 in
theorem k_T_init {l : Launch} {D : va_G} {ca : Nat → ClassId} {Z : (Nat → Prop) → State → Prop} {ad : pw_A} {C : pw_C} {i n ta : Nat} {ty : Nat → Int32} (p20 : C 20 i = some (.inr (3, [.int 0, .int 0, .null, .null, .null, .int 0, .int 0]))) (p21 : C 21 i = some (.inl (ca 0, n, .inl ty))) (p22 : C 22 i = none) (hn : n ≤ 24) (so ow : Int32) : gc_Con l y_T_init c_T_init ({ frames := 1, cells := 1, slots := 24, locals := 60 }) D ca Z [.ref (ad 20 i), .int so, .int ow, .ref (ad 21 i), .ref ta] ad C (pw_pv (fun ad' C' => ∃ q, ad' = pw_up ad 22 i q ∧ C' 20 i = some (.inr (3, [.int so, .int ow, .ref (ad 21 i), .ref q, .ref ta, .int (-1), .int 0])) ∧ C' 22 i = some (.inl (ca 1, n, .inr (.inl (tt_v0 ty n)))) ∧ ∀ x y, ¬ (x = 20 ∧ y = i) → ¬ (x = 22 ∧ y = i) → C' x y = C x y)) 1 24 := by
  refine pw_ofW (cc := b_T_init) (maxL := 6) (ret := none) (by decide) rfl (Nat.le_of_ble_eq_true rfl) ?_
  intro p e s m args below meth c A ls hB hA hw hK hz hl
  obtain ⟨hx, hb, hr, hml, hts0, hlocks, hown, hnm⟩ := hB
  have hts := wd_hts hts0
  have hown : s.vm.findClass "GraphWriter$Thing" = some m.cls := hown
  have hl : lv_has ls 6 [(0, .ref (ad 20 i)), (1, .int so), (2, .int ow), (3, .ref (ad 21 i)), (4, .ref ta)] := hl
  have hfr : ∀ x y, ¬ (x = 20 ∧ y = i) → ¬ (x = 22 ∧ y = i) → C x y = C x y := fun _ _ _ _ => rfl
  refine lv_aload_n hx hb d_T_init_0 rfl (lv_at hl 0 rfl) ?_
  refine W.objInit hx hb hown (hts _ wd_372) (hts _ wd_74) (hts _ wd_75) rfl (by rw [hml]; exact hl.1) rfl d_T_init_1 (Nat.le_of_ble_eq_true rfl) (Nat.le_of_ble_eq_true rfl) ?_
  refine W.eq (g2 := F0 m 4 ls []) rfl ?_
  refine lv_aload_n hx hb d_T_init_4 rfl (lv_at hl 0 rfl) ?_
  refine lv_iconst (v := (-1)) hx hb d_T_init_5 (by decide) ?_
  refine pw_put (Cn := "GraphWriter$Thing") (T := F_T) (N := 7) (v := .int (-1)) (ty := .int) hx hb hts in_T ft_T to_T nm_T hown hK hw 20 i (by decide) rfl p20 rfl 5 (by decide) (hts _ wd_384) (fun _ h9 => h9) rfl (by decide +kernel) rfl rfl (Nat.le_of_ble_eq_true rfl) d_T_init_6 (fun H locs hw => ?_)
  have hw : pw_H D cls9 A s.heap ad C ad (pw_up C 20 i (some (.inr (3, [.int 0, .int 0, .null, .null, .null, .int (-1), .int 0])))) H locs := hw
  generalize hC_1 : pw_up C 20 i (some (.inr (3, [.int 0, .int 0, .null, .null, .null, .int (-1), .int 0]))) = C_1 at hw
  have p21 : C_1 21 i = some (.inl (ca 0, n, .inl ty)) := by rw [← hC_1]; exact (pw_up_ne _ _ (by omega)).trans p21
  have p20 : C_1 20 i = some (.inr (3, [.int 0, .int 0, .null, .null, .null, .int (-1), .int 0])) := by rw [← hC_1]; exact pw_up_self _ _ _ _
  have hfr : ∀ x y, ¬ (x = 20 ∧ y = i) → ¬ (x = 22 ∧ y = i) → C_1 x y = C x y := fun x y h0 h1 => by rw [← hC_1]; exact (pw_up_ne _ _ (by omega)).trans (hfr x y h0 h1)
  have p22 : C_1 22 i = none := by rw [← hC_1]; exact (pw_up_ne _ _ (by omega)).trans p22
  refine lv_aload_n hx hb d_T_init_9 rfl (lv_at hl 0 rfl) ?_
  refine lv_iload_n hx hb d_T_init_10 rfl (lv_at hl 1 rfl) ?_
  refine pw_putF (Cn := "GraphWriter$Thing") (T := F_T) (N := 7) (v := .int so) (ty := .int) hx hb hts in_T ft_T to_T nm_T hown hK hw 20 i (by decide) rfl p20 rfl 0 (by decide) (hts _ wd_374) (fun _ h9 => h9) rfl hnm rfl (by decide +kernel) rfl rfl (Nat.le_of_ble_eq_true rfl) d_T_init_11 (fun H locs hw => ?_)
  have hw : pw_H D cls9 A s.heap ad C ad (pw_up C_1 20 i (some (.inr (3, [.int so, .int 0, .null, .null, .null, .int (-1), .int 0])))) H locs := hw
  generalize hC_2 : pw_up C_1 20 i (some (.inr (3, [.int so, .int 0, .null, .null, .null, .int (-1), .int 0]))) = C_2 at hw
  have p21 : C_2 21 i = some (.inl (ca 0, n, .inl ty)) := by rw [← hC_2]; exact (pw_up_ne _ _ (by omega)).trans p21
  have p20 : C_2 20 i = some (.inr (3, [.int so, .int 0, .null, .null, .null, .int (-1), .int 0])) := by rw [← hC_2]; exact pw_up_self _ _ _ _
  have hfr : ∀ x y, ¬ (x = 20 ∧ y = i) → ¬ (x = 22 ∧ y = i) → C_2 x y = C x y := fun x y h0 h1 => by rw [← hC_2]; exact (pw_up_ne _ _ (by omega)).trans (hfr x y h0 h1)
  have p22 : C_2 22 i = none := by rw [← hC_2]; exact (pw_up_ne _ _ (by omega)).trans p22
  refine lv_aload_n hx hb d_T_init_14 rfl (lv_at hl 0 rfl) ?_
  refine lv_iload_n hx hb d_T_init_15 rfl (lv_at hl 2 rfl) ?_
  refine pw_putF (Cn := "GraphWriter$Thing") (T := F_T) (N := 7) (v := .int ow) (ty := .int) hx hb hts in_T ft_T to_T nm_T hown hK hw 20 i (by decide) rfl p20 rfl 1 (by decide) (hts _ wd_376) (fun _ h9 => h9) rfl hnm rfl (by decide +kernel) rfl rfl (Nat.le_of_ble_eq_true rfl) d_T_init_16 (fun H locs hw => ?_)
  have hw : pw_H D cls9 A s.heap ad C ad (pw_up C_2 20 i (some (.inr (3, [.int so, .int ow, .null, .null, .null, .int (-1), .int 0])))) H locs := hw
  generalize hC_3 : pw_up C_2 20 i (some (.inr (3, [.int so, .int ow, .null, .null, .null, .int (-1), .int 0]))) = C_3 at hw
  have p21 : C_3 21 i = some (.inl (ca 0, n, .inl ty)) := by rw [← hC_3]; exact (pw_up_ne _ _ (by omega)).trans p21
  have p20 : C_3 20 i = some (.inr (3, [.int so, .int ow, .null, .null, .null, .int (-1), .int 0])) := by rw [← hC_3]; exact pw_up_self _ _ _ _
  have hfr : ∀ x y, ¬ (x = 20 ∧ y = i) → ¬ (x = 22 ∧ y = i) → C_3 x y = C x y := fun x y h0 h1 => by rw [← hC_3]; exact (pw_up_ne _ _ (by omega)).trans (hfr x y h0 h1)
  have p22 : C_3 22 i = none := by rw [← hC_3]; exact (pw_up_ne _ _ (by omega)).trans p22
  refine lv_aload_n hx hb d_T_init_19 rfl (lv_at hl 0 rfl) ?_
  refine lv_aload_n hx hb d_T_init_20 rfl (lv_at hl 3 rfl) ?_
  refine pw_putF (Cn := "GraphWriter$Thing") (T := F_T) (N := 7) (v := .ref (ad 21 i)) (ty := .array .int) hx hb hts in_T ft_T to_T nm_T hown hK hw 20 i (by decide) rfl p20 rfl 2 (by decide) (hts _ wd_378) (fun _ h9 => h9) rfl hnm rfl (by decide +kernel) rfl rfl (Nat.le_of_ble_eq_true rfl) d_T_init_21 (fun H locs hw => ?_)
  have hw : pw_H D cls9 A s.heap ad C ad (pw_up C_3 20 i (some (.inr (3, [.int so, .int ow, .ref (ad 21 i), .null, .null, .int (-1), .int 0])))) H locs := hw
  generalize hC_4 : pw_up C_3 20 i (some (.inr (3, [.int so, .int ow, .ref (ad 21 i), .null, .null, .int (-1), .int 0]))) = C_4 at hw
  have p21 : C_4 21 i = some (.inl (ca 0, n, .inl ty)) := by rw [← hC_4]; exact (pw_up_ne _ _ (by omega)).trans p21
  have p20 : C_4 20 i = some (.inr (3, [.int so, .int ow, .ref (ad 21 i), .null, .null, .int (-1), .int 0])) := by rw [← hC_4]; exact pw_up_self _ _ _ _
  have hfr : ∀ x y, ¬ (x = 20 ∧ y = i) → ¬ (x = 22 ∧ y = i) → C_4 x y = C x y := fun x y h0 h1 => by rw [← hC_4]; exact (pw_up_ne _ _ (by omega)).trans (hfr x y h0 h1)
  have p22 : C_4 22 i = none := by rw [← hC_4]; exact (pw_up_ne _ _ (by omega)).trans p22
  refine lv_aload_n hx hb d_T_init_24 rfl (lv_at hl 0 rfl) ?_
  refine lv_aload hx hb d_T_init_25 (lv_at hl 4 rfl) ?_
  refine pw_putF (Cn := "GraphWriter$Thing") (T := F_T) (N := 7) (v := .ref ta) (ty := .object "java/lang/String") hx hb hts in_T ft_T to_T nm_T hown hK hw 20 i (by decide) rfl p20 rfl 4 (by decide) (hts _ wd_382) (fun _ h9 => h9) rfl hnm rfl (by decide +kernel) rfl rfl (Nat.le_of_ble_eq_true rfl) d_T_init_27 (fun H locs hw => ?_)
  have hw : pw_H D cls9 A s.heap ad C ad (pw_up C_4 20 i (some (.inr (3, [.int so, .int ow, .ref (ad 21 i), .null, .ref ta, .int (-1), .int 0])))) H locs := hw
  generalize hC_5 : pw_up C_4 20 i (some (.inr (3, [.int so, .int ow, .ref (ad 21 i), .null, .ref ta, .int (-1), .int 0]))) = C_5 at hw
  have p21 : C_5 21 i = some (.inl (ca 0, n, .inl ty)) := by rw [← hC_5]; exact (pw_up_ne _ _ (by omega)).trans p21
  have p20 : C_5 20 i = some (.inr (3, [.int so, .int ow, .ref (ad 21 i), .null, .ref ta, .int (-1), .int 0])) := by rw [← hC_5]; exact pw_up_self _ _ _ _
  have hfr : ∀ x y, ¬ (x = 20 ∧ y = i) → ¬ (x = 22 ∧ y = i) → C_5 x y = C x y := fun x y h0 h1 => by rw [← hC_5]; exact (pw_up_ne _ _ (by omega)).trans (hfr x y h0 h1)
  have p22 : C_5 22 i = none := by rw [← hC_5]; exact (pw_up_ne _ _ (by omega)).trans p22
  refine lv_aload_n hx hb d_T_init_30 rfl (lv_at hl 0 rfl) ?_
  refine lv_aload_n hx hb d_T_init_31 rfl (lv_at hl 3 rfl) ?_
  refine pw_alen hx hb hK hw 21 i rfl 0 p21 rfl d_T_init_32 ?_
  refine pw_newa (atype := .long) (ty := .long) (az := (n, .inr (.inl (fun _ => 0)))) hx hb (hts _ wd_402) rfl (fun t h => by cases h) hK hw hA 22 i (by decide) p22 1 rfl (fun _ => rfl) rfl (by omega) (by show _ * 8 ≤ _; omega) (by (try dsimp only); omega) (by (try dsimp only); omega) d_T_init_33 (fun q_6 H hw => ?_)
  refine W.widen (k := 1) (n := 24) (by omega) (by omega) ?_
  obtain ⟨ad_7, had_7⟩ : ∃ z, z = pw_up ad 22 i q_6 := ⟨_, rfl⟩
  rw [← had_7] at hw
  have hsad_7 : ad_7 22 i = q_6 := by rw [had_7]; exact pw_up_self _ _ _ _
  have hadk : ∀ x y, ¬ (x = 22 ∧ y = i) → ad_7 x y = ad x y := fun x y h9 => by rw [had_7]; exact pw_up_ne _ _ h9
  have hw : pw_H D cls9 A s.heap ad C ad_7 (pw_up C_5 22 i (some (.inl (ca 1, n, .inr (.inl (fun _ => 0)))))) H locs := hw
  generalize hC_8 : pw_up C_5 22 i (some (.inl (ca 1, n, .inr (.inl (fun _ => 0))))) = C_8 at hw
  have p20 : C_8 20 i = some (.inr (3, [.int so, .int ow, .ref (ad 21 i), .null, .ref ta, .int (-1), .int 0])) := by rw [← hC_8]; exact (pw_up_ne _ _ (by omega)).trans p20
  have p21 : C_8 21 i = some (.inl (ca 0, n, .inl ty)) := by rw [← hC_8]; exact (pw_up_ne _ _ (by omega)).trans p21
  have p22 : C_8 22 i = some (.inl (ca 1, n, .inr (.inl (fun _ => 0)))) := by rw [← hC_8]; exact pw_up_self _ _ _ _
  have hfr : ∀ x y, ¬ (x = 20 ∧ y = i) → ¬ (x = 22 ∧ y = i) → C_8 x y = C x y := fun x y h0 h1 => by rw [← hC_8]; exact (pw_up_ne _ _ (by omega)).trans (hfr x y h0 h1)
  refine pw_putF (Cn := "GraphWriter$Thing") (T := F_T) (N := 7) (v := .ref q_6) (ty := .array .long) hx hb hts in_T ft_T to_T nm_T hown hK hw 20 i (by decide) (hadk 20 i (by omega)) p20 rfl 3 (by decide) (hts _ wd_380) (fun _ h9 => h9) rfl hnm rfl (by decide +kernel) rfl rfl (Nat.le_of_ble_eq_true rfl) d_T_init_35 (fun H locs hw => ?_)
  have hw : pw_H D cls9 A s.heap ad C ad_7 (pw_up C_8 20 i (some (.inr (3, [.int so, .int ow, .ref (ad 21 i), .ref q_6, .ref ta, .int (-1), .int 0])))) H locs := hw
  generalize hC_9 : pw_up C_8 20 i (some (.inr (3, [.int so, .int ow, .ref (ad 21 i), .ref q_6, .ref ta, .int (-1), .int 0]))) = C_9 at hw
  have p21 : C_9 21 i = some (.inl (ca 0, n, .inl ty)) := by rw [← hC_9]; exact (pw_up_ne _ _ (by omega)).trans p21
  have p22 : C_9 22 i = some (.inl (ca 1, n, .inr (.inl (fun _ => 0)))) := by rw [← hC_9]; exact (pw_up_ne _ _ (by omega)).trans p22
  have p20 : C_9 20 i = some (.inr (3, [.int so, .int ow, .ref (ad 21 i), .ref q_6, .ref ta, .int (-1), .int 0])) := by rw [← hC_9]; exact pw_up_self _ _ _ _
  have hfr : ∀ x y, ¬ (x = 20 ∧ y = i) → ¬ (x = 22 ∧ y = i) → C_9 x y = C x y := fun x y h0 h1 => by rw [← hC_9]; exact (pw_up_ne _ _ (by omega)).trans (hfr x y h0 h1)
  refine lv_iconst (v := 0) hx hb d_T_init_38 (by decide) ?_
  refine lv_istore (lv' := [(5, .int 0), (0, .ref (ad 20 i)), (1, .int so), (2, .int ow), (3, .ref (ad 21 i)), (4, .ref ta)]) hx hb d_T_init_39 hl (by decide) rfl (fun ls hl => ?_)
  have loop : ∀ (r : Nat) (C1 : pw_C) (H : Heap) (locs : List Loc) (ls : Array Slot), r ≤ n → C1 20 i = some (.inr (3, [.int so, .int ow, .ref (ad 21 i), .ref q_6, .ref ta, .int (-1), .int 0])) → C1 21 i = some (.inl (ca 0, n, .inl ty)) → C1 22 i = some (.inl (ca 1, n, .inr (.inl (tt_v0 ty (n - r))))) → (∀ x y, ¬ (x = 20 ∧ y = i) → ¬ (x = 22 ∧ y = i) → C1 x y = C x y) → pw_H D cls9 A s.heap ad C ad_7 C1 H locs → lv_has ls 6 [(5, .int (nI (n - r))), (0, .ref (ad 20 i)), (1, .int so), (2, .int ow), (3, .ref (ad 21 i)), (4, .ref ta)] → W p l e ({ frames := 1, cells := 1, slots := 24, locals := 60 }) s m args below meth c H locs 1 24 (MQ below (pw_Q D cls9 ad C (pw_pv (fun ad' C' => ∃ q, ad' = pw_up ad 22 i q ∧ C' 20 i = some (.inr (3, [.int so, .int ow, .ref (ad 21 i), .ref q, .ref ta, .int (-1), .int 0])) ∧ C' 22 i = some (.inl (ca 1, n, .inr (.inl (tt_v0 ty n)))) ∧ ∀ x y, ¬ (x = 20 ∧ y = i) → ¬ (x = 22 ∧ y = i) → C' x y = C x y)) A) args s 1 24 A) (F0 m 41 ls []) := by
    intro r
    induction r with
    | zero =>
      intro C1 H locs ls hr9 p20 p21 p22 hfr hw hl
      refine lv_iload hx hb d_T_init_41 (lv_at hl 0 rfl) ?_
      refine lv_aload_n hx hb d_T_init_43 rfl (lv_at hl 4 rfl) ?_
      refine pw_alen hx hb hK hw 21 i (hadk 21 i (by omega)) 0 p21 rfl d_T_init_44 ?_
      refine lv_icmp_ge (tgt := 73) hx hb d_T_init_45 (by decide) (fun c_10 => ?_) (fun c_10 => ?_)
      · skip
        exact pw_vret hx hb hr hlocks hw ⟨q_6, had_7, p20, p22, hfr⟩ d_T_init_73
      · exact absurd (nI_le (by omega) (by omega)) c_10
    | succ r ih =>
      intro C1 H locs ls hr9 p20 p21 p22 hfr hw hl
      refine lv_iload hx hb d_T_init_41 (lv_at hl 0 rfl) ?_
      refine lv_aload_n hx hb d_T_init_43 rfl (lv_at hl 4 rfl) ?_
      refine pw_alen hx hb hK hw 21 i (hadk 21 i (by omega)) 0 p21 rfl d_T_init_44 ?_
      refine lv_icmp_ge (tgt := 73) hx hb d_T_init_45 (by decide) (fun c_11 => ?_) (fun c_11 => ?_)
      · exact absurd c_11 (nI_ge (by omega) (by omega))
      · skip
        refine lv_aload_n hx hb d_T_init_48 rfl (lv_at hl 4 rfl) ?_
        refine lv_iload hx hb d_T_init_49 (lv_at hl 0 rfl) ?_
        refine pw_iald hx hb hK hw 21 i (hadk 21 i (by omega)) 0 p21 rfl (n - (r + 1)) rfl (by omega) (by omega) d_T_init_51 ?_
        refine lv_bipush (v := 6) hx hb d_T_init_52 (by decide) ?_
        refine lv_icmp_lt (tgt := 67) hx hb d_T_init_54 (by decide) (fun c_12 => ?_) (fun c_12 => ?_)
        · skip
          refine lv_iinc (v := (nI (n - (r + 1))) + 1) (lv' := [(5, .int ((nI (n - (r + 1))) + 1)), (0, .ref (ad 20 i)), (1, .int so), (2, .int ow), (3, .ref (ad 21 i)), (4, .ref ta)]) hx hb d_T_init_67 hl (k := 0) rfl rfl (by decide) rfl (fun ls hl => ?_)
          refine lv_goto (tgt := 41) hx hb d_T_init_70 (by decide) ?_
          rw [nI_1, show n - (r + 1) + 1 = n - r by omega] at hl
          rw [tt_v0_n ty (n - (r + 1)) c_12, show n - (r + 1) + 1 = n - r by omega] at p22
          exact ih _ _ _ _ (by omega) p20 p21 p22 hfr hw hl
        · skip
          refine lv_aload_n hx hb d_T_init_57 rfl (lv_at hl 1 rfl) ?_
          refine pw_get (Cn := "GraphWriter$Thing") (T := F_T) (N := 7) hx hb hts in_T hown hK hw 20 i (hadk 20 i (by omega)) p20 rfl 3 (by decide) (hts _ wd_380) (fun _ h9 => h9) rfl d_T_init_58 ?_
          refine lv_iload hx hb d_T_init_61 (lv_at hl 0 rfl) ?_
          refine lv_ldc2 (v := (-1)) hx hb hown (hts _ wd_373) d_T_init_63 ?_
          refine pw_last hx hb hK hw 22 i hsad_7 1 p22 rfl (by decide) (n - (r + 1)) rfl (by omega) (by omega) d_T_init_66 (fun H locs hw => ?_)
          have hw : pw_H D cls9 A s.heap ad C ad_7 (pw_up C1 22 i (some (.inl (ca 1, n, .inr (.inl (vp_updL (tt_v0 ty (n - (r + 1))) (n - (r + 1)) (-1))))))) H locs := hw
          generalize hC_13 : pw_up C1 22 i (some (.inl (ca 1, n, .inr (.inl (vp_updL (tt_v0 ty (n - (r + 1))) (n - (r + 1)) (-1)))))) = C_13 at hw
          have p20 : C_13 20 i = some (.inr (3, [.int so, .int ow, .ref (ad 21 i), .ref q_6, .ref ta, .int (-1), .int 0])) := by rw [← hC_13]; exact (pw_up_ne _ _ (by omega)).trans p20
          have p21 : C_13 21 i = some (.inl (ca 0, n, .inl ty)) := by rw [← hC_13]; exact (pw_up_ne _ _ (by omega)).trans p21
          have p22 : C_13 22 i = some (.inl (ca 1, n, .inr (.inl (vp_updL (tt_v0 ty (n - (r + 1))) (n - (r + 1)) (-1))))) := by rw [← hC_13]; exact pw_up_self _ _ _ _
          have hfr : ∀ x y, ¬ (x = 20 ∧ y = i) → ¬ (x = 22 ∧ y = i) → C_13 x y = C x y := fun x y h0 h1 => by rw [← hC_13]; exact (pw_up_ne _ _ (by omega)).trans (hfr x y h0 h1)
          refine lv_iinc (v := (nI (n - (r + 1))) + 1) (lv' := [(5, .int ((nI (n - (r + 1))) + 1)), (0, .ref (ad 20 i)), (1, .int so), (2, .int ow), (3, .ref (ad 21 i)), (4, .ref ta)]) hx hb d_T_init_67 hl (k := 0) rfl rfl (by decide) rfl (fun ls hl => ?_)
          refine lv_goto (tgt := 41) hx hb d_T_init_70 (by decide) ?_
          rw [nI_1, show n - (r + 1) + 1 = n - r by omega] at hl
          rw [tt_v0_s ty (n - (r + 1)) c_12, show n - (r + 1) + 1 = n - r by omega] at p22
          exact ih _ _ _ _ (by omega) p20 p21 p22 hfr hw hl
  refine loop n _ _ _ _ (Nat.le_refl _) p20 p21 ?_ hfr hw (by rw [Nat.sub_self]; exact hl)
  rw [Nat.sub_self, p22]; congr 5
