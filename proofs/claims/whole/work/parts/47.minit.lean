def r_z : RS := (fun _ _ => 0, fun _ _ => 0, fun _ => 0)
def m_init0 : Option RS := Option.bind (m_append 44269 2 r_z) (fun y => Option.bind (m_append 5 2 y) (fun z => m_noHandles z))
abbrev mi_f (v : Nat → Value) : List Value := [v 0, v 1, v 2, v 3, v 4, v 5, v 6, v 7, v 8, v 9, v 10, v 11, v 12, v 13, v 14, .int 0, v 15, .int 0, v 16, .int 0, v 17, .int 0, v 18, v 19, v 20, .int 0, v 21, v 22, .int 0, .int 0, .int 0]
def mi_l (ca : Nat → ClassId) : List va_E := [(.inl (ca 3, 6, .inl (fun _ => 0)) : va_E), (.inl (ca 0, 6, .inl (fun _ => 0)) : va_E), (.inl (ca 0, 6, .inl (fun _ => 0)) : va_E), (.inl (ca 1, 6, .inr (.inl (fun _ => 0))) : va_E), (.inl (ca 0, 6, .inl (fun _ => 0)) : va_E), (.inl (ca 0, 24, .inl (fun _ => 0)) : va_E), (.inl (ca 0, 24, .inl (fun _ => 0)) : va_E), (.inl (ca 3, 24, .inl (fun _ => 0)) : va_E), (.inl (ca 0, 20, .inl (fun _ => 0)) : va_E), (.inl (ca 0, 20, .inl (fun _ => 0)) : va_E), (.inl (ca 0, 20, .inl (fun _ => 0)) : va_E), (.inl (ca 0, 20, .inl (fun _ => 0)) : va_E), (.inl (ca 1, 480, .inr (.inl (fun _ => 0))) : va_E), (.inl (ca 0, 20, .inl (fun _ => 0)) : va_E), (.inl (ca 0, 20, .inl (fun _ => 0)) : va_E), (.inl (ca 0, 1700, .inl (fun _ => 0)) : va_E), (.inl (ca 0, 256, .inl (fun _ => 0)) : va_E), (.inl (ca 0, 51, .inl (fun _ => 0)) : va_E), (.inl (ca 0, 900, .inl (fun _ => 0)) : va_E), (.inl (ca 0, 900, .inl (fun _ => 0)) : va_E), (.inl (ca 0, 900, .inl (fun _ => 0)) : va_E), (.inl (ca 0, 4, .inl (fun _ => 0)) : va_E), (.inl (ca 0, 51, .inl (fun _ => 0)) : va_E)]
theorem mi_up {ca : Nat → ClassId} {k : Nat} {C D1 C1 : pw_C} {e z : va_E} (hA : ∀ j, j < k → C 31 j = (mi_l ca)[j]?) (he : (mi_l ca)[k]? = some e) (h1 : pw_up C 31 k (some e) = D1) (h2 : pw_up D1 30 0 (some z) = C1) : ∀ j, j < k + 1 → C1 31 j = (mi_l ca)[j]? := by
  intro j hj
  rw [← h2, pw_up_ne _ _ (by omega), ← h1]
  by_cases hjk : j = k
  · subst hjk; rw [pw_up_self, he]
  · rw [pw_up_ne _ _ (by omega)]; exact hA j (by omega)
theorem mi_no {k : Nat} {C D1 C1 : pw_C} {e z : va_E} (hn : ∀ j, k ≤ j → j < 23 → C 31 j = none) (h1 : pw_up C 31 k (some e) = D1) (h2 : pw_up D1 30 0 (some z) = C1) : ∀ j, k + 1 ≤ j → j < 23 → C1 31 j = none := by
  intro j hj hj2
  rw [← h2, pw_up_ne _ _ (by omega), ← h1, pw_up_ne _ _ (by omega)]; exact hn j (by omega) hj2
theorem mi_fr {k : Nat} {C0 C D1 C1 : pw_C} {e z : va_E} (hf : rm_fr C0 C) (h1 : pw_up C 31 k (some e) = D1) (h2 : pw_up D1 30 0 (some z) = C1) : rm_fr C0 C1 := by
  intro x y h
  rw [← h2, pw_up_ne _ _ (by omega), ← h1, pw_up_ne _ _ (by omega)]; exact hf x y h
theorem mi_ad {k q : Nat} {ad0 ad ad1 : pw_A} (h : ∀ x y, ¬ x = 31 → ad x y = ad0 x y) (e : ad1 = pw_up ad 31 k q) : ∀ x y, ¬ x = 31 → ad1 x y = ad0 x y := by
  intro x y hx
  rw [e, pw_up_ne _ _ (by omega)]; exact h x y hx
theorem mi_v {k q : Nat} {ad ad1 : pw_A} {v : Nat → Value} (h : ∀ j, j < k → v j = .ref (ad 31 j)) (e : ad1 = pw_up ad 31 k q) : ∀ j, j < k + 1 → (if j = k then .ref q else v j) = Value.ref (ad1 31 j) := by
  intro j hj
  by_cases hjk : j = k
  · rw [if_pos hjk, hjk, e, pw_up_self]
  · rw [if_neg hjk, e, pw_up_ne _ _ (by omega)]; exact h j (by omega)
set_option maxHeartbeats 4000000 in
set_option maxRecDepth 100000 in
theorem k_M_init {l : Launch} {D : va_G} {ca : Nat → ClassId} {kS : Nat → Nat} {kT : Nat} {ad : pw_A} {C : pw_C} (g30 : C 30 0 = some (.inr (4, [.null, .null, .null, .null, .null, .null, .null, .null, .null, .null, .null, .null, .null, .null, .null, .int 0, .null, .int 0, .null, .int 0, .null, .int 0, .null, .null, .null, .int 0, .null, .null, .int 0, .int 0, .int 0]))) (hno : ∀ k, k < 23 → C 31 k = none) {res : RS} (hE : m_init0 = some res) : gc_Con l y_M_init c_M_init ({ frames := 1, cells := 23, slots := 5464, locals := 60 }) D ca (z9_Z kS kT) [.ref (ad 30 0)] ad C (pw_pv (fun ad' C' => (∀ x y, ¬ x = 31 → ad' x y = ad x y) ∧ rm_at ca ad' C' res ∧ rm_fr C C')) 23 5464 := by
  have hZ := z9_ok kS kT
  refine pw_ofW (cc := b_M_init) (maxL := 1) (ret := none) (by decide) rfl (Nat.le_of_ble_eq_true rfl) ?_
  intro p e s m args below meth c A ls hB hA hw hK hz hl
  obtain ⟨hx, hb, hr, hml, hts0, hlocks, hown, hnm⟩ := hB
  have hts := wd_hts hts0
  have hown : s.vm.findClass "GraphWriterModel" = some m.cls := hown
  have hl : lv_has ls 1 [(0, .ref (ad 30 0))] := hl
  have hz0 := hz
  obtain ⟨hz1, hz2, hz3, -⟩ := hz0
  obtain ⟨v_0, hv_0⟩ : ∃ v : Nat → Value, v = fun _ => .null := ⟨_, rfl⟩
  have g30 : C 30 0 = some (.inr (4, mi_f v_0)) := by rw [hv_0]; exact g30
  have hA9 : ∀ j, j < 0 → C 31 j = (mi_l ca)[j]? := fun j hj => absurd hj (Nat.not_lt_zero _)
  have hn : ∀ j, 0 ≤ j → j < 23 → C 31 j = none := fun j _ hj => hno j hj
  have hfr : rm_fr C C := fun _ _ _ => rfl
  have hadx : ∀ x y, ¬ x = 31 → ad x y = ad x y := fun _ _ _ => rfl
  have hV : ∀ j, j < 0 → v_0 j = .ref (ad 31 j) := fun j hj => absurd hj (Nat.not_lt_zero _)
  clear hv_0
  refine lv_aload_n hx hb d_M_init_0 rfl (lv_at hl 0 rfl) ?_
  refine W.objInit hx hb hown (hts _ wd_743) (hts _ wd_74) (hts _ wd_75) rfl (by rw [hml]; exact hl.1) rfl d_M_init_1 (Nat.le_of_ble_eq_true rfl) (Nat.le_of_ble_eq_true rfl) ?_
  refine W.eq (g2 := F0 m 4 ls []) rfl ?_
  refine lv_aload_n hx hb d_M_init_4 rfl (lv_at hl 0 rfl) ?_
  refine lv_bipush (v := 6) hx hb d_M_init_5 (by decide) ?_
  refine pw_newa (atype := .boolean) (ty := .boolean) (az := (6, .inl (fun _ => 0))) hx hb (hts _ wd_848) rfl (fun t h => by cases h) hK hw hA 31 0 (by decide) (hn 0 (Nat.le_refl _) (by decide)) 3 rfl (fun _ => rfl) (by decide) (by omega) (by show _ * 1 ≤ _; omega) (by (try dsimp only); omega) (by (try dsimp only); omega) d_M_init_7 (fun q_0 H hw => ?_)
  refine W.widen (k := 1) (n := 6) (by omega) (by omega) ?_
  obtain ⟨a_1, ha_1⟩ : ∃ z, z = pw_up ad 31 0 q_0 := ⟨_, rfl⟩
  rw [← ha_1] at hw
  have hw : pw_H D cls9 A s.heap ad C a_1 (pw_up C 31 0 (some ((.inl (ca 3, 6, .inl (fun _ => 0)) : va_E)))) H _ := hw
  generalize hD_0 : pw_up C 31 0 (some ((.inl (ca 3, 6, .inl (fun _ => 0)) : va_E))) = D_0 at hw
  have hadx := mi_ad hadx ha_1
  have g30 : D_0 30 0 = some (.inr (4, [v_0 0, v_0 1, v_0 2, v_0 3, v_0 4, v_0 5, v_0 6, v_0 7, v_0 8, v_0 9, v_0 10, v_0 11, v_0 12, v_0 13, v_0 14, .int 0, v_0 15, .int 0, v_0 16, .int 0, v_0 17, .int 0, v_0 18, v_0 19, v_0 20, .int 0, v_0 21, v_0 22, .int 0, .int 0, .int 0])) := by rw [← hD_0]; exact (pw_up_ne _ _ (by decide)).trans g30
  refine pw_putF (Cn := "GraphWriterModel") (T := F_M) (N := 31) (v := .ref q_0) (ty := .array .boolean) hx hb hts in_M ft_M to_M nm_M hown hK hw 30 0 (by decide) (hadx 30 0 (by decide)) g30 rfl 0 (by decide) (hts _ wd_754) (fun _ h9 => h9) rfl hnm rfl (by decide +kernel) rfl rfl (Nat.le_of_ble_eq_true rfl) d_M_init_9 (fun H locs hw => ?_)
  have hw : pw_H D cls9 A s.heap ad C a_1 (pw_up D_0 30 0 (some (.inr (4, [.ref q_0, v_0 1, v_0 2, v_0 3, v_0 4, v_0 5, v_0 6, v_0 7, v_0 8, v_0 9, v_0 10, v_0 11, v_0 12, v_0 13, v_0 14, .int 0, v_0 15, .int 0, v_0 16, .int 0, v_0 17, .int 0, v_0 18, v_0 19, v_0 20, .int 0, v_0 21, v_0 22, .int 0, .int 0, .int 0])))) H _ := hw
  generalize hC_1 : pw_up D_0 30 0 (some (.inr (4, [.ref q_0, v_0 1, v_0 2, v_0 3, v_0 4, v_0 5, v_0 6, v_0 7, v_0 8, v_0 9, v_0 10, v_0 11, v_0 12, v_0 13, v_0 14, .int 0, v_0 15, .int 0, v_0 16, .int 0, v_0 17, .int 0, v_0 18, v_0 19, v_0 20, .int 0, v_0 21, v_0 22, .int 0, .int 0, .int 0]))) = C_1 at hw
  obtain ⟨v_1, hv_1⟩ : ∃ v : Nat → Value, v = fun j => if j = 0 then .ref q_0 else v_0 j := ⟨_, rfl⟩
  have g30 : C_1 30 0 = some (.inr (4, mi_f v_1)) := by rw [← hC_1, hv_1]; exact pw_up_self _ _ _ _
  have hA9 := mi_up hA9 rfl hD_0 hC_1
  have hn := mi_no hn hD_0 hC_1
  have hfr := mi_fr hfr hD_0 hC_1
  have hV : ∀ j, j < 1 → v_1 j = .ref (a_1 31 j) := by rw [hv_1]; exact mi_v hV ha_1
  clear hD_0 hC_1 hv_1 ha_1
  refine lv_aload_n hx hb d_M_init_12 rfl (lv_at hl 0 rfl) ?_
  refine lv_bipush (v := 6) hx hb d_M_init_13 (by decide) ?_
  refine pw_newa (atype := .int) (ty := .int) (az := (6, .inl (fun _ => 0))) hx hb (hts _ wd_127) rfl (fun t h => by cases h) hK hw hA 31 1 (by decide) (hn 1 (Nat.le_refl _) (by decide)) 0 rfl (fun _ => rfl) (by decide) (by omega) (by show _ * 4 ≤ _; omega) (by (try dsimp only); omega) (by (try dsimp only); omega) d_M_init_15 (fun q_1 H hw => ?_)
  refine W.widen (k := 2) (n := 12) (by omega) (by omega) ?_
  obtain ⟨a_2, ha_2⟩ : ∃ z, z = pw_up a_1 31 1 q_1 := ⟨_, rfl⟩
  rw [← ha_2] at hw
  have hw : pw_H D cls9 A s.heap ad C a_2 (pw_up C_1 31 1 (some ((.inl (ca 0, 6, .inl (fun _ => 0)) : va_E)))) H _ := hw
  generalize hD_1 : pw_up C_1 31 1 (some ((.inl (ca 0, 6, .inl (fun _ => 0)) : va_E))) = D_1 at hw
  have hadx := mi_ad hadx ha_2
  have g30 : D_1 30 0 = some (.inr (4, [v_1 0, v_1 1, v_1 2, v_1 3, v_1 4, v_1 5, v_1 6, v_1 7, v_1 8, v_1 9, v_1 10, v_1 11, v_1 12, v_1 13, v_1 14, .int 0, v_1 15, .int 0, v_1 16, .int 0, v_1 17, .int 0, v_1 18, v_1 19, v_1 20, .int 0, v_1 21, v_1 22, .int 0, .int 0, .int 0])) := by rw [← hD_1]; exact (pw_up_ne _ _ (by decide)).trans g30
  refine pw_putF (Cn := "GraphWriterModel") (T := F_M) (N := 31) (v := .ref q_1) (ty := .array .int) hx hb hts in_M ft_M to_M nm_M hown hK hw 30 0 (by decide) (hadx 30 0 (by decide)) g30 rfl 1 (by decide) (hts _ wd_755) (fun _ h9 => h9) rfl hnm rfl (by decide +kernel) rfl rfl (Nat.le_of_ble_eq_true rfl) d_M_init_17 (fun H locs hw => ?_)
  have hw : pw_H D cls9 A s.heap ad C a_2 (pw_up D_1 30 0 (some (.inr (4, [v_1 0, .ref q_1, v_1 2, v_1 3, v_1 4, v_1 5, v_1 6, v_1 7, v_1 8, v_1 9, v_1 10, v_1 11, v_1 12, v_1 13, v_1 14, .int 0, v_1 15, .int 0, v_1 16, .int 0, v_1 17, .int 0, v_1 18, v_1 19, v_1 20, .int 0, v_1 21, v_1 22, .int 0, .int 0, .int 0])))) H _ := hw
  generalize hC_2 : pw_up D_1 30 0 (some (.inr (4, [v_1 0, .ref q_1, v_1 2, v_1 3, v_1 4, v_1 5, v_1 6, v_1 7, v_1 8, v_1 9, v_1 10, v_1 11, v_1 12, v_1 13, v_1 14, .int 0, v_1 15, .int 0, v_1 16, .int 0, v_1 17, .int 0, v_1 18, v_1 19, v_1 20, .int 0, v_1 21, v_1 22, .int 0, .int 0, .int 0]))) = C_2 at hw
  obtain ⟨v_2, hv_2⟩ : ∃ v : Nat → Value, v = fun j => if j = 1 then .ref q_1 else v_1 j := ⟨_, rfl⟩
  have g30 : C_2 30 0 = some (.inr (4, mi_f v_2)) := by rw [← hC_2, hv_2]; exact pw_up_self _ _ _ _
  have hA9 := mi_up hA9 rfl hD_1 hC_2
  have hn := mi_no hn hD_1 hC_2
  have hfr := mi_fr hfr hD_1 hC_2
  have hV : ∀ j, j < 2 → v_2 j = .ref (a_2 31 j) := by rw [hv_2]; exact mi_v hV ha_2
  clear hD_1 hC_2 hv_2 ha_2
  refine lv_aload_n hx hb d_M_init_20 rfl (lv_at hl 0 rfl) ?_
  refine lv_bipush (v := 6) hx hb d_M_init_21 (by decide) ?_
  refine pw_newa (atype := .int) (ty := .int) (az := (6, .inl (fun _ => 0))) hx hb (hts _ wd_127) rfl (fun t h => by cases h) hK hw hA 31 2 (by decide) (hn 2 (Nat.le_refl _) (by decide)) 0 rfl (fun _ => rfl) (by decide) (by omega) (by show _ * 4 ≤ _; omega) (by (try dsimp only); omega) (by (try dsimp only); omega) d_M_init_23 (fun q_2 H hw => ?_)
  refine W.widen (k := 3) (n := 18) (by omega) (by omega) ?_
  obtain ⟨a_3, ha_3⟩ : ∃ z, z = pw_up a_2 31 2 q_2 := ⟨_, rfl⟩
  rw [← ha_3] at hw
  have hw : pw_H D cls9 A s.heap ad C a_3 (pw_up C_2 31 2 (some ((.inl (ca 0, 6, .inl (fun _ => 0)) : va_E)))) H _ := hw
  generalize hD_2 : pw_up C_2 31 2 (some ((.inl (ca 0, 6, .inl (fun _ => 0)) : va_E))) = D_2 at hw
  have hadx := mi_ad hadx ha_3
  have g30 : D_2 30 0 = some (.inr (4, [v_2 0, v_2 1, v_2 2, v_2 3, v_2 4, v_2 5, v_2 6, v_2 7, v_2 8, v_2 9, v_2 10, v_2 11, v_2 12, v_2 13, v_2 14, .int 0, v_2 15, .int 0, v_2 16, .int 0, v_2 17, .int 0, v_2 18, v_2 19, v_2 20, .int 0, v_2 21, v_2 22, .int 0, .int 0, .int 0])) := by rw [← hD_2]; exact (pw_up_ne _ _ (by decide)).trans g30
  refine pw_putF (Cn := "GraphWriterModel") (T := F_M) (N := 31) (v := .ref q_2) (ty := .array .int) hx hb hts in_M ft_M to_M nm_M hown hK hw 30 0 (by decide) (hadx 30 0 (by decide)) g30 rfl 2 (by decide) (hts _ wd_756) (fun _ h9 => h9) rfl hnm rfl (by decide +kernel) rfl rfl (Nat.le_of_ble_eq_true rfl) d_M_init_25 (fun H locs hw => ?_)
  have hw : pw_H D cls9 A s.heap ad C a_3 (pw_up D_2 30 0 (some (.inr (4, [v_2 0, v_2 1, .ref q_2, v_2 3, v_2 4, v_2 5, v_2 6, v_2 7, v_2 8, v_2 9, v_2 10, v_2 11, v_2 12, v_2 13, v_2 14, .int 0, v_2 15, .int 0, v_2 16, .int 0, v_2 17, .int 0, v_2 18, v_2 19, v_2 20, .int 0, v_2 21, v_2 22, .int 0, .int 0, .int 0])))) H _ := hw
  generalize hC_3 : pw_up D_2 30 0 (some (.inr (4, [v_2 0, v_2 1, .ref q_2, v_2 3, v_2 4, v_2 5, v_2 6, v_2 7, v_2 8, v_2 9, v_2 10, v_2 11, v_2 12, v_2 13, v_2 14, .int 0, v_2 15, .int 0, v_2 16, .int 0, v_2 17, .int 0, v_2 18, v_2 19, v_2 20, .int 0, v_2 21, v_2 22, .int 0, .int 0, .int 0]))) = C_3 at hw
  obtain ⟨v_3, hv_3⟩ : ∃ v : Nat → Value, v = fun j => if j = 2 then .ref q_2 else v_2 j := ⟨_, rfl⟩
  have g30 : C_3 30 0 = some (.inr (4, mi_f v_3)) := by rw [← hC_3, hv_3]; exact pw_up_self _ _ _ _
  have hA9 := mi_up hA9 rfl hD_2 hC_3
  have hn := mi_no hn hD_2 hC_3
  have hfr := mi_fr hfr hD_2 hC_3
  have hV : ∀ j, j < 3 → v_3 j = .ref (a_3 31 j) := by rw [hv_3]; exact mi_v hV ha_3
  clear hD_2 hC_3 hv_3 ha_3
  refine lv_aload_n hx hb d_M_init_28 rfl (lv_at hl 0 rfl) ?_
  refine lv_bipush (v := 6) hx hb d_M_init_29 (by decide) ?_
  refine pw_newa (atype := .long) (ty := .long) (az := (6, .inr (.inl (fun _ => 0)))) hx hb (hts _ wd_402) rfl (fun t h => by cases h) hK hw hA 31 3 (by decide) (hn 3 (Nat.le_refl _) (by decide)) 1 rfl (fun _ => rfl) (by decide) (by omega) (by show _ * 8 ≤ _; omega) (by (try dsimp only); omega) (by (try dsimp only); omega) d_M_init_31 (fun q_3 H hw => ?_)
  refine W.widen (k := 4) (n := 24) (by omega) (by omega) ?_
  obtain ⟨a_4, ha_4⟩ : ∃ z, z = pw_up a_3 31 3 q_3 := ⟨_, rfl⟩
  rw [← ha_4] at hw
  have hw : pw_H D cls9 A s.heap ad C a_4 (pw_up C_3 31 3 (some ((.inl (ca 1, 6, .inr (.inl (fun _ => 0))) : va_E)))) H _ := hw
  generalize hD_3 : pw_up C_3 31 3 (some ((.inl (ca 1, 6, .inr (.inl (fun _ => 0))) : va_E))) = D_3 at hw
  have hadx := mi_ad hadx ha_4
  have g30 : D_3 30 0 = some (.inr (4, [v_3 0, v_3 1, v_3 2, v_3 3, v_3 4, v_3 5, v_3 6, v_3 7, v_3 8, v_3 9, v_3 10, v_3 11, v_3 12, v_3 13, v_3 14, .int 0, v_3 15, .int 0, v_3 16, .int 0, v_3 17, .int 0, v_3 18, v_3 19, v_3 20, .int 0, v_3 21, v_3 22, .int 0, .int 0, .int 0])) := by rw [← hD_3]; exact (pw_up_ne _ _ (by decide)).trans g30
  refine pw_putF (Cn := "GraphWriterModel") (T := F_M) (N := 31) (v := .ref q_3) (ty := .array .long) hx hb hts in_M ft_M to_M nm_M hown hK hw 30 0 (by decide) (hadx 30 0 (by decide)) g30 rfl 3 (by decide) (hts _ wd_757) (fun _ h9 => h9) rfl hnm rfl (by decide +kernel) rfl rfl (Nat.le_of_ble_eq_true rfl) d_M_init_33 (fun H locs hw => ?_)
  have hw : pw_H D cls9 A s.heap ad C a_4 (pw_up D_3 30 0 (some (.inr (4, [v_3 0, v_3 1, v_3 2, .ref q_3, v_3 4, v_3 5, v_3 6, v_3 7, v_3 8, v_3 9, v_3 10, v_3 11, v_3 12, v_3 13, v_3 14, .int 0, v_3 15, .int 0, v_3 16, .int 0, v_3 17, .int 0, v_3 18, v_3 19, v_3 20, .int 0, v_3 21, v_3 22, .int 0, .int 0, .int 0])))) H _ := hw
  generalize hC_4 : pw_up D_3 30 0 (some (.inr (4, [v_3 0, v_3 1, v_3 2, .ref q_3, v_3 4, v_3 5, v_3 6, v_3 7, v_3 8, v_3 9, v_3 10, v_3 11, v_3 12, v_3 13, v_3 14, .int 0, v_3 15, .int 0, v_3 16, .int 0, v_3 17, .int 0, v_3 18, v_3 19, v_3 20, .int 0, v_3 21, v_3 22, .int 0, .int 0, .int 0]))) = C_4 at hw
  obtain ⟨v_4, hv_4⟩ : ∃ v : Nat → Value, v = fun j => if j = 3 then .ref q_3 else v_3 j := ⟨_, rfl⟩
  have g30 : C_4 30 0 = some (.inr (4, mi_f v_4)) := by rw [← hC_4, hv_4]; exact pw_up_self _ _ _ _
  have hA9 := mi_up hA9 rfl hD_3 hC_4
  have hn := mi_no hn hD_3 hC_4
  have hfr := mi_fr hfr hD_3 hC_4
  have hV : ∀ j, j < 4 → v_4 j = .ref (a_4 31 j) := by rw [hv_4]; exact mi_v hV ha_4
  clear hD_3 hC_4 hv_4 ha_4
  refine lv_aload_n hx hb d_M_init_36 rfl (lv_at hl 0 rfl) ?_
  refine lv_bipush (v := 6) hx hb d_M_init_37 (by decide) ?_
  refine pw_newa (atype := .int) (ty := .int) (az := (6, .inl (fun _ => 0))) hx hb (hts _ wd_127) rfl (fun t h => by cases h) hK hw hA 31 4 (by decide) (hn 4 (Nat.le_refl _) (by decide)) 0 rfl (fun _ => rfl) (by decide) (by omega) (by show _ * 4 ≤ _; omega) (by (try dsimp only); omega) (by (try dsimp only); omega) d_M_init_39 (fun q_4 H hw => ?_)
  refine W.widen (k := 5) (n := 30) (by omega) (by omega) ?_
  obtain ⟨a_5, ha_5⟩ : ∃ z, z = pw_up a_4 31 4 q_4 := ⟨_, rfl⟩
  rw [← ha_5] at hw
  have hw : pw_H D cls9 A s.heap ad C a_5 (pw_up C_4 31 4 (some ((.inl (ca 0, 6, .inl (fun _ => 0)) : va_E)))) H _ := hw
  generalize hD_4 : pw_up C_4 31 4 (some ((.inl (ca 0, 6, .inl (fun _ => 0)) : va_E))) = D_4 at hw
  have hadx := mi_ad hadx ha_5
  have g30 : D_4 30 0 = some (.inr (4, [v_4 0, v_4 1, v_4 2, v_4 3, v_4 4, v_4 5, v_4 6, v_4 7, v_4 8, v_4 9, v_4 10, v_4 11, v_4 12, v_4 13, v_4 14, .int 0, v_4 15, .int 0, v_4 16, .int 0, v_4 17, .int 0, v_4 18, v_4 19, v_4 20, .int 0, v_4 21, v_4 22, .int 0, .int 0, .int 0])) := by rw [← hD_4]; exact (pw_up_ne _ _ (by decide)).trans g30
  refine pw_putF (Cn := "GraphWriterModel") (T := F_M) (N := 31) (v := .ref q_4) (ty := .array .int) hx hb hts in_M ft_M to_M nm_M hown hK hw 30 0 (by decide) (hadx 30 0 (by decide)) g30 rfl 4 (by decide) (hts _ wd_758) (fun _ h9 => h9) rfl hnm rfl (by decide +kernel) rfl rfl (Nat.le_of_ble_eq_true rfl) d_M_init_41 (fun H locs hw => ?_)
  have hw : pw_H D cls9 A s.heap ad C a_5 (pw_up D_4 30 0 (some (.inr (4, [v_4 0, v_4 1, v_4 2, v_4 3, .ref q_4, v_4 5, v_4 6, v_4 7, v_4 8, v_4 9, v_4 10, v_4 11, v_4 12, v_4 13, v_4 14, .int 0, v_4 15, .int 0, v_4 16, .int 0, v_4 17, .int 0, v_4 18, v_4 19, v_4 20, .int 0, v_4 21, v_4 22, .int 0, .int 0, .int 0])))) H _ := hw
  generalize hC_5 : pw_up D_4 30 0 (some (.inr (4, [v_4 0, v_4 1, v_4 2, v_4 3, .ref q_4, v_4 5, v_4 6, v_4 7, v_4 8, v_4 9, v_4 10, v_4 11, v_4 12, v_4 13, v_4 14, .int 0, v_4 15, .int 0, v_4 16, .int 0, v_4 17, .int 0, v_4 18, v_4 19, v_4 20, .int 0, v_4 21, v_4 22, .int 0, .int 0, .int 0]))) = C_5 at hw
  obtain ⟨v_5, hv_5⟩ : ∃ v : Nat → Value, v = fun j => if j = 4 then .ref q_4 else v_4 j := ⟨_, rfl⟩
  have g30 : C_5 30 0 = some (.inr (4, mi_f v_5)) := by rw [← hC_5, hv_5]; exact pw_up_self _ _ _ _
  have hA9 := mi_up hA9 rfl hD_4 hC_5
  have hn := mi_no hn hD_4 hC_5
  have hfr := mi_fr hfr hD_4 hC_5
  have hV : ∀ j, j < 5 → v_5 j = .ref (a_5 31 j) := by rw [hv_5]; exact mi_v hV ha_5
  clear hD_4 hC_5 hv_5 ha_5
  refine lv_aload_n hx hb d_M_init_44 rfl (lv_at hl 0 rfl) ?_
  refine lv_bipush (v := 24) hx hb d_M_init_45 (by decide) ?_
  refine pw_newa (atype := .int) (ty := .int) (az := (24, .inl (fun _ => 0))) hx hb (hts _ wd_127) rfl (fun t h => by cases h) hK hw hA 31 5 (by decide) (hn 5 (Nat.le_refl _) (by decide)) 0 rfl (fun _ => rfl) (by decide) (by omega) (by show _ * 4 ≤ _; omega) (by (try dsimp only); omega) (by (try dsimp only); omega) d_M_init_47 (fun q_5 H hw => ?_)
  refine W.widen (k := 6) (n := 54) (by omega) (by omega) ?_
  obtain ⟨a_6, ha_6⟩ : ∃ z, z = pw_up a_5 31 5 q_5 := ⟨_, rfl⟩
  rw [← ha_6] at hw
  have hw : pw_H D cls9 A s.heap ad C a_6 (pw_up C_5 31 5 (some ((.inl (ca 0, 24, .inl (fun _ => 0)) : va_E)))) H _ := hw
  generalize hD_5 : pw_up C_5 31 5 (some ((.inl (ca 0, 24, .inl (fun _ => 0)) : va_E))) = D_5 at hw
  have hadx := mi_ad hadx ha_6
  have g30 : D_5 30 0 = some (.inr (4, [v_5 0, v_5 1, v_5 2, v_5 3, v_5 4, v_5 5, v_5 6, v_5 7, v_5 8, v_5 9, v_5 10, v_5 11, v_5 12, v_5 13, v_5 14, .int 0, v_5 15, .int 0, v_5 16, .int 0, v_5 17, .int 0, v_5 18, v_5 19, v_5 20, .int 0, v_5 21, v_5 22, .int 0, .int 0, .int 0])) := by rw [← hD_5]; exact (pw_up_ne _ _ (by decide)).trans g30
  refine pw_putF (Cn := "GraphWriterModel") (T := F_M) (N := 31) (v := .ref q_5) (ty := .array .int) hx hb hts in_M ft_M to_M nm_M hown hK hw 30 0 (by decide) (hadx 30 0 (by decide)) g30 rfl 5 (by decide) (hts _ wd_759) (fun _ h9 => h9) rfl hnm rfl (by decide +kernel) rfl rfl (Nat.le_of_ble_eq_true rfl) d_M_init_49 (fun H locs hw => ?_)
  have hw : pw_H D cls9 A s.heap ad C a_6 (pw_up D_5 30 0 (some (.inr (4, [v_5 0, v_5 1, v_5 2, v_5 3, v_5 4, .ref q_5, v_5 6, v_5 7, v_5 8, v_5 9, v_5 10, v_5 11, v_5 12, v_5 13, v_5 14, .int 0, v_5 15, .int 0, v_5 16, .int 0, v_5 17, .int 0, v_5 18, v_5 19, v_5 20, .int 0, v_5 21, v_5 22, .int 0, .int 0, .int 0])))) H _ := hw
  generalize hC_6 : pw_up D_5 30 0 (some (.inr (4, [v_5 0, v_5 1, v_5 2, v_5 3, v_5 4, .ref q_5, v_5 6, v_5 7, v_5 8, v_5 9, v_5 10, v_5 11, v_5 12, v_5 13, v_5 14, .int 0, v_5 15, .int 0, v_5 16, .int 0, v_5 17, .int 0, v_5 18, v_5 19, v_5 20, .int 0, v_5 21, v_5 22, .int 0, .int 0, .int 0]))) = C_6 at hw
  obtain ⟨v_6, hv_6⟩ : ∃ v : Nat → Value, v = fun j => if j = 5 then .ref q_5 else v_5 j := ⟨_, rfl⟩
  have g30 : C_6 30 0 = some (.inr (4, mi_f v_6)) := by rw [← hC_6, hv_6]; exact pw_up_self _ _ _ _
  have hA9 := mi_up hA9 rfl hD_5 hC_6
  have hn := mi_no hn hD_5 hC_6
  have hfr := mi_fr hfr hD_5 hC_6
  have hV : ∀ j, j < 6 → v_6 j = .ref (a_6 31 j) := by rw [hv_6]; exact mi_v hV ha_6
  clear hD_5 hC_6 hv_6 ha_6
  refine lv_aload_n hx hb d_M_init_52 rfl (lv_at hl 0 rfl) ?_
  refine lv_bipush (v := 24) hx hb d_M_init_53 (by decide) ?_
  refine pw_newa (atype := .int) (ty := .int) (az := (24, .inl (fun _ => 0))) hx hb (hts _ wd_127) rfl (fun t h => by cases h) hK hw hA 31 6 (by decide) (hn 6 (Nat.le_refl _) (by decide)) 0 rfl (fun _ => rfl) (by decide) (by omega) (by show _ * 4 ≤ _; omega) (by (try dsimp only); omega) (by (try dsimp only); omega) d_M_init_55 (fun q_6 H hw => ?_)
  refine W.widen (k := 7) (n := 78) (by omega) (by omega) ?_
  obtain ⟨a_7, ha_7⟩ : ∃ z, z = pw_up a_6 31 6 q_6 := ⟨_, rfl⟩
  rw [← ha_7] at hw
  have hw : pw_H D cls9 A s.heap ad C a_7 (pw_up C_6 31 6 (some ((.inl (ca 0, 24, .inl (fun _ => 0)) : va_E)))) H _ := hw
  generalize hD_6 : pw_up C_6 31 6 (some ((.inl (ca 0, 24, .inl (fun _ => 0)) : va_E))) = D_6 at hw
  have hadx := mi_ad hadx ha_7
  have g30 : D_6 30 0 = some (.inr (4, [v_6 0, v_6 1, v_6 2, v_6 3, v_6 4, v_6 5, v_6 6, v_6 7, v_6 8, v_6 9, v_6 10, v_6 11, v_6 12, v_6 13, v_6 14, .int 0, v_6 15, .int 0, v_6 16, .int 0, v_6 17, .int 0, v_6 18, v_6 19, v_6 20, .int 0, v_6 21, v_6 22, .int 0, .int 0, .int 0])) := by rw [← hD_6]; exact (pw_up_ne _ _ (by decide)).trans g30
  refine pw_putF (Cn := "GraphWriterModel") (T := F_M) (N := 31) (v := .ref q_6) (ty := .array .int) hx hb hts in_M ft_M to_M nm_M hown hK hw 30 0 (by decide) (hadx 30 0 (by decide)) g30 rfl 6 (by decide) (hts _ wd_760) (fun _ h9 => h9) rfl hnm rfl (by decide +kernel) rfl rfl (Nat.le_of_ble_eq_true rfl) d_M_init_57 (fun H locs hw => ?_)
  have hw : pw_H D cls9 A s.heap ad C a_7 (pw_up D_6 30 0 (some (.inr (4, [v_6 0, v_6 1, v_6 2, v_6 3, v_6 4, v_6 5, .ref q_6, v_6 7, v_6 8, v_6 9, v_6 10, v_6 11, v_6 12, v_6 13, v_6 14, .int 0, v_6 15, .int 0, v_6 16, .int 0, v_6 17, .int 0, v_6 18, v_6 19, v_6 20, .int 0, v_6 21, v_6 22, .int 0, .int 0, .int 0])))) H _ := hw
  generalize hC_7 : pw_up D_6 30 0 (some (.inr (4, [v_6 0, v_6 1, v_6 2, v_6 3, v_6 4, v_6 5, .ref q_6, v_6 7, v_6 8, v_6 9, v_6 10, v_6 11, v_6 12, v_6 13, v_6 14, .int 0, v_6 15, .int 0, v_6 16, .int 0, v_6 17, .int 0, v_6 18, v_6 19, v_6 20, .int 0, v_6 21, v_6 22, .int 0, .int 0, .int 0]))) = C_7 at hw
  obtain ⟨v_7, hv_7⟩ : ∃ v : Nat → Value, v = fun j => if j = 6 then .ref q_6 else v_6 j := ⟨_, rfl⟩
  have g30 : C_7 30 0 = some (.inr (4, mi_f v_7)) := by rw [← hC_7, hv_7]; exact pw_up_self _ _ _ _
  have hA9 := mi_up hA9 rfl hD_6 hC_7
  have hn := mi_no hn hD_6 hC_7
  have hfr := mi_fr hfr hD_6 hC_7
  have hV : ∀ j, j < 7 → v_7 j = .ref (a_7 31 j) := by rw [hv_7]; exact mi_v hV ha_7
  clear hD_6 hC_7 hv_7 ha_7
  refine lv_aload_n hx hb d_M_init_60 rfl (lv_at hl 0 rfl) ?_
  refine lv_bipush (v := 24) hx hb d_M_init_61 (by decide) ?_
  refine pw_newa (atype := .boolean) (ty := .boolean) (az := (24, .inl (fun _ => 0))) hx hb (hts _ wd_848) rfl (fun t h => by cases h) hK hw hA 31 7 (by decide) (hn 7 (Nat.le_refl _) (by decide)) 3 rfl (fun _ => rfl) (by decide) (by omega) (by show _ * 1 ≤ _; omega) (by (try dsimp only); omega) (by (try dsimp only); omega) d_M_init_63 (fun q_7 H hw => ?_)
  refine W.widen (k := 8) (n := 102) (by omega) (by omega) ?_
  obtain ⟨a_8, ha_8⟩ : ∃ z, z = pw_up a_7 31 7 q_7 := ⟨_, rfl⟩
  rw [← ha_8] at hw
  have hw : pw_H D cls9 A s.heap ad C a_8 (pw_up C_7 31 7 (some ((.inl (ca 3, 24, .inl (fun _ => 0)) : va_E)))) H _ := hw
  generalize hD_7 : pw_up C_7 31 7 (some ((.inl (ca 3, 24, .inl (fun _ => 0)) : va_E))) = D_7 at hw
  have hadx := mi_ad hadx ha_8
  have g30 : D_7 30 0 = some (.inr (4, [v_7 0, v_7 1, v_7 2, v_7 3, v_7 4, v_7 5, v_7 6, v_7 7, v_7 8, v_7 9, v_7 10, v_7 11, v_7 12, v_7 13, v_7 14, .int 0, v_7 15, .int 0, v_7 16, .int 0, v_7 17, .int 0, v_7 18, v_7 19, v_7 20, .int 0, v_7 21, v_7 22, .int 0, .int 0, .int 0])) := by rw [← hD_7]; exact (pw_up_ne _ _ (by decide)).trans g30
  refine pw_putF (Cn := "GraphWriterModel") (T := F_M) (N := 31) (v := .ref q_7) (ty := .array .boolean) hx hb hts in_M ft_M to_M nm_M hown hK hw 30 0 (by decide) (hadx 30 0 (by decide)) g30 rfl 7 (by decide) (hts _ wd_761) (fun _ h9 => h9) rfl hnm rfl (by decide +kernel) rfl rfl (Nat.le_of_ble_eq_true rfl) d_M_init_65 (fun H locs hw => ?_)
  have hw : pw_H D cls9 A s.heap ad C a_8 (pw_up D_7 30 0 (some (.inr (4, [v_7 0, v_7 1, v_7 2, v_7 3, v_7 4, v_7 5, v_7 6, .ref q_7, v_7 8, v_7 9, v_7 10, v_7 11, v_7 12, v_7 13, v_7 14, .int 0, v_7 15, .int 0, v_7 16, .int 0, v_7 17, .int 0, v_7 18, v_7 19, v_7 20, .int 0, v_7 21, v_7 22, .int 0, .int 0, .int 0])))) H _ := hw
  generalize hC_8 : pw_up D_7 30 0 (some (.inr (4, [v_7 0, v_7 1, v_7 2, v_7 3, v_7 4, v_7 5, v_7 6, .ref q_7, v_7 8, v_7 9, v_7 10, v_7 11, v_7 12, v_7 13, v_7 14, .int 0, v_7 15, .int 0, v_7 16, .int 0, v_7 17, .int 0, v_7 18, v_7 19, v_7 20, .int 0, v_7 21, v_7 22, .int 0, .int 0, .int 0]))) = C_8 at hw
  obtain ⟨v_8, hv_8⟩ : ∃ v : Nat → Value, v = fun j => if j = 7 then .ref q_7 else v_7 j := ⟨_, rfl⟩
  have g30 : C_8 30 0 = some (.inr (4, mi_f v_8)) := by rw [← hC_8, hv_8]; exact pw_up_self _ _ _ _
  have hA9 := mi_up hA9 rfl hD_7 hC_8
  have hn := mi_no hn hD_7 hC_8
  have hfr := mi_fr hfr hD_7 hC_8
  have hV : ∀ j, j < 8 → v_8 j = .ref (a_8 31 j) := by rw [hv_8]; exact mi_v hV ha_8
  clear hD_7 hC_8 hv_8 ha_8
  refine lv_aload_n hx hb d_M_init_68 rfl (lv_at hl 0 rfl) ?_
  refine lv_bipush (v := 20) hx hb d_M_init_69 (by decide) ?_
  refine pw_newa (atype := .int) (ty := .int) (az := (20, .inl (fun _ => 0))) hx hb (hts _ wd_127) rfl (fun t h => by cases h) hK hw hA 31 8 (by decide) (hn 8 (Nat.le_refl _) (by decide)) 0 rfl (fun _ => rfl) (by decide) (by omega) (by show _ * 4 ≤ _; omega) (by (try dsimp only); omega) (by (try dsimp only); omega) d_M_init_71 (fun q_8 H hw => ?_)
  refine W.widen (k := 9) (n := 122) (by omega) (by omega) ?_
  obtain ⟨a_9, ha_9⟩ : ∃ z, z = pw_up a_8 31 8 q_8 := ⟨_, rfl⟩
  rw [← ha_9] at hw
  have hw : pw_H D cls9 A s.heap ad C a_9 (pw_up C_8 31 8 (some ((.inl (ca 0, 20, .inl (fun _ => 0)) : va_E)))) H _ := hw
  generalize hD_8 : pw_up C_8 31 8 (some ((.inl (ca 0, 20, .inl (fun _ => 0)) : va_E))) = D_8 at hw
  have hadx := mi_ad hadx ha_9
  have g30 : D_8 30 0 = some (.inr (4, [v_8 0, v_8 1, v_8 2, v_8 3, v_8 4, v_8 5, v_8 6, v_8 7, v_8 8, v_8 9, v_8 10, v_8 11, v_8 12, v_8 13, v_8 14, .int 0, v_8 15, .int 0, v_8 16, .int 0, v_8 17, .int 0, v_8 18, v_8 19, v_8 20, .int 0, v_8 21, v_8 22, .int 0, .int 0, .int 0])) := by rw [← hD_8]; exact (pw_up_ne _ _ (by decide)).trans g30
  refine pw_putF (Cn := "GraphWriterModel") (T := F_M) (N := 31) (v := .ref q_8) (ty := .array .int) hx hb hts in_M ft_M to_M nm_M hown hK hw 30 0 (by decide) (hadx 30 0 (by decide)) g30 rfl 8 (by decide) (hts _ wd_762) (fun _ h9 => h9) rfl hnm rfl (by decide +kernel) rfl rfl (Nat.le_of_ble_eq_true rfl) d_M_init_73 (fun H locs hw => ?_)
  have hw : pw_H D cls9 A s.heap ad C a_9 (pw_up D_8 30 0 (some (.inr (4, [v_8 0, v_8 1, v_8 2, v_8 3, v_8 4, v_8 5, v_8 6, v_8 7, .ref q_8, v_8 9, v_8 10, v_8 11, v_8 12, v_8 13, v_8 14, .int 0, v_8 15, .int 0, v_8 16, .int 0, v_8 17, .int 0, v_8 18, v_8 19, v_8 20, .int 0, v_8 21, v_8 22, .int 0, .int 0, .int 0])))) H _ := hw
  generalize hC_9 : pw_up D_8 30 0 (some (.inr (4, [v_8 0, v_8 1, v_8 2, v_8 3, v_8 4, v_8 5, v_8 6, v_8 7, .ref q_8, v_8 9, v_8 10, v_8 11, v_8 12, v_8 13, v_8 14, .int 0, v_8 15, .int 0, v_8 16, .int 0, v_8 17, .int 0, v_8 18, v_8 19, v_8 20, .int 0, v_8 21, v_8 22, .int 0, .int 0, .int 0]))) = C_9 at hw
  obtain ⟨v_9, hv_9⟩ : ∃ v : Nat → Value, v = fun j => if j = 8 then .ref q_8 else v_8 j := ⟨_, rfl⟩
  have g30 : C_9 30 0 = some (.inr (4, mi_f v_9)) := by rw [← hC_9, hv_9]; exact pw_up_self _ _ _ _
  have hA9 := mi_up hA9 rfl hD_8 hC_9
  have hn := mi_no hn hD_8 hC_9
  have hfr := mi_fr hfr hD_8 hC_9
  have hV : ∀ j, j < 9 → v_9 j = .ref (a_9 31 j) := by rw [hv_9]; exact mi_v hV ha_9
  clear hD_8 hC_9 hv_9 ha_9
  refine lv_aload_n hx hb d_M_init_76 rfl (lv_at hl 0 rfl) ?_
  refine lv_bipush (v := 20) hx hb d_M_init_77 (by decide) ?_
  refine pw_newa (atype := .int) (ty := .int) (az := (20, .inl (fun _ => 0))) hx hb (hts _ wd_127) rfl (fun t h => by cases h) hK hw hA 31 9 (by decide) (hn 9 (Nat.le_refl _) (by decide)) 0 rfl (fun _ => rfl) (by decide) (by omega) (by show _ * 4 ≤ _; omega) (by (try dsimp only); omega) (by (try dsimp only); omega) d_M_init_79 (fun q_9 H hw => ?_)
  refine W.widen (k := 10) (n := 142) (by omega) (by omega) ?_
  obtain ⟨a_10, ha_10⟩ : ∃ z, z = pw_up a_9 31 9 q_9 := ⟨_, rfl⟩
  rw [← ha_10] at hw
  have hw : pw_H D cls9 A s.heap ad C a_10 (pw_up C_9 31 9 (some ((.inl (ca 0, 20, .inl (fun _ => 0)) : va_E)))) H _ := hw
  generalize hD_9 : pw_up C_9 31 9 (some ((.inl (ca 0, 20, .inl (fun _ => 0)) : va_E))) = D_9 at hw
  have hadx := mi_ad hadx ha_10
  have g30 : D_9 30 0 = some (.inr (4, [v_9 0, v_9 1, v_9 2, v_9 3, v_9 4, v_9 5, v_9 6, v_9 7, v_9 8, v_9 9, v_9 10, v_9 11, v_9 12, v_9 13, v_9 14, .int 0, v_9 15, .int 0, v_9 16, .int 0, v_9 17, .int 0, v_9 18, v_9 19, v_9 20, .int 0, v_9 21, v_9 22, .int 0, .int 0, .int 0])) := by rw [← hD_9]; exact (pw_up_ne _ _ (by decide)).trans g30
  refine pw_putF (Cn := "GraphWriterModel") (T := F_M) (N := 31) (v := .ref q_9) (ty := .array .int) hx hb hts in_M ft_M to_M nm_M hown hK hw 30 0 (by decide) (hadx 30 0 (by decide)) g30 rfl 9 (by decide) (hts _ wd_763) (fun _ h9 => h9) rfl hnm rfl (by decide +kernel) rfl rfl (Nat.le_of_ble_eq_true rfl) d_M_init_81 (fun H locs hw => ?_)
  have hw : pw_H D cls9 A s.heap ad C a_10 (pw_up D_9 30 0 (some (.inr (4, [v_9 0, v_9 1, v_9 2, v_9 3, v_9 4, v_9 5, v_9 6, v_9 7, v_9 8, .ref q_9, v_9 10, v_9 11, v_9 12, v_9 13, v_9 14, .int 0, v_9 15, .int 0, v_9 16, .int 0, v_9 17, .int 0, v_9 18, v_9 19, v_9 20, .int 0, v_9 21, v_9 22, .int 0, .int 0, .int 0])))) H _ := hw
  generalize hC_10 : pw_up D_9 30 0 (some (.inr (4, [v_9 0, v_9 1, v_9 2, v_9 3, v_9 4, v_9 5, v_9 6, v_9 7, v_9 8, .ref q_9, v_9 10, v_9 11, v_9 12, v_9 13, v_9 14, .int 0, v_9 15, .int 0, v_9 16, .int 0, v_9 17, .int 0, v_9 18, v_9 19, v_9 20, .int 0, v_9 21, v_9 22, .int 0, .int 0, .int 0]))) = C_10 at hw
  obtain ⟨v_10, hv_10⟩ : ∃ v : Nat → Value, v = fun j => if j = 9 then .ref q_9 else v_9 j := ⟨_, rfl⟩
  have g30 : C_10 30 0 = some (.inr (4, mi_f v_10)) := by rw [← hC_10, hv_10]; exact pw_up_self _ _ _ _
  have hA9 := mi_up hA9 rfl hD_9 hC_10
  have hn := mi_no hn hD_9 hC_10
  have hfr := mi_fr hfr hD_9 hC_10
  have hV : ∀ j, j < 10 → v_10 j = .ref (a_10 31 j) := by rw [hv_10]; exact mi_v hV ha_10
  clear hD_9 hC_10 hv_10 ha_10
  refine lv_aload_n hx hb d_M_init_84 rfl (lv_at hl 0 rfl) ?_
  refine lv_bipush (v := 20) hx hb d_M_init_85 (by decide) ?_
  refine pw_newa (atype := .int) (ty := .int) (az := (20, .inl (fun _ => 0))) hx hb (hts _ wd_127) rfl (fun t h => by cases h) hK hw hA 31 10 (by decide) (hn 10 (Nat.le_refl _) (by decide)) 0 rfl (fun _ => rfl) (by decide) (by omega) (by show _ * 4 ≤ _; omega) (by (try dsimp only); omega) (by (try dsimp only); omega) d_M_init_87 (fun q_10 H hw => ?_)
  refine W.widen (k := 11) (n := 162) (by omega) (by omega) ?_
  obtain ⟨a_11, ha_11⟩ : ∃ z, z = pw_up a_10 31 10 q_10 := ⟨_, rfl⟩
  rw [← ha_11] at hw
  have hw : pw_H D cls9 A s.heap ad C a_11 (pw_up C_10 31 10 (some ((.inl (ca 0, 20, .inl (fun _ => 0)) : va_E)))) H _ := hw
  generalize hD_10 : pw_up C_10 31 10 (some ((.inl (ca 0, 20, .inl (fun _ => 0)) : va_E))) = D_10 at hw
  have hadx := mi_ad hadx ha_11
  have g30 : D_10 30 0 = some (.inr (4, [v_10 0, v_10 1, v_10 2, v_10 3, v_10 4, v_10 5, v_10 6, v_10 7, v_10 8, v_10 9, v_10 10, v_10 11, v_10 12, v_10 13, v_10 14, .int 0, v_10 15, .int 0, v_10 16, .int 0, v_10 17, .int 0, v_10 18, v_10 19, v_10 20, .int 0, v_10 21, v_10 22, .int 0, .int 0, .int 0])) := by rw [← hD_10]; exact (pw_up_ne _ _ (by decide)).trans g30
  refine pw_putF (Cn := "GraphWriterModel") (T := F_M) (N := 31) (v := .ref q_10) (ty := .array .int) hx hb hts in_M ft_M to_M nm_M hown hK hw 30 0 (by decide) (hadx 30 0 (by decide)) g30 rfl 10 (by decide) (hts _ wd_764) (fun _ h9 => h9) rfl hnm rfl (by decide +kernel) rfl rfl (Nat.le_of_ble_eq_true rfl) d_M_init_89 (fun H locs hw => ?_)
  have hw : pw_H D cls9 A s.heap ad C a_11 (pw_up D_10 30 0 (some (.inr (4, [v_10 0, v_10 1, v_10 2, v_10 3, v_10 4, v_10 5, v_10 6, v_10 7, v_10 8, v_10 9, .ref q_10, v_10 11, v_10 12, v_10 13, v_10 14, .int 0, v_10 15, .int 0, v_10 16, .int 0, v_10 17, .int 0, v_10 18, v_10 19, v_10 20, .int 0, v_10 21, v_10 22, .int 0, .int 0, .int 0])))) H _ := hw
  generalize hC_11 : pw_up D_10 30 0 (some (.inr (4, [v_10 0, v_10 1, v_10 2, v_10 3, v_10 4, v_10 5, v_10 6, v_10 7, v_10 8, v_10 9, .ref q_10, v_10 11, v_10 12, v_10 13, v_10 14, .int 0, v_10 15, .int 0, v_10 16, .int 0, v_10 17, .int 0, v_10 18, v_10 19, v_10 20, .int 0, v_10 21, v_10 22, .int 0, .int 0, .int 0]))) = C_11 at hw
  obtain ⟨v_11, hv_11⟩ : ∃ v : Nat → Value, v = fun j => if j = 10 then .ref q_10 else v_10 j := ⟨_, rfl⟩
  have g30 : C_11 30 0 = some (.inr (4, mi_f v_11)) := by rw [← hC_11, hv_11]; exact pw_up_self _ _ _ _
  have hA9 := mi_up hA9 rfl hD_10 hC_11
  have hn := mi_no hn hD_10 hC_11
  have hfr := mi_fr hfr hD_10 hC_11
  have hV : ∀ j, j < 11 → v_11 j = .ref (a_11 31 j) := by rw [hv_11]; exact mi_v hV ha_11
  clear hD_10 hC_11 hv_11 ha_11
  refine lv_aload_n hx hb d_M_init_92 rfl (lv_at hl 0 rfl) ?_
  refine lv_bipush (v := 20) hx hb d_M_init_93 (by decide) ?_
  refine pw_newa (atype := .int) (ty := .int) (az := (20, .inl (fun _ => 0))) hx hb (hts _ wd_127) rfl (fun t h => by cases h) hK hw hA 31 11 (by decide) (hn 11 (Nat.le_refl _) (by decide)) 0 rfl (fun _ => rfl) (by decide) (by omega) (by show _ * 4 ≤ _; omega) (by (try dsimp only); omega) (by (try dsimp only); omega) d_M_init_95 (fun q_11 H hw => ?_)
  refine W.widen (k := 12) (n := 182) (by omega) (by omega) ?_
  obtain ⟨a_12, ha_12⟩ : ∃ z, z = pw_up a_11 31 11 q_11 := ⟨_, rfl⟩
  rw [← ha_12] at hw
  have hw : pw_H D cls9 A s.heap ad C a_12 (pw_up C_11 31 11 (some ((.inl (ca 0, 20, .inl (fun _ => 0)) : va_E)))) H _ := hw
  generalize hD_11 : pw_up C_11 31 11 (some ((.inl (ca 0, 20, .inl (fun _ => 0)) : va_E))) = D_11 at hw
  have hadx := mi_ad hadx ha_12
  have g30 : D_11 30 0 = some (.inr (4, [v_11 0, v_11 1, v_11 2, v_11 3, v_11 4, v_11 5, v_11 6, v_11 7, v_11 8, v_11 9, v_11 10, v_11 11, v_11 12, v_11 13, v_11 14, .int 0, v_11 15, .int 0, v_11 16, .int 0, v_11 17, .int 0, v_11 18, v_11 19, v_11 20, .int 0, v_11 21, v_11 22, .int 0, .int 0, .int 0])) := by rw [← hD_11]; exact (pw_up_ne _ _ (by decide)).trans g30
  refine pw_putF (Cn := "GraphWriterModel") (T := F_M) (N := 31) (v := .ref q_11) (ty := .array .int) hx hb hts in_M ft_M to_M nm_M hown hK hw 30 0 (by decide) (hadx 30 0 (by decide)) g30 rfl 11 (by decide) (hts _ wd_765) (fun _ h9 => h9) rfl hnm rfl (by decide +kernel) rfl rfl (Nat.le_of_ble_eq_true rfl) d_M_init_97 (fun H locs hw => ?_)
  have hw : pw_H D cls9 A s.heap ad C a_12 (pw_up D_11 30 0 (some (.inr (4, [v_11 0, v_11 1, v_11 2, v_11 3, v_11 4, v_11 5, v_11 6, v_11 7, v_11 8, v_11 9, v_11 10, .ref q_11, v_11 12, v_11 13, v_11 14, .int 0, v_11 15, .int 0, v_11 16, .int 0, v_11 17, .int 0, v_11 18, v_11 19, v_11 20, .int 0, v_11 21, v_11 22, .int 0, .int 0, .int 0])))) H _ := hw
  generalize hC_12 : pw_up D_11 30 0 (some (.inr (4, [v_11 0, v_11 1, v_11 2, v_11 3, v_11 4, v_11 5, v_11 6, v_11 7, v_11 8, v_11 9, v_11 10, .ref q_11, v_11 12, v_11 13, v_11 14, .int 0, v_11 15, .int 0, v_11 16, .int 0, v_11 17, .int 0, v_11 18, v_11 19, v_11 20, .int 0, v_11 21, v_11 22, .int 0, .int 0, .int 0]))) = C_12 at hw
  obtain ⟨v_12, hv_12⟩ : ∃ v : Nat → Value, v = fun j => if j = 11 then .ref q_11 else v_11 j := ⟨_, rfl⟩
  have g30 : C_12 30 0 = some (.inr (4, mi_f v_12)) := by rw [← hC_12, hv_12]; exact pw_up_self _ _ _ _
  have hA9 := mi_up hA9 rfl hD_11 hC_12
  have hn := mi_no hn hD_11 hC_12
  have hfr := mi_fr hfr hD_11 hC_12
  have hV : ∀ j, j < 12 → v_12 j = .ref (a_12 31 j) := by rw [hv_12]; exact mi_v hV ha_12
  clear hD_11 hC_12 hv_12 ha_12
  refine lv_aload_n hx hb d_M_init_100 rfl (lv_at hl 0 rfl) ?_
  refine lv_sipush (v := 480) hx hb d_M_init_101 (by decide) ?_
  refine pw_newa (atype := .long) (ty := .long) (az := (480, .inr (.inl (fun _ => 0)))) hx hb (hts _ wd_402) rfl (fun t h => by cases h) hK hw hA 31 12 (by decide) (hn 12 (Nat.le_refl _) (by decide)) 1 rfl (fun _ => rfl) (by decide) (by omega) (by show _ * 8 ≤ _; omega) (by (try dsimp only); omega) (by (try dsimp only); omega) d_M_init_104 (fun q_12 H hw => ?_)
  refine W.widen (k := 13) (n := 662) (by omega) (by omega) ?_
  obtain ⟨a_13, ha_13⟩ : ∃ z, z = pw_up a_12 31 12 q_12 := ⟨_, rfl⟩
  rw [← ha_13] at hw
  have hw : pw_H D cls9 A s.heap ad C a_13 (pw_up C_12 31 12 (some ((.inl (ca 1, 480, .inr (.inl (fun _ => 0))) : va_E)))) H _ := hw
  generalize hD_12 : pw_up C_12 31 12 (some ((.inl (ca 1, 480, .inr (.inl (fun _ => 0))) : va_E))) = D_12 at hw
  have hadx := mi_ad hadx ha_13
  have g30 : D_12 30 0 = some (.inr (4, [v_12 0, v_12 1, v_12 2, v_12 3, v_12 4, v_12 5, v_12 6, v_12 7, v_12 8, v_12 9, v_12 10, v_12 11, v_12 12, v_12 13, v_12 14, .int 0, v_12 15, .int 0, v_12 16, .int 0, v_12 17, .int 0, v_12 18, v_12 19, v_12 20, .int 0, v_12 21, v_12 22, .int 0, .int 0, .int 0])) := by rw [← hD_12]; exact (pw_up_ne _ _ (by decide)).trans g30
  refine pw_putF (Cn := "GraphWriterModel") (T := F_M) (N := 31) (v := .ref q_12) (ty := .array .long) hx hb hts in_M ft_M to_M nm_M hown hK hw 30 0 (by decide) (hadx 30 0 (by decide)) g30 rfl 12 (by decide) (hts _ wd_766) (fun _ h9 => h9) rfl hnm rfl (by decide +kernel) rfl rfl (Nat.le_of_ble_eq_true rfl) d_M_init_106 (fun H locs hw => ?_)
  have hw : pw_H D cls9 A s.heap ad C a_13 (pw_up D_12 30 0 (some (.inr (4, [v_12 0, v_12 1, v_12 2, v_12 3, v_12 4, v_12 5, v_12 6, v_12 7, v_12 8, v_12 9, v_12 10, v_12 11, .ref q_12, v_12 13, v_12 14, .int 0, v_12 15, .int 0, v_12 16, .int 0, v_12 17, .int 0, v_12 18, v_12 19, v_12 20, .int 0, v_12 21, v_12 22, .int 0, .int 0, .int 0])))) H _ := hw
  generalize hC_13 : pw_up D_12 30 0 (some (.inr (4, [v_12 0, v_12 1, v_12 2, v_12 3, v_12 4, v_12 5, v_12 6, v_12 7, v_12 8, v_12 9, v_12 10, v_12 11, .ref q_12, v_12 13, v_12 14, .int 0, v_12 15, .int 0, v_12 16, .int 0, v_12 17, .int 0, v_12 18, v_12 19, v_12 20, .int 0, v_12 21, v_12 22, .int 0, .int 0, .int 0]))) = C_13 at hw
  obtain ⟨v_13, hv_13⟩ : ∃ v : Nat → Value, v = fun j => if j = 12 then .ref q_12 else v_12 j := ⟨_, rfl⟩
  have g30 : C_13 30 0 = some (.inr (4, mi_f v_13)) := by rw [← hC_13, hv_13]; exact pw_up_self _ _ _ _
  have hA9 := mi_up hA9 rfl hD_12 hC_13
  have hn := mi_no hn hD_12 hC_13
  have hfr := mi_fr hfr hD_12 hC_13
  have hV : ∀ j, j < 13 → v_13 j = .ref (a_13 31 j) := by rw [hv_13]; exact mi_v hV ha_13
  clear hD_12 hC_13 hv_13 ha_13
  refine lv_aload_n hx hb d_M_init_109 rfl (lv_at hl 0 rfl) ?_
  refine lv_bipush (v := 20) hx hb d_M_init_110 (by decide) ?_
  refine pw_newa (atype := .int) (ty := .int) (az := (20, .inl (fun _ => 0))) hx hb (hts _ wd_127) rfl (fun t h => by cases h) hK hw hA 31 13 (by decide) (hn 13 (Nat.le_refl _) (by decide)) 0 rfl (fun _ => rfl) (by decide) (by omega) (by show _ * 4 ≤ _; omega) (by (try dsimp only); omega) (by (try dsimp only); omega) d_M_init_112 (fun q_13 H hw => ?_)
  refine W.widen (k := 14) (n := 682) (by omega) (by omega) ?_
  obtain ⟨a_14, ha_14⟩ : ∃ z, z = pw_up a_13 31 13 q_13 := ⟨_, rfl⟩
  rw [← ha_14] at hw
  have hw : pw_H D cls9 A s.heap ad C a_14 (pw_up C_13 31 13 (some ((.inl (ca 0, 20, .inl (fun _ => 0)) : va_E)))) H _ := hw
  generalize hD_13 : pw_up C_13 31 13 (some ((.inl (ca 0, 20, .inl (fun _ => 0)) : va_E))) = D_13 at hw
  have hadx := mi_ad hadx ha_14
  have g30 : D_13 30 0 = some (.inr (4, [v_13 0, v_13 1, v_13 2, v_13 3, v_13 4, v_13 5, v_13 6, v_13 7, v_13 8, v_13 9, v_13 10, v_13 11, v_13 12, v_13 13, v_13 14, .int 0, v_13 15, .int 0, v_13 16, .int 0, v_13 17, .int 0, v_13 18, v_13 19, v_13 20, .int 0, v_13 21, v_13 22, .int 0, .int 0, .int 0])) := by rw [← hD_13]; exact (pw_up_ne _ _ (by decide)).trans g30
  refine pw_putF (Cn := "GraphWriterModel") (T := F_M) (N := 31) (v := .ref q_13) (ty := .array .int) hx hb hts in_M ft_M to_M nm_M hown hK hw 30 0 (by decide) (hadx 30 0 (by decide)) g30 rfl 13 (by decide) (hts _ wd_767) (fun _ h9 => h9) rfl hnm rfl (by decide +kernel) rfl rfl (Nat.le_of_ble_eq_true rfl) d_M_init_114 (fun H locs hw => ?_)
  have hw : pw_H D cls9 A s.heap ad C a_14 (pw_up D_13 30 0 (some (.inr (4, [v_13 0, v_13 1, v_13 2, v_13 3, v_13 4, v_13 5, v_13 6, v_13 7, v_13 8, v_13 9, v_13 10, v_13 11, v_13 12, .ref q_13, v_13 14, .int 0, v_13 15, .int 0, v_13 16, .int 0, v_13 17, .int 0, v_13 18, v_13 19, v_13 20, .int 0, v_13 21, v_13 22, .int 0, .int 0, .int 0])))) H _ := hw
  generalize hC_14 : pw_up D_13 30 0 (some (.inr (4, [v_13 0, v_13 1, v_13 2, v_13 3, v_13 4, v_13 5, v_13 6, v_13 7, v_13 8, v_13 9, v_13 10, v_13 11, v_13 12, .ref q_13, v_13 14, .int 0, v_13 15, .int 0, v_13 16, .int 0, v_13 17, .int 0, v_13 18, v_13 19, v_13 20, .int 0, v_13 21, v_13 22, .int 0, .int 0, .int 0]))) = C_14 at hw
  obtain ⟨v_14, hv_14⟩ : ∃ v : Nat → Value, v = fun j => if j = 13 then .ref q_13 else v_13 j := ⟨_, rfl⟩
  have g30 : C_14 30 0 = some (.inr (4, mi_f v_14)) := by rw [← hC_14, hv_14]; exact pw_up_self _ _ _ _
  have hA9 := mi_up hA9 rfl hD_13 hC_14
  have hn := mi_no hn hD_13 hC_14
  have hfr := mi_fr hfr hD_13 hC_14
  have hV : ∀ j, j < 14 → v_14 j = .ref (a_14 31 j) := by rw [hv_14]; exact mi_v hV ha_14
  clear hD_13 hC_14 hv_14 ha_14
  refine lv_aload_n hx hb d_M_init_117 rfl (lv_at hl 0 rfl) ?_
  refine lv_bipush (v := 20) hx hb d_M_init_118 (by decide) ?_
  refine pw_newa (atype := .int) (ty := .int) (az := (20, .inl (fun _ => 0))) hx hb (hts _ wd_127) rfl (fun t h => by cases h) hK hw hA 31 14 (by decide) (hn 14 (Nat.le_refl _) (by decide)) 0 rfl (fun _ => rfl) (by decide) (by omega) (by show _ * 4 ≤ _; omega) (by (try dsimp only); omega) (by (try dsimp only); omega) d_M_init_120 (fun q_14 H hw => ?_)
  refine W.widen (k := 15) (n := 702) (by omega) (by omega) ?_
  obtain ⟨a_15, ha_15⟩ : ∃ z, z = pw_up a_14 31 14 q_14 := ⟨_, rfl⟩
  rw [← ha_15] at hw
  have hw : pw_H D cls9 A s.heap ad C a_15 (pw_up C_14 31 14 (some ((.inl (ca 0, 20, .inl (fun _ => 0)) : va_E)))) H _ := hw
  generalize hD_14 : pw_up C_14 31 14 (some ((.inl (ca 0, 20, .inl (fun _ => 0)) : va_E))) = D_14 at hw
  have hadx := mi_ad hadx ha_15
  have g30 : D_14 30 0 = some (.inr (4, [v_14 0, v_14 1, v_14 2, v_14 3, v_14 4, v_14 5, v_14 6, v_14 7, v_14 8, v_14 9, v_14 10, v_14 11, v_14 12, v_14 13, v_14 14, .int 0, v_14 15, .int 0, v_14 16, .int 0, v_14 17, .int 0, v_14 18, v_14 19, v_14 20, .int 0, v_14 21, v_14 22, .int 0, .int 0, .int 0])) := by rw [← hD_14]; exact (pw_up_ne _ _ (by decide)).trans g30
  refine pw_putF (Cn := "GraphWriterModel") (T := F_M) (N := 31) (v := .ref q_14) (ty := .array .int) hx hb hts in_M ft_M to_M nm_M hown hK hw 30 0 (by decide) (hadx 30 0 (by decide)) g30 rfl 14 (by decide) (hts _ wd_768) (fun _ h9 => h9) rfl hnm rfl (by decide +kernel) rfl rfl (Nat.le_of_ble_eq_true rfl) d_M_init_122 (fun H locs hw => ?_)
  have hw : pw_H D cls9 A s.heap ad C a_15 (pw_up D_14 30 0 (some (.inr (4, [v_14 0, v_14 1, v_14 2, v_14 3, v_14 4, v_14 5, v_14 6, v_14 7, v_14 8, v_14 9, v_14 10, v_14 11, v_14 12, v_14 13, .ref q_14, .int 0, v_14 15, .int 0, v_14 16, .int 0, v_14 17, .int 0, v_14 18, v_14 19, v_14 20, .int 0, v_14 21, v_14 22, .int 0, .int 0, .int 0])))) H _ := hw
  generalize hC_15 : pw_up D_14 30 0 (some (.inr (4, [v_14 0, v_14 1, v_14 2, v_14 3, v_14 4, v_14 5, v_14 6, v_14 7, v_14 8, v_14 9, v_14 10, v_14 11, v_14 12, v_14 13, .ref q_14, .int 0, v_14 15, .int 0, v_14 16, .int 0, v_14 17, .int 0, v_14 18, v_14 19, v_14 20, .int 0, v_14 21, v_14 22, .int 0, .int 0, .int 0]))) = C_15 at hw
  obtain ⟨v_15, hv_15⟩ : ∃ v : Nat → Value, v = fun j => if j = 14 then .ref q_14 else v_14 j := ⟨_, rfl⟩
  have g30 : C_15 30 0 = some (.inr (4, mi_f v_15)) := by rw [← hC_15, hv_15]; exact pw_up_self _ _ _ _
  have hA9 := mi_up hA9 rfl hD_14 hC_15
  have hn := mi_no hn hD_14 hC_15
  have hfr := mi_fr hfr hD_14 hC_15
  have hV : ∀ j, j < 15 → v_15 j = .ref (a_15 31 j) := by rw [hv_15]; exact mi_v hV ha_15
  clear hD_14 hC_15 hv_15 ha_15
  refine lv_aload_n hx hb d_M_init_125 rfl (lv_at hl 0 rfl) ?_
  refine lv_sipush (v := 1700) hx hb d_M_init_126 (by decide) ?_
  refine pw_newa (atype := .int) (ty := .int) (az := (1700, .inl (fun _ => 0))) hx hb (hts _ wd_127) rfl (fun t h => by cases h) hK hw hA 31 15 (by decide) (hn 15 (Nat.le_refl _) (by decide)) 0 rfl (fun _ => rfl) (by decide) (by omega) (by show _ * 4 ≤ _; omega) (by (try dsimp only); omega) (by (try dsimp only); omega) d_M_init_129 (fun q_15 H hw => ?_)
  refine W.widen (k := 16) (n := 2402) (by omega) (by omega) ?_
  obtain ⟨a_16, ha_16⟩ : ∃ z, z = pw_up a_15 31 15 q_15 := ⟨_, rfl⟩
  rw [← ha_16] at hw
  have hw : pw_H D cls9 A s.heap ad C a_16 (pw_up C_15 31 15 (some ((.inl (ca 0, 1700, .inl (fun _ => 0)) : va_E)))) H _ := hw
  generalize hD_15 : pw_up C_15 31 15 (some ((.inl (ca 0, 1700, .inl (fun _ => 0)) : va_E))) = D_15 at hw
  have hadx := mi_ad hadx ha_16
  have g30 : D_15 30 0 = some (.inr (4, [v_15 0, v_15 1, v_15 2, v_15 3, v_15 4, v_15 5, v_15 6, v_15 7, v_15 8, v_15 9, v_15 10, v_15 11, v_15 12, v_15 13, v_15 14, .int 0, v_15 15, .int 0, v_15 16, .int 0, v_15 17, .int 0, v_15 18, v_15 19, v_15 20, .int 0, v_15 21, v_15 22, .int 0, .int 0, .int 0])) := by rw [← hD_15]; exact (pw_up_ne _ _ (by decide)).trans g30
  refine pw_putF (Cn := "GraphWriterModel") (T := F_M) (N := 31) (v := .ref q_15) (ty := .array .int) hx hb hts in_M ft_M to_M nm_M hown hK hw 30 0 (by decide) (hadx 30 0 (by decide)) g30 rfl 16 (by decide) (hts _ wd_770) (fun _ h9 => h9) rfl hnm rfl (by decide +kernel) rfl rfl (Nat.le_of_ble_eq_true rfl) d_M_init_131 (fun H locs hw => ?_)
  have hw : pw_H D cls9 A s.heap ad C a_16 (pw_up D_15 30 0 (some (.inr (4, [v_15 0, v_15 1, v_15 2, v_15 3, v_15 4, v_15 5, v_15 6, v_15 7, v_15 8, v_15 9, v_15 10, v_15 11, v_15 12, v_15 13, v_15 14, .int 0, .ref q_15, .int 0, v_15 16, .int 0, v_15 17, .int 0, v_15 18, v_15 19, v_15 20, .int 0, v_15 21, v_15 22, .int 0, .int 0, .int 0])))) H _ := hw
  generalize hC_16 : pw_up D_15 30 0 (some (.inr (4, [v_15 0, v_15 1, v_15 2, v_15 3, v_15 4, v_15 5, v_15 6, v_15 7, v_15 8, v_15 9, v_15 10, v_15 11, v_15 12, v_15 13, v_15 14, .int 0, .ref q_15, .int 0, v_15 16, .int 0, v_15 17, .int 0, v_15 18, v_15 19, v_15 20, .int 0, v_15 21, v_15 22, .int 0, .int 0, .int 0]))) = C_16 at hw
  obtain ⟨v_16, hv_16⟩ : ∃ v : Nat → Value, v = fun j => if j = 15 then .ref q_15 else v_15 j := ⟨_, rfl⟩
  have g30 : C_16 30 0 = some (.inr (4, mi_f v_16)) := by rw [← hC_16, hv_16]; exact pw_up_self _ _ _ _
  have hA9 := mi_up hA9 rfl hD_15 hC_16
  have hn := mi_no hn hD_15 hC_16
  have hfr := mi_fr hfr hD_15 hC_16
  have hV : ∀ j, j < 16 → v_16 j = .ref (a_16 31 j) := by rw [hv_16]; exact mi_v hV ha_16
  clear hD_15 hC_16 hv_16 ha_16
  refine lv_aload_n hx hb d_M_init_134 rfl (lv_at hl 0 rfl) ?_
  refine lv_sipush (v := 256) hx hb d_M_init_135 (by decide) ?_
  refine pw_newa (atype := .int) (ty := .int) (az := (256, .inl (fun _ => 0))) hx hb (hts _ wd_127) rfl (fun t h => by cases h) hK hw hA 31 16 (by decide) (hn 16 (Nat.le_refl _) (by decide)) 0 rfl (fun _ => rfl) (by decide) (by omega) (by show _ * 4 ≤ _; omega) (by (try dsimp only); omega) (by (try dsimp only); omega) d_M_init_138 (fun q_16 H hw => ?_)
  refine W.widen (k := 17) (n := 2658) (by omega) (by omega) ?_
  obtain ⟨a_17, ha_17⟩ : ∃ z, z = pw_up a_16 31 16 q_16 := ⟨_, rfl⟩
  rw [← ha_17] at hw
  have hw : pw_H D cls9 A s.heap ad C a_17 (pw_up C_16 31 16 (some ((.inl (ca 0, 256, .inl (fun _ => 0)) : va_E)))) H _ := hw
  generalize hD_16 : pw_up C_16 31 16 (some ((.inl (ca 0, 256, .inl (fun _ => 0)) : va_E))) = D_16 at hw
  have hadx := mi_ad hadx ha_17
  have g30 : D_16 30 0 = some (.inr (4, [v_16 0, v_16 1, v_16 2, v_16 3, v_16 4, v_16 5, v_16 6, v_16 7, v_16 8, v_16 9, v_16 10, v_16 11, v_16 12, v_16 13, v_16 14, .int 0, v_16 15, .int 0, v_16 16, .int 0, v_16 17, .int 0, v_16 18, v_16 19, v_16 20, .int 0, v_16 21, v_16 22, .int 0, .int 0, .int 0])) := by rw [← hD_16]; exact (pw_up_ne _ _ (by decide)).trans g30
  refine pw_putF (Cn := "GraphWriterModel") (T := F_M) (N := 31) (v := .ref q_16) (ty := .array .int) hx hb hts in_M ft_M to_M nm_M hown hK hw 30 0 (by decide) (hadx 30 0 (by decide)) g30 rfl 18 (by decide) (hts _ wd_772) (fun _ h9 => h9) rfl hnm rfl (by decide +kernel) rfl rfl (Nat.le_of_ble_eq_true rfl) d_M_init_140 (fun H locs hw => ?_)
  have hw : pw_H D cls9 A s.heap ad C a_17 (pw_up D_16 30 0 (some (.inr (4, [v_16 0, v_16 1, v_16 2, v_16 3, v_16 4, v_16 5, v_16 6, v_16 7, v_16 8, v_16 9, v_16 10, v_16 11, v_16 12, v_16 13, v_16 14, .int 0, v_16 15, .int 0, .ref q_16, .int 0, v_16 17, .int 0, v_16 18, v_16 19, v_16 20, .int 0, v_16 21, v_16 22, .int 0, .int 0, .int 0])))) H _ := hw
  generalize hC_17 : pw_up D_16 30 0 (some (.inr (4, [v_16 0, v_16 1, v_16 2, v_16 3, v_16 4, v_16 5, v_16 6, v_16 7, v_16 8, v_16 9, v_16 10, v_16 11, v_16 12, v_16 13, v_16 14, .int 0, v_16 15, .int 0, .ref q_16, .int 0, v_16 17, .int 0, v_16 18, v_16 19, v_16 20, .int 0, v_16 21, v_16 22, .int 0, .int 0, .int 0]))) = C_17 at hw
  obtain ⟨v_17, hv_17⟩ : ∃ v : Nat → Value, v = fun j => if j = 16 then .ref q_16 else v_16 j := ⟨_, rfl⟩
  have g30 : C_17 30 0 = some (.inr (4, mi_f v_17)) := by rw [← hC_17, hv_17]; exact pw_up_self _ _ _ _
  have hA9 := mi_up hA9 rfl hD_16 hC_17
  have hn := mi_no hn hD_16 hC_17
  have hfr := mi_fr hfr hD_16 hC_17
  have hV : ∀ j, j < 17 → v_17 j = .ref (a_17 31 j) := by rw [hv_17]; exact mi_v hV ha_17
  clear hD_16 hC_17 hv_17 ha_17
  refine lv_aload_n hx hb d_M_init_143 rfl (lv_at hl 0 rfl) ?_
  refine lv_bipush (v := 51) hx hb d_M_init_144 (by decide) ?_
  refine pw_newa (atype := .int) (ty := .int) (az := (51, .inl (fun _ => 0))) hx hb (hts _ wd_127) rfl (fun t h => by cases h) hK hw hA 31 17 (by decide) (hn 17 (Nat.le_refl _) (by decide)) 0 rfl (fun _ => rfl) (by decide) (by omega) (by show _ * 4 ≤ _; omega) (by (try dsimp only); omega) (by (try dsimp only); omega) d_M_init_146 (fun q_17 H hw => ?_)
  refine W.widen (k := 18) (n := 2709) (by omega) (by omega) ?_
  obtain ⟨a_18, ha_18⟩ : ∃ z, z = pw_up a_17 31 17 q_17 := ⟨_, rfl⟩
  rw [← ha_18] at hw
  have hw : pw_H D cls9 A s.heap ad C a_18 (pw_up C_17 31 17 (some ((.inl (ca 0, 51, .inl (fun _ => 0)) : va_E)))) H _ := hw
  generalize hD_17 : pw_up C_17 31 17 (some ((.inl (ca 0, 51, .inl (fun _ => 0)) : va_E))) = D_17 at hw
  have hadx := mi_ad hadx ha_18
  have g30 : D_17 30 0 = some (.inr (4, [v_17 0, v_17 1, v_17 2, v_17 3, v_17 4, v_17 5, v_17 6, v_17 7, v_17 8, v_17 9, v_17 10, v_17 11, v_17 12, v_17 13, v_17 14, .int 0, v_17 15, .int 0, v_17 16, .int 0, v_17 17, .int 0, v_17 18, v_17 19, v_17 20, .int 0, v_17 21, v_17 22, .int 0, .int 0, .int 0])) := by rw [← hD_17]; exact (pw_up_ne _ _ (by decide)).trans g30
  refine pw_putF (Cn := "GraphWriterModel") (T := F_M) (N := 31) (v := .ref q_17) (ty := .array .int) hx hb hts in_M ft_M to_M nm_M hown hK hw 30 0 (by decide) (hadx 30 0 (by decide)) g30 rfl 20 (by decide) (hts _ wd_774) (fun _ h9 => h9) rfl hnm rfl (by decide +kernel) rfl rfl (Nat.le_of_ble_eq_true rfl) d_M_init_148 (fun H locs hw => ?_)
  have hw : pw_H D cls9 A s.heap ad C a_18 (pw_up D_17 30 0 (some (.inr (4, [v_17 0, v_17 1, v_17 2, v_17 3, v_17 4, v_17 5, v_17 6, v_17 7, v_17 8, v_17 9, v_17 10, v_17 11, v_17 12, v_17 13, v_17 14, .int 0, v_17 15, .int 0, v_17 16, .int 0, .ref q_17, .int 0, v_17 18, v_17 19, v_17 20, .int 0, v_17 21, v_17 22, .int 0, .int 0, .int 0])))) H _ := hw
  generalize hC_18 : pw_up D_17 30 0 (some (.inr (4, [v_17 0, v_17 1, v_17 2, v_17 3, v_17 4, v_17 5, v_17 6, v_17 7, v_17 8, v_17 9, v_17 10, v_17 11, v_17 12, v_17 13, v_17 14, .int 0, v_17 15, .int 0, v_17 16, .int 0, .ref q_17, .int 0, v_17 18, v_17 19, v_17 20, .int 0, v_17 21, v_17 22, .int 0, .int 0, .int 0]))) = C_18 at hw
  obtain ⟨v_18, hv_18⟩ : ∃ v : Nat → Value, v = fun j => if j = 17 then .ref q_17 else v_17 j := ⟨_, rfl⟩
  have g30 : C_18 30 0 = some (.inr (4, mi_f v_18)) := by rw [← hC_18, hv_18]; exact pw_up_self _ _ _ _
  have hA9 := mi_up hA9 rfl hD_17 hC_18
  have hn := mi_no hn hD_17 hC_18
  have hfr := mi_fr hfr hD_17 hC_18
  have hV : ∀ j, j < 18 → v_18 j = .ref (a_18 31 j) := by rw [hv_18]; exact mi_v hV ha_18
  clear hD_17 hC_18 hv_18 ha_18
  refine lv_aload_n hx hb d_M_init_151 rfl (lv_at hl 0 rfl) ?_
  refine lv_sipush (v := 900) hx hb d_M_init_152 (by decide) ?_
  refine pw_newa (atype := .int) (ty := .int) (az := (900, .inl (fun _ => 0))) hx hb (hts _ wd_127) rfl (fun t h => by cases h) hK hw hA 31 18 (by decide) (hn 18 (Nat.le_refl _) (by decide)) 0 rfl (fun _ => rfl) (by decide) (by omega) (by show _ * 4 ≤ _; omega) (by (try dsimp only); omega) (by (try dsimp only); omega) d_M_init_155 (fun q_18 H hw => ?_)
  refine W.widen (k := 19) (n := 3609) (by omega) (by omega) ?_
  obtain ⟨a_19, ha_19⟩ : ∃ z, z = pw_up a_18 31 18 q_18 := ⟨_, rfl⟩
  rw [← ha_19] at hw
  have hw : pw_H D cls9 A s.heap ad C a_19 (pw_up C_18 31 18 (some ((.inl (ca 0, 900, .inl (fun _ => 0)) : va_E)))) H _ := hw
  generalize hD_18 : pw_up C_18 31 18 (some ((.inl (ca 0, 900, .inl (fun _ => 0)) : va_E))) = D_18 at hw
  have hadx := mi_ad hadx ha_19
  have g30 : D_18 30 0 = some (.inr (4, [v_18 0, v_18 1, v_18 2, v_18 3, v_18 4, v_18 5, v_18 6, v_18 7, v_18 8, v_18 9, v_18 10, v_18 11, v_18 12, v_18 13, v_18 14, .int 0, v_18 15, .int 0, v_18 16, .int 0, v_18 17, .int 0, v_18 18, v_18 19, v_18 20, .int 0, v_18 21, v_18 22, .int 0, .int 0, .int 0])) := by rw [← hD_18]; exact (pw_up_ne _ _ (by decide)).trans g30
  refine pw_putF (Cn := "GraphWriterModel") (T := F_M) (N := 31) (v := .ref q_18) (ty := .array .int) hx hb hts in_M ft_M to_M nm_M hown hK hw 30 0 (by decide) (hadx 30 0 (by decide)) g30 rfl 22 (by decide) (hts _ wd_776) (fun _ h9 => h9) rfl hnm rfl (by decide +kernel) rfl rfl (Nat.le_of_ble_eq_true rfl) d_M_init_157 (fun H locs hw => ?_)
  have hw : pw_H D cls9 A s.heap ad C a_19 (pw_up D_18 30 0 (some (.inr (4, [v_18 0, v_18 1, v_18 2, v_18 3, v_18 4, v_18 5, v_18 6, v_18 7, v_18 8, v_18 9, v_18 10, v_18 11, v_18 12, v_18 13, v_18 14, .int 0, v_18 15, .int 0, v_18 16, .int 0, v_18 17, .int 0, .ref q_18, v_18 19, v_18 20, .int 0, v_18 21, v_18 22, .int 0, .int 0, .int 0])))) H _ := hw
  generalize hC_19 : pw_up D_18 30 0 (some (.inr (4, [v_18 0, v_18 1, v_18 2, v_18 3, v_18 4, v_18 5, v_18 6, v_18 7, v_18 8, v_18 9, v_18 10, v_18 11, v_18 12, v_18 13, v_18 14, .int 0, v_18 15, .int 0, v_18 16, .int 0, v_18 17, .int 0, .ref q_18, v_18 19, v_18 20, .int 0, v_18 21, v_18 22, .int 0, .int 0, .int 0]))) = C_19 at hw
  obtain ⟨v_19, hv_19⟩ : ∃ v : Nat → Value, v = fun j => if j = 18 then .ref q_18 else v_18 j := ⟨_, rfl⟩
  have g30 : C_19 30 0 = some (.inr (4, mi_f v_19)) := by rw [← hC_19, hv_19]; exact pw_up_self _ _ _ _
  have hA9 := mi_up hA9 rfl hD_18 hC_19
  have hn := mi_no hn hD_18 hC_19
  have hfr := mi_fr hfr hD_18 hC_19
  have hV : ∀ j, j < 19 → v_19 j = .ref (a_19 31 j) := by rw [hv_19]; exact mi_v hV ha_19
  clear hD_18 hC_19 hv_19 ha_19
  refine lv_aload_n hx hb d_M_init_160 rfl (lv_at hl 0 rfl) ?_
  refine lv_sipush (v := 900) hx hb d_M_init_161 (by decide) ?_
  refine pw_newa (atype := .int) (ty := .int) (az := (900, .inl (fun _ => 0))) hx hb (hts _ wd_127) rfl (fun t h => by cases h) hK hw hA 31 19 (by decide) (hn 19 (Nat.le_refl _) (by decide)) 0 rfl (fun _ => rfl) (by decide) (by omega) (by show _ * 4 ≤ _; omega) (by (try dsimp only); omega) (by (try dsimp only); omega) d_M_init_164 (fun q_19 H hw => ?_)
  refine W.widen (k := 20) (n := 4509) (by omega) (by omega) ?_
  obtain ⟨a_20, ha_20⟩ : ∃ z, z = pw_up a_19 31 19 q_19 := ⟨_, rfl⟩
  rw [← ha_20] at hw
  have hw : pw_H D cls9 A s.heap ad C a_20 (pw_up C_19 31 19 (some ((.inl (ca 0, 900, .inl (fun _ => 0)) : va_E)))) H _ := hw
  generalize hD_19 : pw_up C_19 31 19 (some ((.inl (ca 0, 900, .inl (fun _ => 0)) : va_E))) = D_19 at hw
  have hadx := mi_ad hadx ha_20
  have g30 : D_19 30 0 = some (.inr (4, [v_19 0, v_19 1, v_19 2, v_19 3, v_19 4, v_19 5, v_19 6, v_19 7, v_19 8, v_19 9, v_19 10, v_19 11, v_19 12, v_19 13, v_19 14, .int 0, v_19 15, .int 0, v_19 16, .int 0, v_19 17, .int 0, v_19 18, v_19 19, v_19 20, .int 0, v_19 21, v_19 22, .int 0, .int 0, .int 0])) := by rw [← hD_19]; exact (pw_up_ne _ _ (by decide)).trans g30
  refine pw_putF (Cn := "GraphWriterModel") (T := F_M) (N := 31) (v := .ref q_19) (ty := .array .int) hx hb hts in_M ft_M to_M nm_M hown hK hw 30 0 (by decide) (hadx 30 0 (by decide)) g30 rfl 23 (by decide) (hts _ wd_777) (fun _ h9 => h9) rfl hnm rfl (by decide +kernel) rfl rfl (Nat.le_of_ble_eq_true rfl) d_M_init_166 (fun H locs hw => ?_)
  have hw : pw_H D cls9 A s.heap ad C a_20 (pw_up D_19 30 0 (some (.inr (4, [v_19 0, v_19 1, v_19 2, v_19 3, v_19 4, v_19 5, v_19 6, v_19 7, v_19 8, v_19 9, v_19 10, v_19 11, v_19 12, v_19 13, v_19 14, .int 0, v_19 15, .int 0, v_19 16, .int 0, v_19 17, .int 0, v_19 18, .ref q_19, v_19 20, .int 0, v_19 21, v_19 22, .int 0, .int 0, .int 0])))) H _ := hw
  generalize hC_20 : pw_up D_19 30 0 (some (.inr (4, [v_19 0, v_19 1, v_19 2, v_19 3, v_19 4, v_19 5, v_19 6, v_19 7, v_19 8, v_19 9, v_19 10, v_19 11, v_19 12, v_19 13, v_19 14, .int 0, v_19 15, .int 0, v_19 16, .int 0, v_19 17, .int 0, v_19 18, .ref q_19, v_19 20, .int 0, v_19 21, v_19 22, .int 0, .int 0, .int 0]))) = C_20 at hw
  obtain ⟨v_20, hv_20⟩ : ∃ v : Nat → Value, v = fun j => if j = 19 then .ref q_19 else v_19 j := ⟨_, rfl⟩
  have g30 : C_20 30 0 = some (.inr (4, mi_f v_20)) := by rw [← hC_20, hv_20]; exact pw_up_self _ _ _ _
  have hA9 := mi_up hA9 rfl hD_19 hC_20
  have hn := mi_no hn hD_19 hC_20
  have hfr := mi_fr hfr hD_19 hC_20
  have hV : ∀ j, j < 20 → v_20 j = .ref (a_20 31 j) := by rw [hv_20]; exact mi_v hV ha_20
  clear hD_19 hC_20 hv_20 ha_20
  refine lv_aload_n hx hb d_M_init_169 rfl (lv_at hl 0 rfl) ?_
  refine lv_sipush (v := 900) hx hb d_M_init_170 (by decide) ?_
  refine pw_newa (atype := .int) (ty := .int) (az := (900, .inl (fun _ => 0))) hx hb (hts _ wd_127) rfl (fun t h => by cases h) hK hw hA 31 20 (by decide) (hn 20 (Nat.le_refl _) (by decide)) 0 rfl (fun _ => rfl) (by decide) (by omega) (by show _ * 4 ≤ _; omega) (by (try dsimp only); omega) (by (try dsimp only); omega) d_M_init_173 (fun q_20 H hw => ?_)
  refine W.widen (k := 21) (n := 5409) (by omega) (by omega) ?_
  obtain ⟨a_21, ha_21⟩ : ∃ z, z = pw_up a_20 31 20 q_20 := ⟨_, rfl⟩
  rw [← ha_21] at hw
  have hw : pw_H D cls9 A s.heap ad C a_21 (pw_up C_20 31 20 (some ((.inl (ca 0, 900, .inl (fun _ => 0)) : va_E)))) H _ := hw
  generalize hD_20 : pw_up C_20 31 20 (some ((.inl (ca 0, 900, .inl (fun _ => 0)) : va_E))) = D_20 at hw
  have hadx := mi_ad hadx ha_21
  have g30 : D_20 30 0 = some (.inr (4, [v_20 0, v_20 1, v_20 2, v_20 3, v_20 4, v_20 5, v_20 6, v_20 7, v_20 8, v_20 9, v_20 10, v_20 11, v_20 12, v_20 13, v_20 14, .int 0, v_20 15, .int 0, v_20 16, .int 0, v_20 17, .int 0, v_20 18, v_20 19, v_20 20, .int 0, v_20 21, v_20 22, .int 0, .int 0, .int 0])) := by rw [← hD_20]; exact (pw_up_ne _ _ (by decide)).trans g30
  refine pw_putF (Cn := "GraphWriterModel") (T := F_M) (N := 31) (v := .ref q_20) (ty := .array .int) hx hb hts in_M ft_M to_M nm_M hown hK hw 30 0 (by decide) (hadx 30 0 (by decide)) g30 rfl 24 (by decide) (hts _ wd_778) (fun _ h9 => h9) rfl hnm rfl (by decide +kernel) rfl rfl (Nat.le_of_ble_eq_true rfl) d_M_init_175 (fun H locs hw => ?_)
  have hw : pw_H D cls9 A s.heap ad C a_21 (pw_up D_20 30 0 (some (.inr (4, [v_20 0, v_20 1, v_20 2, v_20 3, v_20 4, v_20 5, v_20 6, v_20 7, v_20 8, v_20 9, v_20 10, v_20 11, v_20 12, v_20 13, v_20 14, .int 0, v_20 15, .int 0, v_20 16, .int 0, v_20 17, .int 0, v_20 18, v_20 19, .ref q_20, .int 0, v_20 21, v_20 22, .int 0, .int 0, .int 0])))) H _ := hw
  generalize hC_21 : pw_up D_20 30 0 (some (.inr (4, [v_20 0, v_20 1, v_20 2, v_20 3, v_20 4, v_20 5, v_20 6, v_20 7, v_20 8, v_20 9, v_20 10, v_20 11, v_20 12, v_20 13, v_20 14, .int 0, v_20 15, .int 0, v_20 16, .int 0, v_20 17, .int 0, v_20 18, v_20 19, .ref q_20, .int 0, v_20 21, v_20 22, .int 0, .int 0, .int 0]))) = C_21 at hw
  obtain ⟨v_21, hv_21⟩ : ∃ v : Nat → Value, v = fun j => if j = 20 then .ref q_20 else v_20 j := ⟨_, rfl⟩
  have g30 : C_21 30 0 = some (.inr (4, mi_f v_21)) := by rw [← hC_21, hv_21]; exact pw_up_self _ _ _ _
  have hA9 := mi_up hA9 rfl hD_20 hC_21
  have hn := mi_no hn hD_20 hC_21
  have hfr := mi_fr hfr hD_20 hC_21
  have hV : ∀ j, j < 21 → v_21 j = .ref (a_21 31 j) := by rw [hv_21]; exact mi_v hV ha_21
  clear hD_20 hC_21 hv_21 ha_21
  refine lv_aload_n hx hb d_M_init_178 rfl (lv_at hl 0 rfl) ?_
  refine lv_iconst (v := 4) hx hb d_M_init_179 (by decide) ?_
  refine pw_newa (atype := .int) (ty := .int) (az := (4, .inl (fun _ => 0))) hx hb (hts _ wd_127) rfl (fun t h => by cases h) hK hw hA 31 21 (by decide) (hn 21 (Nat.le_refl _) (by decide)) 0 rfl (fun _ => rfl) (by decide) (by omega) (by show _ * 4 ≤ _; omega) (by (try dsimp only); omega) (by (try dsimp only); omega) d_M_init_180 (fun q_21 H hw => ?_)
  refine W.widen (k := 22) (n := 5413) (by omega) (by omega) ?_
  obtain ⟨a_22, ha_22⟩ : ∃ z, z = pw_up a_21 31 21 q_21 := ⟨_, rfl⟩
  rw [← ha_22] at hw
  have hw : pw_H D cls9 A s.heap ad C a_22 (pw_up C_21 31 21 (some ((.inl (ca 0, 4, .inl (fun _ => 0)) : va_E)))) H _ := hw
  generalize hD_21 : pw_up C_21 31 21 (some ((.inl (ca 0, 4, .inl (fun _ => 0)) : va_E))) = D_21 at hw
  have hadx := mi_ad hadx ha_22
  have g30 : D_21 30 0 = some (.inr (4, [v_21 0, v_21 1, v_21 2, v_21 3, v_21 4, v_21 5, v_21 6, v_21 7, v_21 8, v_21 9, v_21 10, v_21 11, v_21 12, v_21 13, v_21 14, .int 0, v_21 15, .int 0, v_21 16, .int 0, v_21 17, .int 0, v_21 18, v_21 19, v_21 20, .int 0, v_21 21, v_21 22, .int 0, .int 0, .int 0])) := by rw [← hD_21]; exact (pw_up_ne _ _ (by decide)).trans g30
  refine pw_putF (Cn := "GraphWriterModel") (T := F_M) (N := 31) (v := .ref q_21) (ty := .array .int) hx hb hts in_M ft_M to_M nm_M hown hK hw 30 0 (by decide) (hadx 30 0 (by decide)) g30 rfl 26 (by decide) (hts _ wd_780) (fun _ h9 => h9) rfl hnm rfl (by decide +kernel) rfl rfl (Nat.le_of_ble_eq_true rfl) d_M_init_182 (fun H locs hw => ?_)
  have hw : pw_H D cls9 A s.heap ad C a_22 (pw_up D_21 30 0 (some (.inr (4, [v_21 0, v_21 1, v_21 2, v_21 3, v_21 4, v_21 5, v_21 6, v_21 7, v_21 8, v_21 9, v_21 10, v_21 11, v_21 12, v_21 13, v_21 14, .int 0, v_21 15, .int 0, v_21 16, .int 0, v_21 17, .int 0, v_21 18, v_21 19, v_21 20, .int 0, .ref q_21, v_21 22, .int 0, .int 0, .int 0])))) H _ := hw
  generalize hC_22 : pw_up D_21 30 0 (some (.inr (4, [v_21 0, v_21 1, v_21 2, v_21 3, v_21 4, v_21 5, v_21 6, v_21 7, v_21 8, v_21 9, v_21 10, v_21 11, v_21 12, v_21 13, v_21 14, .int 0, v_21 15, .int 0, v_21 16, .int 0, v_21 17, .int 0, v_21 18, v_21 19, v_21 20, .int 0, .ref q_21, v_21 22, .int 0, .int 0, .int 0]))) = C_22 at hw
  obtain ⟨v_22, hv_22⟩ : ∃ v : Nat → Value, v = fun j => if j = 21 then .ref q_21 else v_21 j := ⟨_, rfl⟩
  have g30 : C_22 30 0 = some (.inr (4, mi_f v_22)) := by rw [← hC_22, hv_22]; exact pw_up_self _ _ _ _
  have hA9 := mi_up hA9 rfl hD_21 hC_22
  have hn := mi_no hn hD_21 hC_22
  have hfr := mi_fr hfr hD_21 hC_22
  have hV : ∀ j, j < 22 → v_22 j = .ref (a_22 31 j) := by rw [hv_22]; exact mi_v hV ha_22
  clear hD_21 hC_22 hv_22 ha_22
  refine lv_aload_n hx hb d_M_init_185 rfl (lv_at hl 0 rfl) ?_
  refine lv_bipush (v := 51) hx hb d_M_init_186 (by decide) ?_
  refine pw_newa (atype := .int) (ty := .int) (az := (51, .inl (fun _ => 0))) hx hb (hts _ wd_127) rfl (fun t h => by cases h) hK hw hA 31 22 (by decide) (hn 22 (Nat.le_refl _) (by decide)) 0 rfl (fun _ => rfl) (by decide) (by omega) (by show _ * 4 ≤ _; omega) (by (try dsimp only); omega) (by (try dsimp only); omega) d_M_init_188 (fun q_22 H hw => ?_)
  refine W.widen (k := 23) (n := 5464) (by omega) (by omega) ?_
  obtain ⟨a_23, ha_23⟩ : ∃ z, z = pw_up a_22 31 22 q_22 := ⟨_, rfl⟩
  rw [← ha_23] at hw
  have hw : pw_H D cls9 A s.heap ad C a_23 (pw_up C_22 31 22 (some ((.inl (ca 0, 51, .inl (fun _ => 0)) : va_E)))) H _ := hw
  generalize hD_22 : pw_up C_22 31 22 (some ((.inl (ca 0, 51, .inl (fun _ => 0)) : va_E))) = D_22 at hw
  have hadx := mi_ad hadx ha_23
  have g30 : D_22 30 0 = some (.inr (4, [v_22 0, v_22 1, v_22 2, v_22 3, v_22 4, v_22 5, v_22 6, v_22 7, v_22 8, v_22 9, v_22 10, v_22 11, v_22 12, v_22 13, v_22 14, .int 0, v_22 15, .int 0, v_22 16, .int 0, v_22 17, .int 0, v_22 18, v_22 19, v_22 20, .int 0, v_22 21, v_22 22, .int 0, .int 0, .int 0])) := by rw [← hD_22]; exact (pw_up_ne _ _ (by decide)).trans g30
  refine pw_putF (Cn := "GraphWriterModel") (T := F_M) (N := 31) (v := .ref q_22) (ty := .array .int) hx hb hts in_M ft_M to_M nm_M hown hK hw 30 0 (by decide) (hadx 30 0 (by decide)) g30 rfl 27 (by decide) (hts _ wd_781) (fun _ h9 => h9) rfl hnm rfl (by decide +kernel) rfl rfl (Nat.le_of_ble_eq_true rfl) d_M_init_190 (fun H locs hw => ?_)
  have hw : pw_H D cls9 A s.heap ad C a_23 (pw_up D_22 30 0 (some (.inr (4, [v_22 0, v_22 1, v_22 2, v_22 3, v_22 4, v_22 5, v_22 6, v_22 7, v_22 8, v_22 9, v_22 10, v_22 11, v_22 12, v_22 13, v_22 14, .int 0, v_22 15, .int 0, v_22 16, .int 0, v_22 17, .int 0, v_22 18, v_22 19, v_22 20, .int 0, v_22 21, .ref q_22, .int 0, .int 0, .int 0])))) H _ := hw
  generalize hC_23 : pw_up D_22 30 0 (some (.inr (4, [v_22 0, v_22 1, v_22 2, v_22 3, v_22 4, v_22 5, v_22 6, v_22 7, v_22 8, v_22 9, v_22 10, v_22 11, v_22 12, v_22 13, v_22 14, .int 0, v_22 15, .int 0, v_22 16, .int 0, v_22 17, .int 0, v_22 18, v_22 19, v_22 20, .int 0, v_22 21, .ref q_22, .int 0, .int 0, .int 0]))) = C_23 at hw
  obtain ⟨v_23, hv_23⟩ : ∃ v : Nat → Value, v = fun j => if j = 22 then .ref q_22 else v_22 j := ⟨_, rfl⟩
  have g30 : C_23 30 0 = some (.inr (4, mi_f v_23)) := by rw [← hC_23, hv_23]; exact pw_up_self _ _ _ _
  have hA9 := mi_up hA9 rfl hD_22 hC_23
  have hn := mi_no hn hD_22 hC_23
  have hfr := mi_fr hfr hD_22 hC_23
  have hV : ∀ j, j < 23 → v_23 j = .ref (a_23 31 j) := by rw [hv_23]; exact mi_v hV ha_23
  clear hD_22 hC_23 hv_23 ha_23
  refine lv_aload_n hx hb d_M_init_193 rfl (lv_at hl 0 rfl) ?_
  refine lv_ldc2 (v := 44269) hx hb hown (hts _ wd_744) d_M_init_194 ?_
  refine lv_iconst (v := 2) hx hb d_M_init_197 (by decide) ?_
  have hR : rm_at ca a_23 C_23 r_z := by
    refine ⟨?_, (hA9 0 (by decide)).trans rfl, (hA9 1 (by decide)).trans rfl, (hA9 2 (by decide)).trans rfl, (hA9 3 (by decide)).trans rfl, (hA9 4 (by decide)).trans rfl, (hA9 5 (by decide)).trans rfl, (hA9 6 (by decide)).trans rfl, (hA9 7 (by decide)).trans rfl, (hA9 8 (by decide)).trans rfl, (hA9 9 (by decide)).trans rfl, (hA9 10 (by decide)).trans rfl, (hA9 11 (by decide)).trans rfl, (hA9 12 (by decide)).trans rfl, (hA9 13 (by decide)).trans rfl, (hA9 14 (by decide)).trans rfl, (hA9 15 (by decide)).trans rfl, (hA9 16 (by decide)).trans rfl, (hA9 17 (by decide)).trans rfl, (hA9 18 (by decide)).trans rfl, (hA9 19 (by decide)).trans rfl, (hA9 20 (by decide)).trans rfl, (hA9 21 (by decide)).trans rfl, (hA9 22 (by decide)).trans rfl⟩
    rw [g30]
    show (some (.inr (4, [v_23 0, v_23 1, v_23 2, v_23 3, v_23 4, v_23 5, v_23 6, v_23 7, v_23 8, v_23 9, v_23 10, v_23 11, v_23 12, v_23 13, v_23 14, .int 0, v_23 15, .int 0, v_23 16, .int 0, v_23 17, .int 0, v_23 18, v_23 19, v_23 20, .int 0, v_23 21, v_23 22, .int 0, .int 0, .int 0])) : Option va_E) = _
    rw [hV 0 (by decide), hV 1 (by decide), hV 2 (by decide), hV 3 (by decide), hV 4 (by decide), hV 5 (by decide), hV 6 (by decide), hV 7 (by decide), hV 8 (by decide), hV 9 (by decide), hV 10 (by decide), hV 11 (by decide), hV 12 (by decide), hV 13 (by decide), hV 14 (by decide), hV 15 (by decide), hV 16 (by decide), hV 17 (by decide), hV 18 (by decide), hV 19 (by decide), hV 20 (by decide), hV 21 (by decide), hV 22 (by decide)]; rfl
  unfold m_init0 at hE
  clear hA9 hn hV g30
  rw [← hadx 30 0 (by decide)]
  obtain ⟨y_198, hy_198, hE⟩ := ob_some hE
  have g30 := rm_at.o hR
  refine pw_callv (va_runV (As := [.long 44269, .int 2]) (rest := []) ⟨hx, hb, hml, hown, hts0⟩ (k_M_append hR hy_198 _) (cwV 2 hts0 (wd_V wd_748 wd_745 wd_747 wd_20 wd_56) rfl rfl rfl (by decide +kernel) ⟨(by (try dsimp only); omega), (by (try dsimp only); omega)⟩) (pw_preV hZ hw hA hK hz rfl g30 rfl) rfl rfl hl.1 rfl (lv_room (Nat.le_of_ble_eq_true rfl)) d_M_init_198 ⟨(by (try dsimp only); omega), (by (try dsimp only); omega)⟩) hw hA (fun ad_1 C_2 H locs hp hw => ?_)
  obtain ⟨hae, hR, hf1⟩ := hp
  rw [hae] at hw
  clear hae
  have hfr : rm_fr C C_2 := fun x y h9 => (hf1 x y h9).trans (hfr x y h9)
  clear hf1
  refine lv_aload_n hx hb d_M_init_201 rfl (lv_at hl 0 rfl) ?_
  refine lv_ldc2 (v := 5) hx hb hown (hts _ wd_749) d_M_init_202 ?_
  refine lv_iconst (v := 2) hx hb d_M_init_205 (by decide) ?_
  rw [← hadx 30 0 (by decide)]
  obtain ⟨y_206, hy_206, hE⟩ := ob_some hE
  have g30 := rm_at.o hR
  refine pw_callv (va_runV (As := [.long 5, .int 2]) (rest := []) ⟨hx, hb, hml, hown, hts0⟩ (k_M_append hR hy_206 _) (cwV 2 hts0 (wd_V wd_748 wd_745 wd_747 wd_20 wd_56) rfl rfl rfl (by decide +kernel) ⟨(by (try dsimp only); omega), (by (try dsimp only); omega)⟩) (pw_preV hZ hw hA hK hz rfl g30 rfl) rfl rfl hl.1 rfl (lv_room (Nat.le_of_ble_eq_true rfl)) d_M_init_206 ⟨(by (try dsimp only); omega), (by (try dsimp only); omega)⟩) hw hA (fun ad_4 C_5 H locs hp hw => ?_)
  obtain ⟨hae, hR, hf1⟩ := hp
  rw [hae] at hw
  clear hae
  have hfr : rm_fr C C_5 := fun x y h9 => (hf1 x y h9).trans (hfr x y h9)
  clear hf1
  refine lv_aload_n hx hb d_M_init_209 rfl (lv_at hl 0 rfl) ?_
  rw [← hadx 30 0 (by decide)]
  have g30 := rm_at.o hR
  refine pw_callv (va_runV (As := []) (rest := []) ⟨hx, hb, hml, hown, hts0⟩ (k_M_noHandles hR hE _) (cwV 0 hts0 (wd_V wd_753 wd_750 wd_752 wd_21 wd_56) rfl rfl rfl (by decide +kernel) ⟨(by (try dsimp only); omega), (by (try dsimp only); omega)⟩) (pw_preV hZ hw hA hK hz rfl g30 rfl) rfl rfl hl.1 rfl (lv_room (Nat.le_of_ble_eq_true rfl)) d_M_init_210 ⟨(by (try dsimp only); omega), (by (try dsimp only); omega)⟩) hw hA (fun ad_7 C_8 H locs hp hw => ?_)
  obtain ⟨hae, hR, hf1⟩ := hp
  rw [hae] at hw
  clear hae
  have hfr : rm_fr C C_8 := fun x y h9 => (hf1 x y h9).trans (hfr x y h9)
  clear hf1
  exact pw_vret hx hb hr hlocks hw ⟨hadx, hR, hfr⟩ d_M_init_213
