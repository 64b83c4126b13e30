def m_instance_54 (K : Int32 → Int32 → Int32 → RS → Option (Int32 × RS)) : Nat → Int32 → Int32 → Int32 → RS → Option (Int32 × RS)
  | 0, _, _, _, _ => none
  | n + 1, x3_27, x2_27, x1_27, r => Option.bind (rd r.size 20 x2_27) (fun v_30 => if (v_30 : Int32) ≤ x3_27 then (K x3_27 x2_27 x1_27 r) else (Option.bind (m_slotType x2_27 x3_27 r) (fun y_32 => if (y_32.1 : Int32) ≤ 5 then (m_instance_54 K n (x3_27 + 1) x2_27 x1_27 y_32.2) else (Option.bind (wrl y_32.2.value 480 ((24 * x2_27) + x3_27) (-1)) (fun w_39 => m_instance_54 K n (x3_27 + 1) x2_27 x1_27 (RS.s_value y_32.2 w_39))))))
def m_instance (l1 : Int32) (r : RS) : Option (Int32 × RS) := Option.bind (m_noClass l1 r) (fun y_1 => if (y_1.1 : Int32) = 0 then (Option.bind (rd y_1.2.kind 6 l1) (fun v_9 => if (v_9 : Int32) = 3 then (some ((-1), y_1.2)) else (Option.bind (m_firstSlot l1 y_1.2) (fun y_11 => Option.bind (rd y_11.2.fields 6 l1) (fun v_17 => Option.bind (m_begin 0 (y_11.1 + v_17) y_11.2) (fun y_18 => if (0 : Int32) ≤ y_18.1 then (Option.bind (wr y_18.2.classOf 20 y_18.1 l1) (fun w_25 => m_instance_54 (fun z3_27 z2_27 z1_27 r_41 => some (z2_27, r_41)) 60 0 y_18.1 l1 (RS.s_classOf y_18.2 w_25))) else (some ((-2), y_18.2)))))))) else (some ((-1), y_1.2)))
set_option maxHeartbeats 4000000 in
set_option maxRecDepth 100000 in
theorem k_M_instance {l : Launch} {D : va_G} {ca : Nat → ClassId} {kS : Nat → Nat} {kT : Nat} {ad : pw_A} {C : pw_C} {r : RS} (hR : rm_at ca ad C r) {l1 : Int32} {res : (Int32 × RS)} (hE : m_instance l1 r = some res) : gc_Con l y_M_instance c_M_instance ({ frames := 3, cells := 0, slots := 0, locals := 71 }) D ca (z9_Z kS kT) [.ref (ad 30 0), .int l1] ad C (pw_pi (fun v ad' C' => (ad' = ad ∧ rm_at ca ad C' res.2 ∧ rm_fr C C') ∧ v = res.1)) 0 0 := by
  have hZ := z9_ok kS kT
  refine pw_ofW (cc := b_M_instance) (maxL := 4) (ret := (some FieldType.int)) (by decide) rfl (Nat.le_of_ble_eq_true rfl) ?_
  intro p e s m args below meth c A ls hB hA hw hK hz hl
  obtain ⟨hx, hb, hr, hml, hts0, hlocks, hown, hnm⟩ := hB
  have hts := wd_hts hts0
  have hown : s.vm.findClass "GraphWriterModel" = some m.cls := hown
  have hl : lv_has ls 4 [(0, .ref (ad 30 0)), (1, .int l1)] := hl
  have hfr : rm_fr C C := fun _ _ _ => rfl
  unfold m_instance at hE
  refine lv_aload_n hx hb d_M_instance_0 rfl (lv_at hl 0 rfl) ?_
  refine lv_iload_n hx hb d_M_instance_1 rfl (lv_at hl 1 rfl) ?_
  obtain ⟨y_1, hy_1, hE⟩ := ob_some hE
  have hc_2 : C 30 0 = some (.inr (4, [.ref (ad 31 0), .ref (ad 31 1), .ref (ad 31 2), .ref (ad 31 3), .ref (ad 31 4), .ref (ad 31 5), .ref (ad 31 6), .ref (ad 31 7), .ref (ad 31 8), .ref (ad 31 9), .ref (ad 31 10), .ref (ad 31 11), .ref (ad 31 12), .ref (ad 31 13), .ref (ad 31 14), .int r.objects, .ref (ad 31 15), .int r.length, .ref (ad 31 16), .int r.waits, .ref (ad 31 17), .int r.given, .ref (ad 31 18), .ref (ad 31 19), .ref (ad 31 20), .int r.left, .ref (ad 31 21), .ref (ad 31 22), .int r.oldLength, .int r.oldWaits, .int r.oldGiven])) := by have h9 := rm_at.o hR; exact h9
  refine pw_calli (va_runV (As := [.int l1]) (rest := []) ⟨hx, hb, hml, hown, hts0⟩ (k_M_noClass hR hy_1 _) (cwV 1 hts0 (wd_V wd_860 wd_857 wd_859 wd_23 wd_56) rfl rfl rfl (by decide +kernel) ⟨Nat.le_of_ble_eq_true rfl, Nat.le_of_ble_eq_true rfl⟩) (pw_preV hZ hw hA hK hz rfl hc_2 rfl) rfl rfl hl.1 rfl (lv_room (Nat.le_of_ble_eq_true rfl)) d_M_instance_2 ⟨Nat.le_of_ble_eq_true rfl, Nat.le_of_ble_eq_true rfl⟩) hw hA (fun r_5 ad_3 C_4 H locs hp hw => ?_)
  obtain ⟨⟨hae, hR, hf1⟩, hre⟩ := hp
  rw [hre]
  rw [hae] at hw
  clear hae
  have hfr : rm_fr C C_4 := fun x y h9 => (hf1 x y h9).trans (hfr x y h9)
  clear hf1
  refine lv_if_ne (tgt := 18) hx hb d_M_instance_5 (by decide) (fun c_6 => ?_) (fun c_6 => ?_)
  · rw [if_neg c_6] at hE
    refine lv_iconst (v := (-1)) hx hb d_M_instance_18 (by decide) ?_
    obtain rfl := Option.some.inj hE
    exact pw_iret hx hb hr hlocks hw ⟨⟨rfl, hR, hfr⟩, rfl⟩ d_M_instance_19
  · rw [if_pos c_6] at hE
    refine lv_aload_n hx hb d_M_instance_8 rfl (lv_at hl 0 rfl) ?_
    have hc_7 : C_4 30 0 = some (.inr (4, [.ref (ad 31 0), .ref (ad 31 1), .ref (ad 31 2), .ref (ad 31 3), .ref (ad 31 4), .ref (ad 31 5), .ref (ad 31 6), .ref (ad 31 7), .ref (ad 31 8), .ref (ad 31 9), .ref (ad 31 10), .ref (ad 31 11), .ref (ad 31 12), .ref (ad 31 13), .ref (ad 31 14), .int y_1.2.objects, .ref (ad 31 15), .int y_1.2.length, .ref (ad 31 16), .int y_1.2.waits, .ref (ad 31 17), .int y_1.2.given, .ref (ad 31 18), .ref (ad 31 19), .ref (ad 31 20), .int y_1.2.left, .ref (ad 31 21), .ref (ad 31 22), .int y_1.2.oldLength, .int y_1.2.oldWaits, .int y_1.2.oldGiven])) := by have h9 := rm_at.o hR; exact h9
    refine pw_get (Cn := "GraphWriterModel") (T := F_M) (N := 31) hx hb hts in_M hown hK hw 30 0 rfl hc_7 rfl 1 (by decide) (hts _ wd_755) (fun _ h9 => h9) rfl d_M_instance_9 ?_
    refine lv_iload_n hx hb d_M_instance_12 rfl (lv_at hl 1 rfl) ?_
    have hc_8 : C_4 31 1 = some (.inl (ca 0, 6, .inl y_1.2.kind)) := by have h9 := rm_at.a1 hR; exact h9
    obtain ⟨v_9, hv_9, hE⟩ := ob_some hE
    obtain ⟨hi_v_9, hj_v_9, he_v_9⟩ := rd_some (by decide) hv_9
    refine pw_iald hx hb hK hw 31 1 rfl 0 hc_8 rfl (l1 : Int32).toNatClampNeg hi_v_9 (by omega) (by omega) d_M_instance_13 ?_
    rw [← he_v_9]
    refine lv_iconst (v := 3) hx hb d_M_instance_14 (by decide) ?_
    refine lv_icmp_ne (tgt := 20) hx hb d_M_instance_15 (by decide) (fun c_10 => ?_) (fun c_10 => ?_)
    · rw [if_neg c_10] at hE
      refine lv_aload_n hx hb d_M_instance_20 rfl (lv_at hl 0 rfl) ?_
      refine lv_iconst (v := 0) hx hb d_M_instance_21 (by decide) ?_
      refine lv_aload_n hx hb d_M_instance_22 rfl (lv_at hl 0 rfl) ?_
      refine lv_iload_n hx hb d_M_instance_23 rfl (lv_at hl 1 rfl) ?_
      obtain ⟨y_11, hy_11, hE⟩ := ob_some hE
      refine pw_calli (va_runV (As := [.int l1]) (rest := [.int 0, .ref (ad 30 0)]) ⟨hx, hb, hml, hown, hts0⟩ (k_M_firstSlot hR hy_11 _) (cwV 1 hts0 (wd_V wd_876 wd_873 wd_875 wd_25 wd_56) rfl rfl rfl (by decide +kernel) ⟨Nat.le_of_ble_eq_true rfl, Nat.le_of_ble_eq_true rfl⟩) (pw_preV hZ hw hA hK hz rfl hc_7 rfl) rfl rfl hl.1 rfl (lv_room (Nat.le_of_ble_eq_true rfl)) d_M_instance_24 ⟨Nat.le_of_ble_eq_true rfl, Nat.le_of_ble_eq_true rfl⟩) hw hA (fun r_14 ad_12 C_13 H locs hp hw => ?_)
      obtain ⟨⟨hae, hR, hf1⟩, hre⟩ := hp
      rw [hre]
      rw [hae] at hw
      clear hae
      have hfr : rm_fr C C_13 := fun x y h9 => (hf1 x y h9).trans (hfr x y h9)
      clear hf1
      refine lv_aload_n hx hb d_M_instance_27 rfl (lv_at hl 0 rfl) ?_
      have hc_15 : C_13 30 0 = some (.inr (4, [.ref (ad 31 0), .ref (ad 31 1), .ref (ad 31 2), .ref (ad 31 3), .ref (ad 31 4), .ref (ad 31 5), .ref (ad 31 6), .ref (ad 31 7), .ref (ad 31 8), .ref (ad 31 9), .ref (ad 31 10), .ref (ad 31 11), .ref (ad 31 12), .ref (ad 31 13), .ref (ad 31 14), .int y_11.2.objects, .ref (ad 31 15), .int y_11.2.length, .ref (ad 31 16), .int y_11.2.waits, .ref (ad 31 17), .int y_11.2.given, .ref (ad 31 18), .ref (ad 31 19), .ref (ad 31 20), .int y_11.2.left, .ref (ad 31 21), .ref (ad 31 22), .int y_11.2.oldLength, .int y_11.2.oldWaits, .int y_11.2.oldGiven])) := by have h9 := rm_at.o hR; exact h9
      refine pw_get (Cn := "GraphWriterModel") (T := F_M) (N := 31) hx hb hts in_M hown hK hw 30 0 rfl hc_15 rfl 4 (by decide) (hts _ wd_758) (fun _ h9 => h9) rfl d_M_instance_28 ?_
      refine lv_iload_n hx hb d_M_instance_31 rfl (lv_at hl 1 rfl) ?_
      have hc_16 : C_13 31 4 = some (.inl (ca 0, 6, .inl y_11.2.fields)) := by have h9 := rm_at.a4 hR; exact h9
      obtain ⟨v_17, hv_17, hE⟩ := ob_some hE
      obtain ⟨hi_v_17, hj_v_17, he_v_17⟩ := rd_some (by decide) hv_17
      refine pw_iald hx hb hK hw 31 4 rfl 0 hc_16 rfl (l1 : Int32).toNatClampNeg hi_v_17 (by omega) (by omega) d_M_instance_32 ?_
      rw [← he_v_17]
      refine lv_iadd hx hb d_M_instance_33 ?_
      obtain ⟨y_18, hy_18, hE⟩ := ob_some hE
      refine pw_calli (va_runV (As := [.int 0, .int (y_11.1 + v_17)]) (rest := []) ⟨hx, hb, hml, hown, hts0⟩ (k_M_begin hR hy_18 _) (cwV 2 hts0 (wd_V wd_880 wd_877 wd_879 wd_26 wd_56) rfl rfl rfl (by decide +kernel) ⟨Nat.le_of_ble_eq_true rfl, Nat.le_of_ble_eq_true rfl⟩) (pw_preV hZ hw hA hK hz rfl hc_15 rfl) rfl rfl hl.1 rfl (lv_room (Nat.le_of_ble_eq_true rfl)) d_M_instance_34 ⟨Nat.le_of_ble_eq_true rfl, Nat.le_of_ble_eq_true rfl⟩) hw hA (fun r_21 ad_19 C_20 H locs hp hw => ?_)
      obtain ⟨⟨hae, hR, hf1⟩, hre⟩ := hp
      rw [hre]
      rw [hae] at hw
      clear hae
      have hfr : rm_fr C C_20 := fun x y h9 => (hf1 x y h9).trans (hfr x y h9)
      clear hf1
      refine lv_istore_n (lv' := [(2, .int y_18.1), (0, .ref (ad 30 0)), (1, .int l1)]) hx hb d_M_instance_37 rfl hl (by decide) rfl (fun ls hl => ?_)
      refine lv_iload_n hx hb d_M_instance_38 rfl (lv_at hl 0 rfl) ?_
      refine lv_if_ge (tgt := 45) hx hb d_M_instance_39 (by decide) (fun c_22 => ?_) (fun c_22 => ?_)
      · rw [if_pos c_22] at hE
        refine lv_aload_n hx hb d_M_instance_45 rfl (lv_at hl 1 rfl) ?_
        have hc_23 : C_20 30 0 = some (.inr (4, [.ref (ad 31 0), .ref (ad 31 1), .ref (ad 31 2), .ref (ad 31 3), .ref (ad 31 4), .ref (ad 31 5), .ref (ad 31 6), .ref (ad 31 7), .ref (ad 31 8), .ref (ad 31 9), .ref (ad 31 10), .ref (ad 31 11), .ref (ad 31 12), .ref (ad 31 13), .ref (ad 31 14), .int y_18.2.objects, .ref (ad 31 15), .int y_18.2.length, .ref (ad 31 16), .int y_18.2.waits, .ref (ad 31 17), .int y_18.2.given, .ref (ad 31 18), .ref (ad 31 19), .ref (ad 31 20), .int y_18.2.left, .ref (ad 31 21), .ref (ad 31 22), .int y_18.2.oldLength, .int y_18.2.oldWaits, .int y_18.2.oldGiven])) := by have h9 := rm_at.o hR; exact h9
        refine pw_get (Cn := "GraphWriterModel") (T := F_M) (N := 31) hx hb hts in_M hown hK hw 30 0 rfl hc_23 rfl 9 (by decide) (hts _ wd_763) (fun _ h9 => h9) rfl d_M_instance_46 ?_
        refine lv_iload_n hx hb d_M_instance_49 rfl (lv_at hl 0 rfl) ?_
        refine lv_iload_n hx hb d_M_instance_50 rfl (lv_at hl 2 rfl) ?_
        have hc_24 : C_20 31 9 = some (.inl (ca 0, 20, .inl y_18.2.classOf)) := by have h9 := rm_at.a9 hR; exact h9
        obtain ⟨w_25, hw_25, hE⟩ := ob_some hE
        obtain ⟨hi_w_25, hj_w_25, he_w_25⟩ := wr_some (by decide) hw_25
        refine pw_iast hx hb hK hw 31 9 rfl 0 hc_24 rfl (by decide) (y_18.1 : Int32).toNatClampNeg hi_w_25 (by omega) (by omega) d_M_instance_51 (fun H locs hw => ?_)
        rw [← he_w_25] at hw
        have hw : pw_H D cls9 A s.heap ad C ad (pw_up C_20 31 9 (some (.inl (ca 0, 20, .inl w_25)))) H _ := hw
        generalize hC_26 : pw_up C_20 31 9 (some (.inl (ca 0, 20, .inl w_25))) = C_26 at hw
        have hR : rm_at ca ad C_26 (RS.s_classOf y_18.2 w_25) := by rw [← hC_26]; exact rm_at.s9 hR _
        have hfr : rm_fr C C_26 := fun x y h9 => by rw [← hC_26]; exact (pw_up_ne _ _ (by omega)).trans (hfr x y h9)
        refine lv_iconst (v := 0) hx hb d_M_instance_52 (by decide) ?_
        refine lv_istore_n (lv' := [(3, .int 0), (2, .int y_18.1), (0, .ref (ad 30 0)), (1, .int l1)]) hx hb d_M_instance_53 rfl hl (by decide) rfl (fun ls hl => ?_)
        have lp_27 : ∀ (K : Int32 → Int32 → Int32 → RS → Option (Int32 × RS)), (∀ (x3_27 : Int32) (x2_27 : Int32) (x1_27 : Int32) (r : RS) (C1 : pw_C) (H : Heap) (locs : List Loc) (ls : Array Slot), K x3_27 x2_27 x1_27 r = some res → rm_at ca ad C1 r → rm_fr C C1 → pw_H D cls9 A s.heap ad C ad C1 H locs → lv_has ls 4 [(3, .int x3_27), (2, .int x2_27), (0, .ref (ad 30 0)), (1, .int x1_27)] → W p l e ({ frames := 3, cells := 0, slots := 0, locals := 71 }) s m args below meth c H locs 0 0 (MQ below (pw_Q D cls9 ad C (pw_pi (fun v ad' C' => (ad' = ad ∧ rm_at ca ad C' res.2 ∧ rm_fr C C') ∧ v = res.1)) A) args s 0 0 A) (F0 m 94 ls [])) → ∀ (n : Nat) (x3_27 : Int32) (x2_27 : Int32) (x1_27 : Int32) (r : RS) (C1 : pw_C) (H : Heap) (locs : List Loc) (ls : Array Slot), m_instance_54 K n x3_27 x2_27 x1_27 r = some res → rm_at ca ad C1 r → rm_fr C C1 → pw_H D cls9 A s.heap ad C ad C1 H locs → lv_has ls 4 [(3, .int x3_27), (2, .int x2_27), (0, .ref (ad 30 0)), (1, .int x1_27)] → W p l e ({ frames := 3, cells := 0, slots := 0, locals := 71 }) s m args below meth c H locs 0 0 (MQ below (pw_Q D cls9 ad C (pw_pi (fun v ad' C' => (ad' = ad ∧ rm_at ca ad C' res.2 ∧ rm_fr C C') ∧ v = res.1)) A) args s 0 0 A) (F0 m 54 ls []) := by
          intro K hKK n
          induction n with
          | zero => intro x3_27 x2_27 x1_27 r C1 H locs ls hE; rw [m_instance_54] at hE; exact absurd hE (by simp)
          | succ n ih =>
            intro x3_27 x2_27 x1_27 r C1 H locs ls hE hR hfr hw hl
            rw [m_instance_54] at hE
            refine lv_iload_n hx hb d_M_instance_54 rfl (lv_at hl 0 rfl) ?_
            refine lv_aload_n hx hb d_M_instance_55 rfl (lv_at hl 2 rfl) ?_
            have hc_28 : C1 30 0 = some (.inr (4, [.ref (ad 31 0), .ref (ad 31 1), .ref (ad 31 2), .ref (ad 31 3), .ref (ad 31 4), .ref (ad 31 5), .ref (ad 31 6), .ref (ad 31 7), .ref (ad 31 8), .ref (ad 31 9), .ref (ad 31 10), .ref (ad 31 11), .ref (ad 31 12), .ref (ad 31 13), .ref (ad 31 14), .int r.objects, .ref (ad 31 15), .int r.length, .ref (ad 31 16), .int r.waits, .ref (ad 31 17), .int r.given, .ref (ad 31 18), .ref (ad 31 19), .ref (ad 31 20), .int r.left, .ref (ad 31 21), .ref (ad 31 22), .int r.oldLength, .int r.oldWaits, .int r.oldGiven])) := by have h9 := rm_at.o hR; exact h9
            refine pw_get (Cn := "GraphWriterModel") (T := F_M) (N := 31) hx hb hts in_M hown hK hw 30 0 rfl hc_28 rfl 11 (by decide) (hts _ wd_765) (fun _ h9 => h9) rfl d_M_instance_56 ?_
            refine lv_iload_n hx hb d_M_instance_59 rfl (lv_at hl 1 rfl) ?_
            have hc_29 : C1 31 11 = some (.inl (ca 0, 20, .inl r.size)) := by have h9 := rm_at.a11 hR; exact h9
            obtain ⟨v_30, hv_30, hE⟩ := ob_some hE
            obtain ⟨hi_v_30, hj_v_30, he_v_30⟩ := rd_some (by decide) hv_30
            refine pw_iald hx hb hK hw 31 11 rfl 0 hc_29 rfl (x2_27 : Int32).toNatClampNeg hi_v_30 (by omega) (by omega) d_M_instance_60 ?_
            rw [← he_v_30]
            refine lv_icmp_ge (tgt := 94) hx hb d_M_instance_61 (by decide) (fun c_31 => ?_) (fun c_31 => ?_)
            · rw [if_pos c_31] at hE
              exact hKK _ _ _ _ _ _ _ _ hE hR hfr hw (lv_sub hl [0, 1, 2, 3] rfl)
            · rw [if_neg c_31] at hE
              refine lv_aload_n hx hb d_M_instance_64 rfl (lv_at hl 2 rfl) ?_
              refine lv_iload_n hx hb d_M_instance_65 rfl (lv_at hl 1 rfl) ?_
              refine lv_iload_n hx hb d_M_instance_66 rfl (lv_at hl 0 rfl) ?_
              obtain ⟨y_32, hy_32, hE⟩ := ob_some hE
              refine pw_calli (va_runV (As := [.int x2_27, .int x3_27]) (rest := []) ⟨hx, hb, hml, hown, hts0⟩ (k_M_slotType hR hy_32 _) (cwV 2 hts0 (wd_V wd_884 wd_881 wd_883 wd_27 wd_56) rfl rfl rfl (by decide +kernel) ⟨Nat.le_of_ble_eq_true rfl, Nat.le_of_ble_eq_true rfl⟩) (pw_preV hZ hw hA hK hz rfl hc_28 rfl) rfl rfl hl.1 rfl (lv_room (Nat.le_of_ble_eq_true rfl)) d_M_instance_67 ⟨Nat.le_of_ble_eq_true rfl, Nat.le_of_ble_eq_true rfl⟩) hw hA (fun r_35 ad_33 C_34 H locs hp hw => ?_)
              obtain ⟨⟨hae, hR, hf1⟩, hre⟩ := hp
              rw [hre]
              rw [hae] at hw
              clear hae
              have hfr : rm_fr C C_34 := fun x y h9 => (hf1 x y h9).trans (hfr x y h9)
              clear hf1
              refine lv_iconst (v := 5) hx hb d_M_instance_70 (by decide) ?_
              refine lv_icmp_le (tgt := 88) hx hb d_M_instance_71 (by decide) (fun c_36 => ?_) (fun c_36 => ?_)
              · rw [if_pos c_36] at hE
                refine lv_iinc (v := x3_27 + 1) (lv' := [(3, .int (x3_27 + 1)), (2, .int x2_27), (0, .ref (ad 30 0)), (1, .int x1_27)]) hx hb d_M_instance_88 hl (k := 0) rfl rfl (by decide) rfl (fun ls hl => ?_)
                refine lv_goto (tgt := 54) hx hb d_M_instance_91 (by decide) ?_
                exact ih _ _ _ _ _ _ _ _ hE hR hfr hw (lv_sub hl [0, 1, 2, 3] rfl)
              · rw [if_neg c_36] at hE
                refine lv_aload_n hx hb d_M_instance_74 rfl (lv_at hl 2 rfl) ?_
                have hc_37 : C_34 30 0 = some (.inr (4, [.ref (ad 31 0), .ref (ad 31 1), .ref (ad 31 2), .ref (ad 31 3), .ref (ad 31 4), .ref (ad 31 5), .ref (ad 31 6), .ref (ad 31 7), .ref (ad 31 8), .ref (ad 31 9), .ref (ad 31 10), .ref (ad 31 11), .ref (ad 31 12), .ref (ad 31 13), .ref (ad 31 14), .int y_32.2.objects, .ref (ad 31 15), .int y_32.2.length, .ref (ad 31 16), .int y_32.2.waits, .ref (ad 31 17), .int y_32.2.given, .ref (ad 31 18), .ref (ad 31 19), .ref (ad 31 20), .int y_32.2.left, .ref (ad 31 21), .ref (ad 31 22), .int y_32.2.oldLength, .int y_32.2.oldWaits, .int y_32.2.oldGiven])) := by have h9 := rm_at.o hR; exact h9
                refine pw_get (Cn := "GraphWriterModel") (T := F_M) (N := 31) hx hb hts in_M hown hK hw 30 0 rfl hc_37 rfl 12 (by decide) (hts _ wd_766) (fun _ h9 => h9) rfl d_M_instance_75 ?_
                refine lv_bipush (v := 24) hx hb d_M_instance_78 (by decide) ?_
                refine lv_iload_n hx hb d_M_instance_80 rfl (lv_at hl 1 rfl) ?_
                refine lv_imul hx hb d_M_instance_81 ?_
                refine lv_iload_n hx hb d_M_instance_82 rfl (lv_at hl 0 rfl) ?_
                refine lv_iadd hx hb d_M_instance_83 ?_
                refine lv_ldc2 (v := (-1)) hx hb hown (hts _ wd_889) d_M_instance_84 ?_
                have hc_38 : C_34 31 12 = some (.inl (ca 1, 480, .inr (.inl y_32.2.value))) := by have h9 := rm_at.a12 hR; exact h9
                obtain ⟨w_39, hw_39, hE⟩ := ob_some hE
                obtain ⟨hi_w_39, hj_w_39, he_w_39⟩ := wrl_some (by decide) hw_39
                refine pw_last hx hb hK hw 31 12 rfl 1 hc_38 rfl (by decide) ((24 * x2_27) + x3_27 : Int32).toNatClampNeg hi_w_39 (by omega) (by omega) d_M_instance_87 (fun H locs hw => ?_)
                rw [← he_w_39] at hw
                have hw : pw_H D cls9 A s.heap ad C ad (pw_up C_34 31 12 (some (.inl (ca 1, 480, .inr (.inl w_39))))) H _ := hw
                generalize hC_40 : pw_up C_34 31 12 (some (.inl (ca 1, 480, .inr (.inl w_39)))) = C_40 at hw
                have hR : rm_at ca ad C_40 (RS.s_value y_32.2 w_39) := by rw [← hC_40]; exact rm_at.s12 hR _
                have hfr : rm_fr C C_40 := fun x y h9 => by rw [← hC_40]; exact (pw_up_ne _ _ (by omega)).trans (hfr x y h9)
                refine lv_iinc (v := x3_27 + 1) (lv' := [(3, .int (x3_27 + 1)), (2, .int x2_27), (0, .ref (ad 30 0)), (1, .int x1_27)]) hx hb d_M_instance_88 hl (k := 0) rfl rfl (by decide) rfl (fun ls hl => ?_)
                refine lv_goto (tgt := 54) hx hb d_M_instance_91 (by decide) ?_
                exact ih _ _ _ _ _ _ _ _ hE hR hfr hw (lv_sub hl [0, 1, 2, 3] rfl)
        refine lp_27 _ (fun z3_27 z2_27 z1_27 r_41 C_42 H locs ls hE hR hfr hw hl => ?_) 60 _ _ _ _ _ _ _ _ hE hR hfr hw hl
        try dsimp only at hE
        refine lv_iload_n hx hb d_M_instance_94 rfl (lv_at hl 1 rfl) ?_
        obtain rfl := Option.some.inj hE
        exact pw_iret hx hb hr hlocks hw ⟨⟨rfl, hR, hfr⟩, rfl⟩ d_M_instance_95
      · rw [if_neg c_22] at hE
        refine lv_bipush (v := (-2)) hx hb d_M_instance_42 (by decide) ?_
        obtain rfl := Option.some.inj hE
        exact pw_iret hx hb hr hlocks hw ⟨⟨rfl, hR, hfr⟩, rfl⟩ d_M_instance_44
    · rw [if_pos c_10] at hE
      refine lv_iconst (v := (-1)) hx hb d_M_instance_18 (by decide) ?_
      obtain rfl := Option.some.inj hE
      exact pw_iret hx hb hr hlocks hw ⟨⟨rfl, hR, hfr⟩, rfl⟩ d_M_instance_19
def m_text_6 (K : Int32 → Int32 → Int64 → RS → Option (Int32 × RS)) : Nat → Int32 → Int32 → Int64 → RS → Option (Int32 × RS)
  | 0, _, _, _, _ => none
  | n + 1, x4_1, x3_1, x1_1, r => if (x4_1 : Int32) < 0 then (K x4_1 x3_1 x1_1 r) else (if (((x1_1 >>> ((8 * x4_1).toInt64 &&& 63)).toInt32) &&& 255 : Int32) ≤ 127 then (if (((x1_1 >>> ((8 * x4_1).toInt64 &&& 63)).toInt32) &&& 255 : Int32) ≤ 0 then (m_text_6 K n (x4_1 + (-1)) x3_1 x1_1 r) else (m_text_6 K n (x4_1 + (-1)) (x3_1 + 1) x1_1 r)) else (some ((-1), r)))
def m_text_70 (K : Int32 → Int32 → Int32 → Int64 → RS → Option (Int32 × RS)) : Nat → Int32 → Int32 → Int32 → Int64 → RS → Option (Int32 × RS)
  | 0, _, _, _, _, _ => none
  | n + 1, x5_13, x3_13, x4_13, x1_13, r => if (x5_13 : Int32) < 0 then (K x5_13 x3_13 x4_13 x1_13 r) else (if (((x1_13 >>> ((8 * x5_13).toInt64 &&& 63)).toInt32) &&& 255 : Int32) ≤ 0 then (m_text_70 K n (x5_13 + (-1)) x3_13 x4_13 x1_13 r) else (Option.bind (wrl r.value 480 ((24 * x4_13) + x3_13) ((((x1_13 >>> ((8 * x5_13).toInt64 &&& 63)).toInt32) &&& 255).toInt64)) (fun w_18 => m_text_70 K n (x5_13 + (-1)) (x3_13 + 1) x4_13 x1_13 (RS.s_value r w_18))))
def m_text (l1 : Int64) (r : RS) : Option (Int32 × RS) := m_text_6 (fun z4_1 z3_1 z1_1 r_5 => Option.bind (m_begin 1 z3_1 r_5) (fun y_7 => if (0 : Int32) ≤ y_7.1 then (m_text_70 (fun z5_13 z3_13 z4_13 z1_13 r_20 => some (z4_13, r_20)) 60 7 0 y_7.1 z1_1 y_7.2) else (some ((-2), y_7.2)))) 60 7 0 l1 r
set_option maxHeartbeats 4000000 in
set_option maxRecDepth 100000 in
theorem k_M_text {l : Launch} {D : va_G} {ca : Nat → ClassId} {kS : Nat → Nat} {kT : Nat} {ad : pw_A} {C : pw_C} {r : RS} (hR : rm_at ca ad C r) {l1 : Int64} {res : (Int32 × RS)} (hE : m_text l1 r = some res) : gc_Con l y_M_text c_M_text ({ frames := 1, cells := 0, slots := 0, locals := 23 }) D ca (z9_Z kS kT) [.ref (ad 30 0), .long l1] ad C (pw_pi (fun v ad' C' => (ad' = ad ∧ rm_at ca ad C' res.2 ∧ rm_fr C C') ∧ v = res.1)) 0 0 := by
  have hZ := z9_ok kS kT
  refine pw_ofW (cc := b_M_text) (maxL := 7) (ret := (some FieldType.int)) (by decide) rfl (Nat.le_of_ble_eq_true rfl) ?_
  intro p e s m args below meth c A ls hB hA hw hK hz hl
  obtain ⟨hx, hb, hr, hml, hts0, hlocks, hown, hnm⟩ := hB
  have hts := wd_hts hts0
  have hown : s.vm.findClass "GraphWriterModel" = some m.cls := hown
  have hl : lv_has ls 7 [(0, .ref (ad 30 0)), (1, .long l1)] := hl
  have hfr : rm_fr C C := fun _ _ _ => rfl
  unfold m_text at hE
  refine lv_iconst (v := 0) hx hb d_M_text_0 (by decide) ?_
  refine lv_istore_n (lv' := [(3, .int 0), (0, .ref (ad 30 0)), (1, .long l1)]) hx hb d_M_text_1 rfl hl (by decide) rfl (fun ls hl => ?_)
  refine lv_bipush (v := 7) hx hb d_M_text_2 (by decide) ?_
  refine lv_istore (lv' := [(4, .int 7), (3, .int 0), (0, .ref (ad 30 0)), (1, .long l1)]) hx hb d_M_text_4 hl (by decide) rfl (fun ls hl => ?_)
  have lp_1 : ∀ (K : Int32 → Int32 → Int64 → RS → Option (Int32 × RS)), (∀ (x4_1 : Int32) (x3_1 : Int32) (x1_1 : Int64) (r : RS) (C1 : pw_C) (H : Heap) (locs : List Loc) (ls : Array Slot), K x4_1 x3_1 x1_1 r = some res → rm_at ca ad C1 r → rm_fr C C1 → pw_H D cls9 A s.heap ad C ad C1 H locs → lv_has ls 7 [(4, .int x4_1), (3, .int x3_1), (0, .ref (ad 30 0)), (1, .long x1_1)] → W p l e ({ frames := 1, cells := 0, slots := 0, locals := 23 }) s m args below meth c H locs 0 0 (MQ below (pw_Q D cls9 ad C (pw_pi (fun v ad' C' => (ad' = ad ∧ rm_at ca ad C' res.2 ∧ rm_fr C C') ∧ v = res.1)) A) args s 0 0 A) (F0 m 48 ls [])) → ∀ (n : Nat) (x4_1 : Int32) (x3_1 : Int32) (x1_1 : Int64) (r : RS) (C1 : pw_C) (H : Heap) (locs : List Loc) (ls : Array Slot), m_text_6 K n x4_1 x3_1 x1_1 r = some res → rm_at ca ad C1 r → rm_fr C C1 → pw_H D cls9 A s.heap ad C ad C1 H locs → lv_has ls 7 [(4, .int x4_1), (3, .int x3_1), (0, .ref (ad 30 0)), (1, .long x1_1)] → W p l e ({ frames := 1, cells := 0, slots := 0, locals := 23 }) s m args below meth c H locs 0 0 (MQ below (pw_Q D cls9 ad C (pw_pi (fun v ad' C' => (ad' = ad ∧ rm_at ca ad C' res.2 ∧ rm_fr C C') ∧ v = res.1)) A) args s 0 0 A) (F0 m 6 ls []) := by
    intro K hKK n
    induction n with
    | zero => intro x4_1 x3_1 x1_1 r C1 H locs ls hE; rw [m_text_6] at hE; exact absurd hE (by simp)
    | succ n ih =>
      intro x4_1 x3_1 x1_1 r C1 H locs ls hE hR hfr hw hl
      rw [m_text_6] at hE
      refine lv_iload hx hb d_M_text_6 (lv_at hl 0 rfl) ?_
      refine lv_if_lt (tgt := 48) hx hb d_M_text_8 (by decide) (fun c_2 => ?_) (fun c_2 => ?_)
      · rw [if_pos c_2] at hE
        exact hKK _ _ _ _ _ _ _ _ hE hR hfr hw (lv_sub hl [0, 1, 2, 3] rfl)
      · rw [if_neg c_2] at hE
        refine lv_lload_n hx hb d_M_text_11 rfl (lv_at hl 3 rfl) ?_
        refine lv_bipush (v := 8) hx hb d_M_text_12 (by decide) ?_
        refine lv_iload hx hb d_M_text_14 (lv_at hl 0 rfl) ?_
        refine lv_imul hx hb d_M_text_16 ?_
        refine lv_lshr hx hb d_M_text_17 rfl ?_
        refine lv_l2i hx hb d_M_text_18 rfl ?_
        refine lv_sipush (v := 255) hx hb d_M_text_19 (by decide) ?_
        refine lv_iand hx hb d_M_text_22 ?_
        refine lv_istore (lv' := [(5, .int (((x1_1 >>> ((8 * x4_1).toInt64 &&& 63)).toInt32) &&& 255)), (4, .int x4_1), (3, .int x3_1), (0, .ref (ad 30 0)), (1, .long x1_1)]) hx hb d_M_text_23 hl (by decide) rfl (fun ls hl => ?_)
        refine lv_iload hx hb d_M_text_25 (lv_at hl 0 rfl) ?_
        refine lv_bipush (v := 127) hx hb d_M_text_27 (by decide) ?_
        refine lv_icmp_le (tgt := 34) hx hb d_M_text_29 (by decide) (fun c_3 => ?_) (fun c_3 => ?_)
        · rw [if_pos c_3] at hE
          refine lv_iload hx hb d_M_text_34 (lv_at hl 0 rfl) ?_
          refine lv_if_le (tgt := 42) hx hb d_M_text_36 (by decide) (fun c_4 => ?_) (fun c_4 => ?_)
          · rw [if_pos c_4] at hE
            refine lv_iinc (v := x4_1 + (-1)) (lv' := [(4, .int (x4_1 + (-1))), (5, .int (((x1_1 >>> ((8 * x4_1).toInt64 &&& 63)).toInt32) &&& 255)), (3, .int x3_1), (0, .ref (ad 30 0)), (1, .long x1_1)]) hx hb d_M_text_42 hl (k := 1) rfl rfl (by decide) rfl (fun ls hl => ?_)
            refine lv_goto (tgt := 6) hx hb d_M_text_45 (by decide) ?_
            exact ih _ _ _ _ _ _ _ _ hE hR hfr hw (lv_sub hl [0, 2, 3, 4] rfl)
          · rw [if_neg c_4] at hE
            refine lv_iinc (v := x3_1 + 1) (lv' := [(3, .int (x3_1 + 1)), (5, .int (((x1_1 >>> ((8 * x4_1).toInt64 &&& 63)).toInt32) &&& 255)), (4, .int x4_1), (0, .ref (ad 30 0)), (1, .long x1_1)]) hx hb d_M_text_39 hl (k := 2) rfl rfl (by decide) rfl (fun ls hl => ?_)
            refine lv_iinc (v := x4_1 + (-1)) (lv' := [(4, .int (x4_1 + (-1))), (3, .int (x3_1 + 1)), (5, .int (((x1_1 >>> ((8 * x4_1).toInt64 &&& 63)).toInt32) &&& 255)), (0, .ref (ad 30 0)), (1, .long x1_1)]) hx hb d_M_text_42 hl (k := 2) rfl rfl (by decide) rfl (fun ls hl => ?_)
            refine lv_goto (tgt := 6) hx hb d_M_text_45 (by decide) ?_
            exact ih _ _ _ _ _ _ _ _ hE hR hfr hw (lv_sub hl [0, 1, 3, 4] rfl)
        · rw [if_neg c_3] at hE
          refine lv_iconst (v := (-1)) hx hb d_M_text_32 (by decide) ?_
          obtain rfl := Option.some.inj hE
          exact pw_iret hx hb hr hlocks hw ⟨⟨rfl, hR, hfr⟩, rfl⟩ d_M_text_33
  refine lp_1 _ (fun z4_1 z3_1 z1_1 r_5 C_6 H locs ls hE hR hfr hw hl => ?_) 60 _ _ _ _ _ _ _ _ hE hR hfr hw hl
  try dsimp only at hE
  refine lv_aload_n hx hb d_M_text_48 rfl (lv_at hl 2 rfl) ?_
  refine lv_iconst (v := 1) hx hb d_M_text_49 (by decide) ?_
  refine lv_iload_n hx hb d_M_text_50 rfl (lv_at hl 1 rfl) ?_
  obtain ⟨y_7, hy_7, hE⟩ := ob_some hE
  have hc_8 : C_6 30 0 = some (.inr (4, [.ref (ad 31 0), .ref (ad 31 1), .ref (ad 31 2), .ref (ad 31 3), .ref (ad 31 4), .ref (ad 31 5), .ref (ad 31 6), .ref (ad 31 7), .ref (ad 31 8), .ref (ad 31 9), .ref (ad 31 10), .ref (ad 31 11), .ref (ad 31 12), .ref (ad 31 13), .ref (ad 31 14), .int r_5.objects, .ref (ad 31 15), .int r_5.length, .ref (ad 31 16), .int r_5.waits, .ref (ad 31 17), .int r_5.given, .ref (ad 31 18), .ref (ad 31 19), .ref (ad 31 20), .int r_5.left, .ref (ad 31 21), .ref (ad 31 22), .int r_5.oldLength, .int r_5.oldWaits, .int r_5.oldGiven])) := by have h9 := rm_at.o hR; exact h9
  refine pw_calli (va_runV (As := [.int 1, .int z3_1]) (rest := []) ⟨hx, hb, hml, hown, hts0⟩ (k_M_begin hR hy_7 _) (cwV 2 hts0 (wd_V wd_880 wd_877 wd_879 wd_26 wd_56) rfl rfl rfl (by decide +kernel) ⟨Nat.le_of_ble_eq_true rfl, Nat.le_of_ble_eq_true rfl⟩) (pw_preV hZ hw hA hK hz rfl hc_8 rfl) rfl rfl hl.1 rfl (lv_room (Nat.le_of_ble_eq_true rfl)) d_M_text_51 ⟨Nat.le_of_ble_eq_true rfl, Nat.le_of_ble_eq_true rfl⟩) hw hA (fun r_11 ad_9 C_10 H locs hp hw => ?_)
  obtain ⟨⟨hae, hR, hf1⟩, hre⟩ := hp
  rw [hre]
  rw [hae] at hw
  clear hae
  have hfr : rm_fr C C_10 := fun x y h9 => (hf1 x y h9).trans (hfr x y h9)
  clear hf1
  refine lv_istore (lv' := [(4, .int y_7.1), (3, .int z3_1), (0, .ref (ad 30 0)), (1, .long z1_1)]) hx hb d_M_text_54 hl (by decide) rfl (fun ls hl => ?_)
  refine lv_iload hx hb d_M_text_56 (lv_at hl 0 rfl) ?_
  refine lv_if_ge (tgt := 64) hx hb d_M_text_58 (by decide) (fun c_12 => ?_) (fun c_12 => ?_)
  · rw [if_pos c_12] at hE
    refine lv_iconst (v := 0) hx hb d_M_text_64 (by decide) ?_
    refine lv_istore_n (lv' := [(3, .int 0), (4, .int y_7.1), (0, .ref (ad 30 0)), (1, .long z1_1)]) hx hb d_M_text_65 rfl hl (by decide) rfl (fun ls hl => ?_)
    refine lv_bipush (v := 7) hx hb d_M_text_66 (by decide) ?_
    refine lv_istore (lv' := [(5, .int 7), (3, .int 0), (4, .int y_7.1), (0, .ref (ad 30 0)), (1, .long z1_1)]) hx hb d_M_text_68 hl (by decide) rfl (fun ls hl => ?_)
    have lp_13 : ∀ (K : Int32 → Int32 → Int32 → Int64 → RS → Option (Int32 × RS)), (∀ (x5_13 : Int32) (x3_13 : Int32) (x4_13 : Int32) (x1_13 : Int64) (r : RS) (C1 : pw_C) (H : Heap) (locs : List Loc) (ls : Array Slot), K x5_13 x3_13 x4_13 x1_13 r = some res → rm_at ca ad C1 r → rm_fr C C1 → pw_H D cls9 A s.heap ad C ad C1 H locs → lv_has ls 7 [(5, .int x5_13), (3, .int x3_13), (4, .int x4_13), (0, .ref (ad 30 0)), (1, .long x1_13)] → W p l e ({ frames := 1, cells := 0, slots := 0, locals := 23 }) s m args below meth c H locs 0 0 (MQ below (pw_Q D cls9 ad C (pw_pi (fun v ad' C' => (ad' = ad ∧ rm_at ca ad C' res.2 ∧ rm_fr C C') ∧ v = res.1)) A) args s 0 0 A) (F0 m 118 ls [])) → ∀ (n : Nat) (x5_13 : Int32) (x3_13 : Int32) (x4_13 : Int32) (x1_13 : Int64) (r : RS) (C1 : pw_C) (H : Heap) (locs : List Loc) (ls : Array Slot), m_text_70 K n x5_13 x3_13 x4_13 x1_13 r = some res → rm_at ca ad C1 r → rm_fr C C1 → pw_H D cls9 A s.heap ad C ad C1 H locs → lv_has ls 7 [(5, .int x5_13), (3, .int x3_13), (4, .int x4_13), (0, .ref (ad 30 0)), (1, .long x1_13)] → W p l e ({ frames := 1, cells := 0, slots := 0, locals := 23 }) s m args below meth c H locs 0 0 (MQ below (pw_Q D cls9 ad C (pw_pi (fun v ad' C' => (ad' = ad ∧ rm_at ca ad C' res.2 ∧ rm_fr C C') ∧ v = res.1)) A) args s 0 0 A) (F0 m 70 ls []) := by
      intro K hKK n
      induction n with
      | zero => intro x5_13 x3_13 x4_13 x1_13 r C1 H locs ls hE; rw [m_text_70] at hE; exact absurd hE (by simp)
      | succ n ih =>
        intro x5_13 x3_13 x4_13 x1_13 r C1 H locs ls hE hR hfr hw hl
        rw [m_text_70] at hE
        refine lv_iload hx hb d_M_text_70 (lv_at hl 0 rfl) ?_
        refine lv_if_lt (tgt := 118) hx hb d_M_text_72 (by decide) (fun c_14 => ?_) (fun c_14 => ?_)
        · rw [if_pos c_14] at hE
          exact hKK _ _ _ _ _ _ _ _ _ hE hR hfr hw (lv_sub hl [0, 1, 2, 3, 4] rfl)
        · rw [if_neg c_14] at hE
          refine lv_lload_n hx hb d_M_text_75 rfl (lv_at hl 4 rfl) ?_
          refine lv_bipush (v := 8) hx hb d_M_text_76 (by decide) ?_
          refine lv_iload hx hb d_M_text_78 (lv_at hl 0 rfl) ?_
          refine lv_imul hx hb d_M_text_80 ?_
          refine lv_lshr hx hb d_M_text_81 rfl ?_
          refine lv_l2i hx hb d_M_text_82 rfl ?_
          refine lv_sipush (v := 255) hx hb d_M_text_83 (by decide) ?_
          refine lv_iand hx hb d_M_text_86 ?_
          refine lv_istore (lv' := [(6, .int (((x1_13 >>> ((8 * x5_13).toInt64 &&& 63)).toInt32) &&& 255)), (5, .int x5_13), (3, .int x3_13), (4, .int x4_13), (0, .ref (ad 30 0)), (1, .long x1_13)]) hx hb d_M_text_87 hl (by decide) rfl (fun ls hl => ?_)
          refine lv_iload hx hb d_M_text_89 (lv_at hl 0 rfl) ?_
          refine lv_if_le (tgt := 112) hx hb d_M_text_91 (by decide) (fun c_15 => ?_) (fun c_15 => ?_)
          · rw [if_pos c_15] at hE
            refine lv_iinc (v := x5_13 + (-1)) (lv' := [(5, .int (x5_13 + (-1))), (6, .int (((x1_13 >>> ((8 * x5_13).toInt64 &&& 63)).toInt32) &&& 255)), (3, .int x3_13), (4, .int x4_13), (0, .ref (ad 30 0)), (1, .long x1_13)]) hx hb d_M_text_112 hl (k := 1) rfl rfl (by decide) rfl (fun ls hl => ?_)
            refine lv_goto (tgt := 70) hx hb d_M_text_115 (by decide) ?_
            exact ih _ _ _ _ _ _ _ _ _ hE hR hfr hw (lv_sub hl [0, 2, 3, 4, 5] rfl)
          · rw [if_neg c_15] at hE
            refine lv_aload_n hx hb d_M_text_94 rfl (lv_at hl 4 rfl) ?_
            have hc_16 : C1 30 0 = some (.inr (4, [.ref (ad 31 0), .ref (ad 31 1), .ref (ad 31 2), .ref (ad 31 3), .ref (ad 31 4), .ref (ad 31 5), .ref (ad 31 6), .ref (ad 31 7), .ref (ad 31 8), .ref (ad 31 9), .ref (ad 31 10), .ref (ad 31 11), .ref (ad 31 12), .ref (ad 31 13), .ref (ad 31 14), .int r.objects, .ref (ad 31 15), .int r.length, .ref (ad 31 16), .int r.waits, .ref (ad 31 17), .int r.given, .ref (ad 31 18), .ref (ad 31 19), .ref (ad 31 20), .int r.left, .ref (ad 31 21), .ref (ad 31 22), .int r.oldLength, .int r.oldWaits, .int r.oldGiven])) := by have h9 := rm_at.o hR; exact h9
            refine pw_get (Cn := "GraphWriterModel") (T := F_M) (N := 31) hx hb hts in_M hown hK hw 30 0 rfl hc_16 rfl 12 (by decide) (hts _ wd_766) (fun _ h9 => h9) rfl d_M_text_95 ?_
            refine lv_bipush (v := 24) hx hb d_M_text_98 (by decide) ?_
            refine lv_iload hx hb d_M_text_100 (lv_at hl 3 rfl) ?_
            refine lv_imul hx hb d_M_text_102 ?_
            refine lv_iload_n hx hb d_M_text_103 rfl (lv_at hl 2 rfl) ?_
            refine lv_iadd hx hb d_M_text_104 ?_
            refine lv_iload hx hb d_M_text_105 (lv_at hl 0 rfl) ?_
            refine lv_i2l hx hb d_M_text_107 rfl ?_
            have hc_17 : C1 31 12 = some (.inl (ca 1, 480, .inr (.inl r.value))) := by have h9 := rm_at.a12 hR; exact h9
            obtain ⟨w_18, hw_18, hE⟩ := ob_some hE
            obtain ⟨hi_w_18, hj_w_18, he_w_18⟩ := wrl_some (by decide) hw_18
            refine pw_last hx hb hK hw 31 12 rfl 1 hc_17 rfl (by decide) ((24 * x4_13) + x3_13 : Int32).toNatClampNeg hi_w_18 (by omega) (by omega) d_M_text_108 (fun H locs hw => ?_)
            rw [← he_w_18] at hw
            have hw : pw_H D cls9 A s.heap ad C ad (pw_up C1 31 12 (some (.inl (ca 1, 480, .inr (.inl w_18))))) H _ := hw
            generalize hC_19 : pw_up C1 31 12 (some (.inl (ca 1, 480, .inr (.inl w_18)))) = C_19 at hw
            have hR : rm_at ca ad C_19 (RS.s_value r w_18) := by rw [← hC_19]; exact rm_at.s12 hR _
            have hfr : rm_fr C C_19 := fun x y h9 => by rw [← hC_19]; exact (pw_up_ne _ _ (by omega)).trans (hfr x y h9)
            refine lv_iinc (v := x3_13 + 1) (lv' := [(3, .int (x3_13 + 1)), (6, .int (((x1_13 >>> ((8 * x5_13).toInt64 &&& 63)).toInt32) &&& 255)), (5, .int x5_13), (4, .int x4_13), (0, .ref (ad 30 0)), (1, .long x1_13)]) hx hb d_M_text_109 hl (k := 2) rfl rfl (by decide) rfl (fun ls hl => ?_)
            refine lv_iinc (v := x5_13 + (-1)) (lv' := [(5, .int (x5_13 + (-1))), (3, .int (x3_13 + 1)), (6, .int (((x1_13 >>> ((8 * x5_13).toInt64 &&& 63)).toInt32) &&& 255)), (4, .int x4_13), (0, .ref (ad 30 0)), (1, .long x1_13)]) hx hb d_M_text_112 hl (k := 2) rfl rfl (by decide) rfl (fun ls hl => ?_)
            refine lv_goto (tgt := 70) hx hb d_M_text_115 (by decide) ?_
            exact ih _ _ _ _ _ _ _ _ _ hE hR hfr hw (lv_sub hl [0, 1, 3, 4, 5] rfl)
    refine lp_13 _ (fun z5_13 z3_13 z4_13 z1_13 r_20 C_21 H locs ls hE hR hfr hw hl => ?_) 60 _ _ _ _ _ _ _ _ _ hE hR hfr hw hl
    try dsimp only at hE
    refine lv_iload hx hb d_M_text_118 (lv_at hl 2 rfl) ?_
    obtain rfl := Option.some.inj hE
    exact pw_iret hx hb hr hlocks hw ⟨⟨rfl, hR, hfr⟩, rfl⟩ d_M_text_120
  · rw [if_neg c_12] at hE
    refine lv_bipush (v := (-2)) hx hb d_M_text_61 (by decide) ?_
    obtain rfl := Option.some.inj hE
    exact pw_iret hx hb hr hlocks hw ⟨⟨rfl, hR, hfr⟩, rfl⟩ d_M_text_63
def m_array_45 (K : Int32 → Int32 → Int32 → Int32 → RS → Option (Int32 × RS)) : Nat → Int32 → Int32 → Int32 → Int32 → RS → Option (Int32 × RS)
  | 0, _, _, _, _, _ => none
  | n + 1, x4_11, x3_11, x1_11, x2_11, r => if (x1_11 : Int32) = 0 then (K x4_11 x3_11 x1_11 x2_11 r) else (if (x2_11 : Int32) ≤ x4_11 then (K x4_11 x3_11 x1_11 x2_11 r) else (Option.bind (wrl r.value 480 ((24 * x3_11) + x4_11) (-1)) (fun w_16 => m_array_45 K n (x4_11 + 1) x3_11 x1_11 x2_11 (RS.s_value r w_16))))
def m_array_45' (K : Int32 → Int32 → Int32 → Int32 → RS → Option (Int32 × RS)) : Nat → Int32 → Int32 → Int32 → Int32 → RS → Option (Int32 × RS)
  | 0, _, _, _, _, _ => none
  | n + 1, x4_26, x3_26, x1_26, x2_26, r => if (x1_26 : Int32) = 0 then (K x4_26 x3_26 x1_26 x2_26 r) else (if (x2_26 : Int32) ≤ x4_26 then (K x4_26 x3_26 x1_26 x2_26 r) else (Option.bind (wrl r.value 480 ((24 * x3_26) + x4_26) (-1)) (fun w_31 => m_array_45' K n (x4_26 + 1) x3_26 x1_26 x2_26 (RS.s_value r w_31))))
def m_array_45'' (K : Int32 → Int32 → Int32 → Int32 → RS → Option (Int32 × RS)) : Nat → Int32 → Int32 → Int32 → Int32 → RS → Option (Int32 × RS)
  | 0, _, _, _, _, _ => none
  | n + 1, x4_43, x3_43, x1_43, x2_43, r => if (x1_43 : Int32) = 0 then (K x4_43 x3_43 x1_43 x2_43 r) else (if (x2_43 : Int32) ≤ x4_43 then (K x4_43 x3_43 x1_43 x2_43 r) else (Option.bind (wrl r.value 480 ((24 * x3_43) + x4_43) (-1)) (fun w_48 => m_array_45'' K n (x4_43 + 1) x3_43 x1_43 x2_43 (RS.s_value r w_48))))
def m_array_45''' (K : Int32 → Int32 → Int32 → Int32 → RS → Option (Int32 × RS)) : Nat → Int32 → Int32 → Int32 → Int32 → RS → Option (Int32 × RS)
  | 0, _, _, _, _, _ => none
  | n + 1, x4_58, x3_58, x1_58, x2_58, r => if (x1_58 : Int32) = 0 then (K x4_58 x3_58 x1_58 x2_58 r) else (if (x2_58 : Int32) ≤ x4_58 then (K x4_58 x3_58 x1_58 x2_58 r) else (Option.bind (wrl r.value 480 ((24 * x3_58) + x4_58) (-1)) (fun w_63 => m_array_45''' K n (x4_58 + 1) x3_58 x1_58 x2_58 (RS.s_value r w_63))))
def m_array (l1 : Int32) (l2 : Int32) (r : RS) : Option (Int32 × RS) := if (l2 : Int32) < 0 then (some ((-1), r)) else (if (l1 : Int32) = 0 then (if (l2 : Int32) ≤ 6 then (if (l1 : Int32) = 0 then (Option.bind (m_begin 2 l2 r) (fun y_5 => if (0 : Int32) ≤ y_5.1 then (m_array_45 (fun z4_11 z3_11 z1_11 z2_11 r_18 => some (z3_11, r_18)) 60 0 y_5.1 l1 l2 y_5.2) else (some ((-2), y_5.2)))) else (Option.bind (m_begin 3 l2 r) (fun y_20 => if (0 : Int32) ≤ y_20.1 then (m_array_45' (fun z4_26 z3_26 z1_26 z2_26 r_33 => some (z3_26, r_33)) 60 0 y_20.1 l1 l2 y_20.2) else (some ((-2), y_20.2))))) else (some ((-1), r))) else (if (l2 : Int32) ≤ 4 then (if (l1 : Int32) = 0 then (Option.bind (m_begin 2 l2 r) (fun y_37 => if (0 : Int32) ≤ y_37.1 then (m_array_45'' (fun z4_43 z3_43 z1_43 z2_43 r_50 => some (z3_43, r_50)) 60 0 y_37.1 l1 l2 y_37.2) else (some ((-2), y_37.2)))) else (Option.bind (m_begin 3 l2 r) (fun y_52 => if (0 : Int32) ≤ y_52.1 then (m_array_45''' (fun z4_58 z3_58 z1_58 z2_58 r_65 => some (z3_58, r_65)) 60 0 y_52.1 l1 l2 y_52.2) else (some ((-2), y_52.2))))) else (some ((-1), r))))
set_option maxHeartbeats 4000000 in
set_option maxRecDepth 100000 in
theorem k_M_array {l : Launch} {D : va_G} {ca : Nat → ClassId} {kS : Nat → Nat} {kT : Nat} {ad : pw_A} {C : pw_C} {r : RS} (hR : rm_at ca ad C r) {l1 : Int32} {l2 : Int32} {res : (Int32 × RS)} (hE : m_array l1 l2 r = some res) : gc_Con l y_M_array c_M_array ({ frames := 1, cells := 0, slots := 0, locals := 23 }) D ca (z9_Z kS kT) [.ref (ad 30 0), .int l1, .int l2] ad C (pw_pi (fun v ad' C' => (ad' = ad ∧ rm_at ca ad C' res.2 ∧ rm_fr C C') ∧ v = res.1)) 0 0 := by
  have hZ := z9_ok kS kT
  refine pw_ofW (cc := b_M_array) (maxL := 5) (ret := (some FieldType.int)) (by decide) rfl (Nat.le_of_ble_eq_true rfl) ?_
  intro p e s m args below meth c A ls hB hA hw hK hz hl
  obtain ⟨hx, hb, hr, hml, hts0, hlocks, hown, hnm⟩ := hB
  have hts := wd_hts hts0
  have hown : s.vm.findClass "GraphWriterModel" = some m.cls := hown
  have hl : lv_has ls 5 [(0, .ref (ad 30 0)), (1, .int l1), (2, .int l2)] := hl
  have hfr : rm_fr C C := fun _ _ _ => rfl
  unfold m_array at hE
  refine lv_iload_n hx hb d_M_array_0 rfl (lv_at hl 2 rfl) ?_
  refine lv_if_lt (tgt := 18) hx hb d_M_array_1 (by decide) (fun c_1 => ?_) (fun c_1 => ?_)
  · rw [if_pos c_1] at hE
    refine lv_iconst (v := (-1)) hx hb d_M_array_18 (by decide) ?_
    obtain rfl := Option.some.inj hE
    exact pw_iret hx hb hr hlocks hw ⟨⟨rfl, hR, hfr⟩, rfl⟩ d_M_array_19
  · rw [if_neg c_1] at hE
    refine lv_iload_n hx hb d_M_array_4 rfl (lv_at hl 2 rfl) ?_
    refine lv_iload_n hx hb d_M_array_5 rfl (lv_at hl 1 rfl) ?_
    refine lv_if_eq (tgt := 13) hx hb d_M_array_6 (by decide) (fun c_2 => ?_) (fun c_2 => ?_)
    · rw [if_pos c_2] at hE
      refine lv_bipush (v := 6) hx hb d_M_array_13 (by decide) ?_
      refine lv_icmp_le (tgt := 20) hx hb d_M_array_15 (by decide) (fun c_3 => ?_) (fun c_3 => ?_)
      · rw [if_pos c_3] at hE
        refine lv_aload_n hx hb d_M_array_20 rfl (lv_at hl 0 rfl) ?_
        refine lv_iload_n hx hb d_M_array_21 rfl (lv_at hl 1 rfl) ?_
        refine lv_if_eq (tgt := 29) hx hb d_M_array_22 (by decide) (fun c_4 => ?_) (fun c_4 => ?_)
        · rw [if_pos c_4] at hE
          refine lv_iconst (v := 2) hx hb d_M_array_29 (by decide) ?_
          refine lv_iload_n hx hb d_M_array_30 rfl (lv_at hl 2 rfl) ?_
          obtain ⟨y_5, hy_5, hE⟩ := ob_some hE
          have hc_6 : C 30 0 = some (.inr (4, [.ref (ad 31 0), .ref (ad 31 1), .ref (ad 31 2), .ref (ad 31 3), .ref (ad 31 4), .ref (ad 31 5), .ref (ad 31 6), .ref (ad 31 7), .ref (ad 31 8), .ref (ad 31 9), .ref (ad 31 10), .ref (ad 31 11), .ref (ad 31 12), .ref (ad 31 13), .ref (ad 31 14), .int r.objects, .ref (ad 31 15), .int r.length, .ref (ad 31 16), .int r.waits, .ref (ad 31 17), .int r.given, .ref (ad 31 18), .ref (ad 31 19), .ref (ad 31 20), .int r.left, .ref (ad 31 21), .ref (ad 31 22), .int r.oldLength, .int r.oldWaits, .int r.oldGiven])) := by have h9 := rm_at.o hR; exact h9
          refine pw_calli (va_runV (As := [.int 2, .int l2]) (rest := []) ⟨hx, hb, hml, hown, hts0⟩ (k_M_begin hR hy_5 _) (cwV 2 hts0 (wd_V wd_880 wd_877 wd_879 wd_26 wd_56) rfl rfl rfl (by decide +kernel) ⟨Nat.le_of_ble_eq_true rfl, Nat.le_of_ble_eq_true rfl⟩) (pw_preV hZ hw hA hK hz rfl hc_6 rfl) rfl rfl hl.1 rfl (lv_room (Nat.le_of_ble_eq_true rfl)) d_M_array_31 ⟨Nat.le_of_ble_eq_true rfl, Nat.le_of_ble_eq_true rfl⟩) hw hA (fun r_9 ad_7 C_8 H locs hp hw => ?_)
          obtain ⟨⟨hae, hR, hf1⟩, hre⟩ := hp
          rw [hre]
          rw [hae] at hw
          clear hae
          have hfr : rm_fr C C_8 := fun x y h9 => (hf1 x y h9).trans (hfr x y h9)
          clear hf1
          refine lv_istore_n (lv' := [(3, .int y_5.1), (0, .ref (ad 30 0)), (1, .int l1), (2, .int l2)]) hx hb d_M_array_34 rfl hl (by decide) rfl (fun ls hl => ?_)
          refine lv_iload_n hx hb d_M_array_35 rfl (lv_at hl 0 rfl) ?_
          refine lv_if_ge (tgt := 42) hx hb d_M_array_36 (by decide) (fun c_10 => ?_) (fun c_10 => ?_)
          · rw [if_pos c_10] at hE
            refine lv_iconst (v := 0) hx hb d_M_array_42 (by decide) ?_
            refine lv_istore (lv' := [(4, .int 0), (3, .int y_5.1), (0, .ref (ad 30 0)), (1, .int l1), (2, .int l2)]) hx hb d_M_array_43 hl (by decide) rfl (fun ls hl => ?_)
            have lp_11 : ∀ (K : Int32 → Int32 → Int32 → Int32 → RS → Option (Int32 × RS)), (∀ (x4_11 : Int32) (x3_11 : Int32) (x1_11 : Int32) (x2_11 : Int32) (r : RS) (C1 : pw_C) (H : Heap) (locs : List Loc) (ls : Array Slot), K x4_11 x3_11 x1_11 x2_11 r = some res → rm_at ca ad C1 r → rm_fr C C1 → pw_H D cls9 A s.heap ad C ad C1 H locs → lv_has ls 5 [(4, .int x4_11), (3, .int x3_11), (0, .ref (ad 30 0)), (1, .int x1_11), (2, .int x2_11)] → W p l e ({ frames := 1, cells := 0, slots := 0, locals := 23 }) s m args below meth c H locs 0 0 (MQ below (pw_Q D cls9 ad C (pw_pi (fun v ad' C' => (ad' = ad ∧ rm_at ca ad C' res.2 ∧ rm_fr C C') ∧ v = res.1)) A) args s 0 0 A) (F0 m 76 ls [])) → ∀ (n : Nat) (x4_11 : Int32) (x3_11 : Int32) (x1_11 : Int32) (x2_11 : Int32) (r : RS) (C1 : pw_C) (H : Heap) (locs : List Loc) (ls : Array Slot), m_array_45 K n x4_11 x3_11 x1_11 x2_11 r = some res → rm_at ca ad C1 r → rm_fr C C1 → pw_H D cls9 A s.heap ad C ad C1 H locs → lv_has ls 5 [(4, .int x4_11), (3, .int x3_11), (0, .ref (ad 30 0)), (1, .int x1_11), (2, .int x2_11)] → W p l e ({ frames := 1, cells := 0, slots := 0, locals := 23 }) s m args below meth c H locs 0 0 (MQ below (pw_Q D cls9 ad C (pw_pi (fun v ad' C' => (ad' = ad ∧ rm_at ca ad C' res.2 ∧ rm_fr C C') ∧ v = res.1)) A) args s 0 0 A) (F0 m 45 ls []) := by
              intro K hKK n
              induction n with
              | zero => intro x4_11 x3_11 x1_11 x2_11 r C1 H locs ls hE; rw [m_array_45] at hE; exact absurd hE (by simp)
              | succ n ih =>
                intro x4_11 x3_11 x1_11 x2_11 r C1 H locs ls hE hR hfr hw hl
                rw [m_array_45] at hE
                refine lv_iload_n hx hb d_M_array_45 rfl (lv_at hl 3 rfl) ?_
                refine lv_if_eq (tgt := 76) hx hb d_M_array_46 (by decide) (fun c_12 => ?_) (fun c_12 => ?_)
                · rw [if_pos c_12] at hE
                  exact hKK _ _ _ _ _ _ _ _ _ hE hR hfr hw (lv_sub hl [0, 1, 2, 3, 4] rfl)
                · rw [if_neg c_12] at hE
                  refine lv_iload hx hb d_M_array_49 (lv_at hl 0 rfl) ?_
                  refine lv_iload_n hx hb d_M_array_51 rfl (lv_at hl 4 rfl) ?_
                  refine lv_icmp_ge (tgt := 76) hx hb d_M_array_52 (by decide) (fun c_13 => ?_) (fun c_13 => ?_)
                  · rw [if_pos c_13] at hE
                    exact hKK _ _ _ _ _ _ _ _ _ hE hR hfr hw (lv_sub hl [0, 1, 2, 3, 4] rfl)
                  · rw [if_neg c_13] at hE
                    refine lv_aload_n hx hb d_M_array_55 rfl (lv_at hl 2 rfl) ?_
                    have hc_14 : C1 30 0 = some (.inr (4, [.ref (ad 31 0), .ref (ad 31 1), .ref (ad 31 2), .ref (ad 31 3), .ref (ad 31 4), .ref (ad 31 5), .ref (ad 31 6), .ref (ad 31 7), .ref (ad 31 8), .ref (ad 31 9), .ref (ad 31 10), .ref (ad 31 11), .ref (ad 31 12), .ref (ad 31 13), .ref (ad 31 14), .int r.objects, .ref (ad 31 15), .int r.length, .ref (ad 31 16), .int r.waits, .ref (ad 31 17), .int r.given, .ref (ad 31 18), .ref (ad 31 19), .ref (ad 31 20), .int r.left, .ref (ad 31 21), .ref (ad 31 22), .int r.oldLength, .int r.oldWaits, .int r.oldGiven])) := by have h9 := rm_at.o hR; exact h9
                    refine pw_get (Cn := "GraphWriterModel") (T := F_M) (N := 31) hx hb hts in_M hown hK hw 30 0 rfl hc_14 rfl 12 (by decide) (hts _ wd_766) (fun _ h9 => h9) rfl d_M_array_56 ?_
                    refine lv_bipush (v := 24) hx hb d_M_array_59 (by decide) ?_
                    refine lv_iload_n hx hb d_M_array_61 rfl (lv_at hl 1 rfl) ?_
                    refine lv_imul hx hb d_M_array_62 ?_
                    refine lv_iload hx hb d_M_array_63 (lv_at hl 0 rfl) ?_
                    refine lv_iadd hx hb d_M_array_65 ?_
                    refine lv_ldc2 (v := (-1)) hx hb hown (hts _ wd_889) d_M_array_66 ?_
                    have hc_15 : C1 31 12 = some (.inl (ca 1, 480, .inr (.inl r.value))) := by have h9 := rm_at.a12 hR; exact h9
                    obtain ⟨w_16, hw_16, hE⟩ := ob_some hE
                    obtain ⟨hi_w_16, hj_w_16, he_w_16⟩ := wrl_some (by decide) hw_16
                    refine pw_last hx hb hK hw 31 12 rfl 1 hc_15 rfl (by decide) ((24 * x3_11) + x4_11 : Int32).toNatClampNeg hi_w_16 (by omega) (by omega) d_M_array_69 (fun H locs hw => ?_)
                    rw [← he_w_16] at hw
                    have hw : pw_H D cls9 A s.heap ad C ad (pw_up C1 31 12 (some (.inl (ca 1, 480, .inr (.inl w_16))))) H _ := hw
                    generalize hC_17 : pw_up C1 31 12 (some (.inl (ca 1, 480, .inr (.inl w_16)))) = C_17 at hw
                    have hR : rm_at ca ad C_17 (RS.s_value r w_16) := by rw [← hC_17]; exact rm_at.s12 hR _
                    have hfr : rm_fr C C_17 := fun x y h9 => by rw [← hC_17]; exact (pw_up_ne _ _ (by omega)).trans (hfr x y h9)
                    refine lv_iinc (v := x4_11 + 1) (lv' := [(4, .int (x4_11 + 1)), (3, .int x3_11), (0, .ref (ad 30 0)), (1, .int x1_11), (2, .int x2_11)]) hx hb d_M_array_70 hl (k := 0) rfl rfl (by decide) rfl (fun ls hl => ?_)
                    refine lv_goto (tgt := 45) hx hb d_M_array_73 (by decide) ?_
                    exact ih _ _ _ _ _ _ _ _ _ hE hR hfr hw (lv_sub hl [0, 1, 2, 3, 4] rfl)
            refine lp_11 _ (fun z4_11 z3_11 z1_11 z2_11 r_18 C_19 H locs ls hE hR hfr hw hl => ?_) 60 _ _ _ _ _ _ _ _ _ hE hR hfr hw hl
            try dsimp only at hE
            refine lv_iload_n hx hb d_M_array_76 rfl (lv_at hl 1 rfl) ?_
            obtain rfl := Option.some.inj hE
            exact pw_iret hx hb hr hlocks hw ⟨⟨rfl, hR, hfr⟩, rfl⟩ d_M_array_77
          · rw [if_neg c_10] at hE
            refine lv_bipush (v := (-2)) hx hb d_M_array_39 (by decide) ?_
            obtain rfl := Option.some.inj hE
            exact pw_iret hx hb hr hlocks hw ⟨⟨rfl, hR, hfr⟩, rfl⟩ d_M_array_41
        · rw [if_neg c_4] at hE
          refine lv_iconst (v := 3) hx hb d_M_array_25 (by decide) ?_
          refine lv_goto (tgt := 30) hx hb d_M_array_26 (by decide) ?_
          refine lv_iload_n hx hb d_M_array_30 rfl (lv_at hl 2 rfl) ?_
          obtain ⟨y_20, hy_20, hE⟩ := ob_some hE
          have hc_21 : C 30 0 = some (.inr (4, [.ref (ad 31 0), .ref (ad 31 1), .ref (ad 31 2), .ref (ad 31 3), .ref (ad 31 4), .ref (ad 31 5), .ref (ad 31 6), .ref (ad 31 7), .ref (ad 31 8), .ref (ad 31 9), .ref (ad 31 10), .ref (ad 31 11), .ref (ad 31 12), .ref (ad 31 13), .ref (ad 31 14), .int r.objects, .ref (ad 31 15), .int r.length, .ref (ad 31 16), .int r.waits, .ref (ad 31 17), .int r.given, .ref (ad 31 18), .ref (ad 31 19), .ref (ad 31 20), .int r.left, .ref (ad 31 21), .ref (ad 31 22), .int r.oldLength, .int r.oldWaits, .int r.oldGiven])) := by have h9 := rm_at.o hR; exact h9
          refine pw_calli (va_runV (As := [.int 3, .int l2]) (rest := []) ⟨hx, hb, hml, hown, hts0⟩ (k_M_begin hR hy_20 _) (cwV 2 hts0 (wd_V wd_880 wd_877 wd_879 wd_26 wd_56) rfl rfl rfl (by decide +kernel) ⟨Nat.le_of_ble_eq_true rfl, Nat.le_of_ble_eq_true rfl⟩) (pw_preV hZ hw hA hK hz rfl hc_21 rfl) rfl rfl hl.1 rfl (lv_room (Nat.le_of_ble_eq_true rfl)) d_M_array_31 ⟨Nat.le_of_ble_eq_true rfl, Nat.le_of_ble_eq_true rfl⟩) hw hA (fun r_24 ad_22 C_23 H locs hp hw => ?_)
          obtain ⟨⟨hae, hR, hf1⟩, hre⟩ := hp
          rw [hre]
          rw [hae] at hw
          clear hae
          have hfr : rm_fr C C_23 := fun x y h9 => (hf1 x y h9).trans (hfr x y h9)
          clear hf1
          refine lv_istore_n (lv' := [(3, .int y_20.1), (0, .ref (ad 30 0)), (1, .int l1), (2, .int l2)]) hx hb d_M_array_34 rfl hl (by decide) rfl (fun ls hl => ?_)
          refine lv_iload_n hx hb d_M_array_35 rfl (lv_at hl 0 rfl) ?_
          refine lv_if_ge (tgt := 42) hx hb d_M_array_36 (by decide) (fun c_25 => ?_) (fun c_25 => ?_)
          · rw [if_pos c_25] at hE
            refine lv_iconst (v := 0) hx hb d_M_array_42 (by decide) ?_
            refine lv_istore (lv' := [(4, .int 0), (3, .int y_20.1), (0, .ref (ad 30 0)), (1, .int l1), (2, .int l2)]) hx hb d_M_array_43 hl (by decide) rfl (fun ls hl => ?_)
            have lp_26 : ∀ (K : Int32 → Int32 → Int32 → Int32 → RS → Option (Int32 × RS)), (∀ (x4_26 : Int32) (x3_26 : Int32) (x1_26 : Int32) (x2_26 : Int32) (r : RS) (C1 : pw_C) (H : Heap) (locs : List Loc) (ls : Array Slot), K x4_26 x3_26 x1_26 x2_26 r = some res → rm_at ca ad C1 r → rm_fr C C1 → pw_H D cls9 A s.heap ad C ad C1 H locs → lv_has ls 5 [(4, .int x4_26), (3, .int x3_26), (0, .ref (ad 30 0)), (1, .int x1_26), (2, .int x2_26)] → W p l e ({ frames := 1, cells := 0, slots := 0, locals := 23 }) s m args below meth c H locs 0 0 (MQ below (pw_Q D cls9 ad C (pw_pi (fun v ad' C' => (ad' = ad ∧ rm_at ca ad C' res.2 ∧ rm_fr C C') ∧ v = res.1)) A) args s 0 0 A) (F0 m 76 ls [])) → ∀ (n : Nat) (x4_26 : Int32) (x3_26 : Int32) (x1_26 : Int32) (x2_26 : Int32) (r : RS) (C1 : pw_C) (H : Heap) (locs : List Loc) (ls : Array Slot), m_array_45' K n x4_26 x3_26 x1_26 x2_26 r = some res → rm_at ca ad C1 r → rm_fr C C1 → pw_H D cls9 A s.heap ad C ad C1 H locs → lv_has ls 5 [(4, .int x4_26), (3, .int x3_26), (0, .ref (ad 30 0)), (1, .int x1_26), (2, .int x2_26)] → W p l e ({ frames := 1, cells := 0, slots := 0, locals := 23 }) s m args below meth c H locs 0 0 (MQ below (pw_Q D cls9 ad C (pw_pi (fun v ad' C' => (ad' = ad ∧ rm_at ca ad C' res.2 ∧ rm_fr C C') ∧ v = res.1)) A) args s 0 0 A) (F0 m 45 ls []) := by
              intro K hKK n
              induction n with
              | zero => intro x4_26 x3_26 x1_26 x2_26 r C1 H locs ls hE; rw [m_array_45'] at hE; exact absurd hE (by simp)
              | succ n ih =>
                intro x4_26 x3_26 x1_26 x2_26 r C1 H locs ls hE hR hfr hw hl
                rw [m_array_45'] at hE
                refine lv_iload_n hx hb d_M_array_45 rfl (lv_at hl 3 rfl) ?_
                refine lv_if_eq (tgt := 76) hx hb d_M_array_46 (by decide) (fun c_27 => ?_) (fun c_27 => ?_)
                · rw [if_pos c_27] at hE
                  exact hKK _ _ _ _ _ _ _ _ _ hE hR hfr hw (lv_sub hl [0, 1, 2, 3, 4] rfl)
                · rw [if_neg c_27] at hE
                  refine lv_iload hx hb d_M_array_49 (lv_at hl 0 rfl) ?_
                  refine lv_iload_n hx hb d_M_array_51 rfl (lv_at hl 4 rfl) ?_
                  refine lv_icmp_ge (tgt := 76) hx hb d_M_array_52 (by decide) (fun c_28 => ?_) (fun c_28 => ?_)
                  · rw [if_pos c_28] at hE
                    exact hKK _ _ _ _ _ _ _ _ _ hE hR hfr hw (lv_sub hl [0, 1, 2, 3, 4] rfl)
                  · rw [if_neg c_28] at hE
                    refine lv_aload_n hx hb d_M_array_55 rfl (lv_at hl 2 rfl) ?_
                    have hc_29 : C1 30 0 = some (.inr (4, [.ref (ad 31 0), .ref (ad 31 1), .ref (ad 31 2), .ref (ad 31 3), .ref (ad 31 4), .ref (ad 31 5), .ref (ad 31 6), .ref (ad 31 7), .ref (ad 31 8), .ref (ad 31 9), .ref (ad 31 10), .ref (ad 31 11), .ref (ad 31 12), .ref (ad 31 13), .ref (ad 31 14), .int r.objects, .ref (ad 31 15), .int r.length, .ref (ad 31 16), .int r.waits, .ref (ad 31 17), .int r.given, .ref (ad 31 18), .ref (ad 31 19), .ref (ad 31 20), .int r.left, .ref (ad 31 21), .ref (ad 31 22), .int r.oldLength, .int r.oldWaits, .int r.oldGiven])) := by have h9 := rm_at.o hR; exact h9
                    refine pw_get (Cn := "GraphWriterModel") (T := F_M) (N := 31) hx hb hts in_M hown hK hw 30 0 rfl hc_29 rfl 12 (by decide) (hts _ wd_766) (fun _ h9 => h9) rfl d_M_array_56 ?_
                    refine lv_bipush (v := 24) hx hb d_M_array_59 (by decide) ?_
                    refine lv_iload_n hx hb d_M_array_61 rfl (lv_at hl 1 rfl) ?_
                    refine lv_imul hx hb d_M_array_62 ?_
                    refine lv_iload hx hb d_M_array_63 (lv_at hl 0 rfl) ?_
                    refine lv_iadd hx hb d_M_array_65 ?_
                    refine lv_ldc2 (v := (-1)) hx hb hown (hts _ wd_889) d_M_array_66 ?_
                    have hc_30 : C1 31 12 = some (.inl (ca 1, 480, .inr (.inl r.value))) := by have h9 := rm_at.a12 hR; exact h9
                    obtain ⟨w_31, hw_31, hE⟩ := ob_some hE
                    obtain ⟨hi_w_31, hj_w_31, he_w_31⟩ := wrl_some (by decide) hw_31
                    refine pw_last hx hb hK hw 31 12 rfl 1 hc_30 rfl (by decide) ((24 * x3_26) + x4_26 : Int32).toNatClampNeg hi_w_31 (by omega) (by omega) d_M_array_69 (fun H locs hw => ?_)
                    rw [← he_w_31] at hw
                    have hw : pw_H D cls9 A s.heap ad C ad (pw_up C1 31 12 (some (.inl (ca 1, 480, .inr (.inl w_31))))) H _ := hw
                    generalize hC_32 : pw_up C1 31 12 (some (.inl (ca 1, 480, .inr (.inl w_31)))) = C_32 at hw
                    have hR : rm_at ca ad C_32 (RS.s_value r w_31) := by rw [← hC_32]; exact rm_at.s12 hR _
                    have hfr : rm_fr C C_32 := fun x y h9 => by rw [← hC_32]; exact (pw_up_ne _ _ (by omega)).trans (hfr x y h9)
                    refine lv_iinc (v := x4_26 + 1) (lv' := [(4, .int (x4_26 + 1)), (3, .int x3_26), (0, .ref (ad 30 0)), (1, .int x1_26), (2, .int x2_26)]) hx hb d_M_array_70 hl (k := 0) rfl rfl (by decide) rfl (fun ls hl => ?_)
                    refine lv_goto (tgt := 45) hx hb d_M_array_73 (by decide) ?_
                    exact ih _ _ _ _ _ _ _ _ _ hE hR hfr hw (lv_sub hl [0, 1, 2, 3, 4] rfl)
            refine lp_26 _ (fun z4_26 z3_26 z1_26 z2_26 r_33 C_34 H locs ls hE hR hfr hw hl => ?_) 60 _ _ _ _ _ _ _ _ _ hE hR hfr hw hl
            try dsimp only at hE
            refine lv_iload_n hx hb d_M_array_76 rfl (lv_at hl 1 rfl) ?_
            obtain rfl := Option.some.inj hE
            exact pw_iret hx hb hr hlocks hw ⟨⟨rfl, hR, hfr⟩, rfl⟩ d_M_array_77
          · rw [if_neg c_25] at hE
            refine lv_bipush (v := (-2)) hx hb d_M_array_39 (by decide) ?_
            obtain rfl := Option.some.inj hE
            exact pw_iret hx hb hr hlocks hw ⟨⟨rfl, hR, hfr⟩, rfl⟩ d_M_array_41
      · rw [if_neg c_3] at hE
        refine lv_iconst (v := (-1)) hx hb d_M_array_18 (by decide) ?_
        obtain rfl := Option.some.inj hE
        exact pw_iret hx hb hr hlocks hw ⟨⟨rfl, hR, hfr⟩, rfl⟩ d_M_array_19
    · rw [if_neg c_2] at hE
      refine lv_iconst (v := 4) hx hb d_M_array_9 (by decide) ?_
      refine lv_goto (tgt := 15) hx hb d_M_array_10 (by decide) ?_
      refine lv_icmp_le (tgt := 20) hx hb d_M_array_15 (by decide) (fun c_35 => ?_) (fun c_35 => ?_)
      · rw [if_pos c_35] at hE
        refine lv_aload_n hx hb d_M_array_20 rfl (lv_at hl 0 rfl) ?_
        refine lv_iload_n hx hb d_M_array_21 rfl (lv_at hl 1 rfl) ?_
        refine lv_if_eq (tgt := 29) hx hb d_M_array_22 (by decide) (fun c_36 => ?_) (fun c_36 => ?_)
        · rw [if_pos c_36] at hE
          refine lv_iconst (v := 2) hx hb d_M_array_29 (by decide) ?_
          refine lv_iload_n hx hb d_M_array_30 rfl (lv_at hl 2 rfl) ?_
          obtain ⟨y_37, hy_37, hE⟩ := ob_some hE
          have hc_38 : C 30 0 = some (.inr (4, [.ref (ad 31 0), .ref (ad 31 1), .ref (ad 31 2), .ref (ad 31 3), .ref (ad 31 4), .ref (ad 31 5), .ref (ad 31 6), .ref (ad 31 7), .ref (ad 31 8), .ref (ad 31 9), .ref (ad 31 10), .ref (ad 31 11), .ref (ad 31 12), .ref (ad 31 13), .ref (ad 31 14), .int r.objects, .ref (ad 31 15), .int r.length, .ref (ad 31 16), .int r.waits, .ref (ad 31 17), .int r.given, .ref (ad 31 18), .ref (ad 31 19), .ref (ad 31 20), .int r.left, .ref (ad 31 21), .ref (ad 31 22), .int r.oldLength, .int r.oldWaits, .int r.oldGiven])) := by have h9 := rm_at.o hR; exact h9
          refine pw_calli (va_runV (As := [.int 2, .int l2]) (rest := []) ⟨hx, hb, hml, hown, hts0⟩ (k_M_begin hR hy_37 _) (cwV 2 hts0 (wd_V wd_880 wd_877 wd_879 wd_26 wd_56) rfl rfl rfl (by decide +kernel) ⟨Nat.le_of_ble_eq_true rfl, Nat.le_of_ble_eq_true rfl⟩) (pw_preV hZ hw hA hK hz rfl hc_38 rfl) rfl rfl hl.1 rfl (lv_room (Nat.le_of_ble_eq_true rfl)) d_M_array_31 ⟨Nat.le_of_ble_eq_true rfl, Nat.le_of_ble_eq_true rfl⟩) hw hA (fun r_41 ad_39 C_40 H locs hp hw => ?_)
          obtain ⟨⟨hae, hR, hf1⟩, hre⟩ := hp
          rw [hre]
          rw [hae] at hw
          clear hae
          have hfr : rm_fr C C_40 := fun x y h9 => (hf1 x y h9).trans (hfr x y h9)
          clear hf1
          refine lv_istore_n (lv' := [(3, .int y_37.1), (0, .ref (ad 30 0)), (1, .int l1), (2, .int l2)]) hx hb d_M_array_34 rfl hl (by decide) rfl (fun ls hl => ?_)
          refine lv_iload_n hx hb d_M_array_35 rfl (lv_at hl 0 rfl) ?_
          refine lv_if_ge (tgt := 42) hx hb d_M_array_36 (by decide) (fun c_42 => ?_) (fun c_42 => ?_)
          · rw [if_pos c_42] at hE
            refine lv_iconst (v := 0) hx hb d_M_array_42 (by decide) ?_
            refine lv_istore (lv' := [(4, .int 0), (3, .int y_37.1), (0, .ref (ad 30 0)), (1, .int l1), (2, .int l2)]) hx hb d_M_array_43 hl (by decide) rfl (fun ls hl => ?_)
            have lp_43 : ∀ (K : Int32 → Int32 → Int32 → Int32 → RS → Option (Int32 × RS)), (∀ (x4_43 : Int32) (x3_43 : Int32) (x1_43 : Int32) (x2_43 : Int32) (r : RS) (C1 : pw_C) (H : Heap) (locs : List Loc) (ls : Array Slot), K x4_43 x3_43 x1_43 x2_43 r = some res → rm_at ca ad C1 r → rm_fr C C1 → pw_H D cls9 A s.heap ad C ad C1 H locs → lv_has ls 5 [(4, .int x4_43), (3, .int x3_43), (0, .ref (ad 30 0)), (1, .int x1_43), (2, .int x2_43)] → W p l e ({ frames := 1, cells := 0, slots := 0, locals := 23 }) s m args below meth c H locs 0 0 (MQ below (pw_Q D cls9 ad C (pw_pi (fun v ad' C' => (ad' = ad ∧ rm_at ca ad C' res.2 ∧ rm_fr C C') ∧ v = res.1)) A) args s 0 0 A) (F0 m 76 ls [])) → ∀ (n : Nat) (x4_43 : Int32) (x3_43 : Int32) (x1_43 : Int32) (x2_43 : Int32) (r : RS) (C1 : pw_C) (H : Heap) (locs : List Loc) (ls : Array Slot), m_array_45'' K n x4_43 x3_43 x1_43 x2_43 r = some res → rm_at ca ad C1 r → rm_fr C C1 → pw_H D cls9 A s.heap ad C ad C1 H locs → lv_has ls 5 [(4, .int x4_43), (3, .int x3_43), (0, .ref (ad 30 0)), (1, .int x1_43), (2, .int x2_43)] → W p l e ({ frames := 1, cells := 0, slots := 0, locals := 23 }) s m args below meth c H locs 0 0 (MQ below (pw_Q D cls9 ad C (pw_pi (fun v ad' C' => (ad' = ad ∧ rm_at ca ad C' res.2 ∧ rm_fr C C') ∧ v = res.1)) A) args s 0 0 A) (F0 m 45 ls []) := by
              intro K hKK n
              induction n with
              | zero => intro x4_43 x3_43 x1_43 x2_43 r C1 H locs ls hE; rw [m_array_45''] at hE; exact absurd hE (by simp)
              | succ n ih =>
                intro x4_43 x3_43 x1_43 x2_43 r C1 H locs ls hE hR hfr hw hl
                rw [m_array_45''] at hE
                refine lv_iload_n hx hb d_M_array_45 rfl (lv_at hl 3 rfl) ?_
                refine lv_if_eq (tgt := 76) hx hb d_M_array_46 (by decide) (fun c_44 => ?_) (fun c_44 => ?_)
                · rw [if_pos c_44] at hE
                  exact hKK _ _ _ _ _ _ _ _ _ hE hR hfr hw (lv_sub hl [0, 1, 2, 3, 4] rfl)
                · rw [if_neg c_44] at hE
                  refine lv_iload hx hb d_M_array_49 (lv_at hl 0 rfl) ?_
                  refine lv_iload_n hx hb d_M_array_51 rfl (lv_at hl 4 rfl) ?_
                  refine lv_icmp_ge (tgt := 76) hx hb d_M_array_52 (by decide) (fun c_45 => ?_) (fun c_45 => ?_)
                  · rw [if_pos c_45] at hE
                    exact hKK _ _ _ _ _ _ _ _ _ hE hR hfr hw (lv_sub hl [0, 1, 2, 3, 4] rfl)
                  · rw [if_neg c_45] at hE
                    refine lv_aload_n hx hb d_M_array_55 rfl (lv_at hl 2 rfl) ?_
                    have hc_46 : C1 30 0 = some (.inr (4, [.ref (ad 31 0), .ref (ad 31 1), .ref (ad 31 2), .ref (ad 31 3), .ref (ad 31 4), .ref (ad 31 5), .ref (ad 31 6), .ref (ad 31 7), .ref (ad 31 8), .ref (ad 31 9), .ref (ad 31 10), .ref (ad 31 11), .ref (ad 31 12), .ref (ad 31 13), .ref (ad 31 14), .int r.objects, .ref (ad 31 15), .int r.length, .ref (ad 31 16), .int r.waits, .ref (ad 31 17), .int r.given, .ref (ad 31 18), .ref (ad 31 19), .ref (ad 31 20), .int r.left, .ref (ad 31 21), .ref (ad 31 22), .int r.oldLength, .int r.oldWaits, .int r.oldGiven])) := by have h9 := rm_at.o hR; exact h9
                    refine pw_get (Cn := "GraphWriterModel") (T := F_M) (N := 31) hx hb hts in_M hown hK hw 30 0 rfl hc_46 rfl 12 (by decide) (hts _ wd_766) (fun _ h9 => h9) rfl d_M_array_56 ?_
                    refine lv_bipush (v := 24) hx hb d_M_array_59 (by decide) ?_
                    refine lv_iload_n hx hb d_M_array_61 rfl (lv_at hl 1 rfl) ?_
                    refine lv_imul hx hb d_M_array_62 ?_
                    refine lv_iload hx hb d_M_array_63 (lv_at hl 0 rfl) ?_
                    refine lv_iadd hx hb d_M_array_65 ?_
                    refine lv_ldc2 (v := (-1)) hx hb hown (hts _ wd_889) d_M_array_66 ?_
                    have hc_47 : C1 31 12 = some (.inl (ca 1, 480, .inr (.inl r.value))) := by have h9 := rm_at.a12 hR; exact h9
                    obtain ⟨w_48, hw_48, hE⟩ := ob_some hE
                    obtain ⟨hi_w_48, hj_w_48, he_w_48⟩ := wrl_some (by decide) hw_48
                    refine pw_last hx hb hK hw 31 12 rfl 1 hc_47 rfl (by decide) ((24 * x3_43) + x4_43 : Int32).toNatClampNeg hi_w_48 (by omega) (by omega) d_M_array_69 (fun H locs hw => ?_)
                    rw [← he_w_48] at hw
                    have hw : pw_H D cls9 A s.heap ad C ad (pw_up C1 31 12 (some (.inl (ca 1, 480, .inr (.inl w_48))))) H _ := hw
                    generalize hC_49 : pw_up C1 31 12 (some (.inl (ca 1, 480, .inr (.inl w_48)))) = C_49 at hw
                    have hR : rm_at ca ad C_49 (RS.s_value r w_48) := by rw [← hC_49]; exact rm_at.s12 hR _
                    have hfr : rm_fr C C_49 := fun x y h9 => by rw [← hC_49]; exact (pw_up_ne _ _ (by omega)).trans (hfr x y h9)
                    refine lv_iinc (v := x4_43 + 1) (lv' := [(4, .int (x4_43 + 1)), (3, .int x3_43), (0, .ref (ad 30 0)), (1, .int x1_43), (2, .int x2_43)]) hx hb d_M_array_70 hl (k := 0) rfl rfl (by decide) rfl (fun ls hl => ?_)
                    refine lv_goto (tgt := 45) hx hb d_M_array_73 (by decide) ?_
                    exact ih _ _ _ _ _ _ _ _ _ hE hR hfr hw (lv_sub hl [0, 1, 2, 3, 4] rfl)
            refine lp_43 _ (fun z4_43 z3_43 z1_43 z2_43 r_50 C_51 H locs ls hE hR hfr hw hl => ?_) 60 _ _ _ _ _ _ _ _ _ hE hR hfr hw hl
            try dsimp only at hE
            refine lv_iload_n hx hb d_M_array_76 rfl (lv_at hl 1 rfl) ?_
            obtain rfl := Option.some.inj hE
            exact pw_iret hx hb hr hlocks hw ⟨⟨rfl, hR, hfr⟩, rfl⟩ d_M_array_77
          · rw [if_neg c_42] at hE
            refine lv_bipush (v := (-2)) hx hb d_M_array_39 (by decide) ?_
            obtain rfl := Option.some.inj hE
            exact pw_iret hx hb hr hlocks hw ⟨⟨rfl, hR, hfr⟩, rfl⟩ d_M_array_41
        · rw [if_neg c_36] at hE
          refine lv_iconst (v := 3) hx hb d_M_array_25 (by decide) ?_
          refine lv_goto (tgt := 30) hx hb d_M_array_26 (by decide) ?_
          refine lv_iload_n hx hb d_M_array_30 rfl (lv_at hl 2 rfl) ?_
          obtain ⟨y_52, hy_52, hE⟩ := ob_some hE
          have hc_53 : C 30 0 = some (.inr (4, [.ref (ad 31 0), .ref (ad 31 1), .ref (ad 31 2), .ref (ad 31 3), .ref (ad 31 4), .ref (ad 31 5), .ref (ad 31 6), .ref (ad 31 7), .ref (ad 31 8), .ref (ad 31 9), .ref (ad 31 10), .ref (ad 31 11), .ref (ad 31 12), .ref (ad 31 13), .ref (ad 31 14), .int r.objects, .ref (ad 31 15), .int r.length, .ref (ad 31 16), .int r.waits, .ref (ad 31 17), .int r.given, .ref (ad 31 18), .ref (ad 31 19), .ref (ad 31 20), .int r.left, .ref (ad 31 21), .ref (ad 31 22), .int r.oldLength, .int r.oldWaits, .int r.oldGiven])) := by have h9 := rm_at.o hR; exact h9
          refine pw_calli (va_runV (As := [.int 3, .int l2]) (rest := []) ⟨hx, hb, hml, hown, hts0⟩ (k_M_begin hR hy_52 _) (cwV 2 hts0 (wd_V wd_880 wd_877 wd_879 wd_26 wd_56) rfl rfl rfl (by decide +kernel) ⟨Nat.le_of_ble_eq_true rfl, Nat.le_of_ble_eq_true rfl⟩) (pw_preV hZ hw hA hK hz rfl hc_53 rfl) rfl rfl hl.1 rfl (lv_room (Nat.le_of_ble_eq_true rfl)) d_M_array_31 ⟨Nat.le_of_ble_eq_true rfl, Nat.le_of_ble_eq_true rfl⟩) hw hA (fun r_56 ad_54 C_55 H locs hp hw => ?_)
          obtain ⟨⟨hae, hR, hf1⟩, hre⟩ := hp
          rw [hre]
          rw [hae] at hw
          clear hae
          have hfr : rm_fr C C_55 := fun x y h9 => (hf1 x y h9).trans (hfr x y h9)
          clear hf1
          refine lv_istore_n (lv' := [(3, .int y_52.1), (0, .ref (ad 30 0)), (1, .int l1), (2, .int l2)]) hx hb d_M_array_34 rfl hl (by decide) rfl (fun ls hl => ?_)
          refine lv_iload_n hx hb d_M_array_35 rfl (lv_at hl 0 rfl) ?_
          refine lv_if_ge (tgt := 42) hx hb d_M_array_36 (by decide) (fun c_57 => ?_) (fun c_57 => ?_)
          · rw [if_pos c_57] at hE
            refine lv_iconst (v := 0) hx hb d_M_array_42 (by decide) ?_
            refine lv_istore (lv' := [(4, .int 0), (3, .int y_52.1), (0, .ref (ad 30 0)), (1, .int l1), (2, .int l2)]) hx hb d_M_array_43 hl (by decide) rfl (fun ls hl => ?_)
            have lp_58 : ∀ (K : Int32 → Int32 → Int32 → Int32 → RS → Option (Int32 × RS)), (∀ (x4_58 : Int32) (x3_58 : Int32) (x1_58 : Int32) (x2_58 : Int32) (r : RS) (C1 : pw_C) (H : Heap) (locs : List Loc) (ls : Array Slot), K x4_58 x3_58 x1_58 x2_58 r = some res → rm_at ca ad C1 r → rm_fr C C1 → pw_H D cls9 A s.heap ad C ad C1 H locs → lv_has ls 5 [(4, .int x4_58), (3, .int x3_58), (0, .ref (ad 30 0)), (1, .int x1_58), (2, .int x2_58)] → W p l e ({ frames := 1, cells := 0, slots := 0, locals := 23 }) s m args below meth c H locs 0 0 (MQ below (pw_Q D cls9 ad C (pw_pi (fun v ad' C' => (ad' = ad ∧ rm_at ca ad C' res.2 ∧ rm_fr C C') ∧ v = res.1)) A) args s 0 0 A) (F0 m 76 ls [])) → ∀ (n : Nat) (x4_58 : Int32) (x3_58 : Int32) (x1_58 : Int32) (x2_58 : Int32) (r : RS) (C1 : pw_C) (H : Heap) (locs : List Loc) (ls : Array Slot), m_array_45''' K n x4_58 x3_58 x1_58 x2_58 r = some res → rm_at ca ad C1 r → rm_fr C C1 → pw_H D cls9 A s.heap ad C ad C1 H locs → lv_has ls 5 [(4, .int x4_58), (3, .int x3_58), (0, .ref (ad 30 0)), (1, .int x1_58), (2, .int x2_58)] → W p l e ({ frames := 1, cells := 0, slots := 0, locals := 23 }) s m args below meth c H locs 0 0 (MQ below (pw_Q D cls9 ad C (pw_pi (fun v ad' C' => (ad' = ad ∧ rm_at ca ad C' res.2 ∧ rm_fr C C') ∧ v = res.1)) A) args s 0 0 A) (F0 m 45 ls []) := by
              intro K hKK n
              induction n with
              | zero => intro x4_58 x3_58 x1_58 x2_58 r C1 H locs ls hE; rw [m_array_45'''] at hE; exact absurd hE (by simp)
              | succ n ih =>
                intro x4_58 x3_58 x1_58 x2_58 r C1 H locs ls hE hR hfr hw hl
                rw [m_array_45'''] at hE
                refine lv_iload_n hx hb d_M_array_45 rfl (lv_at hl 3 rfl) ?_
                refine lv_if_eq (tgt := 76) hx hb d_M_array_46 (by decide) (fun c_59 => ?_) (fun c_59 => ?_)
                · rw [if_pos c_59] at hE
                  exact hKK _ _ _ _ _ _ _ _ _ hE hR hfr hw (lv_sub hl [0, 1, 2, 3, 4] rfl)
                · rw [if_neg c_59] at hE
                  refine lv_iload hx hb d_M_array_49 (lv_at hl 0 rfl) ?_
                  refine lv_iload_n hx hb d_M_array_51 rfl (lv_at hl 4 rfl) ?_
                  refine lv_icmp_ge (tgt := 76) hx hb d_M_array_52 (by decide) (fun c_60 => ?_) (fun c_60 => ?_)
                  · rw [if_pos c_60] at hE
                    exact hKK _ _ _ _ _ _ _ _ _ hE hR hfr hw (lv_sub hl [0, 1, 2, 3, 4] rfl)
                  · rw [if_neg c_60] at hE
                    refine lv_aload_n hx hb d_M_array_55 rfl (lv_at hl 2 rfl) ?_
                    have hc_61 : C1 30 0 = some (.inr (4, [.ref (ad 31 0), .ref (ad 31 1), .ref (ad 31 2), .ref (ad 31 3), .ref (ad 31 4), .ref (ad 31 5), .ref (ad 31 6), .ref (ad 31 7), .ref (ad 31 8), .ref (ad 31 9), .ref (ad 31 10), .ref (ad 31 11), .ref (ad 31 12), .ref (ad 31 13), .ref (ad 31 14), .int r.objects, .ref (ad 31 15), .int r.length, .ref (ad 31 16), .int r.waits, .ref (ad 31 17), .int r.given, .ref (ad 31 18), .ref (ad 31 19), .ref (ad 31 20), .int r.left, .ref (ad 31 21), .ref (ad 31 22), .int r.oldLength, .int r.oldWaits, .int r.oldGiven])) := by have h9 := rm_at.o hR; exact h9
                    refine pw_get (Cn := "GraphWriterModel") (T := F_M) (N := 31) hx hb hts in_M hown hK hw 30 0 rfl hc_61 rfl 12 (by decide) (hts _ wd_766) (fun _ h9 => h9) rfl d_M_array_56 ?_
                    refine lv_bipush (v := 24) hx hb d_M_array_59 (by decide) ?_
                    refine lv_iload_n hx hb d_M_array_61 rfl (lv_at hl 1 rfl) ?_
                    refine lv_imul hx hb d_M_array_62 ?_
                    refine lv_iload hx hb d_M_array_63 (lv_at hl 0 rfl) ?_
                    refine lv_iadd hx hb d_M_array_65 ?_
                    refine lv_ldc2 (v := (-1)) hx hb hown (hts _ wd_889) d_M_array_66 ?_
                    have hc_62 : C1 31 12 = some (.inl (ca 1, 480, .inr (.inl r.value))) := by have h9 := rm_at.a12 hR; exact h9
                    obtain ⟨w_63, hw_63, hE⟩ := ob_some hE
                    obtain ⟨hi_w_63, hj_w_63, he_w_63⟩ := wrl_some (by decide) hw_63
                    refine pw_last hx hb hK hw 31 12 rfl 1 hc_62 rfl (by decide) ((24 * x3_58) + x4_58 : Int32).toNatClampNeg hi_w_63 (by omega) (by omega) d_M_array_69 (fun H locs hw => ?_)
                    rw [← he_w_63] at hw
                    have hw : pw_H D cls9 A s.heap ad C ad (pw_up C1 31 12 (some (.inl (ca 1, 480, .inr (.inl w_63))))) H _ := hw
                    generalize hC_64 : pw_up C1 31 12 (some (.inl (ca 1, 480, .inr (.inl w_63)))) = C_64 at hw
                    have hR : rm_at ca ad C_64 (RS.s_value r w_63) := by rw [← hC_64]; exact rm_at.s12 hR _
                    have hfr : rm_fr C C_64 := fun x y h9 => by rw [← hC_64]; exact (pw_up_ne _ _ (by omega)).trans (hfr x y h9)
                    refine lv_iinc (v := x4_58 + 1) (lv' := [(4, .int (x4_58 + 1)), (3, .int x3_58), (0, .ref (ad 30 0)), (1, .int x1_58), (2, .int x2_58)]) hx hb d_M_array_70 hl (k := 0) rfl rfl (by decide) rfl (fun ls hl => ?_)
                    refine lv_goto (tgt := 45) hx hb d_M_array_73 (by decide) ?_
                    exact ih _ _ _ _ _ _ _ _ _ hE hR hfr hw (lv_sub hl [0, 1, 2, 3, 4] rfl)
            refine lp_58 _ (fun z4_58 z3_58 z1_58 z2_58 r_65 C_66 H locs ls hE hR hfr hw hl => ?_) 60 _ _ _ _ _ _ _ _ _ hE hR hfr hw hl
            try dsimp only at hE
            refine lv_iload_n hx hb d_M_array_76 rfl (lv_at hl 1 rfl) ?_
            obtain rfl := Option.some.inj hE
            exact pw_iret hx hb hr hlocks hw ⟨⟨rfl, hR, hfr⟩, rfl⟩ d_M_array_77
          · rw [if_neg c_57] at hE
            refine lv_bipush (v := (-2)) hx hb d_M_array_39 (by decide) ?_
            obtain rfl := Option.some.inj hE
            exact pw_iret hx hb hr hlocks hw ⟨⟨rfl, hR, hfr⟩, rfl⟩ d_M_array_41
      · rw [if_neg c_35] at hE
        refine lv_iconst (v := (-1)) hx hb d_M_array_18 (by decide) ?_
        obtain rfl := Option.some.inj hE
        exact pw_iret hx hb hr hlocks hw ⟨⟨rfl, hR, hfr⟩, rfl⟩ d_M_array_19
def m_constant (l1 : Int32) (l2 : Int32) (r : RS) : Option (Int32 × RS) := Option.bind (m_noClass l1 r) (fun y_1 => if (y_1.1 : Int32) = 0 then (Option.bind (rd y_1.2.kind 6 l1) (fun v_9 => if (v_9 : Int32) = 3 then (Option.bind (m_out l2 26 y_1.2) (fun y_11 => if (y_11.1 : Int32) = 0 then (Option.bind (m_begin 4 0 y_11.2) (fun y_16 => if (0 : Int32) ≤ y_16.1 then (Option.bind (wr y_16.2.classOf 20 y_16.1 l1) (fun w_24 => Option.bind (wr y_16.2.nameOf 20 y_16.1 l2) (fun w_28 => some (y_16.1, (RS.s_nameOf (RS.s_classOf y_16.2 w_24) w_28))))) else (some ((-2), y_16.2)))) else (some ((-1), y_11.2)))) else (some ((-1), y_1.2)))) else (some ((-1), y_1.2)))
set_option maxHeartbeats 4000000 in
set_option maxRecDepth 100000 in
theorem k_M_constant {l : Launch} {D : va_G} {ca : Nat → ClassId} {kS : Nat → Nat} {kT : Nat} {ad : pw_A} {C : pw_C} {r : RS} (hR : rm_at ca ad C r) {l1 : Int32} {l2 : Int32} {res : (Int32 × RS)} (hE : m_constant l1 l2 r = some res) : gc_Con l y_M_constant c_M_constant ({ frames := 2, cells := 0, slots := 0, locals := 43 }) D ca (z9_Z kS kT) [.ref (ad 30 0), .int l1, .int l2] ad C (pw_pi (fun v ad' C' => (ad' = ad ∧ rm_at ca ad C' res.2 ∧ rm_fr C C') ∧ v = res.1)) 0 0 := by
  have hZ := z9_ok kS kT
  refine pw_ofW (cc := b_M_constant) (maxL := 4) (ret := (some FieldType.int)) (by decide) rfl (Nat.le_of_ble_eq_true rfl) ?_
  intro p e s m args below meth c A ls hB hA hw hK hz hl
  obtain ⟨hx, hb, hr, hml, hts0, hlocks, hown, hnm⟩ := hB
  have hts := wd_hts hts0
  have hown : s.vm.findClass "GraphWriterModel" = some m.cls := hown
  have hl : lv_has ls 4 [(0, .ref (ad 30 0)), (1, .int l1), (2, .int l2)] := hl
  have hfr : rm_fr C C := fun _ _ _ => rfl
  unfold m_constant at hE
  refine lv_aload_n hx hb d_M_constant_0 rfl (lv_at hl 0 rfl) ?_
  refine lv_iload_n hx hb d_M_constant_1 rfl (lv_at hl 1 rfl) ?_
  obtain ⟨y_1, hy_1, hE⟩ := ob_some hE
  have hc_2 : C 30 0 = some (.inr (4, [.ref (ad 31 0), .ref (ad 31 1), .ref (ad 31 2), .ref (ad 31 3), .ref (ad 31 4), .ref (ad 31 5), .ref (ad 31 6), .ref (ad 31 7), .ref (ad 31 8), .ref (ad 31 9), .ref (ad 31 10), .ref (ad 31 11), .ref (ad 31 12), .ref (ad 31 13), .ref (ad 31 14), .int r.objects, .ref (ad 31 15), .int r.length, .ref (ad 31 16), .int r.waits, .ref (ad 31 17), .int r.given, .ref (ad 31 18), .ref (ad 31 19), .ref (ad 31 20), .int r.left, .ref (ad 31 21), .ref (ad 31 22), .int r.oldLength, .int r.oldWaits, .int r.oldGiven])) := by have h9 := rm_at.o hR; exact h9
  refine pw_calli (va_runV (As := [.int l1]) (rest := []) ⟨hx, hb, hml, hown, hts0⟩ (k_M_noClass hR hy_1 _) (cwV 1 hts0 (wd_V wd_860 wd_857 wd_859 wd_23 wd_56) rfl rfl rfl (by decide +kernel) ⟨Nat.le_of_ble_eq_true rfl, Nat.le_of_ble_eq_true rfl⟩) (pw_preV hZ hw hA hK hz rfl hc_2 rfl) rfl rfl hl.1 rfl (lv_room (Nat.le_of_ble_eq_true rfl)) d_M_constant_2 ⟨Nat.le_of_ble_eq_true rfl, Nat.le_of_ble_eq_true rfl⟩) hw hA (fun r_5 ad_3 C_4 H locs hp hw => ?_)
  obtain ⟨⟨hae, hR, hf1⟩, hre⟩ := hp
  rw [hre]
  rw [hae] at hw
  clear hae
  have hfr : rm_fr C C_4 := fun x y h9 => (hf1 x y h9).trans (hfr x y h9)
  clear hf1
  refine lv_if_ne (tgt := 28) hx hb d_M_constant_5 (by decide) (fun c_6 => ?_) (fun c_6 => ?_)
  · rw [if_neg c_6] at hE
    refine lv_iconst (v := (-1)) hx hb d_M_constant_28 (by decide) ?_
    obtain rfl := Option.some.inj hE
    exact pw_iret hx hb hr hlocks hw ⟨⟨rfl, hR, hfr⟩, rfl⟩ d_M_constant_29
  · rw [if_pos c_6] at hE
    refine lv_aload_n hx hb d_M_constant_8 rfl (lv_at hl 0 rfl) ?_
    have hc_7 : C_4 30 0 = some (.inr (4, [.ref (ad 31 0), .ref (ad 31 1), .ref (ad 31 2), .ref (ad 31 3), .ref (ad 31 4), .ref (ad 31 5), .ref (ad 31 6), .ref (ad 31 7), .ref (ad 31 8), .ref (ad 31 9), .ref (ad 31 10), .ref (ad 31 11), .ref (ad 31 12), .ref (ad 31 13), .ref (ad 31 14), .int y_1.2.objects, .ref (ad 31 15), .int y_1.2.length, .ref (ad 31 16), .int y_1.2.waits, .ref (ad 31 17), .int y_1.2.given, .ref (ad 31 18), .ref (ad 31 19), .ref (ad 31 20), .int y_1.2.left, .ref (ad 31 21), .ref (ad 31 22), .int y_1.2.oldLength, .int y_1.2.oldWaits, .int y_1.2.oldGiven])) := by have h9 := rm_at.o hR; exact h9
    refine pw_get (Cn := "GraphWriterModel") (T := F_M) (N := 31) hx hb hts in_M hown hK hw 30 0 rfl hc_7 rfl 1 (by decide) (hts _ wd_755) (fun _ h9 => h9) rfl d_M_constant_9 ?_
    refine lv_iload_n hx hb d_M_constant_12 rfl (lv_at hl 1 rfl) ?_
    have hc_8 : C_4 31 1 = some (.inl (ca 0, 6, .inl y_1.2.kind)) := by have h9 := rm_at.a1 hR; exact h9
    obtain ⟨v_9, hv_9, hE⟩ := ob_some hE
    obtain ⟨hi_v_9, hj_v_9, he_v_9⟩ := rd_some (by decide) hv_9
    refine pw_iald hx hb hK hw 31 1 rfl 0 hc_8 rfl (l1 : Int32).toNatClampNeg hi_v_9 (by omega) (by omega) d_M_constant_13 ?_
    rw [← he_v_9]
    refine lv_iconst (v := 3) hx hb d_M_constant_14 (by decide) ?_
    refine lv_icmp_ne (tgt := 28) hx hb d_M_constant_15 (by decide) (fun c_10 => ?_) (fun c_10 => ?_)
    · rw [if_neg c_10] at hE
      refine lv_iconst (v := (-1)) hx hb d_M_constant_28 (by decide) ?_
      obtain rfl := Option.some.inj hE
      exact pw_iret hx hb hr hlocks hw ⟨⟨rfl, hR, hfr⟩, rfl⟩ d_M_constant_29
    · rw [if_pos c_10] at hE
      refine lv_aload_n hx hb d_M_constant_18 rfl (lv_at hl 0 rfl) ?_
      refine lv_iload_n hx hb d_M_constant_19 rfl (lv_at hl 2 rfl) ?_
      refine lv_bipush (v := 26) hx hb d_M_constant_20 (by decide) ?_
      obtain ⟨y_11, hy_11, hE⟩ := ob_some hE
      refine pw_calli (va_runV (As := [.int l2, .int 26]) (rest := []) ⟨hx, hb, hml, hown, hts0⟩ (k_M_out hR hy_11 _) (cwV 2 hts0 (wd_V wd_856 wd_853 wd_855 wd_22 wd_56) rfl rfl rfl (by decide +kernel) ⟨Nat.le_of_ble_eq_true rfl, Nat.le_of_ble_eq_true rfl⟩) (pw_preV hZ hw hA hK hz rfl hc_7 rfl) rfl rfl hl.1 rfl (lv_room (Nat.le_of_ble_eq_true rfl)) d_M_constant_22 ⟨Nat.le_of_ble_eq_true rfl, Nat.le_of_ble_eq_true rfl⟩) hw hA (fun r_14 ad_12 C_13 H locs hp hw => ?_)
      obtain ⟨⟨hae, hR, hf1⟩, hre⟩ := hp
      rw [hre]
      rw [hae] at hw
      clear hae
      have hfr : rm_fr C C_13 := fun x y h9 => (hf1 x y h9).trans (hfr x y h9)
      clear hf1
      refine lv_if_eq (tgt := 30) hx hb d_M_constant_25 (by decide) (fun c_15 => ?_) (fun c_15 => ?_)
      · rw [if_pos c_15] at hE
        refine lv_aload_n hx hb d_M_constant_30 rfl (lv_at hl 0 rfl) ?_
        refine lv_iconst (v := 4) hx hb d_M_constant_31 (by decide) ?_
        refine lv_iconst (v := 0) hx hb d_M_constant_32 (by decide) ?_
        obtain ⟨y_16, hy_16, hE⟩ := ob_some hE
        have hc_17 : C_13 30 0 = some (.inr (4, [.ref (ad 31 0), .ref (ad 31 1), .ref (ad 31 2), .ref (ad 31 3), .ref (ad 31 4), .ref (ad 31 5), .ref (ad 31 6), .ref (ad 31 7), .ref (ad 31 8), .ref (ad 31 9), .ref (ad 31 10), .ref (ad 31 11), .ref (ad 31 12), .ref (ad 31 13), .ref (ad 31 14), .int y_11.2.objects, .ref (ad 31 15), .int y_11.2.length, .ref (ad 31 16), .int y_11.2.waits, .ref (ad 31 17), .int y_11.2.given, .ref (ad 31 18), .ref (ad 31 19), .ref (ad 31 20), .int y_11.2.left, .ref (ad 31 21), .ref (ad 31 22), .int y_11.2.oldLength, .int y_11.2.oldWaits, .int y_11.2.oldGiven])) := by have h9 := rm_at.o hR; exact h9
        refine pw_calli (va_runV (As := [.int 4, .int 0]) (rest := []) ⟨hx, hb, hml, hown, hts0⟩ (k_M_begin hR hy_16 _) (cwV 2 hts0 (wd_V wd_880 wd_877 wd_879 wd_26 wd_56) rfl rfl rfl (by decide +kernel) ⟨Nat.le_of_ble_eq_true rfl, Nat.le_of_ble_eq_true rfl⟩) (pw_preV hZ hw hA hK hz rfl hc_17 rfl) rfl rfl hl.1 rfl (lv_room (Nat.le_of_ble_eq_true rfl)) d_M_constant_33 ⟨Nat.le_of_ble_eq_true rfl, Nat.le_of_ble_eq_true rfl⟩) hw hA (fun r_20 ad_18 C_19 H locs hp hw => ?_)
        obtain ⟨⟨hae, hR, hf1⟩, hre⟩ := hp
        rw [hre]
        rw [hae] at hw
        clear hae
        have hfr : rm_fr C C_19 := fun x y h9 => (hf1 x y h9).trans (hfr x y h9)
        clear hf1
        refine lv_istore_n (lv' := [(3, .int y_16.1), (0, .ref (ad 30 0)), (1, .int l1), (2, .int l2)]) hx hb d_M_constant_36 rfl hl (by decide) rfl (fun ls hl => ?_)
        refine lv_iload_n hx hb d_M_constant_37 rfl (lv_at hl 0 rfl) ?_
        refine lv_if_ge (tgt := 44) hx hb d_M_constant_38 (by decide) (fun c_21 => ?_) (fun c_21 => ?_)
        · rw [if_pos c_21] at hE
          refine lv_aload_n hx hb d_M_constant_44 rfl (lv_at hl 1 rfl) ?_
          have hc_22 : C_19 30 0 = some (.inr (4, [.ref (ad 31 0), .ref (ad 31 1), .ref (ad 31 2), .ref (ad 31 3), .ref (ad 31 4), .ref (ad 31 5), .ref (ad 31 6), .ref (ad 31 7), .ref (ad 31 8), .ref (ad 31 9), .ref (ad 31 10), .ref (ad 31 11), .ref (ad 31 12), .ref (ad 31 13), .ref (ad 31 14), .int y_16.2.objects, .ref (ad 31 15), .int y_16.2.length, .ref (ad 31 16), .int y_16.2.waits, .ref (ad 31 17), .int y_16.2.given, .ref (ad 31 18), .ref (ad 31 19), .ref (ad 31 20), .int y_16.2.left, .ref (ad 31 21), .ref (ad 31 22), .int y_16.2.oldLength, .int y_16.2.oldWaits, .int y_16.2.oldGiven])) := by have h9 := rm_at.o hR; exact h9
          refine pw_get (Cn := "GraphWriterModel") (T := F_M) (N := 31) hx hb hts in_M hown hK hw 30 0 rfl hc_22 rfl 9 (by decide) (hts _ wd_763) (fun _ h9 => h9) rfl d_M_constant_45 ?_
          refine lv_iload_n hx hb d_M_constant_48 rfl (lv_at hl 0 rfl) ?_
          refine lv_iload_n hx hb d_M_constant_49 rfl (lv_at hl 2 rfl) ?_
          have hc_23 : C_19 31 9 = some (.inl (ca 0, 20, .inl y_16.2.classOf)) := by have h9 := rm_at.a9 hR; exact h9
          obtain ⟨w_24, hw_24, hE⟩ := ob_some hE
          obtain ⟨hi_w_24, hj_w_24, he_w_24⟩ := wr_some (by decide) hw_24
          refine pw_iast hx hb hK hw 31 9 rfl 0 hc_23 rfl (by decide) (y_16.1 : Int32).toNatClampNeg hi_w_24 (by omega) (by omega) d_M_constant_50 (fun H locs hw => ?_)
          rw [← he_w_24] at hw
          have hw : pw_H D cls9 A s.heap ad C ad (pw_up C_19 31 9 (some (.inl (ca 0, 20, .inl w_24)))) H _ := hw
          generalize hC_25 : pw_up C_19 31 9 (some (.inl (ca 0, 20, .inl w_24))) = C_25 at hw
          have hR : rm_at ca ad C_25 (RS.s_classOf y_16.2 w_24) := by rw [← hC_25]; exact rm_at.s9 hR _
          have hfr : rm_fr C C_25 := fun x y h9 => by rw [← hC_25]; exact (pw_up_ne _ _ (by omega)).trans (hfr x y h9)
          refine lv_aload_n hx hb d_M_constant_51 rfl (lv_at hl 1 rfl) ?_
          have hc_26 : C_25 30 0 = some (.inr (4, [.ref (ad 31 0), .ref (ad 31 1), .ref (ad 31 2), .ref (ad 31 3), .ref (ad 31 4), .ref (ad 31 5), .ref (ad 31 6), .ref (ad 31 7), .ref (ad 31 8), .ref (ad 31 9), .ref (ad 31 10), .ref (ad 31 11), .ref (ad 31 12), .ref (ad 31 13), .ref (ad 31 14), .int y_16.2.objects, .ref (ad 31 15), .int y_16.2.length, .ref (ad 31 16), .int y_16.2.waits, .ref (ad 31 17), .int y_16.2.given, .ref (ad 31 18), .ref (ad 31 19), .ref (ad 31 20), .int y_16.2.left, .ref (ad 31 21), .ref (ad 31 22), .int y_16.2.oldLength, .int y_16.2.oldWaits, .int y_16.2.oldGiven])) := by have h9 := rm_at.o hR; exact h9
          refine pw_get (Cn := "GraphWriterModel") (T := F_M) (N := 31) hx hb hts in_M hown hK hw 30 0 rfl hc_26 rfl 10 (by decide) (hts _ wd_764) (fun _ h9 => h9) rfl d_M_constant_52 ?_
          refine lv_iload_n hx hb d_M_constant_55 rfl (lv_at hl 0 rfl) ?_
          refine lv_iload_n hx hb d_M_constant_56 rfl (lv_at hl 3 rfl) ?_
          have hc_27 : C_25 31 10 = some (.inl (ca 0, 20, .inl y_16.2.nameOf)) := by have h9 := rm_at.a10 hR; exact h9
          obtain ⟨w_28, hw_28, hE⟩ := ob_some hE
          obtain ⟨hi_w_28, hj_w_28, he_w_28⟩ := wr_some (by decide) hw_28
          refine pw_iast hx hb hK hw 31 10 rfl 0 hc_27 rfl (by decide) (y_16.1 : Int32).toNatClampNeg hi_w_28 (by omega) (by omega) d_M_constant_57 (fun H locs hw => ?_)
          rw [← he_w_28] at hw
          have hw : pw_H D cls9 A s.heap ad C ad (pw_up C_25 31 10 (some (.inl (ca 0, 20, .inl w_28)))) H _ := hw
          generalize hC_29 : pw_up C_25 31 10 (some (.inl (ca 0, 20, .inl w_28))) = C_29 at hw
          have hR : rm_at ca ad C_29 (RS.s_nameOf (RS.s_classOf y_16.2 w_24) w_28) := by rw [← hC_29]; exact rm_at.s10 hR _
          have hfr : rm_fr C C_29 := fun x y h9 => by rw [← hC_29]; exact (pw_up_ne _ _ (by omega)).trans (hfr x y h9)
          refine lv_iload_n hx hb d_M_constant_58 rfl (lv_at hl 0 rfl) ?_
          obtain rfl := Option.some.inj hE
          exact pw_iret hx hb hr hlocks hw ⟨⟨rfl, hR, hfr⟩, rfl⟩ d_M_constant_59
        · rw [if_neg c_21] at hE
          refine lv_bipush (v := (-2)) hx hb d_M_constant_41 (by decide) ?_
          obtain rfl := Option.some.inj hE
          exact pw_iret hx hb hr hlocks hw ⟨⟨rfl, hR, hfr⟩, rfl⟩ d_M_constant_43
      · rw [if_neg c_15] at hE
        refine lv_iconst (v := (-1)) hx hb d_M_constant_28 (by decide) ?_
        obtain rfl := Option.some.inj hE
        exact pw_iret hx hb hr hlocks hw ⟨⟨rfl, hR, hfr⟩, rfl⟩ d_M_constant_29
def m_set (l1 : Int32) (l2 : Int32) (l3 : Int64) (r : RS) : Option (Int32 × RS) := Option.bind (m_out l1 r.objects r) (fun y_2 => if (y_2.1 : Int32) = 0 then (Option.bind (rd y_2.2.sort 20 l1) (fun v_9 => if (v_9 : Int32) = 1 then (some ((-1), y_2.2)) else (Option.bind (rd y_2.2.size 20 l1) (fun v_12 => Option.bind (m_out l2 v_12 y_2.2) (fun y_13 => if (y_13.1 : Int32) = 0 then (Option.bind (rd y_13.2.sort 20 l1) (fun v_20 => if (v_20 : Int32) = 2 then (Option.bind (wrl y_13.2.value 480 ((24 * l1) + l2) l3) (fun w_59 => some (0, (RS.s_value y_13.2 w_59)))) else (Option.bind (rd y_13.2.sort 20 l1) (fun v_22 => if (v_22 : Int32) = 3 then (if (lg_cmp l3 (-1) : Int32) < 0 then (some ((-1), y_13.2)) else (if (lg_cmp l3 y_13.2.objects.toInt64 : Int32) < 0 then (Option.bind (wrl y_13.2.value 480 ((24 * l1) + l2) l3) (fun w_55 => some (0, (RS.s_value y_13.2 w_55)))) else (some ((-1), y_13.2)))) else (Option.bind (m_slotType l1 l2 y_13.2) (fun y_24 => if (y_24.1 : Int32) ≤ 5 then (Option.bind (wrl y_24.2.value 480 ((24 * l1) + l2) l3) (fun w_31 => some (0, (RS.s_value y_24.2 w_31)))) else (if (lg_cmp l3 (-1) : Int32) < 0 then (some ((-1), y_24.2)) else (if (lg_cmp l3 y_24.2.objects.toInt64 : Int32) < 0 then (if (y_24.1 : Int32) = 6 then (if (lg_cmp l3 0 : Int32) < 0 then (Option.bind (wrl y_24.2.value 480 ((24 * l1) + l2) l3) (fun w_42 => some (0, (RS.s_value y_24.2 w_42)))) else (Option.bind (rd y_24.2.sort 20 l3.toInt32) (fun v_45 => if (v_45 : Int32) = 2 then (Option.bind (wrl y_24.2.value 480 ((24 * l1) + l2) l3) (fun w_48 => some (0, (RS.s_value y_24.2 w_48)))) else (some ((-1), y_24.2))))) else (Option.bind (wrl y_24.2.value 480 ((24 * l1) + l2) l3) (fun w_38 => some (0, (RS.s_value y_24.2 w_38))))) else (some ((-1), y_24.2)))))))))) else (some ((-1), y_13.2))))))) else (some ((-1), y_2.2)))
set_option maxHeartbeats 4000000 in
set_option maxRecDepth 100000 in
theorem k_M_set {l : Launch} {D : va_G} {ca : Nat → ClassId} {kS : Nat → Nat} {kT : Nat} {ad : pw_A} {C : pw_C} {r : RS} (hR : rm_at ca ad C r) {l1 : Int32} {l2 : Int32} {l3 : Int64} {res : (Int32 × RS)} (hE : m_set l1 l2 l3 r = some res) : gc_Con l y_M_set c_M_set ({ frames := 3, cells := 0, slots := 0, locals := 71 }) D ca (z9_Z kS kT) [.ref (ad 30 0), .int l1, .int l2, .long l3] ad C (pw_pi (fun v ad' C' => (ad' = ad ∧ rm_at ca ad C' res.2 ∧ rm_fr C C') ∧ v = res.1)) 0 0 := by
  have hZ := z9_ok kS kT
  refine pw_ofW (cc := b_M_set) (maxL := 6) (ret := (some FieldType.int)) (by decide) rfl (Nat.le_of_ble_eq_true rfl) ?_
  intro p e s m args below meth c A ls hB hA hw hK hz hl
  obtain ⟨hx, hb, hr, hml, hts0, hlocks, hown, hnm⟩ := hB
  have hts := wd_hts hts0
  have hown : s.vm.findClass "GraphWriterModel" = some m.cls := hown
  have hl : lv_has ls 6 [(0, .ref (ad 30 0)), (1, .int l1), (2, .int l2), (3, .long l3)] := hl
  have hfr : rm_fr C C := fun _ _ _ => rfl
  unfold m_set at hE
  refine lv_aload_n hx hb d_M_set_0 rfl (lv_at hl 0 rfl) ?_
  refine lv_iload_n hx hb d_M_set_1 rfl (lv_at hl 1 rfl) ?_
  refine lv_aload_n hx hb d_M_set_2 rfl (lv_at hl 0 rfl) ?_
  have hc_1 : C 30 0 = some (.inr (4, [.ref (ad 31 0), .ref (ad 31 1), .ref (ad 31 2), .ref (ad 31 3), .ref (ad 31 4), .ref (ad 31 5), .ref (ad 31 6), .ref (ad 31 7), .ref (ad 31 8), .ref (ad 31 9), .ref (ad 31 10), .ref (ad 31 11), .ref (ad 31 12), .ref (ad 31 13), .ref (ad 31 14), .int r.objects, .ref (ad 31 15), .int r.length, .ref (ad 31 16), .int r.waits, .ref (ad 31 17), .int r.given, .ref (ad 31 18), .ref (ad 31 19), .ref (ad 31 20), .int r.left, .ref (ad 31 21), .ref (ad 31 22), .int r.oldLength, .int r.oldWaits, .int r.oldGiven])) := by have h9 := rm_at.o hR; exact h9
  refine pw_get (Cn := "GraphWriterModel") (T := F_M) (N := 31) hx hb hts in_M hown hK hw 30 0 rfl hc_1 rfl 15 (by decide) (hts _ wd_769) (fun _ h9 => h9) rfl d_M_set_3 ?_
  obtain ⟨y_2, hy_2, hE⟩ := ob_some hE
  refine pw_calli (va_runV (As := [.int l1, .int r.objects]) (rest := []) ⟨hx, hb, hml, hown, hts0⟩ (k_M_out hR hy_2 _) (cwV 2 hts0 (wd_V wd_856 wd_853 wd_855 wd_22 wd_56) rfl rfl rfl (by decide +kernel) ⟨Nat.le_of_ble_eq_true rfl, Nat.le_of_ble_eq_true rfl⟩) (pw_preV hZ hw hA hK hz rfl hc_1 rfl) rfl rfl hl.1 rfl (lv_room (Nat.le_of_ble_eq_true rfl)) d_M_set_6 ⟨Nat.le_of_ble_eq_true rfl, Nat.le_of_ble_eq_true rfl⟩) hw hA (fun r_5 ad_3 C_4 H locs hp hw => ?_)
  obtain ⟨⟨hae, hR, hf1⟩, hre⟩ := hp
  rw [hre]
  rw [hae] at hw
  clear hae
  have hfr : rm_fr C C_4 := fun x y h9 => (hf1 x y h9).trans (hfr x y h9)
  clear hf1
  refine lv_if_ne (tgt := 36) hx hb d_M_set_9 (by decide) (fun c_6 => ?_) (fun c_6 => ?_)
  · rw [if_neg c_6] at hE
    refine lv_iconst (v := (-1)) hx hb d_M_set_36 (by decide) ?_
    obtain rfl := Option.some.inj hE
    exact pw_iret hx hb hr hlocks hw ⟨⟨rfl, hR, hfr⟩, rfl⟩ d_M_set_37
  · rw [if_pos c_6] at hE
    refine lv_aload_n hx hb d_M_set_12 rfl (lv_at hl 0 rfl) ?_
    have hc_7 : C_4 30 0 = some (.inr (4, [.ref (ad 31 0), .ref (ad 31 1), .ref (ad 31 2), .ref (ad 31 3), .ref (ad 31 4), .ref (ad 31 5), .ref (ad 31 6), .ref (ad 31 7), .ref (ad 31 8), .ref (ad 31 9), .ref (ad 31 10), .ref (ad 31 11), .ref (ad 31 12), .ref (ad 31 13), .ref (ad 31 14), .int y_2.2.objects, .ref (ad 31 15), .int y_2.2.length, .ref (ad 31 16), .int y_2.2.waits, .ref (ad 31 17), .int y_2.2.given, .ref (ad 31 18), .ref (ad 31 19), .ref (ad 31 20), .int y_2.2.left, .ref (ad 31 21), .ref (ad 31 22), .int y_2.2.oldLength, .int y_2.2.oldWaits, .int y_2.2.oldGiven])) := by have h9 := rm_at.o hR; exact h9
    refine pw_get (Cn := "GraphWriterModel") (T := F_M) (N := 31) hx hb hts in_M hown hK hw 30 0 rfl hc_7 rfl 8 (by decide) (hts _ wd_762) (fun _ h9 => h9) rfl d_M_set_13 ?_
    refine lv_iload_n hx hb d_M_set_16 rfl (lv_at hl 1 rfl) ?_
    have hc_8 : C_4 31 8 = some (.inl (ca 0, 20, .inl y_2.2.sort)) := by have h9 := rm_at.a8 hR; exact h9
    obtain ⟨v_9, hv_9, hE⟩ := ob_some hE
    obtain ⟨hi_v_9, hj_v_9, he_v_9⟩ := rd_some (by decide) hv_9
    refine pw_iald hx hb hK hw 31 8 rfl 0 hc_8 rfl (l1 : Int32).toNatClampNeg hi_v_9 (by omega) (by omega) d_M_set_17 ?_
    rw [← he_v_9]
    refine lv_iconst (v := 1) hx hb d_M_set_18 (by decide) ?_
    refine lv_icmp_eq (tgt := 36) hx hb d_M_set_19 (by decide) (fun c_10 => ?_) (fun c_10 => ?_)
    · rw [if_pos c_10] at hE
      refine lv_iconst (v := (-1)) hx hb d_M_set_36 (by decide) ?_
      obtain rfl := Option.some.inj hE
      exact pw_iret hx hb hr hlocks hw ⟨⟨rfl, hR, hfr⟩, rfl⟩ d_M_set_37
    · rw [if_neg c_10] at hE
      refine lv_aload_n hx hb d_M_set_22 rfl (lv_at hl 0 rfl) ?_
      refine lv_iload_n hx hb d_M_set_23 rfl (lv_at hl 2 rfl) ?_
      refine lv_aload_n hx hb d_M_set_24 rfl (lv_at hl 0 rfl) ?_
      refine pw_get (Cn := "GraphWriterModel") (T := F_M) (N := 31) hx hb hts in_M hown hK hw 30 0 rfl hc_7 rfl 11 (by decide) (hts _ wd_765) (fun _ h9 => h9) rfl d_M_set_25 ?_
      refine lv_iload_n hx hb d_M_set_28 rfl (lv_at hl 1 rfl) ?_
      have hc_11 : C_4 31 11 = some (.inl (ca 0, 20, .inl y_2.2.size)) := by have h9 := rm_at.a11 hR; exact h9
      obtain ⟨v_12, hv_12, hE⟩ := ob_some hE
      obtain ⟨hi_v_12, hj_v_12, he_v_12⟩ := rd_some (by decide) hv_12
      refine pw_iald hx hb hK hw 31 11 rfl 0 hc_11 rfl (l1 : Int32).toNatClampNeg hi_v_12 (by omega) (by omega) d_M_set_29 ?_
      rw [← he_v_12]
      obtain ⟨y_13, hy_13, hE⟩ := ob_some hE
      refine pw_calli (va_runV (As := [.int l2, .int v_12]) (rest := []) ⟨hx, hb, hml, hown, hts0⟩ (k_M_out hR hy_13 _) (cwV 2 hts0 (wd_V wd_856 wd_853 wd_855 wd_22 wd_56) rfl rfl rfl (by decide +kernel) ⟨Nat.le_of_ble_eq_true rfl, Nat.le_of_ble_eq_true rfl⟩) (pw_preV hZ hw hA hK hz rfl hc_7 rfl) rfl rfl hl.1 rfl (lv_room (Nat.le_of_ble_eq_true rfl)) d_M_set_30 ⟨Nat.le_of_ble_eq_true rfl, Nat.le_of_ble_eq_true rfl⟩) hw hA (fun r_16 ad_14 C_15 H locs hp hw => ?_)
      obtain ⟨⟨hae, hR, hf1⟩, hre⟩ := hp
      rw [hre]
      rw [hae] at hw
      clear hae
      have hfr : rm_fr C C_15 := fun x y h9 => (hf1 x y h9).trans (hfr x y h9)
      clear hf1
      refine lv_if_eq (tgt := 38) hx hb d_M_set_33 (by decide) (fun c_17 => ?_) (fun c_17 => ?_)
      · rw [if_pos c_17] at hE
        refine lv_aload_n hx hb d_M_set_38 rfl (lv_at hl 0 rfl) ?_
        have hc_18 : C_15 30 0 = some (.inr (4, [.ref (ad 31 0), .ref (ad 31 1), .ref (ad 31 2), .ref (ad 31 3), .ref (ad 31 4), .ref (ad 31 5), .ref (ad 31 6), .ref (ad 31 7), .ref (ad 31 8), .ref (ad 31 9), .ref (ad 31 10), .ref (ad 31 11), .ref (ad 31 12), .ref (ad 31 13), .ref (ad 31 14), .int y_13.2.objects, .ref (ad 31 15), .int y_13.2.length, .ref (ad 31 16), .int y_13.2.waits, .ref (ad 31 17), .int y_13.2.given, .ref (ad 31 18), .ref (ad 31 19), .ref (ad 31 20), .int y_13.2.left, .ref (ad 31 21), .ref (ad 31 22), .int y_13.2.oldLength, .int y_13.2.oldWaits, .int y_13.2.oldGiven])) := by have h9 := rm_at.o hR; exact h9
        refine pw_get (Cn := "GraphWriterModel") (T := F_M) (N := 31) hx hb hts in_M hown hK hw 30 0 rfl hc_18 rfl 8 (by decide) (hts _ wd_762) (fun _ h9 => h9) rfl d_M_set_39 ?_
        refine lv_iload_n hx hb d_M_set_42 rfl (lv_at hl 1 rfl) ?_
        have hc_19 : C_15 31 8 = some (.inl (ca 0, 20, .inl y_13.2.sort)) := by have h9 := rm_at.a8 hR; exact h9
        obtain ⟨v_20, hv_20, hE⟩ := ob_some hE
        obtain ⟨hi_v_20, hj_v_20, he_v_20⟩ := rd_some (by decide) hv_20
        refine pw_iald hx hb hK hw 31 8 rfl 0 hc_19 rfl (l1 : Int32).toNatClampNeg hi_v_20 (by omega) (by omega) d_M_set_43 ?_
        rw [← he_v_20]
        refine lv_iconst (v := 2) hx hb d_M_set_44 (by decide) ?_
        refine lv_icmp_ne (tgt := 52) hx hb d_M_set_45 (by decide) (fun c_21 => ?_) (fun c_21 => ?_)
        · rw [if_neg c_21] at hE
          refine lv_aload_n hx hb d_M_set_52 rfl (lv_at hl 0 rfl) ?_
          refine pw_get (Cn := "GraphWriterModel") (T := F_M) (N := 31) hx hb hts in_M hown hK hw 30 0 rfl hc_18 rfl 8 (by decide) (hts _ wd_762) (fun _ h9 => h9) rfl d_M_set_53 ?_
          refine lv_iload_n hx hb d_M_set_56 rfl (lv_at hl 1 rfl) ?_
          obtain ⟨v_22, hv_22, hE⟩ := ob_some hE
          obtain ⟨hi_v_22, hj_v_22, he_v_22⟩ := rd_some (by decide) hv_22
          refine pw_iald hx hb hK hw 31 8 rfl 0 hc_19 rfl (l1 : Int32).toNatClampNeg hi_v_22 (by omega) (by omega) d_M_set_57 ?_
          rw [← he_v_22]
          refine lv_iconst (v := 3) hx hb d_M_set_58 (by decide) ?_
          refine lv_icmp_ne (tgt := 67) hx hb d_M_set_59 (by decide) (fun c_23 => ?_) (fun c_23 => ?_)
          · rw [if_neg c_23] at hE
            refine lv_aload_n hx hb d_M_set_67 rfl (lv_at hl 0 rfl) ?_
            refine lv_iload_n hx hb d_M_set_68 rfl (lv_at hl 1 rfl) ?_
            refine lv_iload_n hx hb d_M_set_69 rfl (lv_at hl 2 rfl) ?_
            obtain ⟨y_24, hy_24, hE⟩ := ob_some hE
            refine pw_calli (va_runV (As := [.int l1, .int l2]) (rest := []) ⟨hx, hb, hml, hown, hts0⟩ (k_M_slotType hR hy_24 _) (cwV 2 hts0 (wd_V wd_884 wd_881 wd_883 wd_27 wd_56) rfl rfl rfl (by decide +kernel) ⟨Nat.le_of_ble_eq_true rfl, Nat.le_of_ble_eq_true rfl⟩) (pw_preV hZ hw hA hK hz rfl hc_18 rfl) rfl rfl hl.1 rfl (lv_room (Nat.le_of_ble_eq_true rfl)) d_M_set_70 ⟨Nat.le_of_ble_eq_true rfl, Nat.le_of_ble_eq_true rfl⟩) hw hA (fun r_27 ad_25 C_26 H locs hp hw => ?_)
            obtain ⟨⟨hae, hR, hf1⟩, hre⟩ := hp
            rw [hre]
            rw [hae] at hw
            clear hae
            have hfr : rm_fr C C_26 := fun x y h9 => (hf1 x y h9).trans (hfr x y h9)
            clear hf1
            refine lv_istore (lv' := [(5, .int y_24.1), (0, .ref (ad 30 0)), (1, .int l1), (2, .int l2), (3, .long l3)]) hx hb d_M_set_73 hl (by decide) rfl (fun ls hl => ?_)
            refine lv_iload hx hb d_M_set_75 (lv_at hl 0 rfl) ?_
            refine lv_iconst (v := 5) hx hb d_M_set_77 (by decide) ?_
            refine lv_icmp_le (tgt := 127) hx hb d_M_set_78 (by decide) (fun c_28 => ?_) (fun c_28 => ?_)
            · rw [if_pos c_28] at hE
              refine lv_aload_n hx hb d_M_set_127 rfl (lv_at hl 1 rfl) ?_
              have hc_29 : C_26 30 0 = some (.inr (4, [.ref (ad 31 0), .ref (ad 31 1), .ref (ad 31 2), .ref (ad 31 3), .ref (ad 31 4), .ref (ad 31 5), .ref (ad 31 6), .ref (ad 31 7), .ref (ad 31 8), .ref (ad 31 9), .ref (ad 31 10), .ref (ad 31 11), .ref (ad 31 12), .ref (ad 31 13), .ref (ad 31 14), .int y_24.2.objects, .ref (ad 31 15), .int y_24.2.length, .ref (ad 31 16), .int y_24.2.waits, .ref (ad 31 17), .int y_24.2.given, .ref (ad 31 18), .ref (ad 31 19), .ref (ad 31 20), .int y_24.2.left, .ref (ad 31 21), .ref (ad 31 22), .int y_24.2.oldLength, .int y_24.2.oldWaits, .int y_24.2.oldGiven])) := by have h9 := rm_at.o hR; exact h9
              refine pw_get (Cn := "GraphWriterModel") (T := F_M) (N := 31) hx hb hts in_M hown hK hw 30 0 rfl hc_29 rfl 12 (by decide) (hts _ wd_766) (fun _ h9 => h9) rfl d_M_set_128 ?_
              refine lv_bipush (v := 24) hx hb d_M_set_131 (by decide) ?_
              refine lv_iload_n hx hb d_M_set_133 rfl (lv_at hl 2 rfl) ?_
              refine lv_imul hx hb d_M_set_134 ?_
              refine lv_iload_n hx hb d_M_set_135 rfl (lv_at hl 3 rfl) ?_
              refine lv_iadd hx hb d_M_set_136 ?_
              refine lv_lload_n hx hb d_M_set_137 rfl (lv_at hl 4 rfl) ?_
              have hc_30 : C_26 31 12 = some (.inl (ca 1, 480, .inr (.inl y_24.2.value))) := by have h9 := rm_at.a12 hR; exact h9
              obtain ⟨w_31, hw_31, hE⟩ := ob_some hE
              obtain ⟨hi_w_31, hj_w_31, he_w_31⟩ := wrl_some (by decide) hw_31
              refine pw_last hx hb hK hw 31 12 rfl 1 hc_30 rfl (by decide) ((24 * l1) + l2 : Int32).toNatClampNeg hi_w_31 (by omega) (by omega) d_M_set_138 (fun H locs hw => ?_)
              rw [← he_w_31] at hw
              have hw : pw_H D cls9 A s.heap ad C ad (pw_up C_26 31 12 (some (.inl (ca 1, 480, .inr (.inl w_31))))) H _ := hw
              generalize hC_32 : pw_up C_26 31 12 (some (.inl (ca 1, 480, .inr (.inl w_31)))) = C_32 at hw
              have hR : rm_at ca ad C_32 (RS.s_value y_24.2 w_31) := by rw [← hC_32]; exact rm_at.s12 hR _
              have hfr : rm_fr C C_32 := fun x y h9 => by rw [← hC_32]; exact (pw_up_ne _ _ (by omega)).trans (hfr x y h9)
              refine lv_iconst (v := 0) hx hb d_M_set_139 (by decide) ?_
              obtain rfl := Option.some.inj hE
              exact pw_iret hx hb hr hlocks hw ⟨⟨rfl, hR, hfr⟩, rfl⟩ d_M_set_140
            · rw [if_neg c_28] at hE
              refine lv_lload_n hx hb d_M_set_81 rfl (lv_at hl 4 rfl) ?_
              refine lv_ldc2 (v := (-1)) hx hb hown (hts _ wd_889) d_M_set_82 ?_
              refine W.lcmp hx hb d_M_set_85 ?_
              refine lv_if_lt (tgt := 99) hx hb d_M_set_86 (by decide) (fun c_33 => ?_) (fun c_33 => ?_)
              · rw [if_pos c_33] at hE
                refine lv_iconst (v := (-1)) hx hb d_M_set_99 (by decide) ?_
                obtain rfl := Option.some.inj hE
                exact pw_iret hx hb hr hlocks hw ⟨⟨rfl, hR, hfr⟩, rfl⟩ d_M_set_100
              · rw [if_neg c_33] at hE
                refine lv_lload_n hx hb d_M_set_89 rfl (lv_at hl 4 rfl) ?_
                refine lv_aload_n hx hb d_M_set_90 rfl (lv_at hl 1 rfl) ?_
                have hc_34 : C_26 30 0 = some (.inr (4, [.ref (ad 31 0), .ref (ad 31 1), .ref (ad 31 2), .ref (ad 31 3), .ref (ad 31 4), .ref (ad 31 5), .ref (ad 31 6), .ref (ad 31 7), .ref (ad 31 8), .ref (ad 31 9), .ref (ad 31 10), .ref (ad 31 11), .ref (ad 31 12), .ref (ad 31 13), .ref (ad 31 14), .int y_24.2.objects, .ref (ad 31 15), .int y_24.2.length, .ref (ad 31 16), .int y_24.2.waits, .ref (ad 31 17), .int y_24.2.given, .ref (ad 31 18), .ref (ad 31 19), .ref (ad 31 20), .int y_24.2.left, .ref (ad 31 21), .ref (ad 31 22), .int y_24.2.oldLength, .int y_24.2.oldWaits, .int y_24.2.oldGiven])) := by have h9 := rm_at.o hR; exact h9
                refine pw_get (Cn := "GraphWriterModel") (T := F_M) (N := 31) hx hb hts in_M hown hK hw 30 0 rfl hc_34 rfl 15 (by decide) (hts _ wd_769) (fun _ h9 => h9) rfl d_M_set_91 ?_
                refine lv_i2l hx hb d_M_set_94 rfl ?_
                refine W.lcmp hx hb d_M_set_95 ?_
                refine lv_if_lt (tgt := 101) hx hb d_M_set_96 (by decide) (fun c_35 => ?_) (fun c_35 => ?_)
                · rw [if_pos c_35] at hE
                  refine lv_iload hx hb d_M_set_101 (lv_at hl 0 rfl) ?_
                  refine lv_bipush (v := 6) hx hb d_M_set_103 (by decide) ?_
                  refine lv_icmp_ne (tgt := 127) hx hb d_M_set_105 (by decide) (fun c_36 => ?_) (fun c_36 => ?_)
                  · rw [if_neg c_36] at hE
                    refine lv_aload_n hx hb d_M_set_127 rfl (lv_at hl 1 rfl) ?_
                    refine pw_get (Cn := "GraphWriterModel") (T := F_M) (N := 31) hx hb hts in_M hown hK hw 30 0 rfl hc_34 rfl 12 (by decide) (hts _ wd_766) (fun _ h9 => h9) rfl d_M_set_128 ?_
                    refine lv_bipush (v := 24) hx hb d_M_set_131 (by decide) ?_
                    refine lv_iload_n hx hb d_M_set_133 rfl (lv_at hl 2 rfl) ?_
                    refine lv_imul hx hb d_M_set_134 ?_
                    refine lv_iload_n hx hb d_M_set_135 rfl (lv_at hl 3 rfl) ?_
                    refine lv_iadd hx hb d_M_set_136 ?_
                    refine lv_lload_n hx hb d_M_set_137 rfl (lv_at hl 4 rfl) ?_
                    have hc_37 : C_26 31 12 = some (.inl (ca 1, 480, .inr (.inl y_24.2.value))) := by have h9 := rm_at.a12 hR; exact h9
                    obtain ⟨w_38, hw_38, hE⟩ := ob_some hE
                    obtain ⟨hi_w_38, hj_w_38, he_w_38⟩ := wrl_some (by decide) hw_38
                    refine pw_last hx hb hK hw 31 12 rfl 1 hc_37 rfl (by decide) ((24 * l1) + l2 : Int32).toNatClampNeg hi_w_38 (by omega) (by omega) d_M_set_138 (fun H locs hw => ?_)
                    rw [← he_w_38] at hw
                    have hw : pw_H D cls9 A s.heap ad C ad (pw_up C_26 31 12 (some (.inl (ca 1, 480, .inr (.inl w_38))))) H _ := hw
                    generalize hC_39 : pw_up C_26 31 12 (some (.inl (ca 1, 480, .inr (.inl w_38)))) = C_39 at hw
                    have hR : rm_at ca ad C_39 (RS.s_value y_24.2 w_38) := by rw [← hC_39]; exact rm_at.s12 hR _
                    have hfr : rm_fr C C_39 := fun x y h9 => by rw [← hC_39]; exact (pw_up_ne _ _ (by omega)).trans (hfr x y h9)
                    refine lv_iconst (v := 0) hx hb d_M_set_139 (by decide) ?_
                    obtain rfl := Option.some.inj hE
                    exact pw_iret hx hb hr hlocks hw ⟨⟨rfl, hR, hfr⟩, rfl⟩ d_M_set_140
                  · rw [if_pos c_36] at hE
                    refine lv_lload_n hx hb d_M_set_108 rfl (lv_at hl 4 rfl) ?_
                    refine lv_lconst (v := 0) hx hb d_M_set_109 (by decide) ?_
                    refine W.lcmp hx hb d_M_set_110 ?_
                    refine lv_if_lt (tgt := 127) hx hb d_M_set_111 (by decide) (fun c_40 => ?_) (fun c_40 => ?_)
                    · rw [if_pos c_40] at hE
                      refine lv_aload_n hx hb d_M_set_127 rfl (lv_at hl 1 rfl) ?_
                      refine pw_get (Cn := "GraphWriterModel") (T := F_M) (N := 31) hx hb hts in_M hown hK hw 30 0 rfl hc_34 rfl 12 (by decide) (hts _ wd_766) (fun _ h9 => h9) rfl d_M_set_128 ?_
                      refine lv_bipush (v := 24) hx hb d_M_set_131 (by decide) ?_
                      refine lv_iload_n hx hb d_M_set_133 rfl (lv_at hl 2 rfl) ?_
                      refine lv_imul hx hb d_M_set_134 ?_
                      refine lv_iload_n hx hb d_M_set_135 rfl (lv_at hl 3 rfl) ?_
                      refine lv_iadd hx hb d_M_set_136 ?_
                      refine lv_lload_n hx hb d_M_set_137 rfl (lv_at hl 4 rfl) ?_
                      have hc_41 : C_26 31 12 = some (.inl (ca 1, 480, .inr (.inl y_24.2.value))) := by have h9 := rm_at.a12 hR; exact h9
                      obtain ⟨w_42, hw_42, hE⟩ := ob_some hE
                      obtain ⟨hi_w_42, hj_w_42, he_w_42⟩ := wrl_some (by decide) hw_42
                      refine pw_last hx hb hK hw 31 12 rfl 1 hc_41 rfl (by decide) ((24 * l1) + l2 : Int32).toNatClampNeg hi_w_42 (by omega) (by omega) d_M_set_138 (fun H locs hw => ?_)
                      rw [← he_w_42] at hw
                      have hw : pw_H D cls9 A s.heap ad C ad (pw_up C_26 31 12 (some (.inl (ca 1, 480, .inr (.inl w_42))))) H _ := hw
                      generalize hC_43 : pw_up C_26 31 12 (some (.inl (ca 1, 480, .inr (.inl w_42)))) = C_43 at hw
                      have hR : rm_at ca ad C_43 (RS.s_value y_24.2 w_42) := by rw [← hC_43]; exact rm_at.s12 hR _
                      have hfr : rm_fr C C_43 := fun x y h9 => by rw [← hC_43]; exact (pw_up_ne _ _ (by omega)).trans (hfr x y h9)
                      refine lv_iconst (v := 0) hx hb d_M_set_139 (by decide) ?_
                      obtain rfl := Option.some.inj hE
                      exact pw_iret hx hb hr hlocks hw ⟨⟨rfl, hR, hfr⟩, rfl⟩ d_M_set_140
                    · rw [if_neg c_40] at hE
                      refine lv_aload_n hx hb d_M_set_114 rfl (lv_at hl 1 rfl) ?_
                      refine pw_get (Cn := "GraphWriterModel") (T := F_M) (N := 31) hx hb hts in_M hown hK hw 30 0 rfl hc_34 rfl 8 (by decide) (hts _ wd_762) (fun _ h9 => h9) rfl d_M_set_115 ?_
                      refine lv_lload_n hx hb d_M_set_118 rfl (lv_at hl 4 rfl) ?_
                      refine lv_l2i hx hb d_M_set_119 rfl ?_
                      have hc_44 : C_26 31 8 = some (.inl (ca 0, 20, .inl y_24.2.sort)) := by have h9 := rm_at.a8 hR; exact h9
                      obtain ⟨v_45, hv_45, hE⟩ := ob_some hE
                      obtain ⟨hi_v_45, hj_v_45, he_v_45⟩ := rd_some (by decide) hv_45
                      refine pw_iald hx hb hK hw 31 8 rfl 0 hc_44 rfl (l3.toInt32 : Int32).toNatClampNeg hi_v_45 (by omega) (by omega) d_M_set_120 ?_
                      rw [← he_v_45]
                      refine lv_iconst (v := 2) hx hb d_M_set_121 (by decide) ?_
                      refine lv_icmp_eq (tgt := 127) hx hb d_M_set_122 (by decide) (fun c_46 => ?_) (fun c_46 => ?_)
                      · rw [if_pos c_46] at hE
                        refine lv_aload_n hx hb d_M_set_127 rfl (lv_at hl 1 rfl) ?_
                        refine pw_get (Cn := "GraphWriterModel") (T := F_M) (N := 31) hx hb hts in_M hown hK hw 30 0 rfl hc_34 rfl 12 (by decide) (hts _ wd_766) (fun _ h9 => h9) rfl d_M_set_128 ?_
                        refine lv_bipush (v := 24) hx hb d_M_set_131 (by decide) ?_
                        refine lv_iload_n hx hb d_M_set_133 rfl (lv_at hl 2 rfl) ?_
                        refine lv_imul hx hb d_M_set_134 ?_
                        refine lv_iload_n hx hb d_M_set_135 rfl (lv_at hl 3 rfl) ?_
                        refine lv_iadd hx hb d_M_set_136 ?_
                        refine lv_lload_n hx hb d_M_set_137 rfl (lv_at hl 4 rfl) ?_
                        have hc_47 : C_26 31 12 = some (.inl (ca 1, 480, .inr (.inl y_24.2.value))) := by have h9 := rm_at.a12 hR; exact h9
                        obtain ⟨w_48, hw_48, hE⟩ := ob_some hE
                        obtain ⟨hi_w_48, hj_w_48, he_w_48⟩ := wrl_some (by decide) hw_48
                        refine pw_last hx hb hK hw 31 12 rfl 1 hc_47 rfl (by decide) ((24 * l1) + l2 : Int32).toNatClampNeg hi_w_48 (by omega) (by omega) d_M_set_138 (fun H locs hw => ?_)
                        rw [← he_w_48] at hw
                        have hw : pw_H D cls9 A s.heap ad C ad (pw_up C_26 31 12 (some (.inl (ca 1, 480, .inr (.inl w_48))))) H _ := hw
                        generalize hC_49 : pw_up C_26 31 12 (some (.inl (ca 1, 480, .inr (.inl w_48)))) = C_49 at hw
                        have hR : rm_at ca ad C_49 (RS.s_value y_24.2 w_48) := by rw [← hC_49]; exact rm_at.s12 hR _
                        have hfr : rm_fr C C_49 := fun x y h9 => by rw [← hC_49]; exact (pw_up_ne _ _ (by omega)).trans (hfr x y h9)
                        refine lv_iconst (v := 0) hx hb d_M_set_139 (by decide) ?_
                        obtain rfl := Option.some.inj hE
                        exact pw_iret hx hb hr hlocks hw ⟨⟨rfl, hR, hfr⟩, rfl⟩ d_M_set_140
                      · rw [if_neg c_46] at hE
                        refine lv_iconst (v := (-1)) hx hb d_M_set_125 (by decide) ?_
                        obtain rfl := Option.some.inj hE
                        exact pw_iret hx hb hr hlocks hw ⟨⟨rfl, hR, hfr⟩, rfl⟩ d_M_set_126
                · rw [if_neg c_35] at hE
                  refine lv_iconst (v := (-1)) hx hb d_M_set_99 (by decide) ?_
                  obtain rfl := Option.some.inj hE
                  exact pw_iret hx hb hr hlocks hw ⟨⟨rfl, hR, hfr⟩, rfl⟩ d_M_set_100
          · rw [if_pos c_23] at hE
            refine lv_bipush (v := 7) hx hb d_M_set_62 (by decide) ?_
            refine lv_goto (tgt := 73) hx hb d_M_set_64 (by decide) ?_
            refine lv_istore (lv' := [(5, .int 7), (0, .ref (ad 30 0)), (1, .int l1), (2, .int l2), (3, .long l3)]) hx hb d_M_set_73 hl (by decide) rfl (fun ls hl => ?_)
            refine lv_iload hx hb d_M_set_75 (lv_at hl 0 rfl) ?_
            refine lv_iconst (v := 5) hx hb d_M_set_77 (by decide) ?_
            refine lv_icmp_le (tgt := 127) hx hb d_M_set_78 (by decide) (fun c_50 => ?_) (fun c_50 => ?_)
            · exact absurd c_50 (by decide)
            · skip
              refine lv_lload_n hx hb d_M_set_81 rfl (lv_at hl 4 rfl) ?_
              refine lv_ldc2 (v := (-1)) hx hb hown (hts _ wd_889) d_M_set_82 ?_
              refine W.lcmp hx hb d_M_set_85 ?_
              refine lv_if_lt (tgt := 99) hx hb d_M_set_86 (by decide) (fun c_51 => ?_) (fun c_51 => ?_)
              · rw [if_pos c_51] at hE
                refine lv_iconst (v := (-1)) hx hb d_M_set_99 (by decide) ?_
                obtain rfl := Option.some.inj hE
                exact pw_iret hx hb hr hlocks hw ⟨⟨rfl, hR, hfr⟩, rfl⟩ d_M_set_100
              · rw [if_neg c_51] at hE
                refine lv_lload_n hx hb d_M_set_89 rfl (lv_at hl 4 rfl) ?_
                refine lv_aload_n hx hb d_M_set_90 rfl (lv_at hl 1 rfl) ?_
                refine pw_get (Cn := "GraphWriterModel") (T := F_M) (N := 31) hx hb hts in_M hown hK hw 30 0 rfl hc_18 rfl 15 (by decide) (hts _ wd_769) (fun _ h9 => h9) rfl d_M_set_91 ?_
                refine lv_i2l hx hb d_M_set_94 rfl ?_
                refine W.lcmp hx hb d_M_set_95 ?_
                refine lv_if_lt (tgt := 101) hx hb d_M_set_96 (by decide) (fun c_52 => ?_) (fun c_52 => ?_)
                · rw [if_pos c_52] at hE
                  refine lv_iload hx hb d_M_set_101 (lv_at hl 0 rfl) ?_
                  refine lv_bipush (v := 6) hx hb d_M_set_103 (by decide) ?_
                  refine lv_icmp_ne (tgt := 127) hx hb d_M_set_105 (by decide) (fun c_53 => ?_) (fun c_53 => ?_)
                  · skip
                    refine lv_aload_n hx hb d_M_set_127 rfl (lv_at hl 1 rfl) ?_
                    refine pw_get (Cn := "GraphWriterModel") (T := F_M) (N := 31) hx hb hts in_M hown hK hw 30 0 rfl hc_18 rfl 12 (by decide) (hts _ wd_766) (fun _ h9 => h9) rfl d_M_set_128 ?_
                    refine lv_bipush (v := 24) hx hb d_M_set_131 (by decide) ?_
                    refine lv_iload_n hx hb d_M_set_133 rfl (lv_at hl 2 rfl) ?_
                    refine lv_imul hx hb d_M_set_134 ?_
                    refine lv_iload_n hx hb d_M_set_135 rfl (lv_at hl 3 rfl) ?_
                    refine lv_iadd hx hb d_M_set_136 ?_
                    refine lv_lload_n hx hb d_M_set_137 rfl (lv_at hl 4 rfl) ?_
                    have hc_54 : C_15 31 12 = some (.inl (ca 1, 480, .inr (.inl y_13.2.value))) := by have h9 := rm_at.a12 hR; exact h9
                    obtain ⟨w_55, hw_55, hE⟩ := ob_some hE
                    obtain ⟨hi_w_55, hj_w_55, he_w_55⟩ := wrl_some (by decide) hw_55
                    refine pw_last hx hb hK hw 31 12 rfl 1 hc_54 rfl (by decide) ((24 * l1) + l2 : Int32).toNatClampNeg hi_w_55 (by omega) (by omega) d_M_set_138 (fun H locs hw => ?_)
                    rw [← he_w_55] at hw
                    have hw : pw_H D cls9 A s.heap ad C ad (pw_up C_15 31 12 (some (.inl (ca 1, 480, .inr (.inl w_55))))) H _ := hw
                    generalize hC_56 : pw_up C_15 31 12 (some (.inl (ca 1, 480, .inr (.inl w_55)))) = C_56 at hw
                    have hR : rm_at ca ad C_56 (RS.s_value y_13.2 w_55) := by rw [← hC_56]; exact rm_at.s12 hR _
                    have hfr : rm_fr C C_56 := fun x y h9 => by rw [← hC_56]; exact (pw_up_ne _ _ (by omega)).trans (hfr x y h9)
                    refine lv_iconst (v := 0) hx hb d_M_set_139 (by decide) ?_
                    obtain rfl := Option.some.inj hE
                    exact pw_iret hx hb hr hlocks hw ⟨⟨rfl, hR, hfr⟩, rfl⟩ d_M_set_140
                  · exact absurd c_53 (by decide)
                · rw [if_neg c_52] at hE
                  refine lv_iconst (v := (-1)) hx hb d_M_set_99 (by decide) ?_
                  obtain rfl := Option.some.inj hE
                  exact pw_iret hx hb hr hlocks hw ⟨⟨rfl, hR, hfr⟩, rfl⟩ d_M_set_100
        · rw [if_pos c_21] at hE
          refine lv_iconst (v := 2) hx hb d_M_set_48 (by decide) ?_
          refine lv_goto (tgt := 73) hx hb d_M_set_49 (by decide) ?_
          refine lv_istore (lv' := [(5, .int 2), (0, .ref (ad 30 0)), (1, .int l1), (2, .int l2), (3, .long l3)]) hx hb d_M_set_73 hl (by decide) rfl (fun ls hl => ?_)
          refine lv_iload hx hb d_M_set_75 (lv_at hl 0 rfl) ?_
          refine lv_iconst (v := 5) hx hb d_M_set_77 (by decide) ?_
          refine lv_icmp_le (tgt := 127) hx hb d_M_set_78 (by decide) (fun c_57 => ?_) (fun c_57 => ?_)
          · skip
            refine lv_aload_n hx hb d_M_set_127 rfl (lv_at hl 1 rfl) ?_
            refine pw_get (Cn := "GraphWriterModel") (T := F_M) (N := 31) hx hb hts in_M hown hK hw 30 0 rfl hc_18 rfl 12 (by decide) (hts _ wd_766) (fun _ h9 => h9) rfl d_M_set_128 ?_
            refine lv_bipush (v := 24) hx hb d_M_set_131 (by decide) ?_
            refine lv_iload_n hx hb d_M_set_133 rfl (lv_at hl 2 rfl) ?_
            refine lv_imul hx hb d_M_set_134 ?_
            refine lv_iload_n hx hb d_M_set_135 rfl (lv_at hl 3 rfl) ?_
            refine lv_iadd hx hb d_M_set_136 ?_
            refine lv_lload_n hx hb d_M_set_137 rfl (lv_at hl 4 rfl) ?_
            have hc_58 : C_15 31 12 = some (.inl (ca 1, 480, .inr (.inl y_13.2.value))) := by have h9 := rm_at.a12 hR; exact h9
            obtain ⟨w_59, hw_59, hE⟩ := ob_some hE
            obtain ⟨hi_w_59, hj_w_59, he_w_59⟩ := wrl_some (by decide) hw_59
            refine pw_last hx hb hK hw 31 12 rfl 1 hc_58 rfl (by decide) ((24 * l1) + l2 : Int32).toNatClampNeg hi_w_59 (by omega) (by omega) d_M_set_138 (fun H locs hw => ?_)
            rw [← he_w_59] at hw
            have hw : pw_H D cls9 A s.heap ad C ad (pw_up C_15 31 12 (some (.inl (ca 1, 480, .inr (.inl w_59))))) H _ := hw
            generalize hC_60 : pw_up C_15 31 12 (some (.inl (ca 1, 480, .inr (.inl w_59)))) = C_60 at hw
            have hR : rm_at ca ad C_60 (RS.s_value y_13.2 w_59) := by rw [← hC_60]; exact rm_at.s12 hR _
            have hfr : rm_fr C C_60 := fun x y h9 => by rw [← hC_60]; exact (pw_up_ne _ _ (by omega)).trans (hfr x y h9)
            refine lv_iconst (v := 0) hx hb d_M_set_139 (by decide) ?_
            obtain rfl := Option.some.inj hE
            exact pw_iret hx hb hr hlocks hw ⟨⟨rfl, hR, hfr⟩, rfl⟩ d_M_set_140
          · exact absurd (by decide) c_57
      · rw [if_neg c_17] at hE
        refine lv_iconst (v := (-1)) hx hb d_M_set_36 (by decide) ?_
        obtain rfl := Option.some.inj hE
        exact pw_iret hx hb hr hlocks hw ⟨⟨rfl, hR, hfr⟩, rfl⟩ d_M_set_37
def m_noInstance (l1 : Int32) (r : RS) : Option (Int32 × RS) := Option.bind (m_out l1 r.objects r) (fun y_2 => if (y_2.1 : Int32) = 0 then (Option.bind (rd y_2.2.sort 20 l1) (fun v_9 => if (v_9 : Int32) = 0 then (some (0, y_2.2)) else (some (1, y_2.2)))) else (some (1, y_2.2)))
set_option maxHeartbeats 4000000 in
set_option maxRecDepth 100000 in
theorem k_M_noInstance {l : Launch} {D : va_G} {ca : Nat → ClassId} {kS : Nat → Nat} {kT : Nat} {ad : pw_A} {C : pw_C} {r : RS} (hR : rm_at ca ad C r) {l1 : Int32} {res : (Int32 × RS)} (hE : m_noInstance l1 r = some res) : gc_Con l y_M_noInstance c_M_noInstance ({ frames := 1, cells := 0, slots := 0, locals := 22 }) D ca (z9_Z kS kT) [.ref (ad 30 0), .int l1] ad C (pw_pi (fun v ad' C' => (ad' = ad ∧ rm_at ca ad C' res.2 ∧ rm_fr C C') ∧ v = res.1)) 0 0 := by
  have hZ := z9_ok kS kT
  refine pw_ofW (cc := b_M_noInstance) (maxL := 2) (ret := (some FieldType.boolean)) (by decide) rfl (Nat.le_of_ble_eq_true rfl) ?_
  intro p e s m args below meth c A ls hB hA hw hK hz hl
  obtain ⟨hx, hb, hr, hml, hts0, hlocks, hown, hnm⟩ := hB
  have hts := wd_hts hts0
  have hown : s.vm.findClass "GraphWriterModel" = some m.cls := hown
  have hl : lv_has ls 2 [(0, .ref (ad 30 0)), (1, .int l1)] := hl
  have hfr : rm_fr C C := fun _ _ _ => rfl
  unfold m_noInstance at hE
  refine lv_aload_n hx hb d_M_noInstance_0 rfl (lv_at hl 0 rfl) ?_
  refine lv_iload_n hx hb d_M_noInstance_1 rfl (lv_at hl 1 rfl) ?_
  refine lv_aload_n hx hb d_M_noInstance_2 rfl (lv_at hl 0 rfl) ?_
  have hc_1 : C 30 0 = some (.inr (4, [.ref (ad 31 0), .ref (ad 31 1), .ref (ad 31 2), .ref (ad 31 3), .ref (ad 31 4), .ref (ad 31 5), .ref (ad 31 6), .ref (ad 31 7), .ref (ad 31 8), .ref (ad 31 9), .ref (ad 31 10), .ref (ad 31 11), .ref (ad 31 12), .ref (ad 31 13), .ref (ad 31 14), .int r.objects, .ref (ad 31 15), .int r.length, .ref (ad 31 16), .int r.waits, .ref (ad 31 17), .int r.given, .ref (ad 31 18), .ref (ad 31 19), .ref (ad 31 20), .int r.left, .ref (ad 31 21), .ref (ad 31 22), .int r.oldLength, .int r.oldWaits, .int r.oldGiven])) := by have h9 := rm_at.o hR; exact h9
  refine pw_get (Cn := "GraphWriterModel") (T := F_M) (N := 31) hx hb hts in_M hown hK hw 30 0 rfl hc_1 rfl 15 (by decide) (hts _ wd_769) (fun _ h9 => h9) rfl d_M_noInstance_3 ?_
  obtain ⟨y_2, hy_2, hE⟩ := ob_some hE
  refine pw_calli (va_runV (As := [.int l1, .int r.objects]) (rest := []) ⟨hx, hb, hml, hown, hts0⟩ (k_M_out hR hy_2 _) (cwV 2 hts0 (wd_V wd_856 wd_853 wd_855 wd_22 wd_56) rfl rfl rfl (by decide +kernel) ⟨Nat.le_of_ble_eq_true rfl, Nat.le_of_ble_eq_true rfl⟩) (pw_preV hZ hw hA hK hz rfl hc_1 rfl) rfl rfl hl.1 rfl (lv_room (Nat.le_of_ble_eq_true rfl)) d_M_noInstance_6 ⟨Nat.le_of_ble_eq_true rfl, Nat.le_of_ble_eq_true rfl⟩) hw hA (fun r_5 ad_3 C_4 H locs hp hw => ?_)
  obtain ⟨⟨hae, hR, hf1⟩, hre⟩ := hp
  rw [hre]
  rw [hae] at hw
  clear hae
  have hfr : rm_fr C C_4 := fun x y h9 => (hf1 x y h9).trans (hfr x y h9)
  clear hf1
  refine lv_if_ne (tgt := 21) hx hb d_M_noInstance_9 (by decide) (fun c_6 => ?_) (fun c_6 => ?_)
  · rw [if_neg c_6] at hE
    refine lv_iconst (v := 1) hx hb d_M_noInstance_21 (by decide) ?_
    refine lv_goto (tgt := 26) hx hb d_M_noInstance_22 (by decide) ?_
    obtain rfl := Option.some.inj hE
    exact pw_zret hx hb hr hlocks hw rfl ⟨⟨rfl, hR, hfr⟩, rfl⟩ d_M_noInstance_26
  · rw [if_pos c_6] at hE
    refine lv_aload_n hx hb d_M_noInstance_12 rfl (lv_at hl 0 rfl) ?_
    have hc_7 : C_4 30 0 = some (.inr (4, [.ref (ad 31 0), .ref (ad 31 1), .ref (ad 31 2), .ref (ad 31 3), .ref (ad 31 4), .ref (ad 31 5), .ref (ad 31 6), .ref (ad 31 7), .ref (ad 31 8), .ref (ad 31 9), .ref (ad 31 10), .ref (ad 31 11), .ref (ad 31 12), .ref (ad 31 13), .ref (ad 31 14), .int y_2.2.objects, .ref (ad 31 15), .int y_2.2.length, .ref (ad 31 16), .int y_2.2.waits, .ref (ad 31 17), .int y_2.2.given, .ref (ad 31 18), .ref (ad 31 19), .ref (ad 31 20), .int y_2.2.left, .ref (ad 31 21), .ref (ad 31 22), .int y_2.2.oldLength, .int y_2.2.oldWaits, .int y_2.2.oldGiven])) := by have h9 := rm_at.o hR; exact h9
    refine pw_get (Cn := "GraphWriterModel") (T := F_M) (N := 31) hx hb hts in_M hown hK hw 30 0 rfl hc_7 rfl 8 (by decide) (hts _ wd_762) (fun _ h9 => h9) rfl d_M_noInstance_13 ?_
    refine lv_iload_n hx hb d_M_noInstance_16 rfl (lv_at hl 1 rfl) ?_
    have hc_8 : C_4 31 8 = some (.inl (ca 0, 20, .inl y_2.2.sort)) := by have h9 := rm_at.a8 hR; exact h9
    obtain ⟨v_9, hv_9, hE⟩ := ob_some hE
    obtain ⟨hi_v_9, hj_v_9, he_v_9⟩ := rd_some (by decide) hv_9
    refine pw_iald hx hb hK hw 31 8 rfl 0 hc_8 rfl (l1 : Int32).toNatClampNeg hi_v_9 (by omega) (by omega) d_M_noInstance_17 ?_
    rw [← he_v_9]
    refine lv_if_eq (tgt := 25) hx hb d_M_noInstance_18 (by decide) (fun c_10 => ?_) (fun c_10 => ?_)
    · rw [if_pos c_10] at hE
      refine lv_iconst (v := 0) hx hb d_M_noInstance_25 (by decide) ?_
      obtain rfl := Option.some.inj hE
      exact pw_zret hx hb hr hlocks hw rfl ⟨⟨rfl, hR, hfr⟩, rfl⟩ d_M_noInstance_26
    · rw [if_neg c_10] at hE
      refine lv_iconst (v := 1) hx hb d_M_noInstance_21 (by decide) ?_
      refine lv_goto (tgt := 26) hx hb d_M_noInstance_22 (by decide) ?_
      obtain rfl := Option.some.inj hE
      exact pw_zret hx hb hr hlocks hw rfl ⟨⟨rfl, hR, hfr⟩, rfl⟩ d_M_noInstance_26
def m_replace (l1 : Int32) (l2 : Int32) (r : RS) : Option (Int32 × RS) := Option.bind (m_noInstance l1 r) (fun y_1 => if (y_1.1 : Int32) = 0 then (if (l2 : Int32) < (-1) then (some ((-1), y_1.2)) else (if (y_1.2.objects : Int32) ≤ l2 then (some ((-1), y_1.2)) else (if (l2 : Int32) = l1 then (some ((-1), y_1.2)) else (Option.bind (wr y_1.2.standIn 20 l1 l2) (fun w_12 => some (0, (RS.s_standIn y_1.2 w_12))))))) else (some ((-1), y_1.2)))
set_option maxHeartbeats 4000000 in
set_option maxRecDepth 100000 in
theorem k_M_replace {l : Launch} {D : va_G} {ca : Nat → ClassId} {kS : Nat → Nat} {kT : Nat} {ad : pw_A} {C : pw_C} {r : RS} (hR : rm_at ca ad C r) {l1 : Int32} {l2 : Int32} {res : (Int32 × RS)} (hE : m_replace l1 l2 r = some res) : gc_Con l y_M_replace c_M_replace ({ frames := 2, cells := 0, slots := 0, locals := 43 }) D ca (z9_Z kS kT) [.ref (ad 30 0), .int l1, .int l2] ad C (pw_pi (fun v ad' C' => (ad' = ad ∧ rm_at ca ad C' res.2 ∧ rm_fr C C') ∧ v = res.1)) 0 0 := by
  have hZ := z9_ok kS kT
  refine pw_ofW (cc := b_M_replace) (maxL := 3) (ret := (some FieldType.int)) (by decide) rfl (Nat.le_of_ble_eq_true rfl) ?_
  intro p e s m args below meth c A ls hB hA hw hK hz hl
  obtain ⟨hx, hb, hr, hml, hts0, hlocks, hown, hnm⟩ := hB
  have hts := wd_hts hts0
  have hown : s.vm.findClass "GraphWriterModel" = some m.cls := hown
  have hl : lv_has ls 3 [(0, .ref (ad 30 0)), (1, .int l1), (2, .int l2)] := hl
  have hfr : rm_fr C C := fun _ _ _ => rfl
  unfold m_replace at hE
  refine lv_aload_n hx hb d_M_replace_0 rfl (lv_at hl 0 rfl) ?_
  refine lv_iload_n hx hb d_M_replace_1 rfl (lv_at hl 1 rfl) ?_
  obtain ⟨y_1, hy_1, hE⟩ := ob_some hE
  have hc_2 : C 30 0 = some (.inr (4, [.ref (ad 31 0), .ref (ad 31 1), .ref (ad 31 2), .ref (ad 31 3), .ref (ad 31 4), .ref (ad 31 5), .ref (ad 31 6), .ref (ad 31 7), .ref (ad 31 8), .ref (ad 31 9), .ref (ad 31 10), .ref (ad 31 11), .ref (ad 31 12), .ref (ad 31 13), .ref (ad 31 14), .int r.objects, .ref (ad 31 15), .int r.length, .ref (ad 31 16), .int r.waits, .ref (ad 31 17), .int r.given, .ref (ad 31 18), .ref (ad 31 19), .ref (ad 31 20), .int r.left, .ref (ad 31 21), .ref (ad 31 22), .int r.oldLength, .int r.oldWaits, .int r.oldGiven])) := by have h9 := rm_at.o hR; exact h9
  refine pw_calli (va_runV (As := [.int l1]) (rest := []) ⟨hx, hb, hml, hown, hts0⟩ (k_M_noInstance hR hy_1 _) (cwV 1 hts0 (wd_V wd_913 wd_910 wd_912 wd_29 wd_56) rfl rfl rfl (by decide +kernel) ⟨Nat.le_of_ble_eq_true rfl, Nat.le_of_ble_eq_true rfl⟩) (pw_preV hZ hw hA hK hz rfl hc_2 rfl) rfl rfl hl.1 rfl (lv_room (Nat.le_of_ble_eq_true rfl)) d_M_replace_2 ⟨Nat.le_of_ble_eq_true rfl, Nat.le_of_ble_eq_true rfl⟩) hw hA (fun r_5 ad_3 C_4 H locs hp hw => ?_)
  obtain ⟨⟨hae, hR, hf1⟩, hre⟩ := hp
  rw [hre]
  rw [hae] at hw
  clear hae
  have hfr : rm_fr C C_4 := fun x y h9 => (hf1 x y h9).trans (hfr x y h9)
  clear hf1
  refine lv_if_ne (tgt := 26) hx hb d_M_replace_5 (by decide) (fun c_6 => ?_) (fun c_6 => ?_)
  · rw [if_neg c_6] at hE
    refine lv_iconst (v := (-1)) hx hb d_M_replace_26 (by decide) ?_
    obtain rfl := Option.some.inj hE
    exact pw_iret hx hb hr hlocks hw ⟨⟨rfl, hR, hfr⟩, rfl⟩ d_M_replace_27
  · rw [if_pos c_6] at hE
    refine lv_iload_n hx hb d_M_replace_8 rfl (lv_at hl 2 rfl) ?_
    refine lv_iconst (v := (-1)) hx hb d_M_replace_9 (by decide) ?_
    refine lv_icmp_lt (tgt := 26) hx hb d_M_replace_10 (by decide) (fun c_7 => ?_) (fun c_7 => ?_)
    · rw [if_pos c_7] at hE
      refine lv_iconst (v := (-1)) hx hb d_M_replace_26 (by decide) ?_
      obtain rfl := Option.some.inj hE
      exact pw_iret hx hb hr hlocks hw ⟨⟨rfl, hR, hfr⟩, rfl⟩ d_M_replace_27
    · rw [if_neg c_7] at hE
      refine lv_iload_n hx hb d_M_replace_13 rfl (lv_at hl 2 rfl) ?_
      refine lv_aload_n hx hb d_M_replace_14 rfl (lv_at hl 0 rfl) ?_
      have hc_8 : C_4 30 0 = some (.inr (4, [.ref (ad 31 0), .ref (ad 31 1), .ref (ad 31 2), .ref (ad 31 3), .ref (ad 31 4), .ref (ad 31 5), .ref (ad 31 6), .ref (ad 31 7), .ref (ad 31 8), .ref (ad 31 9), .ref (ad 31 10), .ref (ad 31 11), .ref (ad 31 12), .ref (ad 31 13), .ref (ad 31 14), .int y_1.2.objects, .ref (ad 31 15), .int y_1.2.length, .ref (ad 31 16), .int y_1.2.waits, .ref (ad 31 17), .int y_1.2.given, .ref (ad 31 18), .ref (ad 31 19), .ref (ad 31 20), .int y_1.2.left, .ref (ad 31 21), .ref (ad 31 22), .int y_1.2.oldLength, .int y_1.2.oldWaits, .int y_1.2.oldGiven])) := by have h9 := rm_at.o hR; exact h9
      refine pw_get (Cn := "GraphWriterModel") (T := F_M) (N := 31) hx hb hts in_M hown hK hw 30 0 rfl hc_8 rfl 15 (by decide) (hts _ wd_769) (fun _ h9 => h9) rfl d_M_replace_15 ?_
      refine lv_icmp_ge (tgt := 26) hx hb d_M_replace_18 (by decide) (fun c_9 => ?_) (fun c_9 => ?_)
      · rw [if_pos c_9] at hE
        refine lv_iconst (v := (-1)) hx hb d_M_replace_26 (by decide) ?_
        obtain rfl := Option.some.inj hE
        exact pw_iret hx hb hr hlocks hw ⟨⟨rfl, hR, hfr⟩, rfl⟩ d_M_replace_27
      · rw [if_neg c_9] at hE
        refine lv_iload_n hx hb d_M_replace_21 rfl (lv_at hl 2 rfl) ?_
        refine lv_iload_n hx hb d_M_replace_22 rfl (lv_at hl 1 rfl) ?_
        refine lv_icmp_ne (tgt := 28) hx hb d_M_replace_23 (by decide) (fun c_10 => ?_) (fun c_10 => ?_)
        · rw [if_neg c_10] at hE
          refine lv_aload_n hx hb d_M_replace_28 rfl (lv_at hl 0 rfl) ?_
          refine pw_get (Cn := "GraphWriterModel") (T := F_M) (N := 31) hx hb hts in_M hown hK hw 30 0 rfl hc_8 rfl 13 (by decide) (hts _ wd_767) (fun _ h9 => h9) rfl d_M_replace_29 ?_
          refine lv_iload_n hx hb d_M_replace_32 rfl (lv_at hl 1 rfl) ?_
          refine lv_iload_n hx hb d_M_replace_33 rfl (lv_at hl 2 rfl) ?_
          have hc_11 : C_4 31 13 = some (.inl (ca 0, 20, .inl y_1.2.standIn)) := by have h9 := rm_at.a13 hR; exact h9
          obtain ⟨w_12, hw_12, hE⟩ := ob_some hE
          obtain ⟨hi_w_12, hj_w_12, he_w_12⟩ := wr_some (by decide) hw_12
          refine pw_iast hx hb hK hw 31 13 rfl 0 hc_11 rfl (by decide) (l1 : Int32).toNatClampNeg hi_w_12 (by omega) (by omega) d_M_replace_34 (fun H locs hw => ?_)
          rw [← he_w_12] at hw
          have hw : pw_H D cls9 A s.heap ad C ad (pw_up C_4 31 13 (some (.inl (ca 0, 20, .inl w_12)))) H _ := hw
          generalize hC_13 : pw_up C_4 31 13 (some (.inl (ca 0, 20, .inl w_12))) = C_13 at hw
          have hR : rm_at ca ad C_13 (RS.s_standIn y_1.2 w_12) := by rw [← hC_13]; exact rm_at.s13 hR _
          have hfr : rm_fr C C_13 := fun x y h9 => by rw [← hC_13]; exact (pw_up_ne _ _ (by omega)).trans (hfr x y h9)
          refine lv_iconst (v := 0) hx hb d_M_replace_35 (by decide) ?_
          obtain rfl := Option.some.inj hE
          exact pw_iret hx hb hr hlocks hw ⟨⟨rfl, hR, hfr⟩, rfl⟩ d_M_replace_36
        · rw [if_pos c_10] at hE
          refine lv_iconst (v := (-1)) hx hb d_M_replace_26 (by decide) ?_
          obtain rfl := Option.some.inj hE
          exact pw_iret hx hb hr hlocks hw ⟨⟨rfl, hR, hfr⟩, rfl⟩ d_M_replace_27
def m_extra (l1 : Int32) (l2 : Int32) (r : RS) : Option (Int32 × RS) := Option.bind (m_noInstance l1 r) (fun y_1 => if (y_1.1 : Int32) = 0 then (Option.bind (wr y_1.2.extras 20 l1 l2) (fun w_9 => some (0, (RS.s_extras y_1.2 w_9)))) else (some ((-1), y_1.2)))
set_option maxHeartbeats 4000000 in
set_option maxRecDepth 100000 in
theorem k_M_extra {l : Launch} {D : va_G} {ca : Nat → ClassId} {kS : Nat → Nat} {kT : Nat} {ad : pw_A} {C : pw_C} {r : RS} (hR : rm_at ca ad C r) {l1 : Int32} {l2 : Int32} {res : (Int32 × RS)} (hE : m_extra l1 l2 r = some res) : gc_Con l y_M_extra c_M_extra ({ frames := 2, cells := 0, slots := 0, locals := 43 }) D ca (z9_Z kS kT) [.ref (ad 30 0), .int l1, .int l2] ad C (pw_pi (fun v ad' C' => (ad' = ad ∧ rm_at ca ad C' res.2 ∧ rm_fr C C') ∧ v = res.1)) 0 0 := by
  have hZ := z9_ok kS kT
  refine pw_ofW (cc := b_M_extra) (maxL := 3) (ret := (some FieldType.int)) (by decide) rfl (Nat.le_of_ble_eq_true rfl) ?_
  intro p e s m args below meth c A ls hB hA hw hK hz hl
  obtain ⟨hx, hb, hr, hml, hts0, hlocks, hown, hnm⟩ := hB
  have hts := wd_hts hts0
  have hown : s.vm.findClass "GraphWriterModel" = some m.cls := hown
  have hl : lv_has ls 3 [(0, .ref (ad 30 0)), (1, .int l1), (2, .int l2)] := hl
  have hfr : rm_fr C C := fun _ _ _ => rfl
  unfold m_extra at hE
  refine lv_aload_n hx hb d_M_extra_0 rfl (lv_at hl 0 rfl) ?_
  refine lv_iload_n hx hb d_M_extra_1 rfl (lv_at hl 1 rfl) ?_
  obtain ⟨y_1, hy_1, hE⟩ := ob_some hE
  have hc_2 : C 30 0 = some (.inr (4, [.ref (ad 31 0), .ref (ad 31 1), .ref (ad 31 2), .ref (ad 31 3), .ref (ad 31 4), .ref (ad 31 5), .ref (ad 31 6), .ref (ad 31 7), .ref (ad 31 8), .ref (ad 31 9), .ref (ad 31 10), .ref (ad 31 11), .ref (ad 31 12), .ref (ad 31 13), .ref (ad 31 14), .int r.objects, .ref (ad 31 15), .int r.length, .ref (ad 31 16), .int r.waits, .ref (ad 31 17), .int r.given, .ref (ad 31 18), .ref (ad 31 19), .ref (ad 31 20), .int r.left, .ref (ad 31 21), .ref (ad 31 22), .int r.oldLength, .int r.oldWaits, .int r.oldGiven])) := by have h9 := rm_at.o hR; exact h9
  refine pw_calli (va_runV (As := [.int l1]) (rest := []) ⟨hx, hb, hml, hown, hts0⟩ (k_M_noInstance hR hy_1 _) (cwV 1 hts0 (wd_V wd_913 wd_910 wd_912 wd_29 wd_56) rfl rfl rfl (by decide +kernel) ⟨Nat.le_of_ble_eq_true rfl, Nat.le_of_ble_eq_true rfl⟩) (pw_preV hZ hw hA hK hz rfl hc_2 rfl) rfl rfl hl.1 rfl (lv_room (Nat.le_of_ble_eq_true rfl)) d_M_extra_2 ⟨Nat.le_of_ble_eq_true rfl, Nat.le_of_ble_eq_true rfl⟩) hw hA (fun r_5 ad_3 C_4 H locs hp hw => ?_)
  obtain ⟨⟨hae, hR, hf1⟩, hre⟩ := hp
  rw [hre]
  rw [hae] at hw
  clear hae
  have hfr : rm_fr C C_4 := fun x y h9 => (hf1 x y h9).trans (hfr x y h9)
  clear hf1
  refine lv_if_eq (tgt := 10) hx hb d_M_extra_5 (by decide) (fun c_6 => ?_) (fun c_6 => ?_)
  · rw [if_pos c_6] at hE
    refine lv_aload_n hx hb d_M_extra_10 rfl (lv_at hl 0 rfl) ?_
    have hc_7 : C_4 30 0 = some (.inr (4, [.ref (ad 31 0), .ref (ad 31 1), .ref (ad 31 2), .ref (ad 31 3), .ref (ad 31 4), .ref (ad 31 5), .ref (ad 31 6), .ref (ad 31 7), .ref (ad 31 8), .ref (ad 31 9), .ref (ad 31 10), .ref (ad 31 11), .ref (ad 31 12), .ref (ad 31 13), .ref (ad 31 14), .int y_1.2.objects, .ref (ad 31 15), .int y_1.2.length, .ref (ad 31 16), .int y_1.2.waits, .ref (ad 31 17), .int y_1.2.given, .ref (ad 31 18), .ref (ad 31 19), .ref (ad 31 20), .int y_1.2.left, .ref (ad 31 21), .ref (ad 31 22), .int y_1.2.oldLength, .int y_1.2.oldWaits, .int y_1.2.oldGiven])) := by have h9 := rm_at.o hR; exact h9
    refine pw_get (Cn := "GraphWriterModel") (T := F_M) (N := 31) hx hb hts in_M hown hK hw 30 0 rfl hc_7 rfl 14 (by decide) (hts _ wd_768) (fun _ h9 => h9) rfl d_M_extra_11 ?_
    refine lv_iload_n hx hb d_M_extra_14 rfl (lv_at hl 1 rfl) ?_
    refine lv_iload_n hx hb d_M_extra_15 rfl (lv_at hl 2 rfl) ?_
    have hc_8 : C_4 31 14 = some (.inl (ca 0, 20, .inl y_1.2.extras)) := by have h9 := rm_at.a14 hR; exact h9
    obtain ⟨w_9, hw_9, hE⟩ := ob_some hE
    obtain ⟨hi_w_9, hj_w_9, he_w_9⟩ := wr_some (by decide) hw_9
    refine pw_iast hx hb hK hw 31 14 rfl 0 hc_8 rfl (by decide) (l1 : Int32).toNatClampNeg hi_w_9 (by omega) (by omega) d_M_extra_16 (fun H locs hw => ?_)
    rw [← he_w_9] at hw
    have hw : pw_H D cls9 A s.heap ad C ad (pw_up C_4 31 14 (some (.inl (ca 0, 20, .inl w_9)))) H _ := hw
    generalize hC_10 : pw_up C_4 31 14 (some (.inl (ca 0, 20, .inl w_9))) = C_10 at hw
    have hR : rm_at ca ad C_10 (RS.s_extras y_1.2 w_9) := by rw [← hC_10]; exact rm_at.s14 hR _
    have hfr : rm_fr C C_10 := fun x y h9 => by rw [← hC_10]; exact (pw_up_ne _ _ (by omega)).trans (hfr x y h9)
    refine lv_iconst (v := 0) hx hb d_M_extra_17 (by decide) ?_
    obtain rfl := Option.some.inj hE
    exact pw_iret hx hb hr hlocks hw ⟨⟨rfl, hR, hfr⟩, rfl⟩ d_M_extra_18
  · rw [if_neg c_6] at hE
    refine lv_iconst (v := (-1)) hx hb d_M_extra_8 (by decide) ?_
    obtain rfl := Option.some.inj hE
    exact pw_iret hx hb hr hlocks hw ⟨⟨rfl, hR, hfr⟩, rfl⟩ d_M_extra_9
def m_remember_26 (K : Int32 → RS → Option RS) : Nat → Int32 → RS → Option RS
  | 0, _, _ => none
  | n + 1, x1_7, r => if (51 : Int32) ≤ x1_7 then (K x1_7 r) else (Option.bind (rd r.handles 51 x1_7) (fun v_11 => Option.bind (wr r.oldHandles 51 x1_7 v_11) (fun w_13 => m_remember_26 K n (x1_7 + 1) (RS.s_oldHandles r w_13))))
def m_remember  (r : RS) : Option RS := m_remember_26 (fun z1_7 r_15 => some r_15) 60 0 (RS.s_oldGiven (RS.s_oldWaits (RS.s_oldLength r r.length) r.waits) r.given)
set_option maxHeartbeats 4000000 in
set_option maxRecDepth 100000 in
theorem k_M_remember {l : Launch} {D : va_G} {ca : Nat → ClassId} {kS : Nat → Nat} {kT : Nat} {ad : pw_A} {C : pw_C} {r : RS} (hR : rm_at ca ad C r)  {res : RS} (hE : m_remember  r = some res) : gc_Con l y_M_remember c_M_remember ({ frames := 0, cells := 0, slots := 0, locals := 0 }) D ca (z9_Z kS kT) [.ref (ad 30 0)] ad C (pw_pv (fun ad' C' => ad' = ad ∧ rm_at ca ad C' res ∧ rm_fr C C')) 0 0 := by
  have hZ := z9_ok kS kT
  refine pw_ofW (cc := b_M_remember) (maxL := 2) (ret := none) (by decide) rfl (Nat.le_of_ble_eq_true rfl) ?_
  intro p e s m args below meth c A ls hB hA hw hK hz hl
  obtain ⟨hx, hb, hr, hml, hts0, hlocks, hown, hnm⟩ := hB
  have hts := wd_hts hts0
  have hown : s.vm.findClass "GraphWriterModel" = some m.cls := hown
  have hl : lv_has ls 2 [(0, .ref (ad 30 0))] := hl
  have hfr : rm_fr C C := fun _ _ _ => rfl
  unfold m_remember at hE
  refine lv_aload_n hx hb d_M_remember_0 rfl (lv_at hl 0 rfl) ?_
  refine lv_aload_n hx hb d_M_remember_1 rfl (lv_at hl 0 rfl) ?_
  have hc_1 : C 30 0 = some (.inr (4, [.ref (ad 31 0), .ref (ad 31 1), .ref (ad 31 2), .ref (ad 31 3), .ref (ad 31 4), .ref (ad 31 5), .ref (ad 31 6), .ref (ad 31 7), .ref (ad 31 8), .ref (ad 31 9), .ref (ad 31 10), .ref (ad 31 11), .ref (ad 31 12), .ref (ad 31 13), .ref (ad 31 14), .int r.objects, .ref (ad 31 15), .int r.length, .ref (ad 31 16), .int r.waits, .ref (ad 31 17), .int r.given, .ref (ad 31 18), .ref (ad 31 19), .ref (ad 31 20), .int r.left, .ref (ad 31 21), .ref (ad 31 22), .int r.oldLength, .int r.oldWaits, .int r.oldGiven])) := by have h9 := rm_at.o hR; exact h9
  refine pw_get (Cn := "GraphWriterModel") (T := F_M) (N := 31) hx hb hts in_M hown hK hw 30 0 rfl hc_1 rfl 17 (by decide) (hts _ wd_771) (fun _ h9 => h9) rfl d_M_remember_2 ?_
  refine pw_put (Cn := "GraphWriterModel") (T := F_M) (N := 31) (v := .int r.length) (ty := .int) hx hb hts in_M ft_M to_M nm_M hown hK hw 30 0 (by decide) rfl hc_1 rfl 28 (by decide) (hts _ wd_782) (fun _ h9 => h9) rfl (by decide +kernel) rfl rfl (Nat.le_of_ble_eq_true rfl) d_M_remember_5 (fun H locs hw => ?_)
  have hw : pw_H D cls9 A s.heap ad C ad (pw_up C 30 0 (some (.inr (4, [.ref (ad 31 0), .ref (ad 31 1), .ref (ad 31 2), .ref (ad 31 3), .ref (ad 31 4), .ref (ad 31 5), .ref (ad 31 6), .ref (ad 31 7), .ref (ad 31 8), .ref (ad 31 9), .ref (ad 31 10), .ref (ad 31 11), .ref (ad 31 12), .ref (ad 31 13), .ref (ad 31 14), .int r.objects, .ref (ad 31 15), .int r.length, .ref (ad 31 16), .int r.waits, .ref (ad 31 17), .int r.given, .ref (ad 31 18), .ref (ad 31 19), .ref (ad 31 20), .int r.left, .ref (ad 31 21), .ref (ad 31 22), .int r.length, .int r.oldWaits, .int r.oldGiven])))) H _ := hw
  generalize hC_2 : pw_up C 30 0 (some (.inr (4, [.ref (ad 31 0), .ref (ad 31 1), .ref (ad 31 2), .ref (ad 31 3), .ref (ad 31 4), .ref (ad 31 5), .ref (ad 31 6), .ref (ad 31 7), .ref (ad 31 8), .ref (ad 31 9), .ref (ad 31 10), .ref (ad 31 11), .ref (ad 31 12), .ref (ad 31 13), .ref (ad 31 14), .int r.objects, .ref (ad 31 15), .int r.length, .ref (ad 31 16), .int r.waits, .ref (ad 31 17), .int r.given, .ref (ad 31 18), .ref (ad 31 19), .ref (ad 31 20), .int r.left, .ref (ad 31 21), .ref (ad 31 22), .int r.length, .int r.oldWaits, .int r.oldGiven]))) = C_2 at hw
  have hR : rm_at ca ad C_2 (RS.s_oldLength r r.length) := by rw [← hC_2]; exact rm_at.o_oldLength hR _
  have hfr : rm_fr C C_2 := fun x y h9 => by rw [← hC_2]; exact (pw_up_ne _ _ (by omega)).trans (hfr x y h9)
  refine lv_aload_n hx hb d_M_remember_8 rfl (lv_at hl 0 rfl) ?_
  refine lv_aload_n hx hb d_M_remember_9 rfl (lv_at hl 0 rfl) ?_
  have hc_3 : C_2 30 0 = some (.inr (4, [.ref (ad 31 0), .ref (ad 31 1), .ref (ad 31 2), .ref (ad 31 3), .ref (ad 31 4), .ref (ad 31 5), .ref (ad 31 6), .ref (ad 31 7), .ref (ad 31 8), .ref (ad 31 9), .ref (ad 31 10), .ref (ad 31 11), .ref (ad 31 12), .ref (ad 31 13), .ref (ad 31 14), .int r.objects, .ref (ad 31 15), .int r.length, .ref (ad 31 16), .int r.waits, .ref (ad 31 17), .int r.given, .ref (ad 31 18), .ref (ad 31 19), .ref (ad 31 20), .int r.left, .ref (ad 31 21), .ref (ad 31 22), .int r.length, .int r.oldWaits, .int r.oldGiven])) := by have h9 := rm_at.o hR; exact h9
  refine pw_get (Cn := "GraphWriterModel") (T := F_M) (N := 31) hx hb hts in_M hown hK hw 30 0 rfl hc_3 rfl 19 (by decide) (hts _ wd_773) (fun _ h9 => h9) rfl d_M_remember_10 ?_
  refine pw_put (Cn := "GraphWriterModel") (T := F_M) (N := 31) (v := .int r.waits) (ty := .int) hx hb hts in_M ft_M to_M nm_M hown hK hw 30 0 (by decide) rfl hc_3 rfl 29 (by decide) (hts _ wd_783) (fun _ h9 => h9) rfl (by decide +kernel) rfl rfl (Nat.le_of_ble_eq_true rfl) d_M_remember_13 (fun H locs hw => ?_)
  have hw : pw_H D cls9 A s.heap ad C ad (pw_up C_2 30 0 (some (.inr (4, [.ref (ad 31 0), .ref (ad 31 1), .ref (ad 31 2), .ref (ad 31 3), .ref (ad 31 4), .ref (ad 31 5), .ref (ad 31 6), .ref (ad 31 7), .ref (ad 31 8), .ref (ad 31 9), .ref (ad 31 10), .ref (ad 31 11), .ref (ad 31 12), .ref (ad 31 13), .ref (ad 31 14), .int r.objects, .ref (ad 31 15), .int r.length, .ref (ad 31 16), .int r.waits, .ref (ad 31 17), .int r.given, .ref (ad 31 18), .ref (ad 31 19), .ref (ad 31 20), .int r.left, .ref (ad 31 21), .ref (ad 31 22), .int r.length, .int r.waits, .int r.oldGiven])))) H _ := hw
  generalize hC_4 : pw_up C_2 30 0 (some (.inr (4, [.ref (ad 31 0), .ref (ad 31 1), .ref (ad 31 2), .ref (ad 31 3), .ref (ad 31 4), .ref (ad 31 5), .ref (ad 31 6), .ref (ad 31 7), .ref (ad 31 8), .ref (ad 31 9), .ref (ad 31 10), .ref (ad 31 11), .ref (ad 31 12), .ref (ad 31 13), .ref (ad 31 14), .int r.objects, .ref (ad 31 15), .int r.length, .ref (ad 31 16), .int r.waits, .ref (ad 31 17), .int r.given, .ref (ad 31 18), .ref (ad 31 19), .ref (ad 31 20), .int r.left, .ref (ad 31 21), .ref (ad 31 22), .int r.length, .int r.waits, .int r.oldGiven]))) = C_4 at hw
  have hR : rm_at ca ad C_4 (RS.s_oldWaits (RS.s_oldLength r r.length) r.waits) := by rw [← hC_4]; exact rm_at.o_oldWaits hR _
  have hfr : rm_fr C C_4 := fun x y h9 => by rw [← hC_4]; exact (pw_up_ne _ _ (by omega)).trans (hfr x y h9)
  refine lv_aload_n hx hb d_M_remember_16 rfl (lv_at hl 0 rfl) ?_
  refine lv_aload_n hx hb d_M_remember_17 rfl (lv_at hl 0 rfl) ?_
  have hc_5 : C_4 30 0 = some (.inr (4, [.ref (ad 31 0), .ref (ad 31 1), .ref (ad 31 2), .ref (ad 31 3), .ref (ad 31 4), .ref (ad 31 5), .ref (ad 31 6), .ref (ad 31 7), .ref (ad 31 8), .ref (ad 31 9), .ref (ad 31 10), .ref (ad 31 11), .ref (ad 31 12), .ref (ad 31 13), .ref (ad 31 14), .int r.objects, .ref (ad 31 15), .int r.length, .ref (ad 31 16), .int r.waits, .ref (ad 31 17), .int r.given, .ref (ad 31 18), .ref (ad 31 19), .ref (ad 31 20), .int r.left, .ref (ad 31 21), .ref (ad 31 22), .int r.length, .int r.waits, .int r.oldGiven])) := by have h9 := rm_at.o hR; exact h9
  refine pw_get (Cn := "GraphWriterModel") (T := F_M) (N := 31) hx hb hts in_M hown hK hw 30 0 rfl hc_5 rfl 21 (by decide) (hts _ wd_775) (fun _ h9 => h9) rfl d_M_remember_18 ?_
  refine pw_put (Cn := "GraphWriterModel") (T := F_M) (N := 31) (v := .int r.given) (ty := .int) hx hb hts in_M ft_M to_M nm_M hown hK hw 30 0 (by decide) rfl hc_5 rfl 30 (by decide) (hts _ wd_784) (fun _ h9 => h9) rfl (by decide +kernel) rfl rfl (Nat.le_of_ble_eq_true rfl) d_M_remember_21 (fun H locs hw => ?_)
  have hw : pw_H D cls9 A s.heap ad C ad (pw_up C_4 30 0 (some (.inr (4, [.ref (ad 31 0), .ref (ad 31 1), .ref (ad 31 2), .ref (ad 31 3), .ref (ad 31 4), .ref (ad 31 5), .ref (ad 31 6), .ref (ad 31 7), .ref (ad 31 8), .ref (ad 31 9), .ref (ad 31 10), .ref (ad 31 11), .ref (ad 31 12), .ref (ad 31 13), .ref (ad 31 14), .int r.objects, .ref (ad 31 15), .int r.length, .ref (ad 31 16), .int r.waits, .ref (ad 31 17), .int r.given, .ref (ad 31 18), .ref (ad 31 19), .ref (ad 31 20), .int r.left, .ref (ad 31 21), .ref (ad 31 22), .int r.length, .int r.waits, .int r.given])))) H _ := hw
  generalize hC_6 : pw_up C_4 30 0 (some (.inr (4, [.ref (ad 31 0), .ref (ad 31 1), .ref (ad 31 2), .ref (ad 31 3), .ref (ad 31 4), .ref (ad 31 5), .ref (ad 31 6), .ref (ad 31 7), .ref (ad 31 8), .ref (ad 31 9), .ref (ad 31 10), .ref (ad 31 11), .ref (ad 31 12), .ref (ad 31 13), .ref (ad 31 14), .int r.objects, .ref (ad 31 15), .int r.length, .ref (ad 31 16), .int r.waits, .ref (ad 31 17), .int r.given, .ref (ad 31 18), .ref (ad 31 19), .ref (ad 31 20), .int r.left, .ref (ad 31 21), .ref (ad 31 22), .int r.length, .int r.waits, .int r.given]))) = C_6 at hw
  have hR : rm_at ca ad C_6 (RS.s_oldGiven (RS.s_oldWaits (RS.s_oldLength r r.length) r.waits) r.given) := by rw [← hC_6]; exact rm_at.o_oldGiven hR _
  have hfr : rm_fr C C_6 := fun x y h9 => by rw [← hC_6]; exact (pw_up_ne _ _ (by omega)).trans (hfr x y h9)
  refine lv_iconst (v := 0) hx hb d_M_remember_24 (by decide) ?_
  refine lv_istore_n (lv' := [(1, .int 0), (0, .ref (ad 30 0))]) hx hb d_M_remember_25 rfl hl (by decide) rfl (fun ls hl => ?_)
  have lp_7 : ∀ (K : Int32 → RS → Option RS), (∀ (x1_7 : Int32) (r : RS) (C1 : pw_C) (H : Heap) (locs : List Loc) (ls : Array Slot), K x1_7 r = some res → rm_at ca ad C1 r → rm_fr C C1 → pw_H D cls9 A s.heap ad C ad C1 H locs → lv_has ls 2 [(1, .int x1_7), (0, .ref (ad 30 0))] → W p l e ({ frames := 0, cells := 0, slots := 0, locals := 0 }) s m args below meth c H locs 0 0 (MQ below (pw_Q D cls9 ad C (pw_pv (fun ad' C' => ad' = ad ∧ rm_at ca ad C' res ∧ rm_fr C C')) A) args s 0 0 A) (F0 m 50 ls [])) → ∀ (n : Nat) (x1_7 : Int32) (r : RS) (C1 : pw_C) (H : Heap) (locs : List Loc) (ls : Array Slot), m_remember_26 K n x1_7 r = some res → rm_at ca ad C1 r → rm_fr C C1 → pw_H D cls9 A s.heap ad C ad C1 H locs → lv_has ls 2 [(1, .int x1_7), (0, .ref (ad 30 0))] → W p l e ({ frames := 0, cells := 0, slots := 0, locals := 0 }) s m args below meth c H locs 0 0 (MQ below (pw_Q D cls9 ad C (pw_pv (fun ad' C' => ad' = ad ∧ rm_at ca ad C' res ∧ rm_fr C C')) A) args s 0 0 A) (F0 m 26 ls []) := by
    intro K hKK n
    induction n with
    | zero => intro x1_7 r C1 H locs ls hE; rw [m_remember_26] at hE; exact absurd hE (by simp)
    | succ n ih =>
      intro x1_7 r C1 H locs ls hE hR hfr hw hl
      rw [m_remember_26] at hE
      refine lv_iload_n hx hb d_M_remember_26 rfl (lv_at hl 0 rfl) ?_
      refine lv_bipush (v := 51) hx hb d_M_remember_27 (by decide) ?_
      refine lv_icmp_ge (tgt := 50) hx hb d_M_remember_29 (by decide) (fun c_8 => ?_) (fun c_8 => ?_)
      · rw [if_pos c_8] at hE
        exact hKK _ _ _ _ _ _ hE hR hfr hw (lv_sub hl [0, 1] rfl)
      · rw [if_neg c_8] at hE
        refine lv_aload_n hx hb d_M_remember_32 rfl (lv_at hl 1 rfl) ?_
        have hc_9 : C1 30 0 = some (.inr (4, [.ref (ad 31 0), .ref (ad 31 1), .ref (ad 31 2), .ref (ad 31 3), .ref (ad 31 4), .ref (ad 31 5), .ref (ad 31 6), .ref (ad 31 7), .ref (ad 31 8), .ref (ad 31 9), .ref (ad 31 10), .ref (ad 31 11), .ref (ad 31 12), .ref (ad 31 13), .ref (ad 31 14), .int r.objects, .ref (ad 31 15), .int r.length, .ref (ad 31 16), .int r.waits, .ref (ad 31 17), .int r.given, .ref (ad 31 18), .ref (ad 31 19), .ref (ad 31 20), .int r.left, .ref (ad 31 21), .ref (ad 31 22), .int r.oldLength, .int r.oldWaits, .int r.oldGiven])) := by have h9 := rm_at.o hR; exact h9
        refine pw_get (Cn := "GraphWriterModel") (T := F_M) (N := 31) hx hb hts in_M hown hK hw 30 0 rfl hc_9 rfl 27 (by decide) (hts _ wd_781) (fun _ h9 => h9) rfl d_M_remember_33 ?_
        refine lv_iload_n hx hb d_M_remember_36 rfl (lv_at hl 0 rfl) ?_
        refine lv_aload_n hx hb d_M_remember_37 rfl (lv_at hl 1 rfl) ?_
        refine pw_get (Cn := "GraphWriterModel") (T := F_M) (N := 31) hx hb hts in_M hown hK hw 30 0 rfl hc_9 rfl 20 (by decide) (hts _ wd_774) (fun _ h9 => h9) rfl d_M_remember_38 ?_
        refine lv_iload_n hx hb d_M_remember_41 rfl (lv_at hl 0 rfl) ?_
        have hc_10 : C1 31 17 = some (.inl (ca 0, 51, .inl r.handles)) := by have h9 := rm_at.a17 hR; exact h9
        obtain ⟨v_11, hv_11, hE⟩ := ob_some hE
        obtain ⟨hi_v_11, hj_v_11, he_v_11⟩ := rd_some (by decide) hv_11
        refine pw_iald hx hb hK hw 31 17 rfl 0 hc_10 rfl (x1_7 : Int32).toNatClampNeg hi_v_11 (by omega) (by omega) d_M_remember_42 ?_
        rw [← he_v_11]
        have hc_12 : C1 31 22 = some (.inl (ca 0, 51, .inl r.oldHandles)) := by have h9 := rm_at.a22 hR; exact h9
        obtain ⟨w_13, hw_13, hE⟩ := ob_some hE
        obtain ⟨hi_w_13, hj_w_13, he_w_13⟩ := wr_some (by decide) hw_13
        refine pw_iast hx hb hK hw 31 22 rfl 0 hc_12 rfl (by decide) (x1_7 : Int32).toNatClampNeg hi_w_13 (by omega) (by omega) d_M_remember_43 (fun H locs hw => ?_)
        rw [← he_w_13] at hw
        have hw : pw_H D cls9 A s.heap ad C ad (pw_up C1 31 22 (some (.inl (ca 0, 51, .inl w_13)))) H _ := hw
        generalize hC_14 : pw_up C1 31 22 (some (.inl (ca 0, 51, .inl w_13))) = C_14 at hw
        have hR : rm_at ca ad C_14 (RS.s_oldHandles r w_13) := by rw [← hC_14]; exact rm_at.s22 hR _
        have hfr : rm_fr C C_14 := fun x y h9 => by rw [← hC_14]; exact (pw_up_ne _ _ (by omega)).trans (hfr x y h9)
        refine lv_iinc (v := x1_7 + 1) (lv' := [(1, .int (x1_7 + 1)), (0, .ref (ad 30 0))]) hx hb d_M_remember_44 hl (k := 0) rfl rfl (by decide) rfl (fun ls hl => ?_)
        refine lv_goto (tgt := 26) hx hb d_M_remember_47 (by decide) ?_
        exact ih _ _ _ _ _ _ hE hR hfr hw (lv_sub hl [0, 1] rfl)
  refine lp_7 _ (fun z1_7 r_15 C_16 H locs ls hE hR hfr hw hl => ?_) 60 _ _ _ _ _ _ hE hR hfr hw hl
  try dsimp only at hE
  obtain rfl := Option.some.inj hE
  exact pw_vret hx hb hr hlocks hw ⟨rfl, hR, hfr⟩ d_M_remember_50
def m_tooLong_43 (K : Int32 → RS → Option (Int32 × RS)) : Nat → Int32 → RS → Option (Int32 × RS)
  | 0, _, _ => none
  | n + 1, x1_8, r => if (51 : Int32) ≤ x1_8 then (K x1_8 r) else (Option.bind (rd r.oldHandles 51 x1_8) (fun v_12 => Option.bind (wr r.handles 51 x1_8 v_12) (fun w_14 => m_tooLong_43 K n (x1_8 + 1) (RS.s_handles r w_14))))
def m_tooLong  (r : RS) : Option (Int32 × RS) := if (1400 : Int32) < r.length + r.waits then (m_tooLong_43 (fun z1_8 r_16 => some (1, r_16)) 60 0 (RS.s_given (RS.s_waits (RS.s_length r r.oldLength) r.oldWaits) r.oldGiven)) else (some (0, r))
set_option maxHeartbeats 4000000 in
set_option maxRecDepth 100000 in
theorem k_M_tooLong {l : Launch} {D : va_G} {ca : Nat → ClassId} {kS : Nat → Nat} {kT : Nat} {ad : pw_A} {C : pw_C} {r : RS} (hR : rm_at ca ad C r)  {res : (Int32 × RS)} (hE : m_tooLong  r = some res) : gc_Con l y_M_tooLong c_M_tooLong ({ frames := 0, cells := 0, slots := 0, locals := 0 }) D ca (z9_Z kS kT) [.ref (ad 30 0)] ad C (pw_pi (fun v ad' C' => (ad' = ad ∧ rm_at ca ad C' res.2 ∧ rm_fr C C') ∧ v = res.1)) 0 0 := by
  have hZ := z9_ok kS kT
  refine pw_ofW (cc := b_M_tooLong) (maxL := 2) (ret := (some FieldType.boolean)) (by decide) rfl (Nat.le_of_ble_eq_true rfl) ?_
  intro p e s m args below meth c A ls hB hA hw hK hz hl
  obtain ⟨hx, hb, hr, hml, hts0, hlocks, hown, hnm⟩ := hB
  have hts := wd_hts hts0
  have hown : s.vm.findClass "GraphWriterModel" = some m.cls := hown
  have hl : lv_has ls 2 [(0, .ref (ad 30 0))] := hl
  have hfr : rm_fr C C := fun _ _ _ => rfl
  unfold m_tooLong at hE
  refine lv_aload_n hx hb d_M_tooLong_0 rfl (lv_at hl 0 rfl) ?_
  have hc_1 : C 30 0 = some (.inr (4, [.ref (ad 31 0), .ref (ad 31 1), .ref (ad 31 2), .ref (ad 31 3), .ref (ad 31 4), .ref (ad 31 5), .ref (ad 31 6), .ref (ad 31 7), .ref (ad 31 8), .ref (ad 31 9), .ref (ad 31 10), .ref (ad 31 11), .ref (ad 31 12), .ref (ad 31 13), .ref (ad 31 14), .int r.objects, .ref (ad 31 15), .int r.length, .ref (ad 31 16), .int r.waits, .ref (ad 31 17), .int r.given, .ref (ad 31 18), .ref (ad 31 19), .ref (ad 31 20), .int r.left, .ref (ad 31 21), .ref (ad 31 22), .int r.oldLength, .int r.oldWaits, .int r.oldGiven])) := by have h9 := rm_at.o hR; exact h9
  refine pw_get (Cn := "GraphWriterModel") (T := F_M) (N := 31) hx hb hts in_M hown hK hw 30 0 rfl hc_1 rfl 17 (by decide) (hts _ wd_771) (fun _ h9 => h9) rfl d_M_tooLong_1 ?_
  refine lv_aload_n hx hb d_M_tooLong_4 rfl (lv_at hl 0 rfl) ?_
  refine pw_get (Cn := "GraphWriterModel") (T := F_M) (N := 31) hx hb hts in_M hown hK hw 30 0 rfl hc_1 rfl 19 (by decide) (hts _ wd_773) (fun _ h9 => h9) rfl d_M_tooLong_5 ?_
  refine lv_iadd hx hb d_M_tooLong_8 ?_
  refine lv_sipush (v := 1400) hx hb d_M_tooLong_9 (by decide) ?_
  refine lv_icmp_gt (tgt := 17) hx hb d_M_tooLong_12 (by decide) (fun c_2 => ?_) (fun c_2 => ?_)
  · rw [if_pos c_2] at hE
    refine lv_aload_n hx hb d_M_tooLong_17 rfl (lv_at hl 0 rfl) ?_
    refine lv_aload_n hx hb d_M_tooLong_18 rfl (lv_at hl 0 rfl) ?_
    refine pw_get (Cn := "GraphWriterModel") (T := F_M) (N := 31) hx hb hts in_M hown hK hw 30 0 rfl hc_1 rfl 28 (by decide) (hts _ wd_782) (fun _ h9 => h9) rfl d_M_tooLong_19 ?_
    refine pw_put (Cn := "GraphWriterModel") (T := F_M) (N := 31) (v := .int r.oldLength) (ty := .int) hx hb hts in_M ft_M to_M nm_M hown hK hw 30 0 (by decide) rfl hc_1 rfl 17 (by decide) (hts _ wd_771) (fun _ h9 => h9) rfl (by decide +kernel) rfl rfl (Nat.le_of_ble_eq_true rfl) d_M_tooLong_22 (fun H locs hw => ?_)
    have hw : pw_H D cls9 A s.heap ad C ad (pw_up C 30 0 (some (.inr (4, [.ref (ad 31 0), .ref (ad 31 1), .ref (ad 31 2), .ref (ad 31 3), .ref (ad 31 4), .ref (ad 31 5), .ref (ad 31 6), .ref (ad 31 7), .ref (ad 31 8), .ref (ad 31 9), .ref (ad 31 10), .ref (ad 31 11), .ref (ad 31 12), .ref (ad 31 13), .ref (ad 31 14), .int r.objects, .ref (ad 31 15), .int r.oldLength, .ref (ad 31 16), .int r.waits, .ref (ad 31 17), .int r.given, .ref (ad 31 18), .ref (ad 31 19), .ref (ad 31 20), .int r.left, .ref (ad 31 21), .ref (ad 31 22), .int r.oldLength, .int r.oldWaits, .int r.oldGiven])))) H _ := hw
    generalize hC_3 : pw_up C 30 0 (some (.inr (4, [.ref (ad 31 0), .ref (ad 31 1), .ref (ad 31 2), .ref (ad 31 3), .ref (ad 31 4), .ref (ad 31 5), .ref (ad 31 6), .ref (ad 31 7), .ref (ad 31 8), .ref (ad 31 9), .ref (ad 31 10), .ref (ad 31 11), .ref (ad 31 12), .ref (ad 31 13), .ref (ad 31 14), .int r.objects, .ref (ad 31 15), .int r.oldLength, .ref (ad 31 16), .int r.waits, .ref (ad 31 17), .int r.given, .ref (ad 31 18), .ref (ad 31 19), .ref (ad 31 20), .int r.left, .ref (ad 31 21), .ref (ad 31 22), .int r.oldLength, .int r.oldWaits, .int r.oldGiven]))) = C_3 at hw
    have hR : rm_at ca ad C_3 (RS.s_length r r.oldLength) := by rw [← hC_3]; exact rm_at.o_length hR _
    have hfr : rm_fr C C_3 := fun x y h9 => by rw [← hC_3]; exact (pw_up_ne _ _ (by omega)).trans (hfr x y h9)
    refine lv_aload_n hx hb d_M_tooLong_25 rfl (lv_at hl 0 rfl) ?_
    refine lv_aload_n hx hb d_M_tooLong_26 rfl (lv_at hl 0 rfl) ?_
    have hc_4 : C_3 30 0 = some (.inr (4, [.ref (ad 31 0), .ref (ad 31 1), .ref (ad 31 2), .ref (ad 31 3), .ref (ad 31 4), .ref (ad 31 5), .ref (ad 31 6), .ref (ad 31 7), .ref (ad 31 8), .ref (ad 31 9), .ref (ad 31 10), .ref (ad 31 11), .ref (ad 31 12), .ref (ad 31 13), .ref (ad 31 14), .int r.objects, .ref (ad 31 15), .int r.oldLength, .ref (ad 31 16), .int r.waits, .ref (ad 31 17), .int r.given, .ref (ad 31 18), .ref (ad 31 19), .ref (ad 31 20), .int r.left, .ref (ad 31 21), .ref (ad 31 22), .int r.oldLength, .int r.oldWaits, .int r.oldGiven])) := by have h9 := rm_at.o hR; exact h9
    refine pw_get (Cn := "GraphWriterModel") (T := F_M) (N := 31) hx hb hts in_M hown hK hw 30 0 rfl hc_4 rfl 29 (by decide) (hts _ wd_783) (fun _ h9 => h9) rfl d_M_tooLong_27 ?_
    refine pw_put (Cn := "GraphWriterModel") (T := F_M) (N := 31) (v := .int r.oldWaits) (ty := .int) hx hb hts in_M ft_M to_M nm_M hown hK hw 30 0 (by decide) rfl hc_4 rfl 19 (by decide) (hts _ wd_773) (fun _ h9 => h9) rfl (by decide +kernel) rfl rfl (Nat.le_of_ble_eq_true rfl) d_M_tooLong_30 (fun H locs hw => ?_)
    have hw : pw_H D cls9 A s.heap ad C ad (pw_up C_3 30 0 (some (.inr (4, [.ref (ad 31 0), .ref (ad 31 1), .ref (ad 31 2), .ref (ad 31 3), .ref (ad 31 4), .ref (ad 31 5), .ref (ad 31 6), .ref (ad 31 7), .ref (ad 31 8), .ref (ad 31 9), .ref (ad 31 10), .ref (ad 31 11), .ref (ad 31 12), .ref (ad 31 13), .ref (ad 31 14), .int r.objects, .ref (ad 31 15), .int r.oldLength, .ref (ad 31 16), .int r.oldWaits, .ref (ad 31 17), .int r.given, .ref (ad 31 18), .ref (ad 31 19), .ref (ad 31 20), .int r.left, .ref (ad 31 21), .ref (ad 31 22), .int r.oldLength, .int r.oldWaits, .int r.oldGiven])))) H _ := hw
    generalize hC_5 : pw_up C_3 30 0 (some (.inr (4, [.ref (ad 31 0), .ref (ad 31 1), .ref (ad 31 2), .ref (ad 31 3), .ref (ad 31 4), .ref (ad 31 5), .ref (ad 31 6), .ref (ad 31 7), .ref (ad 31 8), .ref (ad 31 9), .ref (ad 31 10), .ref (ad 31 11), .ref (ad 31 12), .ref (ad 31 13), .ref (ad 31 14), .int r.objects, .ref (ad 31 15), .int r.oldLength, .ref (ad 31 16), .int r.oldWaits, .ref (ad 31 17), .int r.given, .ref (ad 31 18), .ref (ad 31 19), .ref (ad 31 20), .int r.left, .ref (ad 31 21), .ref (ad 31 22), .int r.oldLength, .int r.oldWaits, .int r.oldGiven]))) = C_5 at hw
    have hR : rm_at ca ad C_5 (RS.s_waits (RS.s_length r r.oldLength) r.oldWaits) := by rw [← hC_5]; exact rm_at.o_waits hR _
    have hfr : rm_fr C C_5 := fun x y h9 => by rw [← hC_5]; exact (pw_up_ne _ _ (by omega)).trans (hfr x y h9)
    refine lv_aload_n hx hb d_M_tooLong_33 rfl (lv_at hl 0 rfl) ?_
    refine lv_aload_n hx hb d_M_tooLong_34 rfl (lv_at hl 0 rfl) ?_
    have hc_6 : C_5 30 0 = some (.inr (4, [.ref (ad 31 0), .ref (ad 31 1), .ref (ad 31 2), .ref (ad 31 3), .ref (ad 31 4), .ref (ad 31 5), .ref (ad 31 6), .ref (ad 31 7), .ref (ad 31 8), .ref (ad 31 9), .ref (ad 31 10), .ref (ad 31 11), .ref (ad 31 12), .ref (ad 31 13), .ref (ad 31 14), .int r.objects, .ref (ad 31 15), .int r.oldLength, .ref (ad 31 16), .int r.oldWaits, .ref (ad 31 17), .int r.given, .ref (ad 31 18), .ref (ad 31 19), .ref (ad 31 20), .int r.left, .ref (ad 31 21), .ref (ad 31 22), .int r.oldLength, .int r.oldWaits, .int r.oldGiven])) := by have h9 := rm_at.o hR; exact h9
    refine pw_get (Cn := "GraphWriterModel") (T := F_M) (N := 31) hx hb hts in_M hown hK hw 30 0 rfl hc_6 rfl 30 (by decide) (hts _ wd_784) (fun _ h9 => h9) rfl d_M_tooLong_35 ?_
    refine pw_put (Cn := "GraphWriterModel") (T := F_M) (N := 31) (v := .int r.oldGiven) (ty := .int) hx hb hts in_M ft_M to_M nm_M hown hK hw 30 0 (by decide) rfl hc_6 rfl 21 (by decide) (hts _ wd_775) (fun _ h9 => h9) rfl (by decide +kernel) rfl rfl (Nat.le_of_ble_eq_true rfl) d_M_tooLong_38 (fun H locs hw => ?_)
    have hw : pw_H D cls9 A s.heap ad C ad (pw_up C_5 30 0 (some (.inr (4, [.ref (ad 31 0), .ref (ad 31 1), .ref (ad 31 2), .ref (ad 31 3), .ref (ad 31 4), .ref (ad 31 5), .ref (ad 31 6), .ref (ad 31 7), .ref (ad 31 8), .ref (ad 31 9), .ref (ad 31 10), .ref (ad 31 11), .ref (ad 31 12), .ref (ad 31 13), .ref (ad 31 14), .int r.objects, .ref (ad 31 15), .int r.oldLength, .ref (ad 31 16), .int r.oldWaits, .ref (ad 31 17), .int r.oldGiven, .ref (ad 31 18), .ref (ad 31 19), .ref (ad 31 20), .int r.left, .ref (ad 31 21), .ref (ad 31 22), .int r.oldLength, .int r.oldWaits, .int r.oldGiven])))) H _ := hw
    generalize hC_7 : pw_up C_5 30 0 (some (.inr (4, [.ref (ad 31 0), .ref (ad 31 1), .ref (ad 31 2), .ref (ad 31 3), .ref (ad 31 4), .ref (ad 31 5), .ref (ad 31 6), .ref (ad 31 7), .ref (ad 31 8), .ref (ad 31 9), .ref (ad 31 10), .ref (ad 31 11), .ref (ad 31 12), .ref (ad 31 13), .ref (ad 31 14), .int r.objects, .ref (ad 31 15), .int r.oldLength, .ref (ad 31 16), .int r.oldWaits, .ref (ad 31 17), .int r.oldGiven, .ref (ad 31 18), .ref (ad 31 19), .ref (ad 31 20), .int r.left, .ref (ad 31 21), .ref (ad 31 22), .int r.oldLength, .int r.oldWaits, .int r.oldGiven]))) = C_7 at hw
    have hR : rm_at ca ad C_7 (RS.s_given (RS.s_waits (RS.s_length r r.oldLength) r.oldWaits) r.oldGiven) := by rw [← hC_7]; exact rm_at.o_given hR _
    have hfr : rm_fr C C_7 := fun x y h9 => by rw [← hC_7]; exact (pw_up_ne _ _ (by omega)).trans (hfr x y h9)
    refine lv_iconst (v := 0) hx hb d_M_tooLong_41 (by decide) ?_
    refine lv_istore_n (lv' := [(1, .int 0), (0, .ref (ad 30 0))]) hx hb d_M_tooLong_42 rfl hl (by decide) rfl (fun ls hl => ?_)
    have lp_8 : ∀ (K : Int32 → RS → Option (Int32 × RS)), (∀ (x1_8 : Int32) (r : RS) (C1 : pw_C) (H : Heap) (locs : List Loc) (ls : Array Slot), K x1_8 r = some res → rm_at ca ad C1 r → rm_fr C C1 → pw_H D cls9 A s.heap ad C ad C1 H locs → lv_has ls 2 [(1, .int x1_8), (0, .ref (ad 30 0))] → W p l e ({ frames := 0, cells := 0, slots := 0, locals := 0 }) s m args below meth c H locs 0 0 (MQ below (pw_Q D cls9 ad C (pw_pi (fun v ad' C' => (ad' = ad ∧ rm_at ca ad C' res.2 ∧ rm_fr C C') ∧ v = res.1)) A) args s 0 0 A) (F0 m 67 ls [])) → ∀ (n : Nat) (x1_8 : Int32) (r : RS) (C1 : pw_C) (H : Heap) (locs : List Loc) (ls : Array Slot), m_tooLong_43 K n x1_8 r = some res → rm_at ca ad C1 r → rm_fr C C1 → pw_H D cls9 A s.heap ad C ad C1 H locs → lv_has ls 2 [(1, .int x1_8), (0, .ref (ad 30 0))] → W p l e ({ frames := 0, cells := 0, slots := 0, locals := 0 }) s m args below meth c H locs 0 0 (MQ below (pw_Q D cls9 ad C (pw_pi (fun v ad' C' => (ad' = ad ∧ rm_at ca ad C' res.2 ∧ rm_fr C C') ∧ v = res.1)) A) args s 0 0 A) (F0 m 43 ls []) := by
      intro K hKK n
      induction n with
      | zero => intro x1_8 r C1 H locs ls hE; rw [m_tooLong_43] at hE; exact absurd hE (by simp)
      | succ n ih =>
        intro x1_8 r C1 H locs ls hE hR hfr hw hl
        rw [m_tooLong_43] at hE
        refine lv_iload_n hx hb d_M_tooLong_43 rfl (lv_at hl 0 rfl) ?_
        refine lv_bipush (v := 51) hx hb d_M_tooLong_44 (by decide) ?_
        refine lv_icmp_ge (tgt := 67) hx hb d_M_tooLong_46 (by decide) (fun c_9 => ?_) (fun c_9 => ?_)
        · rw [if_pos c_9] at hE
          exact hKK _ _ _ _ _ _ hE hR hfr hw (lv_sub hl [0, 1] rfl)
        · rw [if_neg c_9] at hE
          refine lv_aload_n hx hb d_M_tooLong_49 rfl (lv_at hl 1 rfl) ?_
          have hc_10 : C1 30 0 = some (.inr (4, [.ref (ad 31 0), .ref (ad 31 1), .ref (ad 31 2), .ref (ad 31 3), .ref (ad 31 4), .ref (ad 31 5), .ref (ad 31 6), .ref (ad 31 7), .ref (ad 31 8), .ref (ad 31 9), .ref (ad 31 10), .ref (ad 31 11), .ref (ad 31 12), .ref (ad 31 13), .ref (ad 31 14), .int r.objects, .ref (ad 31 15), .int r.length, .ref (ad 31 16), .int r.waits, .ref (ad 31 17), .int r.given, .ref (ad 31 18), .ref (ad 31 19), .ref (ad 31 20), .int r.left, .ref (ad 31 21), .ref (ad 31 22), .int r.oldLength, .int r.oldWaits, .int r.oldGiven])) := by have h9 := rm_at.o hR; exact h9
          refine pw_get (Cn := "GraphWriterModel") (T := F_M) (N := 31) hx hb hts in_M hown hK hw 30 0 rfl hc_10 rfl 20 (by decide) (hts _ wd_774) (fun _ h9 => h9) rfl d_M_tooLong_50 ?_
          refine lv_iload_n hx hb d_M_tooLong_53 rfl (lv_at hl 0 rfl) ?_
          refine lv_aload_n hx hb d_M_tooLong_54 rfl (lv_at hl 1 rfl) ?_
          refine pw_get (Cn := "GraphWriterModel") (T := F_M) (N := 31) hx hb hts in_M hown hK hw 30 0 rfl hc_10 rfl 27 (by decide) (hts _ wd_781) (fun _ h9 => h9) rfl d_M_tooLong_55 ?_
          refine lv_iload_n hx hb d_M_tooLong_58 rfl (lv_at hl 0 rfl) ?_
          have hc_11 : C1 31 22 = some (.inl (ca 0, 51, .inl r.oldHandles)) := by have h9 := rm_at.a22 hR; exact h9
          obtain ⟨v_12, hv_12, hE⟩ := ob_some hE
          obtain ⟨hi_v_12, hj_v_12, he_v_12⟩ := rd_some (by decide) hv_12
          refine pw_iald hx hb hK hw 31 22 rfl 0 hc_11 rfl (x1_8 : Int32).toNatClampNeg hi_v_12 (by omega) (by omega) d_M_tooLong_59 ?_
          rw [← he_v_12]
          have hc_13 : C1 31 17 = some (.inl (ca 0, 51, .inl r.handles)) := by have h9 := rm_at.a17 hR; exact h9
          obtain ⟨w_14, hw_14, hE⟩ := ob_some hE
          obtain ⟨hi_w_14, hj_w_14, he_w_14⟩ := wr_some (by decide) hw_14
          refine pw_iast hx hb hK hw 31 17 rfl 0 hc_13 rfl (by decide) (x1_8 : Int32).toNatClampNeg hi_w_14 (by omega) (by omega) d_M_tooLong_60 (fun H locs hw => ?_)
          rw [← he_w_14] at hw
          have hw : pw_H D cls9 A s.heap ad C ad (pw_up C1 31 17 (some (.inl (ca 0, 51, .inl w_14)))) H _ := hw
          generalize hC_15 : pw_up C1 31 17 (some (.inl (ca 0, 51, .inl w_14))) = C_15 at hw
          have hR : rm_at ca ad C_15 (RS.s_handles r w_14) := by rw [← hC_15]; exact rm_at.s17 hR _
          have hfr : rm_fr C C_15 := fun x y h9 => by rw [← hC_15]; exact (pw_up_ne _ _ (by omega)).trans (hfr x y h9)
          refine lv_iinc (v := x1_8 + 1) (lv' := [(1, .int (x1_8 + 1)), (0, .ref (ad 30 0))]) hx hb d_M_tooLong_61 hl (k := 0) rfl rfl (by decide) rfl (fun ls hl => ?_)
          refine lv_goto (tgt := 43) hx hb d_M_tooLong_64 (by decide) ?_
          exact ih _ _ _ _ _ _ hE hR hfr hw (lv_sub hl [0, 1] rfl)
    refine lp_8 _ (fun z1_8 r_16 C_17 H locs ls hE hR hfr hw hl => ?_) 60 _ _ _ _ _ _ hE hR hfr hw hl
    try dsimp only at hE
    refine lv_iconst (v := 1) hx hb d_M_tooLong_67 (by decide) ?_
    obtain rfl := Option.some.inj hE
    exact pw_zret hx hb hr hlocks hw rfl ⟨⟨rfl, hR, hfr⟩, rfl⟩ d_M_tooLong_68
  · rw [if_neg c_2] at hE
    refine lv_iconst (v := 0) hx hb d_M_tooLong_15 (by decide) ?_
    obtain rfl := Option.some.inj hE
    exact pw_zret hx hb hr hlocks hw rfl ⟨⟨rfl, hR, hfr⟩, rfl⟩ d_M_tooLong_16
def m_data_60 (K : Int32 → Int32 → Int32 → Int64 → Int32 → RS → Option (Int32 × RS)) : Nat → Int32 → Int32 → Int32 → Int64 → Int32 → RS → Option (Int32 × RS)
  | 0, _, _, _, _, _, _ => none
  | n + 1, x6_6, x5_6, x4_6, x1_6, x3_6, r => if (x6_6 : Int32) < 0 then (K x6_6 x5_6 x4_6 x1_6 x3_6 r) else (Option.bind (wr r.waiting 256 r.waits (((x1_6 >>> ((8 * x6_6).toInt64 &&& 63)).toInt32) &&& 255)) (fun w_10 => if (r.waits + 1 : Int32) = 255 then (Option.bind (m_flush  (RS.s_waits (RS.s_waiting r w_10) (r.waits + 1))) (fun y_16 => m_data_60 K n (x6_6 + (-1)) x5_6 x4_6 x1_6 x3_6 y_16)) else (m_data_60 K n (x6_6 + (-1)) x5_6 x4_6 x1_6 x3_6 (RS.s_waits (RS.s_waiting r w_10) (r.waits + 1)))))
def m_data_60' (K : Int32 → Int32 → Int32 → Int64 → Int32 → RS → Option (Int32 × RS)) : Nat → Int32 → Int32 → Int32 → Int64 → Int32 → RS → Option (Int32 × RS)
  | 0, _, _, _, _, _, _ => none
  | n + 1, x6_24, x5_24, x4_24, x1_24, x3_24, r => if (x6_24 : Int32) < 0 then (K x6_24 x5_24 x4_24 x1_24 x3_24 r) else (Option.bind (wr r.waiting 256 r.waits (((x1_24 >>> ((8 * x6_24).toInt64 &&& 63)).toInt32) &&& 255)) (fun w_28 => if (r.waits + 1 : Int32) = 255 then (Option.bind (m_flush  (RS.s_waits (RS.s_waiting r w_28) (r.waits + 1))) (fun y_34 => m_data_60' K n (x6_24 + (-1)) x5_24 x4_24 x1_24 x3_24 y_34)) else (m_data_60' K n (x6_24 + (-1)) x5_24 x4_24 x1_24 x3_24 (RS.s_waits (RS.s_waiting r w_28) (r.waits + 1)))))
def m_data (l1 : Int64) (l3 : Int32) (r : RS) : Option (Int32 × RS) := if (l3 : Int32) < 1 then (some ((-1), r)) else (if (l3 : Int32) ≤ 8 then (if (r.waits + l3 : Int32) < 255 then (if ((r.length + (r.waits + l3)) + 0 : Int32) ≤ 1400 then (m_data_60 (fun z6_6 z5_6 z4_6 z1_6 z3_6 r_20 => some (r_20.waits, r_20)) 60 (l3 - 1) ((r.length + (r.waits + l3)) + 0) (r.waits + l3) l1 l3 r) else (some ((-2), r))) else (if ((r.length + (r.waits + l3)) + 2 : Int32) ≤ 1400 then (m_data_60' (fun z6_24 z5_24 z4_24 z1_24 z3_24 r_38 => some (r_38.waits, r_38)) 60 (l3 - 1) ((r.length + (r.waits + l3)) + 2) (r.waits + l3) l1 l3 r) else (some ((-2), r)))) else (some ((-1), r)))
set_option maxHeartbeats 4000000 in
set_option maxRecDepth 100000 in
theorem k_M_data {l : Launch} {D : va_G} {ca : Nat → ClassId} {kS : Nat → Nat} {kT : Nat} {ad : pw_A} {C : pw_C} {r : RS} (hR : rm_at ca ad C r) {l1 : Int64} {l3 : Int32} {res : (Int32 × RS)} (hE : m_data l1 l3 r = some res) : gc_Con l y_M_data c_M_data ({ frames := 2, cells := 0, slots := 0, locals := 45 }) D ca (z9_Z kS kT) [.ref (ad 30 0), .long l1, .int l3] ad C (pw_pi (fun v ad' C' => (ad' = ad ∧ rm_at ca ad C' res.2 ∧ rm_fr C C') ∧ v = res.1)) 0 0 := by
  have hZ := z9_ok kS kT
  refine pw_ofW (cc := b_M_data) (maxL := 7) (ret := (some FieldType.int)) (by decide) rfl (Nat.le_of_ble_eq_true rfl) ?_
  intro p e s m args below meth c A ls hB hA hw hK hz hl
  obtain ⟨hx, hb, hr, hml, hts0, hlocks, hown, hnm⟩ := hB
  have hts := wd_hts hts0
  have hown : s.vm.findClass "GraphWriterModel" = some m.cls := hown
  have hl : lv_has ls 7 [(0, .ref (ad 30 0)), (1, .long l1), (3, .int l3)] := hl
  have hfr : rm_fr C C := fun _ _ _ => rfl
  unfold m_data at hE
  refine lv_iload_n hx hb d_M_data_0 rfl (lv_at hl 2 rfl) ?_
  refine lv_iconst (v := 1) hx hb d_M_data_1 (by decide) ?_
  refine lv_icmp_lt (tgt := 11) hx hb d_M_data_2 (by decide) (fun c_1 => ?_) (fun c_1 => ?_)
  · rw [if_pos c_1] at hE
    refine lv_iconst (v := (-1)) hx hb d_M_data_11 (by decide) ?_
    obtain rfl := Option.some.inj hE
    exact pw_iret hx hb hr hlocks hw ⟨⟨rfl, hR, hfr⟩, rfl⟩ d_M_data_12
  · rw [if_neg c_1] at hE
    refine lv_iload_n hx hb d_M_data_5 rfl (lv_at hl 2 rfl) ?_
    refine lv_bipush (v := 8) hx hb d_M_data_6 (by decide) ?_
    refine lv_icmp_le (tgt := 13) hx hb d_M_data_8 (by decide) (fun c_2 => ?_) (fun c_2 => ?_)
    · rw [if_pos c_2] at hE
      refine lv_aload_n hx hb d_M_data_13 rfl (lv_at hl 0 rfl) ?_
      have hc_3 : C 30 0 = some (.inr (4, [.ref (ad 31 0), .ref (ad 31 1), .ref (ad 31 2), .ref (ad 31 3), .ref (ad 31 4), .ref (ad 31 5), .ref (ad 31 6), .ref (ad 31 7), .ref (ad 31 8), .ref (ad 31 9), .ref (ad 31 10), .ref (ad 31 11), .ref (ad 31 12), .ref (ad 31 13), .ref (ad 31 14), .int r.objects, .ref (ad 31 15), .int r.length, .ref (ad 31 16), .int r.waits, .ref (ad 31 17), .int r.given, .ref (ad 31 18), .ref (ad 31 19), .ref (ad 31 20), .int r.left, .ref (ad 31 21), .ref (ad 31 22), .int r.oldLength, .int r.oldWaits, .int r.oldGiven])) := by have h9 := rm_at.o hR; exact h9
      refine pw_get (Cn := "GraphWriterModel") (T := F_M) (N := 31) hx hb hts in_M hown hK hw 30 0 rfl hc_3 rfl 19 (by decide) (hts _ wd_773) (fun _ h9 => h9) rfl d_M_data_14 ?_
      refine lv_iload_n hx hb d_M_data_17 rfl (lv_at hl 2 rfl) ?_
      refine lv_iadd hx hb d_M_data_18 ?_
      refine lv_istore (lv' := [(4, .int (r.waits + l3)), (0, .ref (ad 30 0)), (1, .long l1), (3, .int l3)]) hx hb d_M_data_19 hl (by decide) rfl (fun ls hl => ?_)
      refine lv_aload_n hx hb d_M_data_21 rfl (lv_at hl 1 rfl) ?_
      refine pw_get (Cn := "GraphWriterModel") (T := F_M) (N := 31) hx hb hts in_M hown hK hw 30 0 rfl hc_3 rfl 17 (by decide) (hts _ wd_771) (fun _ h9 => h9) rfl d_M_data_22 ?_
      refine lv_iload hx hb d_M_data_25 (lv_at hl 0 rfl) ?_
      refine lv_iadd hx hb d_M_data_27 ?_
      refine lv_iload hx hb d_M_data_28 (lv_at hl 0 rfl) ?_
      refine lv_sipush (v := 255) hx hb d_M_data_30 (by decide) ?_
      refine lv_icmp_lt (tgt := 40) hx hb d_M_data_33 (by decide) (fun c_4 => ?_) (fun c_4 => ?_)
      · rw [if_pos c_4] at hE
        refine lv_iconst (v := 0) hx hb d_M_data_40 (by decide) ?_
        refine lv_iadd hx hb d_M_data_41 ?_
        refine lv_istore (lv' := [(5, .int ((r.length + (r.waits + l3)) + 0)), (4, .int (r.waits + l3)), (0, .ref (ad 30 0)), (1, .long l1), (3, .int l3)]) hx hb d_M_data_42 hl (by decide) rfl (fun ls hl => ?_)
        refine lv_iload hx hb d_M_data_44 (lv_at hl 0 rfl) ?_
        refine lv_sipush (v := 1400) hx hb d_M_data_46 (by decide) ?_
        refine lv_icmp_le (tgt := 55) hx hb d_M_data_49 (by decide) (fun c_5 => ?_) (fun c_5 => ?_)
        · rw [if_pos c_5] at hE
          refine lv_iload_n hx hb d_M_data_55 rfl (lv_at hl 4 rfl) ?_
          refine lv_iconst (v := 1) hx hb d_M_data_56 (by decide) ?_
          refine lv_isub hx hb d_M_data_57 ?_
          refine lv_istore (lv' := [(6, .int (l3 - 1)), (5, .int ((r.length + (r.waits + l3)) + 0)), (4, .int (r.waits + l3)), (0, .ref (ad 30 0)), (1, .long l1), (3, .int l3)]) hx hb d_M_data_58 hl (by decide) rfl (fun ls hl => ?_)
          have lp_6 : ∀ (K : Int32 → Int32 → Int32 → Int64 → Int32 → RS → Option (Int32 × RS)), (∀ (x6_6 : Int32) (x5_6 : Int32) (x4_6 : Int32) (x1_6 : Int64) (x3_6 : Int32) (r : RS) (C1 : pw_C) (H : Heap) (locs : List Loc) (ls : Array Slot), K x6_6 x5_6 x4_6 x1_6 x3_6 r = some res → rm_at ca ad C1 r → rm_fr C C1 → pw_H D cls9 A s.heap ad C ad C1 H locs → lv_has ls 7 [(6, .int x6_6), (5, .int x5_6), (4, .int x4_6), (0, .ref (ad 30 0)), (1, .long x1_6), (3, .int x3_6)] → W p l e ({ frames := 2, cells := 0, slots := 0, locals := 45 }) s m args below meth c H locs 0 0 (MQ below (pw_Q D cls9 ad C (pw_pi (fun v ad' C' => (ad' = ad ∧ rm_at ca ad C' res.2 ∧ rm_fr C C') ∧ v = res.1)) A) args s 0 0 A) (F0 m 116 ls [])) → ∀ (n : Nat) (x6_6 : Int32) (x5_6 : Int32) (x4_6 : Int32) (x1_6 : Int64) (x3_6 : Int32) (r : RS) (C1 : pw_C) (H : Heap) (locs : List Loc) (ls : Array Slot), m_data_60 K n x6_6 x5_6 x4_6 x1_6 x3_6 r = some res → rm_at ca ad C1 r → rm_fr C C1 → pw_H D cls9 A s.heap ad C ad C1 H locs → lv_has ls 7 [(6, .int x6_6), (5, .int x5_6), (4, .int x4_6), (0, .ref (ad 30 0)), (1, .long x1_6), (3, .int x3_6)] → W p l e ({ frames := 2, cells := 0, slots := 0, locals := 45 }) s m args below meth c H locs 0 0 (MQ below (pw_Q D cls9 ad C (pw_pi (fun v ad' C' => (ad' = ad ∧ rm_at ca ad C' res.2 ∧ rm_fr C C') ∧ v = res.1)) A) args s 0 0 A) (F0 m 60 ls []) := by
            intro K hKK n
            induction n with
            | zero => intro x6_6 x5_6 x4_6 x1_6 x3_6 r C1 H locs ls hE; rw [m_data_60] at hE; exact absurd hE (by simp)
            | succ n ih =>
              intro x6_6 x5_6 x4_6 x1_6 x3_6 r C1 H locs ls hE hR hfr hw hl
              rw [m_data_60] at hE
              refine lv_iload hx hb d_M_data_60 (lv_at hl 0 rfl) ?_
              refine lv_if_lt (tgt := 116) hx hb d_M_data_62 (by decide) (fun c_7 => ?_) (fun c_7 => ?_)
              · rw [if_pos c_7] at hE
                exact hKK _ _ _ _ _ _ _ _ _ _ hE hR hfr hw (lv_sub hl [0, 1, 2, 3, 4, 5] rfl)
              · rw [if_neg c_7] at hE
                refine lv_aload_n hx hb d_M_data_65 rfl (lv_at hl 3 rfl) ?_
                have hc_8 : C1 30 0 = some (.inr (4, [.ref (ad 31 0), .ref (ad 31 1), .ref (ad 31 2), .ref (ad 31 3), .ref (ad 31 4), .ref (ad 31 5), .ref (ad 31 6), .ref (ad 31 7), .ref (ad 31 8), .ref (ad 31 9), .ref (ad 31 10), .ref (ad 31 11), .ref (ad 31 12), .ref (ad 31 13), .ref (ad 31 14), .int r.objects, .ref (ad 31 15), .int r.length, .ref (ad 31 16), .int r.waits, .ref (ad 31 17), .int r.given, .ref (ad 31 18), .ref (ad 31 19), .ref (ad 31 20), .int r.left, .ref (ad 31 21), .ref (ad 31 22), .int r.oldLength, .int r.oldWaits, .int r.oldGiven])) := by have h9 := rm_at.o hR; exact h9
                refine pw_get (Cn := "GraphWriterModel") (T := F_M) (N := 31) hx hb hts in_M hown hK hw 30 0 rfl hc_8 rfl 18 (by decide) (hts _ wd_772) (fun _ h9 => h9) rfl d_M_data_66 ?_
                refine lv_aload_n hx hb d_M_data_69 rfl (lv_at hl 3 rfl) ?_
                refine pw_get (Cn := "GraphWriterModel") (T := F_M) (N := 31) hx hb hts in_M hown hK hw 30 0 rfl hc_8 rfl 19 (by decide) (hts _ wd_773) (fun _ h9 => h9) rfl d_M_data_70 ?_
                refine lv_lload_n hx hb d_M_data_73 rfl (lv_at hl 4 rfl) ?_
                refine lv_bipush (v := 8) hx hb d_M_data_74 (by decide) ?_
                refine lv_iload hx hb d_M_data_76 (lv_at hl 0 rfl) ?_
                refine lv_imul hx hb d_M_data_78 ?_
                refine lv_lshr hx hb d_M_data_79 rfl ?_
                refine lv_l2i hx hb d_M_data_80 rfl ?_
                refine lv_sipush (v := 255) hx hb d_M_data_81 (by decide) ?_
                refine lv_iand hx hb d_M_data_84 ?_
                have hc_9 : C1 31 16 = some (.inl (ca 0, 256, .inl r.waiting)) := by have h9 := rm_at.a16 hR; exact h9
                obtain ⟨w_10, hw_10, hE⟩ := ob_some hE
                obtain ⟨hi_w_10, hj_w_10, he_w_10⟩ := wr_some (by decide) hw_10
                refine pw_iast hx hb hK hw 31 16 rfl 0 hc_9 rfl (by decide) (r.waits : Int32).toNatClampNeg hi_w_10 (by omega) (by omega) d_M_data_85 (fun H locs hw => ?_)
                rw [← he_w_10] at hw
                have hw : pw_H D cls9 A s.heap ad C ad (pw_up C1 31 16 (some (.inl (ca 0, 256, .inl w_10)))) H _ := hw
                generalize hC_11 : pw_up C1 31 16 (some (.inl (ca 0, 256, .inl w_10))) = C_11 at hw
                have hR : rm_at ca ad C_11 (RS.s_waiting r w_10) := by rw [← hC_11]; exact rm_at.s16 hR _
                have hfr : rm_fr C C_11 := fun x y h9 => by rw [← hC_11]; exact (pw_up_ne _ _ (by omega)).trans (hfr x y h9)
                refine lv_aload_n hx hb d_M_data_86 rfl (lv_at hl 3 rfl) ?_
                refine lv_dup hx hb d_M_data_87 rfl ?_
                have hc_12 : C_11 30 0 = some (.inr (4, [.ref (ad 31 0), .ref (ad 31 1), .ref (ad 31 2), .ref (ad 31 3), .ref (ad 31 4), .ref (ad 31 5), .ref (ad 31 6), .ref (ad 31 7), .ref (ad 31 8), .ref (ad 31 9), .ref (ad 31 10), .ref (ad 31 11), .ref (ad 31 12), .ref (ad 31 13), .ref (ad 31 14), .int r.objects, .ref (ad 31 15), .int r.length, .ref (ad 31 16), .int r.waits, .ref (ad 31 17), .int r.given, .ref (ad 31 18), .ref (ad 31 19), .ref (ad 31 20), .int r.left, .ref (ad 31 21), .ref (ad 31 22), .int r.oldLength, .int r.oldWaits, .int r.oldGiven])) := by have h9 := rm_at.o hR; exact h9
                refine pw_get (Cn := "GraphWriterModel") (T := F_M) (N := 31) hx hb hts in_M hown hK hw 30 0 rfl hc_12 rfl 19 (by decide) (hts _ wd_773) (fun _ h9 => h9) rfl d_M_data_88 ?_
                refine lv_iconst (v := 1) hx hb d_M_data_91 (by decide) ?_
                refine lv_iadd hx hb d_M_data_92 ?_
                refine pw_put (Cn := "GraphWriterModel") (T := F_M) (N := 31) (v := .int (r.waits + 1)) (ty := .int) hx hb hts in_M ft_M to_M nm_M hown hK hw 30 0 (by decide) rfl hc_12 rfl 19 (by decide) (hts _ wd_773) (fun _ h9 => h9) rfl (by decide +kernel) rfl rfl (Nat.le_of_ble_eq_true rfl) d_M_data_93 (fun H locs hw => ?_)
                have hw : pw_H D cls9 A s.heap ad C ad (pw_up C_11 30 0 (some (.inr (4, [.ref (ad 31 0), .ref (ad 31 1), .ref (ad 31 2), .ref (ad 31 3), .ref (ad 31 4), .ref (ad 31 5), .ref (ad 31 6), .ref (ad 31 7), .ref (ad 31 8), .ref (ad 31 9), .ref (ad 31 10), .ref (ad 31 11), .ref (ad 31 12), .ref (ad 31 13), .ref (ad 31 14), .int r.objects, .ref (ad 31 15), .int r.length, .ref (ad 31 16), .int (r.waits + 1), .ref (ad 31 17), .int r.given, .ref (ad 31 18), .ref (ad 31 19), .ref (ad 31 20), .int r.left, .ref (ad 31 21), .ref (ad 31 22), .int r.oldLength, .int r.oldWaits, .int r.oldGiven])))) H _ := hw
                generalize hC_13 : pw_up C_11 30 0 (some (.inr (4, [.ref (ad 31 0), .ref (ad 31 1), .ref (ad 31 2), .ref (ad 31 3), .ref (ad 31 4), .ref (ad 31 5), .ref (ad 31 6), .ref (ad 31 7), .ref (ad 31 8), .ref (ad 31 9), .ref (ad 31 10), .ref (ad 31 11), .ref (ad 31 12), .ref (ad 31 13), .ref (ad 31 14), .int r.objects, .ref (ad 31 15), .int r.length, .ref (ad 31 16), .int (r.waits + 1), .ref (ad 31 17), .int r.given, .ref (ad 31 18), .ref (ad 31 19), .ref (ad 31 20), .int r.left, .ref (ad 31 21), .ref (ad 31 22), .int r.oldLength, .int r.oldWaits, .int r.oldGiven]))) = C_13 at hw
                have hR : rm_at ca ad C_13 (RS.s_waits (RS.s_waiting r w_10) (r.waits + 1)) := by rw [← hC_13]; exact rm_at.o_waits hR _
                have hfr : rm_fr C C_13 := fun x y h9 => by rw [← hC_13]; exact (pw_up_ne _ _ (by omega)).trans (hfr x y h9)
                refine lv_aload_n hx hb d_M_data_96 rfl (lv_at hl 3 rfl) ?_
                have hc_14 : C_13 30 0 = some (.inr (4, [.ref (ad 31 0), .ref (ad 31 1), .ref (ad 31 2), .ref (ad 31 3), .ref (ad 31 4), .ref (ad 31 5), .ref (ad 31 6), .ref (ad 31 7), .ref (ad 31 8), .ref (ad 31 9), .ref (ad 31 10), .ref (ad 31 11), .ref (ad 31 12), .ref (ad 31 13), .ref (ad 31 14), .int r.objects, .ref (ad 31 15), .int r.length, .ref (ad 31 16), .int (r.waits + 1), .ref (ad 31 17), .int r.given, .ref (ad 31 18), .ref (ad 31 19), .ref (ad 31 20), .int r.left, .ref (ad 31 21), .ref (ad 31 22), .int r.oldLength, .int r.oldWaits, .int r.oldGiven])) := by have h9 := rm_at.o hR; exact h9
                refine pw_get (Cn := "GraphWriterModel") (T := F_M) (N := 31) hx hb hts in_M hown hK hw 30 0 rfl hc_14 rfl 19 (by decide) (hts _ wd_773) (fun _ h9 => h9) rfl d_M_data_97 ?_
                refine lv_sipush (v := 255) hx hb d_M_data_100 (by decide) ?_
                refine lv_icmp_ne (tgt := 110) hx hb d_M_data_103 (by decide) (fun c_15 => ?_) (fun c_15 => ?_)
                · rw [if_neg c_15] at hE
                  refine lv_iinc (v := x6_6 + (-1)) (lv' := [(6, .int (x6_6 + (-1))), (5, .int x5_6), (4, .int x4_6), (0, .ref (ad 30 0)), (1, .long x1_6), (3, .int x3_6)]) hx hb d_M_data_110 hl (k := 0) rfl rfl (by decide) rfl (fun ls hl => ?_)
                  refine lv_goto (tgt := 60) hx hb d_M_data_113 (by decide) ?_
                  exact ih _ _ _ _ _ _ _ _ _ _ hE hR hfr hw (lv_sub hl [0, 1, 2, 3, 4, 5] rfl)
                · rw [if_pos c_15] at hE
                  refine lv_aload_n hx hb d_M_data_106 rfl (lv_at hl 3 rfl) ?_
                  obtain ⟨y_16, hy_16, hE⟩ := ob_some hE
                  refine pw_callv (va_runV (As := []) (rest := []) ⟨hx, hb, hml, hown, hts0⟩ (k_M_flush hR hy_16 _) (cwV 0 hts0 (wd_V wd_925 wd_922 wd_924 wd_30 wd_56) rfl rfl rfl (by decide +kernel) ⟨Nat.le_of_ble_eq_true rfl, Nat.le_of_ble_eq_true rfl⟩) (pw_preV hZ hw hA hK hz rfl hc_14 rfl) rfl rfl hl.1 rfl (lv_room (Nat.le_of_ble_eq_true rfl)) d_M_data_107 ⟨Nat.le_of_ble_eq_true rfl, Nat.le_of_ble_eq_true rfl⟩) hw hA (fun ad_17 C_18 H locs hp hw => ?_)
                  obtain ⟨hae, hR, hf1⟩ := hp
                  rw [hae] at hw
                  clear hae
                  have hfr : rm_fr C C_18 := fun x y h9 => (hf1 x y h9).trans (hfr x y h9)
                  clear hf1
                  refine lv_iinc (v := x6_6 + (-1)) (lv' := [(6, .int (x6_6 + (-1))), (5, .int x5_6), (4, .int x4_6), (0, .ref (ad 30 0)), (1, .long x1_6), (3, .int x3_6)]) hx hb d_M_data_110 hl (k := 0) rfl rfl (by decide) rfl (fun ls hl => ?_)
                  refine lv_goto (tgt := 60) hx hb d_M_data_113 (by decide) ?_
                  exact ih _ _ _ _ _ _ _ _ _ _ hE hR hfr hw (lv_sub hl [0, 1, 2, 3, 4, 5] rfl)
          refine lp_6 _ (fun z6_6 z5_6 z4_6 z1_6 z3_6 r_20 C_21 H locs ls hE hR hfr hw hl => ?_) 60 _ _ _ _ _ _ _ _ _ _ hE hR hfr hw hl
          try dsimp only at hE
          refine lv_aload_n hx hb d_M_data_116 rfl (lv_at hl 3 rfl) ?_
          have hc_22 : C_21 30 0 = some (.inr (4, [.ref (ad 31 0), .ref (ad 31 1), .ref (ad 31 2), .ref (ad 31 3), .ref (ad 31 4), .ref (ad 31 5), .ref (ad 31 6), .ref (ad 31 7), .ref (ad 31 8), .ref (ad 31 9), .ref (ad 31 10), .ref (ad 31 11), .ref (ad 31 12), .ref (ad 31 13), .ref (ad 31 14), .int r_20.objects, .ref (ad 31 15), .int r_20.length, .ref (ad 31 16), .int r_20.waits, .ref (ad 31 17), .int r_20.given, .ref (ad 31 18), .ref (ad 31 19), .ref (ad 31 20), .int r_20.left, .ref (ad 31 21), .ref (ad 31 22), .int r_20.oldLength, .int r_20.oldWaits, .int r_20.oldGiven])) := by have h9 := rm_at.o hR; exact h9
          refine pw_get (Cn := "GraphWriterModel") (T := F_M) (N := 31) hx hb hts in_M hown hK hw 30 0 rfl hc_22 rfl 19 (by decide) (hts _ wd_773) (fun _ h9 => h9) rfl d_M_data_117 ?_
          obtain rfl := Option.some.inj hE
          exact pw_iret hx hb hr hlocks hw ⟨⟨rfl, hR, hfr⟩, rfl⟩ d_M_data_120
        · rw [if_neg c_5] at hE
          refine lv_bipush (v := (-2)) hx hb d_M_data_52 (by decide) ?_
          obtain rfl := Option.some.inj hE
          exact pw_iret hx hb hr hlocks hw ⟨⟨rfl, hR, hfr⟩, rfl⟩ d_M_data_54
      · rw [if_neg c_4] at hE
        refine lv_iconst (v := 2) hx hb d_M_data_36 (by decide) ?_
        refine lv_goto (tgt := 41) hx hb d_M_data_37 (by decide) ?_
        refine lv_iadd hx hb d_M_data_41 ?_
        refine lv_istore (lv' := [(5, .int ((r.length + (r.waits + l3)) + 2)), (4, .int (r.waits + l3)), (0, .ref (ad 30 0)), (1, .long l1), (3, .int l3)]) hx hb d_M_data_42 hl (by decide) rfl (fun ls hl => ?_)
        refine lv_iload hx hb d_M_data_44 (lv_at hl 0 rfl) ?_
        refine lv_sipush (v := 1400) hx hb d_M_data_46 (by decide) ?_
        refine lv_icmp_le (tgt := 55) hx hb d_M_data_49 (by decide) (fun c_23 => ?_) (fun c_23 => ?_)
        · rw [if_pos c_23] at hE
          refine lv_iload_n hx hb d_M_data_55 rfl (lv_at hl 4 rfl) ?_
          refine lv_iconst (v := 1) hx hb d_M_data_56 (by decide) ?_
          refine lv_isub hx hb d_M_data_57 ?_
          refine lv_istore (lv' := [(6, .int (l3 - 1)), (5, .int ((r.length + (r.waits + l3)) + 2)), (4, .int (r.waits + l3)), (0, .ref (ad 30 0)), (1, .long l1), (3, .int l3)]) hx hb d_M_data_58 hl (by decide) rfl (fun ls hl => ?_)
          have lp_24 : ∀ (K : Int32 → Int32 → Int32 → Int64 → Int32 → RS → Option (Int32 × RS)), (∀ (x6_24 : Int32) (x5_24 : Int32) (x4_24 : Int32) (x1_24 : Int64) (x3_24 : Int32) (r : RS) (C1 : pw_C) (H : Heap) (locs : List Loc) (ls : Array Slot), K x6_24 x5_24 x4_24 x1_24 x3_24 r = some res → rm_at ca ad C1 r → rm_fr C C1 → pw_H D cls9 A s.heap ad C ad C1 H locs → lv_has ls 7 [(6, .int x6_24), (5, .int x5_24), (4, .int x4_24), (0, .ref (ad 30 0)), (1, .long x1_24), (3, .int x3_24)] → W p l e ({ frames := 2, cells := 0, slots := 0, locals := 45 }) s m args below meth c H locs 0 0 (MQ below (pw_Q D cls9 ad C (pw_pi (fun v ad' C' => (ad' = ad ∧ rm_at ca ad C' res.2 ∧ rm_fr C C') ∧ v = res.1)) A) args s 0 0 A) (F0 m 116 ls [])) → ∀ (n : Nat) (x6_24 : Int32) (x5_24 : Int32) (x4_24 : Int32) (x1_24 : Int64) (x3_24 : Int32) (r : RS) (C1 : pw_C) (H : Heap) (locs : List Loc) (ls : Array Slot), m_data_60' K n x6_24 x5_24 x4_24 x1_24 x3_24 r = some res → rm_at ca ad C1 r → rm_fr C C1 → pw_H D cls9 A s.heap ad C ad C1 H locs → lv_has ls 7 [(6, .int x6_24), (5, .int x5_24), (4, .int x4_24), (0, .ref (ad 30 0)), (1, .long x1_24), (3, .int x3_24)] → W p l e ({ frames := 2, cells := 0, slots := 0, locals := 45 }) s m args below meth c H locs 0 0 (MQ below (pw_Q D cls9 ad C (pw_pi (fun v ad' C' => (ad' = ad ∧ rm_at ca ad C' res.2 ∧ rm_fr C C') ∧ v = res.1)) A) args s 0 0 A) (F0 m 60 ls []) := by
            intro K hKK n
            induction n with
            | zero => intro x6_24 x5_24 x4_24 x1_24 x3_24 r C1 H locs ls hE; rw [m_data_60'] at hE; exact absurd hE (by simp)
            | succ n ih =>
              intro x6_24 x5_24 x4_24 x1_24 x3_24 r C1 H locs ls hE hR hfr hw hl
              rw [m_data_60'] at hE
              refine lv_iload hx hb d_M_data_60 (lv_at hl 0 rfl) ?_
              refine lv_if_lt (tgt := 116) hx hb d_M_data_62 (by decide) (fun c_25 => ?_) (fun c_25 => ?_)
              · rw [if_pos c_25] at hE
                exact hKK _ _ _ _ _ _ _ _ _ _ hE hR hfr hw (lv_sub hl [0, 1, 2, 3, 4, 5] rfl)
              · rw [if_neg c_25] at hE
                refine lv_aload_n hx hb d_M_data_65 rfl (lv_at hl 3 rfl) ?_
                have hc_26 : C1 30 0 = some (.inr (4, [.ref (ad 31 0), .ref (ad 31 1), .ref (ad 31 2), .ref (ad 31 3), .ref (ad 31 4), .ref (ad 31 5), .ref (ad 31 6), .ref (ad 31 7), .ref (ad 31 8), .ref (ad 31 9), .ref (ad 31 10), .ref (ad 31 11), .ref (ad 31 12), .ref (ad 31 13), .ref (ad 31 14), .int r.objects, .ref (ad 31 15), .int r.length, .ref (ad 31 16), .int r.waits, .ref (ad 31 17), .int r.given, .ref (ad 31 18), .ref (ad 31 19), .ref (ad 31 20), .int r.left, .ref (ad 31 21), .ref (ad 31 22), .int r.oldLength, .int r.oldWaits, .int r.oldGiven])) := by have h9 := rm_at.o hR; exact h9
                refine pw_get (Cn := "GraphWriterModel") (T := F_M) (N := 31) hx hb hts in_M hown hK hw 30 0 rfl hc_26 rfl 18 (by decide) (hts _ wd_772) (fun _ h9 => h9) rfl d_M_data_66 ?_
                refine lv_aload_n hx hb d_M_data_69 rfl (lv_at hl 3 rfl) ?_
                refine pw_get (Cn := "GraphWriterModel") (T := F_M) (N := 31) hx hb hts in_M hown hK hw 30 0 rfl hc_26 rfl 19 (by decide) (hts _ wd_773) (fun _ h9 => h9) rfl d_M_data_70 ?_
                refine lv_lload_n hx hb d_M_data_73 rfl (lv_at hl 4 rfl) ?_
                refine lv_bipush (v := 8) hx hb d_M_data_74 (by decide) ?_
                refine lv_iload hx hb d_M_data_76 (lv_at hl 0 rfl) ?_
                refine lv_imul hx hb d_M_data_78 ?_
                refine lv_lshr hx hb d_M_data_79 rfl ?_
                refine lv_l2i hx hb d_M_data_80 rfl ?_
                refine lv_sipush (v := 255) hx hb d_M_data_81 (by decide) ?_
                refine lv_iand hx hb d_M_data_84 ?_
                have hc_27 : C1 31 16 = some (.inl (ca 0, 256, .inl r.waiting)) := by have h9 := rm_at.a16 hR; exact h9
                obtain ⟨w_28, hw_28, hE⟩ := ob_some hE
                obtain ⟨hi_w_28, hj_w_28, he_w_28⟩ := wr_some (by decide) hw_28
                refine pw_iast hx hb hK hw 31 16 rfl 0 hc_27 rfl (by decide) (r.waits : Int32).toNatClampNeg hi_w_28 (by omega) (by omega) d_M_data_85 (fun H locs hw => ?_)
                rw [← he_w_28] at hw
                have hw : pw_H D cls9 A s.heap ad C ad (pw_up C1 31 16 (some (.inl (ca 0, 256, .inl w_28)))) H _ := hw
                generalize hC_29 : pw_up C1 31 16 (some (.inl (ca 0, 256, .inl w_28))) = C_29 at hw
                have hR : rm_at ca ad C_29 (RS.s_waiting r w_28) := by rw [← hC_29]; exact rm_at.s16 hR _
                have hfr : rm_fr C C_29 := fun x y h9 => by rw [← hC_29]; exact (pw_up_ne _ _ (by omega)).trans (hfr x y h9)
                refine lv_aload_n hx hb d_M_data_86 rfl (lv_at hl 3 rfl) ?_
                refine lv_dup hx hb d_M_data_87 rfl ?_
                have hc_30 : C_29 30 0 = some (.inr (4, [.ref (ad 31 0), .ref (ad 31 1), .ref (ad 31 2), .ref (ad 31 3), .ref (ad 31 4), .ref (ad 31 5), .ref (ad 31 6), .ref (ad 31 7), .ref (ad 31 8), .ref (ad 31 9), .ref (ad 31 10), .ref (ad 31 11), .ref (ad 31 12), .ref (ad 31 13), .ref (ad 31 14), .int r.objects, .ref (ad 31 15), .int r.length, .ref (ad 31 16), .int r.waits, .ref (ad 31 17), .int r.given, .ref (ad 31 18), .ref (ad 31 19), .ref (ad 31 20), .int r.left, .ref (ad 31 21), .ref (ad 31 22), .int r.oldLength, .int r.oldWaits, .int r.oldGiven])) := by have h9 := rm_at.o hR; exact h9
                refine pw_get (Cn := "GraphWriterModel") (T := F_M) (N := 31) hx hb hts in_M hown hK hw 30 0 rfl hc_30 rfl 19 (by decide) (hts _ wd_773) (fun _ h9 => h9) rfl d_M_data_88 ?_
                refine lv_iconst (v := 1) hx hb d_M_data_91 (by decide) ?_
                refine lv_iadd hx hb d_M_data_92 ?_
                refine pw_put (Cn := "GraphWriterModel") (T := F_M) (N := 31) (v := .int (r.waits + 1)) (ty := .int) hx hb hts in_M ft_M to_M nm_M hown hK hw 30 0 (by decide) rfl hc_30 rfl 19 (by decide) (hts _ wd_773) (fun _ h9 => h9) rfl (by decide +kernel) rfl rfl (Nat.le_of_ble_eq_true rfl) d_M_data_93 (fun H locs hw => ?_)
                have hw : pw_H D cls9 A s.heap ad C ad (pw_up C_29 30 0 (some (.inr (4, [.ref (ad 31 0), .ref (ad 31 1), .ref (ad 31 2), .ref (ad 31 3), .ref (ad 31 4), .ref (ad 31 5), .ref (ad 31 6), .ref (ad 31 7), .ref (ad 31 8), .ref (ad 31 9), .ref (ad 31 10), .ref (ad 31 11), .ref (ad 31 12), .ref (ad 31 13), .ref (ad 31 14), .int r.objects, .ref (ad 31 15), .int r.length, .ref (ad 31 16), .int (r.waits + 1), .ref (ad 31 17), .int r.given, .ref (ad 31 18), .ref (ad 31 19), .ref (ad 31 20), .int r.left, .ref (ad 31 21), .ref (ad 31 22), .int r.oldLength, .int r.oldWaits, .int r.oldGiven])))) H _ := hw
                generalize hC_31 : pw_up C_29 30 0 (some (.inr (4, [.ref (ad 31 0), .ref (ad 31 1), .ref (ad 31 2), .ref (ad 31 3), .ref (ad 31 4), .ref (ad 31 5), .ref (ad 31 6), .ref (ad 31 7), .ref (ad 31 8), .ref (ad 31 9), .ref (ad 31 10), .ref (ad 31 11), .ref (ad 31 12), .ref (ad 31 13), .ref (ad 31 14), .int r.objects, .ref (ad 31 15), .int r.length, .ref (ad 31 16), .int (r.waits + 1), .ref (ad 31 17), .int r.given, .ref (ad 31 18), .ref (ad 31 19), .ref (ad 31 20), .int r.left, .ref (ad 31 21), .ref (ad 31 22), .int r.oldLength, .int r.oldWaits, .int r.oldGiven]))) = C_31 at hw
                have hR : rm_at ca ad C_31 (RS.s_waits (RS.s_waiting r w_28) (r.waits + 1)) := by rw [← hC_31]; exact rm_at.o_waits hR _
                have hfr : rm_fr C C_31 := fun x y h9 => by rw [← hC_31]; exact (pw_up_ne _ _ (by omega)).trans (hfr x y h9)
                refine lv_aload_n hx hb d_M_data_96 rfl (lv_at hl 3 rfl) ?_
                have hc_32 : C_31 30 0 = some (.inr (4, [.ref (ad 31 0), .ref (ad 31 1), .ref (ad 31 2), .ref (ad 31 3), .ref (ad 31 4), .ref (ad 31 5), .ref (ad 31 6), .ref (ad 31 7), .ref (ad 31 8), .ref (ad 31 9), .ref (ad 31 10), .ref (ad 31 11), .ref (ad 31 12), .ref (ad 31 13), .ref (ad 31 14), .int r.objects, .ref (ad 31 15), .int r.length, .ref (ad 31 16), .int (r.waits + 1), .ref (ad 31 17), .int r.given, .ref (ad 31 18), .ref (ad 31 19), .ref (ad 31 20), .int r.left, .ref (ad 31 21), .ref (ad 31 22), .int r.oldLength, .int r.oldWaits, .int r.oldGiven])) := by have h9 := rm_at.o hR; exact h9
                refine pw_get (Cn := "GraphWriterModel") (T := F_M) (N := 31) hx hb hts in_M hown hK hw 30 0 rfl hc_32 rfl 19 (by decide) (hts _ wd_773) (fun _ h9 => h9) rfl d_M_data_97 ?_
                refine lv_sipush (v := 255) hx hb d_M_data_100 (by decide) ?_
                refine lv_icmp_ne (tgt := 110) hx hb d_M_data_103 (by decide) (fun c_33 => ?_) (fun c_33 => ?_)
                · rw [if_neg c_33] at hE
                  refine lv_iinc (v := x6_24 + (-1)) (lv' := [(6, .int (x6_24 + (-1))), (5, .int x5_24), (4, .int x4_24), (0, .ref (ad 30 0)), (1, .long x1_24), (3, .int x3_24)]) hx hb d_M_data_110 hl (k := 0) rfl rfl (by decide) rfl (fun ls hl => ?_)
                  refine lv_goto (tgt := 60) hx hb d_M_data_113 (by decide) ?_
                  exact ih _ _ _ _ _ _ _ _ _ _ hE hR hfr hw (lv_sub hl [0, 1, 2, 3, 4, 5] rfl)
                · rw [if_pos c_33] at hE
                  refine lv_aload_n hx hb d_M_data_106 rfl (lv_at hl 3 rfl) ?_
                  obtain ⟨y_34, hy_34, hE⟩ := ob_some hE
                  refine pw_callv (va_runV (As := []) (rest := []) ⟨hx, hb, hml, hown, hts0⟩ (k_M_flush hR hy_34 _) (cwV 0 hts0 (wd_V wd_925 wd_922 wd_924 wd_30 wd_56) rfl rfl rfl (by decide +kernel) ⟨Nat.le_of_ble_eq_true rfl, Nat.le_of_ble_eq_true rfl⟩) (pw_preV hZ hw hA hK hz rfl hc_32 rfl) rfl rfl hl.1 rfl (lv_room (Nat.le_of_ble_eq_true rfl)) d_M_data_107 ⟨Nat.le_of_ble_eq_true rfl, Nat.le_of_ble_eq_true rfl⟩) hw hA (fun ad_35 C_36 H locs hp hw => ?_)
                  obtain ⟨hae, hR, hf1⟩ := hp
                  rw [hae] at hw
                  clear hae
                  have hfr : rm_fr C C_36 := fun x y h9 => (hf1 x y h9).trans (hfr x y h9)
                  clear hf1
                  refine lv_iinc (v := x6_24 + (-1)) (lv' := [(6, .int (x6_24 + (-1))), (5, .int x5_24), (4, .int x4_24), (0, .ref (ad 30 0)), (1, .long x1_24), (3, .int x3_24)]) hx hb d_M_data_110 hl (k := 0) rfl rfl (by decide) rfl (fun ls hl => ?_)
                  refine lv_goto (tgt := 60) hx hb d_M_data_113 (by decide) ?_
                  exact ih _ _ _ _ _ _ _ _ _ _ hE hR hfr hw (lv_sub hl [0, 1, 2, 3, 4, 5] rfl)
          refine lp_24 _ (fun z6_24 z5_24 z4_24 z1_24 z3_24 r_38 C_39 H locs ls hE hR hfr hw hl => ?_) 60 _ _ _ _ _ _ _ _ _ _ hE hR hfr hw hl
          try dsimp only at hE
          refine lv_aload_n hx hb d_M_data_116 rfl (lv_at hl 3 rfl) ?_
          have hc_40 : C_39 30 0 = some (.inr (4, [.ref (ad 31 0), .ref (ad 31 1), .ref (ad 31 2), .ref (ad 31 3), .ref (ad 31 4), .ref (ad 31 5), .ref (ad 31 6), .ref (ad 31 7), .ref (ad 31 8), .ref (ad 31 9), .ref (ad 31 10), .ref (ad 31 11), .ref (ad 31 12), .ref (ad 31 13), .ref (ad 31 14), .int r_38.objects, .ref (ad 31 15), .int r_38.length, .ref (ad 31 16), .int r_38.waits, .ref (ad 31 17), .int r_38.given, .ref (ad 31 18), .ref (ad 31 19), .ref (ad 31 20), .int r_38.left, .ref (ad 31 21), .ref (ad 31 22), .int r_38.oldLength, .int r_38.oldWaits, .int r_38.oldGiven])) := by have h9 := rm_at.o hR; exact h9
          refine pw_get (Cn := "GraphWriterModel") (T := F_M) (N := 31) hx hb hts in_M hown hK hw 30 0 rfl hc_40 rfl 19 (by decide) (hts _ wd_773) (fun _ h9 => h9) rfl d_M_data_117 ?_
          obtain rfl := Option.some.inj hE
          exact pw_iret hx hb hr hlocks hw ⟨⟨rfl, hR, hfr⟩, rfl⟩ d_M_data_120
        · rw [if_neg c_23] at hE
          refine lv_bipush (v := (-2)) hx hb d_M_data_52 (by decide) ?_
          obtain rfl := Option.some.inj hE
          exact pw_iret hx hb hr hlocks hw ⟨⟨rfl, hR, hfr⟩, rfl⟩ d_M_data_54
    · rw [if_neg c_2] at hE
      refine lv_iconst (v := (-1)) hx hb d_M_data_11 (by decide) ?_
      obtain rfl := Option.some.inj hE
      exact pw_iret hx hb hr hlocks hw ⟨⟨rfl, hR, hfr⟩, rfl⟩ d_M_data_12
def m_push (l1 : Int32) (l2 : Int32) (l3 : Int32) (r : RS) : Option RS := Option.bind (wr r.todo 900 r.left l1) (fun w_3 => Option.bind (wr r.todoOf 900 r.left l2) (fun w_7 => Option.bind (wr r.todoWith 900 r.left l3) (fun w_11 => some (RS.s_left (RS.s_todoWith (RS.s_todoOf (RS.s_todo r w_3) w_7) w_11) (r.left + 1)))))
set_option maxHeartbeats 4000000 in
set_option maxRecDepth 100000 in
theorem k_M_push {l : Launch} {D : va_G} {ca : Nat → ClassId} {kS : Nat → Nat} {kT : Nat} {ad : pw_A} {C : pw_C} {r : RS} (hR : rm_at ca ad C r) {l1 : Int32} {l2 : Int32} {l3 : Int32} {res : RS} (hE : m_push l1 l2 l3 r = some res) : gc_Con l y_M_push c_M_push ({ frames := 0, cells := 0, slots := 0, locals := 0 }) D ca (z9_Z kS kT) [.ref (ad 30 0), .int l1, .int l2, .int l3] ad C (pw_pv (fun ad' C' => ad' = ad ∧ rm_at ca ad C' res ∧ rm_fr C C')) 0 0 := by
  have hZ := z9_ok kS kT
  refine pw_ofW (cc := b_M_push) (maxL := 4) (ret := none) (by decide) rfl (Nat.le_of_ble_eq_true rfl) ?_
  intro p e s m args below meth c A ls hB hA hw hK hz hl
  obtain ⟨hx, hb, hr, hml, hts0, hlocks, hown, hnm⟩ := hB
  have hts := wd_hts hts0
  have hown : s.vm.findClass "GraphWriterModel" = some m.cls := hown
  have hl : lv_has ls 4 [(0, .ref (ad 30 0)), (1, .int l1), (2, .int l2), (3, .int l3)] := hl
  have hfr : rm_fr C C := fun _ _ _ => rfl
  unfold m_push at hE
  refine lv_aload_n hx hb d_M_push_0 rfl (lv_at hl 0 rfl) ?_
  have hc_1 : C 30 0 = some (.inr (4, [.ref (ad 31 0), .ref (ad 31 1), .ref (ad 31 2), .ref (ad 31 3), .ref (ad 31 4), .ref (ad 31 5), .ref (ad 31 6), .ref (ad 31 7), .ref (ad 31 8), .ref (ad 31 9), .ref (ad 31 10), .ref (ad 31 11), .ref (ad 31 12), .ref (ad 31 13), .ref (ad 31 14), .int r.objects, .ref (ad 31 15), .int r.length, .ref (ad 31 16), .int r.waits, .ref (ad 31 17), .int r.given, .ref (ad 31 18), .ref (ad 31 19), .ref (ad 31 20), .int r.left, .ref (ad 31 21), .ref (ad 31 22), .int r.oldLength, .int r.oldWaits, .int r.oldGiven])) := by have h9 := rm_at.o hR; exact h9
  refine pw_get (Cn := "GraphWriterModel") (T := F_M) (N := 31) hx hb hts in_M hown hK hw 30 0 rfl hc_1 rfl 22 (by decide) (hts _ wd_776) (fun _ h9 => h9) rfl d_M_push_1 ?_
  refine lv_aload_n hx hb d_M_push_4 rfl (lv_at hl 0 rfl) ?_
  refine pw_get (Cn := "GraphWriterModel") (T := F_M) (N := 31) hx hb hts in_M hown hK hw 30 0 rfl hc_1 rfl 25 (by decide) (hts _ wd_779) (fun _ h9 => h9) rfl d_M_push_5 ?_
  refine lv_iload_n hx hb d_M_push_8 rfl (lv_at hl 1 rfl) ?_
  have hc_2 : C 31 18 = some (.inl (ca 0, 900, .inl r.todo)) := by have h9 := rm_at.a18 hR; exact h9
  obtain ⟨w_3, hw_3, hE⟩ := ob_some hE
  obtain ⟨hi_w_3, hj_w_3, he_w_3⟩ := wr_some (by decide) hw_3
  refine pw_iast hx hb hK hw 31 18 rfl 0 hc_2 rfl (by decide) (r.left : Int32).toNatClampNeg hi_w_3 (by omega) (by omega) d_M_push_9 (fun H locs hw => ?_)
  rw [← he_w_3] at hw
  have hw : pw_H D cls9 A s.heap ad C ad (pw_up C 31 18 (some (.inl (ca 0, 900, .inl w_3)))) H _ := hw
  generalize hC_4 : pw_up C 31 18 (some (.inl (ca 0, 900, .inl w_3))) = C_4 at hw
  have hR : rm_at ca ad C_4 (RS.s_todo r w_3) := by rw [← hC_4]; exact rm_at.s18 hR _
  have hfr : rm_fr C C_4 := fun x y h9 => by rw [← hC_4]; exact (pw_up_ne _ _ (by omega)).trans (hfr x y h9)
  refine lv_aload_n hx hb d_M_push_10 rfl (lv_at hl 0 rfl) ?_
  have hc_5 : C_4 30 0 = some (.inr (4, [.ref (ad 31 0), .ref (ad 31 1), .ref (ad 31 2), .ref (ad 31 3), .ref (ad 31 4), .ref (ad 31 5), .ref (ad 31 6), .ref (ad 31 7), .ref (ad 31 8), .ref (ad 31 9), .ref (ad 31 10), .ref (ad 31 11), .ref (ad 31 12), .ref (ad 31 13), .ref (ad 31 14), .int r.objects, .ref (ad 31 15), .int r.length, .ref (ad 31 16), .int r.waits, .ref (ad 31 17), .int r.given, .ref (ad 31 18), .ref (ad 31 19), .ref (ad 31 20), .int r.left, .ref (ad 31 21), .ref (ad 31 22), .int r.oldLength, .int r.oldWaits, .int r.oldGiven])) := by have h9 := rm_at.o hR; exact h9
  refine pw_get (Cn := "GraphWriterModel") (T := F_M) (N := 31) hx hb hts in_M hown hK hw 30 0 rfl hc_5 rfl 23 (by decide) (hts _ wd_777) (fun _ h9 => h9) rfl d_M_push_11 ?_
  refine lv_aload_n hx hb d_M_push_14 rfl (lv_at hl 0 rfl) ?_
  refine pw_get (Cn := "GraphWriterModel") (T := F_M) (N := 31) hx hb hts in_M hown hK hw 30 0 rfl hc_5 rfl 25 (by decide) (hts _ wd_779) (fun _ h9 => h9) rfl d_M_push_15 ?_
  refine lv_iload_n hx hb d_M_push_18 rfl (lv_at hl 2 rfl) ?_
  have hc_6 : C_4 31 19 = some (.inl (ca 0, 900, .inl r.todoOf)) := by have h9 := rm_at.a19 hR; exact h9
  obtain ⟨w_7, hw_7, hE⟩ := ob_some hE
  obtain ⟨hi_w_7, hj_w_7, he_w_7⟩ := wr_some (by decide) hw_7
  refine pw_iast hx hb hK hw 31 19 rfl 0 hc_6 rfl (by decide) (r.left : Int32).toNatClampNeg hi_w_7 (by omega) (by omega) d_M_push_19 (fun H locs hw => ?_)
  rw [← he_w_7] at hw
  have hw : pw_H D cls9 A s.heap ad C ad (pw_up C_4 31 19 (some (.inl (ca 0, 900, .inl w_7)))) H _ := hw
  generalize hC_8 : pw_up C_4 31 19 (some (.inl (ca 0, 900, .inl w_7))) = C_8 at hw
  have hR : rm_at ca ad C_8 (RS.s_todoOf (RS.s_todo r w_3) w_7) := by rw [← hC_8]; exact rm_at.s19 hR _
  have hfr : rm_fr C C_8 := fun x y h9 => by rw [← hC_8]; exact (pw_up_ne _ _ (by omega)).trans (hfr x y h9)
  refine lv_aload_n hx hb d_M_push_20 rfl (lv_at hl 0 rfl) ?_
  have hc_9 : C_8 30 0 = some (.inr (4, [.ref (ad 31 0), .ref (ad 31 1), .ref (ad 31 2), .ref (ad 31 3), .ref (ad 31 4), .ref (ad 31 5), .ref (ad 31 6), .ref (ad 31 7), .ref (ad 31 8), .ref (ad 31 9), .ref (ad 31 10), .ref (ad 31 11), .ref (ad 31 12), .ref (ad 31 13), .ref (ad 31 14), .int r.objects, .ref (ad 31 15), .int r.length, .ref (ad 31 16), .int r.waits, .ref (ad 31 17), .int r.given, .ref (ad 31 18), .ref (ad 31 19), .ref (ad 31 20), .int r.left, .ref (ad 31 21), .ref (ad 31 22), .int r.oldLength, .int r.oldWaits, .int r.oldGiven])) := by have h9 := rm_at.o hR; exact h9
  refine pw_get (Cn := "GraphWriterModel") (T := F_M) (N := 31) hx hb hts in_M hown hK hw 30 0 rfl hc_9 rfl 24 (by decide) (hts _ wd_778) (fun _ h9 => h9) rfl d_M_push_21 ?_
  refine lv_aload_n hx hb d_M_push_24 rfl (lv_at hl 0 rfl) ?_
  refine pw_get (Cn := "GraphWriterModel") (T := F_M) (N := 31) hx hb hts in_M hown hK hw 30 0 rfl hc_9 rfl 25 (by decide) (hts _ wd_779) (fun _ h9 => h9) rfl d_M_push_25 ?_
  refine lv_iload_n hx hb d_M_push_28 rfl (lv_at hl 3 rfl) ?_
  have hc_10 : C_8 31 20 = some (.inl (ca 0, 900, .inl r.todoWith)) := by have h9 := rm_at.a20 hR; exact h9
  obtain ⟨w_11, hw_11, hE⟩ := ob_some hE
  obtain ⟨hi_w_11, hj_w_11, he_w_11⟩ := wr_some (by decide) hw_11
  refine pw_iast hx hb hK hw 31 20 rfl 0 hc_10 rfl (by decide) (r.left : Int32).toNatClampNeg hi_w_11 (by omega) (by omega) d_M_push_29 (fun H locs hw => ?_)
  rw [← he_w_11] at hw
  have hw : pw_H D cls9 A s.heap ad C ad (pw_up C_8 31 20 (some (.inl (ca 0, 900, .inl w_11)))) H _ := hw
  generalize hC_12 : pw_up C_8 31 20 (some (.inl (ca 0, 900, .inl w_11))) = C_12 at hw
  have hR : rm_at ca ad C_12 (RS.s_todoWith (RS.s_todoOf (RS.s_todo r w_3) w_7) w_11) := by rw [← hC_12]; exact rm_at.s20 hR _
  have hfr : rm_fr C C_12 := fun x y h9 => by rw [← hC_12]; exact (pw_up_ne _ _ (by omega)).trans (hfr x y h9)
  refine lv_aload_n hx hb d_M_push_30 rfl (lv_at hl 0 rfl) ?_
  refine lv_dup hx hb d_M_push_31 rfl ?_
  have hc_13 : C_12 30 0 = some (.inr (4, [.ref (ad 31 0), .ref (ad 31 1), .ref (ad 31 2), .ref (ad 31 3), .ref (ad 31 4), .ref (ad 31 5), .ref (ad 31 6), .ref (ad 31 7), .ref (ad 31 8), .ref (ad 31 9), .ref (ad 31 10), .ref (ad 31 11), .ref (ad 31 12), .ref (ad 31 13), .ref (ad 31 14), .int r.objects, .ref (ad 31 15), .int r.length, .ref (ad 31 16), .int r.waits, .ref (ad 31 17), .int r.given, .ref (ad 31 18), .ref (ad 31 19), .ref (ad 31 20), .int r.left, .ref (ad 31 21), .ref (ad 31 22), .int r.oldLength, .int r.oldWaits, .int r.oldGiven])) := by have h9 := rm_at.o hR; exact h9
  refine pw_get (Cn := "GraphWriterModel") (T := F_M) (N := 31) hx hb hts in_M hown hK hw 30 0 rfl hc_13 rfl 25 (by decide) (hts _ wd_779) (fun _ h9 => h9) rfl d_M_push_32 ?_
  refine lv_iconst (v := 1) hx hb d_M_push_35 (by decide) ?_
  refine lv_iadd hx hb d_M_push_36 ?_
  refine pw_put (Cn := "GraphWriterModel") (T := F_M) (N := 31) (v := .int (r.left + 1)) (ty := .int) hx hb hts in_M ft_M to_M nm_M hown hK hw 30 0 (by decide) rfl hc_13 rfl 25 (by decide) (hts _ wd_779) (fun _ h9 => h9) rfl (by decide +kernel) rfl rfl (Nat.le_of_ble_eq_true rfl) d_M_push_37 (fun H locs hw => ?_)
  have hw : pw_H D cls9 A s.heap ad C ad (pw_up C_12 30 0 (some (.inr (4, [.ref (ad 31 0), .ref (ad 31 1), .ref (ad 31 2), .ref (ad 31 3), .ref (ad 31 4), .ref (ad 31 5), .ref (ad 31 6), .ref (ad 31 7), .ref (ad 31 8), .ref (ad 31 9), .ref (ad 31 10), .ref (ad 31 11), .ref (ad 31 12), .ref (ad 31 13), .ref (ad 31 14), .int r.objects, .ref (ad 31 15), .int r.length, .ref (ad 31 16), .int r.waits, .ref (ad 31 17), .int r.given, .ref (ad 31 18), .ref (ad 31 19), .ref (ad 31 20), .int (r.left + 1), .ref (ad 31 21), .ref (ad 31 22), .int r.oldLength, .int r.oldWaits, .int r.oldGiven])))) H _ := hw
  generalize hC_14 : pw_up C_12 30 0 (some (.inr (4, [.ref (ad 31 0), .ref (ad 31 1), .ref (ad 31 2), .ref (ad 31 3), .ref (ad 31 4), .ref (ad 31 5), .ref (ad 31 6), .ref (ad 31 7), .ref (ad 31 8), .ref (ad 31 9), .ref (ad 31 10), .ref (ad 31 11), .ref (ad 31 12), .ref (ad 31 13), .ref (ad 31 14), .int r.objects, .ref (ad 31 15), .int r.length, .ref (ad 31 16), .int r.waits, .ref (ad 31 17), .int r.given, .ref (ad 31 18), .ref (ad 31 19), .ref (ad 31 20), .int (r.left + 1), .ref (ad 31 21), .ref (ad 31 22), .int r.oldLength, .int r.oldWaits, .int r.oldGiven]))) = C_14 at hw
  have hR : rm_at ca ad C_14 (RS.s_left (RS.s_todoWith (RS.s_todoOf (RS.s_todo r w_3) w_7) w_11) (r.left + 1)) := by rw [← hC_14]; exact rm_at.o_left hR _
  have hfr : rm_fr C C_14 := fun x y h9 => by rw [← hC_14]; exact (pw_up_ne _ _ (by omega)).trans (hfr x y h9)
  obtain rfl := Option.some.inj hE
  exact pw_vret hx hb hr hlocks hw ⟨rfl, hR, hfr⟩ d_M_push_40
def m_width (l1 : Int32) (r : RS) : Option (Int32 × RS) := if (l1 : Int32) = 0 then (some (1, r)) else (if (l1 : Int32) = 5 then (some (1, r)) else (if (l1 : Int32) = 1 then (some (2, r)) else (if (l1 : Int32) = 4 then (some (2, r)) else (if (l1 : Int32) = 3 then (some (8, r)) else (some (4, r))))))
set_option maxHeartbeats 4000000 in
set_option maxRecDepth 100000 in
theorem k_M_width {l : Launch} {D : va_G} {ca : Nat → ClassId} {kS : Nat → Nat} {kT : Nat} {ad : pw_A} {C : pw_C} {r : RS} (hR : rm_at ca ad C r) {l1 : Int32} {res : (Int32 × RS)} (hE : m_width l1 r = some res) : gc_Con l y_M_width c_M_width ({ frames := 0, cells := 0, slots := 0, locals := 0 }) D ca (z9_Z kS kT) [.ref (ad 30 0), .int l1] ad C (pw_pi (fun v ad' C' => (ad' = ad ∧ rm_at ca ad C' res.2 ∧ rm_fr C C') ∧ v = res.1)) 0 0 := by
  have hZ := z9_ok kS kT
  refine pw_ofW (cc := b_M_width) (maxL := 2) (ret := (some FieldType.int)) (by decide) rfl (Nat.le_of_ble_eq_true rfl) ?_
  intro p e s m args below meth c A ls hB hA hw hK hz hl
  obtain ⟨hx, hb, hr, hml, hts0, hlocks, hown, hnm⟩ := hB
  have hts := wd_hts hts0
  have hown : s.vm.findClass "GraphWriterModel" = some m.cls := hown
  have hl : lv_has ls 2 [(0, .ref (ad 30 0)), (1, .int l1)] := hl
  have hfr : rm_fr C C := fun _ _ _ => rfl
  unfold m_width at hE
  refine lv_iload_n hx hb d_M_width_0 rfl (lv_at hl 1 rfl) ?_
  refine lv_if_eq (tgt := 9) hx hb d_M_width_1 (by decide) (fun c_1 => ?_) (fun c_1 => ?_)
  · rw [if_pos c_1] at hE
    refine lv_iconst (v := 1) hx hb d_M_width_9 (by decide) ?_
    refine lv_goto (tgt := 38) hx hb d_M_width_10 (by decide) ?_
    obtain rfl := Option.some.inj hE
    exact pw_iret hx hb hr hlocks hw ⟨⟨rfl, hR, hfr⟩, rfl⟩ d_M_width_38
  · rw [if_neg c_1] at hE
    refine lv_iload_n hx hb d_M_width_4 rfl (lv_at hl 1 rfl) ?_
    refine lv_iconst (v := 5) hx hb d_M_width_5 (by decide) ?_
    refine lv_icmp_ne (tgt := 13) hx hb d_M_width_6 (by decide) (fun c_2 => ?_) (fun c_2 => ?_)
    · rw [if_neg c_2] at hE
      refine lv_iload_n hx hb d_M_width_13 rfl (lv_at hl 1 rfl) ?_
      refine lv_iconst (v := 1) hx hb d_M_width_14 (by decide) ?_
      refine lv_icmp_eq (tgt := 23) hx hb d_M_width_15 (by decide) (fun c_3 => ?_) (fun c_3 => ?_)
      · rw [if_pos c_3] at hE
        refine lv_iconst (v := 2) hx hb d_M_width_23 (by decide) ?_
        refine lv_goto (tgt := 38) hx hb d_M_width_24 (by decide) ?_
        obtain rfl := Option.some.inj hE
        exact pw_iret hx hb hr hlocks hw ⟨⟨rfl, hR, hfr⟩, rfl⟩ d_M_width_38
      · rw [if_neg c_3] at hE
        refine lv_iload_n hx hb d_M_width_18 rfl (lv_at hl 1 rfl) ?_
        refine lv_iconst (v := 4) hx hb d_M_width_19 (by decide) ?_
        refine lv_icmp_ne (tgt := 27) hx hb d_M_width_20 (by decide) (fun c_4 => ?_) (fun c_4 => ?_)
        · rw [if_neg c_4] at hE
          refine lv_iload_n hx hb d_M_width_27 rfl (lv_at hl 1 rfl) ?_
          refine lv_iconst (v := 3) hx hb d_M_width_28 (by decide) ?_
          refine lv_icmp_ne (tgt := 37) hx hb d_M_width_29 (by decide) (fun c_5 => ?_) (fun c_5 => ?_)
          · rw [if_neg c_5] at hE
            refine lv_iconst (v := 4) hx hb d_M_width_37 (by decide) ?_
            obtain rfl := Option.some.inj hE
            exact pw_iret hx hb hr hlocks hw ⟨⟨rfl, hR, hfr⟩, rfl⟩ d_M_width_38
          · rw [if_pos c_5] at hE
            refine lv_bipush (v := 8) hx hb d_M_width_32 (by decide) ?_
            refine lv_goto (tgt := 38) hx hb d_M_width_34 (by decide) ?_
            obtain rfl := Option.some.inj hE
            exact pw_iret hx hb hr hlocks hw ⟨⟨rfl, hR, hfr⟩, rfl⟩ d_M_width_38
        · rw [if_pos c_4] at hE
          refine lv_iconst (v := 2) hx hb d_M_width_23 (by decide) ?_
          refine lv_goto (tgt := 38) hx hb d_M_width_24 (by decide) ?_
          obtain rfl := Option.some.inj hE
          exact pw_iret hx hb hr hlocks hw ⟨⟨rfl, hR, hfr⟩, rfl⟩ d_M_width_38
    · rw [if_pos c_2] at hE
      refine lv_iconst (v := 1) hx hb d_M_width_9 (by decide) ?_
      refine lv_goto (tgt := 38) hx hb d_M_width_10 (by decide) ?_
      obtain rfl := Option.some.inj hE
      exact pw_iret hx hb hr hlocks hw ⟨⟨rfl, hR, hfr⟩, rfl⟩ d_M_width_38
def m_letter (l1 : Int32) (r : RS) : Option RS := Option.bind (m_append 1 2 r) (fun y_1 => Option.bind (m_append l1.toInt64 1 y_1) (fun y_6 => some y_6))
set_option maxHeartbeats 4000000 in
set_option maxRecDepth 100000 in
theorem k_M_letter {l : Launch} {D : va_G} {ca : Nat → ClassId} {kS : Nat → Nat} {kT : Nat} {ad : pw_A} {C : pw_C} {r : RS} (hR : rm_at ca ad C r) {l1 : Int32} {res : RS} (hE : m_letter l1 r = some res) : gc_Con l y_M_letter c_M_letter ({ frames := 1, cells := 0, slots := 0, locals := 24 }) D ca (z9_Z kS kT) [.ref (ad 30 0), .int l1] ad C (pw_pv (fun ad' C' => ad' = ad ∧ rm_at ca ad C' res ∧ rm_fr C C')) 0 0 := by
  have hZ := z9_ok kS kT
  refine pw_ofW (cc := b_M_letter) (maxL := 2) (ret := none) (by decide) rfl (Nat.le_of_ble_eq_true rfl) ?_
  intro p e s m args below meth c A ls hB hA hw hK hz hl
  obtain ⟨hx, hb, hr, hml, hts0, hlocks, hown, hnm⟩ := hB
  have hts := wd_hts hts0
  have hown : s.vm.findClass "GraphWriterModel" = some m.cls := hown
  have hl : lv_has ls 2 [(0, .ref (ad 30 0)), (1, .int l1)] := hl
  have hfr : rm_fr C C := fun _ _ _ => rfl
  unfold m_letter at hE
  refine lv_aload_n hx hb d_M_letter_0 rfl (lv_at hl 0 rfl) ?_
  refine lv_lconst (v := 1) hx hb d_M_letter_1 (by decide) ?_
  refine lv_iconst (v := 2) hx hb d_M_letter_2 (by decide) ?_
  obtain ⟨y_1, hy_1, hE⟩ := ob_some hE
  have hc_2 : C 30 0 = some (.inr (4, [.ref (ad 31 0), .ref (ad 31 1), .ref (ad 31 2), .ref (ad 31 3), .ref (ad 31 4), .ref (ad 31 5), .ref (ad 31 6), .ref (ad 31 7), .ref (ad 31 8), .ref (ad 31 9), .ref (ad 31 10), .ref (ad 31 11), .ref (ad 31 12), .ref (ad 31 13), .ref (ad 31 14), .int r.objects, .ref (ad 31 15), .int r.length, .ref (ad 31 16), .int r.waits, .ref (ad 31 17), .int r.given, .ref (ad 31 18), .ref (ad 31 19), .ref (ad 31 20), .int r.left, .ref (ad 31 21), .ref (ad 31 22), .int r.oldLength, .int r.oldWaits, .int r.oldGiven])) := by have h9 := rm_at.o hR; exact h9
  refine pw_callv (va_runV (As := [.long 1, .int 2]) (rest := []) ⟨hx, hb, hml, hown, hts0⟩ (k_M_append hR hy_1 _) (cwV 2 hts0 (wd_V wd_748 wd_745 wd_747 wd_20 wd_56) rfl rfl rfl (by decide +kernel) ⟨Nat.le_of_ble_eq_true rfl, Nat.le_of_ble_eq_true rfl⟩) (pw_preV hZ hw hA hK hz rfl hc_2 rfl) rfl rfl hl.1 rfl (lv_room (Nat.le_of_ble_eq_true rfl)) d_M_letter_3 ⟨Nat.le_of_ble_eq_true rfl, Nat.le_of_ble_eq_true rfl⟩) hw hA (fun ad_3 C_4 H locs hp hw => ?_)
  obtain ⟨hae, hR, hf1⟩ := hp
  rw [hae] at hw
  clear hae
  have hfr : rm_fr C C_4 := fun x y h9 => (hf1 x y h9).trans (hfr x y h9)
  clear hf1
  refine lv_aload_n hx hb d_M_letter_6 rfl (lv_at hl 0 rfl) ?_
  refine lv_iload_n hx hb d_M_letter_7 rfl (lv_at hl 1 rfl) ?_
  refine lv_i2l hx hb d_M_letter_8 rfl ?_
  refine lv_iconst (v := 1) hx hb d_M_letter_9 (by decide) ?_
  obtain ⟨y_6, hy_6, hE⟩ := ob_some hE
  have hc_7 : C_4 30 0 = some (.inr (4, [.ref (ad 31 0), .ref (ad 31 1), .ref (ad 31 2), .ref (ad 31 3), .ref (ad 31 4), .ref (ad 31 5), .ref (ad 31 6), .ref (ad 31 7), .ref (ad 31 8), .ref (ad 31 9), .ref (ad 31 10), .ref (ad 31 11), .ref (ad 31 12), .ref (ad 31 13), .ref (ad 31 14), .int y_1.objects, .ref (ad 31 15), .int y_1.length, .ref (ad 31 16), .int y_1.waits, .ref (ad 31 17), .int y_1.given, .ref (ad 31 18), .ref (ad 31 19), .ref (ad 31 20), .int y_1.left, .ref (ad 31 21), .ref (ad 31 22), .int y_1.oldLength, .int y_1.oldWaits, .int y_1.oldGiven])) := by have h9 := rm_at.o hR; exact h9
  refine pw_callv (va_runV (As := [.long l1.toInt64, .int 1]) (rest := []) ⟨hx, hb, hml, hown, hts0⟩ (k_M_append hR hy_6 _) (cwV 2 hts0 (wd_V wd_748 wd_745 wd_747 wd_20 wd_56) rfl rfl rfl (by decide +kernel) ⟨Nat.le_of_ble_eq_true rfl, Nat.le_of_ble_eq_true rfl⟩) (pw_preV hZ hw hA hK hz rfl hc_7 rfl) rfl rfl hl.1 rfl (lv_room (Nat.le_of_ble_eq_true rfl)) d_M_letter_10 ⟨Nat.le_of_ble_eq_true rfl, Nat.le_of_ble_eq_true rfl⟩) hw hA (fun ad_8 C_9 H locs hp hw => ?_)
  obtain ⟨hae, hR, hf1⟩ := hp
  rw [hae] at hw
  clear hae
  have hfr : rm_fr C C_9 := fun x y h9 => (hf1 x y h9).trans (hfr x y h9)
  clear hf1
  obtain rfl := Option.some.inj hE
  exact pw_vret hx hb hr hlocks hw ⟨rfl, hR, hfr⟩ d_M_letter_13
