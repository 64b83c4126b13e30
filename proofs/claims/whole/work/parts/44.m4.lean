def m_parts_48 (K : Int32 → Int32 → Int32 → Int32 → RS → Option RS) : Nat → Int32 → Int32 → Int32 → Int32 → RS → Option RS
  | 0, _, _, _, _, _ => none
  | n + 1, x4_16, x3_16, x2_16, x1_16, r => if (x4_16 : Int32) < 0 then (K x4_16 x3_16 x2_16 x1_16 r) else (Option.bind (m_firstSlot x2_16 r) (fun y_18 => Option.bind (rd y_18.2.order 4 x4_16) (fun v_25 => Option.bind (rd y_18.2.order 4 x4_16) (fun v_26 => Option.bind (rd y_18.2.fType 24 v_26) (fun v_28 => if (v_28 : Int32) ≤ 5 then (Option.bind (m_push 1 x1_16 ((y_18.1 + v_25) - (4 * x2_16)) y_18.2) (fun y_30 => m_parts_48 K n (x4_16 + (-1)) x3_16 x2_16 x1_16 y_30)) else (Option.bind (rd y_18.2.value 480 ((24 * x1_16) + ((y_18.1 + v_25) - (4 * x2_16)))) (fun v_35 => Option.bind (m_push 0 v_35.toInt32 0 y_18.2) (fun y_36 => m_parts_48 K n (x4_16 + (-1)) x3_16 x2_16 x1_16 y_36))))))))
def m_parts_48' (K : Int32 → Int32 → Int32 → Int32 → RS → Option RS) : Nat → Int32 → Int32 → Int32 → Int32 → RS → Option RS
  | 0, _, _, _, _, _ => none
  | n + 1, x4_54, x3_54, x2_54, x1_54, r => if (x4_54 : Int32) < 0 then (K x4_54 x3_54 x2_54 x1_54 r) else (Option.bind (m_firstSlot x2_54 r) (fun y_56 => Option.bind (rd y_56.2.order 4 x4_54) (fun v_63 => Option.bind (rd y_56.2.order 4 x4_54) (fun v_64 => Option.bind (rd y_56.2.fType 24 v_64) (fun v_66 => if (v_66 : Int32) ≤ 5 then (Option.bind (m_push 1 x1_54 ((y_56.1 + v_63) - (4 * x2_54)) y_56.2) (fun y_68 => m_parts_48' K n (x4_54 + (-1)) x3_54 x2_54 x1_54 y_68)) else (Option.bind (rd y_56.2.value 480 ((24 * x1_54) + ((y_56.1 + v_63) - (4 * x2_54)))) (fun v_73 => Option.bind (m_push 0 v_73.toInt32 0 y_56.2) (fun y_74 => m_parts_48' K n (x4_54 + (-1)) x3_54 x2_54 x1_54 y_74))))))))
def m_parts_7 (K : Int32 → Int32 → RS → Option RS) : Nat → Int32 → Int32 → RS → Option RS
  | 0, _, _, _ => none
  | n + 1, x2_4, x1_4, r => if (x2_4 : Int32) < 0 then (K x2_4 x1_4 r) else (Option.bind (rd r.kind 6 x2_4) (fun v_8 => if (v_8 : Int32) = 0 then (K x2_4 x1_4 r) else (Option.bind (rd r.kind 6 x2_4) (fun v_10 => if (v_10 : Int32) = 2 then (Option.bind (m_push 2 x1_4 x2_4 r) (fun y_45 => Option.bind (m_arrange x2_4 y_45) (fun y_49 => m_parts_48' (fun z4_54 z3_54 z2_54 z1_54 r_78 => Option.bind (rd r_78.above 6 z2_54) (fun v_82 => m_parts_7 K n v_82 z1_54 r_78)) 60 (y_49.1 - 1) y_49.1 x2_4 x1_4 y_49.2))) else (Option.bind (m_arrange x2_4 r) (fun y_12 => m_parts_48 (fun z4_16 z3_16 z2_16 z1_16 r_40 => Option.bind (rd r_40.above 6 z2_16) (fun v_44 => m_parts_7 K n v_44 z1_16 r_40)) 60 (y_12.1 - 1) y_12.1 x2_4 x1_4 y_12.2))))))
def m_parts (l1 : Int32) (r : RS) : Option RS := Option.bind (rd r.classOf 20 l1) (fun v_3 => m_parts_7 (fun z2_4 z1_4 r_83 => some r_83) 60 v_3 l1 r)
set_option maxHeartbeats 4000000 in
set_option maxRecDepth 100000 in
theorem k_M_parts {l : Launch} {D : va_G} {ca : Nat → ClassId} {kS : Nat → Nat} {kT : Nat} {ad : pw_A} {C : pw_C} {r : RS} (hR : rm_at ca ad C r) {l1 : Int32} {res : RS} (hE : m_parts l1 r = some res) : gc_Con l y_M_parts c_M_parts ({ frames := 1, cells := 0, slots := 0, locals := 25 }) D ca (z9_Z kS kT) [.ref (ad 30 0), .int l1] ad C (pw_pv (fun ad' C' => ad' = ad ∧ rm_at ca ad C' res ∧ rm_fr C C')) 0 0 := by
  have hZ := z9_ok kS kT
  refine pw_ofW (cc := b_M_parts) (maxL := 6) (ret := none) (by decide) rfl (Nat.le_of_ble_eq_true rfl) ?_
  intro p e s m args below meth c A ls hB hA hw hK hz hl
  obtain ⟨hx, hb, hr, hml, hts0, hlocks, hown, hnm⟩ := hB
  have hts := wd_hts hts0
  have hown : s.vm.findClass "GraphWriterModel" = some m.cls := hown
  have hl : lv_has ls 6 [(0, .ref (ad 30 0)), (1, .int l1)] := hl
  have hfr : rm_fr C C := fun _ _ _ => rfl
  unfold m_parts at hE
  refine lv_aload_n hx hb d_M_parts_0 rfl (lv_at hl 0 rfl) ?_
  have hc_1 : C 30 0 = some (.inr (4, [.ref (ad 31 0), .ref (ad 31 1), .ref (ad 31 2), .ref (ad 31 3), .ref (ad 31 4), .ref (ad 31 5), .ref (ad 31 6), .ref (ad 31 7), .ref (ad 31 8), .ref (ad 31 9), .ref (ad 31 10), .ref (ad 31 11), .ref (ad 31 12), .ref (ad 31 13), .ref (ad 31 14), .int r.objects, .ref (ad 31 15), .int r.length, .ref (ad 31 16), .int r.waits, .ref (ad 31 17), .int r.given, .ref (ad 31 18), .ref (ad 31 19), .ref (ad 31 20), .int r.left, .ref (ad 31 21), .ref (ad 31 22), .int r.oldLength, .int r.oldWaits, .int r.oldGiven])) := by have h9 := rm_at.o hR; exact h9
  refine pw_get (Cn := "GraphWriterModel") (T := F_M) (N := 31) hx hb hts in_M hown hK hw 30 0 rfl hc_1 rfl 9 (by decide) (hts _ wd_763) (fun _ h9 => h9) rfl d_M_parts_1 ?_
  refine lv_iload_n hx hb d_M_parts_4 rfl (lv_at hl 1 rfl) ?_
  have hc_2 : C 31 9 = some (.inl (ca 0, 20, .inl r.classOf)) := by have h9 := rm_at.a9 hR; exact h9
  obtain ⟨v_3, hv_3, hE⟩ := ob_some hE
  obtain ⟨hi_v_3, hj_v_3, he_v_3⟩ := rd_some (by decide) hv_3
  refine pw_iald hx hb hK hw 31 9 rfl 0 hc_2 rfl (l1 : Int32).toNatClampNeg hi_v_3 (by omega) (by omega) d_M_parts_5 ?_
  rw [← he_v_3]
  refine lv_istore_n (lv' := [(2, .int v_3), (0, .ref (ad 30 0)), (1, .int l1)]) hx hb d_M_parts_6 rfl hl (by decide) rfl (fun ls hl => ?_)
  have lp_4 : ∀ (K : Int32 → Int32 → RS → Option RS), (∀ (x2_4 : Int32) (x1_4 : Int32) (r : RS) (C1 : pw_C) (H : Heap) (locs : List Loc) (ls : Array Slot), K x2_4 x1_4 r = some res → rm_at ca ad C1 r → rm_fr C C1 → pw_H D cls9 A s.heap ad C ad C1 H locs → lv_has ls 6 [(2, .int x2_4), (0, .ref (ad 30 0)), (1, .int x1_4)] → W p l e ({ frames := 1, cells := 0, slots := 0, locals := 25 }) s m args below meth c H locs 0 0 (MQ below (pw_Q D cls9 ad C (pw_pv (fun ad' C' => ad' = ad ∧ rm_at ca ad C' res ∧ rm_fr C C')) A) args s 0 0 A) (F0 m 134 ls [])) → ∀ (n : Nat) (x2_4 : Int32) (x1_4 : Int32) (r : RS) (C1 : pw_C) (H : Heap) (locs : List Loc) (ls : Array Slot), m_parts_7 K n x2_4 x1_4 r = some res → rm_at ca ad C1 r → rm_fr C C1 → pw_H D cls9 A s.heap ad C ad C1 H locs → lv_has ls 6 [(2, .int x2_4), (0, .ref (ad 30 0)), (1, .int x1_4)] → W p l e ({ frames := 1, cells := 0, slots := 0, locals := 25 }) s m args below meth c H locs 0 0 (MQ below (pw_Q D cls9 ad C (pw_pv (fun ad' C' => ad' = ad ∧ rm_at ca ad C' res ∧ rm_fr C C')) A) args s 0 0 A) (F0 m 7 ls []) := by
    intro K hKK n
    induction n with
    | zero => intro x2_4 x1_4 r C1 H locs ls hE; rw [m_parts_7] at hE; exact absurd hE (by simp)
    | succ n ih =>
      intro x2_4 x1_4 r C1 H locs ls hE hR hfr hw hl
      rw [m_parts_7] at hE
      refine lv_iload_n hx hb d_M_parts_7 rfl (lv_at hl 0 rfl) ?_
      refine lv_if_lt (tgt := 134) hx hb d_M_parts_8 (by decide) (fun c_5 => ?_) (fun c_5 => ?_)
      · rw [if_pos c_5] at hE
        exact hKK _ _ _ _ _ _ _ hE hR hfr hw (lv_sub hl [0, 1, 2] rfl)
      · rw [if_neg c_5] at hE
        refine lv_aload_n hx hb d_M_parts_11 rfl (lv_at hl 1 rfl) ?_
        have hc_6 : C1 30 0 = some (.inr (4, [.ref (ad 31 0), .ref (ad 31 1), .ref (ad 31 2), .ref (ad 31 3), .ref (ad 31 4), .ref (ad 31 5), .ref (ad 31 6), .ref (ad 31 7), .ref (ad 31 8), .ref (ad 31 9), .ref (ad 31 10), .ref (ad 31 11), .ref (ad 31 12), .ref (ad 31 13), .ref (ad 31 14), .int r.objects, .ref (ad 31 15), .int r.length, .ref (ad 31 16), .int r.waits, .ref (ad 31 17), .int r.given, .ref (ad 31 18), .ref (ad 31 19), .ref (ad 31 20), .int r.left, .ref (ad 31 21), .ref (ad 31 22), .int r.oldLength, .int r.oldWaits, .int r.oldGiven])) := by have h9 := rm_at.o hR; exact h9
        refine pw_get (Cn := "GraphWriterModel") (T := F_M) (N := 31) hx hb hts in_M hown hK hw 30 0 rfl hc_6 rfl 1 (by decide) (hts _ wd_755) (fun _ h9 => h9) rfl d_M_parts_12 ?_
        refine lv_iload_n hx hb d_M_parts_15 rfl (lv_at hl 0 rfl) ?_
        have hc_7 : C1 31 1 = some (.inl (ca 0, 6, .inl r.kind)) := by have h9 := rm_at.a1 hR; exact h9
        obtain ⟨v_8, hv_8, hE⟩ := ob_some hE
        obtain ⟨hi_v_8, hj_v_8, he_v_8⟩ := rd_some (by decide) hv_8
        refine pw_iald hx hb hK hw 31 1 rfl 0 hc_7 rfl (x2_4 : Int32).toNatClampNeg hi_v_8 (by omega) (by omega) d_M_parts_16 ?_
        rw [← he_v_8]
        refine lv_if_eq (tgt := 134) hx hb d_M_parts_17 (by decide) (fun c_9 => ?_) (fun c_9 => ?_)
        · rw [if_pos c_9] at hE
          exact hKK _ _ _ _ _ _ _ hE hR hfr hw (lv_sub hl [0, 1, 2] rfl)
        · rw [if_neg c_9] at hE
          refine lv_aload_n hx hb d_M_parts_20 rfl (lv_at hl 1 rfl) ?_
          refine pw_get (Cn := "GraphWriterModel") (T := F_M) (N := 31) hx hb hts in_M hown hK hw 30 0 rfl hc_6 rfl 1 (by decide) (hts _ wd_755) (fun _ h9 => h9) rfl d_M_parts_21 ?_
          refine lv_iload_n hx hb d_M_parts_24 rfl (lv_at hl 0 rfl) ?_
          obtain ⟨v_10, hv_10, hE⟩ := ob_some hE
          obtain ⟨hi_v_10, hj_v_10, he_v_10⟩ := rd_some (by decide) hv_10
          refine pw_iald hx hb hK hw 31 1 rfl 0 hc_7 rfl (x2_4 : Int32).toNatClampNeg hi_v_10 (by omega) (by omega) d_M_parts_25 ?_
          rw [← he_v_10]
          refine lv_iconst (v := 2) hx hb d_M_parts_26 (by decide) ?_
          refine lv_icmp_ne (tgt := 37) hx hb d_M_parts_27 (by decide) (fun c_11 => ?_) (fun c_11 => ?_)
          · rw [if_neg c_11] at hE
            refine lv_aload_n hx hb d_M_parts_37 rfl (lv_at hl 1 rfl) ?_
            refine lv_iload_n hx hb d_M_parts_38 rfl (lv_at hl 0 rfl) ?_
            obtain ⟨y_12, hy_12, hE⟩ := ob_some hE
            refine pw_calli (va_runV (As := [.int x2_4]) (rest := []) ⟨hx, hb, hml, hown, hts0⟩ (k_M_arrange hR hy_12 _) (cwV 1 hts0 (wd_V wd_1006 wd_1003 wd_1005 wd_44 wd_56) rfl rfl rfl (by decide +kernel) ⟨Nat.le_of_ble_eq_true rfl, Nat.le_of_ble_eq_true rfl⟩) (pw_preV hZ hw hA hK hz rfl hc_6 rfl) rfl rfl hl.1 rfl (lv_room (Nat.le_of_ble_eq_true rfl)) d_M_parts_39 ⟨Nat.le_of_ble_eq_true rfl, Nat.le_of_ble_eq_true rfl⟩) hw hA (fun r_15 ad_13 C_14 H locs hp hw => ?_)
            obtain ⟨⟨hae, hR, hf1⟩, hre⟩ := hp
            rw [hre]
            rw [hae] at hw
            clear hae
            have hfr : rm_fr C C_14 := fun x y h9 => (hf1 x y h9).trans (hfr x y h9)
            clear hf1
            refine lv_istore_n (lv' := [(3, .int y_12.1), (2, .int x2_4), (0, .ref (ad 30 0)), (1, .int x1_4)]) hx hb d_M_parts_42 rfl hl (by decide) rfl (fun ls hl => ?_)
            refine lv_iload_n hx hb d_M_parts_43 rfl (lv_at hl 0 rfl) ?_
            refine lv_iconst (v := 1) hx hb d_M_parts_44 (by decide) ?_
            refine lv_isub hx hb d_M_parts_45 ?_
            refine lv_istore (lv' := [(4, .int (y_12.1 - 1)), (3, .int y_12.1), (2, .int x2_4), (0, .ref (ad 30 0)), (1, .int x1_4)]) hx hb d_M_parts_46 hl (by decide) rfl (fun ls hl => ?_)
            have lp_16 : ∀ (K : Int32 → Int32 → Int32 → Int32 → RS → Option RS), (∀ (x4_16 : Int32) (x3_16 : Int32) (x2_16 : Int32) (x1_16 : Int32) (r : RS) (C1 : pw_C) (H : Heap) (locs : List Loc) (ls : Array Slot), K x4_16 x3_16 x2_16 x1_16 r = some res → rm_at ca ad C1 r → rm_fr C C1 → pw_H D cls9 A s.heap ad C ad C1 H locs → lv_has ls 6 [(4, .int x4_16), (3, .int x3_16), (2, .int x2_16), (0, .ref (ad 30 0)), (1, .int x1_16)] → W p l e ({ frames := 1, cells := 0, slots := 0, locals := 25 }) s m args below meth c H locs 0 0 (MQ below (pw_Q D cls9 ad C (pw_pv (fun ad' C' => ad' = ad ∧ rm_at ca ad C' res ∧ rm_fr C C')) A) args s 0 0 A) (F0 m 124 ls [])) → ∀ (n : Nat) (x4_16 : Int32) (x3_16 : Int32) (x2_16 : Int32) (x1_16 : Int32) (r : RS) (C1 : pw_C) (H : Heap) (locs : List Loc) (ls : Array Slot), m_parts_48 K n x4_16 x3_16 x2_16 x1_16 r = some res → rm_at ca ad C1 r → rm_fr C C1 → pw_H D cls9 A s.heap ad C ad C1 H locs → lv_has ls 6 [(4, .int x4_16), (3, .int x3_16), (2, .int x2_16), (0, .ref (ad 30 0)), (1, .int x1_16)] → W p l e ({ frames := 1, cells := 0, slots := 0, locals := 25 }) s m args below meth c H locs 0 0 (MQ below (pw_Q D cls9 ad C (pw_pv (fun ad' C' => ad' = ad ∧ rm_at ca ad C' res ∧ rm_fr C C')) A) args s 0 0 A) (F0 m 48 ls []) := by
              intro K hKK n
              induction n with
              | zero => intro x4_16 x3_16 x2_16 x1_16 r C1 H locs ls hE; rw [m_parts_48] at hE; exact absurd hE (by simp)
              | succ n ih =>
                intro x4_16 x3_16 x2_16 x1_16 r C1 H locs ls hE hR hfr hw hl
                rw [m_parts_48] at hE
                refine lv_iload hx hb d_M_parts_48 (lv_at hl 0 rfl) ?_
                refine lv_if_lt (tgt := 124) hx hb d_M_parts_50 (by decide) (fun c_17 => ?_) (fun c_17 => ?_)
                · rw [if_pos c_17] at hE
                  exact hKK _ _ _ _ _ _ _ _ _ hE hR hfr hw (lv_sub hl [0, 1, 2, 3, 4] rfl)
                · rw [if_neg c_17] at hE
                  refine lv_aload_n hx hb d_M_parts_53 rfl (lv_at hl 3 rfl) ?_
                  refine lv_iload_n hx hb d_M_parts_54 rfl (lv_at hl 2 rfl) ?_
                  obtain ⟨y_18, hy_18, hE⟩ := ob_some hE
                  have hc_19 : C1 30 0 = some (.inr (4, [.ref (ad 31 0), .ref (ad 31 1), .ref (ad 31 2), .ref (ad 31 3), .ref (ad 31 4), .ref (ad 31 5), .ref (ad 31 6), .ref (ad 31 7), .ref (ad 31 8), .ref (ad 31 9), .ref (ad 31 10), .ref (ad 31 11), .ref (ad 31 12), .ref (ad 31 13), .ref (ad 31 14), .int r.objects, .ref (ad 31 15), .int r.length, .ref (ad 31 16), .int r.waits, .ref (ad 31 17), .int r.given, .ref (ad 31 18), .ref (ad 31 19), .ref (ad 31 20), .int r.left, .ref (ad 31 21), .ref (ad 31 22), .int r.oldLength, .int r.oldWaits, .int r.oldGiven])) := by have h9 := rm_at.o hR; exact h9
                  refine pw_calli (va_runV (As := [.int x2_16]) (rest := []) ⟨hx, hb, hml, hown, hts0⟩ (k_M_firstSlot hR hy_18 _) (cwV 1 hts0 (wd_V wd_876 wd_873 wd_875 wd_25 wd_56) rfl rfl rfl (by decide +kernel) ⟨Nat.le_of_ble_eq_true rfl, Nat.le_of_ble_eq_true rfl⟩) (pw_preV hZ hw hA hK hz rfl hc_19 rfl) rfl rfl hl.1 rfl (lv_room (Nat.le_of_ble_eq_true rfl)) d_M_parts_55 ⟨Nat.le_of_ble_eq_true rfl, Nat.le_of_ble_eq_true rfl⟩) hw hA (fun r_22 ad_20 C_21 H locs hp hw => ?_)
                  obtain ⟨⟨hae, hR, hf1⟩, hre⟩ := hp
                  rw [hre]
                  rw [hae] at hw
                  clear hae
                  have hfr : rm_fr C C_21 := fun x y h9 => (hf1 x y h9).trans (hfr x y h9)
                  clear hf1
                  refine lv_aload_n hx hb d_M_parts_58 rfl (lv_at hl 3 rfl) ?_
                  have hc_23 : C_21 30 0 = some (.inr (4, [.ref (ad 31 0), .ref (ad 31 1), .ref (ad 31 2), .ref (ad 31 3), .ref (ad 31 4), .ref (ad 31 5), .ref (ad 31 6), .ref (ad 31 7), .ref (ad 31 8), .ref (ad 31 9), .ref (ad 31 10), .ref (ad 31 11), .ref (ad 31 12), .ref (ad 31 13), .ref (ad 31 14), .int y_18.2.objects, .ref (ad 31 15), .int y_18.2.length, .ref (ad 31 16), .int y_18.2.waits, .ref (ad 31 17), .int y_18.2.given, .ref (ad 31 18), .ref (ad 31 19), .ref (ad 31 20), .int y_18.2.left, .ref (ad 31 21), .ref (ad 31 22), .int y_18.2.oldLength, .int y_18.2.oldWaits, .int y_18.2.oldGiven])) := by have h9 := rm_at.o hR; exact h9
                  refine pw_get (Cn := "GraphWriterModel") (T := F_M) (N := 31) hx hb hts in_M hown hK hw 30 0 rfl hc_23 rfl 26 (by decide) (hts _ wd_780) (fun _ h9 => h9) rfl d_M_parts_59 ?_
                  refine lv_iload hx hb d_M_parts_62 (lv_at hl 0 rfl) ?_
                  have hc_24 : C_21 31 21 = some (.inl (ca 0, 4, .inl y_18.2.order)) := by have h9 := rm_at.a21 hR; exact h9
                  obtain ⟨v_25, hv_25, hE⟩ := ob_some hE
                  obtain ⟨hi_v_25, hj_v_25, he_v_25⟩ := rd_some (by decide) hv_25
                  refine pw_iald hx hb hK hw 31 21 rfl 0 hc_24 rfl (x4_16 : Int32).toNatClampNeg hi_v_25 (by omega) (by omega) d_M_parts_64 ?_
                  rw [← he_v_25]
                  refine lv_iadd hx hb d_M_parts_65 ?_
                  refine lv_iconst (v := 4) hx hb d_M_parts_66 (by decide) ?_
                  refine lv_iload_n hx hb d_M_parts_67 rfl (lv_at hl 2 rfl) ?_
                  refine lv_imul hx hb d_M_parts_68 ?_
                  refine lv_isub hx hb d_M_parts_69 ?_
                  refine lv_istore (lv' := [(5, .int ((y_18.1 + v_25) - (4 * x2_16))), (4, .int x4_16), (3, .int x3_16), (2, .int x2_16), (0, .ref (ad 30 0)), (1, .int x1_16)]) hx hb d_M_parts_70 hl (by decide) rfl (fun ls hl => ?_)
                  refine lv_aload_n hx hb d_M_parts_72 rfl (lv_at hl 4 rfl) ?_
                  refine pw_get (Cn := "GraphWriterModel") (T := F_M) (N := 31) hx hb hts in_M hown hK hw 30 0 rfl hc_23 rfl 6 (by decide) (hts _ wd_760) (fun _ h9 => h9) rfl d_M_parts_73 ?_
                  refine lv_aload_n hx hb d_M_parts_76 rfl (lv_at hl 4 rfl) ?_
                  refine pw_get (Cn := "GraphWriterModel") (T := F_M) (N := 31) hx hb hts in_M hown hK hw 30 0 rfl hc_23 rfl 26 (by decide) (hts _ wd_780) (fun _ h9 => h9) rfl d_M_parts_77 ?_
                  refine lv_iload hx hb d_M_parts_80 (lv_at hl 1 rfl) ?_
                  obtain ⟨v_26, hv_26, hE⟩ := ob_some hE
                  obtain ⟨hi_v_26, hj_v_26, he_v_26⟩ := rd_some (by decide) hv_26
                  refine pw_iald hx hb hK hw 31 21 rfl 0 hc_24 rfl (x4_16 : Int32).toNatClampNeg hi_v_26 (by omega) (by omega) d_M_parts_82 ?_
                  rw [← he_v_26]
                  have hc_27 : C_21 31 6 = some (.inl (ca 0, 24, .inl y_18.2.fType)) := by have h9 := rm_at.a6 hR; exact h9
                  obtain ⟨v_28, hv_28, hE⟩ := ob_some hE
                  obtain ⟨hi_v_28, hj_v_28, he_v_28⟩ := rd_some (by decide) hv_28
                  refine pw_iald hx hb hK hw 31 6 rfl 0 hc_27 rfl (v_26 : Int32).toNatClampNeg hi_v_28 (by omega) (by omega) d_M_parts_83 ?_
                  rw [← he_v_28]
                  refine lv_iconst (v := 5) hx hb d_M_parts_84 (by decide) ?_
                  refine lv_icmp_le (tgt := 110) hx hb d_M_parts_85 (by decide) (fun c_29 => ?_) (fun c_29 => ?_)
                  · rw [if_pos c_29] at hE
                    refine lv_aload_n hx hb d_M_parts_110 rfl (lv_at hl 4 rfl) ?_
                    refine lv_iconst (v := 1) hx hb d_M_parts_111 (by decide) ?_
                    refine lv_iload_n hx hb d_M_parts_112 rfl (lv_at hl 5 rfl) ?_
                    refine lv_iload hx hb d_M_parts_113 (lv_at hl 0 rfl) ?_
                    obtain ⟨y_30, hy_30, hE⟩ := ob_some hE
                    refine pw_callv (va_runV (As := [.int 1, .int x1_16, .int ((y_18.1 + v_25) - (4 * x2_16))]) (rest := []) ⟨hx, hb, hml, hown, hts0⟩ (k_M_push hR hy_30 _) (cwV 3 hts0 (wd_V wd_981 wd_978 wd_980 wd_39 wd_56) rfl rfl rfl (by decide +kernel) ⟨Nat.le_of_ble_eq_true rfl, Nat.le_of_ble_eq_true rfl⟩) (pw_preV hZ hw hA hK hz rfl hc_23 rfl) rfl rfl hl.1 rfl (lv_room (Nat.le_of_ble_eq_true rfl)) d_M_parts_115 ⟨Nat.le_of_ble_eq_true rfl, Nat.le_of_ble_eq_true rfl⟩) hw hA (fun ad_31 C_32 H locs hp hw => ?_)
                    obtain ⟨hae, hR, hf1⟩ := hp
                    rw [hae] at hw
                    clear hae
                    have hfr : rm_fr C C_32 := fun x y h9 => (hf1 x y h9).trans (hfr x y h9)
                    clear hf1
                    refine lv_iinc (v := x4_16 + (-1)) (lv' := [(4, .int (x4_16 + (-1))), (5, .int ((y_18.1 + v_25) - (4 * x2_16))), (3, .int x3_16), (2, .int x2_16), (0, .ref (ad 30 0)), (1, .int x1_16)]) hx hb d_M_parts_118 hl (k := 1) rfl rfl (by decide) rfl (fun ls hl => ?_)
                    refine lv_goto (tgt := 48) hx hb d_M_parts_121 (by decide) ?_
                    exact ih _ _ _ _ _ _ _ _ _ hE hR hfr hw (lv_sub hl [0, 2, 3, 4, 5] rfl)
                  · rw [if_neg c_29] at hE
                    refine lv_aload_n hx hb d_M_parts_88 rfl (lv_at hl 4 rfl) ?_
                    refine lv_iconst (v := 0) hx hb d_M_parts_89 (by decide) ?_
                    refine lv_aload_n hx hb d_M_parts_90 rfl (lv_at hl 4 rfl) ?_
                    refine pw_get (Cn := "GraphWriterModel") (T := F_M) (N := 31) hx hb hts in_M hown hK hw 30 0 rfl hc_23 rfl 12 (by decide) (hts _ wd_766) (fun _ h9 => h9) rfl d_M_parts_91 ?_
                    refine lv_bipush (v := 24) hx hb d_M_parts_94 (by decide) ?_
                    refine lv_iload_n hx hb d_M_parts_96 rfl (lv_at hl 5 rfl) ?_
                    refine lv_imul hx hb d_M_parts_97 ?_
                    refine lv_iload hx hb d_M_parts_98 (lv_at hl 0 rfl) ?_
                    refine lv_iadd hx hb d_M_parts_100 ?_
                    have hc_34 : C_21 31 12 = some (.inl (ca 1, 480, .inr (.inl y_18.2.value))) := by have h9 := rm_at.a12 hR; exact h9
                    obtain ⟨v_35, hv_35, hE⟩ := ob_some hE
                    obtain ⟨hi_v_35, hj_v_35, he_v_35⟩ := rd_some (by decide) hv_35
                    refine pw_lald hx hb hK hw 31 12 rfl 1 hc_34 rfl ((24 * x1_16) + ((y_18.1 + v_25) - (4 * x2_16)) : Int32).toNatClampNeg hi_v_35 (by omega) (by omega) d_M_parts_101 ?_
                    rw [← he_v_35]
                    refine lv_l2i hx hb d_M_parts_102 rfl ?_
                    refine lv_iconst (v := 0) hx hb d_M_parts_103 (by decide) ?_
                    obtain ⟨y_36, hy_36, hE⟩ := ob_some hE
                    refine pw_callv (va_runV (As := [.int 0, .int v_35.toInt32, .int 0]) (rest := []) ⟨hx, hb, hml, hown, hts0⟩ (k_M_push hR hy_36 _) (cwV 3 hts0 (wd_V wd_981 wd_978 wd_980 wd_39 wd_56) rfl rfl rfl (by decide +kernel) ⟨Nat.le_of_ble_eq_true rfl, Nat.le_of_ble_eq_true rfl⟩) (pw_preV hZ hw hA hK hz rfl hc_23 rfl) rfl rfl hl.1 rfl (lv_room (Nat.le_of_ble_eq_true rfl)) d_M_parts_104 ⟨Nat.le_of_ble_eq_true rfl, Nat.le_of_ble_eq_true rfl⟩) hw hA (fun ad_37 C_38 H locs hp hw => ?_)
                    obtain ⟨hae, hR, hf1⟩ := hp
                    rw [hae] at hw
                    clear hae
                    have hfr : rm_fr C C_38 := fun x y h9 => (hf1 x y h9).trans (hfr x y h9)
                    clear hf1
                    refine lv_goto (tgt := 118) hx hb d_M_parts_107 (by decide) ?_
                    refine lv_iinc (v := x4_16 + (-1)) (lv' := [(4, .int (x4_16 + (-1))), (5, .int ((y_18.1 + v_25) - (4 * x2_16))), (3, .int x3_16), (2, .int x2_16), (0, .ref (ad 30 0)), (1, .int x1_16)]) hx hb d_M_parts_118 hl (k := 1) rfl rfl (by decide) rfl (fun ls hl => ?_)
                    refine lv_goto (tgt := 48) hx hb d_M_parts_121 (by decide) ?_
                    exact ih _ _ _ _ _ _ _ _ _ hE hR hfr hw (lv_sub hl [0, 2, 3, 4, 5] rfl)
            refine lp_16 _ (fun z4_16 z3_16 z2_16 z1_16 r_40 C_41 H locs ls hE hR hfr hw hl => ?_) 60 _ _ _ _ _ _ _ _ _ hE hR hfr hw hl
            try dsimp only at hE
            refine lv_aload_n hx hb d_M_parts_124 rfl (lv_at hl 3 rfl) ?_
            have hc_42 : C_41 30 0 = some (.inr (4, [.ref (ad 31 0), .ref (ad 31 1), .ref (ad 31 2), .ref (ad 31 3), .ref (ad 31 4), .ref (ad 31 5), .ref (ad 31 6), .ref (ad 31 7), .ref (ad 31 8), .ref (ad 31 9), .ref (ad 31 10), .ref (ad 31 11), .ref (ad 31 12), .ref (ad 31 13), .ref (ad 31 14), .int r_40.objects, .ref (ad 31 15), .int r_40.length, .ref (ad 31 16), .int r_40.waits, .ref (ad 31 17), .int r_40.given, .ref (ad 31 18), .ref (ad 31 19), .ref (ad 31 20), .int r_40.left, .ref (ad 31 21), .ref (ad 31 22), .int r_40.oldLength, .int r_40.oldWaits, .int r_40.oldGiven])) := by have h9 := rm_at.o hR; exact h9
            refine pw_get (Cn := "GraphWriterModel") (T := F_M) (N := 31) hx hb hts in_M hown hK hw 30 0 rfl hc_42 rfl 2 (by decide) (hts _ wd_756) (fun _ h9 => h9) rfl d_M_parts_125 ?_
            refine lv_iload_n hx hb d_M_parts_128 rfl (lv_at hl 2 rfl) ?_
            have hc_43 : C_41 31 2 = some (.inl (ca 0, 6, .inl r_40.above)) := by have h9 := rm_at.a2 hR; exact h9
            obtain ⟨v_44, hv_44, hE⟩ := ob_some hE
            obtain ⟨hi_v_44, hj_v_44, he_v_44⟩ := rd_some (by decide) hv_44
            refine pw_iald hx hb hK hw 31 2 rfl 0 hc_43 rfl (z2_16 : Int32).toNatClampNeg hi_v_44 (by omega) (by omega) d_M_parts_129 ?_
            rw [← he_v_44]
            refine lv_istore_n (lv' := [(2, .int v_44), (4, .int z4_16), (3, .int z3_16), (0, .ref (ad 30 0)), (1, .int z1_16)]) hx hb d_M_parts_130 rfl hl (by decide) rfl (fun ls hl => ?_)
            refine lv_goto (tgt := 7) hx hb d_M_parts_131 (by decide) ?_
            exact ih _ _ _ _ _ _ _ hE hR hfr hw (lv_sub hl [0, 3, 4] rfl)
          · rw [if_pos c_11] at hE
            refine lv_aload_n hx hb d_M_parts_30 rfl (lv_at hl 1 rfl) ?_
            refine lv_iconst (v := 2) hx hb d_M_parts_31 (by decide) ?_
            refine lv_iload_n hx hb d_M_parts_32 rfl (lv_at hl 2 rfl) ?_
            refine lv_iload_n hx hb d_M_parts_33 rfl (lv_at hl 0 rfl) ?_
            obtain ⟨y_45, hy_45, hE⟩ := ob_some hE
            refine pw_callv (va_runV (As := [.int 2, .int x1_4, .int x2_4]) (rest := []) ⟨hx, hb, hml, hown, hts0⟩ (k_M_push hR hy_45 _) (cwV 3 hts0 (wd_V wd_981 wd_978 wd_980 wd_39 wd_56) rfl rfl rfl (by decide +kernel) ⟨Nat.le_of_ble_eq_true rfl, Nat.le_of_ble_eq_true rfl⟩) (pw_preV hZ hw hA hK hz rfl hc_6 rfl) rfl rfl hl.1 rfl (lv_room (Nat.le_of_ble_eq_true rfl)) d_M_parts_34 ⟨Nat.le_of_ble_eq_true rfl, Nat.le_of_ble_eq_true rfl⟩) hw hA (fun ad_46 C_47 H locs hp hw => ?_)
            obtain ⟨hae, hR, hf1⟩ := hp
            rw [hae] at hw
            clear hae
            have hfr : rm_fr C C_47 := fun x y h9 => (hf1 x y h9).trans (hfr x y h9)
            clear hf1
            refine lv_aload_n hx hb d_M_parts_37 rfl (lv_at hl 1 rfl) ?_
            refine lv_iload_n hx hb d_M_parts_38 rfl (lv_at hl 0 rfl) ?_
            obtain ⟨y_49, hy_49, hE⟩ := ob_some hE
            have hc_50 : C_47 30 0 = some (.inr (4, [.ref (ad 31 0), .ref (ad 31 1), .ref (ad 31 2), .ref (ad 31 3), .ref (ad 31 4), .ref (ad 31 5), .ref (ad 31 6), .ref (ad 31 7), .ref (ad 31 8), .ref (ad 31 9), .ref (ad 31 10), .ref (ad 31 11), .ref (ad 31 12), .ref (ad 31 13), .ref (ad 31 14), .int y_45.objects, .ref (ad 31 15), .int y_45.length, .ref (ad 31 16), .int y_45.waits, .ref (ad 31 17), .int y_45.given, .ref (ad 31 18), .ref (ad 31 19), .ref (ad 31 20), .int y_45.left, .ref (ad 31 21), .ref (ad 31 22), .int y_45.oldLength, .int y_45.oldWaits, .int y_45.oldGiven])) := by have h9 := rm_at.o hR; exact h9
            refine pw_calli (va_runV (As := [.int x2_4]) (rest := []) ⟨hx, hb, hml, hown, hts0⟩ (k_M_arrange hR hy_49 _) (cwV 1 hts0 (wd_V wd_1006 wd_1003 wd_1005 wd_44 wd_56) rfl rfl rfl (by decide +kernel) ⟨Nat.le_of_ble_eq_true rfl, Nat.le_of_ble_eq_true rfl⟩) (pw_preV hZ hw hA hK hz rfl hc_50 rfl) rfl rfl hl.1 rfl (lv_room (Nat.le_of_ble_eq_true rfl)) d_M_parts_39 ⟨Nat.le_of_ble_eq_true rfl, Nat.le_of_ble_eq_true rfl⟩) hw hA (fun r_53 ad_51 C_52 H locs hp hw => ?_)
            obtain ⟨⟨hae, hR, hf1⟩, hre⟩ := hp
            rw [hre]
            rw [hae] at hw
            clear hae
            have hfr : rm_fr C C_52 := fun x y h9 => (hf1 x y h9).trans (hfr x y h9)
            clear hf1
            refine lv_istore_n (lv' := [(3, .int y_49.1), (2, .int x2_4), (0, .ref (ad 30 0)), (1, .int x1_4)]) hx hb d_M_parts_42 rfl hl (by decide) rfl (fun ls hl => ?_)
            refine lv_iload_n hx hb d_M_parts_43 rfl (lv_at hl 0 rfl) ?_
            refine lv_iconst (v := 1) hx hb d_M_parts_44 (by decide) ?_
            refine lv_isub hx hb d_M_parts_45 ?_
            refine lv_istore (lv' := [(4, .int (y_49.1 - 1)), (3, .int y_49.1), (2, .int x2_4), (0, .ref (ad 30 0)), (1, .int x1_4)]) hx hb d_M_parts_46 hl (by decide) rfl (fun ls hl => ?_)
            have lp_54 : ∀ (K : Int32 → Int32 → Int32 → Int32 → RS → Option RS), (∀ (x4_54 : Int32) (x3_54 : Int32) (x2_54 : Int32) (x1_54 : Int32) (r : RS) (C1 : pw_C) (H : Heap) (locs : List Loc) (ls : Array Slot), K x4_54 x3_54 x2_54 x1_54 r = some res → rm_at ca ad C1 r → rm_fr C C1 → pw_H D cls9 A s.heap ad C ad C1 H locs → lv_has ls 6 [(4, .int x4_54), (3, .int x3_54), (2, .int x2_54), (0, .ref (ad 30 0)), (1, .int x1_54)] → W p l e ({ frames := 1, cells := 0, slots := 0, locals := 25 }) s m args below meth c H locs 0 0 (MQ below (pw_Q D cls9 ad C (pw_pv (fun ad' C' => ad' = ad ∧ rm_at ca ad C' res ∧ rm_fr C C')) A) args s 0 0 A) (F0 m 124 ls [])) → ∀ (n : Nat) (x4_54 : Int32) (x3_54 : Int32) (x2_54 : Int32) (x1_54 : Int32) (r : RS) (C1 : pw_C) (H : Heap) (locs : List Loc) (ls : Array Slot), m_parts_48' K n x4_54 x3_54 x2_54 x1_54 r = some res → rm_at ca ad C1 r → rm_fr C C1 → pw_H D cls9 A s.heap ad C ad C1 H locs → lv_has ls 6 [(4, .int x4_54), (3, .int x3_54), (2, .int x2_54), (0, .ref (ad 30 0)), (1, .int x1_54)] → W p l e ({ frames := 1, cells := 0, slots := 0, locals := 25 }) s m args below meth c H locs 0 0 (MQ below (pw_Q D cls9 ad C (pw_pv (fun ad' C' => ad' = ad ∧ rm_at ca ad C' res ∧ rm_fr C C')) A) args s 0 0 A) (F0 m 48 ls []) := by
              intro K hKK n
              induction n with
              | zero => intro x4_54 x3_54 x2_54 x1_54 r C1 H locs ls hE; rw [m_parts_48'] at hE; exact absurd hE (by simp)
              | succ n ih =>
                intro x4_54 x3_54 x2_54 x1_54 r C1 H locs ls hE hR hfr hw hl
                rw [m_parts_48'] at hE
                refine lv_iload hx hb d_M_parts_48 (lv_at hl 0 rfl) ?_
                refine lv_if_lt (tgt := 124) hx hb d_M_parts_50 (by decide) (fun c_55 => ?_) (fun c_55 => ?_)
                · rw [if_pos c_55] at hE
                  exact hKK _ _ _ _ _ _ _ _ _ hE hR hfr hw (lv_sub hl [0, 1, 2, 3, 4] rfl)
                · rw [if_neg c_55] at hE
                  refine lv_aload_n hx hb d_M_parts_53 rfl (lv_at hl 3 rfl) ?_
                  refine lv_iload_n hx hb d_M_parts_54 rfl (lv_at hl 2 rfl) ?_
                  obtain ⟨y_56, hy_56, hE⟩ := ob_some hE
                  have hc_57 : C1 30 0 = some (.inr (4, [.ref (ad 31 0), .ref (ad 31 1), .ref (ad 31 2), .ref (ad 31 3), .ref (ad 31 4), .ref (ad 31 5), .ref (ad 31 6), .ref (ad 31 7), .ref (ad 31 8), .ref (ad 31 9), .ref (ad 31 10), .ref (ad 31 11), .ref (ad 31 12), .ref (ad 31 13), .ref (ad 31 14), .int r.objects, .ref (ad 31 15), .int r.length, .ref (ad 31 16), .int r.waits, .ref (ad 31 17), .int r.given, .ref (ad 31 18), .ref (ad 31 19), .ref (ad 31 20), .int r.left, .ref (ad 31 21), .ref (ad 31 22), .int r.oldLength, .int r.oldWaits, .int r.oldGiven])) := by have h9 := rm_at.o hR; exact h9
                  refine pw_calli (va_runV (As := [.int x2_54]) (rest := []) ⟨hx, hb, hml, hown, hts0⟩ (k_M_firstSlot hR hy_56 _) (cwV 1 hts0 (wd_V wd_876 wd_873 wd_875 wd_25 wd_56) rfl rfl rfl (by decide +kernel) ⟨Nat.le_of_ble_eq_true rfl, Nat.le_of_ble_eq_true rfl⟩) (pw_preV hZ hw hA hK hz rfl hc_57 rfl) rfl rfl hl.1 rfl (lv_room (Nat.le_of_ble_eq_true rfl)) d_M_parts_55 ⟨Nat.le_of_ble_eq_true rfl, Nat.le_of_ble_eq_true rfl⟩) hw hA (fun r_60 ad_58 C_59 H locs hp hw => ?_)
                  obtain ⟨⟨hae, hR, hf1⟩, hre⟩ := hp
                  rw [hre]
                  rw [hae] at hw
                  clear hae
                  have hfr : rm_fr C C_59 := fun x y h9 => (hf1 x y h9).trans (hfr x y h9)
                  clear hf1
                  refine lv_aload_n hx hb d_M_parts_58 rfl (lv_at hl 3 rfl) ?_
                  have hc_61 : C_59 30 0 = some (.inr (4, [.ref (ad 31 0), .ref (ad 31 1), .ref (ad 31 2), .ref (ad 31 3), .ref (ad 31 4), .ref (ad 31 5), .ref (ad 31 6), .ref (ad 31 7), .ref (ad 31 8), .ref (ad 31 9), .ref (ad 31 10), .ref (ad 31 11), .ref (ad 31 12), .ref (ad 31 13), .ref (ad 31 14), .int y_56.2.objects, .ref (ad 31 15), .int y_56.2.length, .ref (ad 31 16), .int y_56.2.waits, .ref (ad 31 17), .int y_56.2.given, .ref (ad 31 18), .ref (ad 31 19), .ref (ad 31 20), .int y_56.2.left, .ref (ad 31 21), .ref (ad 31 22), .int y_56.2.oldLength, .int y_56.2.oldWaits, .int y_56.2.oldGiven])) := by have h9 := rm_at.o hR; exact h9
                  refine pw_get (Cn := "GraphWriterModel") (T := F_M) (N := 31) hx hb hts in_M hown hK hw 30 0 rfl hc_61 rfl 26 (by decide) (hts _ wd_780) (fun _ h9 => h9) rfl d_M_parts_59 ?_
                  refine lv_iload hx hb d_M_parts_62 (lv_at hl 0 rfl) ?_
                  have hc_62 : C_59 31 21 = some (.inl (ca 0, 4, .inl y_56.2.order)) := by have h9 := rm_at.a21 hR; exact h9
                  obtain ⟨v_63, hv_63, hE⟩ := ob_some hE
                  obtain ⟨hi_v_63, hj_v_63, he_v_63⟩ := rd_some (by decide) hv_63
                  refine pw_iald hx hb hK hw 31 21 rfl 0 hc_62 rfl (x4_54 : Int32).toNatClampNeg hi_v_63 (by omega) (by omega) d_M_parts_64 ?_
                  rw [← he_v_63]
                  refine lv_iadd hx hb d_M_parts_65 ?_
                  refine lv_iconst (v := 4) hx hb d_M_parts_66 (by decide) ?_
                  refine lv_iload_n hx hb d_M_parts_67 rfl (lv_at hl 2 rfl) ?_
                  refine lv_imul hx hb d_M_parts_68 ?_
                  refine lv_isub hx hb d_M_parts_69 ?_
                  refine lv_istore (lv' := [(5, .int ((y_56.1 + v_63) - (4 * x2_54))), (4, .int x4_54), (3, .int x3_54), (2, .int x2_54), (0, .ref (ad 30 0)), (1, .int x1_54)]) hx hb d_M_parts_70 hl (by decide) rfl (fun ls hl => ?_)
                  refine lv_aload_n hx hb d_M_parts_72 rfl (lv_at hl 4 rfl) ?_
                  refine pw_get (Cn := "GraphWriterModel") (T := F_M) (N := 31) hx hb hts in_M hown hK hw 30 0 rfl hc_61 rfl 6 (by decide) (hts _ wd_760) (fun _ h9 => h9) rfl d_M_parts_73 ?_
                  refine lv_aload_n hx hb d_M_parts_76 rfl (lv_at hl 4 rfl) ?_
                  refine pw_get (Cn := "GraphWriterModel") (T := F_M) (N := 31) hx hb hts in_M hown hK hw 30 0 rfl hc_61 rfl 26 (by decide) (hts _ wd_780) (fun _ h9 => h9) rfl d_M_parts_77 ?_
                  refine lv_iload hx hb d_M_parts_80 (lv_at hl 1 rfl) ?_
                  obtain ⟨v_64, hv_64, hE⟩ := ob_some hE
                  obtain ⟨hi_v_64, hj_v_64, he_v_64⟩ := rd_some (by decide) hv_64
                  refine pw_iald hx hb hK hw 31 21 rfl 0 hc_62 rfl (x4_54 : Int32).toNatClampNeg hi_v_64 (by omega) (by omega) d_M_parts_82 ?_
                  rw [← he_v_64]
                  have hc_65 : C_59 31 6 = some (.inl (ca 0, 24, .inl y_56.2.fType)) := by have h9 := rm_at.a6 hR; exact h9
                  obtain ⟨v_66, hv_66, hE⟩ := ob_some hE
                  obtain ⟨hi_v_66, hj_v_66, he_v_66⟩ := rd_some (by decide) hv_66
                  refine pw_iald hx hb hK hw 31 6 rfl 0 hc_65 rfl (v_64 : Int32).toNatClampNeg hi_v_66 (by omega) (by omega) d_M_parts_83 ?_
                  rw [← he_v_66]
                  refine lv_iconst (v := 5) hx hb d_M_parts_84 (by decide) ?_
                  refine lv_icmp_le (tgt := 110) hx hb d_M_parts_85 (by decide) (fun c_67 => ?_) (fun c_67 => ?_)
                  · rw [if_pos c_67] at hE
                    refine lv_aload_n hx hb d_M_parts_110 rfl (lv_at hl 4 rfl) ?_
                    refine lv_iconst (v := 1) hx hb d_M_parts_111 (by decide) ?_
                    refine lv_iload_n hx hb d_M_parts_112 rfl (lv_at hl 5 rfl) ?_
                    refine lv_iload hx hb d_M_parts_113 (lv_at hl 0 rfl) ?_
                    obtain ⟨y_68, hy_68, hE⟩ := ob_some hE
                    refine pw_callv (va_runV (As := [.int 1, .int x1_54, .int ((y_56.1 + v_63) - (4 * x2_54))]) (rest := []) ⟨hx, hb, hml, hown, hts0⟩ (k_M_push hR hy_68 _) (cwV 3 hts0 (wd_V wd_981 wd_978 wd_980 wd_39 wd_56) rfl rfl rfl (by decide +kernel) ⟨Nat.le_of_ble_eq_true rfl, Nat.le_of_ble_eq_true rfl⟩) (pw_preV hZ hw hA hK hz rfl hc_61 rfl) rfl rfl hl.1 rfl (lv_room (Nat.le_of_ble_eq_true rfl)) d_M_parts_115 ⟨Nat.le_of_ble_eq_true rfl, Nat.le_of_ble_eq_true rfl⟩) hw hA (fun ad_69 C_70 H locs hp hw => ?_)
                    obtain ⟨hae, hR, hf1⟩ := hp
                    rw [hae] at hw
                    clear hae
                    have hfr : rm_fr C C_70 := fun x y h9 => (hf1 x y h9).trans (hfr x y h9)
                    clear hf1
                    refine lv_iinc (v := x4_54 + (-1)) (lv' := [(4, .int (x4_54 + (-1))), (5, .int ((y_56.1 + v_63) - (4 * x2_54))), (3, .int x3_54), (2, .int x2_54), (0, .ref (ad 30 0)), (1, .int x1_54)]) hx hb d_M_parts_118 hl (k := 1) rfl rfl (by decide) rfl (fun ls hl => ?_)
                    refine lv_goto (tgt := 48) hx hb d_M_parts_121 (by decide) ?_
                    exact ih _ _ _ _ _ _ _ _ _ hE hR hfr hw (lv_sub hl [0, 2, 3, 4, 5] rfl)
                  · rw [if_neg c_67] at hE
                    refine lv_aload_n hx hb d_M_parts_88 rfl (lv_at hl 4 rfl) ?_
                    refine lv_iconst (v := 0) hx hb d_M_parts_89 (by decide) ?_
                    refine lv_aload_n hx hb d_M_parts_90 rfl (lv_at hl 4 rfl) ?_
                    refine pw_get (Cn := "GraphWriterModel") (T := F_M) (N := 31) hx hb hts in_M hown hK hw 30 0 rfl hc_61 rfl 12 (by decide) (hts _ wd_766) (fun _ h9 => h9) rfl d_M_parts_91 ?_
                    refine lv_bipush (v := 24) hx hb d_M_parts_94 (by decide) ?_
                    refine lv_iload_n hx hb d_M_parts_96 rfl (lv_at hl 5 rfl) ?_
                    refine lv_imul hx hb d_M_parts_97 ?_
                    refine lv_iload hx hb d_M_parts_98 (lv_at hl 0 rfl) ?_
                    refine lv_iadd hx hb d_M_parts_100 ?_
                    have hc_72 : C_59 31 12 = some (.inl (ca 1, 480, .inr (.inl y_56.2.value))) := by have h9 := rm_at.a12 hR; exact h9
                    obtain ⟨v_73, hv_73, hE⟩ := ob_some hE
                    obtain ⟨hi_v_73, hj_v_73, he_v_73⟩ := rd_some (by decide) hv_73
                    refine pw_lald hx hb hK hw 31 12 rfl 1 hc_72 rfl ((24 * x1_54) + ((y_56.1 + v_63) - (4 * x2_54)) : Int32).toNatClampNeg hi_v_73 (by omega) (by omega) d_M_parts_101 ?_
                    rw [← he_v_73]
                    refine lv_l2i hx hb d_M_parts_102 rfl ?_
                    refine lv_iconst (v := 0) hx hb d_M_parts_103 (by decide) ?_
                    obtain ⟨y_74, hy_74, hE⟩ := ob_some hE
                    refine pw_callv (va_runV (As := [.int 0, .int v_73.toInt32, .int 0]) (rest := []) ⟨hx, hb, hml, hown, hts0⟩ (k_M_push hR hy_74 _) (cwV 3 hts0 (wd_V wd_981 wd_978 wd_980 wd_39 wd_56) rfl rfl rfl (by decide +kernel) ⟨Nat.le_of_ble_eq_true rfl, Nat.le_of_ble_eq_true rfl⟩) (pw_preV hZ hw hA hK hz rfl hc_61 rfl) rfl rfl hl.1 rfl (lv_room (Nat.le_of_ble_eq_true rfl)) d_M_parts_104 ⟨Nat.le_of_ble_eq_true rfl, Nat.le_of_ble_eq_true rfl⟩) hw hA (fun ad_75 C_76 H locs hp hw => ?_)
                    obtain ⟨hae, hR, hf1⟩ := hp
                    rw [hae] at hw
                    clear hae
                    have hfr : rm_fr C C_76 := fun x y h9 => (hf1 x y h9).trans (hfr x y h9)
                    clear hf1
                    refine lv_goto (tgt := 118) hx hb d_M_parts_107 (by decide) ?_
                    refine lv_iinc (v := x4_54 + (-1)) (lv' := [(4, .int (x4_54 + (-1))), (5, .int ((y_56.1 + v_63) - (4 * x2_54))), (3, .int x3_54), (2, .int x2_54), (0, .ref (ad 30 0)), (1, .int x1_54)]) hx hb d_M_parts_118 hl (k := 1) rfl rfl (by decide) rfl (fun ls hl => ?_)
                    refine lv_goto (tgt := 48) hx hb d_M_parts_121 (by decide) ?_
                    exact ih _ _ _ _ _ _ _ _ _ hE hR hfr hw (lv_sub hl [0, 2, 3, 4, 5] rfl)
            refine lp_54 _ (fun z4_54 z3_54 z2_54 z1_54 r_78 C_79 H locs ls hE hR hfr hw hl => ?_) 60 _ _ _ _ _ _ _ _ _ hE hR hfr hw hl
            try dsimp only at hE
            refine lv_aload_n hx hb d_M_parts_124 rfl (lv_at hl 3 rfl) ?_
            have hc_80 : C_79 30 0 = some (.inr (4, [.ref (ad 31 0), .ref (ad 31 1), .ref (ad 31 2), .ref (ad 31 3), .ref (ad 31 4), .ref (ad 31 5), .ref (ad 31 6), .ref (ad 31 7), .ref (ad 31 8), .ref (ad 31 9), .ref (ad 31 10), .ref (ad 31 11), .ref (ad 31 12), .ref (ad 31 13), .ref (ad 31 14), .int r_78.objects, .ref (ad 31 15), .int r_78.length, .ref (ad 31 16), .int r_78.waits, .ref (ad 31 17), .int r_78.given, .ref (ad 31 18), .ref (ad 31 19), .ref (ad 31 20), .int r_78.left, .ref (ad 31 21), .ref (ad 31 22), .int r_78.oldLength, .int r_78.oldWaits, .int r_78.oldGiven])) := by have h9 := rm_at.o hR; exact h9
            refine pw_get (Cn := "GraphWriterModel") (T := F_M) (N := 31) hx hb hts in_M hown hK hw 30 0 rfl hc_80 rfl 2 (by decide) (hts _ wd_756) (fun _ h9 => h9) rfl d_M_parts_125 ?_
            refine lv_iload_n hx hb d_M_parts_128 rfl (lv_at hl 2 rfl) ?_
            have hc_81 : C_79 31 2 = some (.inl (ca 0, 6, .inl r_78.above)) := by have h9 := rm_at.a2 hR; exact h9
            obtain ⟨v_82, hv_82, hE⟩ := ob_some hE
            obtain ⟨hi_v_82, hj_v_82, he_v_82⟩ := rd_some (by decide) hv_82
            refine pw_iald hx hb hK hw 31 2 rfl 0 hc_81 rfl (z2_54 : Int32).toNatClampNeg hi_v_82 (by omega) (by omega) d_M_parts_129 ?_
            rw [← he_v_82]
            refine lv_istore_n (lv' := [(2, .int v_82), (4, .int z4_54), (3, .int z3_54), (0, .ref (ad 30 0)), (1, .int z1_54)]) hx hb d_M_parts_130 rfl hl (by decide) rfl (fun ls hl => ?_)
            refine lv_goto (tgt := 7) hx hb d_M_parts_131 (by decide) ?_
            exact ih _ _ _ _ _ _ _ hE hR hfr hw (lv_sub hl [0, 3, 4] rfl)
  refine lp_4 _ (fun z2_4 z1_4 r_83 C_84 H locs ls hE hR hfr hw hl => ?_) 60 _ _ _ _ _ _ _ hE hR hfr hw hl
  try dsimp only at hE
  obtain rfl := Option.some.inj hE
  exact pw_vret hx hb hr hlocks hw ⟨rfl, hR, hfr⟩ d_M_parts_134
def m_writeArray_48 (K : Int32 → Int32 → Int32 → RS → Option RS) : Nat → Int32 → Int32 → Int32 → RS → Option RS
  | 0, _, _, _, _ => none
  | n + 1, x3_26, x2_26, x1_26, r => if (x2_26 : Int32) = 0 then (Option.bind (rd r.size 20 x1_26) (fun v_30 => if (v_30 : Int32) ≤ x3_26 then (K x3_26 x2_26 x1_26 r) else (Option.bind (rd r.value 480 ((24 * x1_26) + x3_26)) (fun v_33 => Option.bind (m_append v_33 4 r) (fun y_34 => m_writeArray_48 K n (x3_26 + 1) x2_26 x1_26 y_34))))) else (K x3_26 x2_26 x1_26 r)
def m_writeArray_93 (K : Int32 → Int32 → Int32 → RS → Option RS) : Nat → Int32 → Int32 → Int32 → RS → Option RS
  | 0, _, _, _, _ => none
  | n + 1, x3_43, x2_43, x1_43, r => if (x2_43 : Int32) = 0 then (K x3_43 x2_43 x1_43 r) else (if (x3_43 : Int32) < 0 then (K x3_43 x2_43 x1_43 r) else (Option.bind (rd r.value 480 ((24 * x1_43) + x3_43)) (fun v_48 => Option.bind (m_push 0 v_48.toInt32 0 r) (fun y_49 => m_writeArray_93 K n (x3_43 + (-1)) x2_43 x1_43 y_49))))
def m_writeArray_48' (K : Int32 → Int32 → Int32 → RS → Option RS) : Nat → Int32 → Int32 → Int32 → RS → Option RS
  | 0, _, _, _, _ => none
  | n + 1, x3_76, x2_76, x1_76, r => if (x2_76 : Int32) = 0 then (Option.bind (rd r.size 20 x1_76) (fun v_80 => if (v_80 : Int32) ≤ x3_76 then (K x3_76 x2_76 x1_76 r) else (Option.bind (rd r.value 480 ((24 * x1_76) + x3_76)) (fun v_83 => Option.bind (m_append v_83 4 r) (fun y_84 => m_writeArray_48' K n (x3_76 + 1) x2_76 x1_76 y_84))))) else (K x3_76 x2_76 x1_76 r)
def m_writeArray_93' (K : Int32 → Int32 → Int32 → RS → Option RS) : Nat → Int32 → Int32 → Int32 → RS → Option RS
  | 0, _, _, _, _ => none
  | n + 1, x3_93, x2_93, x1_93, r => if (x2_93 : Int32) = 0 then (K x3_93 x2_93 x1_93 r) else (if (x3_93 : Int32) < 0 then (K x3_93 x2_93 x1_93 r) else (Option.bind (rd r.value 480 ((24 * x1_93) + x3_93)) (fun v_98 => Option.bind (m_push 0 v_98.toInt32 0 r) (fun y_99 => m_writeArray_93' K n (x3_93 + (-1)) x2_93 x1_93 y_99))))
def m_writeArray (l1 : Int32) (r : RS) : Option RS := Option.bind (rd r.sort 20 l1) (fun v_3 => if (v_3 : Int32) = 3 then (Option.bind (m_append 117 1 r) (fun y_55 => Option.bind (m_arrayDescriptor1  y_55) (fun y_59 => Option.bind (m_give l1 y_59) (fun y_64 => Option.bind (rd y_64.size 20 l1) (fun v_71 => Option.bind (m_append v_71.toInt64 4 y_64) (fun y_72 => m_writeArray_48' (fun z3_76 z2_76 z1_76 r_88 => Option.bind (rd r_88.size 20 z1_76) (fun v_92 => m_writeArray_93' (fun z3_93 z2_93 z1_93 r_103 => some r_103) 60 (v_92 - 1) z2_76 z1_76 r_88)) 60 0 1 l1 y_72)))))) else (Option.bind (m_append 117 1 r) (fun y_5 => Option.bind (m_arrayDescriptor0  y_5) (fun y_9 => Option.bind (m_give l1 y_9) (fun y_14 => Option.bind (rd y_14.size 20 l1) (fun v_21 => Option.bind (m_append v_21.toInt64 4 y_14) (fun y_22 => m_writeArray_48 (fun z3_26 z2_26 z1_26 r_38 => Option.bind (rd r_38.size 20 z1_26) (fun v_42 => m_writeArray_93 (fun z3_43 z2_43 z1_43 r_53 => some r_53) 60 (v_42 - 1) z2_26 z1_26 r_38)) 60 0 0 l1 y_22)))))))
set_option maxHeartbeats 4000000 in
set_option maxRecDepth 100000 in
theorem k_M_writeArray {l : Launch} {D : va_G} {ca : Nat → ClassId} {kS : Nat → Nat} {kT : Nat} {ad : pw_A} {C : pw_C} {r : RS} (hR : rm_at ca ad C r) {l1 : Int32} {res : RS} (hE : m_writeArray l1 r = some res) : gc_Con l y_M_writeArray c_M_writeArray ({ frames := 3, cells := 0, slots := 0, locals := 68 }) D ca (z9_Z kS kT) [.ref (ad 30 0), .int l1] ad C (pw_pv (fun ad' C' => ad' = ad ∧ rm_at ca ad C' res ∧ rm_fr C C')) 0 0 := by
  have hZ := z9_ok kS kT
  refine pw_ofW (cc := b_M_writeArray) (maxL := 4) (ret := none) (by decide) rfl (Nat.le_of_ble_eq_true rfl) ?_
  intro p e s m args below meth c A ls hB hA hw hK hz hl
  obtain ⟨hx, hb, hr, hml, hts0, hlocks, hown, hnm⟩ := hB
  have hts := wd_hts hts0
  have hown : s.vm.findClass "GraphWriterModel" = some m.cls := hown
  have hl : lv_has ls 4 [(0, .ref (ad 30 0)), (1, .int l1)] := hl
  have hfr : rm_fr C C := fun _ _ _ => rfl
  unfold m_writeArray at hE
  refine lv_aload_n hx hb d_M_writeArray_0 rfl (lv_at hl 0 rfl) ?_
  have hc_1 : C 30 0 = some (.inr (4, [.ref (ad 31 0), .ref (ad 31 1), .ref (ad 31 2), .ref (ad 31 3), .ref (ad 31 4), .ref (ad 31 5), .ref (ad 31 6), .ref (ad 31 7), .ref (ad 31 8), .ref (ad 31 9), .ref (ad 31 10), .ref (ad 31 11), .ref (ad 31 12), .ref (ad 31 13), .ref (ad 31 14), .int r.objects, .ref (ad 31 15), .int r.length, .ref (ad 31 16), .int r.waits, .ref (ad 31 17), .int r.given, .ref (ad 31 18), .ref (ad 31 19), .ref (ad 31 20), .int r.left, .ref (ad 31 21), .ref (ad 31 22), .int r.oldLength, .int r.oldWaits, .int r.oldGiven])) := by have h9 := rm_at.o hR; exact h9
  refine pw_get (Cn := "GraphWriterModel") (T := F_M) (N := 31) hx hb hts in_M hown hK hw 30 0 rfl hc_1 rfl 8 (by decide) (hts _ wd_762) (fun _ h9 => h9) rfl d_M_writeArray_1 ?_
  refine lv_iload_n hx hb d_M_writeArray_4 rfl (lv_at hl 1 rfl) ?_
  have hc_2 : C 31 8 = some (.inl (ca 0, 20, .inl r.sort)) := by have h9 := rm_at.a8 hR; exact h9
  obtain ⟨v_3, hv_3, hE⟩ := ob_some hE
  obtain ⟨hi_v_3, hj_v_3, he_v_3⟩ := rd_some (by decide) hv_3
  refine pw_iald hx hb hK hw 31 8 rfl 0 hc_2 rfl (l1 : Int32).toNatClampNeg hi_v_3 (by omega) (by omega) d_M_writeArray_5 ?_
  rw [← he_v_3]
  refine lv_iconst (v := 3) hx hb d_M_writeArray_6 (by decide) ?_
  refine lv_icmp_ne (tgt := 14) hx hb d_M_writeArray_7 (by decide) (fun c_4 => ?_) (fun c_4 => ?_)
  · rw [if_neg c_4] at hE
    refine lv_iconst (v := 0) hx hb d_M_writeArray_14 (by decide) ?_
    refine lv_istore_n (lv' := [(2, .int 0), (0, .ref (ad 30 0)), (1, .int l1)]) hx hb d_M_writeArray_15 rfl hl (by decide) rfl (fun ls hl => ?_)
    refine lv_aload_n hx hb d_M_writeArray_16 rfl (lv_at hl 1 rfl) ?_
    refine lv_ldc2 (v := 117) hx hb hown (hts _ wd_959) d_M_writeArray_17 ?_
    refine lv_iconst (v := 1) hx hb d_M_writeArray_20 (by decide) ?_
    obtain ⟨y_5, hy_5, hE⟩ := ob_some hE
    refine pw_callv (va_runV (As := [.long 117, .int 1]) (rest := []) ⟨hx, hb, hml, hown, hts0⟩ (k_M_append hR hy_5 _) (cwV 2 hts0 (wd_V wd_748 wd_745 wd_747 wd_20 wd_56) rfl rfl rfl (by decide +kernel) ⟨Nat.le_of_ble_eq_true rfl, Nat.le_of_ble_eq_true rfl⟩) (pw_preV hZ hw hA hK hz rfl hc_1 rfl) rfl rfl hl.1 rfl (lv_room (Nat.le_of_ble_eq_true rfl)) d_M_writeArray_21 ⟨Nat.le_of_ble_eq_true rfl, Nat.le_of_ble_eq_true rfl⟩) hw hA (fun ad_6 C_7 H locs hp hw => ?_)
    obtain ⟨hae, hR, hf1⟩ := hp
    rw [hae] at hw
    clear hae
    have hfr : rm_fr C C_7 := fun x y h9 => (hf1 x y h9).trans (hfr x y h9)
    clear hf1
    refine lv_aload_n hx hb d_M_writeArray_24 rfl (lv_at hl 1 rfl) ?_
    refine lv_iload_n hx hb d_M_writeArray_25 rfl (lv_at hl 0 rfl) ?_
    obtain ⟨y_9, hy_9, hE⟩ := ob_some hE
    have hc_10 : C_7 30 0 = some (.inr (4, [.ref (ad 31 0), .ref (ad 31 1), .ref (ad 31 2), .ref (ad 31 3), .ref (ad 31 4), .ref (ad 31 5), .ref (ad 31 6), .ref (ad 31 7), .ref (ad 31 8), .ref (ad 31 9), .ref (ad 31 10), .ref (ad 31 11), .ref (ad 31 12), .ref (ad 31 13), .ref (ad 31 14), .int y_5.objects, .ref (ad 31 15), .int y_5.length, .ref (ad 31 16), .int y_5.waits, .ref (ad 31 17), .int y_5.given, .ref (ad 31 18), .ref (ad 31 19), .ref (ad 31 20), .int y_5.left, .ref (ad 31 21), .ref (ad 31 22), .int y_5.oldLength, .int y_5.oldWaits, .int y_5.oldGiven])) := by have h9 := rm_at.o hR; exact h9
    refine pw_callv (va_runV (As := [.int 0]) (rest := []) ⟨hx, hb, hml, hown, hts0⟩ (k_M_arrayDescriptor0 hR hy_9 _) (cwV 1 hts0 (wd_V wd_963 wd_960 wd_962 wd_37 wd_56) rfl rfl rfl (by decide +kernel) ⟨Nat.le_of_ble_eq_true rfl, Nat.le_of_ble_eq_true rfl⟩) (pw_preV hZ hw hA hK hz rfl hc_10 rfl) rfl rfl hl.1 rfl (lv_room (Nat.le_of_ble_eq_true rfl)) d_M_writeArray_26 ⟨Nat.le_of_ble_eq_true rfl, Nat.le_of_ble_eq_true rfl⟩) hw hA (fun ad_11 C_12 H locs hp hw => ?_)
    obtain ⟨hae, hR, hf1⟩ := hp
    rw [hae] at hw
    clear hae
    have hfr : rm_fr C C_12 := fun x y h9 => (hf1 x y h9).trans (hfr x y h9)
    clear hf1
    refine lv_aload_n hx hb d_M_writeArray_29 rfl (lv_at hl 1 rfl) ?_
    refine lv_iload_n hx hb d_M_writeArray_30 rfl (lv_at hl 2 rfl) ?_
    obtain ⟨y_14, hy_14, hE⟩ := ob_some hE
    have hc_15 : C_12 30 0 = some (.inr (4, [.ref (ad 31 0), .ref (ad 31 1), .ref (ad 31 2), .ref (ad 31 3), .ref (ad 31 4), .ref (ad 31 5), .ref (ad 31 6), .ref (ad 31 7), .ref (ad 31 8), .ref (ad 31 9), .ref (ad 31 10), .ref (ad 31 11), .ref (ad 31 12), .ref (ad 31 13), .ref (ad 31 14), .int y_9.objects, .ref (ad 31 15), .int y_9.length, .ref (ad 31 16), .int y_9.waits, .ref (ad 31 17), .int y_9.given, .ref (ad 31 18), .ref (ad 31 19), .ref (ad 31 20), .int y_9.left, .ref (ad 31 21), .ref (ad 31 22), .int y_9.oldLength, .int y_9.oldWaits, .int y_9.oldGiven])) := by have h9 := rm_at.o hR; exact h9
    refine pw_callv (va_runV (As := [.int l1]) (rest := []) ⟨hx, hb, hml, hown, hts0⟩ (k_M_give hR hy_14 _) (cwV 1 hts0 (wd_V wd_954 wd_951 wd_953 wd_35 wd_56) rfl rfl rfl (by decide +kernel) ⟨Nat.le_of_ble_eq_true rfl, Nat.le_of_ble_eq_true rfl⟩) (pw_preV hZ hw hA hK hz rfl hc_15 rfl) rfl rfl hl.1 rfl (lv_room (Nat.le_of_ble_eq_true rfl)) d_M_writeArray_31 ⟨Nat.le_of_ble_eq_true rfl, Nat.le_of_ble_eq_true rfl⟩) hw hA (fun ad_16 C_17 H locs hp hw => ?_)
    obtain ⟨hae, hR, hf1⟩ := hp
    rw [hae] at hw
    clear hae
    have hfr : rm_fr C C_17 := fun x y h9 => (hf1 x y h9).trans (hfr x y h9)
    clear hf1
    refine lv_aload_n hx hb d_M_writeArray_34 rfl (lv_at hl 1 rfl) ?_
    refine lv_aload_n hx hb d_M_writeArray_35 rfl (lv_at hl 1 rfl) ?_
    have hc_19 : C_17 30 0 = some (.inr (4, [.ref (ad 31 0), .ref (ad 31 1), .ref (ad 31 2), .ref (ad 31 3), .ref (ad 31 4), .ref (ad 31 5), .ref (ad 31 6), .ref (ad 31 7), .ref (ad 31 8), .ref (ad 31 9), .ref (ad 31 10), .ref (ad 31 11), .ref (ad 31 12), .ref (ad 31 13), .ref (ad 31 14), .int y_14.objects, .ref (ad 31 15), .int y_14.length, .ref (ad 31 16), .int y_14.waits, .ref (ad 31 17), .int y_14.given, .ref (ad 31 18), .ref (ad 31 19), .ref (ad 31 20), .int y_14.left, .ref (ad 31 21), .ref (ad 31 22), .int y_14.oldLength, .int y_14.oldWaits, .int y_14.oldGiven])) := by have h9 := rm_at.o hR; exact h9
    refine pw_get (Cn := "GraphWriterModel") (T := F_M) (N := 31) hx hb hts in_M hown hK hw 30 0 rfl hc_19 rfl 11 (by decide) (hts _ wd_765) (fun _ h9 => h9) rfl d_M_writeArray_36 ?_
    refine lv_iload_n hx hb d_M_writeArray_39 rfl (lv_at hl 2 rfl) ?_
    have hc_20 : C_17 31 11 = some (.inl (ca 0, 20, .inl y_14.size)) := by have h9 := rm_at.a11 hR; exact h9
    obtain ⟨v_21, hv_21, hE⟩ := ob_some hE
    obtain ⟨hi_v_21, hj_v_21, he_v_21⟩ := rd_some (by decide) hv_21
    refine pw_iald hx hb hK hw 31 11 rfl 0 hc_20 rfl (l1 : Int32).toNatClampNeg hi_v_21 (by omega) (by omega) d_M_writeArray_40 ?_
    rw [← he_v_21]
    refine lv_i2l hx hb d_M_writeArray_41 rfl ?_
    refine lv_iconst (v := 4) hx hb d_M_writeArray_42 (by decide) ?_
    obtain ⟨y_22, hy_22, hE⟩ := ob_some hE
    refine pw_callv (va_runV (As := [.long v_21.toInt64, .int 4]) (rest := []) ⟨hx, hb, hml, hown, hts0⟩ (k_M_append hR hy_22 _) (cwV 2 hts0 (wd_V wd_748 wd_745 wd_747 wd_20 wd_56) rfl rfl rfl (by decide +kernel) ⟨Nat.le_of_ble_eq_true rfl, Nat.le_of_ble_eq_true rfl⟩) (pw_preV hZ hw hA hK hz rfl hc_19 rfl) rfl rfl hl.1 rfl (lv_room (Nat.le_of_ble_eq_true rfl)) d_M_writeArray_43 ⟨Nat.le_of_ble_eq_true rfl, Nat.le_of_ble_eq_true rfl⟩) hw hA (fun ad_23 C_24 H locs hp hw => ?_)
    obtain ⟨hae, hR, hf1⟩ := hp
    rw [hae] at hw
    clear hae
    have hfr : rm_fr C C_24 := fun x y h9 => (hf1 x y h9).trans (hfr x y h9)
    clear hf1
    refine lv_iconst (v := 0) hx hb d_M_writeArray_46 (by decide) ?_
    refine lv_istore_n (lv' := [(3, .int 0), (2, .int 0), (0, .ref (ad 30 0)), (1, .int l1)]) hx hb d_M_writeArray_47 rfl hl (by decide) rfl (fun ls hl => ?_)
    have lp_26 : ∀ (K : Int32 → Int32 → Int32 → RS → Option RS), (∀ (x3_26 : Int32) (x2_26 : Int32) (x1_26 : Int32) (r : RS) (C1 : pw_C) (H : Heap) (locs : List Loc) (ls : Array Slot), K x3_26 x2_26 x1_26 r = some res → rm_at ca ad C1 r → rm_fr C C1 → pw_H D cls9 A s.heap ad C ad C1 H locs → lv_has ls 4 [(3, .int x3_26), (2, .int x2_26), (0, .ref (ad 30 0)), (1, .int x1_26)] → W p l e ({ frames := 3, cells := 0, slots := 0, locals := 68 }) s m args below meth c H locs 0 0 (MQ below (pw_Q D cls9 ad C (pw_pv (fun ad' C' => ad' = ad ∧ rm_at ca ad C' res ∧ rm_fr C C')) A) args s 0 0 A) (F0 m 84 ls [])) → ∀ (n : Nat) (x3_26 : Int32) (x2_26 : Int32) (x1_26 : Int32) (r : RS) (C1 : pw_C) (H : Heap) (locs : List Loc) (ls : Array Slot), m_writeArray_48 K n x3_26 x2_26 x1_26 r = some res → rm_at ca ad C1 r → rm_fr C C1 → pw_H D cls9 A s.heap ad C ad C1 H locs → lv_has ls 4 [(3, .int x3_26), (2, .int x2_26), (0, .ref (ad 30 0)), (1, .int x1_26)] → W p l e ({ frames := 3, cells := 0, slots := 0, locals := 68 }) s m args below meth c H locs 0 0 (MQ below (pw_Q D cls9 ad C (pw_pv (fun ad' C' => ad' = ad ∧ rm_at ca ad C' res ∧ rm_fr C C')) A) args s 0 0 A) (F0 m 48 ls []) := by
      intro K hKK n
      induction n with
      | zero => intro x3_26 x2_26 x1_26 r C1 H locs ls hE; rw [m_writeArray_48] at hE; exact absurd hE (by simp)
      | succ n ih =>
        intro x3_26 x2_26 x1_26 r C1 H locs ls hE hR hfr hw hl
        rw [m_writeArray_48] at hE
        refine lv_iload_n hx hb d_M_writeArray_48 rfl (lv_at hl 1 rfl) ?_
        refine lv_if_ne (tgt := 84) hx hb d_M_writeArray_49 (by decide) (fun c_27 => ?_) (fun c_27 => ?_)
        · rw [if_neg c_27] at hE
          exact hKK _ _ _ _ _ _ _ _ hE hR hfr hw (lv_sub hl [0, 1, 2, 3] rfl)
        · rw [if_pos c_27] at hE
          refine lv_iload_n hx hb d_M_writeArray_52 rfl (lv_at hl 0 rfl) ?_
          refine lv_aload_n hx hb d_M_writeArray_53 rfl (lv_at hl 2 rfl) ?_
          have hc_28 : C1 30 0 = some (.inr (4, [.ref (ad 31 0), .ref (ad 31 1), .ref (ad 31 2), .ref (ad 31 3), .ref (ad 31 4), .ref (ad 31 5), .ref (ad 31 6), .ref (ad 31 7), .ref (ad 31 8), .ref (ad 31 9), .ref (ad 31 10), .ref (ad 31 11), .ref (ad 31 12), .ref (ad 31 13), .ref (ad 31 14), .int r.objects, .ref (ad 31 15), .int r.length, .ref (ad 31 16), .int r.waits, .ref (ad 31 17), .int r.given, .ref (ad 31 18), .ref (ad 31 19), .ref (ad 31 20), .int r.left, .ref (ad 31 21), .ref (ad 31 22), .int r.oldLength, .int r.oldWaits, .int r.oldGiven])) := by have h9 := rm_at.o hR; exact h9
          refine pw_get (Cn := "GraphWriterModel") (T := F_M) (N := 31) hx hb hts in_M hown hK hw 30 0 rfl hc_28 rfl 11 (by decide) (hts _ wd_765) (fun _ h9 => h9) rfl d_M_writeArray_54 ?_
          refine lv_iload_n hx hb d_M_writeArray_57 rfl (lv_at hl 3 rfl) ?_
          have hc_29 : C1 31 11 = some (.inl (ca 0, 20, .inl r.size)) := by have h9 := rm_at.a11 hR; exact h9
          obtain ⟨v_30, hv_30, hE⟩ := ob_some hE
          obtain ⟨hi_v_30, hj_v_30, he_v_30⟩ := rd_some (by decide) hv_30
          refine pw_iald hx hb hK hw 31 11 rfl 0 hc_29 rfl (x1_26 : Int32).toNatClampNeg hi_v_30 (by omega) (by omega) d_M_writeArray_58 ?_
          rw [← he_v_30]
          refine lv_icmp_ge (tgt := 84) hx hb d_M_writeArray_59 (by decide) (fun c_31 => ?_) (fun c_31 => ?_)
          · rw [if_pos c_31] at hE
            exact hKK _ _ _ _ _ _ _ _ hE hR hfr hw (lv_sub hl [0, 1, 2, 3] rfl)
          · rw [if_neg c_31] at hE
            refine lv_aload_n hx hb d_M_writeArray_62 rfl (lv_at hl 2 rfl) ?_
            refine lv_aload_n hx hb d_M_writeArray_63 rfl (lv_at hl 2 rfl) ?_
            refine pw_get (Cn := "GraphWriterModel") (T := F_M) (N := 31) hx hb hts in_M hown hK hw 30 0 rfl hc_28 rfl 12 (by decide) (hts _ wd_766) (fun _ h9 => h9) rfl d_M_writeArray_64 ?_
            refine lv_bipush (v := 24) hx hb d_M_writeArray_67 (by decide) ?_
            refine lv_iload_n hx hb d_M_writeArray_69 rfl (lv_at hl 3 rfl) ?_
            refine lv_imul hx hb d_M_writeArray_70 ?_
            refine lv_iload_n hx hb d_M_writeArray_71 rfl (lv_at hl 0 rfl) ?_
            refine lv_iadd hx hb d_M_writeArray_72 ?_
            have hc_32 : C1 31 12 = some (.inl (ca 1, 480, .inr (.inl r.value))) := by have h9 := rm_at.a12 hR; exact h9
            obtain ⟨v_33, hv_33, hE⟩ := ob_some hE
            obtain ⟨hi_v_33, hj_v_33, he_v_33⟩ := rd_some (by decide) hv_33
            refine pw_lald hx hb hK hw 31 12 rfl 1 hc_32 rfl ((24 * x1_26) + x3_26 : Int32).toNatClampNeg hi_v_33 (by omega) (by omega) d_M_writeArray_73 ?_
            rw [← he_v_33]
            refine lv_iconst (v := 4) hx hb d_M_writeArray_74 (by decide) ?_
            obtain ⟨y_34, hy_34, hE⟩ := ob_some hE
            refine pw_callv (va_runV (As := [.long v_33, .int 4]) (rest := []) ⟨hx, hb, hml, hown, hts0⟩ (k_M_append hR hy_34 _) (cwV 2 hts0 (wd_V wd_748 wd_745 wd_747 wd_20 wd_56) rfl rfl rfl (by decide +kernel) ⟨Nat.le_of_ble_eq_true rfl, Nat.le_of_ble_eq_true rfl⟩) (pw_preV hZ hw hA hK hz rfl hc_28 rfl) rfl rfl hl.1 rfl (lv_room (Nat.le_of_ble_eq_true rfl)) d_M_writeArray_75 ⟨Nat.le_of_ble_eq_true rfl, Nat.le_of_ble_eq_true rfl⟩) hw hA (fun ad_35 C_36 H locs hp hw => ?_)
            obtain ⟨hae, hR, hf1⟩ := hp
            rw [hae] at hw
            clear hae
            have hfr : rm_fr C C_36 := fun x y h9 => (hf1 x y h9).trans (hfr x y h9)
            clear hf1
            refine lv_iinc (v := x3_26 + 1) (lv' := [(3, .int (x3_26 + 1)), (2, .int x2_26), (0, .ref (ad 30 0)), (1, .int x1_26)]) hx hb d_M_writeArray_78 hl (k := 0) rfl rfl (by decide) rfl (fun ls hl => ?_)
            refine lv_goto (tgt := 48) hx hb d_M_writeArray_81 (by decide) ?_
            exact ih _ _ _ _ _ _ _ _ hE hR hfr hw (lv_sub hl [0, 1, 2, 3] rfl)
    refine lp_26 _ (fun z3_26 z2_26 z1_26 r_38 C_39 H locs ls hE hR hfr hw hl => ?_) 60 _ _ _ _ _ _ _ _ hE hR hfr hw hl
    try dsimp only at hE
    refine lv_aload_n hx hb d_M_writeArray_84 rfl (lv_at hl 2 rfl) ?_
    have hc_40 : C_39 30 0 = some (.inr (4, [.ref (ad 31 0), .ref (ad 31 1), .ref (ad 31 2), .ref (ad 31 3), .ref (ad 31 4), .ref (ad 31 5), .ref (ad 31 6), .ref (ad 31 7), .ref (ad 31 8), .ref (ad 31 9), .ref (ad 31 10), .ref (ad 31 11), .ref (ad 31 12), .ref (ad 31 13), .ref (ad 31 14), .int r_38.objects, .ref (ad 31 15), .int r_38.length, .ref (ad 31 16), .int r_38.waits, .ref (ad 31 17), .int r_38.given, .ref (ad 31 18), .ref (ad 31 19), .ref (ad 31 20), .int r_38.left, .ref (ad 31 21), .ref (ad 31 22), .int r_38.oldLength, .int r_38.oldWaits, .int r_38.oldGiven])) := by have h9 := rm_at.o hR; exact h9
    refine pw_get (Cn := "GraphWriterModel") (T := F_M) (N := 31) hx hb hts in_M hown hK hw 30 0 rfl hc_40 rfl 11 (by decide) (hts _ wd_765) (fun _ h9 => h9) rfl d_M_writeArray_85 ?_
    refine lv_iload_n hx hb d_M_writeArray_88 rfl (lv_at hl 3 rfl) ?_
    have hc_41 : C_39 31 11 = some (.inl (ca 0, 20, .inl r_38.size)) := by have h9 := rm_at.a11 hR; exact h9
    obtain ⟨v_42, hv_42, hE⟩ := ob_some hE
    obtain ⟨hi_v_42, hj_v_42, he_v_42⟩ := rd_some (by decide) hv_42
    refine pw_iald hx hb hK hw 31 11 rfl 0 hc_41 rfl (z1_26 : Int32).toNatClampNeg hi_v_42 (by omega) (by omega) d_M_writeArray_89 ?_
    rw [← he_v_42]
    refine lv_iconst (v := 1) hx hb d_M_writeArray_90 (by decide) ?_
    refine lv_isub hx hb d_M_writeArray_91 ?_
    refine lv_istore_n (lv' := [(3, .int (v_42 - 1)), (2, .int z2_26), (0, .ref (ad 30 0)), (1, .int z1_26)]) hx hb d_M_writeArray_92 rfl hl (by decide) rfl (fun ls hl => ?_)
    have lp_43 : ∀ (K : Int32 → Int32 → Int32 → RS → Option RS), (∀ (x3_43 : Int32) (x2_43 : Int32) (x1_43 : Int32) (r : RS) (C1 : pw_C) (H : Heap) (locs : List Loc) (ls : Array Slot), K x3_43 x2_43 x1_43 r = some res → rm_at ca ad C1 r → rm_fr C C1 → pw_H D cls9 A s.heap ad C ad C1 H locs → lv_has ls 4 [(3, .int x3_43), (2, .int x2_43), (0, .ref (ad 30 0)), (1, .int x1_43)] → W p l e ({ frames := 3, cells := 0, slots := 0, locals := 68 }) s m args below meth c H locs 0 0 (MQ below (pw_Q D cls9 ad C (pw_pv (fun ad' C' => ad' = ad ∧ rm_at ca ad C' res ∧ rm_fr C C')) A) args s 0 0 A) (F0 m 125 ls [])) → ∀ (n : Nat) (x3_43 : Int32) (x2_43 : Int32) (x1_43 : Int32) (r : RS) (C1 : pw_C) (H : Heap) (locs : List Loc) (ls : Array Slot), m_writeArray_93 K n x3_43 x2_43 x1_43 r = some res → rm_at ca ad C1 r → rm_fr C C1 → pw_H D cls9 A s.heap ad C ad C1 H locs → lv_has ls 4 [(3, .int x3_43), (2, .int x2_43), (0, .ref (ad 30 0)), (1, .int x1_43)] → W p l e ({ frames := 3, cells := 0, slots := 0, locals := 68 }) s m args below meth c H locs 0 0 (MQ below (pw_Q D cls9 ad C (pw_pv (fun ad' C' => ad' = ad ∧ rm_at ca ad C' res ∧ rm_fr C C')) A) args s 0 0 A) (F0 m 93 ls []) := by
      intro K hKK n
      induction n with
      | zero => intro x3_43 x2_43 x1_43 r C1 H locs ls hE; rw [m_writeArray_93] at hE; exact absurd hE (by simp)
      | succ n ih =>
        intro x3_43 x2_43 x1_43 r C1 H locs ls hE hR hfr hw hl
        rw [m_writeArray_93] at hE
        refine lv_iload_n hx hb d_M_writeArray_93 rfl (lv_at hl 1 rfl) ?_
        refine lv_if_eq (tgt := 125) hx hb d_M_writeArray_94 (by decide) (fun c_44 => ?_) (fun c_44 => ?_)
        · rw [if_pos c_44] at hE
          exact hKK _ _ _ _ _ _ _ _ hE hR hfr hw (lv_sub hl [0, 1, 2, 3] rfl)
        · rw [if_neg c_44] at hE
          refine lv_iload_n hx hb d_M_writeArray_97 rfl (lv_at hl 0 rfl) ?_
          refine lv_if_lt (tgt := 125) hx hb d_M_writeArray_98 (by decide) (fun c_45 => ?_) (fun c_45 => ?_)
          · rw [if_pos c_45] at hE
            exact hKK _ _ _ _ _ _ _ _ hE hR hfr hw (lv_sub hl [0, 1, 2, 3] rfl)
          · rw [if_neg c_45] at hE
            refine lv_aload_n hx hb d_M_writeArray_101 rfl (lv_at hl 2 rfl) ?_
            refine lv_iconst (v := 0) hx hb d_M_writeArray_102 (by decide) ?_
            refine lv_aload_n hx hb d_M_writeArray_103 rfl (lv_at hl 2 rfl) ?_
            have hc_46 : C1 30 0 = some (.inr (4, [.ref (ad 31 0), .ref (ad 31 1), .ref (ad 31 2), .ref (ad 31 3), .ref (ad 31 4), .ref (ad 31 5), .ref (ad 31 6), .ref (ad 31 7), .ref (ad 31 8), .ref (ad 31 9), .ref (ad 31 10), .ref (ad 31 11), .ref (ad 31 12), .ref (ad 31 13), .ref (ad 31 14), .int r.objects, .ref (ad 31 15), .int r.length, .ref (ad 31 16), .int r.waits, .ref (ad 31 17), .int r.given, .ref (ad 31 18), .ref (ad 31 19), .ref (ad 31 20), .int r.left, .ref (ad 31 21), .ref (ad 31 22), .int r.oldLength, .int r.oldWaits, .int r.oldGiven])) := by have h9 := rm_at.o hR; exact h9
            refine pw_get (Cn := "GraphWriterModel") (T := F_M) (N := 31) hx hb hts in_M hown hK hw 30 0 rfl hc_46 rfl 12 (by decide) (hts _ wd_766) (fun _ h9 => h9) rfl d_M_writeArray_104 ?_
            refine lv_bipush (v := 24) hx hb d_M_writeArray_107 (by decide) ?_
            refine lv_iload_n hx hb d_M_writeArray_109 rfl (lv_at hl 3 rfl) ?_
            refine lv_imul hx hb d_M_writeArray_110 ?_
            refine lv_iload_n hx hb d_M_writeArray_111 rfl (lv_at hl 0 rfl) ?_
            refine lv_iadd hx hb d_M_writeArray_112 ?_
            have hc_47 : C1 31 12 = some (.inl (ca 1, 480, .inr (.inl r.value))) := by have h9 := rm_at.a12 hR; exact h9
            obtain ⟨v_48, hv_48, hE⟩ := ob_some hE
            obtain ⟨hi_v_48, hj_v_48, he_v_48⟩ := rd_some (by decide) hv_48
            refine pw_lald hx hb hK hw 31 12 rfl 1 hc_47 rfl ((24 * x1_43) + x3_43 : Int32).toNatClampNeg hi_v_48 (by omega) (by omega) d_M_writeArray_113 ?_
            rw [← he_v_48]
            refine lv_l2i hx hb d_M_writeArray_114 rfl ?_
            refine lv_iconst (v := 0) hx hb d_M_writeArray_115 (by decide) ?_
            obtain ⟨y_49, hy_49, hE⟩ := ob_some hE
            refine pw_callv (va_runV (As := [.int 0, .int v_48.toInt32, .int 0]) (rest := []) ⟨hx, hb, hml, hown, hts0⟩ (k_M_push hR hy_49 _) (cwV 3 hts0 (wd_V wd_981 wd_978 wd_980 wd_39 wd_56) rfl rfl rfl (by decide +kernel) ⟨Nat.le_of_ble_eq_true rfl, Nat.le_of_ble_eq_true rfl⟩) (pw_preV hZ hw hA hK hz rfl hc_46 rfl) rfl rfl hl.1 rfl (lv_room (Nat.le_of_ble_eq_true rfl)) d_M_writeArray_116 ⟨Nat.le_of_ble_eq_true rfl, Nat.le_of_ble_eq_true rfl⟩) hw hA (fun ad_50 C_51 H locs hp hw => ?_)
            obtain ⟨hae, hR, hf1⟩ := hp
            rw [hae] at hw
            clear hae
            have hfr : rm_fr C C_51 := fun x y h9 => (hf1 x y h9).trans (hfr x y h9)
            clear hf1
            refine lv_iinc (v := x3_43 + (-1)) (lv' := [(3, .int (x3_43 + (-1))), (2, .int x2_43), (0, .ref (ad 30 0)), (1, .int x1_43)]) hx hb d_M_writeArray_119 hl (k := 0) rfl rfl (by decide) rfl (fun ls hl => ?_)
            refine lv_goto (tgt := 93) hx hb d_M_writeArray_122 (by decide) ?_
            exact ih _ _ _ _ _ _ _ _ hE hR hfr hw (lv_sub hl [0, 1, 2, 3] rfl)
    refine lp_43 _ (fun z3_43 z2_43 z1_43 r_53 C_54 H locs ls hE hR hfr hw hl => ?_) 60 _ _ _ _ _ _ _ _ hE hR hfr hw hl
    try dsimp only at hE
    obtain rfl := Option.some.inj hE
    exact pw_vret hx hb hr hlocks hw ⟨rfl, hR, hfr⟩ d_M_writeArray_125
  · rw [if_pos c_4] at hE
    refine lv_iconst (v := 1) hx hb d_M_writeArray_10 (by decide) ?_
    refine lv_goto (tgt := 15) hx hb d_M_writeArray_11 (by decide) ?_
    refine lv_istore_n (lv' := [(2, .int 1), (0, .ref (ad 30 0)), (1, .int l1)]) hx hb d_M_writeArray_15 rfl hl (by decide) rfl (fun ls hl => ?_)
    refine lv_aload_n hx hb d_M_writeArray_16 rfl (lv_at hl 1 rfl) ?_
    refine lv_ldc2 (v := 117) hx hb hown (hts _ wd_959) d_M_writeArray_17 ?_
    refine lv_iconst (v := 1) hx hb d_M_writeArray_20 (by decide) ?_
    obtain ⟨y_55, hy_55, hE⟩ := ob_some hE
    refine pw_callv (va_runV (As := [.long 117, .int 1]) (rest := []) ⟨hx, hb, hml, hown, hts0⟩ (k_M_append hR hy_55 _) (cwV 2 hts0 (wd_V wd_748 wd_745 wd_747 wd_20 wd_56) rfl rfl rfl (by decide +kernel) ⟨Nat.le_of_ble_eq_true rfl, Nat.le_of_ble_eq_true rfl⟩) (pw_preV hZ hw hA hK hz rfl hc_1 rfl) rfl rfl hl.1 rfl (lv_room (Nat.le_of_ble_eq_true rfl)) d_M_writeArray_21 ⟨Nat.le_of_ble_eq_true rfl, Nat.le_of_ble_eq_true rfl⟩) hw hA (fun ad_56 C_57 H locs hp hw => ?_)
    obtain ⟨hae, hR, hf1⟩ := hp
    rw [hae] at hw
    clear hae
    have hfr : rm_fr C C_57 := fun x y h9 => (hf1 x y h9).trans (hfr x y h9)
    clear hf1
    refine lv_aload_n hx hb d_M_writeArray_24 rfl (lv_at hl 1 rfl) ?_
    refine lv_iload_n hx hb d_M_writeArray_25 rfl (lv_at hl 0 rfl) ?_
    obtain ⟨y_59, hy_59, hE⟩ := ob_some hE
    have hc_60 : C_57 30 0 = some (.inr (4, [.ref (ad 31 0), .ref (ad 31 1), .ref (ad 31 2), .ref (ad 31 3), .ref (ad 31 4), .ref (ad 31 5), .ref (ad 31 6), .ref (ad 31 7), .ref (ad 31 8), .ref (ad 31 9), .ref (ad 31 10), .ref (ad 31 11), .ref (ad 31 12), .ref (ad 31 13), .ref (ad 31 14), .int y_55.objects, .ref (ad 31 15), .int y_55.length, .ref (ad 31 16), .int y_55.waits, .ref (ad 31 17), .int y_55.given, .ref (ad 31 18), .ref (ad 31 19), .ref (ad 31 20), .int y_55.left, .ref (ad 31 21), .ref (ad 31 22), .int y_55.oldLength, .int y_55.oldWaits, .int y_55.oldGiven])) := by have h9 := rm_at.o hR; exact h9
    refine pw_callv (va_runV (As := [.int 1]) (rest := []) ⟨hx, hb, hml, hown, hts0⟩ (k_M_arrayDescriptor1 hR hy_59 _) (cwV 1 hts0 (wd_V wd_963 wd_960 wd_962 wd_37 wd_56) rfl rfl rfl (by decide +kernel) ⟨Nat.le_of_ble_eq_true rfl, Nat.le_of_ble_eq_true rfl⟩) (pw_preV hZ hw hA hK hz rfl hc_60 rfl) rfl rfl hl.1 rfl (lv_room (Nat.le_of_ble_eq_true rfl)) d_M_writeArray_26 ⟨Nat.le_of_ble_eq_true rfl, Nat.le_of_ble_eq_true rfl⟩) hw hA (fun ad_61 C_62 H locs hp hw => ?_)
    obtain ⟨hae, hR, hf1⟩ := hp
    rw [hae] at hw
    clear hae
    have hfr : rm_fr C C_62 := fun x y h9 => (hf1 x y h9).trans (hfr x y h9)
    clear hf1
    refine lv_aload_n hx hb d_M_writeArray_29 rfl (lv_at hl 1 rfl) ?_
    refine lv_iload_n hx hb d_M_writeArray_30 rfl (lv_at hl 2 rfl) ?_
    obtain ⟨y_64, hy_64, hE⟩ := ob_some hE
    have hc_65 : C_62 30 0 = some (.inr (4, [.ref (ad 31 0), .ref (ad 31 1), .ref (ad 31 2), .ref (ad 31 3), .ref (ad 31 4), .ref (ad 31 5), .ref (ad 31 6), .ref (ad 31 7), .ref (ad 31 8), .ref (ad 31 9), .ref (ad 31 10), .ref (ad 31 11), .ref (ad 31 12), .ref (ad 31 13), .ref (ad 31 14), .int y_59.objects, .ref (ad 31 15), .int y_59.length, .ref (ad 31 16), .int y_59.waits, .ref (ad 31 17), .int y_59.given, .ref (ad 31 18), .ref (ad 31 19), .ref (ad 31 20), .int y_59.left, .ref (ad 31 21), .ref (ad 31 22), .int y_59.oldLength, .int y_59.oldWaits, .int y_59.oldGiven])) := by have h9 := rm_at.o hR; exact h9
    refine pw_callv (va_runV (As := [.int l1]) (rest := []) ⟨hx, hb, hml, hown, hts0⟩ (k_M_give hR hy_64 _) (cwV 1 hts0 (wd_V wd_954 wd_951 wd_953 wd_35 wd_56) rfl rfl rfl (by decide +kernel) ⟨Nat.le_of_ble_eq_true rfl, Nat.le_of_ble_eq_true rfl⟩) (pw_preV hZ hw hA hK hz rfl hc_65 rfl) rfl rfl hl.1 rfl (lv_room (Nat.le_of_ble_eq_true rfl)) d_M_writeArray_31 ⟨Nat.le_of_ble_eq_true rfl, Nat.le_of_ble_eq_true rfl⟩) hw hA (fun ad_66 C_67 H locs hp hw => ?_)
    obtain ⟨hae, hR, hf1⟩ := hp
    rw [hae] at hw
    clear hae
    have hfr : rm_fr C C_67 := fun x y h9 => (hf1 x y h9).trans (hfr x y h9)
    clear hf1
    refine lv_aload_n hx hb d_M_writeArray_34 rfl (lv_at hl 1 rfl) ?_
    refine lv_aload_n hx hb d_M_writeArray_35 rfl (lv_at hl 1 rfl) ?_
    have hc_69 : C_67 30 0 = some (.inr (4, [.ref (ad 31 0), .ref (ad 31 1), .ref (ad 31 2), .ref (ad 31 3), .ref (ad 31 4), .ref (ad 31 5), .ref (ad 31 6), .ref (ad 31 7), .ref (ad 31 8), .ref (ad 31 9), .ref (ad 31 10), .ref (ad 31 11), .ref (ad 31 12), .ref (ad 31 13), .ref (ad 31 14), .int y_64.objects, .ref (ad 31 15), .int y_64.length, .ref (ad 31 16), .int y_64.waits, .ref (ad 31 17), .int y_64.given, .ref (ad 31 18), .ref (ad 31 19), .ref (ad 31 20), .int y_64.left, .ref (ad 31 21), .ref (ad 31 22), .int y_64.oldLength, .int y_64.oldWaits, .int y_64.oldGiven])) := by have h9 := rm_at.o hR; exact h9
    refine pw_get (Cn := "GraphWriterModel") (T := F_M) (N := 31) hx hb hts in_M hown hK hw 30 0 rfl hc_69 rfl 11 (by decide) (hts _ wd_765) (fun _ h9 => h9) rfl d_M_writeArray_36 ?_
    refine lv_iload_n hx hb d_M_writeArray_39 rfl (lv_at hl 2 rfl) ?_
    have hc_70 : C_67 31 11 = some (.inl (ca 0, 20, .inl y_64.size)) := by have h9 := rm_at.a11 hR; exact h9
    obtain ⟨v_71, hv_71, hE⟩ := ob_some hE
    obtain ⟨hi_v_71, hj_v_71, he_v_71⟩ := rd_some (by decide) hv_71
    refine pw_iald hx hb hK hw 31 11 rfl 0 hc_70 rfl (l1 : Int32).toNatClampNeg hi_v_71 (by omega) (by omega) d_M_writeArray_40 ?_
    rw [← he_v_71]
    refine lv_i2l hx hb d_M_writeArray_41 rfl ?_
    refine lv_iconst (v := 4) hx hb d_M_writeArray_42 (by decide) ?_
    obtain ⟨y_72, hy_72, hE⟩ := ob_some hE
    refine pw_callv (va_runV (As := [.long v_71.toInt64, .int 4]) (rest := []) ⟨hx, hb, hml, hown, hts0⟩ (k_M_append hR hy_72 _) (cwV 2 hts0 (wd_V wd_748 wd_745 wd_747 wd_20 wd_56) rfl rfl rfl (by decide +kernel) ⟨Nat.le_of_ble_eq_true rfl, Nat.le_of_ble_eq_true rfl⟩) (pw_preV hZ hw hA hK hz rfl hc_69 rfl) rfl rfl hl.1 rfl (lv_room (Nat.le_of_ble_eq_true rfl)) d_M_writeArray_43 ⟨Nat.le_of_ble_eq_true rfl, Nat.le_of_ble_eq_true rfl⟩) hw hA (fun ad_73 C_74 H locs hp hw => ?_)
    obtain ⟨hae, hR, hf1⟩ := hp
    rw [hae] at hw
    clear hae
    have hfr : rm_fr C C_74 := fun x y h9 => (hf1 x y h9).trans (hfr x y h9)
    clear hf1
    refine lv_iconst (v := 0) hx hb d_M_writeArray_46 (by decide) ?_
    refine lv_istore_n (lv' := [(3, .int 0), (2, .int 1), (0, .ref (ad 30 0)), (1, .int l1)]) hx hb d_M_writeArray_47 rfl hl (by decide) rfl (fun ls hl => ?_)
    have lp_76 : ∀ (K : Int32 → Int32 → Int32 → RS → Option RS), (∀ (x3_76 : Int32) (x2_76 : Int32) (x1_76 : Int32) (r : RS) (C1 : pw_C) (H : Heap) (locs : List Loc) (ls : Array Slot), K x3_76 x2_76 x1_76 r = some res → rm_at ca ad C1 r → rm_fr C C1 → pw_H D cls9 A s.heap ad C ad C1 H locs → lv_has ls 4 [(3, .int x3_76), (2, .int x2_76), (0, .ref (ad 30 0)), (1, .int x1_76)] → W p l e ({ frames := 3, cells := 0, slots := 0, locals := 68 }) s m args below meth c H locs 0 0 (MQ below (pw_Q D cls9 ad C (pw_pv (fun ad' C' => ad' = ad ∧ rm_at ca ad C' res ∧ rm_fr C C')) A) args s 0 0 A) (F0 m 84 ls [])) → ∀ (n : Nat) (x3_76 : Int32) (x2_76 : Int32) (x1_76 : Int32) (r : RS) (C1 : pw_C) (H : Heap) (locs : List Loc) (ls : Array Slot), m_writeArray_48' K n x3_76 x2_76 x1_76 r = some res → rm_at ca ad C1 r → rm_fr C C1 → pw_H D cls9 A s.heap ad C ad C1 H locs → lv_has ls 4 [(3, .int x3_76), (2, .int x2_76), (0, .ref (ad 30 0)), (1, .int x1_76)] → W p l e ({ frames := 3, cells := 0, slots := 0, locals := 68 }) s m args below meth c H locs 0 0 (MQ below (pw_Q D cls9 ad C (pw_pv (fun ad' C' => ad' = ad ∧ rm_at ca ad C' res ∧ rm_fr C C')) A) args s 0 0 A) (F0 m 48 ls []) := by
      intro K hKK n
      induction n with
      | zero => intro x3_76 x2_76 x1_76 r C1 H locs ls hE; rw [m_writeArray_48'] at hE; exact absurd hE (by simp)
      | succ n ih =>
        intro x3_76 x2_76 x1_76 r C1 H locs ls hE hR hfr hw hl
        rw [m_writeArray_48'] at hE
        refine lv_iload_n hx hb d_M_writeArray_48 rfl (lv_at hl 1 rfl) ?_
        refine lv_if_ne (tgt := 84) hx hb d_M_writeArray_49 (by decide) (fun c_77 => ?_) (fun c_77 => ?_)
        · rw [if_neg c_77] at hE
          exact hKK _ _ _ _ _ _ _ _ hE hR hfr hw (lv_sub hl [0, 1, 2, 3] rfl)
        · rw [if_pos c_77] at hE
          refine lv_iload_n hx hb d_M_writeArray_52 rfl (lv_at hl 0 rfl) ?_
          refine lv_aload_n hx hb d_M_writeArray_53 rfl (lv_at hl 2 rfl) ?_
          have hc_78 : C1 30 0 = some (.inr (4, [.ref (ad 31 0), .ref (ad 31 1), .ref (ad 31 2), .ref (ad 31 3), .ref (ad 31 4), .ref (ad 31 5), .ref (ad 31 6), .ref (ad 31 7), .ref (ad 31 8), .ref (ad 31 9), .ref (ad 31 10), .ref (ad 31 11), .ref (ad 31 12), .ref (ad 31 13), .ref (ad 31 14), .int r.objects, .ref (ad 31 15), .int r.length, .ref (ad 31 16), .int r.waits, .ref (ad 31 17), .int r.given, .ref (ad 31 18), .ref (ad 31 19), .ref (ad 31 20), .int r.left, .ref (ad 31 21), .ref (ad 31 22), .int r.oldLength, .int r.oldWaits, .int r.oldGiven])) := by have h9 := rm_at.o hR; exact h9
          refine pw_get (Cn := "GraphWriterModel") (T := F_M) (N := 31) hx hb hts in_M hown hK hw 30 0 rfl hc_78 rfl 11 (by decide) (hts _ wd_765) (fun _ h9 => h9) rfl d_M_writeArray_54 ?_
          refine lv_iload_n hx hb d_M_writeArray_57 rfl (lv_at hl 3 rfl) ?_
          have hc_79 : C1 31 11 = some (.inl (ca 0, 20, .inl r.size)) := by have h9 := rm_at.a11 hR; exact h9
          obtain ⟨v_80, hv_80, hE⟩ := ob_some hE
          obtain ⟨hi_v_80, hj_v_80, he_v_80⟩ := rd_some (by decide) hv_80
          refine pw_iald hx hb hK hw 31 11 rfl 0 hc_79 rfl (x1_76 : Int32).toNatClampNeg hi_v_80 (by omega) (by omega) d_M_writeArray_58 ?_
          rw [← he_v_80]
          refine lv_icmp_ge (tgt := 84) hx hb d_M_writeArray_59 (by decide) (fun c_81 => ?_) (fun c_81 => ?_)
          · rw [if_pos c_81] at hE
            exact hKK _ _ _ _ _ _ _ _ hE hR hfr hw (lv_sub hl [0, 1, 2, 3] rfl)
          · rw [if_neg c_81] at hE
            refine lv_aload_n hx hb d_M_writeArray_62 rfl (lv_at hl 2 rfl) ?_
            refine lv_aload_n hx hb d_M_writeArray_63 rfl (lv_at hl 2 rfl) ?_
            refine pw_get (Cn := "GraphWriterModel") (T := F_M) (N := 31) hx hb hts in_M hown hK hw 30 0 rfl hc_78 rfl 12 (by decide) (hts _ wd_766) (fun _ h9 => h9) rfl d_M_writeArray_64 ?_
            refine lv_bipush (v := 24) hx hb d_M_writeArray_67 (by decide) ?_
            refine lv_iload_n hx hb d_M_writeArray_69 rfl (lv_at hl 3 rfl) ?_
            refine lv_imul hx hb d_M_writeArray_70 ?_
            refine lv_iload_n hx hb d_M_writeArray_71 rfl (lv_at hl 0 rfl) ?_
            refine lv_iadd hx hb d_M_writeArray_72 ?_
            have hc_82 : C1 31 12 = some (.inl (ca 1, 480, .inr (.inl r.value))) := by have h9 := rm_at.a12 hR; exact h9
            obtain ⟨v_83, hv_83, hE⟩ := ob_some hE
            obtain ⟨hi_v_83, hj_v_83, he_v_83⟩ := rd_some (by decide) hv_83
            refine pw_lald hx hb hK hw 31 12 rfl 1 hc_82 rfl ((24 * x1_76) + x3_76 : Int32).toNatClampNeg hi_v_83 (by omega) (by omega) d_M_writeArray_73 ?_
            rw [← he_v_83]
            refine lv_iconst (v := 4) hx hb d_M_writeArray_74 (by decide) ?_
            obtain ⟨y_84, hy_84, hE⟩ := ob_some hE
            refine pw_callv (va_runV (As := [.long v_83, .int 4]) (rest := []) ⟨hx, hb, hml, hown, hts0⟩ (k_M_append hR hy_84 _) (cwV 2 hts0 (wd_V wd_748 wd_745 wd_747 wd_20 wd_56) rfl rfl rfl (by decide +kernel) ⟨Nat.le_of_ble_eq_true rfl, Nat.le_of_ble_eq_true rfl⟩) (pw_preV hZ hw hA hK hz rfl hc_78 rfl) rfl rfl hl.1 rfl (lv_room (Nat.le_of_ble_eq_true rfl)) d_M_writeArray_75 ⟨Nat.le_of_ble_eq_true rfl, Nat.le_of_ble_eq_true rfl⟩) hw hA (fun ad_85 C_86 H locs hp hw => ?_)
            obtain ⟨hae, hR, hf1⟩ := hp
            rw [hae] at hw
            clear hae
            have hfr : rm_fr C C_86 := fun x y h9 => (hf1 x y h9).trans (hfr x y h9)
            clear hf1
            refine lv_iinc (v := x3_76 + 1) (lv' := [(3, .int (x3_76 + 1)), (2, .int x2_76), (0, .ref (ad 30 0)), (1, .int x1_76)]) hx hb d_M_writeArray_78 hl (k := 0) rfl rfl (by decide) rfl (fun ls hl => ?_)
            refine lv_goto (tgt := 48) hx hb d_M_writeArray_81 (by decide) ?_
            exact ih _ _ _ _ _ _ _ _ hE hR hfr hw (lv_sub hl [0, 1, 2, 3] rfl)
    refine lp_76 _ (fun z3_76 z2_76 z1_76 r_88 C_89 H locs ls hE hR hfr hw hl => ?_) 60 _ _ _ _ _ _ _ _ hE hR hfr hw hl
    try dsimp only at hE
    refine lv_aload_n hx hb d_M_writeArray_84 rfl (lv_at hl 2 rfl) ?_
    have hc_90 : C_89 30 0 = some (.inr (4, [.ref (ad 31 0), .ref (ad 31 1), .ref (ad 31 2), .ref (ad 31 3), .ref (ad 31 4), .ref (ad 31 5), .ref (ad 31 6), .ref (ad 31 7), .ref (ad 31 8), .ref (ad 31 9), .ref (ad 31 10), .ref (ad 31 11), .ref (ad 31 12), .ref (ad 31 13), .ref (ad 31 14), .int r_88.objects, .ref (ad 31 15), .int r_88.length, .ref (ad 31 16), .int r_88.waits, .ref (ad 31 17), .int r_88.given, .ref (ad 31 18), .ref (ad 31 19), .ref (ad 31 20), .int r_88.left, .ref (ad 31 21), .ref (ad 31 22), .int r_88.oldLength, .int r_88.oldWaits, .int r_88.oldGiven])) := by have h9 := rm_at.o hR; exact h9
    refine pw_get (Cn := "GraphWriterModel") (T := F_M) (N := 31) hx hb hts in_M hown hK hw 30 0 rfl hc_90 rfl 11 (by decide) (hts _ wd_765) (fun _ h9 => h9) rfl d_M_writeArray_85 ?_
    refine lv_iload_n hx hb d_M_writeArray_88 rfl (lv_at hl 3 rfl) ?_
    have hc_91 : C_89 31 11 = some (.inl (ca 0, 20, .inl r_88.size)) := by have h9 := rm_at.a11 hR; exact h9
    obtain ⟨v_92, hv_92, hE⟩ := ob_some hE
    obtain ⟨hi_v_92, hj_v_92, he_v_92⟩ := rd_some (by decide) hv_92
    refine pw_iald hx hb hK hw 31 11 rfl 0 hc_91 rfl (z1_76 : Int32).toNatClampNeg hi_v_92 (by omega) (by omega) d_M_writeArray_89 ?_
    rw [← he_v_92]
    refine lv_iconst (v := 1) hx hb d_M_writeArray_90 (by decide) ?_
    refine lv_isub hx hb d_M_writeArray_91 ?_
    refine lv_istore_n (lv' := [(3, .int (v_92 - 1)), (2, .int z2_76), (0, .ref (ad 30 0)), (1, .int z1_76)]) hx hb d_M_writeArray_92 rfl hl (by decide) rfl (fun ls hl => ?_)
    have lp_93 : ∀ (K : Int32 → Int32 → Int32 → RS → Option RS), (∀ (x3_93 : Int32) (x2_93 : Int32) (x1_93 : Int32) (r : RS) (C1 : pw_C) (H : Heap) (locs : List Loc) (ls : Array Slot), K x3_93 x2_93 x1_93 r = some res → rm_at ca ad C1 r → rm_fr C C1 → pw_H D cls9 A s.heap ad C ad C1 H locs → lv_has ls 4 [(3, .int x3_93), (2, .int x2_93), (0, .ref (ad 30 0)), (1, .int x1_93)] → W p l e ({ frames := 3, cells := 0, slots := 0, locals := 68 }) s m args below meth c H locs 0 0 (MQ below (pw_Q D cls9 ad C (pw_pv (fun ad' C' => ad' = ad ∧ rm_at ca ad C' res ∧ rm_fr C C')) A) args s 0 0 A) (F0 m 125 ls [])) → ∀ (n : Nat) (x3_93 : Int32) (x2_93 : Int32) (x1_93 : Int32) (r : RS) (C1 : pw_C) (H : Heap) (locs : List Loc) (ls : Array Slot), m_writeArray_93' K n x3_93 x2_93 x1_93 r = some res → rm_at ca ad C1 r → rm_fr C C1 → pw_H D cls9 A s.heap ad C ad C1 H locs → lv_has ls 4 [(3, .int x3_93), (2, .int x2_93), (0, .ref (ad 30 0)), (1, .int x1_93)] → W p l e ({ frames := 3, cells := 0, slots := 0, locals := 68 }) s m args below meth c H locs 0 0 (MQ below (pw_Q D cls9 ad C (pw_pv (fun ad' C' => ad' = ad ∧ rm_at ca ad C' res ∧ rm_fr C C')) A) args s 0 0 A) (F0 m 93 ls []) := by
      intro K hKK n
      induction n with
      | zero => intro x3_93 x2_93 x1_93 r C1 H locs ls hE; rw [m_writeArray_93'] at hE; exact absurd hE (by simp)
      | succ n ih =>
        intro x3_93 x2_93 x1_93 r C1 H locs ls hE hR hfr hw hl
        rw [m_writeArray_93'] at hE
        refine lv_iload_n hx hb d_M_writeArray_93 rfl (lv_at hl 1 rfl) ?_
        refine lv_if_eq (tgt := 125) hx hb d_M_writeArray_94 (by decide) (fun c_94 => ?_) (fun c_94 => ?_)
        · rw [if_pos c_94] at hE
          exact hKK _ _ _ _ _ _ _ _ hE hR hfr hw (lv_sub hl [0, 1, 2, 3] rfl)
        · rw [if_neg c_94] at hE
          refine lv_iload_n hx hb d_M_writeArray_97 rfl (lv_at hl 0 rfl) ?_
          refine lv_if_lt (tgt := 125) hx hb d_M_writeArray_98 (by decide) (fun c_95 => ?_) (fun c_95 => ?_)
          · rw [if_pos c_95] at hE
            exact hKK _ _ _ _ _ _ _ _ hE hR hfr hw (lv_sub hl [0, 1, 2, 3] rfl)
          · rw [if_neg c_95] at hE
            refine lv_aload_n hx hb d_M_writeArray_101 rfl (lv_at hl 2 rfl) ?_
            refine lv_iconst (v := 0) hx hb d_M_writeArray_102 (by decide) ?_
            refine lv_aload_n hx hb d_M_writeArray_103 rfl (lv_at hl 2 rfl) ?_
            have hc_96 : C1 30 0 = some (.inr (4, [.ref (ad 31 0), .ref (ad 31 1), .ref (ad 31 2), .ref (ad 31 3), .ref (ad 31 4), .ref (ad 31 5), .ref (ad 31 6), .ref (ad 31 7), .ref (ad 31 8), .ref (ad 31 9), .ref (ad 31 10), .ref (ad 31 11), .ref (ad 31 12), .ref (ad 31 13), .ref (ad 31 14), .int r.objects, .ref (ad 31 15), .int r.length, .ref (ad 31 16), .int r.waits, .ref (ad 31 17), .int r.given, .ref (ad 31 18), .ref (ad 31 19), .ref (ad 31 20), .int r.left, .ref (ad 31 21), .ref (ad 31 22), .int r.oldLength, .int r.oldWaits, .int r.oldGiven])) := by have h9 := rm_at.o hR; exact h9
            refine pw_get (Cn := "GraphWriterModel") (T := F_M) (N := 31) hx hb hts in_M hown hK hw 30 0 rfl hc_96 rfl 12 (by decide) (hts _ wd_766) (fun _ h9 => h9) rfl d_M_writeArray_104 ?_
            refine lv_bipush (v := 24) hx hb d_M_writeArray_107 (by decide) ?_
            refine lv_iload_n hx hb d_M_writeArray_109 rfl (lv_at hl 3 rfl) ?_
            refine lv_imul hx hb d_M_writeArray_110 ?_
            refine lv_iload_n hx hb d_M_writeArray_111 rfl (lv_at hl 0 rfl) ?_
            refine lv_iadd hx hb d_M_writeArray_112 ?_
            have hc_97 : C1 31 12 = some (.inl (ca 1, 480, .inr (.inl r.value))) := by have h9 := rm_at.a12 hR; exact h9
            obtain ⟨v_98, hv_98, hE⟩ := ob_some hE
            obtain ⟨hi_v_98, hj_v_98, he_v_98⟩ := rd_some (by decide) hv_98
            refine pw_lald hx hb hK hw 31 12 rfl 1 hc_97 rfl ((24 * x1_93) + x3_93 : Int32).toNatClampNeg hi_v_98 (by omega) (by omega) d_M_writeArray_113 ?_
            rw [← he_v_98]
            refine lv_l2i hx hb d_M_writeArray_114 rfl ?_
            refine lv_iconst (v := 0) hx hb d_M_writeArray_115 (by decide) ?_
            obtain ⟨y_99, hy_99, hE⟩ := ob_some hE
            refine pw_callv (va_runV (As := [.int 0, .int v_98.toInt32, .int 0]) (rest := []) ⟨hx, hb, hml, hown, hts0⟩ (k_M_push hR hy_99 _) (cwV 3 hts0 (wd_V wd_981 wd_978 wd_980 wd_39 wd_56) rfl rfl rfl (by decide +kernel) ⟨Nat.le_of_ble_eq_true rfl, Nat.le_of_ble_eq_true rfl⟩) (pw_preV hZ hw hA hK hz rfl hc_96 rfl) rfl rfl hl.1 rfl (lv_room (Nat.le_of_ble_eq_true rfl)) d_M_writeArray_116 ⟨Nat.le_of_ble_eq_true rfl, Nat.le_of_ble_eq_true rfl⟩) hw hA (fun ad_100 C_101 H locs hp hw => ?_)
            obtain ⟨hae, hR, hf1⟩ := hp
            rw [hae] at hw
            clear hae
            have hfr : rm_fr C C_101 := fun x y h9 => (hf1 x y h9).trans (hfr x y h9)
            clear hf1
            refine lv_iinc (v := x3_93 + (-1)) (lv' := [(3, .int (x3_93 + (-1))), (2, .int x2_93), (0, .ref (ad 30 0)), (1, .int x1_93)]) hx hb d_M_writeArray_119 hl (k := 0) rfl rfl (by decide) rfl (fun ls hl => ?_)
            refine lv_goto (tgt := 93) hx hb d_M_writeArray_122 (by decide) ?_
            exact ih _ _ _ _ _ _ _ _ hE hR hfr hw (lv_sub hl [0, 1, 2, 3] rfl)
    refine lp_93 _ (fun z3_93 z2_93 z1_93 r_103 C_104 H locs ls hE hR hfr hw hl => ?_) 60 _ _ _ _ _ _ _ _ hE hR hfr hw hl
    try dsimp only at hE
    obtain rfl := Option.some.inj hE
    exact pw_vret hx hb hr hlocks hw ⟨rfl, hR, hfr⟩ d_M_writeArray_125
def m_writeConstant (l1 : Int32) (r : RS) : Option RS := Option.bind (m_append 126 1 r) (fun y_1 => Option.bind (rd y_1.classOf 20 l1) (fun v_8 => Option.bind (m_descriptor v_8 y_1) (fun y_9 => Option.bind (m_give l1 y_9) (fun y_13 => Option.bind (rd y_13.handles 51 (20 + l1)) (fun v_20 => if (v_20 : Int32) < 0 then (Option.bind (m_append 116 1 y_13) (fun y_22 => Option.bind (m_give (20 + l1) y_22) (fun y_26 => Option.bind (rd y_26.nameOf 20 l1) (fun v_33 => Option.bind (m_letter (97 + v_33) y_26) (fun y_34 => some y_34))))) else (Option.bind (m_refer (20 + l1) y_13) (fun y_38 => some y_38)))))))
set_option maxHeartbeats 4000000 in
set_option maxRecDepth 100000 in
theorem k_M_writeConstant {l : Launch} {D : va_G} {ca : Nat → ClassId} {kS : Nat → Nat} {kT : Nat} {ad : pw_A} {C : pw_C} {r : RS} (hR : rm_at ca ad C r) {l1 : Int32} {res : RS} (hE : m_writeConstant l1 r = some res) : gc_Con l y_M_writeConstant c_M_writeConstant ({ frames := 4, cells := 0, slots := 0, locals := 93 }) D ca (z9_Z kS kT) [.ref (ad 30 0), .int l1] ad C (pw_pv (fun ad' C' => ad' = ad ∧ rm_at ca ad C' res ∧ rm_fr C C')) 0 0 := by
  have hZ := z9_ok kS kT
  refine pw_ofW (cc := b_M_writeConstant) (maxL := 2) (ret := none) (by decide) rfl (Nat.le_of_ble_eq_true rfl) ?_
  intro p e s m args below meth c A ls hB hA hw hK hz hl
  obtain ⟨hx, hb, hr, hml, hts0, hlocks, hown, hnm⟩ := hB
  have hts := wd_hts hts0
  have hown : s.vm.findClass "GraphWriterModel" = some m.cls := hown
  have hl : lv_has ls 2 [(0, .ref (ad 30 0)), (1, .int l1)] := hl
  have hfr : rm_fr C C := fun _ _ _ => rfl
  unfold m_writeConstant at hE
  refine lv_aload_n hx hb d_M_writeConstant_0 rfl (lv_at hl 0 rfl) ?_
  refine lv_ldc2 (v := 126) hx hb hown (hts _ wd_986) d_M_writeConstant_1 ?_
  refine lv_iconst (v := 1) hx hb d_M_writeConstant_4 (by decide) ?_
  obtain ⟨y_1, hy_1, hE⟩ := ob_some hE
  have hc_2 : C 30 0 = some (.inr (4, [.ref (ad 31 0), .ref (ad 31 1), .ref (ad 31 2), .ref (ad 31 3), .ref (ad 31 4), .ref (ad 31 5), .ref (ad 31 6), .ref (ad 31 7), .ref (ad 31 8), .ref (ad 31 9), .ref (ad 31 10), .ref (ad 31 11), .ref (ad 31 12), .ref (ad 31 13), .ref (ad 31 14), .int r.objects, .ref (ad 31 15), .int r.length, .ref (ad 31 16), .int r.waits, .ref (ad 31 17), .int r.given, .ref (ad 31 18), .ref (ad 31 19), .ref (ad 31 20), .int r.left, .ref (ad 31 21), .ref (ad 31 22), .int r.oldLength, .int r.oldWaits, .int r.oldGiven])) := by have h9 := rm_at.o hR; exact h9
  refine pw_callv (va_runV (As := [.long 126, .int 1]) (rest := []) ⟨hx, hb, hml, hown, hts0⟩ (k_M_append hR hy_1 _) (cwV 2 hts0 (wd_V wd_748 wd_745 wd_747 wd_20 wd_56) rfl rfl rfl (by decide +kernel) ⟨Nat.le_of_ble_eq_true rfl, Nat.le_of_ble_eq_true rfl⟩) (pw_preV hZ hw hA hK hz rfl hc_2 rfl) rfl rfl hl.1 rfl (lv_room (Nat.le_of_ble_eq_true rfl)) d_M_writeConstant_5 ⟨Nat.le_of_ble_eq_true rfl, Nat.le_of_ble_eq_true rfl⟩) hw hA (fun ad_3 C_4 H locs hp hw => ?_)
  obtain ⟨hae, hR, hf1⟩ := hp
  rw [hae] at hw
  clear hae
  have hfr : rm_fr C C_4 := fun x y h9 => (hf1 x y h9).trans (hfr x y h9)
  clear hf1
  refine lv_aload_n hx hb d_M_writeConstant_8 rfl (lv_at hl 0 rfl) ?_
  refine lv_aload_n hx hb d_M_writeConstant_9 rfl (lv_at hl 0 rfl) ?_
  have hc_6 : C_4 30 0 = some (.inr (4, [.ref (ad 31 0), .ref (ad 31 1), .ref (ad 31 2), .ref (ad 31 3), .ref (ad 31 4), .ref (ad 31 5), .ref (ad 31 6), .ref (ad 31 7), .ref (ad 31 8), .ref (ad 31 9), .ref (ad 31 10), .ref (ad 31 11), .ref (ad 31 12), .ref (ad 31 13), .ref (ad 31 14), .int y_1.objects, .ref (ad 31 15), .int y_1.length, .ref (ad 31 16), .int y_1.waits, .ref (ad 31 17), .int y_1.given, .ref (ad 31 18), .ref (ad 31 19), .ref (ad 31 20), .int y_1.left, .ref (ad 31 21), .ref (ad 31 22), .int y_1.oldLength, .int y_1.oldWaits, .int y_1.oldGiven])) := by have h9 := rm_at.o hR; exact h9
  refine pw_get (Cn := "GraphWriterModel") (T := F_M) (N := 31) hx hb hts in_M hown hK hw 30 0 rfl hc_6 rfl 9 (by decide) (hts _ wd_763) (fun _ h9 => h9) rfl d_M_writeConstant_10 ?_
  refine lv_iload_n hx hb d_M_writeConstant_13 rfl (lv_at hl 1 rfl) ?_
  have hc_7 : C_4 31 9 = some (.inl (ca 0, 20, .inl y_1.classOf)) := by have h9 := rm_at.a9 hR; exact h9
  obtain ⟨v_8, hv_8, hE⟩ := ob_some hE
  obtain ⟨hi_v_8, hj_v_8, he_v_8⟩ := rd_some (by decide) hv_8
  refine pw_iald hx hb hK hw 31 9 rfl 0 hc_7 rfl (l1 : Int32).toNatClampNeg hi_v_8 (by omega) (by omega) d_M_writeConstant_14 ?_
  rw [← he_v_8]
  obtain ⟨y_9, hy_9, hE⟩ := ob_some hE
  refine pw_callv (va_runV (As := [.int v_8]) (rest := []) ⟨hx, hb, hml, hown, hts0⟩ (k_M_descriptor hR hy_9 _) (cwV 1 hts0 (wd_V wd_990 wd_987 wd_989 wd_41 wd_56) rfl rfl rfl (by decide +kernel) ⟨Nat.le_of_ble_eq_true rfl, Nat.le_of_ble_eq_true rfl⟩) (pw_preV hZ hw hA hK hz rfl hc_6 rfl) rfl rfl hl.1 rfl (lv_room (Nat.le_of_ble_eq_true rfl)) d_M_writeConstant_15 ⟨Nat.le_of_ble_eq_true rfl, Nat.le_of_ble_eq_true rfl⟩) hw hA (fun ad_10 C_11 H locs hp hw => ?_)
  obtain ⟨hae, hR, hf1⟩ := hp
  rw [hae] at hw
  clear hae
  have hfr : rm_fr C C_11 := fun x y h9 => (hf1 x y h9).trans (hfr x y h9)
  clear hf1
  refine lv_aload_n hx hb d_M_writeConstant_18 rfl (lv_at hl 0 rfl) ?_
  refine lv_iload_n hx hb d_M_writeConstant_19 rfl (lv_at hl 1 rfl) ?_
  obtain ⟨y_13, hy_13, hE⟩ := ob_some hE
  have hc_14 : C_11 30 0 = some (.inr (4, [.ref (ad 31 0), .ref (ad 31 1), .ref (ad 31 2), .ref (ad 31 3), .ref (ad 31 4), .ref (ad 31 5), .ref (ad 31 6), .ref (ad 31 7), .ref (ad 31 8), .ref (ad 31 9), .ref (ad 31 10), .ref (ad 31 11), .ref (ad 31 12), .ref (ad 31 13), .ref (ad 31 14), .int y_9.objects, .ref (ad 31 15), .int y_9.length, .ref (ad 31 16), .int y_9.waits, .ref (ad 31 17), .int y_9.given, .ref (ad 31 18), .ref (ad 31 19), .ref (ad 31 20), .int y_9.left, .ref (ad 31 21), .ref (ad 31 22), .int y_9.oldLength, .int y_9.oldWaits, .int y_9.oldGiven])) := by have h9 := rm_at.o hR; exact h9
  refine pw_callv (va_runV (As := [.int l1]) (rest := []) ⟨hx, hb, hml, hown, hts0⟩ (k_M_give hR hy_13 _) (cwV 1 hts0 (wd_V wd_954 wd_951 wd_953 wd_35 wd_56) rfl rfl rfl (by decide +kernel) ⟨Nat.le_of_ble_eq_true rfl, Nat.le_of_ble_eq_true rfl⟩) (pw_preV hZ hw hA hK hz rfl hc_14 rfl) rfl rfl hl.1 rfl (lv_room (Nat.le_of_ble_eq_true rfl)) d_M_writeConstant_20 ⟨Nat.le_of_ble_eq_true rfl, Nat.le_of_ble_eq_true rfl⟩) hw hA (fun ad_15 C_16 H locs hp hw => ?_)
  obtain ⟨hae, hR, hf1⟩ := hp
  rw [hae] at hw
  clear hae
  have hfr : rm_fr C C_16 := fun x y h9 => (hf1 x y h9).trans (hfr x y h9)
  clear hf1
  refine lv_aload_n hx hb d_M_writeConstant_23 rfl (lv_at hl 0 rfl) ?_
  have hc_18 : C_16 30 0 = some (.inr (4, [.ref (ad 31 0), .ref (ad 31 1), .ref (ad 31 2), .ref (ad 31 3), .ref (ad 31 4), .ref (ad 31 5), .ref (ad 31 6), .ref (ad 31 7), .ref (ad 31 8), .ref (ad 31 9), .ref (ad 31 10), .ref (ad 31 11), .ref (ad 31 12), .ref (ad 31 13), .ref (ad 31 14), .int y_13.objects, .ref (ad 31 15), .int y_13.length, .ref (ad 31 16), .int y_13.waits, .ref (ad 31 17), .int y_13.given, .ref (ad 31 18), .ref (ad 31 19), .ref (ad 31 20), .int y_13.left, .ref (ad 31 21), .ref (ad 31 22), .int y_13.oldLength, .int y_13.oldWaits, .int y_13.oldGiven])) := by have h9 := rm_at.o hR; exact h9
  refine pw_get (Cn := "GraphWriterModel") (T := F_M) (N := 31) hx hb hts in_M hown hK hw 30 0 rfl hc_18 rfl 20 (by decide) (hts _ wd_774) (fun _ h9 => h9) rfl d_M_writeConstant_24 ?_
  refine lv_bipush (v := 20) hx hb d_M_writeConstant_27 (by decide) ?_
  refine lv_iload_n hx hb d_M_writeConstant_29 rfl (lv_at hl 1 rfl) ?_
  refine lv_iadd hx hb d_M_writeConstant_30 ?_
  have hc_19 : C_16 31 17 = some (.inl (ca 0, 51, .inl y_13.handles)) := by have h9 := rm_at.a17 hR; exact h9
  obtain ⟨v_20, hv_20, hE⟩ := ob_some hE
  obtain ⟨hi_v_20, hj_v_20, he_v_20⟩ := rd_some (by decide) hv_20
  refine pw_iald hx hb hK hw 31 17 rfl 0 hc_19 rfl (20 + l1 : Int32).toNatClampNeg hi_v_20 (by omega) (by omega) d_M_writeConstant_31 ?_
  rw [← he_v_20]
  refine lv_if_lt (tgt := 44) hx hb d_M_writeConstant_32 (by decide) (fun c_21 => ?_) (fun c_21 => ?_)
  · rw [if_pos c_21] at hE
    refine lv_aload_n hx hb d_M_writeConstant_44 rfl (lv_at hl 0 rfl) ?_
    refine lv_ldc2 (v := 116) hx hb hown (hts _ wd_950) d_M_writeConstant_45 ?_
    refine lv_iconst (v := 1) hx hb d_M_writeConstant_48 (by decide) ?_
    obtain ⟨y_22, hy_22, hE⟩ := ob_some hE
    refine pw_callv (va_runV (As := [.long 116, .int 1]) (rest := []) ⟨hx, hb, hml, hown, hts0⟩ (k_M_append hR hy_22 _) (cwV 2 hts0 (wd_V wd_748 wd_745 wd_747 wd_20 wd_56) rfl rfl rfl (by decide +kernel) ⟨Nat.le_of_ble_eq_true rfl, Nat.le_of_ble_eq_true rfl⟩) (pw_preV hZ hw hA hK hz rfl hc_18 rfl) rfl rfl hl.1 rfl (lv_room (Nat.le_of_ble_eq_true rfl)) d_M_writeConstant_49 ⟨Nat.le_of_ble_eq_true rfl, Nat.le_of_ble_eq_true rfl⟩) hw hA (fun ad_23 C_24 H locs hp hw => ?_)
    obtain ⟨hae, hR, hf1⟩ := hp
    rw [hae] at hw
    clear hae
    have hfr : rm_fr C C_24 := fun x y h9 => (hf1 x y h9).trans (hfr x y h9)
    clear hf1
    refine lv_aload_n hx hb d_M_writeConstant_52 rfl (lv_at hl 0 rfl) ?_
    refine lv_bipush (v := 20) hx hb d_M_writeConstant_53 (by decide) ?_
    refine lv_iload_n hx hb d_M_writeConstant_55 rfl (lv_at hl 1 rfl) ?_
    refine lv_iadd hx hb d_M_writeConstant_56 ?_
    obtain ⟨y_26, hy_26, hE⟩ := ob_some hE
    have hc_27 : C_24 30 0 = some (.inr (4, [.ref (ad 31 0), .ref (ad 31 1), .ref (ad 31 2), .ref (ad 31 3), .ref (ad 31 4), .ref (ad 31 5), .ref (ad 31 6), .ref (ad 31 7), .ref (ad 31 8), .ref (ad 31 9), .ref (ad 31 10), .ref (ad 31 11), .ref (ad 31 12), .ref (ad 31 13), .ref (ad 31 14), .int y_22.objects, .ref (ad 31 15), .int y_22.length, .ref (ad 31 16), .int y_22.waits, .ref (ad 31 17), .int y_22.given, .ref (ad 31 18), .ref (ad 31 19), .ref (ad 31 20), .int y_22.left, .ref (ad 31 21), .ref (ad 31 22), .int y_22.oldLength, .int y_22.oldWaits, .int y_22.oldGiven])) := by have h9 := rm_at.o hR; exact h9
    refine pw_callv (va_runV (As := [.int (20 + l1)]) (rest := []) ⟨hx, hb, hml, hown, hts0⟩ (k_M_give hR hy_26 _) (cwV 1 hts0 (wd_V wd_954 wd_951 wd_953 wd_35 wd_56) rfl rfl rfl (by decide +kernel) ⟨Nat.le_of_ble_eq_true rfl, Nat.le_of_ble_eq_true rfl⟩) (pw_preV hZ hw hA hK hz rfl hc_27 rfl) rfl rfl hl.1 rfl (lv_room (Nat.le_of_ble_eq_true rfl)) d_M_writeConstant_57 ⟨Nat.le_of_ble_eq_true rfl, Nat.le_of_ble_eq_true rfl⟩) hw hA (fun ad_28 C_29 H locs hp hw => ?_)
    obtain ⟨hae, hR, hf1⟩ := hp
    rw [hae] at hw
    clear hae
    have hfr : rm_fr C C_29 := fun x y h9 => (hf1 x y h9).trans (hfr x y h9)
    clear hf1
    refine lv_aload_n hx hb d_M_writeConstant_60 rfl (lv_at hl 0 rfl) ?_
    refine lv_bipush (v := 97) hx hb d_M_writeConstant_61 (by decide) ?_
    refine lv_aload_n hx hb d_M_writeConstant_63 rfl (lv_at hl 0 rfl) ?_
    have hc_31 : C_29 30 0 = some (.inr (4, [.ref (ad 31 0), .ref (ad 31 1), .ref (ad 31 2), .ref (ad 31 3), .ref (ad 31 4), .ref (ad 31 5), .ref (ad 31 6), .ref (ad 31 7), .ref (ad 31 8), .ref (ad 31 9), .ref (ad 31 10), .ref (ad 31 11), .ref (ad 31 12), .ref (ad 31 13), .ref (ad 31 14), .int y_26.objects, .ref (ad 31 15), .int y_26.length, .ref (ad 31 16), .int y_26.waits, .ref (ad 31 17), .int y_26.given, .ref (ad 31 18), .ref (ad 31 19), .ref (ad 31 20), .int y_26.left, .ref (ad 31 21), .ref (ad 31 22), .int y_26.oldLength, .int y_26.oldWaits, .int y_26.oldGiven])) := by have h9 := rm_at.o hR; exact h9
    refine pw_get (Cn := "GraphWriterModel") (T := F_M) (N := 31) hx hb hts in_M hown hK hw 30 0 rfl hc_31 rfl 10 (by decide) (hts _ wd_764) (fun _ h9 => h9) rfl d_M_writeConstant_64 ?_
    refine lv_iload_n hx hb d_M_writeConstant_67 rfl (lv_at hl 1 rfl) ?_
    have hc_32 : C_29 31 10 = some (.inl (ca 0, 20, .inl y_26.nameOf)) := by have h9 := rm_at.a10 hR; exact h9
    obtain ⟨v_33, hv_33, hE⟩ := ob_some hE
    obtain ⟨hi_v_33, hj_v_33, he_v_33⟩ := rd_some (by decide) hv_33
    refine pw_iald hx hb hK hw 31 10 rfl 0 hc_32 rfl (l1 : Int32).toNatClampNeg hi_v_33 (by omega) (by omega) d_M_writeConstant_68 ?_
    rw [← he_v_33]
    refine lv_iadd hx hb d_M_writeConstant_69 ?_
    obtain ⟨y_34, hy_34, hE⟩ := ob_some hE
    refine pw_callv (va_runV (As := [.int (97 + v_33)]) (rest := []) ⟨hx, hb, hml, hown, hts0⟩ (k_M_letter hR hy_34 _) (cwV 1 hts0 (wd_V wd_994 wd_991 wd_993 wd_42 wd_56) rfl rfl rfl (by decide +kernel) ⟨Nat.le_of_ble_eq_true rfl, Nat.le_of_ble_eq_true rfl⟩) (pw_preV hZ hw hA hK hz rfl hc_31 rfl) rfl rfl hl.1 rfl (lv_room (Nat.le_of_ble_eq_true rfl)) d_M_writeConstant_70 ⟨Nat.le_of_ble_eq_true rfl, Nat.le_of_ble_eq_true rfl⟩) hw hA (fun ad_35 C_36 H locs hp hw => ?_)
    obtain ⟨hae, hR, hf1⟩ := hp
    rw [hae] at hw
    clear hae
    have hfr : rm_fr C C_36 := fun x y h9 => (hf1 x y h9).trans (hfr x y h9)
    clear hf1
    obtain rfl := Option.some.inj hE
    exact pw_vret hx hb hr hlocks hw ⟨rfl, hR, hfr⟩ d_M_writeConstant_73
  · rw [if_neg c_21] at hE
    refine lv_aload_n hx hb d_M_writeConstant_35 rfl (lv_at hl 0 rfl) ?_
    refine lv_bipush (v := 20) hx hb d_M_writeConstant_36 (by decide) ?_
    refine lv_iload_n hx hb d_M_writeConstant_38 rfl (lv_at hl 1 rfl) ?_
    refine lv_iadd hx hb d_M_writeConstant_39 ?_
    obtain ⟨y_38, hy_38, hE⟩ := ob_some hE
    refine pw_callv (va_runV (As := [.int (20 + l1)]) (rest := []) ⟨hx, hb, hml, hown, hts0⟩ (k_M_refer hR hy_38 _) (cwV 1 hts0 (wd_V wd_947 wd_944 wd_946 wd_34 wd_56) rfl rfl rfl (by decide +kernel) ⟨Nat.le_of_ble_eq_true rfl, Nat.le_of_ble_eq_true rfl⟩) (pw_preV hZ hw hA hK hz rfl hc_18 rfl) rfl rfl hl.1 rfl (lv_room (Nat.le_of_ble_eq_true rfl)) d_M_writeConstant_40 ⟨Nat.le_of_ble_eq_true rfl, Nat.le_of_ble_eq_true rfl⟩) hw hA (fun ad_39 C_40 H locs hp hw => ?_)
    obtain ⟨hae, hR, hf1⟩ := hp
    rw [hae] at hw
    clear hae
    have hfr : rm_fr C C_40 := fun x y h9 => (hf1 x y h9).trans (hfr x y h9)
    clear hf1
    obtain rfl := Option.some.inj hE
    exact pw_vret hx hb hr hlocks hw ⟨rfl, hR, hfr⟩ d_M_writeConstant_43
def m_abort (l1 : Int32) (r : RS) : Option RS := Option.bind (m_append 31609 2 r) (fun y_1 => Option.bind (m_append 116 1 y_1) (fun y_6 => Option.bind (m_letter (65 + l1) y_6) (fun y_11 => Option.bind (m_append 121 1 y_11) (fun y_16 => Option.bind (m_noHandles  y_16) (fun y_21 => some (RS.s_left y_21 0))))))
set_option maxHeartbeats 4000000 in
set_option maxRecDepth 100000 in
theorem k_M_abort {l : Launch} {D : va_G} {ca : Nat → ClassId} {kS : Nat → Nat} {kT : Nat} {ad : pw_A} {C : pw_C} {r : RS} (hR : rm_at ca ad C r) {l1 : Int32} {res : RS} (hE : m_abort l1 r = some res) : gc_Con l y_M_abort c_M_abort ({ frames := 2, cells := 0, slots := 0, locals := 45 }) D ca (z9_Z kS kT) [.ref (ad 30 0), .int l1] ad C (pw_pv (fun ad' C' => ad' = ad ∧ rm_at ca ad C' res ∧ rm_fr C C')) 0 0 := by
  have hZ := z9_ok kS kT
  refine pw_ofW (cc := b_M_abort) (maxL := 2) (ret := none) (by decide) rfl (Nat.le_of_ble_eq_true rfl) ?_
  intro p e s m args below meth c A ls hB hA hw hK hz hl
  obtain ⟨hx, hb, hr, hml, hts0, hlocks, hown, hnm⟩ := hB
  have hts := wd_hts hts0
  have hown : s.vm.findClass "GraphWriterModel" = some m.cls := hown
  have hl : lv_has ls 2 [(0, .ref (ad 30 0)), (1, .int l1)] := hl
  have hfr : rm_fr C C := fun _ _ _ => rfl
  unfold m_abort at hE
  refine lv_aload_n hx hb d_M_abort_0 rfl (lv_at hl 0 rfl) ?_
  refine lv_ldc2 (v := 31609) hx hb hown (hts _ wd_1031) d_M_abort_1 ?_
  refine lv_iconst (v := 2) hx hb d_M_abort_4 (by decide) ?_
  obtain ⟨y_1, hy_1, hE⟩ := ob_some hE
  have hc_2 : C 30 0 = some (.inr (4, [.ref (ad 31 0), .ref (ad 31 1), .ref (ad 31 2), .ref (ad 31 3), .ref (ad 31 4), .ref (ad 31 5), .ref (ad 31 6), .ref (ad 31 7), .ref (ad 31 8), .ref (ad 31 9), .ref (ad 31 10), .ref (ad 31 11), .ref (ad 31 12), .ref (ad 31 13), .ref (ad 31 14), .int r.objects, .ref (ad 31 15), .int r.length, .ref (ad 31 16), .int r.waits, .ref (ad 31 17), .int r.given, .ref (ad 31 18), .ref (ad 31 19), .ref (ad 31 20), .int r.left, .ref (ad 31 21), .ref (ad 31 22), .int r.oldLength, .int r.oldWaits, .int r.oldGiven])) := by have h9 := rm_at.o hR; exact h9
  refine pw_callv (va_runV (As := [.long 31609, .int 2]) (rest := []) ⟨hx, hb, hml, hown, hts0⟩ (k_M_append hR hy_1 _) (cwV 2 hts0 (wd_V wd_748 wd_745 wd_747 wd_20 wd_56) rfl rfl rfl (by decide +kernel) ⟨Nat.le_of_ble_eq_true rfl, Nat.le_of_ble_eq_true rfl⟩) (pw_preV hZ hw hA hK hz rfl hc_2 rfl) rfl rfl hl.1 rfl (lv_room (Nat.le_of_ble_eq_true rfl)) d_M_abort_5 ⟨Nat.le_of_ble_eq_true rfl, Nat.le_of_ble_eq_true rfl⟩) hw hA (fun ad_3 C_4 H locs hp hw => ?_)
  obtain ⟨hae, hR, hf1⟩ := hp
  rw [hae] at hw
  clear hae
  have hfr : rm_fr C C_4 := fun x y h9 => (hf1 x y h9).trans (hfr x y h9)
  clear hf1
  refine lv_aload_n hx hb d_M_abort_8 rfl (lv_at hl 0 rfl) ?_
  refine lv_ldc2 (v := 116) hx hb hown (hts _ wd_950) d_M_abort_9 ?_
  refine lv_iconst (v := 1) hx hb d_M_abort_12 (by decide) ?_
  obtain ⟨y_6, hy_6, hE⟩ := ob_some hE
  have hc_7 : C_4 30 0 = some (.inr (4, [.ref (ad 31 0), .ref (ad 31 1), .ref (ad 31 2), .ref (ad 31 3), .ref (ad 31 4), .ref (ad 31 5), .ref (ad 31 6), .ref (ad 31 7), .ref (ad 31 8), .ref (ad 31 9), .ref (ad 31 10), .ref (ad 31 11), .ref (ad 31 12), .ref (ad 31 13), .ref (ad 31 14), .int y_1.objects, .ref (ad 31 15), .int y_1.length, .ref (ad 31 16), .int y_1.waits, .ref (ad 31 17), .int y_1.given, .ref (ad 31 18), .ref (ad 31 19), .ref (ad 31 20), .int y_1.left, .ref (ad 31 21), .ref (ad 31 22), .int y_1.oldLength, .int y_1.oldWaits, .int y_1.oldGiven])) := by have h9 := rm_at.o hR; exact h9
  refine pw_callv (va_runV (As := [.long 116, .int 1]) (rest := []) ⟨hx, hb, hml, hown, hts0⟩ (k_M_append hR hy_6 _) (cwV 2 hts0 (wd_V wd_748 wd_745 wd_747 wd_20 wd_56) rfl rfl rfl (by decide +kernel) ⟨Nat.le_of_ble_eq_true rfl, Nat.le_of_ble_eq_true rfl⟩) (pw_preV hZ hw hA hK hz rfl hc_7 rfl) rfl rfl hl.1 rfl (lv_room (Nat.le_of_ble_eq_true rfl)) d_M_abort_13 ⟨Nat.le_of_ble_eq_true rfl, Nat.le_of_ble_eq_true rfl⟩) hw hA (fun ad_8 C_9 H locs hp hw => ?_)
  obtain ⟨hae, hR, hf1⟩ := hp
  rw [hae] at hw
  clear hae
  have hfr : rm_fr C C_9 := fun x y h9 => (hf1 x y h9).trans (hfr x y h9)
  clear hf1
  refine lv_aload_n hx hb d_M_abort_16 rfl (lv_at hl 0 rfl) ?_
  refine lv_bipush (v := 65) hx hb d_M_abort_17 (by decide) ?_
  refine lv_iload_n hx hb d_M_abort_19 rfl (lv_at hl 1 rfl) ?_
  refine lv_iadd hx hb d_M_abort_20 ?_
  obtain ⟨y_11, hy_11, hE⟩ := ob_some hE
  have hc_12 : C_9 30 0 = some (.inr (4, [.ref (ad 31 0), .ref (ad 31 1), .ref (ad 31 2), .ref (ad 31 3), .ref (ad 31 4), .ref (ad 31 5), .ref (ad 31 6), .ref (ad 31 7), .ref (ad 31 8), .ref (ad 31 9), .ref (ad 31 10), .ref (ad 31 11), .ref (ad 31 12), .ref (ad 31 13), .ref (ad 31 14), .int y_6.objects, .ref (ad 31 15), .int y_6.length, .ref (ad 31 16), .int y_6.waits, .ref (ad 31 17), .int y_6.given, .ref (ad 31 18), .ref (ad 31 19), .ref (ad 31 20), .int y_6.left, .ref (ad 31 21), .ref (ad 31 22), .int y_6.oldLength, .int y_6.oldWaits, .int y_6.oldGiven])) := by have h9 := rm_at.o hR; exact h9
  refine pw_callv (va_runV (As := [.int (65 + l1)]) (rest := []) ⟨hx, hb, hml, hown, hts0⟩ (k_M_letter hR hy_11 _) (cwV 1 hts0 (wd_V wd_994 wd_991 wd_993 wd_42 wd_56) rfl rfl rfl (by decide +kernel) ⟨Nat.le_of_ble_eq_true rfl, Nat.le_of_ble_eq_true rfl⟩) (pw_preV hZ hw hA hK hz rfl hc_12 rfl) rfl rfl hl.1 rfl (lv_room (Nat.le_of_ble_eq_true rfl)) d_M_abort_21 ⟨Nat.le_of_ble_eq_true rfl, Nat.le_of_ble_eq_true rfl⟩) hw hA (fun ad_13 C_14 H locs hp hw => ?_)
  obtain ⟨hae, hR, hf1⟩ := hp
  rw [hae] at hw
  clear hae
  have hfr : rm_fr C C_14 := fun x y h9 => (hf1 x y h9).trans (hfr x y h9)
  clear hf1
  refine lv_aload_n hx hb d_M_abort_24 rfl (lv_at hl 0 rfl) ?_
  refine lv_ldc2 (v := 121) hx hb hown (hts _ wd_1032) d_M_abort_25 ?_
  refine lv_iconst (v := 1) hx hb d_M_abort_28 (by decide) ?_
  obtain ⟨y_16, hy_16, hE⟩ := ob_some hE
  have hc_17 : C_14 30 0 = some (.inr (4, [.ref (ad 31 0), .ref (ad 31 1), .ref (ad 31 2), .ref (ad 31 3), .ref (ad 31 4), .ref (ad 31 5), .ref (ad 31 6), .ref (ad 31 7), .ref (ad 31 8), .ref (ad 31 9), .ref (ad 31 10), .ref (ad 31 11), .ref (ad 31 12), .ref (ad 31 13), .ref (ad 31 14), .int y_11.objects, .ref (ad 31 15), .int y_11.length, .ref (ad 31 16), .int y_11.waits, .ref (ad 31 17), .int y_11.given, .ref (ad 31 18), .ref (ad 31 19), .ref (ad 31 20), .int y_11.left, .ref (ad 31 21), .ref (ad 31 22), .int y_11.oldLength, .int y_11.oldWaits, .int y_11.oldGiven])) := by have h9 := rm_at.o hR; exact h9
  refine pw_callv (va_runV (As := [.long 121, .int 1]) (rest := []) ⟨hx, hb, hml, hown, hts0⟩ (k_M_append hR hy_16 _) (cwV 2 hts0 (wd_V wd_748 wd_745 wd_747 wd_20 wd_56) rfl rfl rfl (by decide +kernel) ⟨Nat.le_of_ble_eq_true rfl, Nat.le_of_ble_eq_true rfl⟩) (pw_preV hZ hw hA hK hz rfl hc_17 rfl) rfl rfl hl.1 rfl (lv_room (Nat.le_of_ble_eq_true rfl)) d_M_abort_29 ⟨Nat.le_of_ble_eq_true rfl, Nat.le_of_ble_eq_true rfl⟩) hw hA (fun ad_18 C_19 H locs hp hw => ?_)
  obtain ⟨hae, hR, hf1⟩ := hp
  rw [hae] at hw
  clear hae
  have hfr : rm_fr C C_19 := fun x y h9 => (hf1 x y h9).trans (hfr x y h9)
  clear hf1
  refine lv_aload_n hx hb d_M_abort_32 rfl (lv_at hl 0 rfl) ?_
  obtain ⟨y_21, hy_21, hE⟩ := ob_some hE
  have hc_22 : C_19 30 0 = some (.inr (4, [.ref (ad 31 0), .ref (ad 31 1), .ref (ad 31 2), .ref (ad 31 3), .ref (ad 31 4), .ref (ad 31 5), .ref (ad 31 6), .ref (ad 31 7), .ref (ad 31 8), .ref (ad 31 9), .ref (ad 31 10), .ref (ad 31 11), .ref (ad 31 12), .ref (ad 31 13), .ref (ad 31 14), .int y_16.objects, .ref (ad 31 15), .int y_16.length, .ref (ad 31 16), .int y_16.waits, .ref (ad 31 17), .int y_16.given, .ref (ad 31 18), .ref (ad 31 19), .ref (ad 31 20), .int y_16.left, .ref (ad 31 21), .ref (ad 31 22), .int y_16.oldLength, .int y_16.oldWaits, .int y_16.oldGiven])) := by have h9 := rm_at.o hR; exact h9
  refine pw_callv (va_runV (As := []) (rest := []) ⟨hx, hb, hml, hown, hts0⟩ (k_M_noHandles hR hy_21 _) (cwV 0 hts0 (wd_V wd_753 wd_750 wd_752 wd_21 wd_56) rfl rfl rfl (by decide +kernel) ⟨Nat.le_of_ble_eq_true rfl, Nat.le_of_ble_eq_true rfl⟩) (pw_preV hZ hw hA hK hz rfl hc_22 rfl) rfl rfl hl.1 rfl (lv_room (Nat.le_of_ble_eq_true rfl)) d_M_abort_33 ⟨Nat.le_of_ble_eq_true rfl, Nat.le_of_ble_eq_true rfl⟩) hw hA (fun ad_23 C_24 H locs hp hw => ?_)
  obtain ⟨hae, hR, hf1⟩ := hp
  rw [hae] at hw
  clear hae
  have hfr : rm_fr C C_24 := fun x y h9 => (hf1 x y h9).trans (hfr x y h9)
  clear hf1
  refine lv_aload_n hx hb d_M_abort_36 rfl (lv_at hl 0 rfl) ?_
  refine lv_iconst (v := 0) hx hb d_M_abort_37 (by decide) ?_
  have hc_26 : C_24 30 0 = some (.inr (4, [.ref (ad 31 0), .ref (ad 31 1), .ref (ad 31 2), .ref (ad 31 3), .ref (ad 31 4), .ref (ad 31 5), .ref (ad 31 6), .ref (ad 31 7), .ref (ad 31 8), .ref (ad 31 9), .ref (ad 31 10), .ref (ad 31 11), .ref (ad 31 12), .ref (ad 31 13), .ref (ad 31 14), .int y_21.objects, .ref (ad 31 15), .int y_21.length, .ref (ad 31 16), .int y_21.waits, .ref (ad 31 17), .int y_21.given, .ref (ad 31 18), .ref (ad 31 19), .ref (ad 31 20), .int y_21.left, .ref (ad 31 21), .ref (ad 31 22), .int y_21.oldLength, .int y_21.oldWaits, .int y_21.oldGiven])) := by have h9 := rm_at.o hR; exact h9
  refine pw_put (Cn := "GraphWriterModel") (T := F_M) (N := 31) (v := .int 0) (ty := .int) hx hb hts in_M ft_M to_M nm_M hown hK hw 30 0 (by decide) rfl hc_26 rfl 25 (by decide) (hts _ wd_779) (fun _ h9 => h9) rfl (by decide +kernel) rfl rfl (Nat.le_of_ble_eq_true rfl) d_M_abort_38 (fun H locs hw => ?_)
  have hw : pw_H D cls9 A s.heap ad C ad (pw_up C_24 30 0 (some (.inr (4, [.ref (ad 31 0), .ref (ad 31 1), .ref (ad 31 2), .ref (ad 31 3), .ref (ad 31 4), .ref (ad 31 5), .ref (ad 31 6), .ref (ad 31 7), .ref (ad 31 8), .ref (ad 31 9), .ref (ad 31 10), .ref (ad 31 11), .ref (ad 31 12), .ref (ad 31 13), .ref (ad 31 14), .int y_21.objects, .ref (ad 31 15), .int y_21.length, .ref (ad 31 16), .int y_21.waits, .ref (ad 31 17), .int y_21.given, .ref (ad 31 18), .ref (ad 31 19), .ref (ad 31 20), .int 0, .ref (ad 31 21), .ref (ad 31 22), .int y_21.oldLength, .int y_21.oldWaits, .int y_21.oldGiven])))) H _ := hw
  generalize hC_27 : pw_up C_24 30 0 (some (.inr (4, [.ref (ad 31 0), .ref (ad 31 1), .ref (ad 31 2), .ref (ad 31 3), .ref (ad 31 4), .ref (ad 31 5), .ref (ad 31 6), .ref (ad 31 7), .ref (ad 31 8), .ref (ad 31 9), .ref (ad 31 10), .ref (ad 31 11), .ref (ad 31 12), .ref (ad 31 13), .ref (ad 31 14), .int y_21.objects, .ref (ad 31 15), .int y_21.length, .ref (ad 31 16), .int y_21.waits, .ref (ad 31 17), .int y_21.given, .ref (ad 31 18), .ref (ad 31 19), .ref (ad 31 20), .int 0, .ref (ad 31 21), .ref (ad 31 22), .int y_21.oldLength, .int y_21.oldWaits, .int y_21.oldGiven]))) = C_27 at hw
  have hR : rm_at ca ad C_27 (RS.s_left y_21 0) := by rw [← hC_27]; exact rm_at.o_left hR _
  have hfr : rm_fr C C_27 := fun x y h9 => by rw [← hC_27]; exact (pw_up_ne _ _ (by omega)).trans (hfr x y h9)
  obtain rfl := Option.some.inj hE
  exact pw_vret hx hb hr hlocks hw ⟨rfl, hR, hfr⟩ d_M_abort_41
def m_writeObject_86 (K : Int32 → Int32 → Int32 → Int32 → RS → Option (Int32 × RS)) : Nat → Int32 → Int32 → Int32 → Int32 → RS → Option (Int32 × RS)
  | 0, _, _, _, _, _ => none
  | n + 1, x4_80, x3_80, x1_80, x2_80, r => Option.bind (rd r.size 20 x3_80) (fun v_83 => if (v_83 : Int32) ≤ x4_80 then (K x4_80 x3_80 x1_80 x2_80 r) else (Option.bind (rd r.value 480 ((24 * x3_80) + x4_80)) (fun v_86 => Option.bind (m_append v_86 1 r) (fun y_87 => m_writeObject_86 K n (x4_80 + 1) x3_80 x1_80 x2_80 y_87))))
def m_writeObject_86' (K : Int32 → Int32 → Int32 → Int32 → RS → Option (Int32 × RS)) : Nat → Int32 → Int32 → Int32 → Int32 → RS → Option (Int32 × RS)
  | 0, _, _, _, _, _ => none
  | n + 1, x4_162, x3_162, x1_162, x2_162, r => Option.bind (rd r.size 20 x3_162) (fun v_165 => if (v_165 : Int32) ≤ x4_162 then (K x4_162 x3_162 x1_162 x2_162 r) else (Option.bind (rd r.value 480 ((24 * x3_162) + x4_162)) (fun v_168 => Option.bind (m_append v_168 1 r) (fun y_169 => m_writeObject_86' K n (x4_162 + 1) x3_162 x1_162 x2_162 y_169))))
def m_writeObject (l1 : Int32) (l2 : Int32) (r : RS) : Option (Int32 × RS) := if (0 : Int32) ≤ l1 then (Option.bind (m_standing l1 r) (fun y_2 => if (0 : Int32) ≤ y_2.1 then (Option.bind (rd y_2.2.handles 51 y_2.1) (fun v_10 => if (v_10 : Int32) < 0 then (Option.bind (rd y_2.2.sort 20 y_2.1) (fun v_13 => if (v_13 : Int32) = 1 then (Option.bind (m_append 116 1 y_2.2) (fun y_64 => Option.bind (m_give y_2.1 y_64) (fun y_68 => Option.bind (rd y_68.size 20 y_2.1) (fun v_75 => Option.bind (m_append v_75.toInt64 2 y_68) (fun y_76 => m_writeObject_86 (fun z4_80 z3_80 z1_80 z2_80 r_91 => some (1, r_91)) 60 0 y_2.1 l1 l2 y_76))))) else (Option.bind (rd y_2.2.sort 20 y_2.1) (fun v_15 => if (v_15 : Int32) = 2 then (Option.bind (m_writeArray y_2.1 y_2.2) (fun y_17 => some (1, y_17))) else (Option.bind (rd y_2.2.sort 20 y_2.1) (fun v_21 => if (v_21 : Int32) = 3 then (Option.bind (m_writeArray y_2.1 y_2.2) (fun y_60 => some (1, y_60))) else (Option.bind (rd y_2.2.sort 20 y_2.1) (fun v_23 => if (v_23 : Int32) = 4 then (Option.bind (m_writeConstant y_2.1 y_2.2) (fun y_56 => some (1, y_56))) else (Option.bind (rd y_2.2.classOf 20 y_2.1) (fun v_26 => Option.bind (rd y_2.2.kind 6 v_26) (fun v_28 => if (v_28 : Int32) = 0 then (Option.bind (rd y_2.2.classOf 20 y_2.1) (fun v_51 => Option.bind (m_abort v_51 y_2.2) (fun y_52 => some (0, y_52)))) else (Option.bind (m_append 115 1 y_2.2) (fun y_30 => Option.bind (rd y_30.classOf 20 y_2.1) (fun v_36 => Option.bind (m_descriptor v_36 y_30) (fun y_37 => Option.bind (m_give y_2.1 y_37) (fun y_41 => Option.bind (m_parts y_2.1 y_41) (fun y_46 => some (1, y_46)))))))))))))))))) else (if (l2 : Int32) = 0 then (Option.bind (m_refer y_2.1 y_2.2) (fun y_175 => some (1, y_175))) else (Option.bind (rd y_2.2.sort 20 y_2.1) (fun v_95 => if (v_95 : Int32) = 1 then (Option.bind (m_append 116 1 y_2.2) (fun y_146 => Option.bind (m_give y_2.1 y_146) (fun y_150 => Option.bind (rd y_150.size 20 y_2.1) (fun v_157 => Option.bind (m_append v_157.toInt64 2 y_150) (fun y_158 => m_writeObject_86' (fun z4_162 z3_162 z1_162 z2_162 r_173 => some (1, r_173)) 60 0 y_2.1 l1 l2 y_158))))) else (Option.bind (rd y_2.2.sort 20 y_2.1) (fun v_97 => if (v_97 : Int32) = 2 then (Option.bind (m_writeArray y_2.1 y_2.2) (fun y_99 => some (1, y_99))) else (Option.bind (rd y_2.2.sort 20 y_2.1) (fun v_103 => if (v_103 : Int32) = 3 then (Option.bind (m_writeArray y_2.1 y_2.2) (fun y_142 => some (1, y_142))) else (Option.bind (rd y_2.2.sort 20 y_2.1) (fun v_105 => if (v_105 : Int32) = 4 then (Option.bind (m_writeConstant y_2.1 y_2.2) (fun y_138 => some (1, y_138))) else (Option.bind (rd y_2.2.classOf 20 y_2.1) (fun v_108 => Option.bind (rd y_2.2.kind 6 v_108) (fun v_110 => if (v_110 : Int32) = 0 then (Option.bind (rd y_2.2.classOf 20 y_2.1) (fun v_133 => Option.bind (m_abort v_133 y_2.2) (fun y_134 => some (0, y_134)))) else (Option.bind (m_append 115 1 y_2.2) (fun y_112 => Option.bind (rd y_112.classOf 20 y_2.1) (fun v_118 => Option.bind (m_descriptor v_118 y_112) (fun y_119 => Option.bind (m_give y_2.1 y_119) (fun y_123 => Option.bind (m_parts y_2.1 y_123) (fun y_128 => some (1, y_128))))))))))))))))))))) else (Option.bind (m_append 112 1 y_2.2) (fun y_179 => some (1, y_179))))) else (Option.bind (m_append 112 1 r) (fun y_185 => some (1, y_185)))
set_option maxHeartbeats 4000000 in
set_option maxRecDepth 100000 in
theorem k_M_writeObject {l : Launch} {D : va_G} {ca : Nat → ClassId} {kS : Nat → Nat} {kT : Nat} {ad : pw_A} {C : pw_C} {r : RS} (hR : rm_at ca ad C r) {l1 : Int32} {l2 : Int32} {res : (Int32 × RS)} (hE : m_writeObject l1 l2 r = some res) : gc_Con l y_M_writeObject c_M_writeObject ({ frames := 5, cells := 0, slots := 0, locals := 114 }) D ca (z9_Z kS kT) [.ref (ad 30 0), .int l1, .int l2] ad C (pw_pi (fun v ad' C' => (ad' = ad ∧ rm_at ca ad C' res.2 ∧ rm_fr C C') ∧ v = res.1)) 0 0 := by
  have hZ := z9_ok kS kT
  refine pw_ofW (cc := b_M_writeObject) (maxL := 5) (ret := (some FieldType.boolean)) (by decide) rfl (Nat.le_of_ble_eq_true rfl) ?_
  intro p e s m args below meth c A ls hB hA hw hK hz hl
  obtain ⟨hx, hb, hr, hml, hts0, hlocks, hown, hnm⟩ := hB
  have hts := wd_hts hts0
  have hown : s.vm.findClass "GraphWriterModel" = some m.cls := hown
  have hl : lv_has ls 5 [(0, .ref (ad 30 0)), (1, .int l1), (2, .int l2)] := hl
  have hfr : rm_fr C C := fun _ _ _ => rfl
  unfold m_writeObject at hE
  refine lv_iload_n hx hb d_M_writeObject_0 rfl (lv_at hl 1 rfl) ?_
  refine lv_if_ge (tgt := 8) hx hb d_M_writeObject_1 (by decide) (fun c_1 => ?_) (fun c_1 => ?_)
  · rw [if_pos c_1] at hE
    refine lv_aload_n hx hb d_M_writeObject_8 rfl (lv_at hl 0 rfl) ?_
    refine lv_iload_n hx hb d_M_writeObject_9 rfl (lv_at hl 1 rfl) ?_
    obtain ⟨y_2, hy_2, hE⟩ := ob_some hE
    have hc_3 : C 30 0 = some (.inr (4, [.ref (ad 31 0), .ref (ad 31 1), .ref (ad 31 2), .ref (ad 31 3), .ref (ad 31 4), .ref (ad 31 5), .ref (ad 31 6), .ref (ad 31 7), .ref (ad 31 8), .ref (ad 31 9), .ref (ad 31 10), .ref (ad 31 11), .ref (ad 31 12), .ref (ad 31 13), .ref (ad 31 14), .int r.objects, .ref (ad 31 15), .int r.length, .ref (ad 31 16), .int r.waits, .ref (ad 31 17), .int r.given, .ref (ad 31 18), .ref (ad 31 19), .ref (ad 31 20), .int r.left, .ref (ad 31 21), .ref (ad 31 22), .int r.oldLength, .int r.oldWaits, .int r.oldGiven])) := by have h9 := rm_at.o hR; exact h9
    refine pw_calli (va_runV (As := [.int l1]) (rest := []) ⟨hx, hb, hml, hown, hts0⟩ (k_M_standing hR hy_2 _) (cwV 1 hts0 (wd_V wd_942 wd_939 wd_941 wd_33 wd_56) rfl rfl rfl (by decide +kernel) ⟨Nat.le_of_ble_eq_true rfl, Nat.le_of_ble_eq_true rfl⟩) (pw_preV hZ hw hA hK hz rfl hc_3 rfl) rfl rfl hl.1 rfl (lv_room (Nat.le_of_ble_eq_true rfl)) d_M_writeObject_10 ⟨Nat.le_of_ble_eq_true rfl, Nat.le_of_ble_eq_true rfl⟩) hw hA (fun r_6 ad_4 C_5 H locs hp hw => ?_)
    obtain ⟨⟨hae, hR, hf1⟩, hre⟩ := hp
    rw [hre]
    rw [hae] at hw
    clear hae
    have hfr : rm_fr C C_5 := fun x y h9 => (hf1 x y h9).trans (hfr x y h9)
    clear hf1
    refine lv_istore_n (lv' := [(3, .int y_2.1), (0, .ref (ad 30 0)), (1, .int l1), (2, .int l2)]) hx hb d_M_writeObject_13 rfl hl (by decide) rfl (fun ls hl => ?_)
    refine lv_iload_n hx hb d_M_writeObject_14 rfl (lv_at hl 0 rfl) ?_
    refine lv_if_ge (tgt := 28) hx hb d_M_writeObject_15 (by decide) (fun c_7 => ?_) (fun c_7 => ?_)
    · rw [if_pos c_7] at hE
      refine lv_aload_n hx hb d_M_writeObject_28 rfl (lv_at hl 1 rfl) ?_
      have hc_8 : C_5 30 0 = some (.inr (4, [.ref (ad 31 0), .ref (ad 31 1), .ref (ad 31 2), .ref (ad 31 3), .ref (ad 31 4), .ref (ad 31 5), .ref (ad 31 6), .ref (ad 31 7), .ref (ad 31 8), .ref (ad 31 9), .ref (ad 31 10), .ref (ad 31 11), .ref (ad 31 12), .ref (ad 31 13), .ref (ad 31 14), .int y_2.2.objects, .ref (ad 31 15), .int y_2.2.length, .ref (ad 31 16), .int y_2.2.waits, .ref (ad 31 17), .int y_2.2.given, .ref (ad 31 18), .ref (ad 31 19), .ref (ad 31 20), .int y_2.2.left, .ref (ad 31 21), .ref (ad 31 22), .int y_2.2.oldLength, .int y_2.2.oldWaits, .int y_2.2.oldGiven])) := by have h9 := rm_at.o hR; exact h9
      refine pw_get (Cn := "GraphWriterModel") (T := F_M) (N := 31) hx hb hts in_M hown hK hw 30 0 rfl hc_8 rfl 20 (by decide) (hts _ wd_774) (fun _ h9 => h9) rfl d_M_writeObject_29 ?_
      refine lv_iload_n hx hb d_M_writeObject_32 rfl (lv_at hl 0 rfl) ?_
      have hc_9 : C_5 31 17 = some (.inl (ca 0, 51, .inl y_2.2.handles)) := by have h9 := rm_at.a17 hR; exact h9
      obtain ⟨v_10, hv_10, hE⟩ := ob_some hE
      obtain ⟨hi_v_10, hj_v_10, he_v_10⟩ := rd_some (by decide) hv_10
      refine pw_iald hx hb hK hw 31 17 rfl 0 hc_9 rfl (y_2.1 : Int32).toNatClampNeg hi_v_10 (by omega) (by omega) d_M_writeObject_33 ?_
      rw [← he_v_10]
      refine lv_if_lt (tgt := 48) hx hb d_M_writeObject_34 (by decide) (fun c_11 => ?_) (fun c_11 => ?_)
      · rw [if_pos c_11] at hE
        refine lv_aload_n hx hb d_M_writeObject_48 rfl (lv_at hl 1 rfl) ?_
        refine pw_get (Cn := "GraphWriterModel") (T := F_M) (N := 31) hx hb hts in_M hown hK hw 30 0 rfl hc_8 rfl 8 (by decide) (hts _ wd_762) (fun _ h9 => h9) rfl d_M_writeObject_49 ?_
        refine lv_iload_n hx hb d_M_writeObject_52 rfl (lv_at hl 0 rfl) ?_
        have hc_12 : C_5 31 8 = some (.inl (ca 0, 20, .inl y_2.2.sort)) := by have h9 := rm_at.a8 hR; exact h9
        obtain ⟨v_13, hv_13, hE⟩ := ob_some hE
        obtain ⟨hi_v_13, hj_v_13, he_v_13⟩ := rd_some (by decide) hv_13
        refine pw_iald hx hb hK hw 31 8 rfl 0 hc_12 rfl (y_2.1 : Int32).toNatClampNeg hi_v_13 (by omega) (by omega) d_M_writeObject_53 ?_
        rw [← he_v_13]
        refine lv_iconst (v := 1) hx hb d_M_writeObject_54 (by decide) ?_
        refine lv_icmp_ne (tgt := 123) hx hb d_M_writeObject_55 (by decide) (fun c_14 => ?_) (fun c_14 => ?_)
        · rw [if_neg c_14] at hE
          refine lv_aload_n hx hb d_M_writeObject_123 rfl (lv_at hl 1 rfl) ?_
          refine pw_get (Cn := "GraphWriterModel") (T := F_M) (N := 31) hx hb hts in_M hown hK hw 30 0 rfl hc_8 rfl 8 (by decide) (hts _ wd_762) (fun _ h9 => h9) rfl d_M_writeObject_124 ?_
          refine lv_iload_n hx hb d_M_writeObject_127 rfl (lv_at hl 0 rfl) ?_
          obtain ⟨v_15, hv_15, hE⟩ := ob_some hE
          obtain ⟨hi_v_15, hj_v_15, he_v_15⟩ := rd_some (by decide) hv_15
          refine pw_iald hx hb hK hw 31 8 rfl 0 hc_12 rfl (y_2.1 : Int32).toNatClampNeg hi_v_15 (by omega) (by omega) d_M_writeObject_128 ?_
          rw [← he_v_15]
          refine lv_iconst (v := 2) hx hb d_M_writeObject_129 (by decide) ?_
          refine lv_icmp_eq (tgt := 143) hx hb d_M_writeObject_130 (by decide) (fun c_16 => ?_) (fun c_16 => ?_)
          · rw [if_pos c_16] at hE
            refine lv_aload_n hx hb d_M_writeObject_143 rfl (lv_at hl 1 rfl) ?_
            refine lv_iload_n hx hb d_M_writeObject_144 rfl (lv_at hl 0 rfl) ?_
            obtain ⟨y_17, hy_17, hE⟩ := ob_some hE
            refine pw_callv (va_runV (As := [.int y_2.1]) (rest := []) ⟨hx, hb, hml, hown, hts0⟩ (k_M_writeArray hR hy_17 _) (cwV 1 hts0 (wd_V wd_958 wd_955 wd_957 wd_36 wd_56) rfl rfl rfl (by decide +kernel) ⟨Nat.le_of_ble_eq_true rfl, Nat.le_of_ble_eq_true rfl⟩) (pw_preV hZ hw hA hK hz rfl hc_8 rfl) rfl rfl hl.1 rfl (lv_room (Nat.le_of_ble_eq_true rfl)) d_M_writeObject_145 ⟨Nat.le_of_ble_eq_true rfl, Nat.le_of_ble_eq_true rfl⟩) hw hA (fun ad_18 C_19 H locs hp hw => ?_)
            obtain ⟨hae, hR, hf1⟩ := hp
            rw [hae] at hw
            clear hae
            have hfr : rm_fr C C_19 := fun x y h9 => (hf1 x y h9).trans (hfr x y h9)
            clear hf1
            refine lv_goto (tgt := 223) hx hb d_M_writeObject_148 (by decide) ?_
            refine lv_iconst (v := 1) hx hb d_M_writeObject_223 (by decide) ?_
            obtain rfl := Option.some.inj hE
            exact pw_zret hx hb hr hlocks hw rfl ⟨⟨rfl, hR, hfr⟩, rfl⟩ d_M_writeObject_224
          · rw [if_neg c_16] at hE
            refine lv_aload_n hx hb d_M_writeObject_133 rfl (lv_at hl 1 rfl) ?_
            refine pw_get (Cn := "GraphWriterModel") (T := F_M) (N := 31) hx hb hts in_M hown hK hw 30 0 rfl hc_8 rfl 8 (by decide) (hts _ wd_762) (fun _ h9 => h9) rfl d_M_writeObject_134 ?_
            refine lv_iload_n hx hb d_M_writeObject_137 rfl (lv_at hl 0 rfl) ?_
            obtain ⟨v_21, hv_21, hE⟩ := ob_some hE
            obtain ⟨hi_v_21, hj_v_21, he_v_21⟩ := rd_some (by decide) hv_21
            refine pw_iald hx hb hK hw 31 8 rfl 0 hc_12 rfl (y_2.1 : Int32).toNatClampNeg hi_v_21 (by omega) (by omega) d_M_writeObject_138 ?_
            rw [← he_v_21]
            refine lv_iconst (v := 3) hx hb d_M_writeObject_139 (by decide) ?_
            refine lv_icmp_ne (tgt := 151) hx hb d_M_writeObject_140 (by decide) (fun c_22 => ?_) (fun c_22 => ?_)
            · rw [if_neg c_22] at hE
              refine lv_aload_n hx hb d_M_writeObject_151 rfl (lv_at hl 1 rfl) ?_
              refine pw_get (Cn := "GraphWriterModel") (T := F_M) (N := 31) hx hb hts in_M hown hK hw 30 0 rfl hc_8 rfl 8 (by decide) (hts _ wd_762) (fun _ h9 => h9) rfl d_M_writeObject_152 ?_
              refine lv_iload_n hx hb d_M_writeObject_155 rfl (lv_at hl 0 rfl) ?_
              obtain ⟨v_23, hv_23, hE⟩ := ob_some hE
              obtain ⟨hi_v_23, hj_v_23, he_v_23⟩ := rd_some (by decide) hv_23
              refine pw_iald hx hb hK hw 31 8 rfl 0 hc_12 rfl (y_2.1 : Int32).toNatClampNeg hi_v_23 (by omega) (by omega) d_M_writeObject_156 ?_
              rw [← he_v_23]
              refine lv_iconst (v := 4) hx hb d_M_writeObject_157 (by decide) ?_
              refine lv_icmp_ne (tgt := 169) hx hb d_M_writeObject_158 (by decide) (fun c_24 => ?_) (fun c_24 => ?_)
              · rw [if_neg c_24] at hE
                refine lv_aload_n hx hb d_M_writeObject_169 rfl (lv_at hl 1 rfl) ?_
                refine pw_get (Cn := "GraphWriterModel") (T := F_M) (N := 31) hx hb hts in_M hown hK hw 30 0 rfl hc_8 rfl 1 (by decide) (hts _ wd_755) (fun _ h9 => h9) rfl d_M_writeObject_170 ?_
                refine lv_aload_n hx hb d_M_writeObject_173 rfl (lv_at hl 1 rfl) ?_
                refine pw_get (Cn := "GraphWriterModel") (T := F_M) (N := 31) hx hb hts in_M hown hK hw 30 0 rfl hc_8 rfl 9 (by decide) (hts _ wd_763) (fun _ h9 => h9) rfl d_M_writeObject_174 ?_
                refine lv_iload_n hx hb d_M_writeObject_177 rfl (lv_at hl 0 rfl) ?_
                have hc_25 : C_5 31 9 = some (.inl (ca 0, 20, .inl y_2.2.classOf)) := by have h9 := rm_at.a9 hR; exact h9
                obtain ⟨v_26, hv_26, hE⟩ := ob_some hE
                obtain ⟨hi_v_26, hj_v_26, he_v_26⟩ := rd_some (by decide) hv_26
                refine pw_iald hx hb hK hw 31 9 rfl 0 hc_25 rfl (y_2.1 : Int32).toNatClampNeg hi_v_26 (by omega) (by omega) d_M_writeObject_178 ?_
                rw [← he_v_26]
                have hc_27 : C_5 31 1 = some (.inl (ca 0, 6, .inl y_2.2.kind)) := by have h9 := rm_at.a1 hR; exact h9
                obtain ⟨v_28, hv_28, hE⟩ := ob_some hE
                obtain ⟨hi_v_28, hj_v_28, he_v_28⟩ := rd_some (by decide) hv_28
                refine pw_iald hx hb hK hw 31 1 rfl 0 hc_27 rfl (v_26 : Int32).toNatClampNeg hi_v_28 (by omega) (by omega) d_M_writeObject_179 ?_
                rw [← he_v_28]
                refine lv_if_ne (tgt := 195) hx hb d_M_writeObject_180 (by decide) (fun c_29 => ?_) (fun c_29 => ?_)
                · rw [if_neg c_29] at hE
                  refine lv_aload_n hx hb d_M_writeObject_195 rfl (lv_at hl 1 rfl) ?_
                  refine lv_ldc2 (v := 115) hx hb hown (hts _ wd_1033) d_M_writeObject_196 ?_
                  refine lv_iconst (v := 1) hx hb d_M_writeObject_199 (by decide) ?_
                  obtain ⟨y_30, hy_30, hE⟩ := ob_some hE
                  refine pw_callv (va_runV (As := [.long 115, .int 1]) (rest := []) ⟨hx, hb, hml, hown, hts0⟩ (k_M_append hR hy_30 _) (cwV 2 hts0 (wd_V wd_748 wd_745 wd_747 wd_20 wd_56) rfl rfl rfl (by decide +kernel) ⟨Nat.le_of_ble_eq_true rfl, Nat.le_of_ble_eq_true rfl⟩) (pw_preV hZ hw hA hK hz rfl hc_8 rfl) rfl rfl hl.1 rfl (lv_room (Nat.le_of_ble_eq_true rfl)) d_M_writeObject_200 ⟨Nat.le_of_ble_eq_true rfl, Nat.le_of_ble_eq_true rfl⟩) hw hA (fun ad_31 C_32 H locs hp hw => ?_)
                  obtain ⟨hae, hR, hf1⟩ := hp
                  rw [hae] at hw
                  clear hae
                  have hfr : rm_fr C C_32 := fun x y h9 => (hf1 x y h9).trans (hfr x y h9)
                  clear hf1
                  refine lv_aload_n hx hb d_M_writeObject_203 rfl (lv_at hl 1 rfl) ?_
                  refine lv_aload_n hx hb d_M_writeObject_204 rfl (lv_at hl 1 rfl) ?_
                  have hc_34 : C_32 30 0 = some (.inr (4, [.ref (ad 31 0), .ref (ad 31 1), .ref (ad 31 2), .ref (ad 31 3), .ref (ad 31 4), .ref (ad 31 5), .ref (ad 31 6), .ref (ad 31 7), .ref (ad 31 8), .ref (ad 31 9), .ref (ad 31 10), .ref (ad 31 11), .ref (ad 31 12), .ref (ad 31 13), .ref (ad 31 14), .int y_30.objects, .ref (ad 31 15), .int y_30.length, .ref (ad 31 16), .int y_30.waits, .ref (ad 31 17), .int y_30.given, .ref (ad 31 18), .ref (ad 31 19), .ref (ad 31 20), .int y_30.left, .ref (ad 31 21), .ref (ad 31 22), .int y_30.oldLength, .int y_30.oldWaits, .int y_30.oldGiven])) := by have h9 := rm_at.o hR; exact h9
                  refine pw_get (Cn := "GraphWriterModel") (T := F_M) (N := 31) hx hb hts in_M hown hK hw 30 0 rfl hc_34 rfl 9 (by decide) (hts _ wd_763) (fun _ h9 => h9) rfl d_M_writeObject_205 ?_
                  refine lv_iload_n hx hb d_M_writeObject_208 rfl (lv_at hl 0 rfl) ?_
                  have hc_35 : C_32 31 9 = some (.inl (ca 0, 20, .inl y_30.classOf)) := by have h9 := rm_at.a9 hR; exact h9
                  obtain ⟨v_36, hv_36, hE⟩ := ob_some hE
                  obtain ⟨hi_v_36, hj_v_36, he_v_36⟩ := rd_some (by decide) hv_36
                  refine pw_iald hx hb hK hw 31 9 rfl 0 hc_35 rfl (y_2.1 : Int32).toNatClampNeg hi_v_36 (by omega) (by omega) d_M_writeObject_209 ?_
                  rw [← he_v_36]
                  obtain ⟨y_37, hy_37, hE⟩ := ob_some hE
                  refine pw_callv (va_runV (As := [.int v_36]) (rest := []) ⟨hx, hb, hml, hown, hts0⟩ (k_M_descriptor hR hy_37 _) (cwV 1 hts0 (wd_V wd_990 wd_987 wd_989 wd_41 wd_56) rfl rfl rfl (by decide +kernel) ⟨Nat.le_of_ble_eq_true rfl, Nat.le_of_ble_eq_true rfl⟩) (pw_preV hZ hw hA hK hz rfl hc_34 rfl) rfl rfl hl.1 rfl (lv_room (Nat.le_of_ble_eq_true rfl)) d_M_writeObject_210 ⟨Nat.le_of_ble_eq_true rfl, Nat.le_of_ble_eq_true rfl⟩) hw hA (fun ad_38 C_39 H locs hp hw => ?_)
                  obtain ⟨hae, hR, hf1⟩ := hp
                  rw [hae] at hw
                  clear hae
                  have hfr : rm_fr C C_39 := fun x y h9 => (hf1 x y h9).trans (hfr x y h9)
                  clear hf1
                  refine lv_aload_n hx hb d_M_writeObject_213 rfl (lv_at hl 1 rfl) ?_
                  refine lv_iload_n hx hb d_M_writeObject_214 rfl (lv_at hl 0 rfl) ?_
                  obtain ⟨y_41, hy_41, hE⟩ := ob_some hE
                  have hc_42 : C_39 30 0 = some (.inr (4, [.ref (ad 31 0), .ref (ad 31 1), .ref (ad 31 2), .ref (ad 31 3), .ref (ad 31 4), .ref (ad 31 5), .ref (ad 31 6), .ref (ad 31 7), .ref (ad 31 8), .ref (ad 31 9), .ref (ad 31 10), .ref (ad 31 11), .ref (ad 31 12), .ref (ad 31 13), .ref (ad 31 14), .int y_37.objects, .ref (ad 31 15), .int y_37.length, .ref (ad 31 16), .int y_37.waits, .ref (ad 31 17), .int y_37.given, .ref (ad 31 18), .ref (ad 31 19), .ref (ad 31 20), .int y_37.left, .ref (ad 31 21), .ref (ad 31 22), .int y_37.oldLength, .int y_37.oldWaits, .int y_37.oldGiven])) := by have h9 := rm_at.o hR; exact h9
                  refine pw_callv (va_runV (As := [.int y_2.1]) (rest := []) ⟨hx, hb, hml, hown, hts0⟩ (k_M_give hR hy_41 _) (cwV 1 hts0 (wd_V wd_954 wd_951 wd_953 wd_35 wd_56) rfl rfl rfl (by decide +kernel) ⟨Nat.le_of_ble_eq_true rfl, Nat.le_of_ble_eq_true rfl⟩) (pw_preV hZ hw hA hK hz rfl hc_42 rfl) rfl rfl hl.1 rfl (lv_room (Nat.le_of_ble_eq_true rfl)) d_M_writeObject_215 ⟨Nat.le_of_ble_eq_true rfl, Nat.le_of_ble_eq_true rfl⟩) hw hA (fun ad_43 C_44 H locs hp hw => ?_)
                  obtain ⟨hae, hR, hf1⟩ := hp
                  rw [hae] at hw
                  clear hae
                  have hfr : rm_fr C C_44 := fun x y h9 => (hf1 x y h9).trans (hfr x y h9)
                  clear hf1
                  refine lv_aload_n hx hb d_M_writeObject_218 rfl (lv_at hl 1 rfl) ?_
                  refine lv_iload_n hx hb d_M_writeObject_219 rfl (lv_at hl 0 rfl) ?_
                  obtain ⟨y_46, hy_46, hE⟩ := ob_some hE
                  have hc_47 : C_44 30 0 = some (.inr (4, [.ref (ad 31 0), .ref (ad 31 1), .ref (ad 31 2), .ref (ad 31 3), .ref (ad 31 4), .ref (ad 31 5), .ref (ad 31 6), .ref (ad 31 7), .ref (ad 31 8), .ref (ad 31 9), .ref (ad 31 10), .ref (ad 31 11), .ref (ad 31 12), .ref (ad 31 13), .ref (ad 31 14), .int y_41.objects, .ref (ad 31 15), .int y_41.length, .ref (ad 31 16), .int y_41.waits, .ref (ad 31 17), .int y_41.given, .ref (ad 31 18), .ref (ad 31 19), .ref (ad 31 20), .int y_41.left, .ref (ad 31 21), .ref (ad 31 22), .int y_41.oldLength, .int y_41.oldWaits, .int y_41.oldGiven])) := by have h9 := rm_at.o hR; exact h9
                  refine pw_callv (va_runV (As := [.int y_2.1]) (rest := []) ⟨hx, hb, hml, hown, hts0⟩ (k_M_parts hR hy_46 _) (cwV 1 hts0 (wd_V wd_1037 wd_1034 wd_1036 wd_48 wd_56) rfl rfl rfl (by decide +kernel) ⟨Nat.le_of_ble_eq_true rfl, Nat.le_of_ble_eq_true rfl⟩) (pw_preV hZ hw hA hK hz rfl hc_47 rfl) rfl rfl hl.1 rfl (lv_room (Nat.le_of_ble_eq_true rfl)) d_M_writeObject_220 ⟨Nat.le_of_ble_eq_true rfl, Nat.le_of_ble_eq_true rfl⟩) hw hA (fun ad_48 C_49 H locs hp hw => ?_)
                  obtain ⟨hae, hR, hf1⟩ := hp
                  rw [hae] at hw
                  clear hae
                  have hfr : rm_fr C C_49 := fun x y h9 => (hf1 x y h9).trans (hfr x y h9)
                  clear hf1
                  refine lv_iconst (v := 1) hx hb d_M_writeObject_223 (by decide) ?_
                  obtain rfl := Option.some.inj hE
                  exact pw_zret hx hb hr hlocks hw rfl ⟨⟨rfl, hR, hfr⟩, rfl⟩ d_M_writeObject_224
                · rw [if_pos c_29] at hE
                  refine lv_aload_n hx hb d_M_writeObject_183 rfl (lv_at hl 1 rfl) ?_
                  refine lv_aload_n hx hb d_M_writeObject_184 rfl (lv_at hl 1 rfl) ?_
                  refine pw_get (Cn := "GraphWriterModel") (T := F_M) (N := 31) hx hb hts in_M hown hK hw 30 0 rfl hc_8 rfl 9 (by decide) (hts _ wd_763) (fun _ h9 => h9) rfl d_M_writeObject_185 ?_
                  refine lv_iload_n hx hb d_M_writeObject_188 rfl (lv_at hl 0 rfl) ?_
                  obtain ⟨v_51, hv_51, hE⟩ := ob_some hE
                  obtain ⟨hi_v_51, hj_v_51, he_v_51⟩ := rd_some (by decide) hv_51
                  refine pw_iald hx hb hK hw 31 9 rfl 0 hc_25 rfl (y_2.1 : Int32).toNatClampNeg hi_v_51 (by omega) (by omega) d_M_writeObject_189 ?_
                  rw [← he_v_51]
                  obtain ⟨y_52, hy_52, hE⟩ := ob_some hE
                  refine pw_callv (va_runV (As := [.int v_51]) (rest := []) ⟨hx, hb, hml, hown, hts0⟩ (k_M_abort hR hy_52 _) (cwV 1 hts0 (wd_V wd_1030 wd_1027 wd_1029 wd_47 wd_56) rfl rfl rfl (by decide +kernel) ⟨Nat.le_of_ble_eq_true rfl, Nat.le_of_ble_eq_true rfl⟩) (pw_preV hZ hw hA hK hz rfl hc_8 rfl) rfl rfl hl.1 rfl (lv_room (Nat.le_of_ble_eq_true rfl)) d_M_writeObject_190 ⟨Nat.le_of_ble_eq_true rfl, Nat.le_of_ble_eq_true rfl⟩) hw hA (fun ad_53 C_54 H locs hp hw => ?_)
                  obtain ⟨hae, hR, hf1⟩ := hp
                  rw [hae] at hw
                  clear hae
                  have hfr : rm_fr C C_54 := fun x y h9 => (hf1 x y h9).trans (hfr x y h9)
                  clear hf1
                  refine lv_iconst (v := 0) hx hb d_M_writeObject_193 (by decide) ?_
                  obtain rfl := Option.some.inj hE
                  exact pw_zret hx hb hr hlocks hw rfl ⟨⟨rfl, hR, hfr⟩, rfl⟩ d_M_writeObject_194
              · rw [if_pos c_24] at hE
                refine lv_aload_n hx hb d_M_writeObject_161 rfl (lv_at hl 1 rfl) ?_
                refine lv_iload_n hx hb d_M_writeObject_162 rfl (lv_at hl 0 rfl) ?_
                obtain ⟨y_56, hy_56, hE⟩ := ob_some hE
                refine pw_callv (va_runV (As := [.int y_2.1]) (rest := []) ⟨hx, hb, hml, hown, hts0⟩ (k_M_writeConstant hR hy_56 _) (cwV 1 hts0 (wd_V wd_985 wd_982 wd_984 wd_40 wd_56) rfl rfl rfl (by decide +kernel) ⟨Nat.le_of_ble_eq_true rfl, Nat.le_of_ble_eq_true rfl⟩) (pw_preV hZ hw hA hK hz rfl hc_8 rfl) rfl rfl hl.1 rfl (lv_room (Nat.le_of_ble_eq_true rfl)) d_M_writeObject_163 ⟨Nat.le_of_ble_eq_true rfl, Nat.le_of_ble_eq_true rfl⟩) hw hA (fun ad_57 C_58 H locs hp hw => ?_)
                obtain ⟨hae, hR, hf1⟩ := hp
                rw [hae] at hw
                clear hae
                have hfr : rm_fr C C_58 := fun x y h9 => (hf1 x y h9).trans (hfr x y h9)
                clear hf1
                refine lv_goto (tgt := 223) hx hb d_M_writeObject_166 (by decide) ?_
                refine lv_iconst (v := 1) hx hb d_M_writeObject_223 (by decide) ?_
                obtain rfl := Option.some.inj hE
                exact pw_zret hx hb hr hlocks hw rfl ⟨⟨rfl, hR, hfr⟩, rfl⟩ d_M_writeObject_224
            · rw [if_pos c_22] at hE
              refine lv_aload_n hx hb d_M_writeObject_143 rfl (lv_at hl 1 rfl) ?_
              refine lv_iload_n hx hb d_M_writeObject_144 rfl (lv_at hl 0 rfl) ?_
              obtain ⟨y_60, hy_60, hE⟩ := ob_some hE
              refine pw_callv (va_runV (As := [.int y_2.1]) (rest := []) ⟨hx, hb, hml, hown, hts0⟩ (k_M_writeArray hR hy_60 _) (cwV 1 hts0 (wd_V wd_958 wd_955 wd_957 wd_36 wd_56) rfl rfl rfl (by decide +kernel) ⟨Nat.le_of_ble_eq_true rfl, Nat.le_of_ble_eq_true rfl⟩) (pw_preV hZ hw hA hK hz rfl hc_8 rfl) rfl rfl hl.1 rfl (lv_room (Nat.le_of_ble_eq_true rfl)) d_M_writeObject_145 ⟨Nat.le_of_ble_eq_true rfl, Nat.le_of_ble_eq_true rfl⟩) hw hA (fun ad_61 C_62 H locs hp hw => ?_)
              obtain ⟨hae, hR, hf1⟩ := hp
              rw [hae] at hw
              clear hae
              have hfr : rm_fr C C_62 := fun x y h9 => (hf1 x y h9).trans (hfr x y h9)
              clear hf1
              refine lv_goto (tgt := 223) hx hb d_M_writeObject_148 (by decide) ?_
              refine lv_iconst (v := 1) hx hb d_M_writeObject_223 (by decide) ?_
              obtain rfl := Option.some.inj hE
              exact pw_zret hx hb hr hlocks hw rfl ⟨⟨rfl, hR, hfr⟩, rfl⟩ d_M_writeObject_224
        · rw [if_pos c_14] at hE
          refine lv_aload_n hx hb d_M_writeObject_58 rfl (lv_at hl 1 rfl) ?_
          refine lv_ldc2 (v := 116) hx hb hown (hts _ wd_950) d_M_writeObject_59 ?_
          refine lv_iconst (v := 1) hx hb d_M_writeObject_62 (by decide) ?_
          obtain ⟨y_64, hy_64, hE⟩ := ob_some hE
          refine pw_callv (va_runV (As := [.long 116, .int 1]) (rest := []) ⟨hx, hb, hml, hown, hts0⟩ (k_M_append hR hy_64 _) (cwV 2 hts0 (wd_V wd_748 wd_745 wd_747 wd_20 wd_56) rfl rfl rfl (by decide +kernel) ⟨Nat.le_of_ble_eq_true rfl, Nat.le_of_ble_eq_true rfl⟩) (pw_preV hZ hw hA hK hz rfl hc_8 rfl) rfl rfl hl.1 rfl (lv_room (Nat.le_of_ble_eq_true rfl)) d_M_writeObject_63 ⟨Nat.le_of_ble_eq_true rfl, Nat.le_of_ble_eq_true rfl⟩) hw hA (fun ad_65 C_66 H locs hp hw => ?_)
          obtain ⟨hae, hR, hf1⟩ := hp
          rw [hae] at hw
          clear hae
          have hfr : rm_fr C C_66 := fun x y h9 => (hf1 x y h9).trans (hfr x y h9)
          clear hf1
          refine lv_aload_n hx hb d_M_writeObject_66 rfl (lv_at hl 1 rfl) ?_
          refine lv_iload_n hx hb d_M_writeObject_67 rfl (lv_at hl 0 rfl) ?_
          obtain ⟨y_68, hy_68, hE⟩ := ob_some hE
          have hc_69 : C_66 30 0 = some (.inr (4, [.ref (ad 31 0), .ref (ad 31 1), .ref (ad 31 2), .ref (ad 31 3), .ref (ad 31 4), .ref (ad 31 5), .ref (ad 31 6), .ref (ad 31 7), .ref (ad 31 8), .ref (ad 31 9), .ref (ad 31 10), .ref (ad 31 11), .ref (ad 31 12), .ref (ad 31 13), .ref (ad 31 14), .int y_64.objects, .ref (ad 31 15), .int y_64.length, .ref (ad 31 16), .int y_64.waits, .ref (ad 31 17), .int y_64.given, .ref (ad 31 18), .ref (ad 31 19), .ref (ad 31 20), .int y_64.left, .ref (ad 31 21), .ref (ad 31 22), .int y_64.oldLength, .int y_64.oldWaits, .int y_64.oldGiven])) := by have h9 := rm_at.o hR; exact h9
          refine pw_callv (va_runV (As := [.int y_2.1]) (rest := []) ⟨hx, hb, hml, hown, hts0⟩ (k_M_give hR hy_68 _) (cwV 1 hts0 (wd_V wd_954 wd_951 wd_953 wd_35 wd_56) rfl rfl rfl (by decide +kernel) ⟨Nat.le_of_ble_eq_true rfl, Nat.le_of_ble_eq_true rfl⟩) (pw_preV hZ hw hA hK hz rfl hc_69 rfl) rfl rfl hl.1 rfl (lv_room (Nat.le_of_ble_eq_true rfl)) d_M_writeObject_68 ⟨Nat.le_of_ble_eq_true rfl, Nat.le_of_ble_eq_true rfl⟩) hw hA (fun ad_70 C_71 H locs hp hw => ?_)
          obtain ⟨hae, hR, hf1⟩ := hp
          rw [hae] at hw
          clear hae
          have hfr : rm_fr C C_71 := fun x y h9 => (hf1 x y h9).trans (hfr x y h9)
          clear hf1
          refine lv_aload_n hx hb d_M_writeObject_71 rfl (lv_at hl 1 rfl) ?_
          refine lv_aload_n hx hb d_M_writeObject_72 rfl (lv_at hl 1 rfl) ?_
          have hc_73 : C_71 30 0 = some (.inr (4, [.ref (ad 31 0), .ref (ad 31 1), .ref (ad 31 2), .ref (ad 31 3), .ref (ad 31 4), .ref (ad 31 5), .ref (ad 31 6), .ref (ad 31 7), .ref (ad 31 8), .ref (ad 31 9), .ref (ad 31 10), .ref (ad 31 11), .ref (ad 31 12), .ref (ad 31 13), .ref (ad 31 14), .int y_68.objects, .ref (ad 31 15), .int y_68.length, .ref (ad 31 16), .int y_68.waits, .ref (ad 31 17), .int y_68.given, .ref (ad 31 18), .ref (ad 31 19), .ref (ad 31 20), .int y_68.left, .ref (ad 31 21), .ref (ad 31 22), .int y_68.oldLength, .int y_68.oldWaits, .int y_68.oldGiven])) := by have h9 := rm_at.o hR; exact h9
          refine pw_get (Cn := "GraphWriterModel") (T := F_M) (N := 31) hx hb hts in_M hown hK hw 30 0 rfl hc_73 rfl 11 (by decide) (hts _ wd_765) (fun _ h9 => h9) rfl d_M_writeObject_73 ?_
          refine lv_iload_n hx hb d_M_writeObject_76 rfl (lv_at hl 0 rfl) ?_
          have hc_74 : C_71 31 11 = some (.inl (ca 0, 20, .inl y_68.size)) := by have h9 := rm_at.a11 hR; exact h9
          obtain ⟨v_75, hv_75, hE⟩ := ob_some hE
          obtain ⟨hi_v_75, hj_v_75, he_v_75⟩ := rd_some (by decide) hv_75
          refine pw_iald hx hb hK hw 31 11 rfl 0 hc_74 rfl (y_2.1 : Int32).toNatClampNeg hi_v_75 (by omega) (by omega) d_M_writeObject_77 ?_
          rw [← he_v_75]
          refine lv_i2l hx hb d_M_writeObject_78 rfl ?_
          refine lv_iconst (v := 2) hx hb d_M_writeObject_79 (by decide) ?_
          obtain ⟨y_76, hy_76, hE⟩ := ob_some hE
          refine pw_callv (va_runV (As := [.long v_75.toInt64, .int 2]) (rest := []) ⟨hx, hb, hml, hown, hts0⟩ (k_M_append hR hy_76 _) (cwV 2 hts0 (wd_V wd_748 wd_745 wd_747 wd_20 wd_56) rfl rfl rfl (by decide +kernel) ⟨Nat.le_of_ble_eq_true rfl, Nat.le_of_ble_eq_true rfl⟩) (pw_preV hZ hw hA hK hz rfl hc_73 rfl) rfl rfl hl.1 rfl (lv_room (Nat.le_of_ble_eq_true rfl)) d_M_writeObject_80 ⟨Nat.le_of_ble_eq_true rfl, Nat.le_of_ble_eq_true rfl⟩) hw hA (fun ad_77 C_78 H locs hp hw => ?_)
          obtain ⟨hae, hR, hf1⟩ := hp
          rw [hae] at hw
          clear hae
          have hfr : rm_fr C C_78 := fun x y h9 => (hf1 x y h9).trans (hfr x y h9)
          clear hf1
          refine lv_iconst (v := 0) hx hb d_M_writeObject_83 (by decide) ?_
          refine lv_istore (lv' := [(4, .int 0), (3, .int y_2.1), (0, .ref (ad 30 0)), (1, .int l1), (2, .int l2)]) hx hb d_M_writeObject_84 hl (by decide) rfl (fun ls hl => ?_)
          have lp_80 : ∀ (K : Int32 → Int32 → Int32 → Int32 → RS → Option (Int32 × RS)), (∀ (x4_80 : Int32) (x3_80 : Int32) (x1_80 : Int32) (x2_80 : Int32) (r : RS) (C1 : pw_C) (H : Heap) (locs : List Loc) (ls : Array Slot), K x4_80 x3_80 x1_80 x2_80 r = some res → rm_at ca ad C1 r → rm_fr C C1 → pw_H D cls9 A s.heap ad C ad C1 H locs → lv_has ls 5 [(4, .int x4_80), (3, .int x3_80), (0, .ref (ad 30 0)), (1, .int x1_80), (2, .int x2_80)] → W p l e ({ frames := 5, cells := 0, slots := 0, locals := 114 }) s m args below meth c H locs 0 0 (MQ below (pw_Q D cls9 ad C (pw_pi (fun v ad' C' => (ad' = ad ∧ rm_at ca ad C' res.2 ∧ rm_fr C C') ∧ v = res.1)) A) args s 0 0 A) (F0 m 120 ls [])) → ∀ (n : Nat) (x4_80 : Int32) (x3_80 : Int32) (x1_80 : Int32) (x2_80 : Int32) (r : RS) (C1 : pw_C) (H : Heap) (locs : List Loc) (ls : Array Slot), m_writeObject_86 K n x4_80 x3_80 x1_80 x2_80 r = some res → rm_at ca ad C1 r → rm_fr C C1 → pw_H D cls9 A s.heap ad C ad C1 H locs → lv_has ls 5 [(4, .int x4_80), (3, .int x3_80), (0, .ref (ad 30 0)), (1, .int x1_80), (2, .int x2_80)] → W p l e ({ frames := 5, cells := 0, slots := 0, locals := 114 }) s m args below meth c H locs 0 0 (MQ below (pw_Q D cls9 ad C (pw_pi (fun v ad' C' => (ad' = ad ∧ rm_at ca ad C' res.2 ∧ rm_fr C C') ∧ v = res.1)) A) args s 0 0 A) (F0 m 86 ls []) := by
            intro K hKK n
            induction n with
            | zero => intro x4_80 x3_80 x1_80 x2_80 r C1 H locs ls hE; rw [m_writeObject_86] at hE; exact absurd hE (by simp)
            | succ n ih =>
              intro x4_80 x3_80 x1_80 x2_80 r C1 H locs ls hE hR hfr hw hl
              rw [m_writeObject_86] at hE
              refine lv_iload hx hb d_M_writeObject_86 (lv_at hl 0 rfl) ?_
              refine lv_aload_n hx hb d_M_writeObject_88 rfl (lv_at hl 2 rfl) ?_
              have hc_81 : C1 30 0 = some (.inr (4, [.ref (ad 31 0), .ref (ad 31 1), .ref (ad 31 2), .ref (ad 31 3), .ref (ad 31 4), .ref (ad 31 5), .ref (ad 31 6), .ref (ad 31 7), .ref (ad 31 8), .ref (ad 31 9), .ref (ad 31 10), .ref (ad 31 11), .ref (ad 31 12), .ref (ad 31 13), .ref (ad 31 14), .int r.objects, .ref (ad 31 15), .int r.length, .ref (ad 31 16), .int r.waits, .ref (ad 31 17), .int r.given, .ref (ad 31 18), .ref (ad 31 19), .ref (ad 31 20), .int r.left, .ref (ad 31 21), .ref (ad 31 22), .int r.oldLength, .int r.oldWaits, .int r.oldGiven])) := by have h9 := rm_at.o hR; exact h9
              refine pw_get (Cn := "GraphWriterModel") (T := F_M) (N := 31) hx hb hts in_M hown hK hw 30 0 rfl hc_81 rfl 11 (by decide) (hts _ wd_765) (fun _ h9 => h9) rfl d_M_writeObject_89 ?_
              refine lv_iload_n hx hb d_M_writeObject_92 rfl (lv_at hl 1 rfl) ?_
              have hc_82 : C1 31 11 = some (.inl (ca 0, 20, .inl r.size)) := by have h9 := rm_at.a11 hR; exact h9
              obtain ⟨v_83, hv_83, hE⟩ := ob_some hE
              obtain ⟨hi_v_83, hj_v_83, he_v_83⟩ := rd_some (by decide) hv_83
              refine pw_iald hx hb hK hw 31 11 rfl 0 hc_82 rfl (x3_80 : Int32).toNatClampNeg hi_v_83 (by omega) (by omega) d_M_writeObject_93 ?_
              rw [← he_v_83]
              refine lv_icmp_ge (tgt := 120) hx hb d_M_writeObject_94 (by decide) (fun c_84 => ?_) (fun c_84 => ?_)
              · rw [if_pos c_84] at hE
                exact hKK _ _ _ _ _ _ _ _ _ hE hR hfr hw (lv_sub hl [0, 1, 2, 3, 4] rfl)
              · rw [if_neg c_84] at hE
                refine lv_aload_n hx hb d_M_writeObject_97 rfl (lv_at hl 2 rfl) ?_
                refine lv_aload_n hx hb d_M_writeObject_98 rfl (lv_at hl 2 rfl) ?_
                refine pw_get (Cn := "GraphWriterModel") (T := F_M) (N := 31) hx hb hts in_M hown hK hw 30 0 rfl hc_81 rfl 12 (by decide) (hts _ wd_766) (fun _ h9 => h9) rfl d_M_writeObject_99 ?_
                refine lv_bipush (v := 24) hx hb d_M_writeObject_102 (by decide) ?_
                refine lv_iload_n hx hb d_M_writeObject_104 rfl (lv_at hl 1 rfl) ?_
                refine lv_imul hx hb d_M_writeObject_105 ?_
                refine lv_iload hx hb d_M_writeObject_106 (lv_at hl 0 rfl) ?_
                refine lv_iadd hx hb d_M_writeObject_108 ?_
                have hc_85 : C1 31 12 = some (.inl (ca 1, 480, .inr (.inl r.value))) := by have h9 := rm_at.a12 hR; exact h9
                obtain ⟨v_86, hv_86, hE⟩ := ob_some hE
                obtain ⟨hi_v_86, hj_v_86, he_v_86⟩ := rd_some (by decide) hv_86
                refine pw_lald hx hb hK hw 31 12 rfl 1 hc_85 rfl ((24 * x3_80) + x4_80 : Int32).toNatClampNeg hi_v_86 (by omega) (by omega) d_M_writeObject_109 ?_
                rw [← he_v_86]
                refine lv_iconst (v := 1) hx hb d_M_writeObject_110 (by decide) ?_
                obtain ⟨y_87, hy_87, hE⟩ := ob_some hE
                refine pw_callv (va_runV (As := [.long v_86, .int 1]) (rest := []) ⟨hx, hb, hml, hown, hts0⟩ (k_M_append hR hy_87 _) (cwV 2 hts0 (wd_V wd_748 wd_745 wd_747 wd_20 wd_56) rfl rfl rfl (by decide +kernel) ⟨Nat.le_of_ble_eq_true rfl, Nat.le_of_ble_eq_true rfl⟩) (pw_preV hZ hw hA hK hz rfl hc_81 rfl) rfl rfl hl.1 rfl (lv_room (Nat.le_of_ble_eq_true rfl)) d_M_writeObject_111 ⟨Nat.le_of_ble_eq_true rfl, Nat.le_of_ble_eq_true rfl⟩) hw hA (fun ad_88 C_89 H locs hp hw => ?_)
                obtain ⟨hae, hR, hf1⟩ := hp
                rw [hae] at hw
                clear hae
                have hfr : rm_fr C C_89 := fun x y h9 => (hf1 x y h9).trans (hfr x y h9)
                clear hf1
                refine lv_iinc (v := x4_80 + 1) (lv' := [(4, .int (x4_80 + 1)), (3, .int x3_80), (0, .ref (ad 30 0)), (1, .int x1_80), (2, .int x2_80)]) hx hb d_M_writeObject_114 hl (k := 0) rfl rfl (by decide) rfl (fun ls hl => ?_)
                refine lv_goto (tgt := 86) hx hb d_M_writeObject_117 (by decide) ?_
                exact ih _ _ _ _ _ _ _ _ _ hE hR hfr hw (lv_sub hl [0, 1, 2, 3, 4] rfl)
          refine lp_80 _ (fun z4_80 z3_80 z1_80 z2_80 r_91 C_92 H locs ls hE hR hfr hw hl => ?_) 60 _ _ _ _ _ _ _ _ _ hE hR hfr hw hl
          try dsimp only at hE
          refine lv_goto (tgt := 223) hx hb d_M_writeObject_120 (by decide) ?_
          refine lv_iconst (v := 1) hx hb d_M_writeObject_223 (by decide) ?_
          obtain rfl := Option.some.inj hE
          exact pw_zret hx hb hr hlocks hw rfl ⟨⟨rfl, hR, hfr⟩, rfl⟩ d_M_writeObject_224
      · rw [if_neg c_11] at hE
        refine lv_iload_n hx hb d_M_writeObject_37 rfl (lv_at hl 3 rfl) ?_
        refine lv_if_ne (tgt := 48) hx hb d_M_writeObject_38 (by decide) (fun c_93 => ?_) (fun c_93 => ?_)
        · rw [if_neg c_93] at hE
          refine lv_aload_n hx hb d_M_writeObject_48 rfl (lv_at hl 1 rfl) ?_
          refine pw_get (Cn := "GraphWriterModel") (T := F_M) (N := 31) hx hb hts in_M hown hK hw 30 0 rfl hc_8 rfl 8 (by decide) (hts _ wd_762) (fun _ h9 => h9) rfl d_M_writeObject_49 ?_
          refine lv_iload_n hx hb d_M_writeObject_52 rfl (lv_at hl 0 rfl) ?_
          have hc_94 : C_5 31 8 = some (.inl (ca 0, 20, .inl y_2.2.sort)) := by have h9 := rm_at.a8 hR; exact h9
          obtain ⟨v_95, hv_95, hE⟩ := ob_some hE
          obtain ⟨hi_v_95, hj_v_95, he_v_95⟩ := rd_some (by decide) hv_95
          refine pw_iald hx hb hK hw 31 8 rfl 0 hc_94 rfl (y_2.1 : Int32).toNatClampNeg hi_v_95 (by omega) (by omega) d_M_writeObject_53 ?_
          rw [← he_v_95]
          refine lv_iconst (v := 1) hx hb d_M_writeObject_54 (by decide) ?_
          refine lv_icmp_ne (tgt := 123) hx hb d_M_writeObject_55 (by decide) (fun c_96 => ?_) (fun c_96 => ?_)
          · rw [if_neg c_96] at hE
            refine lv_aload_n hx hb d_M_writeObject_123 rfl (lv_at hl 1 rfl) ?_
            refine pw_get (Cn := "GraphWriterModel") (T := F_M) (N := 31) hx hb hts in_M hown hK hw 30 0 rfl hc_8 rfl 8 (by decide) (hts _ wd_762) (fun _ h9 => h9) rfl d_M_writeObject_124 ?_
            refine lv_iload_n hx hb d_M_writeObject_127 rfl (lv_at hl 0 rfl) ?_
            obtain ⟨v_97, hv_97, hE⟩ := ob_some hE
            obtain ⟨hi_v_97, hj_v_97, he_v_97⟩ := rd_some (by decide) hv_97
            refine pw_iald hx hb hK hw 31 8 rfl 0 hc_94 rfl (y_2.1 : Int32).toNatClampNeg hi_v_97 (by omega) (by omega) d_M_writeObject_128 ?_
            rw [← he_v_97]
            refine lv_iconst (v := 2) hx hb d_M_writeObject_129 (by decide) ?_
            refine lv_icmp_eq (tgt := 143) hx hb d_M_writeObject_130 (by decide) (fun c_98 => ?_) (fun c_98 => ?_)
            · rw [if_pos c_98] at hE
              refine lv_aload_n hx hb d_M_writeObject_143 rfl (lv_at hl 1 rfl) ?_
              refine lv_iload_n hx hb d_M_writeObject_144 rfl (lv_at hl 0 rfl) ?_
              obtain ⟨y_99, hy_99, hE⟩ := ob_some hE
              refine pw_callv (va_runV (As := [.int y_2.1]) (rest := []) ⟨hx, hb, hml, hown, hts0⟩ (k_M_writeArray hR hy_99 _) (cwV 1 hts0 (wd_V wd_958 wd_955 wd_957 wd_36 wd_56) rfl rfl rfl (by decide +kernel) ⟨Nat.le_of_ble_eq_true rfl, Nat.le_of_ble_eq_true rfl⟩) (pw_preV hZ hw hA hK hz rfl hc_8 rfl) rfl rfl hl.1 rfl (lv_room (Nat.le_of_ble_eq_true rfl)) d_M_writeObject_145 ⟨Nat.le_of_ble_eq_true rfl, Nat.le_of_ble_eq_true rfl⟩) hw hA (fun ad_100 C_101 H locs hp hw => ?_)
              obtain ⟨hae, hR, hf1⟩ := hp
              rw [hae] at hw
              clear hae
              have hfr : rm_fr C C_101 := fun x y h9 => (hf1 x y h9).trans (hfr x y h9)
              clear hf1
              refine lv_goto (tgt := 223) hx hb d_M_writeObject_148 (by decide) ?_
              refine lv_iconst (v := 1) hx hb d_M_writeObject_223 (by decide) ?_
              obtain rfl := Option.some.inj hE
              exact pw_zret hx hb hr hlocks hw rfl ⟨⟨rfl, hR, hfr⟩, rfl⟩ d_M_writeObject_224
            · rw [if_neg c_98] at hE
              refine lv_aload_n hx hb d_M_writeObject_133 rfl (lv_at hl 1 rfl) ?_
              refine pw_get (Cn := "GraphWriterModel") (T := F_M) (N := 31) hx hb hts in_M hown hK hw 30 0 rfl hc_8 rfl 8 (by decide) (hts _ wd_762) (fun _ h9 => h9) rfl d_M_writeObject_134 ?_
              refine lv_iload_n hx hb d_M_writeObject_137 rfl (lv_at hl 0 rfl) ?_
              obtain ⟨v_103, hv_103, hE⟩ := ob_some hE
              obtain ⟨hi_v_103, hj_v_103, he_v_103⟩ := rd_some (by decide) hv_103
              refine pw_iald hx hb hK hw 31 8 rfl 0 hc_94 rfl (y_2.1 : Int32).toNatClampNeg hi_v_103 (by omega) (by omega) d_M_writeObject_138 ?_
              rw [← he_v_103]
              refine lv_iconst (v := 3) hx hb d_M_writeObject_139 (by decide) ?_
              refine lv_icmp_ne (tgt := 151) hx hb d_M_writeObject_140 (by decide) (fun c_104 => ?_) (fun c_104 => ?_)
              · rw [if_neg c_104] at hE
                refine lv_aload_n hx hb d_M_writeObject_151 rfl (lv_at hl 1 rfl) ?_
                refine pw_get (Cn := "GraphWriterModel") (T := F_M) (N := 31) hx hb hts in_M hown hK hw 30 0 rfl hc_8 rfl 8 (by decide) (hts _ wd_762) (fun _ h9 => h9) rfl d_M_writeObject_152 ?_
                refine lv_iload_n hx hb d_M_writeObject_155 rfl (lv_at hl 0 rfl) ?_
                obtain ⟨v_105, hv_105, hE⟩ := ob_some hE
                obtain ⟨hi_v_105, hj_v_105, he_v_105⟩ := rd_some (by decide) hv_105
                refine pw_iald hx hb hK hw 31 8 rfl 0 hc_94 rfl (y_2.1 : Int32).toNatClampNeg hi_v_105 (by omega) (by omega) d_M_writeObject_156 ?_
                rw [← he_v_105]
                refine lv_iconst (v := 4) hx hb d_M_writeObject_157 (by decide) ?_
                refine lv_icmp_ne (tgt := 169) hx hb d_M_writeObject_158 (by decide) (fun c_106 => ?_) (fun c_106 => ?_)
                · rw [if_neg c_106] at hE
                  refine lv_aload_n hx hb d_M_writeObject_169 rfl (lv_at hl 1 rfl) ?_
                  refine pw_get (Cn := "GraphWriterModel") (T := F_M) (N := 31) hx hb hts in_M hown hK hw 30 0 rfl hc_8 rfl 1 (by decide) (hts _ wd_755) (fun _ h9 => h9) rfl d_M_writeObject_170 ?_
                  refine lv_aload_n hx hb d_M_writeObject_173 rfl (lv_at hl 1 rfl) ?_
                  refine pw_get (Cn := "GraphWriterModel") (T := F_M) (N := 31) hx hb hts in_M hown hK hw 30 0 rfl hc_8 rfl 9 (by decide) (hts _ wd_763) (fun _ h9 => h9) rfl d_M_writeObject_174 ?_
                  refine lv_iload_n hx hb d_M_writeObject_177 rfl (lv_at hl 0 rfl) ?_
                  have hc_107 : C_5 31 9 = some (.inl (ca 0, 20, .inl y_2.2.classOf)) := by have h9 := rm_at.a9 hR; exact h9
                  obtain ⟨v_108, hv_108, hE⟩ := ob_some hE
                  obtain ⟨hi_v_108, hj_v_108, he_v_108⟩ := rd_some (by decide) hv_108
                  refine pw_iald hx hb hK hw 31 9 rfl 0 hc_107 rfl (y_2.1 : Int32).toNatClampNeg hi_v_108 (by omega) (by omega) d_M_writeObject_178 ?_
                  rw [← he_v_108]
                  have hc_109 : C_5 31 1 = some (.inl (ca 0, 6, .inl y_2.2.kind)) := by have h9 := rm_at.a1 hR; exact h9
                  obtain ⟨v_110, hv_110, hE⟩ := ob_some hE
                  obtain ⟨hi_v_110, hj_v_110, he_v_110⟩ := rd_some (by decide) hv_110
                  refine pw_iald hx hb hK hw 31 1 rfl 0 hc_109 rfl (v_108 : Int32).toNatClampNeg hi_v_110 (by omega) (by omega) d_M_writeObject_179 ?_
                  rw [← he_v_110]
                  refine lv_if_ne (tgt := 195) hx hb d_M_writeObject_180 (by decide) (fun c_111 => ?_) (fun c_111 => ?_)
                  · rw [if_neg c_111] at hE
                    refine lv_aload_n hx hb d_M_writeObject_195 rfl (lv_at hl 1 rfl) ?_
                    refine lv_ldc2 (v := 115) hx hb hown (hts _ wd_1033) d_M_writeObject_196 ?_
                    refine lv_iconst (v := 1) hx hb d_M_writeObject_199 (by decide) ?_
                    obtain ⟨y_112, hy_112, hE⟩ := ob_some hE
                    refine pw_callv (va_runV (As := [.long 115, .int 1]) (rest := []) ⟨hx, hb, hml, hown, hts0⟩ (k_M_append hR hy_112 _) (cwV 2 hts0 (wd_V wd_748 wd_745 wd_747 wd_20 wd_56) rfl rfl rfl (by decide +kernel) ⟨Nat.le_of_ble_eq_true rfl, Nat.le_of_ble_eq_true rfl⟩) (pw_preV hZ hw hA hK hz rfl hc_8 rfl) rfl rfl hl.1 rfl (lv_room (Nat.le_of_ble_eq_true rfl)) d_M_writeObject_200 ⟨Nat.le_of_ble_eq_true rfl, Nat.le_of_ble_eq_true rfl⟩) hw hA (fun ad_113 C_114 H locs hp hw => ?_)
                    obtain ⟨hae, hR, hf1⟩ := hp
                    rw [hae] at hw
                    clear hae
                    have hfr : rm_fr C C_114 := fun x y h9 => (hf1 x y h9).trans (hfr x y h9)
                    clear hf1
                    refine lv_aload_n hx hb d_M_writeObject_203 rfl (lv_at hl 1 rfl) ?_
                    refine lv_aload_n hx hb d_M_writeObject_204 rfl (lv_at hl 1 rfl) ?_
                    have hc_116 : C_114 30 0 = some (.inr (4, [.ref (ad 31 0), .ref (ad 31 1), .ref (ad 31 2), .ref (ad 31 3), .ref (ad 31 4), .ref (ad 31 5), .ref (ad 31 6), .ref (ad 31 7), .ref (ad 31 8), .ref (ad 31 9), .ref (ad 31 10), .ref (ad 31 11), .ref (ad 31 12), .ref (ad 31 13), .ref (ad 31 14), .int y_112.objects, .ref (ad 31 15), .int y_112.length, .ref (ad 31 16), .int y_112.waits, .ref (ad 31 17), .int y_112.given, .ref (ad 31 18), .ref (ad 31 19), .ref (ad 31 20), .int y_112.left, .ref (ad 31 21), .ref (ad 31 22), .int y_112.oldLength, .int y_112.oldWaits, .int y_112.oldGiven])) := by have h9 := rm_at.o hR; exact h9
                    refine pw_get (Cn := "GraphWriterModel") (T := F_M) (N := 31) hx hb hts in_M hown hK hw 30 0 rfl hc_116 rfl 9 (by decide) (hts _ wd_763) (fun _ h9 => h9) rfl d_M_writeObject_205 ?_
                    refine lv_iload_n hx hb d_M_writeObject_208 rfl (lv_at hl 0 rfl) ?_
                    have hc_117 : C_114 31 9 = some (.inl (ca 0, 20, .inl y_112.classOf)) := by have h9 := rm_at.a9 hR; exact h9
                    obtain ⟨v_118, hv_118, hE⟩ := ob_some hE
                    obtain ⟨hi_v_118, hj_v_118, he_v_118⟩ := rd_some (by decide) hv_118
                    refine pw_iald hx hb hK hw 31 9 rfl 0 hc_117 rfl (y_2.1 : Int32).toNatClampNeg hi_v_118 (by omega) (by omega) d_M_writeObject_209 ?_
                    rw [← he_v_118]
                    obtain ⟨y_119, hy_119, hE⟩ := ob_some hE
                    refine pw_callv (va_runV (As := [.int v_118]) (rest := []) ⟨hx, hb, hml, hown, hts0⟩ (k_M_descriptor hR hy_119 _) (cwV 1 hts0 (wd_V wd_990 wd_987 wd_989 wd_41 wd_56) rfl rfl rfl (by decide +kernel) ⟨Nat.le_of_ble_eq_true rfl, Nat.le_of_ble_eq_true rfl⟩) (pw_preV hZ hw hA hK hz rfl hc_116 rfl) rfl rfl hl.1 rfl (lv_room (Nat.le_of_ble_eq_true rfl)) d_M_writeObject_210 ⟨Nat.le_of_ble_eq_true rfl, Nat.le_of_ble_eq_true rfl⟩) hw hA (fun ad_120 C_121 H locs hp hw => ?_)
                    obtain ⟨hae, hR, hf1⟩ := hp
                    rw [hae] at hw
                    clear hae
                    have hfr : rm_fr C C_121 := fun x y h9 => (hf1 x y h9).trans (hfr x y h9)
                    clear hf1
                    refine lv_aload_n hx hb d_M_writeObject_213 rfl (lv_at hl 1 rfl) ?_
                    refine lv_iload_n hx hb d_M_writeObject_214 rfl (lv_at hl 0 rfl) ?_
                    obtain ⟨y_123, hy_123, hE⟩ := ob_some hE
                    have hc_124 : C_121 30 0 = some (.inr (4, [.ref (ad 31 0), .ref (ad 31 1), .ref (ad 31 2), .ref (ad 31 3), .ref (ad 31 4), .ref (ad 31 5), .ref (ad 31 6), .ref (ad 31 7), .ref (ad 31 8), .ref (ad 31 9), .ref (ad 31 10), .ref (ad 31 11), .ref (ad 31 12), .ref (ad 31 13), .ref (ad 31 14), .int y_119.objects, .ref (ad 31 15), .int y_119.length, .ref (ad 31 16), .int y_119.waits, .ref (ad 31 17), .int y_119.given, .ref (ad 31 18), .ref (ad 31 19), .ref (ad 31 20), .int y_119.left, .ref (ad 31 21), .ref (ad 31 22), .int y_119.oldLength, .int y_119.oldWaits, .int y_119.oldGiven])) := by have h9 := rm_at.o hR; exact h9
                    refine pw_callv (va_runV (As := [.int y_2.1]) (rest := []) ⟨hx, hb, hml, hown, hts0⟩ (k_M_give hR hy_123 _) (cwV 1 hts0 (wd_V wd_954 wd_951 wd_953 wd_35 wd_56) rfl rfl rfl (by decide +kernel) ⟨Nat.le_of_ble_eq_true rfl, Nat.le_of_ble_eq_true rfl⟩) (pw_preV hZ hw hA hK hz rfl hc_124 rfl) rfl rfl hl.1 rfl (lv_room (Nat.le_of_ble_eq_true rfl)) d_M_writeObject_215 ⟨Nat.le_of_ble_eq_true rfl, Nat.le_of_ble_eq_true rfl⟩) hw hA (fun ad_125 C_126 H locs hp hw => ?_)
                    obtain ⟨hae, hR, hf1⟩ := hp
                    rw [hae] at hw
                    clear hae
                    have hfr : rm_fr C C_126 := fun x y h9 => (hf1 x y h9).trans (hfr x y h9)
                    clear hf1
                    refine lv_aload_n hx hb d_M_writeObject_218 rfl (lv_at hl 1 rfl) ?_
                    refine lv_iload_n hx hb d_M_writeObject_219 rfl (lv_at hl 0 rfl) ?_
                    obtain ⟨y_128, hy_128, hE⟩ := ob_some hE
                    have hc_129 : C_126 30 0 = some (.inr (4, [.ref (ad 31 0), .ref (ad 31 1), .ref (ad 31 2), .ref (ad 31 3), .ref (ad 31 4), .ref (ad 31 5), .ref (ad 31 6), .ref (ad 31 7), .ref (ad 31 8), .ref (ad 31 9), .ref (ad 31 10), .ref (ad 31 11), .ref (ad 31 12), .ref (ad 31 13), .ref (ad 31 14), .int y_123.objects, .ref (ad 31 15), .int y_123.length, .ref (ad 31 16), .int y_123.waits, .ref (ad 31 17), .int y_123.given, .ref (ad 31 18), .ref (ad 31 19), .ref (ad 31 20), .int y_123.left, .ref (ad 31 21), .ref (ad 31 22), .int y_123.oldLength, .int y_123.oldWaits, .int y_123.oldGiven])) := by have h9 := rm_at.o hR; exact h9
                    refine pw_callv (va_runV (As := [.int y_2.1]) (rest := []) ⟨hx, hb, hml, hown, hts0⟩ (k_M_parts hR hy_128 _) (cwV 1 hts0 (wd_V wd_1037 wd_1034 wd_1036 wd_48 wd_56) rfl rfl rfl (by decide +kernel) ⟨Nat.le_of_ble_eq_true rfl, Nat.le_of_ble_eq_true rfl⟩) (pw_preV hZ hw hA hK hz rfl hc_129 rfl) rfl rfl hl.1 rfl (lv_room (Nat.le_of_ble_eq_true rfl)) d_M_writeObject_220 ⟨Nat.le_of_ble_eq_true rfl, Nat.le_of_ble_eq_true rfl⟩) hw hA (fun ad_130 C_131 H locs hp hw => ?_)
                    obtain ⟨hae, hR, hf1⟩ := hp
                    rw [hae] at hw
                    clear hae
                    have hfr : rm_fr C C_131 := fun x y h9 => (hf1 x y h9).trans (hfr x y h9)
                    clear hf1
                    refine lv_iconst (v := 1) hx hb d_M_writeObject_223 (by decide) ?_
                    obtain rfl := Option.some.inj hE
                    exact pw_zret hx hb hr hlocks hw rfl ⟨⟨rfl, hR, hfr⟩, rfl⟩ d_M_writeObject_224
                  · rw [if_pos c_111] at hE
                    refine lv_aload_n hx hb d_M_writeObject_183 rfl (lv_at hl 1 rfl) ?_
                    refine lv_aload_n hx hb d_M_writeObject_184 rfl (lv_at hl 1 rfl) ?_
                    refine pw_get (Cn := "GraphWriterModel") (T := F_M) (N := 31) hx hb hts in_M hown hK hw 30 0 rfl hc_8 rfl 9 (by decide) (hts _ wd_763) (fun _ h9 => h9) rfl d_M_writeObject_185 ?_
                    refine lv_iload_n hx hb d_M_writeObject_188 rfl (lv_at hl 0 rfl) ?_
                    obtain ⟨v_133, hv_133, hE⟩ := ob_some hE
                    obtain ⟨hi_v_133, hj_v_133, he_v_133⟩ := rd_some (by decide) hv_133
                    refine pw_iald hx hb hK hw 31 9 rfl 0 hc_107 rfl (y_2.1 : Int32).toNatClampNeg hi_v_133 (by omega) (by omega) d_M_writeObject_189 ?_
                    rw [← he_v_133]
                    obtain ⟨y_134, hy_134, hE⟩ := ob_some hE
                    refine pw_callv (va_runV (As := [.int v_133]) (rest := []) ⟨hx, hb, hml, hown, hts0⟩ (k_M_abort hR hy_134 _) (cwV 1 hts0 (wd_V wd_1030 wd_1027 wd_1029 wd_47 wd_56) rfl rfl rfl (by decide +kernel) ⟨Nat.le_of_ble_eq_true rfl, Nat.le_of_ble_eq_true rfl⟩) (pw_preV hZ hw hA hK hz rfl hc_8 rfl) rfl rfl hl.1 rfl (lv_room (Nat.le_of_ble_eq_true rfl)) d_M_writeObject_190 ⟨Nat.le_of_ble_eq_true rfl, Nat.le_of_ble_eq_true rfl⟩) hw hA (fun ad_135 C_136 H locs hp hw => ?_)
                    obtain ⟨hae, hR, hf1⟩ := hp
                    rw [hae] at hw
                    clear hae
                    have hfr : rm_fr C C_136 := fun x y h9 => (hf1 x y h9).trans (hfr x y h9)
                    clear hf1
                    refine lv_iconst (v := 0) hx hb d_M_writeObject_193 (by decide) ?_
                    obtain rfl := Option.some.inj hE
                    exact pw_zret hx hb hr hlocks hw rfl ⟨⟨rfl, hR, hfr⟩, rfl⟩ d_M_writeObject_194
                · rw [if_pos c_106] at hE
                  refine lv_aload_n hx hb d_M_writeObject_161 rfl (lv_at hl 1 rfl) ?_
                  refine lv_iload_n hx hb d_M_writeObject_162 rfl (lv_at hl 0 rfl) ?_
                  obtain ⟨y_138, hy_138, hE⟩ := ob_some hE
                  refine pw_callv (va_runV (As := [.int y_2.1]) (rest := []) ⟨hx, hb, hml, hown, hts0⟩ (k_M_writeConstant hR hy_138 _) (cwV 1 hts0 (wd_V wd_985 wd_982 wd_984 wd_40 wd_56) rfl rfl rfl (by decide +kernel) ⟨Nat.le_of_ble_eq_true rfl, Nat.le_of_ble_eq_true rfl⟩) (pw_preV hZ hw hA hK hz rfl hc_8 rfl) rfl rfl hl.1 rfl (lv_room (Nat.le_of_ble_eq_true rfl)) d_M_writeObject_163 ⟨Nat.le_of_ble_eq_true rfl, Nat.le_of_ble_eq_true rfl⟩) hw hA (fun ad_139 C_140 H locs hp hw => ?_)
                  obtain ⟨hae, hR, hf1⟩ := hp
                  rw [hae] at hw
                  clear hae
                  have hfr : rm_fr C C_140 := fun x y h9 => (hf1 x y h9).trans (hfr x y h9)
                  clear hf1
                  refine lv_goto (tgt := 223) hx hb d_M_writeObject_166 (by decide) ?_
                  refine lv_iconst (v := 1) hx hb d_M_writeObject_223 (by decide) ?_
                  obtain rfl := Option.some.inj hE
                  exact pw_zret hx hb hr hlocks hw rfl ⟨⟨rfl, hR, hfr⟩, rfl⟩ d_M_writeObject_224
              · rw [if_pos c_104] at hE
                refine lv_aload_n hx hb d_M_writeObject_143 rfl (lv_at hl 1 rfl) ?_
                refine lv_iload_n hx hb d_M_writeObject_144 rfl (lv_at hl 0 rfl) ?_
                obtain ⟨y_142, hy_142, hE⟩ := ob_some hE
                refine pw_callv (va_runV (As := [.int y_2.1]) (rest := []) ⟨hx, hb, hml, hown, hts0⟩ (k_M_writeArray hR hy_142 _) (cwV 1 hts0 (wd_V wd_958 wd_955 wd_957 wd_36 wd_56) rfl rfl rfl (by decide +kernel) ⟨Nat.le_of_ble_eq_true rfl, Nat.le_of_ble_eq_true rfl⟩) (pw_preV hZ hw hA hK hz rfl hc_8 rfl) rfl rfl hl.1 rfl (lv_room (Nat.le_of_ble_eq_true rfl)) d_M_writeObject_145 ⟨Nat.le_of_ble_eq_true rfl, Nat.le_of_ble_eq_true rfl⟩) hw hA (fun ad_143 C_144 H locs hp hw => ?_)
                obtain ⟨hae, hR, hf1⟩ := hp
                rw [hae] at hw
                clear hae
                have hfr : rm_fr C C_144 := fun x y h9 => (hf1 x y h9).trans (hfr x y h9)
                clear hf1
                refine lv_goto (tgt := 223) hx hb d_M_writeObject_148 (by decide) ?_
                refine lv_iconst (v := 1) hx hb d_M_writeObject_223 (by decide) ?_
                obtain rfl := Option.some.inj hE
                exact pw_zret hx hb hr hlocks hw rfl ⟨⟨rfl, hR, hfr⟩, rfl⟩ d_M_writeObject_224
          · rw [if_pos c_96] at hE
            refine lv_aload_n hx hb d_M_writeObject_58 rfl (lv_at hl 1 rfl) ?_
            refine lv_ldc2 (v := 116) hx hb hown (hts _ wd_950) d_M_writeObject_59 ?_
            refine lv_iconst (v := 1) hx hb d_M_writeObject_62 (by decide) ?_
            obtain ⟨y_146, hy_146, hE⟩ := ob_some hE
            refine pw_callv (va_runV (As := [.long 116, .int 1]) (rest := []) ⟨hx, hb, hml, hown, hts0⟩ (k_M_append hR hy_146 _) (cwV 2 hts0 (wd_V wd_748 wd_745 wd_747 wd_20 wd_56) rfl rfl rfl (by decide +kernel) ⟨Nat.le_of_ble_eq_true rfl, Nat.le_of_ble_eq_true rfl⟩) (pw_preV hZ hw hA hK hz rfl hc_8 rfl) rfl rfl hl.1 rfl (lv_room (Nat.le_of_ble_eq_true rfl)) d_M_writeObject_63 ⟨Nat.le_of_ble_eq_true rfl, Nat.le_of_ble_eq_true rfl⟩) hw hA (fun ad_147 C_148 H locs hp hw => ?_)
            obtain ⟨hae, hR, hf1⟩ := hp
            rw [hae] at hw
            clear hae
            have hfr : rm_fr C C_148 := fun x y h9 => (hf1 x y h9).trans (hfr x y h9)
            clear hf1
            refine lv_aload_n hx hb d_M_writeObject_66 rfl (lv_at hl 1 rfl) ?_
            refine lv_iload_n hx hb d_M_writeObject_67 rfl (lv_at hl 0 rfl) ?_
            obtain ⟨y_150, hy_150, hE⟩ := ob_some hE
            have hc_151 : C_148 30 0 = some (.inr (4, [.ref (ad 31 0), .ref (ad 31 1), .ref (ad 31 2), .ref (ad 31 3), .ref (ad 31 4), .ref (ad 31 5), .ref (ad 31 6), .ref (ad 31 7), .ref (ad 31 8), .ref (ad 31 9), .ref (ad 31 10), .ref (ad 31 11), .ref (ad 31 12), .ref (ad 31 13), .ref (ad 31 14), .int y_146.objects, .ref (ad 31 15), .int y_146.length, .ref (ad 31 16), .int y_146.waits, .ref (ad 31 17), .int y_146.given, .ref (ad 31 18), .ref (ad 31 19), .ref (ad 31 20), .int y_146.left, .ref (ad 31 21), .ref (ad 31 22), .int y_146.oldLength, .int y_146.oldWaits, .int y_146.oldGiven])) := by have h9 := rm_at.o hR; exact h9
            refine pw_callv (va_runV (As := [.int y_2.1]) (rest := []) ⟨hx, hb, hml, hown, hts0⟩ (k_M_give hR hy_150 _) (cwV 1 hts0 (wd_V wd_954 wd_951 wd_953 wd_35 wd_56) rfl rfl rfl (by decide +kernel) ⟨Nat.le_of_ble_eq_true rfl, Nat.le_of_ble_eq_true rfl⟩) (pw_preV hZ hw hA hK hz rfl hc_151 rfl) rfl rfl hl.1 rfl (lv_room (Nat.le_of_ble_eq_true rfl)) d_M_writeObject_68 ⟨Nat.le_of_ble_eq_true rfl, Nat.le_of_ble_eq_true rfl⟩) hw hA (fun ad_152 C_153 H locs hp hw => ?_)
            obtain ⟨hae, hR, hf1⟩ := hp
            rw [hae] at hw
            clear hae
            have hfr : rm_fr C C_153 := fun x y h9 => (hf1 x y h9).trans (hfr x y h9)
            clear hf1
            refine lv_aload_n hx hb d_M_writeObject_71 rfl (lv_at hl 1 rfl) ?_
            refine lv_aload_n hx hb d_M_writeObject_72 rfl (lv_at hl 1 rfl) ?_
            have hc_155 : C_153 30 0 = some (.inr (4, [.ref (ad 31 0), .ref (ad 31 1), .ref (ad 31 2), .ref (ad 31 3), .ref (ad 31 4), .ref (ad 31 5), .ref (ad 31 6), .ref (ad 31 7), .ref (ad 31 8), .ref (ad 31 9), .ref (ad 31 10), .ref (ad 31 11), .ref (ad 31 12), .ref (ad 31 13), .ref (ad 31 14), .int y_150.objects, .ref (ad 31 15), .int y_150.length, .ref (ad 31 16), .int y_150.waits, .ref (ad 31 17), .int y_150.given, .ref (ad 31 18), .ref (ad 31 19), .ref (ad 31 20), .int y_150.left, .ref (ad 31 21), .ref (ad 31 22), .int y_150.oldLength, .int y_150.oldWaits, .int y_150.oldGiven])) := by have h9 := rm_at.o hR; exact h9
            refine pw_get (Cn := "GraphWriterModel") (T := F_M) (N := 31) hx hb hts in_M hown hK hw 30 0 rfl hc_155 rfl 11 (by decide) (hts _ wd_765) (fun _ h9 => h9) rfl d_M_writeObject_73 ?_
            refine lv_iload_n hx hb d_M_writeObject_76 rfl (lv_at hl 0 rfl) ?_
            have hc_156 : C_153 31 11 = some (.inl (ca 0, 20, .inl y_150.size)) := by have h9 := rm_at.a11 hR; exact h9
            obtain ⟨v_157, hv_157, hE⟩ := ob_some hE
            obtain ⟨hi_v_157, hj_v_157, he_v_157⟩ := rd_some (by decide) hv_157
            refine pw_iald hx hb hK hw 31 11 rfl 0 hc_156 rfl (y_2.1 : Int32).toNatClampNeg hi_v_157 (by omega) (by omega) d_M_writeObject_77 ?_
            rw [← he_v_157]
            refine lv_i2l hx hb d_M_writeObject_78 rfl ?_
            refine lv_iconst (v := 2) hx hb d_M_writeObject_79 (by decide) ?_
            obtain ⟨y_158, hy_158, hE⟩ := ob_some hE
            refine pw_callv (va_runV (As := [.long v_157.toInt64, .int 2]) (rest := []) ⟨hx, hb, hml, hown, hts0⟩ (k_M_append hR hy_158 _) (cwV 2 hts0 (wd_V wd_748 wd_745 wd_747 wd_20 wd_56) rfl rfl rfl (by decide +kernel) ⟨Nat.le_of_ble_eq_true rfl, Nat.le_of_ble_eq_true rfl⟩) (pw_preV hZ hw hA hK hz rfl hc_155 rfl) rfl rfl hl.1 rfl (lv_room (Nat.le_of_ble_eq_true rfl)) d_M_writeObject_80 ⟨Nat.le_of_ble_eq_true rfl, Nat.le_of_ble_eq_true rfl⟩) hw hA (fun ad_159 C_160 H locs hp hw => ?_)
            obtain ⟨hae, hR, hf1⟩ := hp
            rw [hae] at hw
            clear hae
            have hfr : rm_fr C C_160 := fun x y h9 => (hf1 x y h9).trans (hfr x y h9)
            clear hf1
            refine lv_iconst (v := 0) hx hb d_M_writeObject_83 (by decide) ?_
            refine lv_istore (lv' := [(4, .int 0), (3, .int y_2.1), (0, .ref (ad 30 0)), (1, .int l1), (2, .int l2)]) hx hb d_M_writeObject_84 hl (by decide) rfl (fun ls hl => ?_)
            have lp_162 : ∀ (K : Int32 → Int32 → Int32 → Int32 → RS → Option (Int32 × RS)), (∀ (x4_162 : Int32) (x3_162 : Int32) (x1_162 : Int32) (x2_162 : Int32) (r : RS) (C1 : pw_C) (H : Heap) (locs : List Loc) (ls : Array Slot), K x4_162 x3_162 x1_162 x2_162 r = some res → rm_at ca ad C1 r → rm_fr C C1 → pw_H D cls9 A s.heap ad C ad C1 H locs → lv_has ls 5 [(4, .int x4_162), (3, .int x3_162), (0, .ref (ad 30 0)), (1, .int x1_162), (2, .int x2_162)] → W p l e ({ frames := 5, cells := 0, slots := 0, locals := 114 }) s m args below meth c H locs 0 0 (MQ below (pw_Q D cls9 ad C (pw_pi (fun v ad' C' => (ad' = ad ∧ rm_at ca ad C' res.2 ∧ rm_fr C C') ∧ v = res.1)) A) args s 0 0 A) (F0 m 120 ls [])) → ∀ (n : Nat) (x4_162 : Int32) (x3_162 : Int32) (x1_162 : Int32) (x2_162 : Int32) (r : RS) (C1 : pw_C) (H : Heap) (locs : List Loc) (ls : Array Slot), m_writeObject_86' K n x4_162 x3_162 x1_162 x2_162 r = some res → rm_at ca ad C1 r → rm_fr C C1 → pw_H D cls9 A s.heap ad C ad C1 H locs → lv_has ls 5 [(4, .int x4_162), (3, .int x3_162), (0, .ref (ad 30 0)), (1, .int x1_162), (2, .int x2_162)] → W p l e ({ frames := 5, cells := 0, slots := 0, locals := 114 }) s m args below meth c H locs 0 0 (MQ below (pw_Q D cls9 ad C (pw_pi (fun v ad' C' => (ad' = ad ∧ rm_at ca ad C' res.2 ∧ rm_fr C C') ∧ v = res.1)) A) args s 0 0 A) (F0 m 86 ls []) := by
              intro K hKK n
              induction n with
              | zero => intro x4_162 x3_162 x1_162 x2_162 r C1 H locs ls hE; rw [m_writeObject_86'] at hE; exact absurd hE (by simp)
              | succ n ih =>
                intro x4_162 x3_162 x1_162 x2_162 r C1 H locs ls hE hR hfr hw hl
                rw [m_writeObject_86'] at hE
                refine lv_iload hx hb d_M_writeObject_86 (lv_at hl 0 rfl) ?_
                refine lv_aload_n hx hb d_M_writeObject_88 rfl (lv_at hl 2 rfl) ?_
                have hc_163 : C1 30 0 = some (.inr (4, [.ref (ad 31 0), .ref (ad 31 1), .ref (ad 31 2), .ref (ad 31 3), .ref (ad 31 4), .ref (ad 31 5), .ref (ad 31 6), .ref (ad 31 7), .ref (ad 31 8), .ref (ad 31 9), .ref (ad 31 10), .ref (ad 31 11), .ref (ad 31 12), .ref (ad 31 13), .ref (ad 31 14), .int r.objects, .ref (ad 31 15), .int r.length, .ref (ad 31 16), .int r.waits, .ref (ad 31 17), .int r.given, .ref (ad 31 18), .ref (ad 31 19), .ref (ad 31 20), .int r.left, .ref (ad 31 21), .ref (ad 31 22), .int r.oldLength, .int r.oldWaits, .int r.oldGiven])) := by have h9 := rm_at.o hR; exact h9
                refine pw_get (Cn := "GraphWriterModel") (T := F_M) (N := 31) hx hb hts in_M hown hK hw 30 0 rfl hc_163 rfl 11 (by decide) (hts _ wd_765) (fun _ h9 => h9) rfl d_M_writeObject_89 ?_
                refine lv_iload_n hx hb d_M_writeObject_92 rfl (lv_at hl 1 rfl) ?_
                have hc_164 : C1 31 11 = some (.inl (ca 0, 20, .inl r.size)) := by have h9 := rm_at.a11 hR; exact h9
                obtain ⟨v_165, hv_165, hE⟩ := ob_some hE
                obtain ⟨hi_v_165, hj_v_165, he_v_165⟩ := rd_some (by decide) hv_165
                refine pw_iald hx hb hK hw 31 11 rfl 0 hc_164 rfl (x3_162 : Int32).toNatClampNeg hi_v_165 (by omega) (by omega) d_M_writeObject_93 ?_
                rw [← he_v_165]
                refine lv_icmp_ge (tgt := 120) hx hb d_M_writeObject_94 (by decide) (fun c_166 => ?_) (fun c_166 => ?_)
                · rw [if_pos c_166] at hE
                  exact hKK _ _ _ _ _ _ _ _ _ hE hR hfr hw (lv_sub hl [0, 1, 2, 3, 4] rfl)
                · rw [if_neg c_166] at hE
                  refine lv_aload_n hx hb d_M_writeObject_97 rfl (lv_at hl 2 rfl) ?_
                  refine lv_aload_n hx hb d_M_writeObject_98 rfl (lv_at hl 2 rfl) ?_
                  refine pw_get (Cn := "GraphWriterModel") (T := F_M) (N := 31) hx hb hts in_M hown hK hw 30 0 rfl hc_163 rfl 12 (by decide) (hts _ wd_766) (fun _ h9 => h9) rfl d_M_writeObject_99 ?_
                  refine lv_bipush (v := 24) hx hb d_M_writeObject_102 (by decide) ?_
                  refine lv_iload_n hx hb d_M_writeObject_104 rfl (lv_at hl 1 rfl) ?_
                  refine lv_imul hx hb d_M_writeObject_105 ?_
                  refine lv_iload hx hb d_M_writeObject_106 (lv_at hl 0 rfl) ?_
                  refine lv_iadd hx hb d_M_writeObject_108 ?_
                  have hc_167 : C1 31 12 = some (.inl (ca 1, 480, .inr (.inl r.value))) := by have h9 := rm_at.a12 hR; exact h9
                  obtain ⟨v_168, hv_168, hE⟩ := ob_some hE
                  obtain ⟨hi_v_168, hj_v_168, he_v_168⟩ := rd_some (by decide) hv_168
                  refine pw_lald hx hb hK hw 31 12 rfl 1 hc_167 rfl ((24 * x3_162) + x4_162 : Int32).toNatClampNeg hi_v_168 (by omega) (by omega) d_M_writeObject_109 ?_
                  rw [← he_v_168]
                  refine lv_iconst (v := 1) hx hb d_M_writeObject_110 (by decide) ?_
                  obtain ⟨y_169, hy_169, hE⟩ := ob_some hE
                  refine pw_callv (va_runV (As := [.long v_168, .int 1]) (rest := []) ⟨hx, hb, hml, hown, hts0⟩ (k_M_append hR hy_169 _) (cwV 2 hts0 (wd_V wd_748 wd_745 wd_747 wd_20 wd_56) rfl rfl rfl (by decide +kernel) ⟨Nat.le_of_ble_eq_true rfl, Nat.le_of_ble_eq_true rfl⟩) (pw_preV hZ hw hA hK hz rfl hc_163 rfl) rfl rfl hl.1 rfl (lv_room (Nat.le_of_ble_eq_true rfl)) d_M_writeObject_111 ⟨Nat.le_of_ble_eq_true rfl, Nat.le_of_ble_eq_true rfl⟩) hw hA (fun ad_170 C_171 H locs hp hw => ?_)
                  obtain ⟨hae, hR, hf1⟩ := hp
                  rw [hae] at hw
                  clear hae
                  have hfr : rm_fr C C_171 := fun x y h9 => (hf1 x y h9).trans (hfr x y h9)
                  clear hf1
                  refine lv_iinc (v := x4_162 + 1) (lv' := [(4, .int (x4_162 + 1)), (3, .int x3_162), (0, .ref (ad 30 0)), (1, .int x1_162), (2, .int x2_162)]) hx hb d_M_writeObject_114 hl (k := 0) rfl rfl (by decide) rfl (fun ls hl => ?_)
                  refine lv_goto (tgt := 86) hx hb d_M_writeObject_117 (by decide) ?_
                  exact ih _ _ _ _ _ _ _ _ _ hE hR hfr hw (lv_sub hl [0, 1, 2, 3, 4] rfl)
            refine lp_162 _ (fun z4_162 z3_162 z1_162 z2_162 r_173 C_174 H locs ls hE hR hfr hw hl => ?_) 60 _ _ _ _ _ _ _ _ _ hE hR hfr hw hl
            try dsimp only at hE
            refine lv_goto (tgt := 223) hx hb d_M_writeObject_120 (by decide) ?_
            refine lv_iconst (v := 1) hx hb d_M_writeObject_223 (by decide) ?_
            obtain rfl := Option.some.inj hE
            exact pw_zret hx hb hr hlocks hw rfl ⟨⟨rfl, hR, hfr⟩, rfl⟩ d_M_writeObject_224
        · rw [if_pos c_93] at hE
          refine lv_aload_n hx hb d_M_writeObject_41 rfl (lv_at hl 1 rfl) ?_
          refine lv_iload_n hx hb d_M_writeObject_42 rfl (lv_at hl 0 rfl) ?_
          obtain ⟨y_175, hy_175, hE⟩ := ob_some hE
          refine pw_callv (va_runV (As := [.int y_2.1]) (rest := []) ⟨hx, hb, hml, hown, hts0⟩ (k_M_refer hR hy_175 _) (cwV 1 hts0 (wd_V wd_947 wd_944 wd_946 wd_34 wd_56) rfl rfl rfl (by decide +kernel) ⟨Nat.le_of_ble_eq_true rfl, Nat.le_of_ble_eq_true rfl⟩) (pw_preV hZ hw hA hK hz rfl hc_8 rfl) rfl rfl hl.1 rfl (lv_room (Nat.le_of_ble_eq_true rfl)) d_M_writeObject_43 ⟨Nat.le_of_ble_eq_true rfl, Nat.le_of_ble_eq_true rfl⟩) hw hA (fun ad_176 C_177 H locs hp hw => ?_)
          obtain ⟨hae, hR, hf1⟩ := hp
          rw [hae] at hw
          clear hae
          have hfr : rm_fr C C_177 := fun x y h9 => (hf1 x y h9).trans (hfr x y h9)
          clear hf1
          refine lv_iconst (v := 1) hx hb d_M_writeObject_46 (by decide) ?_
          obtain rfl := Option.some.inj hE
          exact pw_zret hx hb hr hlocks hw rfl ⟨⟨rfl, hR, hfr⟩, rfl⟩ d_M_writeObject_47
    · rw [if_neg c_7] at hE
      refine lv_aload_n hx hb d_M_writeObject_18 rfl (lv_at hl 1 rfl) ?_
      refine lv_ldc2 (v := 112) hx hb hown (hts _ wd_943) d_M_writeObject_19 ?_
      refine lv_iconst (v := 1) hx hb d_M_writeObject_22 (by decide) ?_
      obtain ⟨y_179, hy_179, hE⟩ := ob_some hE
      have hc_180 : C_5 30 0 = some (.inr (4, [.ref (ad 31 0), .ref (ad 31 1), .ref (ad 31 2), .ref (ad 31 3), .ref (ad 31 4), .ref (ad 31 5), .ref (ad 31 6), .ref (ad 31 7), .ref (ad 31 8), .ref (ad 31 9), .ref (ad 31 10), .ref (ad 31 11), .ref (ad 31 12), .ref (ad 31 13), .ref (ad 31 14), .int y_2.2.objects, .ref (ad 31 15), .int y_2.2.length, .ref (ad 31 16), .int y_2.2.waits, .ref (ad 31 17), .int y_2.2.given, .ref (ad 31 18), .ref (ad 31 19), .ref (ad 31 20), .int y_2.2.left, .ref (ad 31 21), .ref (ad 31 22), .int y_2.2.oldLength, .int y_2.2.oldWaits, .int y_2.2.oldGiven])) := by have h9 := rm_at.o hR; exact h9
      refine pw_callv (va_runV (As := [.long 112, .int 1]) (rest := []) ⟨hx, hb, hml, hown, hts0⟩ (k_M_append hR hy_179 _) (cwV 2 hts0 (wd_V wd_748 wd_745 wd_747 wd_20 wd_56) rfl rfl rfl (by decide +kernel) ⟨Nat.le_of_ble_eq_true rfl, Nat.le_of_ble_eq_true rfl⟩) (pw_preV hZ hw hA hK hz rfl hc_180 rfl) rfl rfl hl.1 rfl (lv_room (Nat.le_of_ble_eq_true rfl)) d_M_writeObject_23 ⟨Nat.le_of_ble_eq_true rfl, Nat.le_of_ble_eq_true rfl⟩) hw hA (fun ad_181 C_182 H locs hp hw => ?_)
      obtain ⟨hae, hR, hf1⟩ := hp
      rw [hae] at hw
      clear hae
      have hfr : rm_fr C C_182 := fun x y h9 => (hf1 x y h9).trans (hfr x y h9)
      clear hf1
      refine lv_iconst (v := 1) hx hb d_M_writeObject_26 (by decide) ?_
      obtain rfl := Option.some.inj hE
      exact pw_zret hx hb hr hlocks hw rfl ⟨⟨rfl, hR, hfr⟩, rfl⟩ d_M_writeObject_27
  · rw [if_neg c_1] at hE
    refine lv_iconst (v := (-1)) hx hb d_M_writeObject_4 (by decide) ?_
    refine lv_goto (tgt := 13) hx hb d_M_writeObject_5 (by decide) ?_
    refine lv_istore_n (lv' := [(3, .int (-1)), (0, .ref (ad 30 0)), (1, .int l1), (2, .int l2)]) hx hb d_M_writeObject_13 rfl hl (by decide) rfl (fun ls hl => ?_)
    refine lv_iload_n hx hb d_M_writeObject_14 rfl (lv_at hl 0 rfl) ?_
    refine lv_if_ge (tgt := 28) hx hb d_M_writeObject_15 (by decide) (fun c_184 => ?_) (fun c_184 => ?_)
    · exact absurd c_184 (by decide)
    · skip
      refine lv_aload_n hx hb d_M_writeObject_18 rfl (lv_at hl 1 rfl) ?_
      refine lv_ldc2 (v := 112) hx hb hown (hts _ wd_943) d_M_writeObject_19 ?_
      refine lv_iconst (v := 1) hx hb d_M_writeObject_22 (by decide) ?_
      obtain ⟨y_185, hy_185, hE⟩ := ob_some hE
      have hc_186 : C 30 0 = some (.inr (4, [.ref (ad 31 0), .ref (ad 31 1), .ref (ad 31 2), .ref (ad 31 3), .ref (ad 31 4), .ref (ad 31 5), .ref (ad 31 6), .ref (ad 31 7), .ref (ad 31 8), .ref (ad 31 9), .ref (ad 31 10), .ref (ad 31 11), .ref (ad 31 12), .ref (ad 31 13), .ref (ad 31 14), .int r.objects, .ref (ad 31 15), .int r.length, .ref (ad 31 16), .int r.waits, .ref (ad 31 17), .int r.given, .ref (ad 31 18), .ref (ad 31 19), .ref (ad 31 20), .int r.left, .ref (ad 31 21), .ref (ad 31 22), .int r.oldLength, .int r.oldWaits, .int r.oldGiven])) := by have h9 := rm_at.o hR; exact h9
      refine pw_callv (va_runV (As := [.long 112, .int 1]) (rest := []) ⟨hx, hb, hml, hown, hts0⟩ (k_M_append hR hy_185 _) (cwV 2 hts0 (wd_V wd_748 wd_745 wd_747 wd_20 wd_56) rfl rfl rfl (by decide +kernel) ⟨Nat.le_of_ble_eq_true rfl, Nat.le_of_ble_eq_true rfl⟩) (pw_preV hZ hw hA hK hz rfl hc_186 rfl) rfl rfl hl.1 rfl (lv_room (Nat.le_of_ble_eq_true rfl)) d_M_writeObject_23 ⟨Nat.le_of_ble_eq_true rfl, Nat.le_of_ble_eq_true rfl⟩) hw hA (fun ad_187 C_188 H locs hp hw => ?_)
      obtain ⟨hae, hR, hf1⟩ := hp
      rw [hae] at hw
      clear hae
      have hfr : rm_fr C C_188 := fun x y h9 => (hf1 x y h9).trans (hfr x y h9)
      clear hf1
      refine lv_iconst (v := 1) hx hb d_M_writeObject_26 (by decide) ?_
      obtain rfl := Option.some.inj hE
      exact pw_zret hx hb hr hlocks hw rfl ⟨⟨rfl, hR, hfr⟩, rfl⟩ d_M_writeObject_27
def m_doOne  (r : RS) : Option (Int32 × RS) := Option.bind (rd r.todoOf 900 (r.left - 1)) (fun v_5 => Option.bind (rd r.todoWith 900 (r.left - 1)) (fun v_7 => Option.bind (rd r.todo 900 (r.left - 1)) (fun v_9 => if (v_9 : Int32) = 0 then (Option.bind (m_writeObject v_5 0 (RS.s_left r (r.left - 1))) (fun y_55 => if y_55.1 = 1 then some (1, y_55.2) else if y_55.1 = 0 then some (0, y_55.2) else none)) else (Option.bind (rd r.todo 900 (r.left - 1)) (fun v_11 => if (v_11 : Int32) = 1 then (Option.bind (m_slotType v_5 v_7 (RS.s_left r (r.left - 1))) (fun y_29 => Option.bind (rd y_29.2.value 480 ((24 * v_5) + v_7)) (fun v_35 => if (y_29.1 : Int32) = 5 then (Option.bind (m_width y_29.1 y_29.2) (fun y_46 => Option.bind (m_append (v_35 &&& 1) y_46.1 y_46.2) (fun y_50 => some (1, y_50)))) else (Option.bind (m_width y_29.1 y_29.2) (fun y_37 => Option.bind (m_append v_35 y_37.1 y_37.2) (fun y_41 => some (1, y_41))))))) else (Option.bind (m_append 30468 2 (RS.s_left r (r.left - 1))) (fun y_13 => Option.bind (rd y_13.extras 20 v_5) (fun v_19 => Option.bind (m_append ((v_19 + v_7).toInt64) 4 y_13) (fun y_20 => Option.bind (m_append 120 1 y_20) (fun y_24 => some (1, y_24)))))))))))
set_option maxHeartbeats 4000000 in
set_option maxRecDepth 100000 in
theorem k_M_doOne {l : Launch} {D : va_G} {ca : Nat → ClassId} {kS : Nat → Nat} {kT : Nat} {ad : pw_A} {C : pw_C} {r : RS} (hR : rm_at ca ad C r)  {res : (Int32 × RS)} (hE : m_doOne  r = some res) : gc_Con l y_M_doOne c_M_doOne ({ frames := 6, cells := 0, slots := 0, locals := 138 }) D ca (z9_Z kS kT) [.ref (ad 30 0)] ad C (pw_pi (fun v ad' C' => (ad' = ad ∧ rm_at ca ad C' res.2 ∧ rm_fr C C') ∧ v = res.1)) 0 0 := by
  have hZ := z9_ok kS kT
  refine pw_ofW (cc := b_M_doOne) (maxL := 6) (ret := (some FieldType.boolean)) (by decide) rfl (Nat.le_of_ble_eq_true rfl) ?_
  intro p e s m args below meth c A ls hB hA hw hK hz hl
  obtain ⟨hx, hb, hr, hml, hts0, hlocks, hown, hnm⟩ := hB
  have hts := wd_hts hts0
  have hown : s.vm.findClass "GraphWriterModel" = some m.cls := hown
  have hl : lv_has ls 6 [(0, .ref (ad 30 0))] := hl
  have hfr : rm_fr C C := fun _ _ _ => rfl
  unfold m_doOne at hE
  refine lv_aload_n hx hb d_M_doOne_0 rfl (lv_at hl 0 rfl) ?_
  refine lv_dup hx hb d_M_doOne_1 rfl ?_
  have hc_1 : C 30 0 = some (.inr (4, [.ref (ad 31 0), .ref (ad 31 1), .ref (ad 31 2), .ref (ad 31 3), .ref (ad 31 4), .ref (ad 31 5), .ref (ad 31 6), .ref (ad 31 7), .ref (ad 31 8), .ref (ad 31 9), .ref (ad 31 10), .ref (ad 31 11), .ref (ad 31 12), .ref (ad 31 13), .ref (ad 31 14), .int r.objects, .ref (ad 31 15), .int r.length, .ref (ad 31 16), .int r.waits, .ref (ad 31 17), .int r.given, .ref (ad 31 18), .ref (ad 31 19), .ref (ad 31 20), .int r.left, .ref (ad 31 21), .ref (ad 31 22), .int r.oldLength, .int r.oldWaits, .int r.oldGiven])) := by have h9 := rm_at.o hR; exact h9
  refine pw_get (Cn := "GraphWriterModel") (T := F_M) (N := 31) hx hb hts in_M hown hK hw 30 0 rfl hc_1 rfl 25 (by decide) (hts _ wd_779) (fun _ h9 => h9) rfl d_M_doOne_2 ?_
  refine lv_iconst (v := 1) hx hb d_M_doOne_5 (by decide) ?_
  refine lv_isub hx hb d_M_doOne_6 ?_
  refine pw_put (Cn := "GraphWriterModel") (T := F_M) (N := 31) (v := .int (r.left - 1)) (ty := .int) hx hb hts in_M ft_M to_M nm_M hown hK hw 30 0 (by decide) rfl hc_1 rfl 25 (by decide) (hts _ wd_779) (fun _ h9 => h9) rfl (by decide +kernel) rfl rfl (Nat.le_of_ble_eq_true rfl) d_M_doOne_7 (fun H locs hw => ?_)
  have hw : pw_H D cls9 A s.heap ad C ad (pw_up C 30 0 (some (.inr (4, [.ref (ad 31 0), .ref (ad 31 1), .ref (ad 31 2), .ref (ad 31 3), .ref (ad 31 4), .ref (ad 31 5), .ref (ad 31 6), .ref (ad 31 7), .ref (ad 31 8), .ref (ad 31 9), .ref (ad 31 10), .ref (ad 31 11), .ref (ad 31 12), .ref (ad 31 13), .ref (ad 31 14), .int r.objects, .ref (ad 31 15), .int r.length, .ref (ad 31 16), .int r.waits, .ref (ad 31 17), .int r.given, .ref (ad 31 18), .ref (ad 31 19), .ref (ad 31 20), .int (r.left - 1), .ref (ad 31 21), .ref (ad 31 22), .int r.oldLength, .int r.oldWaits, .int r.oldGiven])))) H _ := hw
  generalize hC_2 : pw_up C 30 0 (some (.inr (4, [.ref (ad 31 0), .ref (ad 31 1), .ref (ad 31 2), .ref (ad 31 3), .ref (ad 31 4), .ref (ad 31 5), .ref (ad 31 6), .ref (ad 31 7), .ref (ad 31 8), .ref (ad 31 9), .ref (ad 31 10), .ref (ad 31 11), .ref (ad 31 12), .ref (ad 31 13), .ref (ad 31 14), .int r.objects, .ref (ad 31 15), .int r.length, .ref (ad 31 16), .int r.waits, .ref (ad 31 17), .int r.given, .ref (ad 31 18), .ref (ad 31 19), .ref (ad 31 20), .int (r.left - 1), .ref (ad 31 21), .ref (ad 31 22), .int r.oldLength, .int r.oldWaits, .int r.oldGiven]))) = C_2 at hw
  have hR : rm_at ca ad C_2 (RS.s_left r (r.left - 1)) := by rw [← hC_2]; exact rm_at.o_left hR _
  have hfr : rm_fr C C_2 := fun x y h9 => by rw [← hC_2]; exact (pw_up_ne _ _ (by omega)).trans (hfr x y h9)
  refine lv_aload_n hx hb d_M_doOne_10 rfl (lv_at hl 0 rfl) ?_
  have hc_3 : C_2 30 0 = some (.inr (4, [.ref (ad 31 0), .ref (ad 31 1), .ref (ad 31 2), .ref (ad 31 3), .ref (ad 31 4), .ref (ad 31 5), .ref (ad 31 6), .ref (ad 31 7), .ref (ad 31 8), .ref (ad 31 9), .ref (ad 31 10), .ref (ad 31 11), .ref (ad 31 12), .ref (ad 31 13), .ref (ad 31 14), .int r.objects, .ref (ad 31 15), .int r.length, .ref (ad 31 16), .int r.waits, .ref (ad 31 17), .int r.given, .ref (ad 31 18), .ref (ad 31 19), .ref (ad 31 20), .int (r.left - 1), .ref (ad 31 21), .ref (ad 31 22), .int r.oldLength, .int r.oldWaits, .int r.oldGiven])) := by have h9 := rm_at.o hR; exact h9
  refine pw_get (Cn := "GraphWriterModel") (T := F_M) (N := 31) hx hb hts in_M hown hK hw 30 0 rfl hc_3 rfl 23 (by decide) (hts _ wd_777) (fun _ h9 => h9) rfl d_M_doOne_11 ?_
  refine lv_aload_n hx hb d_M_doOne_14 rfl (lv_at hl 0 rfl) ?_
  refine pw_get (Cn := "GraphWriterModel") (T := F_M) (N := 31) hx hb hts in_M hown hK hw 30 0 rfl hc_3 rfl 25 (by decide) (hts _ wd_779) (fun _ h9 => h9) rfl d_M_doOne_15 ?_
  have hc_4 : C_2 31 19 = some (.inl (ca 0, 900, .inl r.todoOf)) := by have h9 := rm_at.a19 hR; exact h9
  obtain ⟨v_5, hv_5, hE⟩ := ob_some hE
  obtain ⟨hi_v_5, hj_v_5, he_v_5⟩ := rd_some (by decide) hv_5
  refine pw_iald hx hb hK hw 31 19 rfl 0 hc_4 rfl (r.left - 1 : Int32).toNatClampNeg hi_v_5 (by omega) (by omega) d_M_doOne_18 ?_
  rw [← he_v_5]
  refine lv_istore_n (lv' := [(1, .int v_5), (0, .ref (ad 30 0))]) hx hb d_M_doOne_19 rfl hl (by decide) rfl (fun ls hl => ?_)
  refine lv_aload_n hx hb d_M_doOne_20 rfl (lv_at hl 1 rfl) ?_
  refine pw_get (Cn := "GraphWriterModel") (T := F_M) (N := 31) hx hb hts in_M hown hK hw 30 0 rfl hc_3 rfl 24 (by decide) (hts _ wd_778) (fun _ h9 => h9) rfl d_M_doOne_21 ?_
  refine lv_aload_n hx hb d_M_doOne_24 rfl (lv_at hl 1 rfl) ?_
  refine pw_get (Cn := "GraphWriterModel") (T := F_M) (N := 31) hx hb hts in_M hown hK hw 30 0 rfl hc_3 rfl 25 (by decide) (hts _ wd_779) (fun _ h9 => h9) rfl d_M_doOne_25 ?_
  have hc_6 : C_2 31 20 = some (.inl (ca 0, 900, .inl r.todoWith)) := by have h9 := rm_at.a20 hR; exact h9
  obtain ⟨v_7, hv_7, hE⟩ := ob_some hE
  obtain ⟨hi_v_7, hj_v_7, he_v_7⟩ := rd_some (by decide) hv_7
  refine pw_iald hx hb hK hw 31 20 rfl 0 hc_6 rfl (r.left - 1 : Int32).toNatClampNeg hi_v_7 (by omega) (by omega) d_M_doOne_28 ?_
  rw [← he_v_7]
  refine lv_istore_n (lv' := [(2, .int v_7), (1, .int v_5), (0, .ref (ad 30 0))]) hx hb d_M_doOne_29 rfl hl (by decide) rfl (fun ls hl => ?_)
  refine lv_aload_n hx hb d_M_doOne_30 rfl (lv_at hl 2 rfl) ?_
  refine pw_get (Cn := "GraphWriterModel") (T := F_M) (N := 31) hx hb hts in_M hown hK hw 30 0 rfl hc_3 rfl 22 (by decide) (hts _ wd_776) (fun _ h9 => h9) rfl d_M_doOne_31 ?_
  refine lv_aload_n hx hb d_M_doOne_34 rfl (lv_at hl 2 rfl) ?_
  refine pw_get (Cn := "GraphWriterModel") (T := F_M) (N := 31) hx hb hts in_M hown hK hw 30 0 rfl hc_3 rfl 25 (by decide) (hts _ wd_779) (fun _ h9 => h9) rfl d_M_doOne_35 ?_
  have hc_8 : C_2 31 18 = some (.inl (ca 0, 900, .inl r.todo)) := by have h9 := rm_at.a18 hR; exact h9
  obtain ⟨v_9, hv_9, hE⟩ := ob_some hE
  obtain ⟨hi_v_9, hj_v_9, he_v_9⟩ := rd_some (by decide) hv_9
  refine pw_iald hx hb hK hw 31 18 rfl 0 hc_8 rfl (r.left - 1 : Int32).toNatClampNeg hi_v_9 (by omega) (by omega) d_M_doOne_38 ?_
  rw [← he_v_9]
  refine lv_if_ne (tgt := 49) hx hb d_M_doOne_39 (by decide) (fun c_10 => ?_) (fun c_10 => ?_)
  · rw [if_neg c_10] at hE
    refine lv_aload_n hx hb d_M_doOne_49 rfl (lv_at hl 2 rfl) ?_
    refine pw_get (Cn := "GraphWriterModel") (T := F_M) (N := 31) hx hb hts in_M hown hK hw 30 0 rfl hc_3 rfl 22 (by decide) (hts _ wd_776) (fun _ h9 => h9) rfl d_M_doOne_50 ?_
    refine lv_aload_n hx hb d_M_doOne_53 rfl (lv_at hl 2 rfl) ?_
    refine pw_get (Cn := "GraphWriterModel") (T := F_M) (N := 31) hx hb hts in_M hown hK hw 30 0 rfl hc_3 rfl 25 (by decide) (hts _ wd_779) (fun _ h9 => h9) rfl d_M_doOne_54 ?_
    obtain ⟨v_11, hv_11, hE⟩ := ob_some hE
    obtain ⟨hi_v_11, hj_v_11, he_v_11⟩ := rd_some (by decide) hv_11
    refine pw_iald hx hb hK hw 31 18 rfl 0 hc_8 rfl (r.left - 1 : Int32).toNatClampNeg hi_v_11 (by omega) (by omega) d_M_doOne_57 ?_
    rw [← he_v_11]
    refine lv_iconst (v := 1) hx hb d_M_doOne_58 (by decide) ?_
    refine lv_icmp_ne (tgt := 108) hx hb d_M_doOne_59 (by decide) (fun c_12 => ?_) (fun c_12 => ?_)
    · rw [if_neg c_12] at hE
      refine lv_aload_n hx hb d_M_doOne_108 rfl (lv_at hl 2 rfl) ?_
      refine lv_ldc2 (v := 30468) hx hb hown (hts _ wd_1046) d_M_doOne_109 ?_
      refine lv_iconst (v := 2) hx hb d_M_doOne_112 (by decide) ?_
      obtain ⟨y_13, hy_13, hE⟩ := ob_some hE
      refine pw_callv (va_runV (As := [.long 30468, .int 2]) (rest := []) ⟨hx, hb, hml, hown, hts0⟩ (k_M_append hR hy_13 _) (cwV 2 hts0 (wd_V wd_748 wd_745 wd_747 wd_20 wd_56) rfl rfl rfl (by decide +kernel) ⟨Nat.le_of_ble_eq_true rfl, Nat.le_of_ble_eq_true rfl⟩) (pw_preV hZ hw hA hK hz rfl hc_3 rfl) rfl rfl hl.1 rfl (lv_room (Nat.le_of_ble_eq_true rfl)) d_M_doOne_113 ⟨Nat.le_of_ble_eq_true rfl, Nat.le_of_ble_eq_true rfl⟩) hw hA (fun ad_14 C_15 H locs hp hw => ?_)
      obtain ⟨hae, hR, hf1⟩ := hp
      rw [hae] at hw
      clear hae
      have hfr : rm_fr C C_15 := fun x y h9 => (hf1 x y h9).trans (hfr x y h9)
      clear hf1
      refine lv_aload_n hx hb d_M_doOne_116 rfl (lv_at hl 2 rfl) ?_
      refine lv_aload_n hx hb d_M_doOne_117 rfl (lv_at hl 2 rfl) ?_
      have hc_17 : C_15 30 0 = some (.inr (4, [.ref (ad 31 0), .ref (ad 31 1), .ref (ad 31 2), .ref (ad 31 3), .ref (ad 31 4), .ref (ad 31 5), .ref (ad 31 6), .ref (ad 31 7), .ref (ad 31 8), .ref (ad 31 9), .ref (ad 31 10), .ref (ad 31 11), .ref (ad 31 12), .ref (ad 31 13), .ref (ad 31 14), .int y_13.objects, .ref (ad 31 15), .int y_13.length, .ref (ad 31 16), .int y_13.waits, .ref (ad 31 17), .int y_13.given, .ref (ad 31 18), .ref (ad 31 19), .ref (ad 31 20), .int y_13.left, .ref (ad 31 21), .ref (ad 31 22), .int y_13.oldLength, .int y_13.oldWaits, .int y_13.oldGiven])) := by have h9 := rm_at.o hR; exact h9
      refine pw_get (Cn := "GraphWriterModel") (T := F_M) (N := 31) hx hb hts in_M hown hK hw 30 0 rfl hc_17 rfl 14 (by decide) (hts _ wd_768) (fun _ h9 => h9) rfl d_M_doOne_118 ?_
      refine lv_iload_n hx hb d_M_doOne_121 rfl (lv_at hl 1 rfl) ?_
      have hc_18 : C_15 31 14 = some (.inl (ca 0, 20, .inl y_13.extras)) := by have h9 := rm_at.a14 hR; exact h9
      obtain ⟨v_19, hv_19, hE⟩ := ob_some hE
      obtain ⟨hi_v_19, hj_v_19, he_v_19⟩ := rd_some (by decide) hv_19
      refine pw_iald hx hb hK hw 31 14 rfl 0 hc_18 rfl (v_5 : Int32).toNatClampNeg hi_v_19 (by omega) (by omega) d_M_doOne_122 ?_
      rw [← he_v_19]
      refine lv_iload_n hx hb d_M_doOne_123 rfl (lv_at hl 0 rfl) ?_
      refine lv_iadd hx hb d_M_doOne_124 ?_
      refine lv_i2l hx hb d_M_doOne_125 rfl ?_
      refine lv_iconst (v := 4) hx hb d_M_doOne_126 (by decide) ?_
      obtain ⟨y_20, hy_20, hE⟩ := ob_some hE
      refine pw_callv (va_runV (As := [.long ((v_19 + v_7).toInt64), .int 4]) (rest := []) ⟨hx, hb, hml, hown, hts0⟩ (k_M_append hR hy_20 _) (cwV 2 hts0 (wd_V wd_748 wd_745 wd_747 wd_20 wd_56) rfl rfl rfl (by decide +kernel) ⟨Nat.le_of_ble_eq_true rfl, Nat.le_of_ble_eq_true rfl⟩) (pw_preV hZ hw hA hK hz rfl hc_17 rfl) rfl rfl hl.1 rfl (lv_room (Nat.le_of_ble_eq_true rfl)) d_M_doOne_127 ⟨Nat.le_of_ble_eq_true rfl, Nat.le_of_ble_eq_true rfl⟩) hw hA (fun ad_21 C_22 H locs hp hw => ?_)
      obtain ⟨hae, hR, hf1⟩ := hp
      rw [hae] at hw
      clear hae
      have hfr : rm_fr C C_22 := fun x y h9 => (hf1 x y h9).trans (hfr x y h9)
      clear hf1
      refine lv_aload_n hx hb d_M_doOne_130 rfl (lv_at hl 2 rfl) ?_
      refine lv_ldc2 (v := 120) hx hb hown (hts _ wd_977) d_M_doOne_131 ?_
      refine lv_iconst (v := 1) hx hb d_M_doOne_134 (by decide) ?_
      obtain ⟨y_24, hy_24, hE⟩ := ob_some hE
      have hc_25 : C_22 30 0 = some (.inr (4, [.ref (ad 31 0), .ref (ad 31 1), .ref (ad 31 2), .ref (ad 31 3), .ref (ad 31 4), .ref (ad 31 5), .ref (ad 31 6), .ref (ad 31 7), .ref (ad 31 8), .ref (ad 31 9), .ref (ad 31 10), .ref (ad 31 11), .ref (ad 31 12), .ref (ad 31 13), .ref (ad 31 14), .int y_20.objects, .ref (ad 31 15), .int y_20.length, .ref (ad 31 16), .int y_20.waits, .ref (ad 31 17), .int y_20.given, .ref (ad 31 18), .ref (ad 31 19), .ref (ad 31 20), .int y_20.left, .ref (ad 31 21), .ref (ad 31 22), .int y_20.oldLength, .int y_20.oldWaits, .int y_20.oldGiven])) := by have h9 := rm_at.o hR; exact h9
      refine pw_callv (va_runV (As := [.long 120, .int 1]) (rest := []) ⟨hx, hb, hml, hown, hts0⟩ (k_M_append hR hy_24 _) (cwV 2 hts0 (wd_V wd_748 wd_745 wd_747 wd_20 wd_56) rfl rfl rfl (by decide +kernel) ⟨Nat.le_of_ble_eq_true rfl, Nat.le_of_ble_eq_true rfl⟩) (pw_preV hZ hw hA hK hz rfl hc_25 rfl) rfl rfl hl.1 rfl (lv_room (Nat.le_of_ble_eq_true rfl)) d_M_doOne_135 ⟨Nat.le_of_ble_eq_true rfl, Nat.le_of_ble_eq_true rfl⟩) hw hA (fun ad_26 C_27 H locs hp hw => ?_)
      obtain ⟨hae, hR, hf1⟩ := hp
      rw [hae] at hw
      clear hae
      have hfr : rm_fr C C_27 := fun x y h9 => (hf1 x y h9).trans (hfr x y h9)
      clear hf1
      refine lv_iconst (v := 1) hx hb d_M_doOne_138 (by decide) ?_
      obtain rfl := Option.some.inj hE
      exact pw_zret hx hb hr hlocks hw rfl ⟨⟨rfl, hR, hfr⟩, rfl⟩ d_M_doOne_139
    · rw [if_pos c_12] at hE
      refine lv_aload_n hx hb d_M_doOne_62 rfl (lv_at hl 2 rfl) ?_
      refine lv_iload_n hx hb d_M_doOne_63 rfl (lv_at hl 1 rfl) ?_
      refine lv_iload_n hx hb d_M_doOne_64 rfl (lv_at hl 0 rfl) ?_
      obtain ⟨y_29, hy_29, hE⟩ := ob_some hE
      refine pw_calli (va_runV (As := [.int v_5, .int v_7]) (rest := []) ⟨hx, hb, hml, hown, hts0⟩ (k_M_slotType hR hy_29 _) (cwV 2 hts0 (wd_V wd_884 wd_881 wd_883 wd_27 wd_56) rfl rfl rfl (by decide +kernel) ⟨Nat.le_of_ble_eq_true rfl, Nat.le_of_ble_eq_true rfl⟩) (pw_preV hZ hw hA hK hz rfl hc_3 rfl) rfl rfl hl.1 rfl (lv_room (Nat.le_of_ble_eq_true rfl)) d_M_doOne_65 ⟨Nat.le_of_ble_eq_true rfl, Nat.le_of_ble_eq_true rfl⟩) hw hA (fun r_32 ad_30 C_31 H locs hp hw => ?_)
      obtain ⟨⟨hae, hR, hf1⟩, hre⟩ := hp
      rw [hre]
      rw [hae] at hw
      clear hae
      have hfr : rm_fr C C_31 := fun x y h9 => (hf1 x y h9).trans (hfr x y h9)
      clear hf1
      refine lv_istore_n (lv' := [(3, .int y_29.1), (2, .int v_7), (1, .int v_5), (0, .ref (ad 30 0))]) hx hb d_M_doOne_68 rfl hl (by decide) rfl (fun ls hl => ?_)
      refine lv_aload_n hx hb d_M_doOne_69 rfl (lv_at hl 3 rfl) ?_
      have hc_33 : C_31 30 0 = some (.inr (4, [.ref (ad 31 0), .ref (ad 31 1), .ref (ad 31 2), .ref (ad 31 3), .ref (ad 31 4), .ref (ad 31 5), .ref (ad 31 6), .ref (ad 31 7), .ref (ad 31 8), .ref (ad 31 9), .ref (ad 31 10), .ref (ad 31 11), .ref (ad 31 12), .ref (ad 31 13), .ref (ad 31 14), .int y_29.2.objects, .ref (ad 31 15), .int y_29.2.length, .ref (ad 31 16), .int y_29.2.waits, .ref (ad 31 17), .int y_29.2.given, .ref (ad 31 18), .ref (ad 31 19), .ref (ad 31 20), .int y_29.2.left, .ref (ad 31 21), .ref (ad 31 22), .int y_29.2.oldLength, .int y_29.2.oldWaits, .int y_29.2.oldGiven])) := by have h9 := rm_at.o hR; exact h9
      refine pw_get (Cn := "GraphWriterModel") (T := F_M) (N := 31) hx hb hts in_M hown hK hw 30 0 rfl hc_33 rfl 12 (by decide) (hts _ wd_766) (fun _ h9 => h9) rfl d_M_doOne_70 ?_
      refine lv_bipush (v := 24) hx hb d_M_doOne_73 (by decide) ?_
      refine lv_iload_n hx hb d_M_doOne_75 rfl (lv_at hl 2 rfl) ?_
      refine lv_imul hx hb d_M_doOne_76 ?_
      refine lv_iload_n hx hb d_M_doOne_77 rfl (lv_at hl 1 rfl) ?_
      refine lv_iadd hx hb d_M_doOne_78 ?_
      have hc_34 : C_31 31 12 = some (.inl (ca 1, 480, .inr (.inl y_29.2.value))) := by have h9 := rm_at.a12 hR; exact h9
      obtain ⟨v_35, hv_35, hE⟩ := ob_some hE
      obtain ⟨hi_v_35, hj_v_35, he_v_35⟩ := rd_some (by decide) hv_35
      refine pw_lald hx hb hK hw 31 12 rfl 1 hc_34 rfl ((24 * v_5) + v_7 : Int32).toNatClampNeg hi_v_35 (by omega) (by omega) d_M_doOne_79 ?_
      rw [← he_v_35]
      refine lv_lstore (lv' := [(4, .long v_35), (3, .int y_29.1), (2, .int v_7), (1, .int v_5), (0, .ref (ad 30 0))]) hx hb d_M_doOne_80 hl (by decide) rfl (fun ls hl => ?_)
      refine lv_aload_n hx hb d_M_doOne_82 rfl (lv_at hl 4 rfl) ?_
      refine lv_iload_n hx hb d_M_doOne_83 rfl (lv_at hl 1 rfl) ?_
      refine lv_iconst (v := 5) hx hb d_M_doOne_84 (by decide) ?_
      refine lv_icmp_ne (tgt := 95) hx hb d_M_doOne_85 (by decide) (fun c_36 => ?_) (fun c_36 => ?_)
      · rw [if_neg c_36] at hE
        refine lv_lload hx hb d_M_doOne_95 (lv_at hl 0 rfl) ?_
        refine lv_aload_n hx hb d_M_doOne_97 rfl (lv_at hl 4 rfl) ?_
        refine lv_iload_n hx hb d_M_doOne_98 rfl (lv_at hl 1 rfl) ?_
        obtain ⟨y_37, hy_37, hE⟩ := ob_some hE
        refine pw_calli (va_runV (As := [.int y_29.1]) (rest := [.long v_35, .ref (ad 30 0)]) ⟨hx, hb, hml, hown, hts0⟩ (k_M_width hR hy_37 _) (cwV 1 hts0 (wd_V wd_1045 wd_1042 wd_1044 wd_50 wd_56) rfl rfl rfl (by decide +kernel) ⟨Nat.le_of_ble_eq_true rfl, Nat.le_of_ble_eq_true rfl⟩) (pw_preV hZ hw hA hK hz rfl hc_33 rfl) rfl rfl hl.1 rfl (lv_room (Nat.le_of_ble_eq_true rfl)) d_M_doOne_99 ⟨Nat.le_of_ble_eq_true rfl, Nat.le_of_ble_eq_true rfl⟩) hw hA (fun r_40 ad_38 C_39 H locs hp hw => ?_)
        obtain ⟨⟨hae, hR, hf1⟩, hre⟩ := hp
        rw [hre]
        rw [hae] at hw
        clear hae
        have hfr : rm_fr C C_39 := fun x y h9 => (hf1 x y h9).trans (hfr x y h9)
        clear hf1
        obtain ⟨y_41, hy_41, hE⟩ := ob_some hE
        have hc_42 : C_39 30 0 = some (.inr (4, [.ref (ad 31 0), .ref (ad 31 1), .ref (ad 31 2), .ref (ad 31 3), .ref (ad 31 4), .ref (ad 31 5), .ref (ad 31 6), .ref (ad 31 7), .ref (ad 31 8), .ref (ad 31 9), .ref (ad 31 10), .ref (ad 31 11), .ref (ad 31 12), .ref (ad 31 13), .ref (ad 31 14), .int y_37.2.objects, .ref (ad 31 15), .int y_37.2.length, .ref (ad 31 16), .int y_37.2.waits, .ref (ad 31 17), .int y_37.2.given, .ref (ad 31 18), .ref (ad 31 19), .ref (ad 31 20), .int y_37.2.left, .ref (ad 31 21), .ref (ad 31 22), .int y_37.2.oldLength, .int y_37.2.oldWaits, .int y_37.2.oldGiven])) := by have h9 := rm_at.o hR; exact h9
        refine pw_callv (va_runV (As := [.long v_35, .int y_37.1]) (rest := []) ⟨hx, hb, hml, hown, hts0⟩ (k_M_append hR hy_41 _) (cwV 2 hts0 (wd_V wd_748 wd_745 wd_747 wd_20 wd_56) rfl rfl rfl (by decide +kernel) ⟨Nat.le_of_ble_eq_true rfl, Nat.le_of_ble_eq_true rfl⟩) (pw_preV hZ hw hA hK hz rfl hc_42 rfl) rfl rfl hl.1 rfl (lv_room (Nat.le_of_ble_eq_true rfl)) d_M_doOne_102 ⟨Nat.le_of_ble_eq_true rfl, Nat.le_of_ble_eq_true rfl⟩) hw hA (fun ad_43 C_44 H locs hp hw => ?_)
        obtain ⟨hae, hR, hf1⟩ := hp
        rw [hae] at hw
        clear hae
        have hfr : rm_fr C C_44 := fun x y h9 => (hf1 x y h9).trans (hfr x y h9)
        clear hf1
        refine lv_goto (tgt := 138) hx hb d_M_doOne_105 (by decide) ?_
        refine lv_iconst (v := 1) hx hb d_M_doOne_138 (by decide) ?_
        obtain rfl := Option.some.inj hE
        exact pw_zret hx hb hr hlocks hw rfl ⟨⟨rfl, hR, hfr⟩, rfl⟩ d_M_doOne_139
      · rw [if_pos c_36] at hE
        refine lv_lload hx hb d_M_doOne_88 (lv_at hl 0 rfl) ?_
        refine lv_lconst (v := 1) hx hb d_M_doOne_90 (by decide) ?_
        refine lv_land hx hb d_M_doOne_91 ?_
        refine lv_goto (tgt := 97) hx hb d_M_doOne_92 (by decide) ?_
        refine lv_aload_n hx hb d_M_doOne_97 rfl (lv_at hl 4 rfl) ?_
        refine lv_iload_n hx hb d_M_doOne_98 rfl (lv_at hl 1 rfl) ?_
        obtain ⟨y_46, hy_46, hE⟩ := ob_some hE
        refine pw_calli (va_runV (As := [.int y_29.1]) (rest := [.long (v_35 &&& 1), .ref (ad 30 0)]) ⟨hx, hb, hml, hown, hts0⟩ (k_M_width hR hy_46 _) (cwV 1 hts0 (wd_V wd_1045 wd_1042 wd_1044 wd_50 wd_56) rfl rfl rfl (by decide +kernel) ⟨Nat.le_of_ble_eq_true rfl, Nat.le_of_ble_eq_true rfl⟩) (pw_preV hZ hw hA hK hz rfl hc_33 rfl) rfl rfl hl.1 rfl (lv_room (Nat.le_of_ble_eq_true rfl)) d_M_doOne_99 ⟨Nat.le_of_ble_eq_true rfl, Nat.le_of_ble_eq_true rfl⟩) hw hA (fun r_49 ad_47 C_48 H locs hp hw => ?_)
        obtain ⟨⟨hae, hR, hf1⟩, hre⟩ := hp
        rw [hre]
        rw [hae] at hw
        clear hae
        have hfr : rm_fr C C_48 := fun x y h9 => (hf1 x y h9).trans (hfr x y h9)
        clear hf1
        obtain ⟨y_50, hy_50, hE⟩ := ob_some hE
        have hc_51 : C_48 30 0 = some (.inr (4, [.ref (ad 31 0), .ref (ad 31 1), .ref (ad 31 2), .ref (ad 31 3), .ref (ad 31 4), .ref (ad 31 5), .ref (ad 31 6), .ref (ad 31 7), .ref (ad 31 8), .ref (ad 31 9), .ref (ad 31 10), .ref (ad 31 11), .ref (ad 31 12), .ref (ad 31 13), .ref (ad 31 14), .int y_46.2.objects, .ref (ad 31 15), .int y_46.2.length, .ref (ad 31 16), .int y_46.2.waits, .ref (ad 31 17), .int y_46.2.given, .ref (ad 31 18), .ref (ad 31 19), .ref (ad 31 20), .int y_46.2.left, .ref (ad 31 21), .ref (ad 31 22), .int y_46.2.oldLength, .int y_46.2.oldWaits, .int y_46.2.oldGiven])) := by have h9 := rm_at.o hR; exact h9
        refine pw_callv (va_runV (As := [.long (v_35 &&& 1), .int y_46.1]) (rest := []) ⟨hx, hb, hml, hown, hts0⟩ (k_M_append hR hy_50 _) (cwV 2 hts0 (wd_V wd_748 wd_745 wd_747 wd_20 wd_56) rfl rfl rfl (by decide +kernel) ⟨Nat.le_of_ble_eq_true rfl, Nat.le_of_ble_eq_true rfl⟩) (pw_preV hZ hw hA hK hz rfl hc_51 rfl) rfl rfl hl.1 rfl (lv_room (Nat.le_of_ble_eq_true rfl)) d_M_doOne_102 ⟨Nat.le_of_ble_eq_true rfl, Nat.le_of_ble_eq_true rfl⟩) hw hA (fun ad_52 C_53 H locs hp hw => ?_)
        obtain ⟨hae, hR, hf1⟩ := hp
        rw [hae] at hw
        clear hae
        have hfr : rm_fr C C_53 := fun x y h9 => (hf1 x y h9).trans (hfr x y h9)
        clear hf1
        refine lv_goto (tgt := 138) hx hb d_M_doOne_105 (by decide) ?_
        refine lv_iconst (v := 1) hx hb d_M_doOne_138 (by decide) ?_
        obtain rfl := Option.some.inj hE
        exact pw_zret hx hb hr hlocks hw rfl ⟨⟨rfl, hR, hfr⟩, rfl⟩ d_M_doOne_139
  · rw [if_pos c_10] at hE
    refine lv_aload_n hx hb d_M_doOne_42 rfl (lv_at hl 2 rfl) ?_
    refine lv_iload_n hx hb d_M_doOne_43 rfl (lv_at hl 1 rfl) ?_
    refine lv_iconst (v := 0) hx hb d_M_doOne_44 (by decide) ?_
    obtain ⟨y_55, hy_55, hE⟩ := ob_some hE
    refine pw_calli (va_runV (As := [.int v_5, .int 0]) (rest := []) ⟨hx, hb, hml, hown, hts0⟩ (k_M_writeObject hR hy_55 _) (cwV 2 hts0 (wd_V wd_938 wd_935 wd_937 wd_32 wd_56) rfl rfl rfl (by decide +kernel) ⟨Nat.le_of_ble_eq_true rfl, Nat.le_of_ble_eq_true rfl⟩) (pw_preV hZ hw hA hK hz rfl hc_3 rfl) rfl rfl hl.1 rfl (lv_room (Nat.le_of_ble_eq_true rfl)) d_M_doOne_45 ⟨Nat.le_of_ble_eq_true rfl, Nat.le_of_ble_eq_true rfl⟩) hw hA (fun r_58 ad_56 C_57 H locs hp hw => ?_)
    obtain ⟨⟨hae, hR, hf1⟩, hre⟩ := hp
    rw [hre]
    rw [hae] at hw
    clear hae
    have hfr : rm_fr C C_57 := fun x y h9 => (hf1 x y h9).trans (hfr x y h9)
    clear hf1
    by_cases h1 : y_55.1 = 1
    · rw [if_pos h1] at hE; obtain rfl := Option.some.inj hE; rw [h1]; exact pw_zret hx hb hr hlocks hw rfl ⟨⟨rfl, hR, hfr⟩, rfl⟩ d_M_doOne_48
    rw [if_neg h1] at hE
    by_cases h0 : y_55.1 = 0
    · rw [if_pos h0] at hE; obtain rfl := Option.some.inj hE; rw [h0]; exact pw_zret hx hb hr hlocks hw rfl ⟨⟨rfl, hR, hfr⟩, rfl⟩ d_M_doOne_48
    rw [if_neg h0] at hE; exact absurd hE (by simp)
def m_write_35 (K : Int32 → Int32 → Int32 → RS → Option (Int32 × RS)) : Nat → Int32 → Int32 → Int32 → RS → Option (Int32 × RS)
  | 0, _, _, _, _ => none
  | n + 1, x3_20, x1_20, x2_20, r => if (r.left : Int32) ≤ 0 then (K x3_20 x1_20 x2_20 r) else (if (1400 : Int32) < r.length then (K x3_20 x1_20 x2_20 r) else (Option.bind (m_doOne  r) (fun y_24 => if (y_24.1 : Int32) = 0 then (m_write_35 K n 0 x1_20 x2_20 y_24.2) else (if (x3_20 : Int32) = 0 then (m_write_35 K n 0 x1_20 x2_20 y_24.2) else (m_write_35 K n 1 x1_20 x2_20 y_24.2)))))
def m_write (l1 : Int32) (l2 : Int32) (r : RS) : Option (Int32 × RS) := if (l1 : Int32) < (-1) then (some ((-1), r)) else (if (l1 : Int32) < r.objects then (Option.bind (m_remember  r) (fun y_4 => Option.bind (m_flush  y_4) (fun y_8 => Option.bind (m_writeObject l1 l2 (RS.s_left y_8 0)) (fun y_15 => m_write_35 (fun z3_20 z1_20 z2_20 r_30 => Option.bind (m_tooLong  r_30) (fun y_32 => if (y_32.1 : Int32) = 0 then (if (z3_20 : Int32) = 0 then (some ((-3), y_32.2)) else (some (y_32.2.length, y_32.2))) else (some ((-2), y_32.2)))) 1000 y_15.1 l1 l2 y_15.2)))) else (some ((-1), r)))
set_option maxHeartbeats 4000000 in
set_option maxRecDepth 100000 in
theorem k_M_write {l : Launch} {D : va_G} {ca : Nat → ClassId} {kS : Nat → Nat} {kT : Nat} {ad : pw_A} {C : pw_C} {r : RS} (hR : rm_at ca ad C r) {l1 : Int32} {l2 : Int32} {res : (Int32 × RS)} (hE : m_write l1 l2 r = some res) : gc_Con l y_M_write c_M_write ({ frames := 7, cells := 0, slots := 0, locals := 163 }) D ca (z9_Z kS kT) [.ref (ad 30 0), .int l1, .int l2] ad C (pw_pi (fun v ad' C' => (ad' = ad ∧ rm_at ca ad C' res.2 ∧ rm_fr C C') ∧ v = res.1)) 0 0 := by
  have hZ := z9_ok kS kT
  refine pw_ofW (cc := b_M_write) (maxL := 4) (ret := (some FieldType.int)) (by decide) rfl (Nat.le_of_ble_eq_true rfl) ?_
  intro p e s m args below meth c A ls hB hA hw hK hz hl
  obtain ⟨hx, hb, hr, hml, hts0, hlocks, hown, hnm⟩ := hB
  have hts := wd_hts hts0
  have hown : s.vm.findClass "GraphWriterModel" = some m.cls := hown
  have hl : lv_has ls 4 [(0, .ref (ad 30 0)), (1, .int l1), (2, .int l2)] := hl
  have hfr : rm_fr C C := fun _ _ _ => rfl
  unfold m_write at hE
  refine lv_iload_n hx hb d_M_write_0 rfl (lv_at hl 1 rfl) ?_
  refine lv_iconst (v := (-1)) hx hb d_M_write_1 (by decide) ?_
  refine lv_icmp_lt (tgt := 13) hx hb d_M_write_2 (by decide) (fun c_1 => ?_) (fun c_1 => ?_)
  · rw [if_pos c_1] at hE
    refine lv_iconst (v := (-1)) hx hb d_M_write_13 (by decide) ?_
    obtain rfl := Option.some.inj hE
    exact pw_iret hx hb hr hlocks hw ⟨⟨rfl, hR, hfr⟩, rfl⟩ d_M_write_14
  · rw [if_neg c_1] at hE
    refine lv_iload_n hx hb d_M_write_5 rfl (lv_at hl 1 rfl) ?_
    refine lv_aload_n hx hb d_M_write_6 rfl (lv_at hl 0 rfl) ?_
    have hc_2 : C 30 0 = some (.inr (4, [.ref (ad 31 0), .ref (ad 31 1), .ref (ad 31 2), .ref (ad 31 3), .ref (ad 31 4), .ref (ad 31 5), .ref (ad 31 6), .ref (ad 31 7), .ref (ad 31 8), .ref (ad 31 9), .ref (ad 31 10), .ref (ad 31 11), .ref (ad 31 12), .ref (ad 31 13), .ref (ad 31 14), .int r.objects, .ref (ad 31 15), .int r.length, .ref (ad 31 16), .int r.waits, .ref (ad 31 17), .int r.given, .ref (ad 31 18), .ref (ad 31 19), .ref (ad 31 20), .int r.left, .ref (ad 31 21), .ref (ad 31 22), .int r.oldLength, .int r.oldWaits, .int r.oldGiven])) := by have h9 := rm_at.o hR; exact h9
    refine pw_get (Cn := "GraphWriterModel") (T := F_M) (N := 31) hx hb hts in_M hown hK hw 30 0 rfl hc_2 rfl 15 (by decide) (hts _ wd_769) (fun _ h9 => h9) rfl d_M_write_7 ?_
    refine lv_icmp_lt (tgt := 15) hx hb d_M_write_10 (by decide) (fun c_3 => ?_) (fun c_3 => ?_)
    · rw [if_pos c_3] at hE
      refine lv_aload_n hx hb d_M_write_15 rfl (lv_at hl 0 rfl) ?_
      obtain ⟨y_4, hy_4, hE⟩ := ob_some hE
      refine pw_callv (va_runV (As := []) (rest := []) ⟨hx, hb, hml, hown, hts0⟩ (k_M_remember hR hy_4 _) (cwV 0 hts0 (wd_V wd_934 wd_931 wd_933 wd_31 wd_56) rfl rfl rfl (by decide +kernel) ⟨Nat.le_of_ble_eq_true rfl, Nat.le_of_ble_eq_true rfl⟩) (pw_preV hZ hw hA hK hz rfl hc_2 rfl) rfl rfl hl.1 rfl (lv_room (Nat.le_of_ble_eq_true rfl)) d_M_write_16 ⟨Nat.le_of_ble_eq_true rfl, Nat.le_of_ble_eq_true rfl⟩) hw hA (fun ad_5 C_6 H locs hp hw => ?_)
      obtain ⟨hae, hR, hf1⟩ := hp
      rw [hae] at hw
      clear hae
      have hfr : rm_fr C C_6 := fun x y h9 => (hf1 x y h9).trans (hfr x y h9)
      clear hf1
      refine lv_aload_n hx hb d_M_write_19 rfl (lv_at hl 0 rfl) ?_
      obtain ⟨y_8, hy_8, hE⟩ := ob_some hE
      have hc_9 : C_6 30 0 = some (.inr (4, [.ref (ad 31 0), .ref (ad 31 1), .ref (ad 31 2), .ref (ad 31 3), .ref (ad 31 4), .ref (ad 31 5), .ref (ad 31 6), .ref (ad 31 7), .ref (ad 31 8), .ref (ad 31 9), .ref (ad 31 10), .ref (ad 31 11), .ref (ad 31 12), .ref (ad 31 13), .ref (ad 31 14), .int y_4.objects, .ref (ad 31 15), .int y_4.length, .ref (ad 31 16), .int y_4.waits, .ref (ad 31 17), .int y_4.given, .ref (ad 31 18), .ref (ad 31 19), .ref (ad 31 20), .int y_4.left, .ref (ad 31 21), .ref (ad 31 22), .int y_4.oldLength, .int y_4.oldWaits, .int y_4.oldGiven])) := by have h9 := rm_at.o hR; exact h9
      refine pw_callv (va_runV (As := []) (rest := []) ⟨hx, hb, hml, hown, hts0⟩ (k_M_flush hR hy_8 _) (cwV 0 hts0 (wd_V wd_925 wd_922 wd_924 wd_30 wd_56) rfl rfl rfl (by decide +kernel) ⟨Nat.le_of_ble_eq_true rfl, Nat.le_of_ble_eq_true rfl⟩) (pw_preV hZ hw hA hK hz rfl hc_9 rfl) rfl rfl hl.1 rfl (lv_room (Nat.le_of_ble_eq_true rfl)) d_M_write_20 ⟨Nat.le_of_ble_eq_true rfl, Nat.le_of_ble_eq_true rfl⟩) hw hA (fun ad_10 C_11 H locs hp hw => ?_)
      obtain ⟨hae, hR, hf1⟩ := hp
      rw [hae] at hw
      clear hae
      have hfr : rm_fr C C_11 := fun x y h9 => (hf1 x y h9).trans (hfr x y h9)
      clear hf1
      refine lv_aload_n hx hb d_M_write_23 rfl (lv_at hl 0 rfl) ?_
      refine lv_iconst (v := 0) hx hb d_M_write_24 (by decide) ?_
      have hc_13 : C_11 30 0 = some (.inr (4, [.ref (ad 31 0), .ref (ad 31 1), .ref (ad 31 2), .ref (ad 31 3), .ref (ad 31 4), .ref (ad 31 5), .ref (ad 31 6), .ref (ad 31 7), .ref (ad 31 8), .ref (ad 31 9), .ref (ad 31 10), .ref (ad 31 11), .ref (ad 31 12), .ref (ad 31 13), .ref (ad 31 14), .int y_8.objects, .ref (ad 31 15), .int y_8.length, .ref (ad 31 16), .int y_8.waits, .ref (ad 31 17), .int y_8.given, .ref (ad 31 18), .ref (ad 31 19), .ref (ad 31 20), .int y_8.left, .ref (ad 31 21), .ref (ad 31 22), .int y_8.oldLength, .int y_8.oldWaits, .int y_8.oldGiven])) := by have h9 := rm_at.o hR; exact h9
      refine pw_put (Cn := "GraphWriterModel") (T := F_M) (N := 31) (v := .int 0) (ty := .int) hx hb hts in_M ft_M to_M nm_M hown hK hw 30 0 (by decide) rfl hc_13 rfl 25 (by decide) (hts _ wd_779) (fun _ h9 => h9) rfl (by decide +kernel) rfl rfl (Nat.le_of_ble_eq_true rfl) d_M_write_25 (fun H locs hw => ?_)
      have hw : pw_H D cls9 A s.heap ad C ad (pw_up C_11 30 0 (some (.inr (4, [.ref (ad 31 0), .ref (ad 31 1), .ref (ad 31 2), .ref (ad 31 3), .ref (ad 31 4), .ref (ad 31 5), .ref (ad 31 6), .ref (ad 31 7), .ref (ad 31 8), .ref (ad 31 9), .ref (ad 31 10), .ref (ad 31 11), .ref (ad 31 12), .ref (ad 31 13), .ref (ad 31 14), .int y_8.objects, .ref (ad 31 15), .int y_8.length, .ref (ad 31 16), .int y_8.waits, .ref (ad 31 17), .int y_8.given, .ref (ad 31 18), .ref (ad 31 19), .ref (ad 31 20), .int 0, .ref (ad 31 21), .ref (ad 31 22), .int y_8.oldLength, .int y_8.oldWaits, .int y_8.oldGiven])))) H _ := hw
      generalize hC_14 : pw_up C_11 30 0 (some (.inr (4, [.ref (ad 31 0), .ref (ad 31 1), .ref (ad 31 2), .ref (ad 31 3), .ref (ad 31 4), .ref (ad 31 5), .ref (ad 31 6), .ref (ad 31 7), .ref (ad 31 8), .ref (ad 31 9), .ref (ad 31 10), .ref (ad 31 11), .ref (ad 31 12), .ref (ad 31 13), .ref (ad 31 14), .int y_8.objects, .ref (ad 31 15), .int y_8.length, .ref (ad 31 16), .int y_8.waits, .ref (ad 31 17), .int y_8.given, .ref (ad 31 18), .ref (ad 31 19), .ref (ad 31 20), .int 0, .ref (ad 31 21), .ref (ad 31 22), .int y_8.oldLength, .int y_8.oldWaits, .int y_8.oldGiven]))) = C_14 at hw
      have hR : rm_at ca ad C_14 (RS.s_left y_8 0) := by rw [← hC_14]; exact rm_at.o_left hR _
      have hfr : rm_fr C C_14 := fun x y h9 => by rw [← hC_14]; exact (pw_up_ne _ _ (by omega)).trans (hfr x y h9)
      refine lv_aload_n hx hb d_M_write_28 rfl (lv_at hl 0 rfl) ?_
      refine lv_iload_n hx hb d_M_write_29 rfl (lv_at hl 1 rfl) ?_
      refine lv_iload_n hx hb d_M_write_30 rfl (lv_at hl 2 rfl) ?_
      obtain ⟨y_15, hy_15, hE⟩ := ob_some hE
      have hc_16 : C_14 30 0 = some (.inr (4, [.ref (ad 31 0), .ref (ad 31 1), .ref (ad 31 2), .ref (ad 31 3), .ref (ad 31 4), .ref (ad 31 5), .ref (ad 31 6), .ref (ad 31 7), .ref (ad 31 8), .ref (ad 31 9), .ref (ad 31 10), .ref (ad 31 11), .ref (ad 31 12), .ref (ad 31 13), .ref (ad 31 14), .int y_8.objects, .ref (ad 31 15), .int y_8.length, .ref (ad 31 16), .int y_8.waits, .ref (ad 31 17), .int y_8.given, .ref (ad 31 18), .ref (ad 31 19), .ref (ad 31 20), .int 0, .ref (ad 31 21), .ref (ad 31 22), .int y_8.oldLength, .int y_8.oldWaits, .int y_8.oldGiven])) := by have h9 := rm_at.o hR; exact h9
      refine pw_calli (va_runV (As := [.int l1, .int l2]) (rest := []) ⟨hx, hb, hml, hown, hts0⟩ (k_M_writeObject hR hy_15 _) (cwV 2 hts0 (wd_V wd_938 wd_935 wd_937 wd_32 wd_56) rfl rfl rfl (by decide +kernel) ⟨Nat.le_of_ble_eq_true rfl, Nat.le_of_ble_eq_true rfl⟩) (pw_preV hZ hw hA hK hz rfl hc_16 rfl) rfl rfl hl.1 rfl (lv_room (Nat.le_of_ble_eq_true rfl)) d_M_write_31 ⟨Nat.le_of_ble_eq_true rfl, Nat.le_of_ble_eq_true rfl⟩) hw hA (fun r_19 ad_17 C_18 H locs hp hw => ?_)
      obtain ⟨⟨hae, hR, hf1⟩, hre⟩ := hp
      rw [hre]
      rw [hae] at hw
      clear hae
      have hfr : rm_fr C C_18 := fun x y h9 => (hf1 x y h9).trans (hfr x y h9)
      clear hf1
      refine lv_istore_n (lv' := [(3, .int y_15.1), (0, .ref (ad 30 0)), (1, .int l1), (2, .int l2)]) hx hb d_M_write_34 rfl hl (by decide) rfl (fun ls hl => ?_)
      have lp_20 : ∀ (K : Int32 → Int32 → Int32 → RS → Option (Int32 × RS)), (∀ (x3_20 : Int32) (x1_20 : Int32) (x2_20 : Int32) (r : RS) (C1 : pw_C) (H : Heap) (locs : List Loc) (ls : Array Slot), K x3_20 x1_20 x2_20 r = some res → rm_at ca ad C1 r → rm_fr C C1 → pw_H D cls9 A s.heap ad C ad C1 H locs → lv_has ls 4 [(3, .int x3_20), (0, .ref (ad 30 0)), (1, .int x1_20), (2, .int x2_20)] → W p l e ({ frames := 7, cells := 0, slots := 0, locals := 163 }) s m args below meth c H locs 0 0 (MQ below (pw_Q D cls9 ad C (pw_pi (fun v ad' C' => (ad' = ad ∧ rm_at ca ad C' res.2 ∧ rm_fr C C') ∧ v = res.1)) A) args s 0 0 A) (F0 m 72 ls [])) → ∀ (n : Nat) (x3_20 : Int32) (x1_20 : Int32) (x2_20 : Int32) (r : RS) (C1 : pw_C) (H : Heap) (locs : List Loc) (ls : Array Slot), m_write_35 K n x3_20 x1_20 x2_20 r = some res → rm_at ca ad C1 r → rm_fr C C1 → pw_H D cls9 A s.heap ad C ad C1 H locs → lv_has ls 4 [(3, .int x3_20), (0, .ref (ad 30 0)), (1, .int x1_20), (2, .int x2_20)] → W p l e ({ frames := 7, cells := 0, slots := 0, locals := 163 }) s m args below meth c H locs 0 0 (MQ below (pw_Q D cls9 ad C (pw_pi (fun v ad' C' => (ad' = ad ∧ rm_at ca ad C' res.2 ∧ rm_fr C C') ∧ v = res.1)) A) args s 0 0 A) (F0 m 35 ls []) := by
        intro K hKK n
        induction n with
        | zero => intro x3_20 x1_20 x2_20 r C1 H locs ls hE; rw [m_write_35] at hE; exact absurd hE (by simp)
        | succ n ih =>
          intro x3_20 x1_20 x2_20 r C1 H locs ls hE hR hfr hw hl
          rw [m_write_35] at hE
          refine lv_aload_n hx hb d_M_write_35 rfl (lv_at hl 1 rfl) ?_
          have hc_21 : C1 30 0 = some (.inr (4, [.ref (ad 31 0), .ref (ad 31 1), .ref (ad 31 2), .ref (ad 31 3), .ref (ad 31 4), .ref (ad 31 5), .ref (ad 31 6), .ref (ad 31 7), .ref (ad 31 8), .ref (ad 31 9), .ref (ad 31 10), .ref (ad 31 11), .ref (ad 31 12), .ref (ad 31 13), .ref (ad 31 14), .int r.objects, .ref (ad 31 15), .int r.length, .ref (ad 31 16), .int r.waits, .ref (ad 31 17), .int r.given, .ref (ad 31 18), .ref (ad 31 19), .ref (ad 31 20), .int r.left, .ref (ad 31 21), .ref (ad 31 22), .int r.oldLength, .int r.oldWaits, .int r.oldGiven])) := by have h9 := rm_at.o hR; exact h9
          refine pw_get (Cn := "GraphWriterModel") (T := F_M) (N := 31) hx hb hts in_M hown hK hw 30 0 rfl hc_21 rfl 25 (by decide) (hts _ wd_779) (fun _ h9 => h9) rfl d_M_write_36 ?_
          refine lv_if_le (tgt := 72) hx hb d_M_write_39 (by decide) (fun c_22 => ?_) (fun c_22 => ?_)
          · rw [if_pos c_22] at hE
            exact hKK _ _ _ _ _ _ _ _ hE hR hfr hw (lv_sub hl [0, 1, 2, 3] rfl)
          · rw [if_neg c_22] at hE
            refine lv_aload_n hx hb d_M_write_42 rfl (lv_at hl 1 rfl) ?_
            refine pw_get (Cn := "GraphWriterModel") (T := F_M) (N := 31) hx hb hts in_M hown hK hw 30 0 rfl hc_21 rfl 17 (by decide) (hts _ wd_771) (fun _ h9 => h9) rfl d_M_write_43 ?_
            refine lv_sipush (v := 1400) hx hb d_M_write_46 (by decide) ?_
            refine lv_icmp_gt (tgt := 72) hx hb d_M_write_49 (by decide) (fun c_23 => ?_) (fun c_23 => ?_)
            · rw [if_pos c_23] at hE
              exact hKK _ _ _ _ _ _ _ _ hE hR hfr hw (lv_sub hl [0, 1, 2, 3] rfl)
            · rw [if_neg c_23] at hE
              refine lv_aload_n hx hb d_M_write_52 rfl (lv_at hl 1 rfl) ?_
              obtain ⟨y_24, hy_24, hE⟩ := ob_some hE
              refine pw_calli (va_runV (As := []) (rest := []) ⟨hx, hb, hml, hown, hts0⟩ (k_M_doOne hR hy_24 _) (cwV 0 hts0 (wd_V wd_1041 wd_1038 wd_1040 wd_49 wd_56) rfl rfl rfl (by decide +kernel) ⟨Nat.le_of_ble_eq_true rfl, Nat.le_of_ble_eq_true rfl⟩) (pw_preV hZ hw hA hK hz rfl hc_21 rfl) rfl rfl hl.1 rfl (lv_room (Nat.le_of_ble_eq_true rfl)) d_M_write_53 ⟨Nat.le_of_ble_eq_true rfl, Nat.le_of_ble_eq_true rfl⟩) hw hA (fun r_27 ad_25 C_26 H locs hp hw => ?_)
              obtain ⟨⟨hae, hR, hf1⟩, hre⟩ := hp
              rw [hre]
              rw [hae] at hw
              clear hae
              have hfr : rm_fr C C_26 := fun x y h9 => (hf1 x y h9).trans (hfr x y h9)
              clear hf1
              refine lv_if_eq (tgt := 67) hx hb d_M_write_56 (by decide) (fun c_28 => ?_) (fun c_28 => ?_)
              · rw [if_pos c_28] at hE
                refine lv_iconst (v := 0) hx hb d_M_write_67 (by decide) ?_
                refine lv_istore_n (lv' := [(3, .int 0), (0, .ref (ad 30 0)), (1, .int x1_20), (2, .int x2_20)]) hx hb d_M_write_68 rfl hl (by decide) rfl (fun ls hl => ?_)
                refine lv_goto (tgt := 35) hx hb d_M_write_69 (by decide) ?_
                exact ih _ _ _ _ _ _ _ _ hE hR hfr hw (lv_sub hl [0, 1, 2, 3] rfl)
              · rw [if_neg c_28] at hE
                refine lv_iload_n hx hb d_M_write_59 rfl (lv_at hl 0 rfl) ?_
                refine lv_if_eq (tgt := 67) hx hb d_M_write_60 (by decide) (fun c_29 => ?_) (fun c_29 => ?_)
                · rw [if_pos c_29] at hE
                  refine lv_iconst (v := 0) hx hb d_M_write_67 (by decide) ?_
                  refine lv_istore_n (lv' := [(3, .int 0), (0, .ref (ad 30 0)), (1, .int x1_20), (2, .int x2_20)]) hx hb d_M_write_68 rfl hl (by decide) rfl (fun ls hl => ?_)
                  refine lv_goto (tgt := 35) hx hb d_M_write_69 (by decide) ?_
                  exact ih _ _ _ _ _ _ _ _ hE hR hfr hw (lv_sub hl [0, 1, 2, 3] rfl)
                · rw [if_neg c_29] at hE
                  refine lv_iconst (v := 1) hx hb d_M_write_63 (by decide) ?_
                  refine lv_goto (tgt := 68) hx hb d_M_write_64 (by decide) ?_
                  refine lv_istore_n (lv' := [(3, .int 1), (0, .ref (ad 30 0)), (1, .int x1_20), (2, .int x2_20)]) hx hb d_M_write_68 rfl hl (by decide) rfl (fun ls hl => ?_)
                  refine lv_goto (tgt := 35) hx hb d_M_write_69 (by decide) ?_
                  exact ih _ _ _ _ _ _ _ _ hE hR hfr hw (lv_sub hl [0, 1, 2, 3] rfl)
      refine lp_20 _ (fun z3_20 z1_20 z2_20 r_30 C_31 H locs ls hE hR hfr hw hl => ?_) 1000 _ _ _ _ _ _ _ _ hE hR hfr hw hl
      try dsimp only at hE
      refine lv_aload_n hx hb d_M_write_72 rfl (lv_at hl 1 rfl) ?_
      obtain ⟨y_32, hy_32, hE⟩ := ob_some hE
      have hc_33 : C_31 30 0 = some (.inr (4, [.ref (ad 31 0), .ref (ad 31 1), .ref (ad 31 2), .ref (ad 31 3), .ref (ad 31 4), .ref (ad 31 5), .ref (ad 31 6), .ref (ad 31 7), .ref (ad 31 8), .ref (ad 31 9), .ref (ad 31 10), .ref (ad 31 11), .ref (ad 31 12), .ref (ad 31 13), .ref (ad 31 14), .int r_30.objects, .ref (ad 31 15), .int r_30.length, .ref (ad 31 16), .int r_30.waits, .ref (ad 31 17), .int r_30.given, .ref (ad 31 18), .ref (ad 31 19), .ref (ad 31 20), .int r_30.left, .ref (ad 31 21), .ref (ad 31 22), .int r_30.oldLength, .int r_30.oldWaits, .int r_30.oldGiven])) := by have h9 := rm_at.o hR; exact h9
      refine pw_calli (va_runV (As := []) (rest := []) ⟨hx, hb, hml, hown, hts0⟩ (k_M_tooLong hR hy_32 _) (cwV 0 hts0 (wd_V wd_1050 wd_1047 wd_1049 wd_51 wd_56) rfl rfl rfl (by decide +kernel) ⟨Nat.le_of_ble_eq_true rfl, Nat.le_of_ble_eq_true rfl⟩) (pw_preV hZ hw hA hK hz rfl hc_33 rfl) rfl rfl hl.1 rfl (lv_room (Nat.le_of_ble_eq_true rfl)) d_M_write_73 ⟨Nat.le_of_ble_eq_true rfl, Nat.le_of_ble_eq_true rfl⟩) hw hA (fun r_36 ad_34 C_35 H locs hp hw => ?_)
      obtain ⟨⟨hae, hR, hf1⟩, hre⟩ := hp
      rw [hre]
      rw [hae] at hw
      clear hae
      have hfr : rm_fr C C_35 := fun x y h9 => (hf1 x y h9).trans (hfr x y h9)
      clear hf1
      refine lv_if_eq (tgt := 82) hx hb d_M_write_76 (by decide) (fun c_37 => ?_) (fun c_37 => ?_)
      · rw [if_pos c_37] at hE
        refine lv_iload_n hx hb d_M_write_82 rfl (lv_at hl 0 rfl) ?_
        refine lv_if_eq (tgt := 93) hx hb d_M_write_83 (by decide) (fun c_38 => ?_) (fun c_38 => ?_)
        · rw [if_pos c_38] at hE
          refine lv_bipush (v := (-3)) hx hb d_M_write_93 (by decide) ?_
          obtain rfl := Option.some.inj hE
          exact pw_iret hx hb hr hlocks hw ⟨⟨rfl, hR, hfr⟩, rfl⟩ d_M_write_95
        · rw [if_neg c_38] at hE
          refine lv_aload_n hx hb d_M_write_86 rfl (lv_at hl 1 rfl) ?_
          have hc_39 : C_35 30 0 = some (.inr (4, [.ref (ad 31 0), .ref (ad 31 1), .ref (ad 31 2), .ref (ad 31 3), .ref (ad 31 4), .ref (ad 31 5), .ref (ad 31 6), .ref (ad 31 7), .ref (ad 31 8), .ref (ad 31 9), .ref (ad 31 10), .ref (ad 31 11), .ref (ad 31 12), .ref (ad 31 13), .ref (ad 31 14), .int y_32.2.objects, .ref (ad 31 15), .int y_32.2.length, .ref (ad 31 16), .int y_32.2.waits, .ref (ad 31 17), .int y_32.2.given, .ref (ad 31 18), .ref (ad 31 19), .ref (ad 31 20), .int y_32.2.left, .ref (ad 31 21), .ref (ad 31 22), .int y_32.2.oldLength, .int y_32.2.oldWaits, .int y_32.2.oldGiven])) := by have h9 := rm_at.o hR; exact h9
          refine pw_get (Cn := "GraphWriterModel") (T := F_M) (N := 31) hx hb hts in_M hown hK hw 30 0 rfl hc_39 rfl 17 (by decide) (hts _ wd_771) (fun _ h9 => h9) rfl d_M_write_87 ?_
          refine lv_goto (tgt := 95) hx hb d_M_write_90 (by decide) ?_
          obtain rfl := Option.some.inj hE
          exact pw_iret hx hb hr hlocks hw ⟨⟨rfl, hR, hfr⟩, rfl⟩ d_M_write_95
      · rw [if_neg c_37] at hE
        refine lv_bipush (v := (-2)) hx hb d_M_write_79 (by decide) ?_
        obtain rfl := Option.some.inj hE
        exact pw_iret hx hb hr hlocks hw ⟨⟨rfl, hR, hfr⟩, rfl⟩ d_M_write_81
    · rw [if_neg c_3] at hE
      refine lv_iconst (v := (-1)) hx hb d_M_write_13 (by decide) ?_
      obtain rfl := Option.some.inj hE
      exact pw_iret hx hb hr hlocks hw ⟨⟨rfl, hR, hfr⟩, rfl⟩ d_M_write_14
def m_reset  (r : RS) : Option (Int32 × RS) := Option.bind (m_remember  r) (fun y_1 => Option.bind (m_flush  y_1) (fun y_6 => Option.bind (m_append 121 1 y_6) (fun y_11 => Option.bind (m_noHandles  y_11) (fun y_16 => Option.bind (m_tooLong  y_16) (fun y_21 => if (y_21.1 : Int32) = 0 then (some (y_21.2.length, y_21.2)) else (some ((-2), y_21.2)))))))
set_option maxHeartbeats 4000000 in
set_option maxRecDepth 100000 in
theorem k_M_reset {l : Launch} {D : va_G} {ca : Nat → ClassId} {kS : Nat → Nat} {kT : Nat} {ad : pw_A} {C : pw_C} {r : RS} (hR : rm_at ca ad C r)  {res : (Int32 × RS)} (hE : m_reset  r = some res) : gc_Con l y_M_reset c_M_reset ({ frames := 2, cells := 0, slots := 0, locals := 45 }) D ca (z9_Z kS kT) [.ref (ad 30 0)] ad C (pw_pi (fun v ad' C' => (ad' = ad ∧ rm_at ca ad C' res.2 ∧ rm_fr C C') ∧ v = res.1)) 0 0 := by
  have hZ := z9_ok kS kT
  refine pw_ofW (cc := b_M_reset) (maxL := 1) (ret := (some FieldType.int)) (by decide) rfl (Nat.le_of_ble_eq_true rfl) ?_
  intro p e s m args below meth c A ls hB hA hw hK hz hl
  obtain ⟨hx, hb, hr, hml, hts0, hlocks, hown, hnm⟩ := hB
  have hts := wd_hts hts0
  have hown : s.vm.findClass "GraphWriterModel" = some m.cls := hown
  have hl : lv_has ls 1 [(0, .ref (ad 30 0))] := hl
  have hfr : rm_fr C C := fun _ _ _ => rfl
  unfold m_reset at hE
  refine lv_aload_n hx hb d_M_reset_0 rfl (lv_at hl 0 rfl) ?_
  obtain ⟨y_1, hy_1, hE⟩ := ob_some hE
  have hc_2 : C 30 0 = some (.inr (4, [.ref (ad 31 0), .ref (ad 31 1), .ref (ad 31 2), .ref (ad 31 3), .ref (ad 31 4), .ref (ad 31 5), .ref (ad 31 6), .ref (ad 31 7), .ref (ad 31 8), .ref (ad 31 9), .ref (ad 31 10), .ref (ad 31 11), .ref (ad 31 12), .ref (ad 31 13), .ref (ad 31 14), .int r.objects, .ref (ad 31 15), .int r.length, .ref (ad 31 16), .int r.waits, .ref (ad 31 17), .int r.given, .ref (ad 31 18), .ref (ad 31 19), .ref (ad 31 20), .int r.left, .ref (ad 31 21), .ref (ad 31 22), .int r.oldLength, .int r.oldWaits, .int r.oldGiven])) := by have h9 := rm_at.o hR; exact h9
  refine pw_callv (va_runV (As := []) (rest := []) ⟨hx, hb, hml, hown, hts0⟩ (k_M_remember hR hy_1 _) (cwV 0 hts0 (wd_V wd_934 wd_931 wd_933 wd_31 wd_56) rfl rfl rfl (by decide +kernel) ⟨Nat.le_of_ble_eq_true rfl, Nat.le_of_ble_eq_true rfl⟩) (pw_preV hZ hw hA hK hz rfl hc_2 rfl) rfl rfl hl.1 rfl (lv_room (Nat.le_of_ble_eq_true rfl)) d_M_reset_1 ⟨Nat.le_of_ble_eq_true rfl, Nat.le_of_ble_eq_true rfl⟩) hw hA (fun ad_3 C_4 H locs hp hw => ?_)
  obtain ⟨hae, hR, hf1⟩ := hp
  rw [hae] at hw
  clear hae
  have hfr : rm_fr C C_4 := fun x y h9 => (hf1 x y h9).trans (hfr x y h9)
  clear hf1
  refine lv_aload_n hx hb d_M_reset_4 rfl (lv_at hl 0 rfl) ?_
  obtain ⟨y_6, hy_6, hE⟩ := ob_some hE
  have hc_7 : C_4 30 0 = some (.inr (4, [.ref (ad 31 0), .ref (ad 31 1), .ref (ad 31 2), .ref (ad 31 3), .ref (ad 31 4), .ref (ad 31 5), .ref (ad 31 6), .ref (ad 31 7), .ref (ad 31 8), .ref (ad 31 9), .ref (ad 31 10), .ref (ad 31 11), .ref (ad 31 12), .ref (ad 31 13), .ref (ad 31 14), .int y_1.objects, .ref (ad 31 15), .int y_1.length, .ref (ad 31 16), .int y_1.waits, .ref (ad 31 17), .int y_1.given, .ref (ad 31 18), .ref (ad 31 19), .ref (ad 31 20), .int y_1.left, .ref (ad 31 21), .ref (ad 31 22), .int y_1.oldLength, .int y_1.oldWaits, .int y_1.oldGiven])) := by have h9 := rm_at.o hR; exact h9
  refine pw_callv (va_runV (As := []) (rest := []) ⟨hx, hb, hml, hown, hts0⟩ (k_M_flush hR hy_6 _) (cwV 0 hts0 (wd_V wd_925 wd_922 wd_924 wd_30 wd_56) rfl rfl rfl (by decide +kernel) ⟨Nat.le_of_ble_eq_true rfl, Nat.le_of_ble_eq_true rfl⟩) (pw_preV hZ hw hA hK hz rfl hc_7 rfl) rfl rfl hl.1 rfl (lv_room (Nat.le_of_ble_eq_true rfl)) d_M_reset_5 ⟨Nat.le_of_ble_eq_true rfl, Nat.le_of_ble_eq_true rfl⟩) hw hA (fun ad_8 C_9 H locs hp hw => ?_)
  obtain ⟨hae, hR, hf1⟩ := hp
  rw [hae] at hw
  clear hae
  have hfr : rm_fr C C_9 := fun x y h9 => (hf1 x y h9).trans (hfr x y h9)
  clear hf1
  refine lv_aload_n hx hb d_M_reset_8 rfl (lv_at hl 0 rfl) ?_
  refine lv_ldc2 (v := 121) hx hb hown (hts _ wd_1032) d_M_reset_9 ?_
  refine lv_iconst (v := 1) hx hb d_M_reset_12 (by decide) ?_
  obtain ⟨y_11, hy_11, hE⟩ := ob_some hE
  have hc_12 : C_9 30 0 = some (.inr (4, [.ref (ad 31 0), .ref (ad 31 1), .ref (ad 31 2), .ref (ad 31 3), .ref (ad 31 4), .ref (ad 31 5), .ref (ad 31 6), .ref (ad 31 7), .ref (ad 31 8), .ref (ad 31 9), .ref (ad 31 10), .ref (ad 31 11), .ref (ad 31 12), .ref (ad 31 13), .ref (ad 31 14), .int y_6.objects, .ref (ad 31 15), .int y_6.length, .ref (ad 31 16), .int y_6.waits, .ref (ad 31 17), .int y_6.given, .ref (ad 31 18), .ref (ad 31 19), .ref (ad 31 20), .int y_6.left, .ref (ad 31 21), .ref (ad 31 22), .int y_6.oldLength, .int y_6.oldWaits, .int y_6.oldGiven])) := by have h9 := rm_at.o hR; exact h9
  refine pw_callv (va_runV (As := [.long 121, .int 1]) (rest := []) ⟨hx, hb, hml, hown, hts0⟩ (k_M_append hR hy_11 _) (cwV 2 hts0 (wd_V wd_748 wd_745 wd_747 wd_20 wd_56) rfl rfl rfl (by decide +kernel) ⟨Nat.le_of_ble_eq_true rfl, Nat.le_of_ble_eq_true rfl⟩) (pw_preV hZ hw hA hK hz rfl hc_12 rfl) rfl rfl hl.1 rfl (lv_room (Nat.le_of_ble_eq_true rfl)) d_M_reset_13 ⟨Nat.le_of_ble_eq_true rfl, Nat.le_of_ble_eq_true rfl⟩) hw hA (fun ad_13 C_14 H locs hp hw => ?_)
  obtain ⟨hae, hR, hf1⟩ := hp
  rw [hae] at hw
  clear hae
  have hfr : rm_fr C C_14 := fun x y h9 => (hf1 x y h9).trans (hfr x y h9)
  clear hf1
  refine lv_aload_n hx hb d_M_reset_16 rfl (lv_at hl 0 rfl) ?_
  obtain ⟨y_16, hy_16, hE⟩ := ob_some hE
  have hc_17 : C_14 30 0 = some (.inr (4, [.ref (ad 31 0), .ref (ad 31 1), .ref (ad 31 2), .ref (ad 31 3), .ref (ad 31 4), .ref (ad 31 5), .ref (ad 31 6), .ref (ad 31 7), .ref (ad 31 8), .ref (ad 31 9), .ref (ad 31 10), .ref (ad 31 11), .ref (ad 31 12), .ref (ad 31 13), .ref (ad 31 14), .int y_11.objects, .ref (ad 31 15), .int y_11.length, .ref (ad 31 16), .int y_11.waits, .ref (ad 31 17), .int y_11.given, .ref (ad 31 18), .ref (ad 31 19), .ref (ad 31 20), .int y_11.left, .ref (ad 31 21), .ref (ad 31 22), .int y_11.oldLength, .int y_11.oldWaits, .int y_11.oldGiven])) := by have h9 := rm_at.o hR; exact h9
  refine pw_callv (va_runV (As := []) (rest := []) ⟨hx, hb, hml, hown, hts0⟩ (k_M_noHandles hR hy_16 _) (cwV 0 hts0 (wd_V wd_753 wd_750 wd_752 wd_21 wd_56) rfl rfl rfl (by decide +kernel) ⟨Nat.le_of_ble_eq_true rfl, Nat.le_of_ble_eq_true rfl⟩) (pw_preV hZ hw hA hK hz rfl hc_17 rfl) rfl rfl hl.1 rfl (lv_room (Nat.le_of_ble_eq_true rfl)) d_M_reset_17 ⟨Nat.le_of_ble_eq_true rfl, Nat.le_of_ble_eq_true rfl⟩) hw hA (fun ad_18 C_19 H locs hp hw => ?_)
  obtain ⟨hae, hR, hf1⟩ := hp
  rw [hae] at hw
  clear hae
  have hfr : rm_fr C C_19 := fun x y h9 => (hf1 x y h9).trans (hfr x y h9)
  clear hf1
  refine lv_aload_n hx hb d_M_reset_20 rfl (lv_at hl 0 rfl) ?_
  obtain ⟨y_21, hy_21, hE⟩ := ob_some hE
  have hc_22 : C_19 30 0 = some (.inr (4, [.ref (ad 31 0), .ref (ad 31 1), .ref (ad 31 2), .ref (ad 31 3), .ref (ad 31 4), .ref (ad 31 5), .ref (ad 31 6), .ref (ad 31 7), .ref (ad 31 8), .ref (ad 31 9), .ref (ad 31 10), .ref (ad 31 11), .ref (ad 31 12), .ref (ad 31 13), .ref (ad 31 14), .int y_16.objects, .ref (ad 31 15), .int y_16.length, .ref (ad 31 16), .int y_16.waits, .ref (ad 31 17), .int y_16.given, .ref (ad 31 18), .ref (ad 31 19), .ref (ad 31 20), .int y_16.left, .ref (ad 31 21), .ref (ad 31 22), .int y_16.oldLength, .int y_16.oldWaits, .int y_16.oldGiven])) := by have h9 := rm_at.o hR; exact h9
  refine pw_calli (va_runV (As := []) (rest := []) ⟨hx, hb, hml, hown, hts0⟩ (k_M_tooLong hR hy_21 _) (cwV 0 hts0 (wd_V wd_1050 wd_1047 wd_1049 wd_51 wd_56) rfl rfl rfl (by decide +kernel) ⟨Nat.le_of_ble_eq_true rfl, Nat.le_of_ble_eq_true rfl⟩) (pw_preV hZ hw hA hK hz rfl hc_22 rfl) rfl rfl hl.1 rfl (lv_room (Nat.le_of_ble_eq_true rfl)) d_M_reset_21 ⟨Nat.le_of_ble_eq_true rfl, Nat.le_of_ble_eq_true rfl⟩) hw hA (fun r_25 ad_23 C_24 H locs hp hw => ?_)
  obtain ⟨⟨hae, hR, hf1⟩, hre⟩ := hp
  rw [hre]
  rw [hae] at hw
  clear hae
  have hfr : rm_fr C C_24 := fun x y h9 => (hf1 x y h9).trans (hfr x y h9)
  clear hf1
  refine lv_if_eq (tgt := 32) hx hb d_M_reset_24 (by decide) (fun c_26 => ?_) (fun c_26 => ?_)
  · rw [if_pos c_26] at hE
    refine lv_aload_n hx hb d_M_reset_32 rfl (lv_at hl 0 rfl) ?_
    have hc_27 : C_24 30 0 = some (.inr (4, [.ref (ad 31 0), .ref (ad 31 1), .ref (ad 31 2), .ref (ad 31 3), .ref (ad 31 4), .ref (ad 31 5), .ref (ad 31 6), .ref (ad 31 7), .ref (ad 31 8), .ref (ad 31 9), .ref (ad 31 10), .ref (ad 31 11), .ref (ad 31 12), .ref (ad 31 13), .ref (ad 31 14), .int y_21.2.objects, .ref (ad 31 15), .int y_21.2.length, .ref (ad 31 16), .int y_21.2.waits, .ref (ad 31 17), .int y_21.2.given, .ref (ad 31 18), .ref (ad 31 19), .ref (ad 31 20), .int y_21.2.left, .ref (ad 31 21), .ref (ad 31 22), .int y_21.2.oldLength, .int y_21.2.oldWaits, .int y_21.2.oldGiven])) := by have h9 := rm_at.o hR; exact h9
    refine pw_get (Cn := "GraphWriterModel") (T := F_M) (N := 31) hx hb hts in_M hown hK hw 30 0 rfl hc_27 rfl 17 (by decide) (hts _ wd_771) (fun _ h9 => h9) rfl d_M_reset_33 ?_
    obtain rfl := Option.some.inj hE
    exact pw_iret hx hb hr hlocks hw ⟨⟨rfl, hR, hfr⟩, rfl⟩ d_M_reset_36
  · rw [if_neg c_26] at hE
    refine lv_bipush (v := (-2)) hx hb d_M_reset_27 (by decide) ?_
    refine lv_goto (tgt := 36) hx hb d_M_reset_29 (by decide) ?_
    obtain rfl := Option.some.inj hE
    exact pw_iret hx hb hr hlocks hw ⟨⟨rfl, hR, hfr⟩, rfl⟩ d_M_reset_36
def m_byteAt (l1 : Int32) (r : RS) : Option (Int32 × RS) := Option.bind (m_out l1 r.length r) (fun y_2 => if (y_2.1 : Int32) = 0 then (Option.bind (rd y_2.2.stream 1700 l1) (fun v_9 => some (v_9, y_2.2))) else (some ((-1), y_2.2)))
set_option maxHeartbeats 4000000 in
set_option maxRecDepth 100000 in
theorem k_M_byteAt {l : Launch} {D : va_G} {ca : Nat → ClassId} {kS : Nat → Nat} {kT : Nat} {ad : pw_A} {C : pw_C} {r : RS} (hR : rm_at ca ad C r) {l1 : Int32} {res : (Int32 × RS)} (hE : m_byteAt l1 r = some res) : gc_Con l y_M_byteAt c_M_byteAt ({ frames := 1, cells := 0, slots := 0, locals := 22 }) D ca (z9_Z kS kT) [.ref (ad 30 0), .int l1] ad C (pw_pi (fun v ad' C' => (ad' = ad ∧ rm_at ca ad C' res.2 ∧ rm_fr C C') ∧ v = res.1)) 0 0 := by
  have hZ := z9_ok kS kT
  refine pw_ofW (cc := b_M_byteAt) (maxL := 2) (ret := (some FieldType.int)) (by decide) rfl (Nat.le_of_ble_eq_true rfl) ?_
  intro p e s m args below meth c A ls hB hA hw hK hz hl
  obtain ⟨hx, hb, hr, hml, hts0, hlocks, hown, hnm⟩ := hB
  have hts := wd_hts hts0
  have hown : s.vm.findClass "GraphWriterModel" = some m.cls := hown
  have hl : lv_has ls 2 [(0, .ref (ad 30 0)), (1, .int l1)] := hl
  have hfr : rm_fr C C := fun _ _ _ => rfl
  unfold m_byteAt at hE
  refine lv_aload_n hx hb d_M_byteAt_0 rfl (lv_at hl 0 rfl) ?_
  refine lv_iload_n hx hb d_M_byteAt_1 rfl (lv_at hl 1 rfl) ?_
  refine lv_aload_n hx hb d_M_byteAt_2 rfl (lv_at hl 0 rfl) ?_
  have hc_1 : C 30 0 = some (.inr (4, [.ref (ad 31 0), .ref (ad 31 1), .ref (ad 31 2), .ref (ad 31 3), .ref (ad 31 4), .ref (ad 31 5), .ref (ad 31 6), .ref (ad 31 7), .ref (ad 31 8), .ref (ad 31 9), .ref (ad 31 10), .ref (ad 31 11), .ref (ad 31 12), .ref (ad 31 13), .ref (ad 31 14), .int r.objects, .ref (ad 31 15), .int r.length, .ref (ad 31 16), .int r.waits, .ref (ad 31 17), .int r.given, .ref (ad 31 18), .ref (ad 31 19), .ref (ad 31 20), .int r.left, .ref (ad 31 21), .ref (ad 31 22), .int r.oldLength, .int r.oldWaits, .int r.oldGiven])) := by have h9 := rm_at.o hR; exact h9
  refine pw_get (Cn := "GraphWriterModel") (T := F_M) (N := 31) hx hb hts in_M hown hK hw 30 0 rfl hc_1 rfl 17 (by decide) (hts _ wd_771) (fun _ h9 => h9) rfl d_M_byteAt_3 ?_
  obtain ⟨y_2, hy_2, hE⟩ := ob_some hE
  refine pw_calli (va_runV (As := [.int l1, .int r.length]) (rest := []) ⟨hx, hb, hml, hown, hts0⟩ (k_M_out hR hy_2 _) (cwV 2 hts0 (wd_V wd_856 wd_853 wd_855 wd_22 wd_56) rfl rfl rfl (by decide +kernel) ⟨Nat.le_of_ble_eq_true rfl, Nat.le_of_ble_eq_true rfl⟩) (pw_preV hZ hw hA hK hz rfl hc_1 rfl) rfl rfl hl.1 rfl (lv_room (Nat.le_of_ble_eq_true rfl)) d_M_byteAt_6 ⟨Nat.le_of_ble_eq_true rfl, Nat.le_of_ble_eq_true rfl⟩) hw hA (fun r_5 ad_3 C_4 H locs hp hw => ?_)
  obtain ⟨⟨hae, hR, hf1⟩, hre⟩ := hp
  rw [hre]
  rw [hae] at hw
  clear hae
  have hfr : rm_fr C C_4 := fun x y h9 => (hf1 x y h9).trans (hfr x y h9)
  clear hf1
  refine lv_if_eq (tgt := 16) hx hb d_M_byteAt_9 (by decide) (fun c_6 => ?_) (fun c_6 => ?_)
  · rw [if_pos c_6] at hE
    refine lv_aload_n hx hb d_M_byteAt_16 rfl (lv_at hl 0 rfl) ?_
    have hc_7 : C_4 30 0 = some (.inr (4, [.ref (ad 31 0), .ref (ad 31 1), .ref (ad 31 2), .ref (ad 31 3), .ref (ad 31 4), .ref (ad 31 5), .ref (ad 31 6), .ref (ad 31 7), .ref (ad 31 8), .ref (ad 31 9), .ref (ad 31 10), .ref (ad 31 11), .ref (ad 31 12), .ref (ad 31 13), .ref (ad 31 14), .int y_2.2.objects, .ref (ad 31 15), .int y_2.2.length, .ref (ad 31 16), .int y_2.2.waits, .ref (ad 31 17), .int y_2.2.given, .ref (ad 31 18), .ref (ad 31 19), .ref (ad 31 20), .int y_2.2.left, .ref (ad 31 21), .ref (ad 31 22), .int y_2.2.oldLength, .int y_2.2.oldWaits, .int y_2.2.oldGiven])) := by have h9 := rm_at.o hR; exact h9
    refine pw_get (Cn := "GraphWriterModel") (T := F_M) (N := 31) hx hb hts in_M hown hK hw 30 0 rfl hc_7 rfl 16 (by decide) (hts _ wd_770) (fun _ h9 => h9) rfl d_M_byteAt_17 ?_
    refine lv_iload_n hx hb d_M_byteAt_20 rfl (lv_at hl 1 rfl) ?_
    have hc_8 : C_4 31 15 = some (.inl (ca 0, 1700, .inl y_2.2.stream)) := by have h9 := rm_at.a15 hR; exact h9
    obtain ⟨v_9, hv_9, hE⟩ := ob_some hE
    obtain ⟨hi_v_9, hj_v_9, he_v_9⟩ := rd_some (by decide) hv_9
    refine pw_iald hx hb hK hw 31 15 rfl 0 hc_8 rfl (l1 : Int32).toNatClampNeg hi_v_9 (by omega) (by omega) d_M_byteAt_21 ?_
    rw [← he_v_9]
    obtain rfl := Option.some.inj hE
    exact pw_iret hx hb hr hlocks hw ⟨⟨rfl, hR, hfr⟩, rfl⟩ d_M_byteAt_22
  · rw [if_neg c_6] at hE
    refine lv_iconst (v := (-1)) hx hb d_M_byteAt_12 (by decide) ?_
    refine lv_goto (tgt := 22) hx hb d_M_byteAt_13 (by decide) ?_
    obtain rfl := Option.some.inj hE
    exact pw_iret hx hb hr hlocks hw ⟨⟨rfl, hR, hfr⟩, rfl⟩ d_M_byteAt_22
def m_handle (l1 : Int32) (r : RS) : Option (Int32 × RS) := Option.bind (m_out l1 r.objects r) (fun y_2 => if (y_2.1 : Int32) = 0 then (Option.bind (rd y_2.2.handles 51 l1) (fun v_9 => some (v_9, y_2.2))) else (some ((-1), y_2.2)))
set_option maxHeartbeats 4000000 in
set_option maxRecDepth 100000 in
theorem k_M_handle {l : Launch} {D : va_G} {ca : Nat → ClassId} {kS : Nat → Nat} {kT : Nat} {ad : pw_A} {C : pw_C} {r : RS} (hR : rm_at ca ad C r) {l1 : Int32} {res : (Int32 × RS)} (hE : m_handle l1 r = some res) : gc_Con l y_M_handle c_M_handle ({ frames := 1, cells := 0, slots := 0, locals := 22 }) D ca (z9_Z kS kT) [.ref (ad 30 0), .int l1] ad C (pw_pi (fun v ad' C' => (ad' = ad ∧ rm_at ca ad C' res.2 ∧ rm_fr C C') ∧ v = res.1)) 0 0 := by
  have hZ := z9_ok kS kT
  refine pw_ofW (cc := b_M_handle) (maxL := 2) (ret := (some FieldType.int)) (by decide) rfl (Nat.le_of_ble_eq_true rfl) ?_
  intro p e s m args below meth c A ls hB hA hw hK hz hl
  obtain ⟨hx, hb, hr, hml, hts0, hlocks, hown, hnm⟩ := hB
  have hts := wd_hts hts0
  have hown : s.vm.findClass "GraphWriterModel" = some m.cls := hown
  have hl : lv_has ls 2 [(0, .ref (ad 30 0)), (1, .int l1)] := hl
  have hfr : rm_fr C C := fun _ _ _ => rfl
  unfold m_handle at hE
  refine lv_aload_n hx hb d_M_handle_0 rfl (lv_at hl 0 rfl) ?_
  refine lv_iload_n hx hb d_M_handle_1 rfl (lv_at hl 1 rfl) ?_
  refine lv_aload_n hx hb d_M_handle_2 rfl (lv_at hl 0 rfl) ?_
  have hc_1 : C 30 0 = some (.inr (4, [.ref (ad 31 0), .ref (ad 31 1), .ref (ad 31 2), .ref (ad 31 3), .ref (ad 31 4), .ref (ad 31 5), .ref (ad 31 6), .ref (ad 31 7), .ref (ad 31 8), .ref (ad 31 9), .ref (ad 31 10), .ref (ad 31 11), .ref (ad 31 12), .ref (ad 31 13), .ref (ad 31 14), .int r.objects, .ref (ad 31 15), .int r.length, .ref (ad 31 16), .int r.waits, .ref (ad 31 17), .int r.given, .ref (ad 31 18), .ref (ad 31 19), .ref (ad 31 20), .int r.left, .ref (ad 31 21), .ref (ad 31 22), .int r.oldLength, .int r.oldWaits, .int r.oldGiven])) := by have h9 := rm_at.o hR; exact h9
  refine pw_get (Cn := "GraphWriterModel") (T := F_M) (N := 31) hx hb hts in_M hown hK hw 30 0 rfl hc_1 rfl 15 (by decide) (hts _ wd_769) (fun _ h9 => h9) rfl d_M_handle_3 ?_
  obtain ⟨y_2, hy_2, hE⟩ := ob_some hE
  refine pw_calli (va_runV (As := [.int l1, .int r.objects]) (rest := []) ⟨hx, hb, hml, hown, hts0⟩ (k_M_out hR hy_2 _) (cwV 2 hts0 (wd_V wd_856 wd_853 wd_855 wd_22 wd_56) rfl rfl rfl (by decide +kernel) ⟨Nat.le_of_ble_eq_true rfl, Nat.le_of_ble_eq_true rfl⟩) (pw_preV hZ hw hA hK hz rfl hc_1 rfl) rfl rfl hl.1 rfl (lv_room (Nat.le_of_ble_eq_true rfl)) d_M_handle_6 ⟨Nat.le_of_ble_eq_true rfl, Nat.le_of_ble_eq_true rfl⟩) hw hA (fun r_5 ad_3 C_4 H locs hp hw => ?_)
  obtain ⟨⟨hae, hR, hf1⟩, hre⟩ := hp
  rw [hre]
  rw [hae] at hw
  clear hae
  have hfr : rm_fr C C_4 := fun x y h9 => (hf1 x y h9).trans (hfr x y h9)
  clear hf1
  refine lv_if_eq (tgt := 16) hx hb d_M_handle_9 (by decide) (fun c_6 => ?_) (fun c_6 => ?_)
  · rw [if_pos c_6] at hE
    refine lv_aload_n hx hb d_M_handle_16 rfl (lv_at hl 0 rfl) ?_
    have hc_7 : C_4 30 0 = some (.inr (4, [.ref (ad 31 0), .ref (ad 31 1), .ref (ad 31 2), .ref (ad 31 3), .ref (ad 31 4), .ref (ad 31 5), .ref (ad 31 6), .ref (ad 31 7), .ref (ad 31 8), .ref (ad 31 9), .ref (ad 31 10), .ref (ad 31 11), .ref (ad 31 12), .ref (ad 31 13), .ref (ad 31 14), .int y_2.2.objects, .ref (ad 31 15), .int y_2.2.length, .ref (ad 31 16), .int y_2.2.waits, .ref (ad 31 17), .int y_2.2.given, .ref (ad 31 18), .ref (ad 31 19), .ref (ad 31 20), .int y_2.2.left, .ref (ad 31 21), .ref (ad 31 22), .int y_2.2.oldLength, .int y_2.2.oldWaits, .int y_2.2.oldGiven])) := by have h9 := rm_at.o hR; exact h9
    refine pw_get (Cn := "GraphWriterModel") (T := F_M) (N := 31) hx hb hts in_M hown hK hw 30 0 rfl hc_7 rfl 20 (by decide) (hts _ wd_774) (fun _ h9 => h9) rfl d_M_handle_17 ?_
    refine lv_iload_n hx hb d_M_handle_20 rfl (lv_at hl 1 rfl) ?_
    have hc_8 : C_4 31 17 = some (.inl (ca 0, 51, .inl y_2.2.handles)) := by have h9 := rm_at.a17 hR; exact h9
    obtain ⟨v_9, hv_9, hE⟩ := ob_some hE
    obtain ⟨hi_v_9, hj_v_9, he_v_9⟩ := rd_some (by decide) hv_9
    refine pw_iald hx hb hK hw 31 17 rfl 0 hc_8 rfl (l1 : Int32).toNatClampNeg hi_v_9 (by omega) (by omega) d_M_handle_21 ?_
    rw [← he_v_9]
    obtain rfl := Option.some.inj hE
    exact pw_iret hx hb hr hlocks hw ⟨⟨rfl, hR, hfr⟩, rfl⟩ d_M_handle_22
  · rw [if_neg c_6] at hE
    refine lv_iconst (v := (-1)) hx hb d_M_handle_12 (by decide) ?_
    refine lv_goto (tgt := 22) hx hb d_M_handle_13 (by decide) ?_
    obtain rfl := Option.some.inj hE
    exact pw_iret hx hb hr hlocks hw ⟨⟨rfl, hR, hfr⟩, rfl⟩ d_M_handle_22
def m_count_4 (K : Int32 → Int32 → Int32 → RS → Option (Int32 × RS)) : Nat → Int32 → Int32 → Int32 → RS → Option (Int32 × RS)
  | 0, _, _, _, _ => none
  | n + 1, x3_1, x2_1, x1_1, r => if (6 : Int32) ≤ x3_1 then (K x3_1 x2_1 x1_1 r) else (Option.bind (rd r.defined 6 x3_1) (fun v_5 => if (v_5 : Int32) = 0 then (m_count_4 K n (x3_1 + 1) (x2_1 + 0) x1_1 r) else (m_count_4 K n (x3_1 + 1) (x2_1 + (1 <<< (x3_1 &&& 31))) x1_1 r)))
def m_count (l1 : Int32) (r : RS) : Option (Int32 × RS) := m_count_4 (fun z3_1 z2_1 z1_1 r_7 => if z1_1 = 0 then (some (r_7.length, r_7)) else if z1_1 = 1 then (some (r_7.waits, r_7)) else if z1_1 = 2 then (some (r_7.given, r_7)) else if z1_1 = 3 then (some (r_7.objects, r_7)) else if z1_1 = 4 then (some (z2_1, r_7)) else (some ((-1), r_7))) 60 0 0 l1 r
set_option maxHeartbeats 4000000 in
set_option maxRecDepth 100000 in
theorem k_M_count {l : Launch} {D : va_G} {ca : Nat → ClassId} {kS : Nat → Nat} {kT : Nat} {ad : pw_A} {C : pw_C} {r : RS} (hR : rm_at ca ad C r) {l1 : Int32} {res : (Int32 × RS)} (hE : m_count l1 r = some res) : gc_Con l y_M_count c_M_count ({ frames := 0, cells := 0, slots := 0, locals := 0 }) D ca (z9_Z kS kT) [.ref (ad 30 0), .int l1] ad C (pw_pi (fun v ad' C' => (ad' = ad ∧ rm_at ca ad C' res.2 ∧ rm_fr C C') ∧ v = res.1)) 0 0 := by
  have hZ := z9_ok kS kT
  refine pw_ofW (cc := b_M_count) (maxL := 4) (ret := (some FieldType.int)) (by decide) rfl (Nat.le_of_ble_eq_true rfl) ?_
  intro p e s m args below meth c A ls hB hA hw hK hz hl
  obtain ⟨hx, hb, hr, hml, hts0, hlocks, hown, hnm⟩ := hB
  have hts := wd_hts hts0
  have hown : s.vm.findClass "GraphWriterModel" = some m.cls := hown
  have hl : lv_has ls 4 [(0, .ref (ad 30 0)), (1, .int l1)] := hl
  have hfr : rm_fr C C := fun _ _ _ => rfl
  unfold m_count at hE
  refine lv_iconst (v := 0) hx hb d_M_count_0 (by decide) ?_
  refine lv_istore_n (lv' := [(2, .int 0), (0, .ref (ad 30 0)), (1, .int l1)]) hx hb d_M_count_1 rfl hl (by decide) rfl (fun ls hl => ?_)
  refine lv_iconst (v := 0) hx hb d_M_count_2 (by decide) ?_
  refine lv_istore_n (lv' := [(3, .int 0), (2, .int 0), (0, .ref (ad 30 0)), (1, .int l1)]) hx hb d_M_count_3 rfl hl (by decide) rfl (fun ls hl => ?_)
  have lp_1 : ∀ (K : Int32 → Int32 → Int32 → RS → Option (Int32 × RS)), (∀ (x3_1 : Int32) (x2_1 : Int32) (x1_1 : Int32) (r : RS) (C1 : pw_C) (H : Heap) (locs : List Loc) (ls : Array Slot), K x3_1 x2_1 x1_1 r = some res → rm_at ca ad C1 r → rm_fr C C1 → pw_H D cls9 A s.heap ad C ad C1 H locs → lv_has ls 4 [(3, .int x3_1), (2, .int x2_1), (0, .ref (ad 30 0)), (1, .int x1_1)] → W p l e ({ frames := 0, cells := 0, slots := 0, locals := 0 }) s m args below meth c H locs 0 0 (MQ below (pw_Q D cls9 ad C (pw_pi (fun v ad' C' => (ad' = ad ∧ rm_at ca ad C' res.2 ∧ rm_fr C C') ∧ v = res.1)) A) args s 0 0 A) (F0 m 35 ls [])) → ∀ (n : Nat) (x3_1 : Int32) (x2_1 : Int32) (x1_1 : Int32) (r : RS) (C1 : pw_C) (H : Heap) (locs : List Loc) (ls : Array Slot), m_count_4 K n x3_1 x2_1 x1_1 r = some res → rm_at ca ad C1 r → rm_fr C C1 → pw_H D cls9 A s.heap ad C ad C1 H locs → lv_has ls 4 [(3, .int x3_1), (2, .int x2_1), (0, .ref (ad 30 0)), (1, .int x1_1)] → W p l e ({ frames := 0, cells := 0, slots := 0, locals := 0 }) s m args below meth c H locs 0 0 (MQ below (pw_Q D cls9 ad C (pw_pi (fun v ad' C' => (ad' = ad ∧ rm_at ca ad C' res.2 ∧ rm_fr C C') ∧ v = res.1)) A) args s 0 0 A) (F0 m 4 ls []) := by
    intro K hKK n
    induction n with
    | zero => intro x3_1 x2_1 x1_1 r C1 H locs ls hE; rw [m_count_4] at hE; exact absurd hE (by simp)
    | succ n ih =>
      intro x3_1 x2_1 x1_1 r C1 H locs ls hE hR hfr hw hl
      rw [m_count_4] at hE
      refine lv_iload_n hx hb d_M_count_4 rfl (lv_at hl 0 rfl) ?_
      refine lv_bipush (v := 6) hx hb d_M_count_5 (by decide) ?_
      refine lv_icmp_ge (tgt := 35) hx hb d_M_count_7 (by decide) (fun c_2 => ?_) (fun c_2 => ?_)
      · rw [if_pos c_2] at hE
        exact hKK _ _ _ _ _ _ _ _ hE hR hfr hw (lv_sub hl [0, 1, 2, 3] rfl)
      · rw [if_neg c_2] at hE
        refine lv_iload_n hx hb d_M_count_10 rfl (lv_at hl 1 rfl) ?_
        refine lv_aload_n hx hb d_M_count_11 rfl (lv_at hl 2 rfl) ?_
        have hc_3 : C1 30 0 = some (.inr (4, [.ref (ad 31 0), .ref (ad 31 1), .ref (ad 31 2), .ref (ad 31 3), .ref (ad 31 4), .ref (ad 31 5), .ref (ad 31 6), .ref (ad 31 7), .ref (ad 31 8), .ref (ad 31 9), .ref (ad 31 10), .ref (ad 31 11), .ref (ad 31 12), .ref (ad 31 13), .ref (ad 31 14), .int r.objects, .ref (ad 31 15), .int r.length, .ref (ad 31 16), .int r.waits, .ref (ad 31 17), .int r.given, .ref (ad 31 18), .ref (ad 31 19), .ref (ad 31 20), .int r.left, .ref (ad 31 21), .ref (ad 31 22), .int r.oldLength, .int r.oldWaits, .int r.oldGiven])) := by have h9 := rm_at.o hR; exact h9
        refine pw_get (Cn := "GraphWriterModel") (T := F_M) (N := 31) hx hb hts in_M hown hK hw 30 0 rfl hc_3 rfl 0 (by decide) (hts _ wd_754) (fun _ h9 => h9) rfl d_M_count_12 ?_
        refine lv_iload_n hx hb d_M_count_15 rfl (lv_at hl 0 rfl) ?_
        have hc_4 : C1 31 0 = some (.inl (ca 3, 6, .inl r.defined)) := by have h9 := rm_at.a0 hR; exact h9
        obtain ⟨v_5, hv_5, hE⟩ := ob_some hE
        obtain ⟨hi_v_5, hj_v_5, he_v_5⟩ := rd_some (by decide) hv_5
        refine pw_zald hx hb hK hw 31 0 rfl 3 hc_4 rfl (x3_1 : Int32).toNatClampNeg hi_v_5 (by omega) (by omega) d_M_count_16 ?_
        rw [← he_v_5]
        refine lv_if_eq (tgt := 26) hx hb d_M_count_17 (by decide) (fun c_6 => ?_) (fun c_6 => ?_)
        · rw [if_pos c_6] at hE
          refine lv_iconst (v := 0) hx hb d_M_count_26 (by decide) ?_
          refine lv_iadd hx hb d_M_count_27 ?_
          refine lv_istore_n (lv' := [(2, .int (x2_1 + 0)), (3, .int x3_1), (0, .ref (ad 30 0)), (1, .int x1_1)]) hx hb d_M_count_28 rfl hl (by decide) rfl (fun ls hl => ?_)
          refine lv_iinc (v := x3_1 + 1) (lv' := [(3, .int (x3_1 + 1)), (2, .int (x2_1 + 0)), (0, .ref (ad 30 0)), (1, .int x1_1)]) hx hb d_M_count_29 hl (k := 1) rfl rfl (by decide) rfl (fun ls hl => ?_)
          refine lv_goto (tgt := 4) hx hb d_M_count_32 (by decide) ?_
          exact ih _ _ _ _ _ _ _ _ hE hR hfr hw (lv_sub hl [0, 1, 2, 3] rfl)
        · rw [if_neg c_6] at hE
          refine lv_iconst (v := 1) hx hb d_M_count_20 (by decide) ?_
          refine lv_iload_n hx hb d_M_count_21 rfl (lv_at hl 0 rfl) ?_
          refine lv_ishl hx hb d_M_count_22 ?_
          refine lv_goto (tgt := 27) hx hb d_M_count_23 (by decide) ?_
          refine lv_iadd hx hb d_M_count_27 ?_
          refine lv_istore_n (lv' := [(2, .int (x2_1 + (1 <<< (x3_1 &&& 31)))), (3, .int x3_1), (0, .ref (ad 30 0)), (1, .int x1_1)]) hx hb d_M_count_28 rfl hl (by decide) rfl (fun ls hl => ?_)
          refine lv_iinc (v := x3_1 + 1) (lv' := [(3, .int (x3_1 + 1)), (2, .int (x2_1 + (1 <<< (x3_1 &&& 31)))), (0, .ref (ad 30 0)), (1, .int x1_1)]) hx hb d_M_count_29 hl (k := 1) rfl rfl (by decide) rfl (fun ls hl => ?_)
          refine lv_goto (tgt := 4) hx hb d_M_count_32 (by decide) ?_
          exact ih _ _ _ _ _ _ _ _ hE hR hfr hw (lv_sub hl [0, 1, 2, 3] rfl)
  refine lp_1 _ (fun z3_1 z2_1 z1_1 r_7 C_8 H locs ls hE hR hfr hw hl => ?_) 60 _ _ _ _ _ _ _ _ hE hR hfr hw hl
  try dsimp only at hE
  refine lv_iload_n hx hb d_M_count_35 rfl (lv_at hl 3 rfl) ?_
  by_cases h_9 : z1_1 = 0
  · rw [if_pos h_9] at hE
    rw [h_9]
    refine lv_tableIn (tgt := 72) hx hb d_M_count_36 (by decide) (by decide) rfl (by decide) ?_
    refine lv_aload_n hx hb d_M_count_72 rfl (lv_at hl 2 rfl) ?_
    have hc_10 : C_8 30 0 = some (.inr (4, [.ref (ad 31 0), .ref (ad 31 1), .ref (ad 31 2), .ref (ad 31 3), .ref (ad 31 4), .ref (ad 31 5), .ref (ad 31 6), .ref (ad 31 7), .ref (ad 31 8), .ref (ad 31 9), .ref (ad 31 10), .ref (ad 31 11), .ref (ad 31 12), .ref (ad 31 13), .ref (ad 31 14), .int r_7.objects, .ref (ad 31 15), .int r_7.length, .ref (ad 31 16), .int r_7.waits, .ref (ad 31 17), .int r_7.given, .ref (ad 31 18), .ref (ad 31 19), .ref (ad 31 20), .int r_7.left, .ref (ad 31 21), .ref (ad 31 22), .int r_7.oldLength, .int r_7.oldWaits, .int r_7.oldGiven])) := by have h9 := rm_at.o hR; exact h9
    refine pw_get (Cn := "GraphWriterModel") (T := F_M) (N := 31) hx hb hts in_M hown hK hw 30 0 rfl hc_10 rfl 17 (by decide) (hts _ wd_771) (fun _ h9 => h9) rfl d_M_count_73 ?_
    obtain rfl := Option.some.inj hE
    exact pw_iret hx hb hr hlocks hw ⟨⟨rfl, hR, hfr⟩, rfl⟩ d_M_count_76
  rw [if_neg h_9] at hE
  by_cases h_11 : z1_1 = 1
  · rw [if_pos h_11] at hE
    rw [h_11]
    refine lv_tableIn (tgt := 77) hx hb d_M_count_36 (by decide) (by decide) rfl (by decide) ?_
    refine lv_aload_n hx hb d_M_count_77 rfl (lv_at hl 2 rfl) ?_
    have hc_12 : C_8 30 0 = some (.inr (4, [.ref (ad 31 0), .ref (ad 31 1), .ref (ad 31 2), .ref (ad 31 3), .ref (ad 31 4), .ref (ad 31 5), .ref (ad 31 6), .ref (ad 31 7), .ref (ad 31 8), .ref (ad 31 9), .ref (ad 31 10), .ref (ad 31 11), .ref (ad 31 12), .ref (ad 31 13), .ref (ad 31 14), .int r_7.objects, .ref (ad 31 15), .int r_7.length, .ref (ad 31 16), .int r_7.waits, .ref (ad 31 17), .int r_7.given, .ref (ad 31 18), .ref (ad 31 19), .ref (ad 31 20), .int r_7.left, .ref (ad 31 21), .ref (ad 31 22), .int r_7.oldLength, .int r_7.oldWaits, .int r_7.oldGiven])) := by have h9 := rm_at.o hR; exact h9
    refine pw_get (Cn := "GraphWriterModel") (T := F_M) (N := 31) hx hb hts in_M hown hK hw 30 0 rfl hc_12 rfl 19 (by decide) (hts _ wd_773) (fun _ h9 => h9) rfl d_M_count_78 ?_
    obtain rfl := Option.some.inj hE
    exact pw_iret hx hb hr hlocks hw ⟨⟨rfl, hR, hfr⟩, rfl⟩ d_M_count_81
  rw [if_neg h_11] at hE
  by_cases h_13 : z1_1 = 2
  · rw [if_pos h_13] at hE
    rw [h_13]
    refine lv_tableIn (tgt := 82) hx hb d_M_count_36 (by decide) (by decide) rfl (by decide) ?_
    refine lv_aload_n hx hb d_M_count_82 rfl (lv_at hl 2 rfl) ?_
    have hc_14 : C_8 30 0 = some (.inr (4, [.ref (ad 31 0), .ref (ad 31 1), .ref (ad 31 2), .ref (ad 31 3), .ref (ad 31 4), .ref (ad 31 5), .ref (ad 31 6), .ref (ad 31 7), .ref (ad 31 8), .ref (ad 31 9), .ref (ad 31 10), .ref (ad 31 11), .ref (ad 31 12), .ref (ad 31 13), .ref (ad 31 14), .int r_7.objects, .ref (ad 31 15), .int r_7.length, .ref (ad 31 16), .int r_7.waits, .ref (ad 31 17), .int r_7.given, .ref (ad 31 18), .ref (ad 31 19), .ref (ad 31 20), .int r_7.left, .ref (ad 31 21), .ref (ad 31 22), .int r_7.oldLength, .int r_7.oldWaits, .int r_7.oldGiven])) := by have h9 := rm_at.o hR; exact h9
    refine pw_get (Cn := "GraphWriterModel") (T := F_M) (N := 31) hx hb hts in_M hown hK hw 30 0 rfl hc_14 rfl 21 (by decide) (hts _ wd_775) (fun _ h9 => h9) rfl d_M_count_83 ?_
    obtain rfl := Option.some.inj hE
    exact pw_iret hx hb hr hlocks hw ⟨⟨rfl, hR, hfr⟩, rfl⟩ d_M_count_86
  rw [if_neg h_13] at hE
  by_cases h_15 : z1_1 = 3
  · rw [if_pos h_15] at hE
    rw [h_15]
    refine lv_tableIn (tgt := 87) hx hb d_M_count_36 (by decide) (by decide) rfl (by decide) ?_
    refine lv_aload_n hx hb d_M_count_87 rfl (lv_at hl 2 rfl) ?_
    have hc_16 : C_8 30 0 = some (.inr (4, [.ref (ad 31 0), .ref (ad 31 1), .ref (ad 31 2), .ref (ad 31 3), .ref (ad 31 4), .ref (ad 31 5), .ref (ad 31 6), .ref (ad 31 7), .ref (ad 31 8), .ref (ad 31 9), .ref (ad 31 10), .ref (ad 31 11), .ref (ad 31 12), .ref (ad 31 13), .ref (ad 31 14), .int r_7.objects, .ref (ad 31 15), .int r_7.length, .ref (ad 31 16), .int r_7.waits, .ref (ad 31 17), .int r_7.given, .ref (ad 31 18), .ref (ad 31 19), .ref (ad 31 20), .int r_7.left, .ref (ad 31 21), .ref (ad 31 22), .int r_7.oldLength, .int r_7.oldWaits, .int r_7.oldGiven])) := by have h9 := rm_at.o hR; exact h9
    refine pw_get (Cn := "GraphWriterModel") (T := F_M) (N := 31) hx hb hts in_M hown hK hw 30 0 rfl hc_16 rfl 15 (by decide) (hts _ wd_769) (fun _ h9 => h9) rfl d_M_count_88 ?_
    obtain rfl := Option.some.inj hE
    exact pw_iret hx hb hr hlocks hw ⟨⟨rfl, hR, hfr⟩, rfl⟩ d_M_count_91
  rw [if_neg h_15] at hE
  by_cases h_17 : z1_1 = 4
  · rw [if_pos h_17] at hE
    rw [h_17]
    refine lv_tableIn (tgt := 92) hx hb d_M_count_36 (by decide) (by decide) rfl (by decide) ?_
    refine lv_iload_n hx hb d_M_count_92 rfl (lv_at hl 1 rfl) ?_
    obtain rfl := Option.some.inj hE
    exact pw_iret hx hb hr hlocks hw ⟨⟨rfl, hR, hfr⟩, rfl⟩ d_M_count_93
  rw [if_neg h_17] at hE
  refine lv_tableOut (tgt := 94) hx hb d_M_count_36 (sw_out h_9 h_11 h_13 h_15 h_17) (by decide) ?_
  refine lv_iconst (v := (-1)) hx hb d_M_count_94 (by decide) ?_
  obtain rfl := Option.some.inj hE
  exact pw_iret hx hb hr hlocks hw ⟨⟨rfl, hR, hfr⟩, rfl⟩ d_M_count_95
def m_object (l1 : Int32) (l2 : Int32) (r : RS) : Option (Int32 × RS) := Option.bind (m_out l1 r.objects r) (fun y_2 => if (y_2.1 : Int32) = 0 then (Option.bind (m_out l2 3 y_2.2) (fun y_7 => if (y_7.1 : Int32) = 0 then (if (l2 : Int32) = 0 then (Option.bind (rd y_7.2.sort 20 l1) (fun v_30 => some (v_30, y_7.2))) else (if (l2 : Int32) = 2 then (Option.bind (rd y_7.2.size 20 l1) (fun v_27 => some (v_27, y_7.2))) else (Option.bind (rd y_7.2.sort 20 l1) (fun v_17 => if (v_17 : Int32) = 0 then (Option.bind (rd y_7.2.classOf 20 l1) (fun v_20 => some (v_20, y_7.2))) else (Option.bind (rd y_7.2.sort 20 l1) (fun v_21 => if (v_21 : Int32) = 4 then (Option.bind (rd y_7.2.classOf 20 l1) (fun v_24 => some (v_24, y_7.2))) else (some ((-1), y_7.2)))))))) else (some ((-1), y_7.2)))) else (some ((-1), y_2.2)))
set_option maxHeartbeats 4000000 in
set_option maxRecDepth 100000 in
theorem k_M_object {l : Launch} {D : va_G} {ca : Nat → ClassId} {kS : Nat → Nat} {kT : Nat} {ad : pw_A} {C : pw_C} {r : RS} (hR : rm_at ca ad C r) {l1 : Int32} {l2 : Int32} {res : (Int32 × RS)} (hE : m_object l1 l2 r = some res) : gc_Con l y_M_object c_M_object ({ frames := 1, cells := 0, slots := 0, locals := 22 }) D ca (z9_Z kS kT) [.ref (ad 30 0), .int l1, .int l2] ad C (pw_pi (fun v ad' C' => (ad' = ad ∧ rm_at ca ad C' res.2 ∧ rm_fr C C') ∧ v = res.1)) 0 0 := by
  have hZ := z9_ok kS kT
  refine pw_ofW (cc := b_M_object) (maxL := 3) (ret := (some FieldType.int)) (by decide) rfl (Nat.le_of_ble_eq_true rfl) ?_
  intro p e s m args below meth c A ls hB hA hw hK hz hl
  obtain ⟨hx, hb, hr, hml, hts0, hlocks, hown, hnm⟩ := hB
  have hts := wd_hts hts0
  have hown : s.vm.findClass "GraphWriterModel" = some m.cls := hown
  have hl : lv_has ls 3 [(0, .ref (ad 30 0)), (1, .int l1), (2, .int l2)] := hl
  have hfr : rm_fr C C := fun _ _ _ => rfl
  unfold m_object at hE
  refine lv_aload_n hx hb d_M_object_0 rfl (lv_at hl 0 rfl) ?_
  refine lv_iload_n hx hb d_M_object_1 rfl (lv_at hl 1 rfl) ?_
  refine lv_aload_n hx hb d_M_object_2 rfl (lv_at hl 0 rfl) ?_
  have hc_1 : C 30 0 = some (.inr (4, [.ref (ad 31 0), .ref (ad 31 1), .ref (ad 31 2), .ref (ad 31 3), .ref (ad 31 4), .ref (ad 31 5), .ref (ad 31 6), .ref (ad 31 7), .ref (ad 31 8), .ref (ad 31 9), .ref (ad 31 10), .ref (ad 31 11), .ref (ad 31 12), .ref (ad 31 13), .ref (ad 31 14), .int r.objects, .ref (ad 31 15), .int r.length, .ref (ad 31 16), .int r.waits, .ref (ad 31 17), .int r.given, .ref (ad 31 18), .ref (ad 31 19), .ref (ad 31 20), .int r.left, .ref (ad 31 21), .ref (ad 31 22), .int r.oldLength, .int r.oldWaits, .int r.oldGiven])) := by have h9 := rm_at.o hR; exact h9
  refine pw_get (Cn := "GraphWriterModel") (T := F_M) (N := 31) hx hb hts in_M hown hK hw 30 0 rfl hc_1 rfl 15 (by decide) (hts _ wd_769) (fun _ h9 => h9) rfl d_M_object_3 ?_
  obtain ⟨y_2, hy_2, hE⟩ := ob_some hE
  refine pw_calli (va_runV (As := [.int l1, .int r.objects]) (rest := []) ⟨hx, hb, hml, hown, hts0⟩ (k_M_out hR hy_2 _) (cwV 2 hts0 (wd_V wd_856 wd_853 wd_855 wd_22 wd_56) rfl rfl rfl (by decide +kernel) ⟨Nat.le_of_ble_eq_true rfl, Nat.le_of_ble_eq_true rfl⟩) (pw_preV hZ hw hA hK hz rfl hc_1 rfl) rfl rfl hl.1 rfl (lv_room (Nat.le_of_ble_eq_true rfl)) d_M_object_6 ⟨Nat.le_of_ble_eq_true rfl, Nat.le_of_ble_eq_true rfl⟩) hw hA (fun r_5 ad_3 C_4 H locs hp hw => ?_)
  obtain ⟨⟨hae, hR, hf1⟩, hre⟩ := hp
  rw [hre]
  rw [hae] at hw
  clear hae
  have hfr : rm_fr C C_4 := fun x y h9 => (hf1 x y h9).trans (hfr x y h9)
  clear hf1
  refine lv_if_ne (tgt := 21) hx hb d_M_object_9 (by decide) (fun c_6 => ?_) (fun c_6 => ?_)
  · rw [if_neg c_6] at hE
    refine lv_iconst (v := (-1)) hx hb d_M_object_21 (by decide) ?_
    obtain rfl := Option.some.inj hE
    exact pw_iret hx hb hr hlocks hw ⟨⟨rfl, hR, hfr⟩, rfl⟩ d_M_object_22
  · rw [if_pos c_6] at hE
    refine lv_aload_n hx hb d_M_object_12 rfl (lv_at hl 0 rfl) ?_
    refine lv_iload_n hx hb d_M_object_13 rfl (lv_at hl 2 rfl) ?_
    refine lv_iconst (v := 3) hx hb d_M_object_14 (by decide) ?_
    obtain ⟨y_7, hy_7, hE⟩ := ob_some hE
    have hc_8 : C_4 30 0 = some (.inr (4, [.ref (ad 31 0), .ref (ad 31 1), .ref (ad 31 2), .ref (ad 31 3), .ref (ad 31 4), .ref (ad 31 5), .ref (ad 31 6), .ref (ad 31 7), .ref (ad 31 8), .ref (ad 31 9), .ref (ad 31 10), .ref (ad 31 11), .ref (ad 31 12), .ref (ad 31 13), .ref (ad 31 14), .int y_2.2.objects, .ref (ad 31 15), .int y_2.2.length, .ref (ad 31 16), .int y_2.2.waits, .ref (ad 31 17), .int y_2.2.given, .ref (ad 31 18), .ref (ad 31 19), .ref (ad 31 20), .int y_2.2.left, .ref (ad 31 21), .ref (ad 31 22), .int y_2.2.oldLength, .int y_2.2.oldWaits, .int y_2.2.oldGiven])) := by have h9 := rm_at.o hR; exact h9
    refine pw_calli (va_runV (As := [.int l2, .int 3]) (rest := []) ⟨hx, hb, hml, hown, hts0⟩ (k_M_out hR hy_7 _) (cwV 2 hts0 (wd_V wd_856 wd_853 wd_855 wd_22 wd_56) rfl rfl rfl (by decide +kernel) ⟨Nat.le_of_ble_eq_true rfl, Nat.le_of_ble_eq_true rfl⟩) (pw_preV hZ hw hA hK hz rfl hc_8 rfl) rfl rfl hl.1 rfl (lv_room (Nat.le_of_ble_eq_true rfl)) d_M_object_15 ⟨Nat.le_of_ble_eq_true rfl, Nat.le_of_ble_eq_true rfl⟩) hw hA (fun r_11 ad_9 C_10 H locs hp hw => ?_)
    obtain ⟨⟨hae, hR, hf1⟩, hre⟩ := hp
    rw [hre]
    rw [hae] at hw
    clear hae
    have hfr : rm_fr C C_10 := fun x y h9 => (hf1 x y h9).trans (hfr x y h9)
    clear hf1
    refine lv_if_eq (tgt := 23) hx hb d_M_object_18 (by decide) (fun c_12 => ?_) (fun c_12 => ?_)
    · rw [if_pos c_12] at hE
      refine lv_iload_n hx hb d_M_object_23 rfl (lv_at hl 2 rfl) ?_
      refine lv_if_ne (tgt := 34) hx hb d_M_object_24 (by decide) (fun c_13 => ?_) (fun c_13 => ?_)
      · rw [if_neg c_13] at hE
        refine lv_iload_n hx hb d_M_object_34 rfl (lv_at hl 2 rfl) ?_
        refine lv_iconst (v := 2) hx hb d_M_object_35 (by decide) ?_
        refine lv_icmp_ne (tgt := 46) hx hb d_M_object_36 (by decide) (fun c_14 => ?_) (fun c_14 => ?_)
        · rw [if_neg c_14] at hE
          refine lv_aload_n hx hb d_M_object_46 rfl (lv_at hl 0 rfl) ?_
          have hc_15 : C_10 30 0 = some (.inr (4, [.ref (ad 31 0), .ref (ad 31 1), .ref (ad 31 2), .ref (ad 31 3), .ref (ad 31 4), .ref (ad 31 5), .ref (ad 31 6), .ref (ad 31 7), .ref (ad 31 8), .ref (ad 31 9), .ref (ad 31 10), .ref (ad 31 11), .ref (ad 31 12), .ref (ad 31 13), .ref (ad 31 14), .int y_7.2.objects, .ref (ad 31 15), .int y_7.2.length, .ref (ad 31 16), .int y_7.2.waits, .ref (ad 31 17), .int y_7.2.given, .ref (ad 31 18), .ref (ad 31 19), .ref (ad 31 20), .int y_7.2.left, .ref (ad 31 21), .ref (ad 31 22), .int y_7.2.oldLength, .int y_7.2.oldWaits, .int y_7.2.oldGiven])) := by have h9 := rm_at.o hR; exact h9
          refine pw_get (Cn := "GraphWriterModel") (T := F_M) (N := 31) hx hb hts in_M hown hK hw 30 0 rfl hc_15 rfl 8 (by decide) (hts _ wd_762) (fun _ h9 => h9) rfl d_M_object_47 ?_
          refine lv_iload_n hx hb d_M_object_50 rfl (lv_at hl 1 rfl) ?_
          have hc_16 : C_10 31 8 = some (.inl (ca 0, 20, .inl y_7.2.sort)) := by have h9 := rm_at.a8 hR; exact h9
          obtain ⟨v_17, hv_17, hE⟩ := ob_some hE
          obtain ⟨hi_v_17, hj_v_17, he_v_17⟩ := rd_some (by decide) hv_17
          refine pw_iald hx hb hK hw 31 8 rfl 0 hc_16 rfl (l1 : Int32).toNatClampNeg hi_v_17 (by omega) (by omega) d_M_object_51 ?_
          rw [← he_v_17]
          refine lv_if_eq (tgt := 65) hx hb d_M_object_52 (by decide) (fun c_18 => ?_) (fun c_18 => ?_)
          · rw [if_pos c_18] at hE
            refine lv_aload_n hx hb d_M_object_65 rfl (lv_at hl 0 rfl) ?_
            refine pw_get (Cn := "GraphWriterModel") (T := F_M) (N := 31) hx hb hts in_M hown hK hw 30 0 rfl hc_15 rfl 9 (by decide) (hts _ wd_763) (fun _ h9 => h9) rfl d_M_object_66 ?_
            refine lv_iload_n hx hb d_M_object_69 rfl (lv_at hl 1 rfl) ?_
            have hc_19 : C_10 31 9 = some (.inl (ca 0, 20, .inl y_7.2.classOf)) := by have h9 := rm_at.a9 hR; exact h9
            obtain ⟨v_20, hv_20, hE⟩ := ob_some hE
            obtain ⟨hi_v_20, hj_v_20, he_v_20⟩ := rd_some (by decide) hv_20
            refine pw_iald hx hb hK hw 31 9 rfl 0 hc_19 rfl (l1 : Int32).toNatClampNeg hi_v_20 (by omega) (by omega) d_M_object_70 ?_
            rw [← he_v_20]
            refine lv_goto (tgt := 75) hx hb d_M_object_71 (by decide) ?_
            obtain rfl := Option.some.inj hE
            exact pw_iret hx hb hr hlocks hw ⟨⟨rfl, hR, hfr⟩, rfl⟩ d_M_object_75
          · rw [if_neg c_18] at hE
            refine lv_aload_n hx hb d_M_object_55 rfl (lv_at hl 0 rfl) ?_
            refine pw_get (Cn := "GraphWriterModel") (T := F_M) (N := 31) hx hb hts in_M hown hK hw 30 0 rfl hc_15 rfl 8 (by decide) (hts _ wd_762) (fun _ h9 => h9) rfl d_M_object_56 ?_
            refine lv_iload_n hx hb d_M_object_59 rfl (lv_at hl 1 rfl) ?_
            obtain ⟨v_21, hv_21, hE⟩ := ob_some hE
            obtain ⟨hi_v_21, hj_v_21, he_v_21⟩ := rd_some (by decide) hv_21
            refine pw_iald hx hb hK hw 31 8 rfl 0 hc_16 rfl (l1 : Int32).toNatClampNeg hi_v_21 (by omega) (by omega) d_M_object_60 ?_
            rw [← he_v_21]
            refine lv_iconst (v := 4) hx hb d_M_object_61 (by decide) ?_
            refine lv_icmp_ne (tgt := 74) hx hb d_M_object_62 (by decide) (fun c_22 => ?_) (fun c_22 => ?_)
            · rw [if_neg c_22] at hE
              refine lv_iconst (v := (-1)) hx hb d_M_object_74 (by decide) ?_
              obtain rfl := Option.some.inj hE
              exact pw_iret hx hb hr hlocks hw ⟨⟨rfl, hR, hfr⟩, rfl⟩ d_M_object_75
            · rw [if_pos c_22] at hE
              refine lv_aload_n hx hb d_M_object_65 rfl (lv_at hl 0 rfl) ?_
              refine pw_get (Cn := "GraphWriterModel") (T := F_M) (N := 31) hx hb hts in_M hown hK hw 30 0 rfl hc_15 rfl 9 (by decide) (hts _ wd_763) (fun _ h9 => h9) rfl d_M_object_66 ?_
              refine lv_iload_n hx hb d_M_object_69 rfl (lv_at hl 1 rfl) ?_
              have hc_23 : C_10 31 9 = some (.inl (ca 0, 20, .inl y_7.2.classOf)) := by have h9 := rm_at.a9 hR; exact h9
              obtain ⟨v_24, hv_24, hE⟩ := ob_some hE
              obtain ⟨hi_v_24, hj_v_24, he_v_24⟩ := rd_some (by decide) hv_24
              refine pw_iald hx hb hK hw 31 9 rfl 0 hc_23 rfl (l1 : Int32).toNatClampNeg hi_v_24 (by omega) (by omega) d_M_object_70 ?_
              rw [← he_v_24]
              refine lv_goto (tgt := 75) hx hb d_M_object_71 (by decide) ?_
              obtain rfl := Option.some.inj hE
              exact pw_iret hx hb hr hlocks hw ⟨⟨rfl, hR, hfr⟩, rfl⟩ d_M_object_75
        · rw [if_pos c_14] at hE
          refine lv_aload_n hx hb d_M_object_39 rfl (lv_at hl 0 rfl) ?_
          have hc_25 : C_10 30 0 = some (.inr (4, [.ref (ad 31 0), .ref (ad 31 1), .ref (ad 31 2), .ref (ad 31 3), .ref (ad 31 4), .ref (ad 31 5), .ref (ad 31 6), .ref (ad 31 7), .ref (ad 31 8), .ref (ad 31 9), .ref (ad 31 10), .ref (ad 31 11), .ref (ad 31 12), .ref (ad 31 13), .ref (ad 31 14), .int y_7.2.objects, .ref (ad 31 15), .int y_7.2.length, .ref (ad 31 16), .int y_7.2.waits, .ref (ad 31 17), .int y_7.2.given, .ref (ad 31 18), .ref (ad 31 19), .ref (ad 31 20), .int y_7.2.left, .ref (ad 31 21), .ref (ad 31 22), .int y_7.2.oldLength, .int y_7.2.oldWaits, .int y_7.2.oldGiven])) := by have h9 := rm_at.o hR; exact h9
          refine pw_get (Cn := "GraphWriterModel") (T := F_M) (N := 31) hx hb hts in_M hown hK hw 30 0 rfl hc_25 rfl 11 (by decide) (hts _ wd_765) (fun _ h9 => h9) rfl d_M_object_40 ?_
          refine lv_iload_n hx hb d_M_object_43 rfl (lv_at hl 1 rfl) ?_
          have hc_26 : C_10 31 11 = some (.inl (ca 0, 20, .inl y_7.2.size)) := by have h9 := rm_at.a11 hR; exact h9
          obtain ⟨v_27, hv_27, hE⟩ := ob_some hE
          obtain ⟨hi_v_27, hj_v_27, he_v_27⟩ := rd_some (by decide) hv_27
          refine pw_iald hx hb hK hw 31 11 rfl 0 hc_26 rfl (l1 : Int32).toNatClampNeg hi_v_27 (by omega) (by omega) d_M_object_44 ?_
          rw [← he_v_27]
          obtain rfl := Option.some.inj hE
          exact pw_iret hx hb hr hlocks hw ⟨⟨rfl, hR, hfr⟩, rfl⟩ d_M_object_45
      · rw [if_pos c_13] at hE
        refine lv_aload_n hx hb d_M_object_27 rfl (lv_at hl 0 rfl) ?_
        have hc_28 : C_10 30 0 = some (.inr (4, [.ref (ad 31 0), .ref (ad 31 1), .ref (ad 31 2), .ref (ad 31 3), .ref (ad 31 4), .ref (ad 31 5), .ref (ad 31 6), .ref (ad 31 7), .ref (ad 31 8), .ref (ad 31 9), .ref (ad 31 10), .ref (ad 31 11), .ref (ad 31 12), .ref (ad 31 13), .ref (ad 31 14), .int y_7.2.objects, .ref (ad 31 15), .int y_7.2.length, .ref (ad 31 16), .int y_7.2.waits, .ref (ad 31 17), .int y_7.2.given, .ref (ad 31 18), .ref (ad 31 19), .ref (ad 31 20), .int y_7.2.left, .ref (ad 31 21), .ref (ad 31 22), .int y_7.2.oldLength, .int y_7.2.oldWaits, .int y_7.2.oldGiven])) := by have h9 := rm_at.o hR; exact h9
        refine pw_get (Cn := "GraphWriterModel") (T := F_M) (N := 31) hx hb hts in_M hown hK hw 30 0 rfl hc_28 rfl 8 (by decide) (hts _ wd_762) (fun _ h9 => h9) rfl d_M_object_28 ?_
        refine lv_iload_n hx hb d_M_object_31 rfl (lv_at hl 1 rfl) ?_
        have hc_29 : C_10 31 8 = some (.inl (ca 0, 20, .inl y_7.2.sort)) := by have h9 := rm_at.a8 hR; exact h9
        obtain ⟨v_30, hv_30, hE⟩ := ob_some hE
        obtain ⟨hi_v_30, hj_v_30, he_v_30⟩ := rd_some (by decide) hv_30
        refine pw_iald hx hb hK hw 31 8 rfl 0 hc_29 rfl (l1 : Int32).toNatClampNeg hi_v_30 (by omega) (by omega) d_M_object_32 ?_
        rw [← he_v_30]
        obtain rfl := Option.some.inj hE
        exact pw_iret hx hb hr hlocks hw ⟨⟨rfl, hR, hfr⟩, rfl⟩ d_M_object_33
    · rw [if_neg c_12] at hE
      refine lv_iconst (v := (-1)) hx hb d_M_object_21 (by decide) ?_
      obtain rfl := Option.some.inj hE
      exact pw_iret hx hb hr hlocks hw ⟨⟨rfl, hR, hfr⟩, rfl⟩ d_M_object_22
