def m_out (l1 : Int32) (l2 : Int32) (r : RS) : Option (Int32 × RS) := if (l1 : Int32) < 0 then (some (1, r)) else (if (l1 : Int32) < l2 then (some (0, r)) else (some (1, r)))
set_option maxHeartbeats 4000000 in
set_option maxRecDepth 100000 in
theorem k_M_out {l : Launch} {D : va_G} {ca : Nat → ClassId} {kS : Nat → Nat} {kT : Nat} {ad : pw_A} {C : pw_C} {r : RS} (hR : rm_at ca ad C r) {l1 : Int32} {l2 : Int32} {res : (Int32 × RS)} (hE : m_out l1 l2 r = some res) : gc_Con l y_M_out c_M_out ({ frames := 0, cells := 0, slots := 0, locals := 0 }) D ca (z9_Z kS kT) [.ref (ad 30 0), .int l1, .int l2] ad C (pw_pi (fun v ad' C' => (ad' = ad ∧ rm_at ca ad C' res.2 ∧ rm_fr C C') ∧ v = res.1)) 0 0 := by
  have hZ := z9_ok kS kT
  refine pw_ofW (cc := b_M_out) (maxL := 3) (ret := (some FieldType.boolean)) (by decide) rfl (Nat.le_of_ble_eq_true rfl) ?_
  intro p e s m args below meth c A ls hB hA hw hK hz hl
  obtain ⟨hx, hb, hr, hml, hts0, hlocks, hown, hnm⟩ := hB
  have hts := wd_hts hts0
  have hown : s.vm.findClass "GraphWriterModel" = some m.cls := hown
  have hl : lv_has ls 3 [(0, .ref (ad 30 0)), (1, .int l1), (2, .int l2)] := hl
  have hfr : rm_fr C C := fun _ _ _ => rfl
  unfold m_out at hE
  refine lv_iload_n hx hb d_M_out_0 rfl (lv_at hl 1 rfl) ?_
  refine lv_if_lt (tgt := 9) hx hb d_M_out_1 (by decide) (fun c_1 => ?_) (fun c_1 => ?_)
  · rw [if_pos c_1] at hE
    refine lv_iconst (v := 1) hx hb d_M_out_9 (by decide) ?_
    refine lv_goto (tgt := 14) hx hb d_M_out_10 (by decide) ?_
    obtain rfl := Option.some.inj hE
    exact pw_zret hx hb hr hlocks hw rfl ⟨⟨rfl, hR, hfr⟩, rfl⟩ d_M_out_14
  · rw [if_neg c_1] at hE
    refine lv_iload_n hx hb d_M_out_4 rfl (lv_at hl 1 rfl) ?_
    refine lv_iload_n hx hb d_M_out_5 rfl (lv_at hl 2 rfl) ?_
    refine lv_icmp_lt (tgt := 13) hx hb d_M_out_6 (by decide) (fun c_2 => ?_) (fun c_2 => ?_)
    · rw [if_pos c_2] at hE
      refine lv_iconst (v := 0) hx hb d_M_out_13 (by decide) ?_
      obtain rfl := Option.some.inj hE
      exact pw_zret hx hb hr hlocks hw rfl ⟨⟨rfl, hR, hfr⟩, rfl⟩ d_M_out_14
    · rw [if_neg c_2] at hE
      refine lv_iconst (v := 1) hx hb d_M_out_9 (by decide) ?_
      refine lv_goto (tgt := 14) hx hb d_M_out_10 (by decide) ?_
      obtain rfl := Option.some.inj hE
      exact pw_zret hx hb hr hlocks hw rfl ⟨⟨rfl, hR, hfr⟩, rfl⟩ d_M_out_14
def m_noClass (l1 : Int32) (r : RS) : Option (Int32 × RS) := Option.bind (m_out l1 6 r) (fun y_1 => if (y_1.1 : Int32) = 0 then (Option.bind (rd y_1.2.defined 6 l1) (fun v_9 => if (v_9 : Int32) = 0 then (some (1, y_1.2)) else (some (0, y_1.2)))) else (some (1, y_1.2)))
set_option maxHeartbeats 4000000 in
set_option maxRecDepth 100000 in
theorem k_M_noClass {l : Launch} {D : va_G} {ca : Nat → ClassId} {kS : Nat → Nat} {kT : Nat} {ad : pw_A} {C : pw_C} {r : RS} (hR : rm_at ca ad C r) {l1 : Int32} {res : (Int32 × RS)} (hE : m_noClass l1 r = some res) : gc_Con l y_M_noClass c_M_noClass ({ frames := 1, cells := 0, slots := 0, locals := 22 }) D ca (z9_Z kS kT) [.ref (ad 30 0), .int l1] ad C (pw_pi (fun v ad' C' => (ad' = ad ∧ rm_at ca ad C' res.2 ∧ rm_fr C C') ∧ v = res.1)) 0 0 := by
  have hZ := z9_ok kS kT
  refine pw_ofW (cc := b_M_noClass) (maxL := 2) (ret := (some FieldType.boolean)) (by decide) rfl (Nat.le_of_ble_eq_true rfl) ?_
  intro p e s m args below meth c A ls hB hA hw hK hz hl
  obtain ⟨hx, hb, hr, hml, hts0, hlocks, hown, hnm⟩ := hB
  have hts := wd_hts hts0
  have hown : s.vm.findClass "GraphWriterModel" = some m.cls := hown
  have hl : lv_has ls 2 [(0, .ref (ad 30 0)), (1, .int l1)] := hl
  have hfr : rm_fr C C := fun _ _ _ => rfl
  unfold m_noClass at hE
  refine lv_aload_n hx hb d_M_noClass_0 rfl (lv_at hl 0 rfl) ?_
  refine lv_iload_n hx hb d_M_noClass_1 rfl (lv_at hl 1 rfl) ?_
  refine lv_bipush (v := 6) hx hb d_M_noClass_2 (by decide) ?_
  obtain ⟨y_1, hy_1, hE⟩ := ob_some hE
  have hc_2 : C 30 0 = some (.inr (4, [.ref (ad 31 0), .ref (ad 31 1), .ref (ad 31 2), .ref (ad 31 3), .ref (ad 31 4), .ref (ad 31 5), .ref (ad 31 6), .ref (ad 31 7), .ref (ad 31 8), .ref (ad 31 9), .ref (ad 31 10), .ref (ad 31 11), .ref (ad 31 12), .ref (ad 31 13), .ref (ad 31 14), .int r.objects, .ref (ad 31 15), .int r.length, .ref (ad 31 16), .int r.waits, .ref (ad 31 17), .int r.given, .ref (ad 31 18), .ref (ad 31 19), .ref (ad 31 20), .int r.left, .ref (ad 31 21), .ref (ad 31 22), .int r.oldLength, .int r.oldWaits, .int r.oldGiven])) := by have h9 := rm_at.o hR; exact h9
  refine pw_calli (va_runV (As := [.int l1, .int 6]) (rest := []) ⟨hx, hb, hml, hown, hts0⟩ (k_M_out hR hy_1 _) (cwV 2 hts0 (wd_V wd_856 wd_853 wd_855 wd_22 wd_56) rfl rfl rfl (by decide +kernel) ⟨Nat.le_of_ble_eq_true rfl, Nat.le_of_ble_eq_true rfl⟩) (pw_preV hZ hw hA hK hz rfl hc_2 rfl) rfl rfl hl.1 rfl (lv_room (Nat.le_of_ble_eq_true rfl)) d_M_noClass_4 ⟨Nat.le_of_ble_eq_true rfl, Nat.le_of_ble_eq_true rfl⟩) hw hA (fun r_5 ad_3 C_4 H locs hp hw => ?_)
  obtain ⟨⟨hae, hR, hf1⟩, hre⟩ := hp
  rw [hre]
  rw [hae] at hw
  clear hae
  have hfr : rm_fr C C_4 := fun x y h9 => (hf1 x y h9).trans (hfr x y h9)
  clear hf1
  refine lv_if_ne (tgt := 19) hx hb d_M_noClass_7 (by decide) (fun c_6 => ?_) (fun c_6 => ?_)
  · rw [if_neg c_6] at hE
    refine lv_iconst (v := 1) hx hb d_M_noClass_19 (by decide) ?_
    refine lv_goto (tgt := 24) hx hb d_M_noClass_20 (by decide) ?_
    obtain rfl := Option.some.inj hE
    exact pw_zret hx hb hr hlocks hw rfl ⟨⟨rfl, hR, hfr⟩, rfl⟩ d_M_noClass_24
  · rw [if_pos c_6] at hE
    refine lv_aload_n hx hb d_M_noClass_10 rfl (lv_at hl 0 rfl) ?_
    have hc_7 : C_4 30 0 = some (.inr (4, [.ref (ad 31 0), .ref (ad 31 1), .ref (ad 31 2), .ref (ad 31 3), .ref (ad 31 4), .ref (ad 31 5), .ref (ad 31 6), .ref (ad 31 7), .ref (ad 31 8), .ref (ad 31 9), .ref (ad 31 10), .ref (ad 31 11), .ref (ad 31 12), .ref (ad 31 13), .ref (ad 31 14), .int y_1.2.objects, .ref (ad 31 15), .int y_1.2.length, .ref (ad 31 16), .int y_1.2.waits, .ref (ad 31 17), .int y_1.2.given, .ref (ad 31 18), .ref (ad 31 19), .ref (ad 31 20), .int y_1.2.left, .ref (ad 31 21), .ref (ad 31 22), .int y_1.2.oldLength, .int y_1.2.oldWaits, .int y_1.2.oldGiven])) := by have h9 := rm_at.o hR; exact h9
    refine pw_get (Cn := "GraphWriterModel") (T := F_M) (N := 31) hx hb hts in_M hown hK hw 30 0 rfl hc_7 rfl 0 (by decide) (hts _ wd_754) (fun _ h9 => h9) rfl d_M_noClass_11 ?_
    refine lv_iload_n hx hb d_M_noClass_14 rfl (lv_at hl 1 rfl) ?_
    have hc_8 : C_4 31 0 = some (.inl (ca 3, 6, .inl y_1.2.defined)) := by have h9 := rm_at.a0 hR; exact h9
    obtain ⟨v_9, hv_9, hE⟩ := ob_some hE
    obtain ⟨hi_v_9, hj_v_9, he_v_9⟩ := rd_some (by decide) hv_9
    refine pw_zald hx hb hK hw 31 0 rfl 3 hc_8 rfl (l1 : Int32).toNatClampNeg hi_v_9 (by omega) (by omega) d_M_noClass_15 ?_
    rw [← he_v_9]
    refine lv_if_ne (tgt := 23) hx hb d_M_noClass_16 (by decide) (fun c_10 => ?_) (fun c_10 => ?_)
    · rw [if_neg c_10] at hE
      refine lv_iconst (v := 0) hx hb d_M_noClass_23 (by decide) ?_
      obtain rfl := Option.some.inj hE
      exact pw_zret hx hb hr hlocks hw rfl ⟨⟨rfl, hR, hfr⟩, rfl⟩ d_M_noClass_24
    · rw [if_pos c_10] at hE
      refine lv_iconst (v := 1) hx hb d_M_noClass_19 (by decide) ?_
      refine lv_goto (tgt := 24) hx hb d_M_noClass_20 (by decide) ?_
      obtain rfl := Option.some.inj hE
      exact pw_zret hx hb hr hlocks hw rfl ⟨⟨rfl, hR, hfr⟩, rfl⟩ d_M_noClass_24
def m_append_5 (K : Int32 → Int64 → Int32 → RS → Option RS) : Nat → Int32 → Int64 → Int32 → RS → Option RS
  | 0, _, _, _, _ => none
  | n + 1, x4_1, x1_1, x3_1, r => if (x4_1 : Int32) < 0 then (K x4_1 x1_1 x3_1 r) else (if (1650 : Int32) ≤ r.length then (m_append_5 K n (x4_1 + (-1)) x1_1 x3_1 r) else (Option.bind (wr r.stream 1700 r.length (((x1_1 >>> ((8 * x4_1).toInt64 &&& 63)).toInt32) &&& 255)) (fun w_6 => m_append_5 K n (x4_1 + (-1)) x1_1 x3_1 (RS.s_length (RS.s_stream r w_6) (r.length + 1)))))
def m_append (l1 : Int64) (l3 : Int32) (r : RS) : Option RS := m_append_5 (fun z4_1 z1_1 z3_1 r_10 => some r_10) 60 (l3 - 1) l1 l3 r
set_option maxHeartbeats 4000000 in
set_option maxRecDepth 100000 in
theorem k_M_append {l : Launch} {D : va_G} {ca : Nat → ClassId} {kS : Nat → Nat} {kT : Nat} {ad : pw_A} {C : pw_C} {r : RS} (hR : rm_at ca ad C r) {l1 : Int64} {l3 : Int32} {res : RS} (hE : m_append l1 l3 r = some res) : gc_Con l y_M_append c_M_append ({ frames := 0, cells := 0, slots := 0, locals := 0 }) D ca (z9_Z kS kT) [.ref (ad 30 0), .long l1, .int l3] ad C (pw_pv (fun ad' C' => ad' = ad ∧ rm_at ca ad C' res ∧ rm_fr C C')) 0 0 := by
  have hZ := z9_ok kS kT
  refine pw_ofW (cc := b_M_append) (maxL := 5) (ret := none) (by decide) rfl (Nat.le_of_ble_eq_true rfl) ?_
  intro p e s m args below meth c A ls hB hA hw hK hz hl
  obtain ⟨hx, hb, hr, hml, hts0, hlocks, hown, hnm⟩ := hB
  have hts := wd_hts hts0
  have hown : s.vm.findClass "GraphWriterModel" = some m.cls := hown
  have hl : lv_has ls 5 [(0, .ref (ad 30 0)), (1, .long l1), (3, .int l3)] := hl
  have hfr : rm_fr C C := fun _ _ _ => rfl
  unfold m_append at hE
  refine lv_iload_n hx hb d_M_append_0 rfl (lv_at hl 2 rfl) ?_
  refine lv_iconst (v := 1) hx hb d_M_append_1 (by decide) ?_
  refine lv_isub hx hb d_M_append_2 ?_
  refine lv_istore (lv' := [(4, .int (l3 - 1)), (0, .ref (ad 30 0)), (1, .long l1), (3, .int l3)]) hx hb d_M_append_3 hl (by decide) rfl (fun ls hl => ?_)
  have lp_1 : ∀ (K : Int32 → Int64 → Int32 → RS → Option RS), (∀ (x4_1 : Int32) (x1_1 : Int64) (x3_1 : Int32) (r : RS) (C1 : pw_C) (H : Heap) (locs : List Loc) (ls : Array Slot), K x4_1 x1_1 x3_1 r = some res → rm_at ca ad C1 r → rm_fr C C1 → pw_H D cls9 A s.heap ad C ad C1 H locs → lv_has ls 5 [(4, .int x4_1), (0, .ref (ad 30 0)), (1, .long x1_1), (3, .int x3_1)] → W p l e ({ frames := 0, cells := 0, slots := 0, locals := 0 }) s m args below meth c H locs 0 0 (MQ below (pw_Q D cls9 ad C (pw_pv (fun ad' C' => ad' = ad ∧ rm_at ca ad C' res ∧ rm_fr C C')) A) args s 0 0 A) (F0 m 57 ls [])) → ∀ (n : Nat) (x4_1 : Int32) (x1_1 : Int64) (x3_1 : Int32) (r : RS) (C1 : pw_C) (H : Heap) (locs : List Loc) (ls : Array Slot), m_append_5 K n x4_1 x1_1 x3_1 r = some res → rm_at ca ad C1 r → rm_fr C C1 → pw_H D cls9 A s.heap ad C ad C1 H locs → lv_has ls 5 [(4, .int x4_1), (0, .ref (ad 30 0)), (1, .long x1_1), (3, .int x3_1)] → W p l e ({ frames := 0, cells := 0, slots := 0, locals := 0 }) s m args below meth c H locs 0 0 (MQ below (pw_Q D cls9 ad C (pw_pv (fun ad' C' => ad' = ad ∧ rm_at ca ad C' res ∧ rm_fr C C')) A) args s 0 0 A) (F0 m 5 ls []) := by
    intro K hKK n
    induction n with
    | zero => intro x4_1 x1_1 x3_1 r C1 H locs ls hE; rw [m_append_5] at hE; exact absurd hE (by simp)
    | succ n ih =>
      intro x4_1 x1_1 x3_1 r C1 H locs ls hE hR hfr hw hl
      rw [m_append_5] at hE
      refine lv_iload hx hb d_M_append_5 (lv_at hl 0 rfl) ?_
      refine lv_if_lt (tgt := 57) hx hb d_M_append_7 (by decide) (fun c_2 => ?_) (fun c_2 => ?_)
      · rw [if_pos c_2] at hE
        exact hKK _ _ _ _ _ _ _ _ hE hR hfr hw (lv_sub hl [0, 1, 2, 3] rfl)
      · rw [if_neg c_2] at hE
        refine lv_aload_n hx hb d_M_append_10 rfl (lv_at hl 1 rfl) ?_
        have hc_3 : C1 30 0 = some (.inr (4, [.ref (ad 31 0), .ref (ad 31 1), .ref (ad 31 2), .ref (ad 31 3), .ref (ad 31 4), .ref (ad 31 5), .ref (ad 31 6), .ref (ad 31 7), .ref (ad 31 8), .ref (ad 31 9), .ref (ad 31 10), .ref (ad 31 11), .ref (ad 31 12), .ref (ad 31 13), .ref (ad 31 14), .int r.objects, .ref (ad 31 15), .int r.length, .ref (ad 31 16), .int r.waits, .ref (ad 31 17), .int r.given, .ref (ad 31 18), .ref (ad 31 19), .ref (ad 31 20), .int r.left, .ref (ad 31 21), .ref (ad 31 22), .int r.oldLength, .int r.oldWaits, .int r.oldGiven])) := by have h9 := rm_at.o hR; exact h9
        refine pw_get (Cn := "GraphWriterModel") (T := F_M) (N := 31) hx hb hts in_M hown hK hw 30 0 rfl hc_3 rfl 17 (by decide) (hts _ wd_771) (fun _ h9 => h9) rfl d_M_append_11 ?_
        refine lv_sipush (v := 1650) hx hb d_M_append_14 (by decide) ?_
        refine lv_icmp_ge (tgt := 51) hx hb d_M_append_17 (by decide) (fun c_4 => ?_) (fun c_4 => ?_)
        · rw [if_pos c_4] at hE
          refine lv_iinc (v := x4_1 + (-1)) (lv' := [(4, .int (x4_1 + (-1))), (0, .ref (ad 30 0)), (1, .long x1_1), (3, .int x3_1)]) hx hb d_M_append_51 hl (k := 0) rfl rfl (by decide) rfl (fun ls hl => ?_)
          refine lv_goto (tgt := 5) hx hb d_M_append_54 (by decide) ?_
          exact ih _ _ _ _ _ _ _ _ hE hR hfr hw (lv_sub hl [0, 1, 2, 3] rfl)
        · rw [if_neg c_4] at hE
          refine lv_aload_n hx hb d_M_append_20 rfl (lv_at hl 1 rfl) ?_
          refine pw_get (Cn := "GraphWriterModel") (T := F_M) (N := 31) hx hb hts in_M hown hK hw 30 0 rfl hc_3 rfl 16 (by decide) (hts _ wd_770) (fun _ h9 => h9) rfl d_M_append_21 ?_
          refine lv_aload_n hx hb d_M_append_24 rfl (lv_at hl 1 rfl) ?_
          refine pw_get (Cn := "GraphWriterModel") (T := F_M) (N := 31) hx hb hts in_M hown hK hw 30 0 rfl hc_3 rfl 17 (by decide) (hts _ wd_771) (fun _ h9 => h9) rfl d_M_append_25 ?_
          refine lv_lload_n hx hb d_M_append_28 rfl (lv_at hl 2 rfl) ?_
          refine lv_bipush (v := 8) hx hb d_M_append_29 (by decide) ?_
          refine lv_iload hx hb d_M_append_31 (lv_at hl 0 rfl) ?_
          refine lv_imul hx hb d_M_append_33 ?_
          refine lv_lshr hx hb d_M_append_34 rfl ?_
          refine lv_l2i hx hb d_M_append_35 rfl ?_
          refine lv_sipush (v := 255) hx hb d_M_append_36 (by decide) ?_
          refine lv_iand hx hb d_M_append_39 ?_
          have hc_5 : C1 31 15 = some (.inl (ca 0, 1700, .inl r.stream)) := by have h9 := rm_at.a15 hR; exact h9
          obtain ⟨w_6, hw_6, hE⟩ := ob_some hE
          obtain ⟨hi_w_6, hj_w_6, he_w_6⟩ := wr_some (by decide) hw_6
          refine pw_iast hx hb hK hw 31 15 rfl 0 hc_5 rfl (by decide) (r.length : Int32).toNatClampNeg hi_w_6 (by omega) (by omega) d_M_append_40 (fun H locs hw => ?_)
          rw [← he_w_6] at hw
          have hw : pw_H D cls9 A s.heap ad C ad (pw_up C1 31 15 (some (.inl (ca 0, 1700, .inl w_6)))) H _ := hw
          generalize hC_7 : pw_up C1 31 15 (some (.inl (ca 0, 1700, .inl w_6))) = C_7 at hw
          have hR : rm_at ca ad C_7 (RS.s_stream r w_6) := by rw [← hC_7]; exact rm_at.s15 hR _
          have hfr : rm_fr C C_7 := fun x y h9 => by rw [← hC_7]; exact (pw_up_ne _ _ (by omega)).trans (hfr x y h9)
          refine lv_aload_n hx hb d_M_append_41 rfl (lv_at hl 1 rfl) ?_
          refine lv_dup hx hb d_M_append_42 rfl ?_
          have hc_8 : C_7 30 0 = some (.inr (4, [.ref (ad 31 0), .ref (ad 31 1), .ref (ad 31 2), .ref (ad 31 3), .ref (ad 31 4), .ref (ad 31 5), .ref (ad 31 6), .ref (ad 31 7), .ref (ad 31 8), .ref (ad 31 9), .ref (ad 31 10), .ref (ad 31 11), .ref (ad 31 12), .ref (ad 31 13), .ref (ad 31 14), .int r.objects, .ref (ad 31 15), .int r.length, .ref (ad 31 16), .int r.waits, .ref (ad 31 17), .int r.given, .ref (ad 31 18), .ref (ad 31 19), .ref (ad 31 20), .int r.left, .ref (ad 31 21), .ref (ad 31 22), .int r.oldLength, .int r.oldWaits, .int r.oldGiven])) := by have h9 := rm_at.o hR; exact h9
          refine pw_get (Cn := "GraphWriterModel") (T := F_M) (N := 31) hx hb hts in_M hown hK hw 30 0 rfl hc_8 rfl 17 (by decide) (hts _ wd_771) (fun _ h9 => h9) rfl d_M_append_43 ?_
          refine lv_iconst (v := 1) hx hb d_M_append_46 (by decide) ?_
          refine lv_iadd hx hb d_M_append_47 ?_
          refine pw_put (Cn := "GraphWriterModel") (T := F_M) (N := 31) (v := .int (r.length + 1)) (ty := .int) hx hb hts in_M ft_M to_M nm_M hown hK hw 30 0 (by decide) rfl hc_8 rfl 17 (by decide) (hts _ wd_771) (fun _ h9 => h9) rfl (by decide +kernel) rfl rfl (Nat.le_of_ble_eq_true rfl) d_M_append_48 (fun H locs hw => ?_)
          have hw : pw_H D cls9 A s.heap ad C ad (pw_up C_7 30 0 (some (.inr (4, [.ref (ad 31 0), .ref (ad 31 1), .ref (ad 31 2), .ref (ad 31 3), .ref (ad 31 4), .ref (ad 31 5), .ref (ad 31 6), .ref (ad 31 7), .ref (ad 31 8), .ref (ad 31 9), .ref (ad 31 10), .ref (ad 31 11), .ref (ad 31 12), .ref (ad 31 13), .ref (ad 31 14), .int r.objects, .ref (ad 31 15), .int (r.length + 1), .ref (ad 31 16), .int r.waits, .ref (ad 31 17), .int r.given, .ref (ad 31 18), .ref (ad 31 19), .ref (ad 31 20), .int r.left, .ref (ad 31 21), .ref (ad 31 22), .int r.oldLength, .int r.oldWaits, .int r.oldGiven])))) H _ := hw
          generalize hC_9 : pw_up C_7 30 0 (some (.inr (4, [.ref (ad 31 0), .ref (ad 31 1), .ref (ad 31 2), .ref (ad 31 3), .ref (ad 31 4), .ref (ad 31 5), .ref (ad 31 6), .ref (ad 31 7), .ref (ad 31 8), .ref (ad 31 9), .ref (ad 31 10), .ref (ad 31 11), .ref (ad 31 12), .ref (ad 31 13), .ref (ad 31 14), .int r.objects, .ref (ad 31 15), .int (r.length + 1), .ref (ad 31 16), .int r.waits, .ref (ad 31 17), .int r.given, .ref (ad 31 18), .ref (ad 31 19), .ref (ad 31 20), .int r.left, .ref (ad 31 21), .ref (ad 31 22), .int r.oldLength, .int r.oldWaits, .int r.oldGiven]))) = C_9 at hw
          have hR : rm_at ca ad C_9 (RS.s_length (RS.s_stream r w_6) (r.length + 1)) := by rw [← hC_9]; exact rm_at.o_length hR _
          have hfr : rm_fr C C_9 := fun x y h9 => by rw [← hC_9]; exact (pw_up_ne _ _ (by omega)).trans (hfr x y h9)
          refine lv_iinc (v := x4_1 + (-1)) (lv' := [(4, .int (x4_1 + (-1))), (0, .ref (ad 30 0)), (1, .long x1_1), (3, .int x3_1)]) hx hb d_M_append_51 hl (k := 0) rfl rfl (by decide) rfl (fun ls hl => ?_)
          refine lv_goto (tgt := 5) hx hb d_M_append_54 (by decide) ?_
          exact ih _ _ _ _ _ _ _ _ hE hR hfr hw (lv_sub hl [0, 1, 2, 3] rfl)
  refine lp_1 _ (fun z4_1 z1_1 z3_1 r_10 C_11 H locs ls hE hR hfr hw hl => ?_) 60 _ _ _ _ _ _ _ _ hE hR hfr hw hl
  try dsimp only at hE
  obtain rfl := Option.some.inj hE
  exact pw_vret hx hb hr hlocks hw ⟨rfl, hR, hfr⟩ d_M_append_57
def m_noHandles_2 (K : Int32 → RS → Option RS) : Nat → Int32 → RS → Option RS
  | 0, _, _ => none
  | n + 1, x1_1, r => if (51 : Int32) ≤ x1_1 then (K x1_1 r) else (Option.bind (wr r.handles 51 x1_1 (-1)) (fun w_5 => m_noHandles_2 K n (x1_1 + 1) (RS.s_handles r w_5)))
def m_noHandles  (r : RS) : Option RS := m_noHandles_2 (fun z1_1 r_7 => some (RS.s_given r_7 0)) 60 0 r
set_option maxHeartbeats 4000000 in
set_option maxRecDepth 100000 in
theorem k_M_noHandles {l : Launch} {D : va_G} {ca : Nat → ClassId} {kS : Nat → Nat} {kT : Nat} {ad : pw_A} {C : pw_C} {r : RS} (hR : rm_at ca ad C r)  {res : RS} (hE : m_noHandles  r = some res) : gc_Con l y_M_noHandles c_M_noHandles ({ frames := 0, cells := 0, slots := 0, locals := 0 }) D ca (z9_Z kS kT) [.ref (ad 30 0)] ad C (pw_pv (fun ad' C' => ad' = ad ∧ rm_at ca ad C' res ∧ rm_fr C C')) 0 0 := by
  have hZ := z9_ok kS kT
  refine pw_ofW (cc := b_M_noHandles) (maxL := 2) (ret := none) (by decide) rfl (Nat.le_of_ble_eq_true rfl) ?_
  intro p e s m args below meth c A ls hB hA hw hK hz hl
  obtain ⟨hx, hb, hr, hml, hts0, hlocks, hown, hnm⟩ := hB
  have hts := wd_hts hts0
  have hown : s.vm.findClass "GraphWriterModel" = some m.cls := hown
  have hl : lv_has ls 2 [(0, .ref (ad 30 0))] := hl
  have hfr : rm_fr C C := fun _ _ _ => rfl
  unfold m_noHandles at hE
  refine lv_iconst (v := 0) hx hb d_M_noHandles_0 (by decide) ?_
  refine lv_istore_n (lv' := [(1, .int 0), (0, .ref (ad 30 0))]) hx hb d_M_noHandles_1 rfl hl (by decide) rfl (fun ls hl => ?_)
  have lp_1 : ∀ (K : Int32 → RS → Option RS), (∀ (x1_1 : Int32) (r : RS) (C1 : pw_C) (H : Heap) (locs : List Loc) (ls : Array Slot), K x1_1 r = some res → rm_at ca ad C1 r → rm_fr C C1 → pw_H D cls9 A s.heap ad C ad C1 H locs → lv_has ls 2 [(1, .int x1_1), (0, .ref (ad 30 0))] → W p l e ({ frames := 0, cells := 0, slots := 0, locals := 0 }) s m args below meth c H locs 0 0 (MQ below (pw_Q D cls9 ad C (pw_pv (fun ad' C' => ad' = ad ∧ rm_at ca ad C' res ∧ rm_fr C C')) A) args s 0 0 A) (F0 m 21 ls [])) → ∀ (n : Nat) (x1_1 : Int32) (r : RS) (C1 : pw_C) (H : Heap) (locs : List Loc) (ls : Array Slot), m_noHandles_2 K n x1_1 r = some res → rm_at ca ad C1 r → rm_fr C C1 → pw_H D cls9 A s.heap ad C ad C1 H locs → lv_has ls 2 [(1, .int x1_1), (0, .ref (ad 30 0))] → W p l e ({ frames := 0, cells := 0, slots := 0, locals := 0 }) s m args below meth c H locs 0 0 (MQ below (pw_Q D cls9 ad C (pw_pv (fun ad' C' => ad' = ad ∧ rm_at ca ad C' res ∧ rm_fr C C')) A) args s 0 0 A) (F0 m 2 ls []) := by
    intro K hKK n
    induction n with
    | zero => intro x1_1 r C1 H locs ls hE; rw [m_noHandles_2] at hE; exact absurd hE (by simp)
    | succ n ih =>
      intro x1_1 r C1 H locs ls hE hR hfr hw hl
      rw [m_noHandles_2] at hE
      refine lv_iload_n hx hb d_M_noHandles_2 rfl (lv_at hl 0 rfl) ?_
      refine lv_bipush (v := 51) hx hb d_M_noHandles_3 (by decide) ?_
      refine lv_icmp_ge (tgt := 21) hx hb d_M_noHandles_5 (by decide) (fun c_2 => ?_) (fun c_2 => ?_)
      · rw [if_pos c_2] at hE
        exact hKK _ _ _ _ _ _ hE hR hfr hw (lv_sub hl [0, 1] rfl)
      · rw [if_neg c_2] at hE
        refine lv_aload_n hx hb d_M_noHandles_8 rfl (lv_at hl 1 rfl) ?_
        have hc_3 : C1 30 0 = some (.inr (4, [.ref (ad 31 0), .ref (ad 31 1), .ref (ad 31 2), .ref (ad 31 3), .ref (ad 31 4), .ref (ad 31 5), .ref (ad 31 6), .ref (ad 31 7), .ref (ad 31 8), .ref (ad 31 9), .ref (ad 31 10), .ref (ad 31 11), .ref (ad 31 12), .ref (ad 31 13), .ref (ad 31 14), .int r.objects, .ref (ad 31 15), .int r.length, .ref (ad 31 16), .int r.waits, .ref (ad 31 17), .int r.given, .ref (ad 31 18), .ref (ad 31 19), .ref (ad 31 20), .int r.left, .ref (ad 31 21), .ref (ad 31 22), .int r.oldLength, .int r.oldWaits, .int r.oldGiven])) := by have h9 := rm_at.o hR; exact h9
        refine pw_get (Cn := "GraphWriterModel") (T := F_M) (N := 31) hx hb hts in_M hown hK hw 30 0 rfl hc_3 rfl 20 (by decide) (hts _ wd_774) (fun _ h9 => h9) rfl d_M_noHandles_9 ?_
        refine lv_iload_n hx hb d_M_noHandles_12 rfl (lv_at hl 0 rfl) ?_
        refine lv_iconst (v := (-1)) hx hb d_M_noHandles_13 (by decide) ?_
        have hc_4 : C1 31 17 = some (.inl (ca 0, 51, .inl r.handles)) := by have h9 := rm_at.a17 hR; exact h9
        obtain ⟨w_5, hw_5, hE⟩ := ob_some hE
        obtain ⟨hi_w_5, hj_w_5, he_w_5⟩ := wr_some (by decide) hw_5
        refine pw_iast hx hb hK hw 31 17 rfl 0 hc_4 rfl (by decide) (x1_1 : Int32).toNatClampNeg hi_w_5 (by omega) (by omega) d_M_noHandles_14 (fun H locs hw => ?_)
        rw [← he_w_5] at hw
        have hw : pw_H D cls9 A s.heap ad C ad (pw_up C1 31 17 (some (.inl (ca 0, 51, .inl w_5)))) H _ := hw
        generalize hC_6 : pw_up C1 31 17 (some (.inl (ca 0, 51, .inl w_5))) = C_6 at hw
        have hR : rm_at ca ad C_6 (RS.s_handles r w_5) := by rw [← hC_6]; exact rm_at.s17 hR _
        have hfr : rm_fr C C_6 := fun x y h9 => by rw [← hC_6]; exact (pw_up_ne _ _ (by omega)).trans (hfr x y h9)
        refine lv_iinc (v := x1_1 + 1) (lv' := [(1, .int (x1_1 + 1)), (0, .ref (ad 30 0))]) hx hb d_M_noHandles_15 hl (k := 0) rfl rfl (by decide) rfl (fun ls hl => ?_)
        refine lv_goto (tgt := 2) hx hb d_M_noHandles_18 (by decide) ?_
        exact ih _ _ _ _ _ _ hE hR hfr hw (lv_sub hl [0, 1] rfl)
  refine lp_1 _ (fun z1_1 r_7 C_8 H locs ls hE hR hfr hw hl => ?_) 60 _ _ _ _ _ _ hE hR hfr hw hl
  try dsimp only at hE
  refine lv_aload_n hx hb d_M_noHandles_21 rfl (lv_at hl 1 rfl) ?_
  refine lv_iconst (v := 0) hx hb d_M_noHandles_22 (by decide) ?_
  have hc_9 : C_8 30 0 = some (.inr (4, [.ref (ad 31 0), .ref (ad 31 1), .ref (ad 31 2), .ref (ad 31 3), .ref (ad 31 4), .ref (ad 31 5), .ref (ad 31 6), .ref (ad 31 7), .ref (ad 31 8), .ref (ad 31 9), .ref (ad 31 10), .ref (ad 31 11), .ref (ad 31 12), .ref (ad 31 13), .ref (ad 31 14), .int r_7.objects, .ref (ad 31 15), .int r_7.length, .ref (ad 31 16), .int r_7.waits, .ref (ad 31 17), .int r_7.given, .ref (ad 31 18), .ref (ad 31 19), .ref (ad 31 20), .int r_7.left, .ref (ad 31 21), .ref (ad 31 22), .int r_7.oldLength, .int r_7.oldWaits, .int r_7.oldGiven])) := by have h9 := rm_at.o hR; exact h9
  refine pw_put (Cn := "GraphWriterModel") (T := F_M) (N := 31) (v := .int 0) (ty := .int) hx hb hts in_M ft_M to_M nm_M hown hK hw 30 0 (by decide) rfl hc_9 rfl 21 (by decide) (hts _ wd_775) (fun _ h9 => h9) rfl (by decide +kernel) rfl rfl (Nat.le_of_ble_eq_true rfl) d_M_noHandles_23 (fun H locs hw => ?_)
  have hw : pw_H D cls9 A s.heap ad C ad (pw_up C_8 30 0 (some (.inr (4, [.ref (ad 31 0), .ref (ad 31 1), .ref (ad 31 2), .ref (ad 31 3), .ref (ad 31 4), .ref (ad 31 5), .ref (ad 31 6), .ref (ad 31 7), .ref (ad 31 8), .ref (ad 31 9), .ref (ad 31 10), .ref (ad 31 11), .ref (ad 31 12), .ref (ad 31 13), .ref (ad 31 14), .int r_7.objects, .ref (ad 31 15), .int r_7.length, .ref (ad 31 16), .int r_7.waits, .ref (ad 31 17), .int 0, .ref (ad 31 18), .ref (ad 31 19), .ref (ad 31 20), .int r_7.left, .ref (ad 31 21), .ref (ad 31 22), .int r_7.oldLength, .int r_7.oldWaits, .int r_7.oldGiven])))) H _ := hw
  generalize hC_10 : pw_up C_8 30 0 (some (.inr (4, [.ref (ad 31 0), .ref (ad 31 1), .ref (ad 31 2), .ref (ad 31 3), .ref (ad 31 4), .ref (ad 31 5), .ref (ad 31 6), .ref (ad 31 7), .ref (ad 31 8), .ref (ad 31 9), .ref (ad 31 10), .ref (ad 31 11), .ref (ad 31 12), .ref (ad 31 13), .ref (ad 31 14), .int r_7.objects, .ref (ad 31 15), .int r_7.length, .ref (ad 31 16), .int r_7.waits, .ref (ad 31 17), .int 0, .ref (ad 31 18), .ref (ad 31 19), .ref (ad 31 20), .int r_7.left, .ref (ad 31 21), .ref (ad 31 22), .int r_7.oldLength, .int r_7.oldWaits, .int r_7.oldGiven]))) = C_10 at hw
  have hR : rm_at ca ad C_10 (RS.s_given r_7 0) := by rw [← hC_10]; exact rm_at.o_given hR _
  have hfr : rm_fr C C_10 := fun x y h9 => by rw [← hC_10]; exact (pw_up_ne _ _ (by omega)).trans (hfr x y h9)
  obtain rfl := Option.some.inj hE
  exact pw_vret hx hb hr hlocks hw ⟨rfl, hR, hfr⟩ d_M_noHandles_26
def m_give (l1 : Int32) (r : RS) : Option RS := Option.bind (wr r.handles 51 l1 r.given) (fun w_3 => some (RS.s_given (RS.s_handles r w_3) (r.given + 1)))
set_option maxHeartbeats 4000000 in
set_option maxRecDepth 100000 in
theorem k_M_give {l : Launch} {D : va_G} {ca : Nat → ClassId} {kS : Nat → Nat} {kT : Nat} {ad : pw_A} {C : pw_C} {r : RS} (hR : rm_at ca ad C r) {l1 : Int32} {res : RS} (hE : m_give l1 r = some res) : gc_Con l y_M_give c_M_give ({ frames := 0, cells := 0, slots := 0, locals := 0 }) D ca (z9_Z kS kT) [.ref (ad 30 0), .int l1] ad C (pw_pv (fun ad' C' => ad' = ad ∧ rm_at ca ad C' res ∧ rm_fr C C')) 0 0 := by
  have hZ := z9_ok kS kT
  refine pw_ofW (cc := b_M_give) (maxL := 2) (ret := none) (by decide) rfl (Nat.le_of_ble_eq_true rfl) ?_
  intro p e s m args below meth c A ls hB hA hw hK hz hl
  obtain ⟨hx, hb, hr, hml, hts0, hlocks, hown, hnm⟩ := hB
  have hts := wd_hts hts0
  have hown : s.vm.findClass "GraphWriterModel" = some m.cls := hown
  have hl : lv_has ls 2 [(0, .ref (ad 30 0)), (1, .int l1)] := hl
  have hfr : rm_fr C C := fun _ _ _ => rfl
  unfold m_give at hE
  refine lv_aload_n hx hb d_M_give_0 rfl (lv_at hl 0 rfl) ?_
  have hc_1 : C 30 0 = some (.inr (4, [.ref (ad 31 0), .ref (ad 31 1), .ref (ad 31 2), .ref (ad 31 3), .ref (ad 31 4), .ref (ad 31 5), .ref (ad 31 6), .ref (ad 31 7), .ref (ad 31 8), .ref (ad 31 9), .ref (ad 31 10), .ref (ad 31 11), .ref (ad 31 12), .ref (ad 31 13), .ref (ad 31 14), .int r.objects, .ref (ad 31 15), .int r.length, .ref (ad 31 16), .int r.waits, .ref (ad 31 17), .int r.given, .ref (ad 31 18), .ref (ad 31 19), .ref (ad 31 20), .int r.left, .ref (ad 31 21), .ref (ad 31 22), .int r.oldLength, .int r.oldWaits, .int r.oldGiven])) := by have h9 := rm_at.o hR; exact h9
  refine pw_get (Cn := "GraphWriterModel") (T := F_M) (N := 31) hx hb hts in_M hown hK hw 30 0 rfl hc_1 rfl 20 (by decide) (hts _ wd_774) (fun _ h9 => h9) rfl d_M_give_1 ?_
  refine lv_iload_n hx hb d_M_give_4 rfl (lv_at hl 1 rfl) ?_
  refine lv_aload_n hx hb d_M_give_5 rfl (lv_at hl 0 rfl) ?_
  refine pw_get (Cn := "GraphWriterModel") (T := F_M) (N := 31) hx hb hts in_M hown hK hw 30 0 rfl hc_1 rfl 21 (by decide) (hts _ wd_775) (fun _ h9 => h9) rfl d_M_give_6 ?_
  have hc_2 : C 31 17 = some (.inl (ca 0, 51, .inl r.handles)) := by have h9 := rm_at.a17 hR; exact h9
  obtain ⟨w_3, hw_3, hE⟩ := ob_some hE
  obtain ⟨hi_w_3, hj_w_3, he_w_3⟩ := wr_some (by decide) hw_3
  refine pw_iast hx hb hK hw 31 17 rfl 0 hc_2 rfl (by decide) (l1 : Int32).toNatClampNeg hi_w_3 (by omega) (by omega) d_M_give_9 (fun H locs hw => ?_)
  rw [← he_w_3] at hw
  have hw : pw_H D cls9 A s.heap ad C ad (pw_up C 31 17 (some (.inl (ca 0, 51, .inl w_3)))) H _ := hw
  generalize hC_4 : pw_up C 31 17 (some (.inl (ca 0, 51, .inl w_3))) = C_4 at hw
  have hR : rm_at ca ad C_4 (RS.s_handles r w_3) := by rw [← hC_4]; exact rm_at.s17 hR _
  have hfr : rm_fr C C_4 := fun x y h9 => by rw [← hC_4]; exact (pw_up_ne _ _ (by omega)).trans (hfr x y h9)
  refine lv_aload_n hx hb d_M_give_10 rfl (lv_at hl 0 rfl) ?_
  refine lv_dup hx hb d_M_give_11 rfl ?_
  have hc_5 : C_4 30 0 = some (.inr (4, [.ref (ad 31 0), .ref (ad 31 1), .ref (ad 31 2), .ref (ad 31 3), .ref (ad 31 4), .ref (ad 31 5), .ref (ad 31 6), .ref (ad 31 7), .ref (ad 31 8), .ref (ad 31 9), .ref (ad 31 10), .ref (ad 31 11), .ref (ad 31 12), .ref (ad 31 13), .ref (ad 31 14), .int r.objects, .ref (ad 31 15), .int r.length, .ref (ad 31 16), .int r.waits, .ref (ad 31 17), .int r.given, .ref (ad 31 18), .ref (ad 31 19), .ref (ad 31 20), .int r.left, .ref (ad 31 21), .ref (ad 31 22), .int r.oldLength, .int r.oldWaits, .int r.oldGiven])) := by have h9 := rm_at.o hR; exact h9
  refine pw_get (Cn := "GraphWriterModel") (T := F_M) (N := 31) hx hb hts in_M hown hK hw 30 0 rfl hc_5 rfl 21 (by decide) (hts _ wd_775) (fun _ h9 => h9) rfl d_M_give_12 ?_
  refine lv_iconst (v := 1) hx hb d_M_give_15 (by decide) ?_
  refine lv_iadd hx hb d_M_give_16 ?_
  refine pw_put (Cn := "GraphWriterModel") (T := F_M) (N := 31) (v := .int (r.given + 1)) (ty := .int) hx hb hts in_M ft_M to_M nm_M hown hK hw 30 0 (by decide) rfl hc_5 rfl 21 (by decide) (hts _ wd_775) (fun _ h9 => h9) rfl (by decide +kernel) rfl rfl (Nat.le_of_ble_eq_true rfl) d_M_give_17 (fun H locs hw => ?_)
  have hw : pw_H D cls9 A s.heap ad C ad (pw_up C_4 30 0 (some (.inr (4, [.ref (ad 31 0), .ref (ad 31 1), .ref (ad 31 2), .ref (ad 31 3), .ref (ad 31 4), .ref (ad 31 5), .ref (ad 31 6), .ref (ad 31 7), .ref (ad 31 8), .ref (ad 31 9), .ref (ad 31 10), .ref (ad 31 11), .ref (ad 31 12), .ref (ad 31 13), .ref (ad 31 14), .int r.objects, .ref (ad 31 15), .int r.length, .ref (ad 31 16), .int r.waits, .ref (ad 31 17), .int (r.given + 1), .ref (ad 31 18), .ref (ad 31 19), .ref (ad 31 20), .int r.left, .ref (ad 31 21), .ref (ad 31 22), .int r.oldLength, .int r.oldWaits, .int r.oldGiven])))) H _ := hw
  generalize hC_6 : pw_up C_4 30 0 (some (.inr (4, [.ref (ad 31 0), .ref (ad 31 1), .ref (ad 31 2), .ref (ad 31 3), .ref (ad 31 4), .ref (ad 31 5), .ref (ad 31 6), .ref (ad 31 7), .ref (ad 31 8), .ref (ad 31 9), .ref (ad 31 10), .ref (ad 31 11), .ref (ad 31 12), .ref (ad 31 13), .ref (ad 31 14), .int r.objects, .ref (ad 31 15), .int r.length, .ref (ad 31 16), .int r.waits, .ref (ad 31 17), .int (r.given + 1), .ref (ad 31 18), .ref (ad 31 19), .ref (ad 31 20), .int r.left, .ref (ad 31 21), .ref (ad 31 22), .int r.oldLength, .int r.oldWaits, .int r.oldGiven]))) = C_6 at hw
  have hR : rm_at ca ad C_6 (RS.s_given (RS.s_handles r w_3) (r.given + 1)) := by rw [← hC_6]; exact rm_at.o_given hR _
  have hfr : rm_fr C C_6 := fun x y h9 => by rw [← hC_6]; exact (pw_up_ne _ _ (by omega)).trans (hfr x y h9)
  obtain rfl := Option.some.inj hE
  exact pw_vret hx hb hr hlocks hw ⟨rfl, hR, hfr⟩ d_M_give_20
def m_refer (l1 : Int32) (r : RS) : Option RS := Option.bind (m_append 113 1 r) (fun y_1 => Option.bind (rd y_1.handles 51 l1) (fun v_8 => Option.bind (m_append ((8257536 + v_8).toInt64) 4 y_1) (fun y_9 => some y_9)))
set_option maxHeartbeats 4000000 in
set_option maxRecDepth 100000 in
theorem k_M_refer {l : Launch} {D : va_G} {ca : Nat → ClassId} {kS : Nat → Nat} {kT : Nat} {ad : pw_A} {C : pw_C} {r : RS} (hR : rm_at ca ad C r) {l1 : Int32} {res : RS} (hE : m_refer l1 r = some res) : gc_Con l y_M_refer c_M_refer ({ frames := 1, cells := 0, slots := 0, locals := 24 }) D ca (z9_Z kS kT) [.ref (ad 30 0), .int l1] ad C (pw_pv (fun ad' C' => ad' = ad ∧ rm_at ca ad C' res ∧ rm_fr C C')) 0 0 := by
  have hZ := z9_ok kS kT
  refine pw_ofW (cc := b_M_refer) (maxL := 2) (ret := none) (by decide) rfl (Nat.le_of_ble_eq_true rfl) ?_
  intro p e s m args below meth c A ls hB hA hw hK hz hl
  obtain ⟨hx, hb, hr, hml, hts0, hlocks, hown, hnm⟩ := hB
  have hts := wd_hts hts0
  have hown : s.vm.findClass "GraphWriterModel" = some m.cls := hown
  have hl : lv_has ls 2 [(0, .ref (ad 30 0)), (1, .int l1)] := hl
  have hfr : rm_fr C C := fun _ _ _ => rfl
  unfold m_refer at hE
  refine lv_aload_n hx hb d_M_refer_0 rfl (lv_at hl 0 rfl) ?_
  refine lv_ldc2 (v := 113) hx hb hown (hts _ wd_948) d_M_refer_1 ?_
  refine lv_iconst (v := 1) hx hb d_M_refer_4 (by decide) ?_
  obtain ⟨y_1, hy_1, hE⟩ := ob_some hE
  have hc_2 : C 30 0 = some (.inr (4, [.ref (ad 31 0), .ref (ad 31 1), .ref (ad 31 2), .ref (ad 31 3), .ref (ad 31 4), .ref (ad 31 5), .ref (ad 31 6), .ref (ad 31 7), .ref (ad 31 8), .ref (ad 31 9), .ref (ad 31 10), .ref (ad 31 11), .ref (ad 31 12), .ref (ad 31 13), .ref (ad 31 14), .int r.objects, .ref (ad 31 15), .int r.length, .ref (ad 31 16), .int r.waits, .ref (ad 31 17), .int r.given, .ref (ad 31 18), .ref (ad 31 19), .ref (ad 31 20), .int r.left, .ref (ad 31 21), .ref (ad 31 22), .int r.oldLength, .int r.oldWaits, .int r.oldGiven])) := by have h9 := rm_at.o hR; exact h9
  refine pw_callv (va_runV (As := [.long 113, .int 1]) (rest := []) ⟨hx, hb, hml, hown, hts0⟩ (k_M_append hR hy_1 _) (cwV 2 hts0 (wd_V wd_748 wd_745 wd_747 wd_20 wd_56) rfl rfl rfl (by decide +kernel) ⟨Nat.le_of_ble_eq_true rfl, Nat.le_of_ble_eq_true rfl⟩) (pw_preV hZ hw hA hK hz rfl hc_2 rfl) rfl rfl hl.1 rfl (lv_room (Nat.le_of_ble_eq_true rfl)) d_M_refer_5 ⟨Nat.le_of_ble_eq_true rfl, Nat.le_of_ble_eq_true rfl⟩) hw hA (fun ad_3 C_4 H locs hp hw => ?_)
  obtain ⟨hae, hR, hf1⟩ := hp
  rw [hae] at hw
  clear hae
  have hfr : rm_fr C C_4 := fun x y h9 => (hf1 x y h9).trans (hfr x y h9)
  clear hf1
  refine lv_aload_n hx hb d_M_refer_8 rfl (lv_at hl 0 rfl) ?_
  refine lv_ldc (v := 8257536) hx hb hown (hts _ wd_949) d_M_refer_9 ?_
  refine lv_aload_n hx hb d_M_refer_11 rfl (lv_at hl 0 rfl) ?_
  have hc_6 : C_4 30 0 = some (.inr (4, [.ref (ad 31 0), .ref (ad 31 1), .ref (ad 31 2), .ref (ad 31 3), .ref (ad 31 4), .ref (ad 31 5), .ref (ad 31 6), .ref (ad 31 7), .ref (ad 31 8), .ref (ad 31 9), .ref (ad 31 10), .ref (ad 31 11), .ref (ad 31 12), .ref (ad 31 13), .ref (ad 31 14), .int y_1.objects, .ref (ad 31 15), .int y_1.length, .ref (ad 31 16), .int y_1.waits, .ref (ad 31 17), .int y_1.given, .ref (ad 31 18), .ref (ad 31 19), .ref (ad 31 20), .int y_1.left, .ref (ad 31 21), .ref (ad 31 22), .int y_1.oldLength, .int y_1.oldWaits, .int y_1.oldGiven])) := by have h9 := rm_at.o hR; exact h9
  refine pw_get (Cn := "GraphWriterModel") (T := F_M) (N := 31) hx hb hts in_M hown hK hw 30 0 rfl hc_6 rfl 20 (by decide) (hts _ wd_774) (fun _ h9 => h9) rfl d_M_refer_12 ?_
  refine lv_iload_n hx hb d_M_refer_15 rfl (lv_at hl 1 rfl) ?_
  have hc_7 : C_4 31 17 = some (.inl (ca 0, 51, .inl y_1.handles)) := by have h9 := rm_at.a17 hR; exact h9
  obtain ⟨v_8, hv_8, hE⟩ := ob_some hE
  obtain ⟨hi_v_8, hj_v_8, he_v_8⟩ := rd_some (by decide) hv_8
  refine pw_iald hx hb hK hw 31 17 rfl 0 hc_7 rfl (l1 : Int32).toNatClampNeg hi_v_8 (by omega) (by omega) d_M_refer_16 ?_
  rw [← he_v_8]
  refine lv_iadd hx hb d_M_refer_17 ?_
  refine lv_i2l hx hb d_M_refer_18 rfl ?_
  refine lv_iconst (v := 4) hx hb d_M_refer_19 (by decide) ?_
  obtain ⟨y_9, hy_9, hE⟩ := ob_some hE
  refine pw_callv (va_runV (As := [.long ((8257536 + v_8).toInt64), .int 4]) (rest := []) ⟨hx, hb, hml, hown, hts0⟩ (k_M_append hR hy_9 _) (cwV 2 hts0 (wd_V wd_748 wd_745 wd_747 wd_20 wd_56) rfl rfl rfl (by decide +kernel) ⟨Nat.le_of_ble_eq_true rfl, Nat.le_of_ble_eq_true rfl⟩) (pw_preV hZ hw hA hK hz rfl hc_6 rfl) rfl rfl hl.1 rfl (lv_room (Nat.le_of_ble_eq_true rfl)) d_M_refer_20 ⟨Nat.le_of_ble_eq_true rfl, Nat.le_of_ble_eq_true rfl⟩) hw hA (fun ad_10 C_11 H locs hp hw => ?_)
  obtain ⟨hae, hR, hf1⟩ := hp
  rw [hae] at hw
  clear hae
  have hfr : rm_fr C C_11 := fun x y h9 => (hf1 x y h9).trans (hfr x y h9)
  clear hf1
  obtain rfl := Option.some.inj hE
  exact pw_vret hx hb hr hlocks hw ⟨rfl, hR, hfr⟩ d_M_refer_23
def m_flush_28 (K : Int32 → RS → Option RS) : Nat → Int32 → RS → Option RS
  | 0, _, _ => none
  | n + 1, x1_12, r => if (r.waits : Int32) ≤ x1_12 then (K x1_12 r) else (Option.bind (rd r.waiting 256 x1_12) (fun v_16 => Option.bind (m_append v_16.toInt64 1 r) (fun y_17 => m_flush_28 K n (x1_12 + 1) y_17)))
def m_flush  (r : RS) : Option RS := if (r.waits : Int32) = 0 then (some r) else (Option.bind (m_append 119 1 r) (fun y_3 => Option.bind (m_append y_3.waits.toInt64 1 y_3) (fun y_8 => m_flush_28 (fun z1_12 r_21 => some (RS.s_waits r_21 0)) 300 0 y_8)))
set_option maxHeartbeats 4000000 in
set_option maxRecDepth 100000 in
theorem k_M_flush {l : Launch} {D : va_G} {ca : Nat → ClassId} {kS : Nat → Nat} {kT : Nat} {ad : pw_A} {C : pw_C} {r : RS} (hR : rm_at ca ad C r)  {res : RS} (hE : m_flush  r = some res) : gc_Con l y_M_flush c_M_flush ({ frames := 1, cells := 0, slots := 0, locals := 24 }) D ca (z9_Z kS kT) [.ref (ad 30 0)] ad C (pw_pv (fun ad' C' => ad' = ad ∧ rm_at ca ad C' res ∧ rm_fr C C')) 0 0 := by
  have hZ := z9_ok kS kT
  refine pw_ofW (cc := b_M_flush) (maxL := 2) (ret := none) (by decide) rfl (Nat.le_of_ble_eq_true rfl) ?_
  intro p e s m args below meth c A ls hB hA hw hK hz hl
  obtain ⟨hx, hb, hr, hml, hts0, hlocks, hown, hnm⟩ := hB
  have hts := wd_hts hts0
  have hown : s.vm.findClass "GraphWriterModel" = some m.cls := hown
  have hl : lv_has ls 2 [(0, .ref (ad 30 0))] := hl
  have hfr : rm_fr C C := fun _ _ _ => rfl
  unfold m_flush at hE
  refine lv_aload_n hx hb d_M_flush_0 rfl (lv_at hl 0 rfl) ?_
  have hc_1 : C 30 0 = some (.inr (4, [.ref (ad 31 0), .ref (ad 31 1), .ref (ad 31 2), .ref (ad 31 3), .ref (ad 31 4), .ref (ad 31 5), .ref (ad 31 6), .ref (ad 31 7), .ref (ad 31 8), .ref (ad 31 9), .ref (ad 31 10), .ref (ad 31 11), .ref (ad 31 12), .ref (ad 31 13), .ref (ad 31 14), .int r.objects, .ref (ad 31 15), .int r.length, .ref (ad 31 16), .int r.waits, .ref (ad 31 17), .int r.given, .ref (ad 31 18), .ref (ad 31 19), .ref (ad 31 20), .int r.left, .ref (ad 31 21), .ref (ad 31 22), .int r.oldLength, .int r.oldWaits, .int r.oldGiven])) := by have h9 := rm_at.o hR; exact h9
  refine pw_get (Cn := "GraphWriterModel") (T := F_M) (N := 31) hx hb hts in_M hown hK hw 30 0 rfl hc_1 rfl 19 (by decide) (hts _ wd_773) (fun _ h9 => h9) rfl d_M_flush_1 ?_
  refine lv_if_ne (tgt := 8) hx hb d_M_flush_4 (by decide) (fun c_2 => ?_) (fun c_2 => ?_)
  · rw [if_neg c_2] at hE
    refine lv_aload_n hx hb d_M_flush_8 rfl (lv_at hl 0 rfl) ?_
    refine lv_ldc2 (v := 119) hx hb hown (hts _ wd_926) d_M_flush_9 ?_
    refine lv_iconst (v := 1) hx hb d_M_flush_12 (by decide) ?_
    obtain ⟨y_3, hy_3, hE⟩ := ob_some hE
    refine pw_callv (va_runV (As := [.long 119, .int 1]) (rest := []) ⟨hx, hb, hml, hown, hts0⟩ (k_M_append hR hy_3 _) (cwV 2 hts0 (wd_V wd_748 wd_745 wd_747 wd_20 wd_56) rfl rfl rfl (by decide +kernel) ⟨Nat.le_of_ble_eq_true rfl, Nat.le_of_ble_eq_true rfl⟩) (pw_preV hZ hw hA hK hz rfl hc_1 rfl) rfl rfl hl.1 rfl (lv_room (Nat.le_of_ble_eq_true rfl)) d_M_flush_13 ⟨Nat.le_of_ble_eq_true rfl, Nat.le_of_ble_eq_true rfl⟩) hw hA (fun ad_4 C_5 H locs hp hw => ?_)
    obtain ⟨hae, hR, hf1⟩ := hp
    rw [hae] at hw
    clear hae
    have hfr : rm_fr C C_5 := fun x y h9 => (hf1 x y h9).trans (hfr x y h9)
    clear hf1
    refine lv_aload_n hx hb d_M_flush_16 rfl (lv_at hl 0 rfl) ?_
    refine lv_aload_n hx hb d_M_flush_17 rfl (lv_at hl 0 rfl) ?_
    have hc_7 : C_5 30 0 = some (.inr (4, [.ref (ad 31 0), .ref (ad 31 1), .ref (ad 31 2), .ref (ad 31 3), .ref (ad 31 4), .ref (ad 31 5), .ref (ad 31 6), .ref (ad 31 7), .ref (ad 31 8), .ref (ad 31 9), .ref (ad 31 10), .ref (ad 31 11), .ref (ad 31 12), .ref (ad 31 13), .ref (ad 31 14), .int y_3.objects, .ref (ad 31 15), .int y_3.length, .ref (ad 31 16), .int y_3.waits, .ref (ad 31 17), .int y_3.given, .ref (ad 31 18), .ref (ad 31 19), .ref (ad 31 20), .int y_3.left, .ref (ad 31 21), .ref (ad 31 22), .int y_3.oldLength, .int y_3.oldWaits, .int y_3.oldGiven])) := by have h9 := rm_at.o hR; exact h9
    refine pw_get (Cn := "GraphWriterModel") (T := F_M) (N := 31) hx hb hts in_M hown hK hw 30 0 rfl hc_7 rfl 19 (by decide) (hts _ wd_773) (fun _ h9 => h9) rfl d_M_flush_18 ?_
    refine lv_i2l hx hb d_M_flush_21 rfl ?_
    refine lv_iconst (v := 1) hx hb d_M_flush_22 (by decide) ?_
    obtain ⟨y_8, hy_8, hE⟩ := ob_some hE
    refine pw_callv (va_runV (As := [.long y_3.waits.toInt64, .int 1]) (rest := []) ⟨hx, hb, hml, hown, hts0⟩ (k_M_append hR hy_8 _) (cwV 2 hts0 (wd_V wd_748 wd_745 wd_747 wd_20 wd_56) rfl rfl rfl (by decide +kernel) ⟨Nat.le_of_ble_eq_true rfl, Nat.le_of_ble_eq_true rfl⟩) (pw_preV hZ hw hA hK hz rfl hc_7 rfl) rfl rfl hl.1 rfl (lv_room (Nat.le_of_ble_eq_true rfl)) d_M_flush_23 ⟨Nat.le_of_ble_eq_true rfl, Nat.le_of_ble_eq_true rfl⟩) hw hA (fun ad_9 C_10 H locs hp hw => ?_)
    obtain ⟨hae, hR, hf1⟩ := hp
    rw [hae] at hw
    clear hae
    have hfr : rm_fr C C_10 := fun x y h9 => (hf1 x y h9).trans (hfr x y h9)
    clear hf1
    refine lv_iconst (v := 0) hx hb d_M_flush_26 (by decide) ?_
    refine lv_istore_n (lv' := [(1, .int 0), (0, .ref (ad 30 0))]) hx hb d_M_flush_27 rfl hl (by decide) rfl (fun ls hl => ?_)
    have lp_12 : ∀ (K : Int32 → RS → Option RS), (∀ (x1_12 : Int32) (r : RS) (C1 : pw_C) (H : Heap) (locs : List Loc) (ls : Array Slot), K x1_12 r = some res → rm_at ca ad C1 r → rm_fr C C1 → pw_H D cls9 A s.heap ad C ad C1 H locs → lv_has ls 2 [(1, .int x1_12), (0, .ref (ad 30 0))] → W p l e ({ frames := 1, cells := 0, slots := 0, locals := 24 }) s m args below meth c H locs 0 0 (MQ below (pw_Q D cls9 ad C (pw_pv (fun ad' C' => ad' = ad ∧ rm_at ca ad C' res ∧ rm_fr C C')) A) args s 0 0 A) (F0 m 54 ls [])) → ∀ (n : Nat) (x1_12 : Int32) (r : RS) (C1 : pw_C) (H : Heap) (locs : List Loc) (ls : Array Slot), m_flush_28 K n x1_12 r = some res → rm_at ca ad C1 r → rm_fr C C1 → pw_H D cls9 A s.heap ad C ad C1 H locs → lv_has ls 2 [(1, .int x1_12), (0, .ref (ad 30 0))] → W p l e ({ frames := 1, cells := 0, slots := 0, locals := 24 }) s m args below meth c H locs 0 0 (MQ below (pw_Q D cls9 ad C (pw_pv (fun ad' C' => ad' = ad ∧ rm_at ca ad C' res ∧ rm_fr C C')) A) args s 0 0 A) (F0 m 28 ls []) := by
      intro K hKK n
      induction n with
      | zero => intro x1_12 r C1 H locs ls hE; rw [m_flush_28] at hE; exact absurd hE (by simp)
      | succ n ih =>
        intro x1_12 r C1 H locs ls hE hR hfr hw hl
        rw [m_flush_28] at hE
        refine lv_iload_n hx hb d_M_flush_28 rfl (lv_at hl 0 rfl) ?_
        refine lv_aload_n hx hb d_M_flush_29 rfl (lv_at hl 1 rfl) ?_
        have hc_13 : C1 30 0 = some (.inr (4, [.ref (ad 31 0), .ref (ad 31 1), .ref (ad 31 2), .ref (ad 31 3), .ref (ad 31 4), .ref (ad 31 5), .ref (ad 31 6), .ref (ad 31 7), .ref (ad 31 8), .ref (ad 31 9), .ref (ad 31 10), .ref (ad 31 11), .ref (ad 31 12), .ref (ad 31 13), .ref (ad 31 14), .int r.objects, .ref (ad 31 15), .int r.length, .ref (ad 31 16), .int r.waits, .ref (ad 31 17), .int r.given, .ref (ad 31 18), .ref (ad 31 19), .ref (ad 31 20), .int r.left, .ref (ad 31 21), .ref (ad 31 22), .int r.oldLength, .int r.oldWaits, .int r.oldGiven])) := by have h9 := rm_at.o hR; exact h9
        refine pw_get (Cn := "GraphWriterModel") (T := F_M) (N := 31) hx hb hts in_M hown hK hw 30 0 rfl hc_13 rfl 19 (by decide) (hts _ wd_773) (fun _ h9 => h9) rfl d_M_flush_30 ?_
        refine lv_icmp_ge (tgt := 54) hx hb d_M_flush_33 (by decide) (fun c_14 => ?_) (fun c_14 => ?_)
        · rw [if_pos c_14] at hE
          exact hKK _ _ _ _ _ _ hE hR hfr hw (lv_sub hl [0, 1] rfl)
        · rw [if_neg c_14] at hE
          refine lv_aload_n hx hb d_M_flush_36 rfl (lv_at hl 1 rfl) ?_
          refine lv_aload_n hx hb d_M_flush_37 rfl (lv_at hl 1 rfl) ?_
          refine pw_get (Cn := "GraphWriterModel") (T := F_M) (N := 31) hx hb hts in_M hown hK hw 30 0 rfl hc_13 rfl 18 (by decide) (hts _ wd_772) (fun _ h9 => h9) rfl d_M_flush_38 ?_
          refine lv_iload_n hx hb d_M_flush_41 rfl (lv_at hl 0 rfl) ?_
          have hc_15 : C1 31 16 = some (.inl (ca 0, 256, .inl r.waiting)) := by have h9 := rm_at.a16 hR; exact h9
          obtain ⟨v_16, hv_16, hE⟩ := ob_some hE
          obtain ⟨hi_v_16, hj_v_16, he_v_16⟩ := rd_some (by decide) hv_16
          refine pw_iald hx hb hK hw 31 16 rfl 0 hc_15 rfl (x1_12 : Int32).toNatClampNeg hi_v_16 (by omega) (by omega) d_M_flush_42 ?_
          rw [← he_v_16]
          refine lv_i2l hx hb d_M_flush_43 rfl ?_
          refine lv_iconst (v := 1) hx hb d_M_flush_44 (by decide) ?_
          obtain ⟨y_17, hy_17, hE⟩ := ob_some hE
          refine pw_callv (va_runV (As := [.long v_16.toInt64, .int 1]) (rest := []) ⟨hx, hb, hml, hown, hts0⟩ (k_M_append hR hy_17 _) (cwV 2 hts0 (wd_V wd_748 wd_745 wd_747 wd_20 wd_56) rfl rfl rfl (by decide +kernel) ⟨Nat.le_of_ble_eq_true rfl, Nat.le_of_ble_eq_true rfl⟩) (pw_preV hZ hw hA hK hz rfl hc_13 rfl) rfl rfl hl.1 rfl (lv_room (Nat.le_of_ble_eq_true rfl)) d_M_flush_45 ⟨Nat.le_of_ble_eq_true rfl, Nat.le_of_ble_eq_true rfl⟩) hw hA (fun ad_18 C_19 H locs hp hw => ?_)
          obtain ⟨hae, hR, hf1⟩ := hp
          rw [hae] at hw
          clear hae
          have hfr : rm_fr C C_19 := fun x y h9 => (hf1 x y h9).trans (hfr x y h9)
          clear hf1
          refine lv_iinc (v := x1_12 + 1) (lv' := [(1, .int (x1_12 + 1)), (0, .ref (ad 30 0))]) hx hb d_M_flush_48 hl (k := 0) rfl rfl (by decide) rfl (fun ls hl => ?_)
          refine lv_goto (tgt := 28) hx hb d_M_flush_51 (by decide) ?_
          exact ih _ _ _ _ _ _ hE hR hfr hw (lv_sub hl [0, 1] rfl)
    refine lp_12 _ (fun z1_12 r_21 C_22 H locs ls hE hR hfr hw hl => ?_) 300 _ _ _ _ _ _ hE hR hfr hw hl
    try dsimp only at hE
    refine lv_aload_n hx hb d_M_flush_54 rfl (lv_at hl 1 rfl) ?_
    refine lv_iconst (v := 0) hx hb d_M_flush_55 (by decide) ?_
    have hc_23 : C_22 30 0 = some (.inr (4, [.ref (ad 31 0), .ref (ad 31 1), .ref (ad 31 2), .ref (ad 31 3), .ref (ad 31 4), .ref (ad 31 5), .ref (ad 31 6), .ref (ad 31 7), .ref (ad 31 8), .ref (ad 31 9), .ref (ad 31 10), .ref (ad 31 11), .ref (ad 31 12), .ref (ad 31 13), .ref (ad 31 14), .int r_21.objects, .ref (ad 31 15), .int r_21.length, .ref (ad 31 16), .int r_21.waits, .ref (ad 31 17), .int r_21.given, .ref (ad 31 18), .ref (ad 31 19), .ref (ad 31 20), .int r_21.left, .ref (ad 31 21), .ref (ad 31 22), .int r_21.oldLength, .int r_21.oldWaits, .int r_21.oldGiven])) := by have h9 := rm_at.o hR; exact h9
    refine pw_put (Cn := "GraphWriterModel") (T := F_M) (N := 31) (v := .int 0) (ty := .int) hx hb hts in_M ft_M to_M nm_M hown hK hw 30 0 (by decide) rfl hc_23 rfl 19 (by decide) (hts _ wd_773) (fun _ h9 => h9) rfl (by decide +kernel) rfl rfl (Nat.le_of_ble_eq_true rfl) d_M_flush_56 (fun H locs hw => ?_)
    have hw : pw_H D cls9 A s.heap ad C ad (pw_up C_22 30 0 (some (.inr (4, [.ref (ad 31 0), .ref (ad 31 1), .ref (ad 31 2), .ref (ad 31 3), .ref (ad 31 4), .ref (ad 31 5), .ref (ad 31 6), .ref (ad 31 7), .ref (ad 31 8), .ref (ad 31 9), .ref (ad 31 10), .ref (ad 31 11), .ref (ad 31 12), .ref (ad 31 13), .ref (ad 31 14), .int r_21.objects, .ref (ad 31 15), .int r_21.length, .ref (ad 31 16), .int 0, .ref (ad 31 17), .int r_21.given, .ref (ad 31 18), .ref (ad 31 19), .ref (ad 31 20), .int r_21.left, .ref (ad 31 21), .ref (ad 31 22), .int r_21.oldLength, .int r_21.oldWaits, .int r_21.oldGiven])))) H _ := hw
    generalize hC_24 : pw_up C_22 30 0 (some (.inr (4, [.ref (ad 31 0), .ref (ad 31 1), .ref (ad 31 2), .ref (ad 31 3), .ref (ad 31 4), .ref (ad 31 5), .ref (ad 31 6), .ref (ad 31 7), .ref (ad 31 8), .ref (ad 31 9), .ref (ad 31 10), .ref (ad 31 11), .ref (ad 31 12), .ref (ad 31 13), .ref (ad 31 14), .int r_21.objects, .ref (ad 31 15), .int r_21.length, .ref (ad 31 16), .int 0, .ref (ad 31 17), .int r_21.given, .ref (ad 31 18), .ref (ad 31 19), .ref (ad 31 20), .int r_21.left, .ref (ad 31 21), .ref (ad 31 22), .int r_21.oldLength, .int r_21.oldWaits, .int r_21.oldGiven]))) = C_24 at hw
    have hR : rm_at ca ad C_24 (RS.s_waits r_21 0) := by rw [← hC_24]; exact rm_at.o_waits hR _
    have hfr : rm_fr C C_24 := fun x y h9 => by rw [← hC_24]; exact (pw_up_ne _ _ (by omega)).trans (hfr x y h9)
    obtain rfl := Option.some.inj hE
    exact pw_vret hx hb hr hlocks hw ⟨rfl, hR, hfr⟩ d_M_flush_59
  · rw [if_pos c_2] at hE
    obtain rfl := Option.some.inj hE
    exact pw_vret hx hb hr hlocks hw ⟨rfl, hR, hfr⟩ d_M_flush_7
def m_define (l1 : Int32) (l2 : Int32) (l3 : Int32) (l4 : Int64) (r : RS) : Option (Int32 × RS) := Option.bind (m_out l1 6 r) (fun y_1 => if (y_1.1 : Int32) = 0 then (Option.bind (m_out l2 5 y_1.2) (fun y_7 => if (y_7.1 : Int32) = 0 then (if (l3 : Int32) < (-1) then (some ((-1), y_7.2)) else (if (l3 : Int32) < 0 then (Option.bind (rd y_7.2.defined 6 l1) (fun v_17 => if (v_17 : Int32) = 0 then (if (l3 : Int32) < 0 then (Option.bind (wrz y_7.2.defined 6 l1 1) (fun w_20 => Option.bind (wr y_7.2.kind 6 l1 l2) (fun w_24 => Option.bind (wr y_7.2.above 6 l1 l3) (fun w_28 => Option.bind (wrl y_7.2.id 6 l1 l4) (fun w_32 => some (0, (RS.s_id (RS.s_above (RS.s_kind (RS.s_defined y_7.2 w_20) w_24) w_28) w_32))))))) else (if (2 : Int32) < l2 then (some ((-1), y_7.2)) else (Option.bind (rd y_7.2.kind 6 l3) (fun v_36 => if (2 : Int32) < v_36 then (some ((-1), y_7.2)) else (if (l2 : Int32) = 0 then (Option.bind (rd y_7.2.kind 6 l3) (fun v_53 => if (v_53 : Int32) = 0 then (Option.bind (wrz y_7.2.defined 6 l1 1) (fun w_55 => Option.bind (wr y_7.2.kind 6 l1 l2) (fun w_59 => Option.bind (wr y_7.2.above 6 l1 l3) (fun w_63 => Option.bind (wrl y_7.2.id 6 l1 l4) (fun w_67 => some (0, (RS.s_id (RS.s_above (RS.s_kind (RS.s_defined y_7.2 w_55) w_59) w_63) w_67))))))) else (some ((-1), y_7.2)))) else (Option.bind (wrz y_7.2.defined 6 l1 1) (fun w_39 => Option.bind (wr y_7.2.kind 6 l1 l2) (fun w_43 => Option.bind (wr y_7.2.above 6 l1 l3) (fun w_47 => Option.bind (wrl y_7.2.id 6 l1 l4) (fun w_51 => some (0, (RS.s_id (RS.s_above (RS.s_kind (RS.s_defined y_7.2 w_39) w_43) w_47) w_51)))))))))))) else (some ((-1), y_7.2)))) else (Option.bind (m_noClass l3 y_7.2) (fun y_69 => if (y_69.1 : Int32) = 0 then (Option.bind (rd y_69.2.defined 6 l1) (fun v_77 => if (v_77 : Int32) = 0 then (if (l3 : Int32) < 0 then (Option.bind (wrz y_69.2.defined 6 l1 1) (fun w_80 => Option.bind (wr y_69.2.kind 6 l1 l2) (fun w_84 => Option.bind (wr y_69.2.above 6 l1 l3) (fun w_88 => Option.bind (wrl y_69.2.id 6 l1 l4) (fun w_92 => some (0, (RS.s_id (RS.s_above (RS.s_kind (RS.s_defined y_69.2 w_80) w_84) w_88) w_92))))))) else (if (2 : Int32) < l2 then (some ((-1), y_69.2)) else (Option.bind (rd y_69.2.kind 6 l3) (fun v_96 => if (2 : Int32) < v_96 then (some ((-1), y_69.2)) else (if (l2 : Int32) = 0 then (Option.bind (rd y_69.2.kind 6 l3) (fun v_113 => if (v_113 : Int32) = 0 then (Option.bind (wrz y_69.2.defined 6 l1 1) (fun w_115 => Option.bind (wr y_69.2.kind 6 l1 l2) (fun w_119 => Option.bind (wr y_69.2.above 6 l1 l3) (fun w_123 => Option.bind (wrl y_69.2.id 6 l1 l4) (fun w_127 => some (0, (RS.s_id (RS.s_above (RS.s_kind (RS.s_defined y_69.2 w_115) w_119) w_123) w_127))))))) else (some ((-1), y_69.2)))) else (Option.bind (wrz y_69.2.defined 6 l1 1) (fun w_99 => Option.bind (wr y_69.2.kind 6 l1 l2) (fun w_103 => Option.bind (wr y_69.2.above 6 l1 l3) (fun w_107 => Option.bind (wrl y_69.2.id 6 l1 l4) (fun w_111 => some (0, (RS.s_id (RS.s_above (RS.s_kind (RS.s_defined y_69.2 w_99) w_103) w_107) w_111)))))))))))) else (some ((-1), y_69.2)))) else (some ((-1), y_69.2)))))) else (some ((-1), y_7.2)))) else (some ((-1), y_1.2)))
set_option maxHeartbeats 4000000 in
set_option maxRecDepth 100000 in
theorem k_M_define {l : Launch} {D : va_G} {ca : Nat → ClassId} {kS : Nat → Nat} {kT : Nat} {ad : pw_A} {C : pw_C} {r : RS} (hR : rm_at ca ad C r) {l1 : Int32} {l2 : Int32} {l3 : Int32} {l4 : Int64} {res : (Int32 × RS)} (hE : m_define l1 l2 l3 l4 r = some res) : gc_Con l y_M_define c_M_define ({ frames := 2, cells := 0, slots := 0, locals := 43 }) D ca (z9_Z kS kT) [.ref (ad 30 0), .int l1, .int l2, .int l3, .long l4] ad C (pw_pi (fun v ad' C' => (ad' = ad ∧ rm_at ca ad C' res.2 ∧ rm_fr C C') ∧ v = res.1)) 0 0 := by
  have hZ := z9_ok kS kT
  refine pw_ofW (cc := b_M_define) (maxL := 6) (ret := (some FieldType.int)) (by decide) rfl (Nat.le_of_ble_eq_true rfl) ?_
  intro p e s m args below meth c A ls hB hA hw hK hz hl
  obtain ⟨hx, hb, hr, hml, hts0, hlocks, hown, hnm⟩ := hB
  have hts := wd_hts hts0
  have hown : s.vm.findClass "GraphWriterModel" = some m.cls := hown
  have hl : lv_has ls 6 [(0, .ref (ad 30 0)), (1, .int l1), (2, .int l2), (3, .int l3), (4, .long l4)] := hl
  have hfr : rm_fr C C := fun _ _ _ => rfl
  unfold m_define at hE
  refine lv_aload_n hx hb d_M_define_0 rfl (lv_at hl 0 rfl) ?_
  refine lv_iload_n hx hb d_M_define_1 rfl (lv_at hl 1 rfl) ?_
  refine lv_bipush (v := 6) hx hb d_M_define_2 (by decide) ?_
  obtain ⟨y_1, hy_1, hE⟩ := ob_some hE
  have hc_2 : C 30 0 = some (.inr (4, [.ref (ad 31 0), .ref (ad 31 1), .ref (ad 31 2), .ref (ad 31 3), .ref (ad 31 4), .ref (ad 31 5), .ref (ad 31 6), .ref (ad 31 7), .ref (ad 31 8), .ref (ad 31 9), .ref (ad 31 10), .ref (ad 31 11), .ref (ad 31 12), .ref (ad 31 13), .ref (ad 31 14), .int r.objects, .ref (ad 31 15), .int r.length, .ref (ad 31 16), .int r.waits, .ref (ad 31 17), .int r.given, .ref (ad 31 18), .ref (ad 31 19), .ref (ad 31 20), .int r.left, .ref (ad 31 21), .ref (ad 31 22), .int r.oldLength, .int r.oldWaits, .int r.oldGiven])) := by have h9 := rm_at.o hR; exact h9
  refine pw_calli (va_runV (As := [.int l1, .int 6]) (rest := []) ⟨hx, hb, hml, hown, hts0⟩ (k_M_out hR hy_1 _) (cwV 2 hts0 (wd_V wd_856 wd_853 wd_855 wd_22 wd_56) rfl rfl rfl (by decide +kernel) ⟨Nat.le_of_ble_eq_true rfl, Nat.le_of_ble_eq_true rfl⟩) (pw_preV hZ hw hA hK hz rfl hc_2 rfl) rfl rfl hl.1 rfl (lv_room (Nat.le_of_ble_eq_true rfl)) d_M_define_4 ⟨Nat.le_of_ble_eq_true rfl, Nat.le_of_ble_eq_true rfl⟩) hw hA (fun r_5 ad_3 C_4 H locs hp hw => ?_)
  obtain ⟨⟨hae, hR, hf1⟩, hre⟩ := hp
  rw [hre]
  rw [hae] at hw
  clear hae
  have hfr : rm_fr C C_4 := fun x y h9 => (hf1 x y h9).trans (hfr x y h9)
  clear hf1
  refine lv_if_ne (tgt := 45) hx hb d_M_define_7 (by decide) (fun c_6 => ?_) (fun c_6 => ?_)
  · rw [if_neg c_6] at hE
    refine lv_iconst (v := (-1)) hx hb d_M_define_45 (by decide) ?_
    obtain rfl := Option.some.inj hE
    exact pw_iret hx hb hr hlocks hw ⟨⟨rfl, hR, hfr⟩, rfl⟩ d_M_define_46
  · rw [if_pos c_6] at hE
    refine lv_aload_n hx hb d_M_define_10 rfl (lv_at hl 0 rfl) ?_
    refine lv_iload_n hx hb d_M_define_11 rfl (lv_at hl 2 rfl) ?_
    refine lv_iconst (v := 5) hx hb d_M_define_12 (by decide) ?_
    obtain ⟨y_7, hy_7, hE⟩ := ob_some hE
    have hc_8 : C_4 30 0 = some (.inr (4, [.ref (ad 31 0), .ref (ad 31 1), .ref (ad 31 2), .ref (ad 31 3), .ref (ad 31 4), .ref (ad 31 5), .ref (ad 31 6), .ref (ad 31 7), .ref (ad 31 8), .ref (ad 31 9), .ref (ad 31 10), .ref (ad 31 11), .ref (ad 31 12), .ref (ad 31 13), .ref (ad 31 14), .int y_1.2.objects, .ref (ad 31 15), .int y_1.2.length, .ref (ad 31 16), .int y_1.2.waits, .ref (ad 31 17), .int y_1.2.given, .ref (ad 31 18), .ref (ad 31 19), .ref (ad 31 20), .int y_1.2.left, .ref (ad 31 21), .ref (ad 31 22), .int y_1.2.oldLength, .int y_1.2.oldWaits, .int y_1.2.oldGiven])) := by have h9 := rm_at.o hR; exact h9
    refine pw_calli (va_runV (As := [.int l2, .int 5]) (rest := []) ⟨hx, hb, hml, hown, hts0⟩ (k_M_out hR hy_7 _) (cwV 2 hts0 (wd_V wd_856 wd_853 wd_855 wd_22 wd_56) rfl rfl rfl (by decide +kernel) ⟨Nat.le_of_ble_eq_true rfl, Nat.le_of_ble_eq_true rfl⟩) (pw_preV hZ hw hA hK hz rfl hc_8 rfl) rfl rfl hl.1 rfl (lv_room (Nat.le_of_ble_eq_true rfl)) d_M_define_13 ⟨Nat.le_of_ble_eq_true rfl, Nat.le_of_ble_eq_true rfl⟩) hw hA (fun r_11 ad_9 C_10 H locs hp hw => ?_)
    obtain ⟨⟨hae, hR, hf1⟩, hre⟩ := hp
    rw [hre]
    rw [hae] at hw
    clear hae
    have hfr : rm_fr C C_10 := fun x y h9 => (hf1 x y h9).trans (hfr x y h9)
    clear hf1
    refine lv_if_ne (tgt := 45) hx hb d_M_define_16 (by decide) (fun c_12 => ?_) (fun c_12 => ?_)
    · rw [if_neg c_12] at hE
      refine lv_iconst (v := (-1)) hx hb d_M_define_45 (by decide) ?_
      obtain rfl := Option.some.inj hE
      exact pw_iret hx hb hr hlocks hw ⟨⟨rfl, hR, hfr⟩, rfl⟩ d_M_define_46
    · rw [if_pos c_12] at hE
      refine lv_iload_n hx hb d_M_define_19 rfl (lv_at hl 3 rfl) ?_
      refine lv_iconst (v := (-1)) hx hb d_M_define_20 (by decide) ?_
      refine lv_icmp_lt (tgt := 45) hx hb d_M_define_21 (by decide) (fun c_13 => ?_) (fun c_13 => ?_)
      · rw [if_pos c_13] at hE
        refine lv_iconst (v := (-1)) hx hb d_M_define_45 (by decide) ?_
        obtain rfl := Option.some.inj hE
        exact pw_iret hx hb hr hlocks hw ⟨⟨rfl, hR, hfr⟩, rfl⟩ d_M_define_46
      · rw [if_neg c_13] at hE
        refine lv_iload_n hx hb d_M_define_24 rfl (lv_at hl 3 rfl) ?_
        refine lv_if_lt (tgt := 36) hx hb d_M_define_25 (by decide) (fun c_14 => ?_) (fun c_14 => ?_)
        · rw [if_pos c_14] at hE
          refine lv_aload_n hx hb d_M_define_36 rfl (lv_at hl 0 rfl) ?_
          have hc_15 : C_10 30 0 = some (.inr (4, [.ref (ad 31 0), .ref (ad 31 1), .ref (ad 31 2), .ref (ad 31 3), .ref (ad 31 4), .ref (ad 31 5), .ref (ad 31 6), .ref (ad 31 7), .ref (ad 31 8), .ref (ad 31 9), .ref (ad 31 10), .ref (ad 31 11), .ref (ad 31 12), .ref (ad 31 13), .ref (ad 31 14), .int y_7.2.objects, .ref (ad 31 15), .int y_7.2.length, .ref (ad 31 16), .int y_7.2.waits, .ref (ad 31 17), .int y_7.2.given, .ref (ad 31 18), .ref (ad 31 19), .ref (ad 31 20), .int y_7.2.left, .ref (ad 31 21), .ref (ad 31 22), .int y_7.2.oldLength, .int y_7.2.oldWaits, .int y_7.2.oldGiven])) := by have h9 := rm_at.o hR; exact h9
          refine pw_get (Cn := "GraphWriterModel") (T := F_M) (N := 31) hx hb hts in_M hown hK hw 30 0 rfl hc_15 rfl 0 (by decide) (hts _ wd_754) (fun _ h9 => h9) rfl d_M_define_37 ?_
          refine lv_iload_n hx hb d_M_define_40 rfl (lv_at hl 1 rfl) ?_
          have hc_16 : C_10 31 0 = some (.inl (ca 3, 6, .inl y_7.2.defined)) := by have h9 := rm_at.a0 hR; exact h9
          obtain ⟨v_17, hv_17, hE⟩ := ob_some hE
          obtain ⟨hi_v_17, hj_v_17, he_v_17⟩ := rd_some (by decide) hv_17
          refine pw_zald hx hb hK hw 31 0 rfl 3 hc_16 rfl (l1 : Int32).toNatClampNeg hi_v_17 (by omega) (by omega) d_M_define_41 ?_
          rw [← he_v_17]
          refine lv_if_eq (tgt := 47) hx hb d_M_define_42 (by decide) (fun c_18 => ?_) (fun c_18 => ?_)
          · rw [if_pos c_18] at hE
            refine lv_iload_n hx hb d_M_define_47 rfl (lv_at hl 3 rfl) ?_
            refine lv_if_lt (tgt := 81) hx hb d_M_define_48 (by decide) (fun c_19 => ?_) (fun c_19 => ?_)
            · rw [if_pos c_19] at hE
              refine lv_aload_n hx hb d_M_define_81 rfl (lv_at hl 0 rfl) ?_
              refine pw_get (Cn := "GraphWriterModel") (T := F_M) (N := 31) hx hb hts in_M hown hK hw 30 0 rfl hc_15 rfl 0 (by decide) (hts _ wd_754) (fun _ h9 => h9) rfl d_M_define_82 ?_
              refine lv_iload_n hx hb d_M_define_85 rfl (lv_at hl 1 rfl) ?_
              refine lv_iconst (v := 1) hx hb d_M_define_86 (by decide) ?_
              obtain ⟨w_20, hw_20, hE⟩ := ob_some hE
              obtain ⟨hi_w_20, hj_w_20, he_w_20⟩ := wrz_some (by decide) hw_20
              refine pw_zast hx hb hK hw 31 0 rfl 3 hc_16 rfl (by decide) (l1 : Int32).toNatClampNeg hi_w_20 (by omega) (by omega) d_M_define_87 (fun H locs hw => ?_)
              rw [← he_w_20] at hw
              have hw : pw_H D cls9 A s.heap ad C ad (pw_up C_10 31 0 (some (.inl (ca 3, 6, .inl w_20)))) H _ := hw
              generalize hC_21 : pw_up C_10 31 0 (some (.inl (ca 3, 6, .inl w_20))) = C_21 at hw
              have hR : rm_at ca ad C_21 (RS.s_defined y_7.2 w_20) := by rw [← hC_21]; exact rm_at.s0 hR _
              have hfr : rm_fr C C_21 := fun x y h9 => by rw [← hC_21]; exact (pw_up_ne _ _ (by omega)).trans (hfr x y h9)
              refine lv_aload_n hx hb d_M_define_88 rfl (lv_at hl 0 rfl) ?_
              have hc_22 : C_21 30 0 = some (.inr (4, [.ref (ad 31 0), .ref (ad 31 1), .ref (ad 31 2), .ref (ad 31 3), .ref (ad 31 4), .ref (ad 31 5), .ref (ad 31 6), .ref (ad 31 7), .ref (ad 31 8), .ref (ad 31 9), .ref (ad 31 10), .ref (ad 31 11), .ref (ad 31 12), .ref (ad 31 13), .ref (ad 31 14), .int y_7.2.objects, .ref (ad 31 15), .int y_7.2.length, .ref (ad 31 16), .int y_7.2.waits, .ref (ad 31 17), .int y_7.2.given, .ref (ad 31 18), .ref (ad 31 19), .ref (ad 31 20), .int y_7.2.left, .ref (ad 31 21), .ref (ad 31 22), .int y_7.2.oldLength, .int y_7.2.oldWaits, .int y_7.2.oldGiven])) := by have h9 := rm_at.o hR; exact h9
              refine pw_get (Cn := "GraphWriterModel") (T := F_M) (N := 31) hx hb hts in_M hown hK hw 30 0 rfl hc_22 rfl 1 (by decide) (hts _ wd_755) (fun _ h9 => h9) rfl d_M_define_89 ?_
              refine lv_iload_n hx hb d_M_define_92 rfl (lv_at hl 1 rfl) ?_
              refine lv_iload_n hx hb d_M_define_93 rfl (lv_at hl 2 rfl) ?_
              have hc_23 : C_21 31 1 = some (.inl (ca 0, 6, .inl y_7.2.kind)) := by have h9 := rm_at.a1 hR; exact h9
              obtain ⟨w_24, hw_24, hE⟩ := ob_some hE
              obtain ⟨hi_w_24, hj_w_24, he_w_24⟩ := wr_some (by decide) hw_24
              refine pw_iast hx hb hK hw 31 1 rfl 0 hc_23 rfl (by decide) (l1 : Int32).toNatClampNeg hi_w_24 (by omega) (by omega) d_M_define_94 (fun H locs hw => ?_)
              rw [← he_w_24] at hw
              have hw : pw_H D cls9 A s.heap ad C ad (pw_up C_21 31 1 (some (.inl (ca 0, 6, .inl w_24)))) H _ := hw
              generalize hC_25 : pw_up C_21 31 1 (some (.inl (ca 0, 6, .inl w_24))) = C_25 at hw
              have hR : rm_at ca ad C_25 (RS.s_kind (RS.s_defined y_7.2 w_20) w_24) := by rw [← hC_25]; exact rm_at.s1 hR _
              have hfr : rm_fr C C_25 := fun x y h9 => by rw [← hC_25]; exact (pw_up_ne _ _ (by omega)).trans (hfr x y h9)
              refine lv_aload_n hx hb d_M_define_95 rfl (lv_at hl 0 rfl) ?_
              have hc_26 : C_25 30 0 = some (.inr (4, [.ref (ad 31 0), .ref (ad 31 1), .ref (ad 31 2), .ref (ad 31 3), .ref (ad 31 4), .ref (ad 31 5), .ref (ad 31 6), .ref (ad 31 7), .ref (ad 31 8), .ref (ad 31 9), .ref (ad 31 10), .ref (ad 31 11), .ref (ad 31 12), .ref (ad 31 13), .ref (ad 31 14), .int y_7.2.objects, .ref (ad 31 15), .int y_7.2.length, .ref (ad 31 16), .int y_7.2.waits, .ref (ad 31 17), .int y_7.2.given, .ref (ad 31 18), .ref (ad 31 19), .ref (ad 31 20), .int y_7.2.left, .ref (ad 31 21), .ref (ad 31 22), .int y_7.2.oldLength, .int y_7.2.oldWaits, .int y_7.2.oldGiven])) := by have h9 := rm_at.o hR; exact h9
              refine pw_get (Cn := "GraphWriterModel") (T := F_M) (N := 31) hx hb hts in_M hown hK hw 30 0 rfl hc_26 rfl 2 (by decide) (hts _ wd_756) (fun _ h9 => h9) rfl d_M_define_96 ?_
              refine lv_iload_n hx hb d_M_define_99 rfl (lv_at hl 1 rfl) ?_
              refine lv_iload_n hx hb d_M_define_100 rfl (lv_at hl 3 rfl) ?_
              have hc_27 : C_25 31 2 = some (.inl (ca 0, 6, .inl y_7.2.above)) := by have h9 := rm_at.a2 hR; exact h9
              obtain ⟨w_28, hw_28, hE⟩ := ob_some hE
              obtain ⟨hi_w_28, hj_w_28, he_w_28⟩ := wr_some (by decide) hw_28
              refine pw_iast hx hb hK hw 31 2 rfl 0 hc_27 rfl (by decide) (l1 : Int32).toNatClampNeg hi_w_28 (by omega) (by omega) d_M_define_101 (fun H locs hw => ?_)
              rw [← he_w_28] at hw
              have hw : pw_H D cls9 A s.heap ad C ad (pw_up C_25 31 2 (some (.inl (ca 0, 6, .inl w_28)))) H _ := hw
              generalize hC_29 : pw_up C_25 31 2 (some (.inl (ca 0, 6, .inl w_28))) = C_29 at hw
              have hR : rm_at ca ad C_29 (RS.s_above (RS.s_kind (RS.s_defined y_7.2 w_20) w_24) w_28) := by rw [← hC_29]; exact rm_at.s2 hR _
              have hfr : rm_fr C C_29 := fun x y h9 => by rw [← hC_29]; exact (pw_up_ne _ _ (by omega)).trans (hfr x y h9)
              refine lv_aload_n hx hb d_M_define_102 rfl (lv_at hl 0 rfl) ?_
              have hc_30 : C_29 30 0 = some (.inr (4, [.ref (ad 31 0), .ref (ad 31 1), .ref (ad 31 2), .ref (ad 31 3), .ref (ad 31 4), .ref (ad 31 5), .ref (ad 31 6), .ref (ad 31 7), .ref (ad 31 8), .ref (ad 31 9), .ref (ad 31 10), .ref (ad 31 11), .ref (ad 31 12), .ref (ad 31 13), .ref (ad 31 14), .int y_7.2.objects, .ref (ad 31 15), .int y_7.2.length, .ref (ad 31 16), .int y_7.2.waits, .ref (ad 31 17), .int y_7.2.given, .ref (ad 31 18), .ref (ad 31 19), .ref (ad 31 20), .int y_7.2.left, .ref (ad 31 21), .ref (ad 31 22), .int y_7.2.oldLength, .int y_7.2.oldWaits, .int y_7.2.oldGiven])) := by have h9 := rm_at.o hR; exact h9
              refine pw_get (Cn := "GraphWriterModel") (T := F_M) (N := 31) hx hb hts in_M hown hK hw 30 0 rfl hc_30 rfl 3 (by decide) (hts _ wd_757) (fun _ h9 => h9) rfl d_M_define_103 ?_
              refine lv_iload_n hx hb d_M_define_106 rfl (lv_at hl 1 rfl) ?_
              refine lv_lload hx hb d_M_define_107 (lv_at hl 4 rfl) ?_
              have hc_31 : C_29 31 3 = some (.inl (ca 1, 6, .inr (.inl y_7.2.id))) := by have h9 := rm_at.a3 hR; exact h9
              obtain ⟨w_32, hw_32, hE⟩ := ob_some hE
              obtain ⟨hi_w_32, hj_w_32, he_w_32⟩ := wrl_some (by decide) hw_32
              refine pw_last hx hb hK hw 31 3 rfl 1 hc_31 rfl (by decide) (l1 : Int32).toNatClampNeg hi_w_32 (by omega) (by omega) d_M_define_109 (fun H locs hw => ?_)
              rw [← he_w_32] at hw
              have hw : pw_H D cls9 A s.heap ad C ad (pw_up C_29 31 3 (some (.inl (ca 1, 6, .inr (.inl w_32))))) H _ := hw
              generalize hC_33 : pw_up C_29 31 3 (some (.inl (ca 1, 6, .inr (.inl w_32)))) = C_33 at hw
              have hR : rm_at ca ad C_33 (RS.s_id (RS.s_above (RS.s_kind (RS.s_defined y_7.2 w_20) w_24) w_28) w_32) := by rw [← hC_33]; exact rm_at.s3 hR _
              have hfr : rm_fr C C_33 := fun x y h9 => by rw [← hC_33]; exact (pw_up_ne _ _ (by omega)).trans (hfr x y h9)
              refine lv_iconst (v := 0) hx hb d_M_define_110 (by decide) ?_
              obtain rfl := Option.some.inj hE
              exact pw_iret hx hb hr hlocks hw ⟨⟨rfl, hR, hfr⟩, rfl⟩ d_M_define_111
            · rw [if_neg c_19] at hE
              refine lv_iload_n hx hb d_M_define_51 rfl (lv_at hl 2 rfl) ?_
              refine lv_iconst (v := 2) hx hb d_M_define_52 (by decide) ?_
              refine lv_icmp_gt (tgt := 79) hx hb d_M_define_53 (by decide) (fun c_34 => ?_) (fun c_34 => ?_)
              · rw [if_pos c_34] at hE
                refine lv_iconst (v := (-1)) hx hb d_M_define_79 (by decide) ?_
                obtain rfl := Option.some.inj hE
                exact pw_iret hx hb hr hlocks hw ⟨⟨rfl, hR, hfr⟩, rfl⟩ d_M_define_80
              · rw [if_neg c_34] at hE
                refine lv_aload_n hx hb d_M_define_56 rfl (lv_at hl 0 rfl) ?_
                refine pw_get (Cn := "GraphWriterModel") (T := F_M) (N := 31) hx hb hts in_M hown hK hw 30 0 rfl hc_15 rfl 1 (by decide) (hts _ wd_755) (fun _ h9 => h9) rfl d_M_define_57 ?_
                refine lv_iload_n hx hb d_M_define_60 rfl (lv_at hl 3 rfl) ?_
                have hc_35 : C_10 31 1 = some (.inl (ca 0, 6, .inl y_7.2.kind)) := by have h9 := rm_at.a1 hR; exact h9
                obtain ⟨v_36, hv_36, hE⟩ := ob_some hE
                obtain ⟨hi_v_36, hj_v_36, he_v_36⟩ := rd_some (by decide) hv_36
                refine pw_iald hx hb hK hw 31 1 rfl 0 hc_35 rfl (l3 : Int32).toNatClampNeg hi_v_36 (by omega) (by omega) d_M_define_61 ?_
                rw [← he_v_36]
                refine lv_iconst (v := 2) hx hb d_M_define_62 (by decide) ?_
                refine lv_icmp_gt (tgt := 79) hx hb d_M_define_63 (by decide) (fun c_37 => ?_) (fun c_37 => ?_)
                · rw [if_pos c_37] at hE
                  refine lv_iconst (v := (-1)) hx hb d_M_define_79 (by decide) ?_
                  obtain rfl := Option.some.inj hE
                  exact pw_iret hx hb hr hlocks hw ⟨⟨rfl, hR, hfr⟩, rfl⟩ d_M_define_80
                · rw [if_neg c_37] at hE
                  refine lv_iload_n hx hb d_M_define_66 rfl (lv_at hl 2 rfl) ?_
                  refine lv_if_ne (tgt := 81) hx hb d_M_define_67 (by decide) (fun c_38 => ?_) (fun c_38 => ?_)
                  · rw [if_neg c_38] at hE
                    refine lv_aload_n hx hb d_M_define_81 rfl (lv_at hl 0 rfl) ?_
                    refine pw_get (Cn := "GraphWriterModel") (T := F_M) (N := 31) hx hb hts in_M hown hK hw 30 0 rfl hc_15 rfl 0 (by decide) (hts _ wd_754) (fun _ h9 => h9) rfl d_M_define_82 ?_
                    refine lv_iload_n hx hb d_M_define_85 rfl (lv_at hl 1 rfl) ?_
                    refine lv_iconst (v := 1) hx hb d_M_define_86 (by decide) ?_
                    obtain ⟨w_39, hw_39, hE⟩ := ob_some hE
                    obtain ⟨hi_w_39, hj_w_39, he_w_39⟩ := wrz_some (by decide) hw_39
                    refine pw_zast hx hb hK hw 31 0 rfl 3 hc_16 rfl (by decide) (l1 : Int32).toNatClampNeg hi_w_39 (by omega) (by omega) d_M_define_87 (fun H locs hw => ?_)
                    rw [← he_w_39] at hw
                    have hw : pw_H D cls9 A s.heap ad C ad (pw_up C_10 31 0 (some (.inl (ca 3, 6, .inl w_39)))) H _ := hw
                    generalize hC_40 : pw_up C_10 31 0 (some (.inl (ca 3, 6, .inl w_39))) = C_40 at hw
                    have hR : rm_at ca ad C_40 (RS.s_defined y_7.2 w_39) := by rw [← hC_40]; exact rm_at.s0 hR _
                    have hfr : rm_fr C C_40 := fun x y h9 => by rw [← hC_40]; exact (pw_up_ne _ _ (by omega)).trans (hfr x y h9)
                    refine lv_aload_n hx hb d_M_define_88 rfl (lv_at hl 0 rfl) ?_
                    have hc_41 : C_40 30 0 = some (.inr (4, [.ref (ad 31 0), .ref (ad 31 1), .ref (ad 31 2), .ref (ad 31 3), .ref (ad 31 4), .ref (ad 31 5), .ref (ad 31 6), .ref (ad 31 7), .ref (ad 31 8), .ref (ad 31 9), .ref (ad 31 10), .ref (ad 31 11), .ref (ad 31 12), .ref (ad 31 13), .ref (ad 31 14), .int y_7.2.objects, .ref (ad 31 15), .int y_7.2.length, .ref (ad 31 16), .int y_7.2.waits, .ref (ad 31 17), .int y_7.2.given, .ref (ad 31 18), .ref (ad 31 19), .ref (ad 31 20), .int y_7.2.left, .ref (ad 31 21), .ref (ad 31 22), .int y_7.2.oldLength, .int y_7.2.oldWaits, .int y_7.2.oldGiven])) := by have h9 := rm_at.o hR; exact h9
                    refine pw_get (Cn := "GraphWriterModel") (T := F_M) (N := 31) hx hb hts in_M hown hK hw 30 0 rfl hc_41 rfl 1 (by decide) (hts _ wd_755) (fun _ h9 => h9) rfl d_M_define_89 ?_
                    refine lv_iload_n hx hb d_M_define_92 rfl (lv_at hl 1 rfl) ?_
                    refine lv_iload_n hx hb d_M_define_93 rfl (lv_at hl 2 rfl) ?_
                    have hc_42 : C_40 31 1 = some (.inl (ca 0, 6, .inl y_7.2.kind)) := by have h9 := rm_at.a1 hR; exact h9
                    obtain ⟨w_43, hw_43, hE⟩ := ob_some hE
                    obtain ⟨hi_w_43, hj_w_43, he_w_43⟩ := wr_some (by decide) hw_43
                    refine pw_iast hx hb hK hw 31 1 rfl 0 hc_42 rfl (by decide) (l1 : Int32).toNatClampNeg hi_w_43 (by omega) (by omega) d_M_define_94 (fun H locs hw => ?_)
                    rw [← he_w_43] at hw
                    have hw : pw_H D cls9 A s.heap ad C ad (pw_up C_40 31 1 (some (.inl (ca 0, 6, .inl w_43)))) H _ := hw
                    generalize hC_44 : pw_up C_40 31 1 (some (.inl (ca 0, 6, .inl w_43))) = C_44 at hw
                    have hR : rm_at ca ad C_44 (RS.s_kind (RS.s_defined y_7.2 w_39) w_43) := by rw [← hC_44]; exact rm_at.s1 hR _
                    have hfr : rm_fr C C_44 := fun x y h9 => by rw [← hC_44]; exact (pw_up_ne _ _ (by omega)).trans (hfr x y h9)
                    refine lv_aload_n hx hb d_M_define_95 rfl (lv_at hl 0 rfl) ?_
                    have hc_45 : C_44 30 0 = some (.inr (4, [.ref (ad 31 0), .ref (ad 31 1), .ref (ad 31 2), .ref (ad 31 3), .ref (ad 31 4), .ref (ad 31 5), .ref (ad 31 6), .ref (ad 31 7), .ref (ad 31 8), .ref (ad 31 9), .ref (ad 31 10), .ref (ad 31 11), .ref (ad 31 12), .ref (ad 31 13), .ref (ad 31 14), .int y_7.2.objects, .ref (ad 31 15), .int y_7.2.length, .ref (ad 31 16), .int y_7.2.waits, .ref (ad 31 17), .int y_7.2.given, .ref (ad 31 18), .ref (ad 31 19), .ref (ad 31 20), .int y_7.2.left, .ref (ad 31 21), .ref (ad 31 22), .int y_7.2.oldLength, .int y_7.2.oldWaits, .int y_7.2.oldGiven])) := by have h9 := rm_at.o hR; exact h9
                    refine pw_get (Cn := "GraphWriterModel") (T := F_M) (N := 31) hx hb hts in_M hown hK hw 30 0 rfl hc_45 rfl 2 (by decide) (hts _ wd_756) (fun _ h9 => h9) rfl d_M_define_96 ?_
                    refine lv_iload_n hx hb d_M_define_99 rfl (lv_at hl 1 rfl) ?_
                    refine lv_iload_n hx hb d_M_define_100 rfl (lv_at hl 3 rfl) ?_
                    have hc_46 : C_44 31 2 = some (.inl (ca 0, 6, .inl y_7.2.above)) := by have h9 := rm_at.a2 hR; exact h9
                    obtain ⟨w_47, hw_47, hE⟩ := ob_some hE
                    obtain ⟨hi_w_47, hj_w_47, he_w_47⟩ := wr_some (by decide) hw_47
                    refine pw_iast hx hb hK hw 31 2 rfl 0 hc_46 rfl (by decide) (l1 : Int32).toNatClampNeg hi_w_47 (by omega) (by omega) d_M_define_101 (fun H locs hw => ?_)
                    rw [← he_w_47] at hw
                    have hw : pw_H D cls9 A s.heap ad C ad (pw_up C_44 31 2 (some (.inl (ca 0, 6, .inl w_47)))) H _ := hw
                    generalize hC_48 : pw_up C_44 31 2 (some (.inl (ca 0, 6, .inl w_47))) = C_48 at hw
                    have hR : rm_at ca ad C_48 (RS.s_above (RS.s_kind (RS.s_defined y_7.2 w_39) w_43) w_47) := by rw [← hC_48]; exact rm_at.s2 hR _
                    have hfr : rm_fr C C_48 := fun x y h9 => by rw [← hC_48]; exact (pw_up_ne _ _ (by omega)).trans (hfr x y h9)
                    refine lv_aload_n hx hb d_M_define_102 rfl (lv_at hl 0 rfl) ?_
                    have hc_49 : C_48 30 0 = some (.inr (4, [.ref (ad 31 0), .ref (ad 31 1), .ref (ad 31 2), .ref (ad 31 3), .ref (ad 31 4), .ref (ad 31 5), .ref (ad 31 6), .ref (ad 31 7), .ref (ad 31 8), .ref (ad 31 9), .ref (ad 31 10), .ref (ad 31 11), .ref (ad 31 12), .ref (ad 31 13), .ref (ad 31 14), .int y_7.2.objects, .ref (ad 31 15), .int y_7.2.length, .ref (ad 31 16), .int y_7.2.waits, .ref (ad 31 17), .int y_7.2.given, .ref (ad 31 18), .ref (ad 31 19), .ref (ad 31 20), .int y_7.2.left, .ref (ad 31 21), .ref (ad 31 22), .int y_7.2.oldLength, .int y_7.2.oldWaits, .int y_7.2.oldGiven])) := by have h9 := rm_at.o hR; exact h9
                    refine pw_get (Cn := "GraphWriterModel") (T := F_M) (N := 31) hx hb hts in_M hown hK hw 30 0 rfl hc_49 rfl 3 (by decide) (hts _ wd_757) (fun _ h9 => h9) rfl d_M_define_103 ?_
                    refine lv_iload_n hx hb d_M_define_106 rfl (lv_at hl 1 rfl) ?_
                    refine lv_lload hx hb d_M_define_107 (lv_at hl 4 rfl) ?_
                    have hc_50 : C_48 31 3 = some (.inl (ca 1, 6, .inr (.inl y_7.2.id))) := by have h9 := rm_at.a3 hR; exact h9
                    obtain ⟨w_51, hw_51, hE⟩ := ob_some hE
                    obtain ⟨hi_w_51, hj_w_51, he_w_51⟩ := wrl_some (by decide) hw_51
                    refine pw_last hx hb hK hw 31 3 rfl 1 hc_50 rfl (by decide) (l1 : Int32).toNatClampNeg hi_w_51 (by omega) (by omega) d_M_define_109 (fun H locs hw => ?_)
                    rw [← he_w_51] at hw
                    have hw : pw_H D cls9 A s.heap ad C ad (pw_up C_48 31 3 (some (.inl (ca 1, 6, .inr (.inl w_51))))) H _ := hw
                    generalize hC_52 : pw_up C_48 31 3 (some (.inl (ca 1, 6, .inr (.inl w_51)))) = C_52 at hw
                    have hR : rm_at ca ad C_52 (RS.s_id (RS.s_above (RS.s_kind (RS.s_defined y_7.2 w_39) w_43) w_47) w_51) := by rw [← hC_52]; exact rm_at.s3 hR _
                    have hfr : rm_fr C C_52 := fun x y h9 => by rw [← hC_52]; exact (pw_up_ne _ _ (by omega)).trans (hfr x y h9)
                    refine lv_iconst (v := 0) hx hb d_M_define_110 (by decide) ?_
                    obtain rfl := Option.some.inj hE
                    exact pw_iret hx hb hr hlocks hw ⟨⟨rfl, hR, hfr⟩, rfl⟩ d_M_define_111
                  · rw [if_pos c_38] at hE
                    refine lv_aload_n hx hb d_M_define_70 rfl (lv_at hl 0 rfl) ?_
                    refine pw_get (Cn := "GraphWriterModel") (T := F_M) (N := 31) hx hb hts in_M hown hK hw 30 0 rfl hc_15 rfl 1 (by decide) (hts _ wd_755) (fun _ h9 => h9) rfl d_M_define_71 ?_
                    refine lv_iload_n hx hb d_M_define_74 rfl (lv_at hl 3 rfl) ?_
                    obtain ⟨v_53, hv_53, hE⟩ := ob_some hE
                    obtain ⟨hi_v_53, hj_v_53, he_v_53⟩ := rd_some (by decide) hv_53
                    refine pw_iald hx hb hK hw 31 1 rfl 0 hc_35 rfl (l3 : Int32).toNatClampNeg hi_v_53 (by omega) (by omega) d_M_define_75 ?_
                    rw [← he_v_53]
                    refine lv_if_eq (tgt := 81) hx hb d_M_define_76 (by decide) (fun c_54 => ?_) (fun c_54 => ?_)
                    · rw [if_pos c_54] at hE
                      refine lv_aload_n hx hb d_M_define_81 rfl (lv_at hl 0 rfl) ?_
                      refine pw_get (Cn := "GraphWriterModel") (T := F_M) (N := 31) hx hb hts in_M hown hK hw 30 0 rfl hc_15 rfl 0 (by decide) (hts _ wd_754) (fun _ h9 => h9) rfl d_M_define_82 ?_
                      refine lv_iload_n hx hb d_M_define_85 rfl (lv_at hl 1 rfl) ?_
                      refine lv_iconst (v := 1) hx hb d_M_define_86 (by decide) ?_
                      obtain ⟨w_55, hw_55, hE⟩ := ob_some hE
                      obtain ⟨hi_w_55, hj_w_55, he_w_55⟩ := wrz_some (by decide) hw_55
                      refine pw_zast hx hb hK hw 31 0 rfl 3 hc_16 rfl (by decide) (l1 : Int32).toNatClampNeg hi_w_55 (by omega) (by omega) d_M_define_87 (fun H locs hw => ?_)
                      rw [← he_w_55] at hw
                      have hw : pw_H D cls9 A s.heap ad C ad (pw_up C_10 31 0 (some (.inl (ca 3, 6, .inl w_55)))) H _ := hw
                      generalize hC_56 : pw_up C_10 31 0 (some (.inl (ca 3, 6, .inl w_55))) = C_56 at hw
                      have hR : rm_at ca ad C_56 (RS.s_defined y_7.2 w_55) := by rw [← hC_56]; exact rm_at.s0 hR _
                      have hfr : rm_fr C C_56 := fun x y h9 => by rw [← hC_56]; exact (pw_up_ne _ _ (by omega)).trans (hfr x y h9)
                      refine lv_aload_n hx hb d_M_define_88 rfl (lv_at hl 0 rfl) ?_
                      have hc_57 : C_56 30 0 = some (.inr (4, [.ref (ad 31 0), .ref (ad 31 1), .ref (ad 31 2), .ref (ad 31 3), .ref (ad 31 4), .ref (ad 31 5), .ref (ad 31 6), .ref (ad 31 7), .ref (ad 31 8), .ref (ad 31 9), .ref (ad 31 10), .ref (ad 31 11), .ref (ad 31 12), .ref (ad 31 13), .ref (ad 31 14), .int y_7.2.objects, .ref (ad 31 15), .int y_7.2.length, .ref (ad 31 16), .int y_7.2.waits, .ref (ad 31 17), .int y_7.2.given, .ref (ad 31 18), .ref (ad 31 19), .ref (ad 31 20), .int y_7.2.left, .ref (ad 31 21), .ref (ad 31 22), .int y_7.2.oldLength, .int y_7.2.oldWaits, .int y_7.2.oldGiven])) := by have h9 := rm_at.o hR; exact h9
                      refine pw_get (Cn := "GraphWriterModel") (T := F_M) (N := 31) hx hb hts in_M hown hK hw 30 0 rfl hc_57 rfl 1 (by decide) (hts _ wd_755) (fun _ h9 => h9) rfl d_M_define_89 ?_
                      refine lv_iload_n hx hb d_M_define_92 rfl (lv_at hl 1 rfl) ?_
                      refine lv_iload_n hx hb d_M_define_93 rfl (lv_at hl 2 rfl) ?_
                      have hc_58 : C_56 31 1 = some (.inl (ca 0, 6, .inl y_7.2.kind)) := by have h9 := rm_at.a1 hR; exact h9
                      obtain ⟨w_59, hw_59, hE⟩ := ob_some hE
                      obtain ⟨hi_w_59, hj_w_59, he_w_59⟩ := wr_some (by decide) hw_59
                      refine pw_iast hx hb hK hw 31 1 rfl 0 hc_58 rfl (by decide) (l1 : Int32).toNatClampNeg hi_w_59 (by omega) (by omega) d_M_define_94 (fun H locs hw => ?_)
                      rw [← he_w_59] at hw
                      have hw : pw_H D cls9 A s.heap ad C ad (pw_up C_56 31 1 (some (.inl (ca 0, 6, .inl w_59)))) H _ := hw
                      generalize hC_60 : pw_up C_56 31 1 (some (.inl (ca 0, 6, .inl w_59))) = C_60 at hw
                      have hR : rm_at ca ad C_60 (RS.s_kind (RS.s_defined y_7.2 w_55) w_59) := by rw [← hC_60]; exact rm_at.s1 hR _
                      have hfr : rm_fr C C_60 := fun x y h9 => by rw [← hC_60]; exact (pw_up_ne _ _ (by omega)).trans (hfr x y h9)
                      refine lv_aload_n hx hb d_M_define_95 rfl (lv_at hl 0 rfl) ?_
                      have hc_61 : C_60 30 0 = some (.inr (4, [.ref (ad 31 0), .ref (ad 31 1), .ref (ad 31 2), .ref (ad 31 3), .ref (ad 31 4), .ref (ad 31 5), .ref (ad 31 6), .ref (ad 31 7), .ref (ad 31 8), .ref (ad 31 9), .ref (ad 31 10), .ref (ad 31 11), .ref (ad 31 12), .ref (ad 31 13), .ref (ad 31 14), .int y_7.2.objects, .ref (ad 31 15), .int y_7.2.length, .ref (ad 31 16), .int y_7.2.waits, .ref (ad 31 17), .int y_7.2.given, .ref (ad 31 18), .ref (ad 31 19), .ref (ad 31 20), .int y_7.2.left, .ref (ad 31 21), .ref (ad 31 22), .int y_7.2.oldLength, .int y_7.2.oldWaits, .int y_7.2.oldGiven])) := by have h9 := rm_at.o hR; exact h9
                      refine pw_get (Cn := "GraphWriterModel") (T := F_M) (N := 31) hx hb hts in_M hown hK hw 30 0 rfl hc_61 rfl 2 (by decide) (hts _ wd_756) (fun _ h9 => h9) rfl d_M_define_96 ?_
                      refine lv_iload_n hx hb d_M_define_99 rfl (lv_at hl 1 rfl) ?_
                      refine lv_iload_n hx hb d_M_define_100 rfl (lv_at hl 3 rfl) ?_
                      have hc_62 : C_60 31 2 = some (.inl (ca 0, 6, .inl y_7.2.above)) := by have h9 := rm_at.a2 hR; exact h9
                      obtain ⟨w_63, hw_63, hE⟩ := ob_some hE
                      obtain ⟨hi_w_63, hj_w_63, he_w_63⟩ := wr_some (by decide) hw_63
                      refine pw_iast hx hb hK hw 31 2 rfl 0 hc_62 rfl (by decide) (l1 : Int32).toNatClampNeg hi_w_63 (by omega) (by omega) d_M_define_101 (fun H locs hw => ?_)
                      rw [← he_w_63] at hw
                      have hw : pw_H D cls9 A s.heap ad C ad (pw_up C_60 31 2 (some (.inl (ca 0, 6, .inl w_63)))) H _ := hw
                      generalize hC_64 : pw_up C_60 31 2 (some (.inl (ca 0, 6, .inl w_63))) = C_64 at hw
                      have hR : rm_at ca ad C_64 (RS.s_above (RS.s_kind (RS.s_defined y_7.2 w_55) w_59) w_63) := by rw [← hC_64]; exact rm_at.s2 hR _
                      have hfr : rm_fr C C_64 := fun x y h9 => by rw [← hC_64]; exact (pw_up_ne _ _ (by omega)).trans (hfr x y h9)
                      refine lv_aload_n hx hb d_M_define_102 rfl (lv_at hl 0 rfl) ?_
                      have hc_65 : C_64 30 0 = some (.inr (4, [.ref (ad 31 0), .ref (ad 31 1), .ref (ad 31 2), .ref (ad 31 3), .ref (ad 31 4), .ref (ad 31 5), .ref (ad 31 6), .ref (ad 31 7), .ref (ad 31 8), .ref (ad 31 9), .ref (ad 31 10), .ref (ad 31 11), .ref (ad 31 12), .ref (ad 31 13), .ref (ad 31 14), .int y_7.2.objects, .ref (ad 31 15), .int y_7.2.length, .ref (ad 31 16), .int y_7.2.waits, .ref (ad 31 17), .int y_7.2.given, .ref (ad 31 18), .ref (ad 31 19), .ref (ad 31 20), .int y_7.2.left, .ref (ad 31 21), .ref (ad 31 22), .int y_7.2.oldLength, .int y_7.2.oldWaits, .int y_7.2.oldGiven])) := by have h9 := rm_at.o hR; exact h9
                      refine pw_get (Cn := "GraphWriterModel") (T := F_M) (N := 31) hx hb hts in_M hown hK hw 30 0 rfl hc_65 rfl 3 (by decide) (hts _ wd_757) (fun _ h9 => h9) rfl d_M_define_103 ?_
                      refine lv_iload_n hx hb d_M_define_106 rfl (lv_at hl 1 rfl) ?_
                      refine lv_lload hx hb d_M_define_107 (lv_at hl 4 rfl) ?_
                      have hc_66 : C_64 31 3 = some (.inl (ca 1, 6, .inr (.inl y_7.2.id))) := by have h9 := rm_at.a3 hR; exact h9
                      obtain ⟨w_67, hw_67, hE⟩ := ob_some hE
                      obtain ⟨hi_w_67, hj_w_67, he_w_67⟩ := wrl_some (by decide) hw_67
                      refine pw_last hx hb hK hw 31 3 rfl 1 hc_66 rfl (by decide) (l1 : Int32).toNatClampNeg hi_w_67 (by omega) (by omega) d_M_define_109 (fun H locs hw => ?_)
                      rw [← he_w_67] at hw
                      have hw : pw_H D cls9 A s.heap ad C ad (pw_up C_64 31 3 (some (.inl (ca 1, 6, .inr (.inl w_67))))) H _ := hw
                      generalize hC_68 : pw_up C_64 31 3 (some (.inl (ca 1, 6, .inr (.inl w_67)))) = C_68 at hw
                      have hR : rm_at ca ad C_68 (RS.s_id (RS.s_above (RS.s_kind (RS.s_defined y_7.2 w_55) w_59) w_63) w_67) := by rw [← hC_68]; exact rm_at.s3 hR _
                      have hfr : rm_fr C C_68 := fun x y h9 => by rw [← hC_68]; exact (pw_up_ne _ _ (by omega)).trans (hfr x y h9)
                      refine lv_iconst (v := 0) hx hb d_M_define_110 (by decide) ?_
                      obtain rfl := Option.some.inj hE
                      exact pw_iret hx hb hr hlocks hw ⟨⟨rfl, hR, hfr⟩, rfl⟩ d_M_define_111
                    · rw [if_neg c_54] at hE
                      refine lv_iconst (v := (-1)) hx hb d_M_define_79 (by decide) ?_
                      obtain rfl := Option.some.inj hE
                      exact pw_iret hx hb hr hlocks hw ⟨⟨rfl, hR, hfr⟩, rfl⟩ d_M_define_80
          · rw [if_neg c_18] at hE
            refine lv_iconst (v := (-1)) hx hb d_M_define_45 (by decide) ?_
            obtain rfl := Option.some.inj hE
            exact pw_iret hx hb hr hlocks hw ⟨⟨rfl, hR, hfr⟩, rfl⟩ d_M_define_46
        · rw [if_neg c_14] at hE
          refine lv_aload_n hx hb d_M_define_28 rfl (lv_at hl 0 rfl) ?_
          refine lv_iload_n hx hb d_M_define_29 rfl (lv_at hl 3 rfl) ?_
          obtain ⟨y_69, hy_69, hE⟩ := ob_some hE
          have hc_70 : C_10 30 0 = some (.inr (4, [.ref (ad 31 0), .ref (ad 31 1), .ref (ad 31 2), .ref (ad 31 3), .ref (ad 31 4), .ref (ad 31 5), .ref (ad 31 6), .ref (ad 31 7), .ref (ad 31 8), .ref (ad 31 9), .ref (ad 31 10), .ref (ad 31 11), .ref (ad 31 12), .ref (ad 31 13), .ref (ad 31 14), .int y_7.2.objects, .ref (ad 31 15), .int y_7.2.length, .ref (ad 31 16), .int y_7.2.waits, .ref (ad 31 17), .int y_7.2.given, .ref (ad 31 18), .ref (ad 31 19), .ref (ad 31 20), .int y_7.2.left, .ref (ad 31 21), .ref (ad 31 22), .int y_7.2.oldLength, .int y_7.2.oldWaits, .int y_7.2.oldGiven])) := by have h9 := rm_at.o hR; exact h9
          refine pw_calli (va_runV (As := [.int l3]) (rest := []) ⟨hx, hb, hml, hown, hts0⟩ (k_M_noClass hR hy_69 _) (cwV 1 hts0 (wd_V wd_860 wd_857 wd_859 wd_23 wd_56) rfl rfl rfl (by decide +kernel) ⟨Nat.le_of_ble_eq_true rfl, Nat.le_of_ble_eq_true rfl⟩) (pw_preV hZ hw hA hK hz rfl hc_70 rfl) rfl rfl hl.1 rfl (lv_room (Nat.le_of_ble_eq_true rfl)) d_M_define_30 ⟨Nat.le_of_ble_eq_true rfl, Nat.le_of_ble_eq_true rfl⟩) hw hA (fun r_73 ad_71 C_72 H locs hp hw => ?_)
          obtain ⟨⟨hae, hR, hf1⟩, hre⟩ := hp
          rw [hre]
          rw [hae] at hw
          clear hae
          have hfr : rm_fr C C_72 := fun x y h9 => (hf1 x y h9).trans (hfr x y h9)
          clear hf1
          refine lv_if_ne (tgt := 45) hx hb d_M_define_33 (by decide) (fun c_74 => ?_) (fun c_74 => ?_)
          · rw [if_neg c_74] at hE
            refine lv_iconst (v := (-1)) hx hb d_M_define_45 (by decide) ?_
            obtain rfl := Option.some.inj hE
            exact pw_iret hx hb hr hlocks hw ⟨⟨rfl, hR, hfr⟩, rfl⟩ d_M_define_46
          · rw [if_pos c_74] at hE
            refine lv_aload_n hx hb d_M_define_36 rfl (lv_at hl 0 rfl) ?_
            have hc_75 : C_72 30 0 = some (.inr (4, [.ref (ad 31 0), .ref (ad 31 1), .ref (ad 31 2), .ref (ad 31 3), .ref (ad 31 4), .ref (ad 31 5), .ref (ad 31 6), .ref (ad 31 7), .ref (ad 31 8), .ref (ad 31 9), .ref (ad 31 10), .ref (ad 31 11), .ref (ad 31 12), .ref (ad 31 13), .ref (ad 31 14), .int y_69.2.objects, .ref (ad 31 15), .int y_69.2.length, .ref (ad 31 16), .int y_69.2.waits, .ref (ad 31 17), .int y_69.2.given, .ref (ad 31 18), .ref (ad 31 19), .ref (ad 31 20), .int y_69.2.left, .ref (ad 31 21), .ref (ad 31 22), .int y_69.2.oldLength, .int y_69.2.oldWaits, .int y_69.2.oldGiven])) := by have h9 := rm_at.o hR; exact h9
            refine pw_get (Cn := "GraphWriterModel") (T := F_M) (N := 31) hx hb hts in_M hown hK hw 30 0 rfl hc_75 rfl 0 (by decide) (hts _ wd_754) (fun _ h9 => h9) rfl d_M_define_37 ?_
            refine lv_iload_n hx hb d_M_define_40 rfl (lv_at hl 1 rfl) ?_
            have hc_76 : C_72 31 0 = some (.inl (ca 3, 6, .inl y_69.2.defined)) := by have h9 := rm_at.a0 hR; exact h9
            obtain ⟨v_77, hv_77, hE⟩ := ob_some hE
            obtain ⟨hi_v_77, hj_v_77, he_v_77⟩ := rd_some (by decide) hv_77
            refine pw_zald hx hb hK hw 31 0 rfl 3 hc_76 rfl (l1 : Int32).toNatClampNeg hi_v_77 (by omega) (by omega) d_M_define_41 ?_
            rw [← he_v_77]
            refine lv_if_eq (tgt := 47) hx hb d_M_define_42 (by decide) (fun c_78 => ?_) (fun c_78 => ?_)
            · rw [if_pos c_78] at hE
              refine lv_iload_n hx hb d_M_define_47 rfl (lv_at hl 3 rfl) ?_
              refine lv_if_lt (tgt := 81) hx hb d_M_define_48 (by decide) (fun c_79 => ?_) (fun c_79 => ?_)
              · rw [if_pos c_79] at hE
                refine lv_aload_n hx hb d_M_define_81 rfl (lv_at hl 0 rfl) ?_
                refine pw_get (Cn := "GraphWriterModel") (T := F_M) (N := 31) hx hb hts in_M hown hK hw 30 0 rfl hc_75 rfl 0 (by decide) (hts _ wd_754) (fun _ h9 => h9) rfl d_M_define_82 ?_
                refine lv_iload_n hx hb d_M_define_85 rfl (lv_at hl 1 rfl) ?_
                refine lv_iconst (v := 1) hx hb d_M_define_86 (by decide) ?_
                obtain ⟨w_80, hw_80, hE⟩ := ob_some hE
                obtain ⟨hi_w_80, hj_w_80, he_w_80⟩ := wrz_some (by decide) hw_80
                refine pw_zast hx hb hK hw 31 0 rfl 3 hc_76 rfl (by decide) (l1 : Int32).toNatClampNeg hi_w_80 (by omega) (by omega) d_M_define_87 (fun H locs hw => ?_)
                rw [← he_w_80] at hw
                have hw : pw_H D cls9 A s.heap ad C ad (pw_up C_72 31 0 (some (.inl (ca 3, 6, .inl w_80)))) H _ := hw
                generalize hC_81 : pw_up C_72 31 0 (some (.inl (ca 3, 6, .inl w_80))) = C_81 at hw
                have hR : rm_at ca ad C_81 (RS.s_defined y_69.2 w_80) := by rw [← hC_81]; exact rm_at.s0 hR _
                have hfr : rm_fr C C_81 := fun x y h9 => by rw [← hC_81]; exact (pw_up_ne _ _ (by omega)).trans (hfr x y h9)
                refine lv_aload_n hx hb d_M_define_88 rfl (lv_at hl 0 rfl) ?_
                have hc_82 : C_81 30 0 = some (.inr (4, [.ref (ad 31 0), .ref (ad 31 1), .ref (ad 31 2), .ref (ad 31 3), .ref (ad 31 4), .ref (ad 31 5), .ref (ad 31 6), .ref (ad 31 7), .ref (ad 31 8), .ref (ad 31 9), .ref (ad 31 10), .ref (ad 31 11), .ref (ad 31 12), .ref (ad 31 13), .ref (ad 31 14), .int y_69.2.objects, .ref (ad 31 15), .int y_69.2.length, .ref (ad 31 16), .int y_69.2.waits, .ref (ad 31 17), .int y_69.2.given, .ref (ad 31 18), .ref (ad 31 19), .ref (ad 31 20), .int y_69.2.left, .ref (ad 31 21), .ref (ad 31 22), .int y_69.2.oldLength, .int y_69.2.oldWaits, .int y_69.2.oldGiven])) := by have h9 := rm_at.o hR; exact h9
                refine pw_get (Cn := "GraphWriterModel") (T := F_M) (N := 31) hx hb hts in_M hown hK hw 30 0 rfl hc_82 rfl 1 (by decide) (hts _ wd_755) (fun _ h9 => h9) rfl d_M_define_89 ?_
                refine lv_iload_n hx hb d_M_define_92 rfl (lv_at hl 1 rfl) ?_
                refine lv_iload_n hx hb d_M_define_93 rfl (lv_at hl 2 rfl) ?_
                have hc_83 : C_81 31 1 = some (.inl (ca 0, 6, .inl y_69.2.kind)) := by have h9 := rm_at.a1 hR; exact h9
                obtain ⟨w_84, hw_84, hE⟩ := ob_some hE
                obtain ⟨hi_w_84, hj_w_84, he_w_84⟩ := wr_some (by decide) hw_84
                refine pw_iast hx hb hK hw 31 1 rfl 0 hc_83 rfl (by decide) (l1 : Int32).toNatClampNeg hi_w_84 (by omega) (by omega) d_M_define_94 (fun H locs hw => ?_)
                rw [← he_w_84] at hw
                have hw : pw_H D cls9 A s.heap ad C ad (pw_up C_81 31 1 (some (.inl (ca 0, 6, .inl w_84)))) H _ := hw
                generalize hC_85 : pw_up C_81 31 1 (some (.inl (ca 0, 6, .inl w_84))) = C_85 at hw
                have hR : rm_at ca ad C_85 (RS.s_kind (RS.s_defined y_69.2 w_80) w_84) := by rw [← hC_85]; exact rm_at.s1 hR _
                have hfr : rm_fr C C_85 := fun x y h9 => by rw [← hC_85]; exact (pw_up_ne _ _ (by omega)).trans (hfr x y h9)
                refine lv_aload_n hx hb d_M_define_95 rfl (lv_at hl 0 rfl) ?_
                have hc_86 : C_85 30 0 = some (.inr (4, [.ref (ad 31 0), .ref (ad 31 1), .ref (ad 31 2), .ref (ad 31 3), .ref (ad 31 4), .ref (ad 31 5), .ref (ad 31 6), .ref (ad 31 7), .ref (ad 31 8), .ref (ad 31 9), .ref (ad 31 10), .ref (ad 31 11), .ref (ad 31 12), .ref (ad 31 13), .ref (ad 31 14), .int y_69.2.objects, .ref (ad 31 15), .int y_69.2.length, .ref (ad 31 16), .int y_69.2.waits, .ref (ad 31 17), .int y_69.2.given, .ref (ad 31 18), .ref (ad 31 19), .ref (ad 31 20), .int y_69.2.left, .ref (ad 31 21), .ref (ad 31 22), .int y_69.2.oldLength, .int y_69.2.oldWaits, .int y_69.2.oldGiven])) := by have h9 := rm_at.o hR; exact h9
                refine pw_get (Cn := "GraphWriterModel") (T := F_M) (N := 31) hx hb hts in_M hown hK hw 30 0 rfl hc_86 rfl 2 (by decide) (hts _ wd_756) (fun _ h9 => h9) rfl d_M_define_96 ?_
                refine lv_iload_n hx hb d_M_define_99 rfl (lv_at hl 1 rfl) ?_
                refine lv_iload_n hx hb d_M_define_100 rfl (lv_at hl 3 rfl) ?_
                have hc_87 : C_85 31 2 = some (.inl (ca 0, 6, .inl y_69.2.above)) := by have h9 := rm_at.a2 hR; exact h9
                obtain ⟨w_88, hw_88, hE⟩ := ob_some hE
                obtain ⟨hi_w_88, hj_w_88, he_w_88⟩ := wr_some (by decide) hw_88
                refine pw_iast hx hb hK hw 31 2 rfl 0 hc_87 rfl (by decide) (l1 : Int32).toNatClampNeg hi_w_88 (by omega) (by omega) d_M_define_101 (fun H locs hw => ?_)
                rw [← he_w_88] at hw
                have hw : pw_H D cls9 A s.heap ad C ad (pw_up C_85 31 2 (some (.inl (ca 0, 6, .inl w_88)))) H _ := hw
                generalize hC_89 : pw_up C_85 31 2 (some (.inl (ca 0, 6, .inl w_88))) = C_89 at hw
                have hR : rm_at ca ad C_89 (RS.s_above (RS.s_kind (RS.s_defined y_69.2 w_80) w_84) w_88) := by rw [← hC_89]; exact rm_at.s2 hR _
                have hfr : rm_fr C C_89 := fun x y h9 => by rw [← hC_89]; exact (pw_up_ne _ _ (by omega)).trans (hfr x y h9)
                refine lv_aload_n hx hb d_M_define_102 rfl (lv_at hl 0 rfl) ?_
                have hc_90 : C_89 30 0 = some (.inr (4, [.ref (ad 31 0), .ref (ad 31 1), .ref (ad 31 2), .ref (ad 31 3), .ref (ad 31 4), .ref (ad 31 5), .ref (ad 31 6), .ref (ad 31 7), .ref (ad 31 8), .ref (ad 31 9), .ref (ad 31 10), .ref (ad 31 11), .ref (ad 31 12), .ref (ad 31 13), .ref (ad 31 14), .int y_69.2.objects, .ref (ad 31 15), .int y_69.2.length, .ref (ad 31 16), .int y_69.2.waits, .ref (ad 31 17), .int y_69.2.given, .ref (ad 31 18), .ref (ad 31 19), .ref (ad 31 20), .int y_69.2.left, .ref (ad 31 21), .ref (ad 31 22), .int y_69.2.oldLength, .int y_69.2.oldWaits, .int y_69.2.oldGiven])) := by have h9 := rm_at.o hR; exact h9
                refine pw_get (Cn := "GraphWriterModel") (T := F_M) (N := 31) hx hb hts in_M hown hK hw 30 0 rfl hc_90 rfl 3 (by decide) (hts _ wd_757) (fun _ h9 => h9) rfl d_M_define_103 ?_
                refine lv_iload_n hx hb d_M_define_106 rfl (lv_at hl 1 rfl) ?_
                refine lv_lload hx hb d_M_define_107 (lv_at hl 4 rfl) ?_
                have hc_91 : C_89 31 3 = some (.inl (ca 1, 6, .inr (.inl y_69.2.id))) := by have h9 := rm_at.a3 hR; exact h9
                obtain ⟨w_92, hw_92, hE⟩ := ob_some hE
                obtain ⟨hi_w_92, hj_w_92, he_w_92⟩ := wrl_some (by decide) hw_92
                refine pw_last hx hb hK hw 31 3 rfl 1 hc_91 rfl (by decide) (l1 : Int32).toNatClampNeg hi_w_92 (by omega) (by omega) d_M_define_109 (fun H locs hw => ?_)
                rw [← he_w_92] at hw
                have hw : pw_H D cls9 A s.heap ad C ad (pw_up C_89 31 3 (some (.inl (ca 1, 6, .inr (.inl w_92))))) H _ := hw
                generalize hC_93 : pw_up C_89 31 3 (some (.inl (ca 1, 6, .inr (.inl w_92)))) = C_93 at hw
                have hR : rm_at ca ad C_93 (RS.s_id (RS.s_above (RS.s_kind (RS.s_defined y_69.2 w_80) w_84) w_88) w_92) := by rw [← hC_93]; exact rm_at.s3 hR _
                have hfr : rm_fr C C_93 := fun x y h9 => by rw [← hC_93]; exact (pw_up_ne _ _ (by omega)).trans (hfr x y h9)
                refine lv_iconst (v := 0) hx hb d_M_define_110 (by decide) ?_
                obtain rfl := Option.some.inj hE
                exact pw_iret hx hb hr hlocks hw ⟨⟨rfl, hR, hfr⟩, rfl⟩ d_M_define_111
              · rw [if_neg c_79] at hE
                refine lv_iload_n hx hb d_M_define_51 rfl (lv_at hl 2 rfl) ?_
                refine lv_iconst (v := 2) hx hb d_M_define_52 (by decide) ?_
                refine lv_icmp_gt (tgt := 79) hx hb d_M_define_53 (by decide) (fun c_94 => ?_) (fun c_94 => ?_)
                · rw [if_pos c_94] at hE
                  refine lv_iconst (v := (-1)) hx hb d_M_define_79 (by decide) ?_
                  obtain rfl := Option.some.inj hE
                  exact pw_iret hx hb hr hlocks hw ⟨⟨rfl, hR, hfr⟩, rfl⟩ d_M_define_80
                · rw [if_neg c_94] at hE
                  refine lv_aload_n hx hb d_M_define_56 rfl (lv_at hl 0 rfl) ?_
                  refine pw_get (Cn := "GraphWriterModel") (T := F_M) (N := 31) hx hb hts in_M hown hK hw 30 0 rfl hc_75 rfl 1 (by decide) (hts _ wd_755) (fun _ h9 => h9) rfl d_M_define_57 ?_
                  refine lv_iload_n hx hb d_M_define_60 rfl (lv_at hl 3 rfl) ?_
                  have hc_95 : C_72 31 1 = some (.inl (ca 0, 6, .inl y_69.2.kind)) := by have h9 := rm_at.a1 hR; exact h9
                  obtain ⟨v_96, hv_96, hE⟩ := ob_some hE
                  obtain ⟨hi_v_96, hj_v_96, he_v_96⟩ := rd_some (by decide) hv_96
                  refine pw_iald hx hb hK hw 31 1 rfl 0 hc_95 rfl (l3 : Int32).toNatClampNeg hi_v_96 (by omega) (by omega) d_M_define_61 ?_
                  rw [← he_v_96]
                  refine lv_iconst (v := 2) hx hb d_M_define_62 (by decide) ?_
                  refine lv_icmp_gt (tgt := 79) hx hb d_M_define_63 (by decide) (fun c_97 => ?_) (fun c_97 => ?_)
                  · rw [if_pos c_97] at hE
                    refine lv_iconst (v := (-1)) hx hb d_M_define_79 (by decide) ?_
                    obtain rfl := Option.some.inj hE
                    exact pw_iret hx hb hr hlocks hw ⟨⟨rfl, hR, hfr⟩, rfl⟩ d_M_define_80
                  · rw [if_neg c_97] at hE
                    refine lv_iload_n hx hb d_M_define_66 rfl (lv_at hl 2 rfl) ?_
                    refine lv_if_ne (tgt := 81) hx hb d_M_define_67 (by decide) (fun c_98 => ?_) (fun c_98 => ?_)
                    · rw [if_neg c_98] at hE
                      refine lv_aload_n hx hb d_M_define_81 rfl (lv_at hl 0 rfl) ?_
                      refine pw_get (Cn := "GraphWriterModel") (T := F_M) (N := 31) hx hb hts in_M hown hK hw 30 0 rfl hc_75 rfl 0 (by decide) (hts _ wd_754) (fun _ h9 => h9) rfl d_M_define_82 ?_
                      refine lv_iload_n hx hb d_M_define_85 rfl (lv_at hl 1 rfl) ?_
                      refine lv_iconst (v := 1) hx hb d_M_define_86 (by decide) ?_
                      obtain ⟨w_99, hw_99, hE⟩ := ob_some hE
                      obtain ⟨hi_w_99, hj_w_99, he_w_99⟩ := wrz_some (by decide) hw_99
                      refine pw_zast hx hb hK hw 31 0 rfl 3 hc_76 rfl (by decide) (l1 : Int32).toNatClampNeg hi_w_99 (by omega) (by omega) d_M_define_87 (fun H locs hw => ?_)
                      rw [← he_w_99] at hw
                      have hw : pw_H D cls9 A s.heap ad C ad (pw_up C_72 31 0 (some (.inl (ca 3, 6, .inl w_99)))) H _ := hw
                      generalize hC_100 : pw_up C_72 31 0 (some (.inl (ca 3, 6, .inl w_99))) = C_100 at hw
                      have hR : rm_at ca ad C_100 (RS.s_defined y_69.2 w_99) := by rw [← hC_100]; exact rm_at.s0 hR _
                      have hfr : rm_fr C C_100 := fun x y h9 => by rw [← hC_100]; exact (pw_up_ne _ _ (by omega)).trans (hfr x y h9)
                      refine lv_aload_n hx hb d_M_define_88 rfl (lv_at hl 0 rfl) ?_
                      have hc_101 : C_100 30 0 = some (.inr (4, [.ref (ad 31 0), .ref (ad 31 1), .ref (ad 31 2), .ref (ad 31 3), .ref (ad 31 4), .ref (ad 31 5), .ref (ad 31 6), .ref (ad 31 7), .ref (ad 31 8), .ref (ad 31 9), .ref (ad 31 10), .ref (ad 31 11), .ref (ad 31 12), .ref (ad 31 13), .ref (ad 31 14), .int y_69.2.objects, .ref (ad 31 15), .int y_69.2.length, .ref (ad 31 16), .int y_69.2.waits, .ref (ad 31 17), .int y_69.2.given, .ref (ad 31 18), .ref (ad 31 19), .ref (ad 31 20), .int y_69.2.left, .ref (ad 31 21), .ref (ad 31 22), .int y_69.2.oldLength, .int y_69.2.oldWaits, .int y_69.2.oldGiven])) := by have h9 := rm_at.o hR; exact h9
                      refine pw_get (Cn := "GraphWriterModel") (T := F_M) (N := 31) hx hb hts in_M hown hK hw 30 0 rfl hc_101 rfl 1 (by decide) (hts _ wd_755) (fun _ h9 => h9) rfl d_M_define_89 ?_
                      refine lv_iload_n hx hb d_M_define_92 rfl (lv_at hl 1 rfl) ?_
                      refine lv_iload_n hx hb d_M_define_93 rfl (lv_at hl 2 rfl) ?_
                      have hc_102 : C_100 31 1 = some (.inl (ca 0, 6, .inl y_69.2.kind)) := by have h9 := rm_at.a1 hR; exact h9
                      obtain ⟨w_103, hw_103, hE⟩ := ob_some hE
                      obtain ⟨hi_w_103, hj_w_103, he_w_103⟩ := wr_some (by decide) hw_103
                      refine pw_iast hx hb hK hw 31 1 rfl 0 hc_102 rfl (by decide) (l1 : Int32).toNatClampNeg hi_w_103 (by omega) (by omega) d_M_define_94 (fun H locs hw => ?_)
                      rw [← he_w_103] at hw
                      have hw : pw_H D cls9 A s.heap ad C ad (pw_up C_100 31 1 (some (.inl (ca 0, 6, .inl w_103)))) H _ := hw
                      generalize hC_104 : pw_up C_100 31 1 (some (.inl (ca 0, 6, .inl w_103))) = C_104 at hw
                      have hR : rm_at ca ad C_104 (RS.s_kind (RS.s_defined y_69.2 w_99) w_103) := by rw [← hC_104]; exact rm_at.s1 hR _
                      have hfr : rm_fr C C_104 := fun x y h9 => by rw [← hC_104]; exact (pw_up_ne _ _ (by omega)).trans (hfr x y h9)
                      refine lv_aload_n hx hb d_M_define_95 rfl (lv_at hl 0 rfl) ?_
                      have hc_105 : C_104 30 0 = some (.inr (4, [.ref (ad 31 0), .ref (ad 31 1), .ref (ad 31 2), .ref (ad 31 3), .ref (ad 31 4), .ref (ad 31 5), .ref (ad 31 6), .ref (ad 31 7), .ref (ad 31 8), .ref (ad 31 9), .ref (ad 31 10), .ref (ad 31 11), .ref (ad 31 12), .ref (ad 31 13), .ref (ad 31 14), .int y_69.2.objects, .ref (ad 31 15), .int y_69.2.length, .ref (ad 31 16), .int y_69.2.waits, .ref (ad 31 17), .int y_69.2.given, .ref (ad 31 18), .ref (ad 31 19), .ref (ad 31 20), .int y_69.2.left, .ref (ad 31 21), .ref (ad 31 22), .int y_69.2.oldLength, .int y_69.2.oldWaits, .int y_69.2.oldGiven])) := by have h9 := rm_at.o hR; exact h9
                      refine pw_get (Cn := "GraphWriterModel") (T := F_M) (N := 31) hx hb hts in_M hown hK hw 30 0 rfl hc_105 rfl 2 (by decide) (hts _ wd_756) (fun _ h9 => h9) rfl d_M_define_96 ?_
                      refine lv_iload_n hx hb d_M_define_99 rfl (lv_at hl 1 rfl) ?_
                      refine lv_iload_n hx hb d_M_define_100 rfl (lv_at hl 3 rfl) ?_
                      have hc_106 : C_104 31 2 = some (.inl (ca 0, 6, .inl y_69.2.above)) := by have h9 := rm_at.a2 hR; exact h9
                      obtain ⟨w_107, hw_107, hE⟩ := ob_some hE
                      obtain ⟨hi_w_107, hj_w_107, he_w_107⟩ := wr_some (by decide) hw_107
                      refine pw_iast hx hb hK hw 31 2 rfl 0 hc_106 rfl (by decide) (l1 : Int32).toNatClampNeg hi_w_107 (by omega) (by omega) d_M_define_101 (fun H locs hw => ?_)
                      rw [← he_w_107] at hw
                      have hw : pw_H D cls9 A s.heap ad C ad (pw_up C_104 31 2 (some (.inl (ca 0, 6, .inl w_107)))) H _ := hw
                      generalize hC_108 : pw_up C_104 31 2 (some (.inl (ca 0, 6, .inl w_107))) = C_108 at hw
                      have hR : rm_at ca ad C_108 (RS.s_above (RS.s_kind (RS.s_defined y_69.2 w_99) w_103) w_107) := by rw [← hC_108]; exact rm_at.s2 hR _
                      have hfr : rm_fr C C_108 := fun x y h9 => by rw [← hC_108]; exact (pw_up_ne _ _ (by omega)).trans (hfr x y h9)
                      refine lv_aload_n hx hb d_M_define_102 rfl (lv_at hl 0 rfl) ?_
                      have hc_109 : C_108 30 0 = some (.inr (4, [.ref (ad 31 0), .ref (ad 31 1), .ref (ad 31 2), .ref (ad 31 3), .ref (ad 31 4), .ref (ad 31 5), .ref (ad 31 6), .ref (ad 31 7), .ref (ad 31 8), .ref (ad 31 9), .ref (ad 31 10), .ref (ad 31 11), .ref (ad 31 12), .ref (ad 31 13), .ref (ad 31 14), .int y_69.2.objects, .ref (ad 31 15), .int y_69.2.length, .ref (ad 31 16), .int y_69.2.waits, .ref (ad 31 17), .int y_69.2.given, .ref (ad 31 18), .ref (ad 31 19), .ref (ad 31 20), .int y_69.2.left, .ref (ad 31 21), .ref (ad 31 22), .int y_69.2.oldLength, .int y_69.2.oldWaits, .int y_69.2.oldGiven])) := by have h9 := rm_at.o hR; exact h9
                      refine pw_get (Cn := "GraphWriterModel") (T := F_M) (N := 31) hx hb hts in_M hown hK hw 30 0 rfl hc_109 rfl 3 (by decide) (hts _ wd_757) (fun _ h9 => h9) rfl d_M_define_103 ?_
                      refine lv_iload_n hx hb d_M_define_106 rfl (lv_at hl 1 rfl) ?_
                      refine lv_lload hx hb d_M_define_107 (lv_at hl 4 rfl) ?_
                      have hc_110 : C_108 31 3 = some (.inl (ca 1, 6, .inr (.inl y_69.2.id))) := by have h9 := rm_at.a3 hR; exact h9
                      obtain ⟨w_111, hw_111, hE⟩ := ob_some hE
                      obtain ⟨hi_w_111, hj_w_111, he_w_111⟩ := wrl_some (by decide) hw_111
                      refine pw_last hx hb hK hw 31 3 rfl 1 hc_110 rfl (by decide) (l1 : Int32).toNatClampNeg hi_w_111 (by omega) (by omega) d_M_define_109 (fun H locs hw => ?_)
                      rw [← he_w_111] at hw
                      have hw : pw_H D cls9 A s.heap ad C ad (pw_up C_108 31 3 (some (.inl (ca 1, 6, .inr (.inl w_111))))) H _ := hw
                      generalize hC_112 : pw_up C_108 31 3 (some (.inl (ca 1, 6, .inr (.inl w_111)))) = C_112 at hw
                      have hR : rm_at ca ad C_112 (RS.s_id (RS.s_above (RS.s_kind (RS.s_defined y_69.2 w_99) w_103) w_107) w_111) := by rw [← hC_112]; exact rm_at.s3 hR _
                      have hfr : rm_fr C C_112 := fun x y h9 => by rw [← hC_112]; exact (pw_up_ne _ _ (by omega)).trans (hfr x y h9)
                      refine lv_iconst (v := 0) hx hb d_M_define_110 (by decide) ?_
                      obtain rfl := Option.some.inj hE
                      exact pw_iret hx hb hr hlocks hw ⟨⟨rfl, hR, hfr⟩, rfl⟩ d_M_define_111
                    · rw [if_pos c_98] at hE
                      refine lv_aload_n hx hb d_M_define_70 rfl (lv_at hl 0 rfl) ?_
                      refine pw_get (Cn := "GraphWriterModel") (T := F_M) (N := 31) hx hb hts in_M hown hK hw 30 0 rfl hc_75 rfl 1 (by decide) (hts _ wd_755) (fun _ h9 => h9) rfl d_M_define_71 ?_
                      refine lv_iload_n hx hb d_M_define_74 rfl (lv_at hl 3 rfl) ?_
                      obtain ⟨v_113, hv_113, hE⟩ := ob_some hE
                      obtain ⟨hi_v_113, hj_v_113, he_v_113⟩ := rd_some (by decide) hv_113
                      refine pw_iald hx hb hK hw 31 1 rfl 0 hc_95 rfl (l3 : Int32).toNatClampNeg hi_v_113 (by omega) (by omega) d_M_define_75 ?_
                      rw [← he_v_113]
                      refine lv_if_eq (tgt := 81) hx hb d_M_define_76 (by decide) (fun c_114 => ?_) (fun c_114 => ?_)
                      · rw [if_pos c_114] at hE
                        refine lv_aload_n hx hb d_M_define_81 rfl (lv_at hl 0 rfl) ?_
                        refine pw_get (Cn := "GraphWriterModel") (T := F_M) (N := 31) hx hb hts in_M hown hK hw 30 0 rfl hc_75 rfl 0 (by decide) (hts _ wd_754) (fun _ h9 => h9) rfl d_M_define_82 ?_
                        refine lv_iload_n hx hb d_M_define_85 rfl (lv_at hl 1 rfl) ?_
                        refine lv_iconst (v := 1) hx hb d_M_define_86 (by decide) ?_
                        obtain ⟨w_115, hw_115, hE⟩ := ob_some hE
                        obtain ⟨hi_w_115, hj_w_115, he_w_115⟩ := wrz_some (by decide) hw_115
                        refine pw_zast hx hb hK hw 31 0 rfl 3 hc_76 rfl (by decide) (l1 : Int32).toNatClampNeg hi_w_115 (by omega) (by omega) d_M_define_87 (fun H locs hw => ?_)
                        rw [← he_w_115] at hw
                        have hw : pw_H D cls9 A s.heap ad C ad (pw_up C_72 31 0 (some (.inl (ca 3, 6, .inl w_115)))) H _ := hw
                        generalize hC_116 : pw_up C_72 31 0 (some (.inl (ca 3, 6, .inl w_115))) = C_116 at hw
                        have hR : rm_at ca ad C_116 (RS.s_defined y_69.2 w_115) := by rw [← hC_116]; exact rm_at.s0 hR _
                        have hfr : rm_fr C C_116 := fun x y h9 => by rw [← hC_116]; exact (pw_up_ne _ _ (by omega)).trans (hfr x y h9)
                        refine lv_aload_n hx hb d_M_define_88 rfl (lv_at hl 0 rfl) ?_
                        have hc_117 : C_116 30 0 = some (.inr (4, [.ref (ad 31 0), .ref (ad 31 1), .ref (ad 31 2), .ref (ad 31 3), .ref (ad 31 4), .ref (ad 31 5), .ref (ad 31 6), .ref (ad 31 7), .ref (ad 31 8), .ref (ad 31 9), .ref (ad 31 10), .ref (ad 31 11), .ref (ad 31 12), .ref (ad 31 13), .ref (ad 31 14), .int y_69.2.objects, .ref (ad 31 15), .int y_69.2.length, .ref (ad 31 16), .int y_69.2.waits, .ref (ad 31 17), .int y_69.2.given, .ref (ad 31 18), .ref (ad 31 19), .ref (ad 31 20), .int y_69.2.left, .ref (ad 31 21), .ref (ad 31 22), .int y_69.2.oldLength, .int y_69.2.oldWaits, .int y_69.2.oldGiven])) := by have h9 := rm_at.o hR; exact h9
                        refine pw_get (Cn := "GraphWriterModel") (T := F_M) (N := 31) hx hb hts in_M hown hK hw 30 0 rfl hc_117 rfl 1 (by decide) (hts _ wd_755) (fun _ h9 => h9) rfl d_M_define_89 ?_
                        refine lv_iload_n hx hb d_M_define_92 rfl (lv_at hl 1 rfl) ?_
                        refine lv_iload_n hx hb d_M_define_93 rfl (lv_at hl 2 rfl) ?_
                        have hc_118 : C_116 31 1 = some (.inl (ca 0, 6, .inl y_69.2.kind)) := by have h9 := rm_at.a1 hR; exact h9
                        obtain ⟨w_119, hw_119, hE⟩ := ob_some hE
                        obtain ⟨hi_w_119, hj_w_119, he_w_119⟩ := wr_some (by decide) hw_119
                        refine pw_iast hx hb hK hw 31 1 rfl 0 hc_118 rfl (by decide) (l1 : Int32).toNatClampNeg hi_w_119 (by omega) (by omega) d_M_define_94 (fun H locs hw => ?_)
                        rw [← he_w_119] at hw
                        have hw : pw_H D cls9 A s.heap ad C ad (pw_up C_116 31 1 (some (.inl (ca 0, 6, .inl w_119)))) H _ := hw
                        generalize hC_120 : pw_up C_116 31 1 (some (.inl (ca 0, 6, .inl w_119))) = C_120 at hw
                        have hR : rm_at ca ad C_120 (RS.s_kind (RS.s_defined y_69.2 w_115) w_119) := by rw [← hC_120]; exact rm_at.s1 hR _
                        have hfr : rm_fr C C_120 := fun x y h9 => by rw [← hC_120]; exact (pw_up_ne _ _ (by omega)).trans (hfr x y h9)
                        refine lv_aload_n hx hb d_M_define_95 rfl (lv_at hl 0 rfl) ?_
                        have hc_121 : C_120 30 0 = some (.inr (4, [.ref (ad 31 0), .ref (ad 31 1), .ref (ad 31 2), .ref (ad 31 3), .ref (ad 31 4), .ref (ad 31 5), .ref (ad 31 6), .ref (ad 31 7), .ref (ad 31 8), .ref (ad 31 9), .ref (ad 31 10), .ref (ad 31 11), .ref (ad 31 12), .ref (ad 31 13), .ref (ad 31 14), .int y_69.2.objects, .ref (ad 31 15), .int y_69.2.length, .ref (ad 31 16), .int y_69.2.waits, .ref (ad 31 17), .int y_69.2.given, .ref (ad 31 18), .ref (ad 31 19), .ref (ad 31 20), .int y_69.2.left, .ref (ad 31 21), .ref (ad 31 22), .int y_69.2.oldLength, .int y_69.2.oldWaits, .int y_69.2.oldGiven])) := by have h9 := rm_at.o hR; exact h9
                        refine pw_get (Cn := "GraphWriterModel") (T := F_M) (N := 31) hx hb hts in_M hown hK hw 30 0 rfl hc_121 rfl 2 (by decide) (hts _ wd_756) (fun _ h9 => h9) rfl d_M_define_96 ?_
                        refine lv_iload_n hx hb d_M_define_99 rfl (lv_at hl 1 rfl) ?_
                        refine lv_iload_n hx hb d_M_define_100 rfl (lv_at hl 3 rfl) ?_
                        have hc_122 : C_120 31 2 = some (.inl (ca 0, 6, .inl y_69.2.above)) := by have h9 := rm_at.a2 hR; exact h9
                        obtain ⟨w_123, hw_123, hE⟩ := ob_some hE
                        obtain ⟨hi_w_123, hj_w_123, he_w_123⟩ := wr_some (by decide) hw_123
                        refine pw_iast hx hb hK hw 31 2 rfl 0 hc_122 rfl (by decide) (l1 : Int32).toNatClampNeg hi_w_123 (by omega) (by omega) d_M_define_101 (fun H locs hw => ?_)
                        rw [← he_w_123] at hw
                        have hw : pw_H D cls9 A s.heap ad C ad (pw_up C_120 31 2 (some (.inl (ca 0, 6, .inl w_123)))) H _ := hw
                        generalize hC_124 : pw_up C_120 31 2 (some (.inl (ca 0, 6, .inl w_123))) = C_124 at hw
                        have hR : rm_at ca ad C_124 (RS.s_above (RS.s_kind (RS.s_defined y_69.2 w_115) w_119) w_123) := by rw [← hC_124]; exact rm_at.s2 hR _
                        have hfr : rm_fr C C_124 := fun x y h9 => by rw [← hC_124]; exact (pw_up_ne _ _ (by omega)).trans (hfr x y h9)
                        refine lv_aload_n hx hb d_M_define_102 rfl (lv_at hl 0 rfl) ?_
                        have hc_125 : C_124 30 0 = some (.inr (4, [.ref (ad 31 0), .ref (ad 31 1), .ref (ad 31 2), .ref (ad 31 3), .ref (ad 31 4), .ref (ad 31 5), .ref (ad 31 6), .ref (ad 31 7), .ref (ad 31 8), .ref (ad 31 9), .ref (ad 31 10), .ref (ad 31 11), .ref (ad 31 12), .ref (ad 31 13), .ref (ad 31 14), .int y_69.2.objects, .ref (ad 31 15), .int y_69.2.length, .ref (ad 31 16), .int y_69.2.waits, .ref (ad 31 17), .int y_69.2.given, .ref (ad 31 18), .ref (ad 31 19), .ref (ad 31 20), .int y_69.2.left, .ref (ad 31 21), .ref (ad 31 22), .int y_69.2.oldLength, .int y_69.2.oldWaits, .int y_69.2.oldGiven])) := by have h9 := rm_at.o hR; exact h9
                        refine pw_get (Cn := "GraphWriterModel") (T := F_M) (N := 31) hx hb hts in_M hown hK hw 30 0 rfl hc_125 rfl 3 (by decide) (hts _ wd_757) (fun _ h9 => h9) rfl d_M_define_103 ?_
                        refine lv_iload_n hx hb d_M_define_106 rfl (lv_at hl 1 rfl) ?_
                        refine lv_lload hx hb d_M_define_107 (lv_at hl 4 rfl) ?_
                        have hc_126 : C_124 31 3 = some (.inl (ca 1, 6, .inr (.inl y_69.2.id))) := by have h9 := rm_at.a3 hR; exact h9
                        obtain ⟨w_127, hw_127, hE⟩ := ob_some hE
                        obtain ⟨hi_w_127, hj_w_127, he_w_127⟩ := wrl_some (by decide) hw_127
                        refine pw_last hx hb hK hw 31 3 rfl 1 hc_126 rfl (by decide) (l1 : Int32).toNatClampNeg hi_w_127 (by omega) (by omega) d_M_define_109 (fun H locs hw => ?_)
                        rw [← he_w_127] at hw
                        have hw : pw_H D cls9 A s.heap ad C ad (pw_up C_124 31 3 (some (.inl (ca 1, 6, .inr (.inl w_127))))) H _ := hw
                        generalize hC_128 : pw_up C_124 31 3 (some (.inl (ca 1, 6, .inr (.inl w_127)))) = C_128 at hw
                        have hR : rm_at ca ad C_128 (RS.s_id (RS.s_above (RS.s_kind (RS.s_defined y_69.2 w_115) w_119) w_123) w_127) := by rw [← hC_128]; exact rm_at.s3 hR _
                        have hfr : rm_fr C C_128 := fun x y h9 => by rw [← hC_128]; exact (pw_up_ne _ _ (by omega)).trans (hfr x y h9)
                        refine lv_iconst (v := 0) hx hb d_M_define_110 (by decide) ?_
                        obtain rfl := Option.some.inj hE
                        exact pw_iret hx hb hr hlocks hw ⟨⟨rfl, hR, hfr⟩, rfl⟩ d_M_define_111
                      · rw [if_neg c_114] at hE
                        refine lv_iconst (v := (-1)) hx hb d_M_define_79 (by decide) ?_
                        obtain rfl := Option.some.inj hE
                        exact pw_iret hx hb hr hlocks hw ⟨⟨rfl, hR, hfr⟩, rfl⟩ d_M_define_80
            · rw [if_neg c_78] at hE
              refine lv_iconst (v := (-1)) hx hb d_M_define_45 (by decide) ?_
              obtain rfl := Option.some.inj hE
              exact pw_iret hx hb hr hlocks hw ⟨⟨rfl, hR, hfr⟩, rfl⟩ d_M_define_46
def m_below_5 (K : Int32 → Int32 → Int32 → Int32 → RS → Option (Int32 × RS)) : Nat → Int32 → Int32 → Int32 → Int32 → RS → Option (Int32 × RS)
  | 0, _, _, _, _, _ => none
  | n + 1, x4_1, x3_1, x1_1, x2_1, r => if (6 : Int32) ≤ x4_1 then (K x4_1 x3_1 x1_1 x2_1 r) else (if (x3_1 : Int32) < 0 then (K x4_1 x3_1 x1_1 x2_1 r) else (if (x3_1 : Int32) = x2_1 then (K x4_1 x3_1 x1_1 x2_1 r) else (Option.bind (rd r.above 6 x3_1) (fun v_7 => m_below_5 K n (x4_1 + 1) v_7 x1_1 x2_1 r))))
def m_below (l1 : Int32) (l2 : Int32) (r : RS) : Option (Int32 × RS) := m_below_5 (fun z4_1 z3_1 z1_1 z2_1 r_8 => if (z3_1 : Int32) = z2_1 then (some (1, r_8)) else (some (0, r_8))) 60 0 l1 l1 l2 r
set_option maxHeartbeats 4000000 in
set_option maxRecDepth 100000 in
theorem k_M_below {l : Launch} {D : va_G} {ca : Nat → ClassId} {kS : Nat → Nat} {kT : Nat} {ad : pw_A} {C : pw_C} {r : RS} (hR : rm_at ca ad C r) {l1 : Int32} {l2 : Int32} {res : (Int32 × RS)} (hE : m_below l1 l2 r = some res) : gc_Con l y_M_below c_M_below ({ frames := 0, cells := 0, slots := 0, locals := 0 }) D ca (z9_Z kS kT) [.ref (ad 30 0), .int l1, .int l2] ad C (pw_pi (fun v ad' C' => (ad' = ad ∧ rm_at ca ad C' res.2 ∧ rm_fr C C') ∧ v = res.1)) 0 0 := by
  have hZ := z9_ok kS kT
  refine pw_ofW (cc := b_M_below) (maxL := 5) (ret := (some FieldType.boolean)) (by decide) rfl (Nat.le_of_ble_eq_true rfl) ?_
  intro p e s m args below meth c A ls hB hA hw hK hz hl
  obtain ⟨hx, hb, hr, hml, hts0, hlocks, hown, hnm⟩ := hB
  have hts := wd_hts hts0
  have hown : s.vm.findClass "GraphWriterModel" = some m.cls := hown
  have hl : lv_has ls 5 [(0, .ref (ad 30 0)), (1, .int l1), (2, .int l2)] := hl
  have hfr : rm_fr C C := fun _ _ _ => rfl
  unfold m_below at hE
  refine lv_iload_n hx hb d_M_below_0 rfl (lv_at hl 1 rfl) ?_
  refine lv_istore_n (lv' := [(3, .int l1), (0, .ref (ad 30 0)), (1, .int l1), (2, .int l2)]) hx hb d_M_below_1 rfl hl (by decide) rfl (fun ls hl => ?_)
  refine lv_iconst (v := 0) hx hb d_M_below_2 (by decide) ?_
  refine lv_istore (lv' := [(4, .int 0), (3, .int l1), (0, .ref (ad 30 0)), (1, .int l1), (2, .int l2)]) hx hb d_M_below_3 hl (by decide) rfl (fun ls hl => ?_)
  have lp_1 : ∀ (K : Int32 → Int32 → Int32 → Int32 → RS → Option (Int32 × RS)), (∀ (x4_1 : Int32) (x3_1 : Int32) (x1_1 : Int32) (x2_1 : Int32) (r : RS) (C1 : pw_C) (H : Heap) (locs : List Loc) (ls : Array Slot), K x4_1 x3_1 x1_1 x2_1 r = some res → rm_at ca ad C1 r → rm_fr C C1 → pw_H D cls9 A s.heap ad C ad C1 H locs → lv_has ls 5 [(4, .int x4_1), (3, .int x3_1), (0, .ref (ad 30 0)), (1, .int x1_1), (2, .int x2_1)] → W p l e ({ frames := 0, cells := 0, slots := 0, locals := 0 }) s m args below meth c H locs 0 0 (MQ below (pw_Q D cls9 ad C (pw_pi (fun v ad' C' => (ad' = ad ∧ rm_at ca ad C' res.2 ∧ rm_fr C C') ∧ v = res.1)) A) args s 0 0 A) (F0 m 34 ls [])) → ∀ (n : Nat) (x4_1 : Int32) (x3_1 : Int32) (x1_1 : Int32) (x2_1 : Int32) (r : RS) (C1 : pw_C) (H : Heap) (locs : List Loc) (ls : Array Slot), m_below_5 K n x4_1 x3_1 x1_1 x2_1 r = some res → rm_at ca ad C1 r → rm_fr C C1 → pw_H D cls9 A s.heap ad C ad C1 H locs → lv_has ls 5 [(4, .int x4_1), (3, .int x3_1), (0, .ref (ad 30 0)), (1, .int x1_1), (2, .int x2_1)] → W p l e ({ frames := 0, cells := 0, slots := 0, locals := 0 }) s m args below meth c H locs 0 0 (MQ below (pw_Q D cls9 ad C (pw_pi (fun v ad' C' => (ad' = ad ∧ rm_at ca ad C' res.2 ∧ rm_fr C C') ∧ v = res.1)) A) args s 0 0 A) (F0 m 5 ls []) := by
    intro K hKK n
    induction n with
    | zero => intro x4_1 x3_1 x1_1 x2_1 r C1 H locs ls hE; rw [m_below_5] at hE; exact absurd hE (by simp)
    | succ n ih =>
      intro x4_1 x3_1 x1_1 x2_1 r C1 H locs ls hE hR hfr hw hl
      rw [m_below_5] at hE
      refine lv_iload hx hb d_M_below_5 (lv_at hl 0 rfl) ?_
      refine lv_bipush (v := 6) hx hb d_M_below_7 (by decide) ?_
      refine lv_icmp_ge (tgt := 34) hx hb d_M_below_9 (by decide) (fun c_2 => ?_) (fun c_2 => ?_)
      · rw [if_pos c_2] at hE
        exact hKK _ _ _ _ _ _ _ _ _ hE hR hfr hw (lv_sub hl [0, 1, 2, 3, 4] rfl)
      · rw [if_neg c_2] at hE
        refine lv_iload_n hx hb d_M_below_12 rfl (lv_at hl 1 rfl) ?_
        refine lv_if_lt (tgt := 34) hx hb d_M_below_13 (by decide) (fun c_3 => ?_) (fun c_3 => ?_)
        · rw [if_pos c_3] at hE
          exact hKK _ _ _ _ _ _ _ _ _ hE hR hfr hw (lv_sub hl [0, 1, 2, 3, 4] rfl)
        · rw [if_neg c_3] at hE
          refine lv_iload_n hx hb d_M_below_16 rfl (lv_at hl 1 rfl) ?_
          refine lv_iload_n hx hb d_M_below_17 rfl (lv_at hl 4 rfl) ?_
          refine lv_icmp_eq (tgt := 34) hx hb d_M_below_18 (by decide) (fun c_4 => ?_) (fun c_4 => ?_)
          · rw [if_pos c_4] at hE
            exact hKK _ _ _ _ _ _ _ _ _ hE hR hfr hw (lv_sub hl [0, 1, 2, 3, 4] rfl)
          · rw [if_neg c_4] at hE
            refine lv_aload_n hx hb d_M_below_21 rfl (lv_at hl 2 rfl) ?_
            have hc_5 : C1 30 0 = some (.inr (4, [.ref (ad 31 0), .ref (ad 31 1), .ref (ad 31 2), .ref (ad 31 3), .ref (ad 31 4), .ref (ad 31 5), .ref (ad 31 6), .ref (ad 31 7), .ref (ad 31 8), .ref (ad 31 9), .ref (ad 31 10), .ref (ad 31 11), .ref (ad 31 12), .ref (ad 31 13), .ref (ad 31 14), .int r.objects, .ref (ad 31 15), .int r.length, .ref (ad 31 16), .int r.waits, .ref (ad 31 17), .int r.given, .ref (ad 31 18), .ref (ad 31 19), .ref (ad 31 20), .int r.left, .ref (ad 31 21), .ref (ad 31 22), .int r.oldLength, .int r.oldWaits, .int r.oldGiven])) := by have h9 := rm_at.o hR; exact h9
            refine pw_get (Cn := "GraphWriterModel") (T := F_M) (N := 31) hx hb hts in_M hown hK hw 30 0 rfl hc_5 rfl 2 (by decide) (hts _ wd_756) (fun _ h9 => h9) rfl d_M_below_22 ?_
            refine lv_iload_n hx hb d_M_below_25 rfl (lv_at hl 1 rfl) ?_
            have hc_6 : C1 31 2 = some (.inl (ca 0, 6, .inl r.above)) := by have h9 := rm_at.a2 hR; exact h9
            obtain ⟨v_7, hv_7, hE⟩ := ob_some hE
            obtain ⟨hi_v_7, hj_v_7, he_v_7⟩ := rd_some (by decide) hv_7
            refine pw_iald hx hb hK hw 31 2 rfl 0 hc_6 rfl (x3_1 : Int32).toNatClampNeg hi_v_7 (by omega) (by omega) d_M_below_26 ?_
            rw [← he_v_7]
            refine lv_istore_n (lv' := [(3, .int v_7), (4, .int x4_1), (0, .ref (ad 30 0)), (1, .int x1_1), (2, .int x2_1)]) hx hb d_M_below_27 rfl hl (by decide) rfl (fun ls hl => ?_)
            refine lv_iinc (v := x4_1 + 1) (lv' := [(4, .int (x4_1 + 1)), (3, .int v_7), (0, .ref (ad 30 0)), (1, .int x1_1), (2, .int x2_1)]) hx hb d_M_below_28 hl (k := 1) rfl rfl (by decide) rfl (fun ls hl => ?_)
            refine lv_goto (tgt := 5) hx hb d_M_below_31 (by decide) ?_
            exact ih _ _ _ _ _ _ _ _ _ hE hR hfr hw (lv_sub hl [0, 1, 2, 3, 4] rfl)
  refine lp_1 _ (fun z4_1 z3_1 z1_1 z2_1 r_8 C_9 H locs ls hE hR hfr hw hl => ?_) 60 _ _ _ _ _ _ _ _ _ hE hR hfr hw hl
  try dsimp only at hE
  refine lv_iload_n hx hb d_M_below_34 rfl (lv_at hl 1 rfl) ?_
  refine lv_iload_n hx hb d_M_below_35 rfl (lv_at hl 4 rfl) ?_
  refine lv_icmp_ne (tgt := 43) hx hb d_M_below_36 (by decide) (fun c_10 => ?_) (fun c_10 => ?_)
  · rw [if_neg c_10] at hE
    refine lv_iconst (v := 0) hx hb d_M_below_43 (by decide) ?_
    obtain rfl := Option.some.inj hE
    exact pw_zret hx hb hr hlocks hw rfl ⟨⟨rfl, hR, hfr⟩, rfl⟩ d_M_below_44
  · rw [if_pos c_10] at hE
    refine lv_iconst (v := 1) hx hb d_M_below_39 (by decide) ?_
    refine lv_goto (tgt := 44) hx hb d_M_below_40 (by decide) ?_
    obtain rfl := Option.some.inj hE
    exact pw_zret hx hb hr hlocks hw rfl ⟨⟨rfl, hR, hfr⟩, rfl⟩ d_M_below_44
def m_field_43 (K : Int32 → Int32 → Int32 → Int32 → Int32 → RS → Option (Int32 × RS)) : Nat → Int32 → Int32 → Int32 → Int32 → Int32 → RS → Option (Int32 × RS)
  | 0, _, _, _, _, _, _ => none
  | n + 1, x5_23, x1_23, x2_23, x3_23, x4_23, r => if (r.objects : Int32) ≤ x5_23 then (K x5_23 x1_23 x2_23 x3_23 x4_23 r) else (Option.bind (rd r.sort 20 x5_23) (fun v_27 => if (v_27 : Int32) = 0 then (Option.bind (rd r.classOf 20 x5_23) (fun v_30 => Option.bind (m_below v_30 x1_23 r) (fun y_31 => if (y_31.1 : Int32) = 0 then (m_field_43 K n (x5_23 + 1) x1_23 x2_23 x3_23 x4_23 y_31.2) else (some ((-1), y_31.2))))) else (m_field_43 K n (x5_23 + 1) x1_23 x2_23 x3_23 x4_23 r)))
def m_field_88 (K : Int32 → Int32 → Int32 → Int32 → Int32 → RS → Option (Int32 × RS)) : Nat → Int32 → Int32 → Int32 → Int32 → Int32 → RS → Option (Int32 × RS)
  | 0, _, _, _, _, _, _ => none
  | n + 1, x5_38, x1_38, x2_38, x3_38, x4_38, r => Option.bind (rd r.fields 6 x1_38) (fun v_41 => if (v_41 : Int32) ≤ x5_38 then (K x5_38 x1_38 x2_38 x3_38 x4_38 r) else (Option.bind (rd r.fName 24 ((4 * x1_38) + x5_38)) (fun v_44 => if (v_44 : Int32) = x2_38 then (some ((-1), r)) else (m_field_88 K n (x5_38 + 1) x1_38 x2_38 x3_38 x4_38 r))))
def m_field (l1 : Int32) (l2 : Int32) (l3 : Int32) (l4 : Int32) (r : RS) : Option (Int32 × RS) := Option.bind (m_noClass l1 r) (fun y_1 => if (y_1.1 : Int32) = 0 then (Option.bind (m_out l2 26 y_1.2) (fun y_7 => if (y_7.1 : Int32) = 0 then (Option.bind (m_out l3 8 y_7.2) (fun y_13 => if (y_13.1 : Int32) = 0 then (Option.bind (rd y_13.2.kind 6 l1) (fun v_21 => if (v_21 : Int32) = 3 then (some ((-1), y_13.2)) else (m_field_43 (fun z5_23 z1_23 z2_23 z3_23 z4_23 r_36 => m_field_88 (fun z5_38 z1_38 z2_38 z3_38 z4_38 r_46 => Option.bind (rd r_46.fields 6 z1_38) (fun v_50 => if (v_50 : Int32) = 4 then (some ((-1), r_46)) else (Option.bind (rd r_46.fields 6 z1_38) (fun v_52 => Option.bind (wr r_46.fName 24 ((4 * z1_38) + v_52) z2_38) (fun w_54 => Option.bind (wr r_46.fType 24 ((4 * z1_38) + v_52) z3_38) (fun w_58 => Option.bind (wrz r_46.fSkip 24 ((4 * z1_38) + v_52) z4_38) (fun w_62 => Option.bind (rd r_46.fields 6 z1_38) (fun v_66 => Option.bind (wr r_46.fields 6 z1_38 (v_66 + 1)) (fun w_67 => Option.bind (rd w_67 6 z1_38) (fun v_71 => some (v_71, (RS.s_fields (RS.s_fSkip (RS.s_fType (RS.s_fName r_46 w_54) w_58) w_62) w_67)))))))))))) 60 0 z1_23 z2_23 z3_23 z4_23 r_36) 60 0 l1 l2 l3 l4 y_13.2))) else (some ((-1), y_13.2)))) else (some ((-1), y_7.2)))) else (some ((-1), y_1.2)))
set_option maxHeartbeats 4000000 in
set_option maxRecDepth 100000 in
theorem k_M_field {l : Launch} {D : va_G} {ca : Nat → ClassId} {kS : Nat → Nat} {kT : Nat} {ad : pw_A} {C : pw_C} {r : RS} (hR : rm_at ca ad C r) {l1 : Int32} {l2 : Int32} {l3 : Int32} {l4 : Int32} {res : (Int32 × RS)} (hE : m_field l1 l2 l3 l4 r = some res) : gc_Con l y_M_field c_M_field ({ frames := 2, cells := 0, slots := 0, locals := 43 }) D ca (z9_Z kS kT) [.ref (ad 30 0), .int l1, .int l2, .int l3, .int l4] ad C (pw_pi (fun v ad' C' => (ad' = ad ∧ rm_at ca ad C' res.2 ∧ rm_fr C C') ∧ v = res.1)) 0 0 := by
  have hZ := z9_ok kS kT
  refine pw_ofW (cc := b_M_field) (maxL := 6) (ret := (some FieldType.int)) (by decide) rfl (Nat.le_of_ble_eq_true rfl) ?_
  intro p e s m args below meth c A ls hB hA hw hK hz hl
  obtain ⟨hx, hb, hr, hml, hts0, hlocks, hown, hnm⟩ := hB
  have hts := wd_hts hts0
  have hown : s.vm.findClass "GraphWriterModel" = some m.cls := hown
  have hl : lv_has ls 6 [(0, .ref (ad 30 0)), (1, .int l1), (2, .int l2), (3, .int l3), (4, .int l4)] := hl
  have hfr : rm_fr C C := fun _ _ _ => rfl
  unfold m_field at hE
  refine lv_aload_n hx hb d_M_field_0 rfl (lv_at hl 0 rfl) ?_
  refine lv_iload_n hx hb d_M_field_1 rfl (lv_at hl 1 rfl) ?_
  obtain ⟨y_1, hy_1, hE⟩ := ob_some hE
  have hc_2 : C 30 0 = some (.inr (4, [.ref (ad 31 0), .ref (ad 31 1), .ref (ad 31 2), .ref (ad 31 3), .ref (ad 31 4), .ref (ad 31 5), .ref (ad 31 6), .ref (ad 31 7), .ref (ad 31 8), .ref (ad 31 9), .ref (ad 31 10), .ref (ad 31 11), .ref (ad 31 12), .ref (ad 31 13), .ref (ad 31 14), .int r.objects, .ref (ad 31 15), .int r.length, .ref (ad 31 16), .int r.waits, .ref (ad 31 17), .int r.given, .ref (ad 31 18), .ref (ad 31 19), .ref (ad 31 20), .int r.left, .ref (ad 31 21), .ref (ad 31 22), .int r.oldLength, .int r.oldWaits, .int r.oldGiven])) := by have h9 := rm_at.o hR; exact h9
  refine pw_calli (va_runV (As := [.int l1]) (rest := []) ⟨hx, hb, hml, hown, hts0⟩ (k_M_noClass hR hy_1 _) (cwV 1 hts0 (wd_V wd_860 wd_857 wd_859 wd_23 wd_56) rfl rfl rfl (by decide +kernel) ⟨Nat.le_of_ble_eq_true rfl, Nat.le_of_ble_eq_true rfl⟩) (pw_preV hZ hw hA hK hz rfl hc_2 rfl) rfl rfl hl.1 rfl (lv_room (Nat.le_of_ble_eq_true rfl)) d_M_field_2 ⟨Nat.le_of_ble_eq_true rfl, Nat.le_of_ble_eq_true rfl⟩) hw hA (fun r_5 ad_3 C_4 H locs hp hw => ?_)
  obtain ⟨⟨hae, hR, hf1⟩, hre⟩ := hp
  rw [hre]
  rw [hae] at hw
  clear hae
  have hfr : rm_fr C C_4 := fun x y h9 => (hf1 x y h9).trans (hfr x y h9)
  clear hf1
  refine lv_if_ne (tgt := 38) hx hb d_M_field_5 (by decide) (fun c_6 => ?_) (fun c_6 => ?_)
  · rw [if_neg c_6] at hE
    refine lv_iconst (v := (-1)) hx hb d_M_field_38 (by decide) ?_
    obtain rfl := Option.some.inj hE
    exact pw_iret hx hb hr hlocks hw ⟨⟨rfl, hR, hfr⟩, rfl⟩ d_M_field_39
  · rw [if_pos c_6] at hE
    refine lv_aload_n hx hb d_M_field_8 rfl (lv_at hl 0 rfl) ?_
    refine lv_iload_n hx hb d_M_field_9 rfl (lv_at hl 2 rfl) ?_
    refine lv_bipush (v := 26) hx hb d_M_field_10 (by decide) ?_
    obtain ⟨y_7, hy_7, hE⟩ := ob_some hE
    have hc_8 : C_4 30 0 = some (.inr (4, [.ref (ad 31 0), .ref (ad 31 1), .ref (ad 31 2), .ref (ad 31 3), .ref (ad 31 4), .ref (ad 31 5), .ref (ad 31 6), .ref (ad 31 7), .ref (ad 31 8), .ref (ad 31 9), .ref (ad 31 10), .ref (ad 31 11), .ref (ad 31 12), .ref (ad 31 13), .ref (ad 31 14), .int y_1.2.objects, .ref (ad 31 15), .int y_1.2.length, .ref (ad 31 16), .int y_1.2.waits, .ref (ad 31 17), .int y_1.2.given, .ref (ad 31 18), .ref (ad 31 19), .ref (ad 31 20), .int y_1.2.left, .ref (ad 31 21), .ref (ad 31 22), .int y_1.2.oldLength, .int y_1.2.oldWaits, .int y_1.2.oldGiven])) := by have h9 := rm_at.o hR; exact h9
    refine pw_calli (va_runV (As := [.int l2, .int 26]) (rest := []) ⟨hx, hb, hml, hown, hts0⟩ (k_M_out hR hy_7 _) (cwV 2 hts0 (wd_V wd_856 wd_853 wd_855 wd_22 wd_56) rfl rfl rfl (by decide +kernel) ⟨Nat.le_of_ble_eq_true rfl, Nat.le_of_ble_eq_true rfl⟩) (pw_preV hZ hw hA hK hz rfl hc_8 rfl) rfl rfl hl.1 rfl (lv_room (Nat.le_of_ble_eq_true rfl)) d_M_field_12 ⟨Nat.le_of_ble_eq_true rfl, Nat.le_of_ble_eq_true rfl⟩) hw hA (fun r_11 ad_9 C_10 H locs hp hw => ?_)
    obtain ⟨⟨hae, hR, hf1⟩, hre⟩ := hp
    rw [hre]
    rw [hae] at hw
    clear hae
    have hfr : rm_fr C C_10 := fun x y h9 => (hf1 x y h9).trans (hfr x y h9)
    clear hf1
    refine lv_if_ne (tgt := 38) hx hb d_M_field_15 (by decide) (fun c_12 => ?_) (fun c_12 => ?_)
    · rw [if_neg c_12] at hE
      refine lv_iconst (v := (-1)) hx hb d_M_field_38 (by decide) ?_
      obtain rfl := Option.some.inj hE
      exact pw_iret hx hb hr hlocks hw ⟨⟨rfl, hR, hfr⟩, rfl⟩ d_M_field_39
    · rw [if_pos c_12] at hE
      refine lv_aload_n hx hb d_M_field_18 rfl (lv_at hl 0 rfl) ?_
      refine lv_iload_n hx hb d_M_field_19 rfl (lv_at hl 3 rfl) ?_
      refine lv_bipush (v := 8) hx hb d_M_field_20 (by decide) ?_
      obtain ⟨y_13, hy_13, hE⟩ := ob_some hE
      have hc_14 : C_10 30 0 = some (.inr (4, [.ref (ad 31 0), .ref (ad 31 1), .ref (ad 31 2), .ref (ad 31 3), .ref (ad 31 4), .ref (ad 31 5), .ref (ad 31 6), .ref (ad 31 7), .ref (ad 31 8), .ref (ad 31 9), .ref (ad 31 10), .ref (ad 31 11), .ref (ad 31 12), .ref (ad 31 13), .ref (ad 31 14), .int y_7.2.objects, .ref (ad 31 15), .int y_7.2.length, .ref (ad 31 16), .int y_7.2.waits, .ref (ad 31 17), .int y_7.2.given, .ref (ad 31 18), .ref (ad 31 19), .ref (ad 31 20), .int y_7.2.left, .ref (ad 31 21), .ref (ad 31 22), .int y_7.2.oldLength, .int y_7.2.oldWaits, .int y_7.2.oldGiven])) := by have h9 := rm_at.o hR; exact h9
      refine pw_calli (va_runV (As := [.int l3, .int 8]) (rest := []) ⟨hx, hb, hml, hown, hts0⟩ (k_M_out hR hy_13 _) (cwV 2 hts0 (wd_V wd_856 wd_853 wd_855 wd_22 wd_56) rfl rfl rfl (by decide +kernel) ⟨Nat.le_of_ble_eq_true rfl, Nat.le_of_ble_eq_true rfl⟩) (pw_preV hZ hw hA hK hz rfl hc_14 rfl) rfl rfl hl.1 rfl (lv_room (Nat.le_of_ble_eq_true rfl)) d_M_field_22 ⟨Nat.le_of_ble_eq_true rfl, Nat.le_of_ble_eq_true rfl⟩) hw hA (fun r_17 ad_15 C_16 H locs hp hw => ?_)
      obtain ⟨⟨hae, hR, hf1⟩, hre⟩ := hp
      rw [hre]
      rw [hae] at hw
      clear hae
      have hfr : rm_fr C C_16 := fun x y h9 => (hf1 x y h9).trans (hfr x y h9)
      clear hf1
      refine lv_if_ne (tgt := 38) hx hb d_M_field_25 (by decide) (fun c_18 => ?_) (fun c_18 => ?_)
      · rw [if_neg c_18] at hE
        refine lv_iconst (v := (-1)) hx hb d_M_field_38 (by decide) ?_
        obtain rfl := Option.some.inj hE
        exact pw_iret hx hb hr hlocks hw ⟨⟨rfl, hR, hfr⟩, rfl⟩ d_M_field_39
      · rw [if_pos c_18] at hE
        refine lv_aload_n hx hb d_M_field_28 rfl (lv_at hl 0 rfl) ?_
        have hc_19 : C_16 30 0 = some (.inr (4, [.ref (ad 31 0), .ref (ad 31 1), .ref (ad 31 2), .ref (ad 31 3), .ref (ad 31 4), .ref (ad 31 5), .ref (ad 31 6), .ref (ad 31 7), .ref (ad 31 8), .ref (ad 31 9), .ref (ad 31 10), .ref (ad 31 11), .ref (ad 31 12), .ref (ad 31 13), .ref (ad 31 14), .int y_13.2.objects, .ref (ad 31 15), .int y_13.2.length, .ref (ad 31 16), .int y_13.2.waits, .ref (ad 31 17), .int y_13.2.given, .ref (ad 31 18), .ref (ad 31 19), .ref (ad 31 20), .int y_13.2.left, .ref (ad 31 21), .ref (ad 31 22), .int y_13.2.oldLength, .int y_13.2.oldWaits, .int y_13.2.oldGiven])) := by have h9 := rm_at.o hR; exact h9
        refine pw_get (Cn := "GraphWriterModel") (T := F_M) (N := 31) hx hb hts in_M hown hK hw 30 0 rfl hc_19 rfl 1 (by decide) (hts _ wd_755) (fun _ h9 => h9) rfl d_M_field_29 ?_
        refine lv_iload_n hx hb d_M_field_32 rfl (lv_at hl 1 rfl) ?_
        have hc_20 : C_16 31 1 = some (.inl (ca 0, 6, .inl y_13.2.kind)) := by have h9 := rm_at.a1 hR; exact h9
        obtain ⟨v_21, hv_21, hE⟩ := ob_some hE
        obtain ⟨hi_v_21, hj_v_21, he_v_21⟩ := rd_some (by decide) hv_21
        refine pw_iald hx hb hK hw 31 1 rfl 0 hc_20 rfl (l1 : Int32).toNatClampNeg hi_v_21 (by omega) (by omega) d_M_field_33 ?_
        rw [← he_v_21]
        refine lv_iconst (v := 3) hx hb d_M_field_34 (by decide) ?_
        refine lv_icmp_ne (tgt := 40) hx hb d_M_field_35 (by decide) (fun c_22 => ?_) (fun c_22 => ?_)
        · rw [if_neg c_22] at hE
          refine lv_iconst (v := 0) hx hb d_M_field_40 (by decide) ?_
          refine lv_istore (lv' := [(5, .int 0), (0, .ref (ad 30 0)), (1, .int l1), (2, .int l2), (3, .int l3), (4, .int l4)]) hx hb d_M_field_41 hl (by decide) rfl (fun ls hl => ?_)
          have lp_23 : ∀ (K : Int32 → Int32 → Int32 → Int32 → Int32 → RS → Option (Int32 × RS)), (∀ (x5_23 : Int32) (x1_23 : Int32) (x2_23 : Int32) (x3_23 : Int32) (x4_23 : Int32) (r : RS) (C1 : pw_C) (H : Heap) (locs : List Loc) (ls : Array Slot), K x5_23 x1_23 x2_23 x3_23 x4_23 r = some res → rm_at ca ad C1 r → rm_fr C C1 → pw_H D cls9 A s.heap ad C ad C1 H locs → lv_has ls 6 [(5, .int x5_23), (0, .ref (ad 30 0)), (1, .int x1_23), (2, .int x2_23), (3, .int x3_23), (4, .int x4_23)] → W p l e ({ frames := 2, cells := 0, slots := 0, locals := 43 }) s m args below meth c H locs 0 0 (MQ below (pw_Q D cls9 ad C (pw_pi (fun v ad' C' => (ad' = ad ∧ rm_at ca ad C' res.2 ∧ rm_fr C C') ∧ v = res.1)) A) args s 0 0 A) (F0 m 85 ls [])) → ∀ (n : Nat) (x5_23 : Int32) (x1_23 : Int32) (x2_23 : Int32) (x3_23 : Int32) (x4_23 : Int32) (r : RS) (C1 : pw_C) (H : Heap) (locs : List Loc) (ls : Array Slot), m_field_43 K n x5_23 x1_23 x2_23 x3_23 x4_23 r = some res → rm_at ca ad C1 r → rm_fr C C1 → pw_H D cls9 A s.heap ad C ad C1 H locs → lv_has ls 6 [(5, .int x5_23), (0, .ref (ad 30 0)), (1, .int x1_23), (2, .int x2_23), (3, .int x3_23), (4, .int x4_23)] → W p l e ({ frames := 2, cells := 0, slots := 0, locals := 43 }) s m args below meth c H locs 0 0 (MQ below (pw_Q D cls9 ad C (pw_pi (fun v ad' C' => (ad' = ad ∧ rm_at ca ad C' res.2 ∧ rm_fr C C') ∧ v = res.1)) A) args s 0 0 A) (F0 m 43 ls []) := by
            intro K hKK n
            induction n with
            | zero => intro x5_23 x1_23 x2_23 x3_23 x4_23 r C1 H locs ls hE; rw [m_field_43] at hE; exact absurd hE (by simp)
            | succ n ih =>
              intro x5_23 x1_23 x2_23 x3_23 x4_23 r C1 H locs ls hE hR hfr hw hl
              rw [m_field_43] at hE
              refine lv_iload hx hb d_M_field_43 (lv_at hl 0 rfl) ?_
              refine lv_aload_n hx hb d_M_field_45 rfl (lv_at hl 1 rfl) ?_
              have hc_24 : C1 30 0 = some (.inr (4, [.ref (ad 31 0), .ref (ad 31 1), .ref (ad 31 2), .ref (ad 31 3), .ref (ad 31 4), .ref (ad 31 5), .ref (ad 31 6), .ref (ad 31 7), .ref (ad 31 8), .ref (ad 31 9), .ref (ad 31 10), .ref (ad 31 11), .ref (ad 31 12), .ref (ad 31 13), .ref (ad 31 14), .int r.objects, .ref (ad 31 15), .int r.length, .ref (ad 31 16), .int r.waits, .ref (ad 31 17), .int r.given, .ref (ad 31 18), .ref (ad 31 19), .ref (ad 31 20), .int r.left, .ref (ad 31 21), .ref (ad 31 22), .int r.oldLength, .int r.oldWaits, .int r.oldGiven])) := by have h9 := rm_at.o hR; exact h9
              refine pw_get (Cn := "GraphWriterModel") (T := F_M) (N := 31) hx hb hts in_M hown hK hw 30 0 rfl hc_24 rfl 15 (by decide) (hts _ wd_769) (fun _ h9 => h9) rfl d_M_field_46 ?_
              refine lv_icmp_ge (tgt := 85) hx hb d_M_field_49 (by decide) (fun c_25 => ?_) (fun c_25 => ?_)
              · rw [if_pos c_25] at hE
                exact hKK _ _ _ _ _ _ _ _ _ _ hE hR hfr hw (lv_sub hl [0, 1, 2, 3, 4, 5] rfl)
              · rw [if_neg c_25] at hE
                refine lv_aload_n hx hb d_M_field_52 rfl (lv_at hl 1 rfl) ?_
                refine pw_get (Cn := "GraphWriterModel") (T := F_M) (N := 31) hx hb hts in_M hown hK hw 30 0 rfl hc_24 rfl 8 (by decide) (hts _ wd_762) (fun _ h9 => h9) rfl d_M_field_53 ?_
                refine lv_iload hx hb d_M_field_56 (lv_at hl 0 rfl) ?_
                have hc_26 : C1 31 8 = some (.inl (ca 0, 20, .inl r.sort)) := by have h9 := rm_at.a8 hR; exact h9
                obtain ⟨v_27, hv_27, hE⟩ := ob_some hE
                obtain ⟨hi_v_27, hj_v_27, he_v_27⟩ := rd_some (by decide) hv_27
                refine pw_iald hx hb hK hw 31 8 rfl 0 hc_26 rfl (x5_23 : Int32).toNatClampNeg hi_v_27 (by omega) (by omega) d_M_field_58 ?_
                rw [← he_v_27]
                refine lv_if_ne (tgt := 79) hx hb d_M_field_59 (by decide) (fun c_28 => ?_) (fun c_28 => ?_)
                · rw [if_neg c_28] at hE
                  refine lv_iinc (v := x5_23 + 1) (lv' := [(5, .int (x5_23 + 1)), (0, .ref (ad 30 0)), (1, .int x1_23), (2, .int x2_23), (3, .int x3_23), (4, .int x4_23)]) hx hb d_M_field_79 hl (k := 0) rfl rfl (by decide) rfl (fun ls hl => ?_)
                  refine lv_goto (tgt := 43) hx hb d_M_field_82 (by decide) ?_
                  exact ih _ _ _ _ _ _ _ _ _ _ hE hR hfr hw (lv_sub hl [0, 1, 2, 3, 4, 5] rfl)
                · rw [if_pos c_28] at hE
                  refine lv_aload_n hx hb d_M_field_62 rfl (lv_at hl 1 rfl) ?_
                  refine lv_aload_n hx hb d_M_field_63 rfl (lv_at hl 1 rfl) ?_
                  refine pw_get (Cn := "GraphWriterModel") (T := F_M) (N := 31) hx hb hts in_M hown hK hw 30 0 rfl hc_24 rfl 9 (by decide) (hts _ wd_763) (fun _ h9 => h9) rfl d_M_field_64 ?_
                  refine lv_iload hx hb d_M_field_67 (lv_at hl 0 rfl) ?_
                  have hc_29 : C1 31 9 = some (.inl (ca 0, 20, .inl r.classOf)) := by have h9 := rm_at.a9 hR; exact h9
                  obtain ⟨v_30, hv_30, hE⟩ := ob_some hE
                  obtain ⟨hi_v_30, hj_v_30, he_v_30⟩ := rd_some (by decide) hv_30
                  refine pw_iald hx hb hK hw 31 9 rfl 0 hc_29 rfl (x5_23 : Int32).toNatClampNeg hi_v_30 (by omega) (by omega) d_M_field_69 ?_
                  rw [← he_v_30]
                  refine lv_iload_n hx hb d_M_field_70 rfl (lv_at hl 2 rfl) ?_
                  obtain ⟨y_31, hy_31, hE⟩ := ob_some hE
                  refine pw_calli (va_runV (As := [.int v_30, .int x1_23]) (rest := []) ⟨hx, hb, hml, hown, hts0⟩ (k_M_below hR hy_31 _) (cwV 2 hts0 (wd_V wd_868 wd_865 wd_867 wd_24 wd_56) rfl rfl rfl (by decide +kernel) ⟨Nat.le_of_ble_eq_true rfl, Nat.le_of_ble_eq_true rfl⟩) (pw_preV hZ hw hA hK hz rfl hc_24 rfl) rfl rfl hl.1 rfl (lv_room (Nat.le_of_ble_eq_true rfl)) d_M_field_71 ⟨Nat.le_of_ble_eq_true rfl, Nat.le_of_ble_eq_true rfl⟩) hw hA (fun r_34 ad_32 C_33 H locs hp hw => ?_)
                  obtain ⟨⟨hae, hR, hf1⟩, hre⟩ := hp
                  rw [hre]
                  rw [hae] at hw
                  clear hae
                  have hfr : rm_fr C C_33 := fun x y h9 => (hf1 x y h9).trans (hfr x y h9)
                  clear hf1
                  refine lv_if_eq (tgt := 79) hx hb d_M_field_74 (by decide) (fun c_35 => ?_) (fun c_35 => ?_)
                  · rw [if_pos c_35] at hE
                    refine lv_iinc (v := x5_23 + 1) (lv' := [(5, .int (x5_23 + 1)), (0, .ref (ad 30 0)), (1, .int x1_23), (2, .int x2_23), (3, .int x3_23), (4, .int x4_23)]) hx hb d_M_field_79 hl (k := 0) rfl rfl (by decide) rfl (fun ls hl => ?_)
                    refine lv_goto (tgt := 43) hx hb d_M_field_82 (by decide) ?_
                    exact ih _ _ _ _ _ _ _ _ _ _ hE hR hfr hw (lv_sub hl [0, 1, 2, 3, 4, 5] rfl)
                  · rw [if_neg c_35] at hE
                    refine lv_iconst (v := (-1)) hx hb d_M_field_77 (by decide) ?_
                    obtain rfl := Option.some.inj hE
                    exact pw_iret hx hb hr hlocks hw ⟨⟨rfl, hR, hfr⟩, rfl⟩ d_M_field_78
          refine lp_23 _ (fun z5_23 z1_23 z2_23 z3_23 z4_23 r_36 C_37 H locs ls hE hR hfr hw hl => ?_) 60 _ _ _ _ _ _ _ _ _ _ hE hR hfr hw hl
          try dsimp only at hE
          refine lv_iconst (v := 0) hx hb d_M_field_85 (by decide) ?_
          refine lv_istore (lv' := [(5, .int 0), (0, .ref (ad 30 0)), (1, .int z1_23), (2, .int z2_23), (3, .int z3_23), (4, .int z4_23)]) hx hb d_M_field_86 hl (by decide) rfl (fun ls hl => ?_)
          have lp_38 : ∀ (K : Int32 → Int32 → Int32 → Int32 → Int32 → RS → Option (Int32 × RS)), (∀ (x5_38 : Int32) (x1_38 : Int32) (x2_38 : Int32) (x3_38 : Int32) (x4_38 : Int32) (r : RS) (C1 : pw_C) (H : Heap) (locs : List Loc) (ls : Array Slot), K x5_38 x1_38 x2_38 x3_38 x4_38 r = some res → rm_at ca ad C1 r → rm_fr C C1 → pw_H D cls9 A s.heap ad C ad C1 H locs → lv_has ls 6 [(5, .int x5_38), (0, .ref (ad 30 0)), (1, .int x1_38), (2, .int x2_38), (3, .int x3_38), (4, .int x4_38)] → W p l e ({ frames := 2, cells := 0, slots := 0, locals := 43 }) s m args below meth c H locs 0 0 (MQ below (pw_Q D cls9 ad C (pw_pi (fun v ad' C' => (ad' = ad ∧ rm_at ca ad C' res.2 ∧ rm_fr C C') ∧ v = res.1)) A) args s 0 0 A) (F0 m 122 ls [])) → ∀ (n : Nat) (x5_38 : Int32) (x1_38 : Int32) (x2_38 : Int32) (x3_38 : Int32) (x4_38 : Int32) (r : RS) (C1 : pw_C) (H : Heap) (locs : List Loc) (ls : Array Slot), m_field_88 K n x5_38 x1_38 x2_38 x3_38 x4_38 r = some res → rm_at ca ad C1 r → rm_fr C C1 → pw_H D cls9 A s.heap ad C ad C1 H locs → lv_has ls 6 [(5, .int x5_38), (0, .ref (ad 30 0)), (1, .int x1_38), (2, .int x2_38), (3, .int x3_38), (4, .int x4_38)] → W p l e ({ frames := 2, cells := 0, slots := 0, locals := 43 }) s m args below meth c H locs 0 0 (MQ below (pw_Q D cls9 ad C (pw_pi (fun v ad' C' => (ad' = ad ∧ rm_at ca ad C' res.2 ∧ rm_fr C C') ∧ v = res.1)) A) args s 0 0 A) (F0 m 88 ls []) := by
            intro K hKK n
            induction n with
            | zero => intro x5_38 x1_38 x2_38 x3_38 x4_38 r C1 H locs ls hE; rw [m_field_88] at hE; exact absurd hE (by simp)
            | succ n ih =>
              intro x5_38 x1_38 x2_38 x3_38 x4_38 r C1 H locs ls hE hR hfr hw hl
              rw [m_field_88] at hE
              refine lv_iload hx hb d_M_field_88 (lv_at hl 0 rfl) ?_
              refine lv_aload_n hx hb d_M_field_90 rfl (lv_at hl 1 rfl) ?_
              have hc_39 : C1 30 0 = some (.inr (4, [.ref (ad 31 0), .ref (ad 31 1), .ref (ad 31 2), .ref (ad 31 3), .ref (ad 31 4), .ref (ad 31 5), .ref (ad 31 6), .ref (ad 31 7), .ref (ad 31 8), .ref (ad 31 9), .ref (ad 31 10), .ref (ad 31 11), .ref (ad 31 12), .ref (ad 31 13), .ref (ad 31 14), .int r.objects, .ref (ad 31 15), .int r.length, .ref (ad 31 16), .int r.waits, .ref (ad 31 17), .int r.given, .ref (ad 31 18), .ref (ad 31 19), .ref (ad 31 20), .int r.left, .ref (ad 31 21), .ref (ad 31 22), .int r.oldLength, .int r.oldWaits, .int r.oldGiven])) := by have h9 := rm_at.o hR; exact h9
              refine pw_get (Cn := "GraphWriterModel") (T := F_M) (N := 31) hx hb hts in_M hown hK hw 30 0 rfl hc_39 rfl 4 (by decide) (hts _ wd_758) (fun _ h9 => h9) rfl d_M_field_91 ?_
              refine lv_iload_n hx hb d_M_field_94 rfl (lv_at hl 2 rfl) ?_
              have hc_40 : C1 31 4 = some (.inl (ca 0, 6, .inl r.fields)) := by have h9 := rm_at.a4 hR; exact h9
              obtain ⟨v_41, hv_41, hE⟩ := ob_some hE
              obtain ⟨hi_v_41, hj_v_41, he_v_41⟩ := rd_some (by decide) hv_41
              refine pw_iald hx hb hK hw 31 4 rfl 0 hc_40 rfl (x1_38 : Int32).toNatClampNeg hi_v_41 (by omega) (by omega) d_M_field_95 ?_
              rw [← he_v_41]
              refine lv_icmp_ge (tgt := 122) hx hb d_M_field_96 (by decide) (fun c_42 => ?_) (fun c_42 => ?_)
              · rw [if_pos c_42] at hE
                exact hKK _ _ _ _ _ _ _ _ _ _ hE hR hfr hw (lv_sub hl [0, 1, 2, 3, 4, 5] rfl)
              · rw [if_neg c_42] at hE
                refine lv_aload_n hx hb d_M_field_99 rfl (lv_at hl 1 rfl) ?_
                refine pw_get (Cn := "GraphWriterModel") (T := F_M) (N := 31) hx hb hts in_M hown hK hw 30 0 rfl hc_39 rfl 5 (by decide) (hts _ wd_759) (fun _ h9 => h9) rfl d_M_field_100 ?_
                refine lv_iconst (v := 4) hx hb d_M_field_103 (by decide) ?_
                refine lv_iload_n hx hb d_M_field_104 rfl (lv_at hl 2 rfl) ?_
                refine lv_imul hx hb d_M_field_105 ?_
                refine lv_iload hx hb d_M_field_106 (lv_at hl 0 rfl) ?_
                refine lv_iadd hx hb d_M_field_108 ?_
                have hc_43 : C1 31 5 = some (.inl (ca 0, 24, .inl r.fName)) := by have h9 := rm_at.a5 hR; exact h9
                obtain ⟨v_44, hv_44, hE⟩ := ob_some hE
                obtain ⟨hi_v_44, hj_v_44, he_v_44⟩ := rd_some (by decide) hv_44
                refine pw_iald hx hb hK hw 31 5 rfl 0 hc_43 rfl ((4 * x1_38) + x5_38 : Int32).toNatClampNeg hi_v_44 (by omega) (by omega) d_M_field_109 ?_
                rw [← he_v_44]
                refine lv_iload_n hx hb d_M_field_110 rfl (lv_at hl 3 rfl) ?_
                refine lv_icmp_ne (tgt := 116) hx hb d_M_field_111 (by decide) (fun c_45 => ?_) (fun c_45 => ?_)
                · rw [if_neg c_45] at hE
                  refine lv_iinc (v := x5_38 + 1) (lv' := [(5, .int (x5_38 + 1)), (0, .ref (ad 30 0)), (1, .int x1_38), (2, .int x2_38), (3, .int x3_38), (4, .int x4_38)]) hx hb d_M_field_116 hl (k := 0) rfl rfl (by decide) rfl (fun ls hl => ?_)
                  refine lv_goto (tgt := 88) hx hb d_M_field_119 (by decide) ?_
                  exact ih _ _ _ _ _ _ _ _ _ _ hE hR hfr hw (lv_sub hl [0, 1, 2, 3, 4, 5] rfl)
                · rw [if_pos c_45] at hE
                  refine lv_iconst (v := (-1)) hx hb d_M_field_114 (by decide) ?_
                  obtain rfl := Option.some.inj hE
                  exact pw_iret hx hb hr hlocks hw ⟨⟨rfl, hR, hfr⟩, rfl⟩ d_M_field_115
          refine lp_38 _ (fun z5_38 z1_38 z2_38 z3_38 z4_38 r_46 C_47 H locs ls hE hR hfr hw hl => ?_) 60 _ _ _ _ _ _ _ _ _ _ hE hR hfr hw hl
          try dsimp only at hE
          refine lv_aload_n hx hb d_M_field_122 rfl (lv_at hl 1 rfl) ?_
          have hc_48 : C_47 30 0 = some (.inr (4, [.ref (ad 31 0), .ref (ad 31 1), .ref (ad 31 2), .ref (ad 31 3), .ref (ad 31 4), .ref (ad 31 5), .ref (ad 31 6), .ref (ad 31 7), .ref (ad 31 8), .ref (ad 31 9), .ref (ad 31 10), .ref (ad 31 11), .ref (ad 31 12), .ref (ad 31 13), .ref (ad 31 14), .int r_46.objects, .ref (ad 31 15), .int r_46.length, .ref (ad 31 16), .int r_46.waits, .ref (ad 31 17), .int r_46.given, .ref (ad 31 18), .ref (ad 31 19), .ref (ad 31 20), .int r_46.left, .ref (ad 31 21), .ref (ad 31 22), .int r_46.oldLength, .int r_46.oldWaits, .int r_46.oldGiven])) := by have h9 := rm_at.o hR; exact h9
          refine pw_get (Cn := "GraphWriterModel") (T := F_M) (N := 31) hx hb hts in_M hown hK hw 30 0 rfl hc_48 rfl 4 (by decide) (hts _ wd_758) (fun _ h9 => h9) rfl d_M_field_123 ?_
          refine lv_iload_n hx hb d_M_field_126 rfl (lv_at hl 2 rfl) ?_
          have hc_49 : C_47 31 4 = some (.inl (ca 0, 6, .inl r_46.fields)) := by have h9 := rm_at.a4 hR; exact h9
          obtain ⟨v_50, hv_50, hE⟩ := ob_some hE
          obtain ⟨hi_v_50, hj_v_50, he_v_50⟩ := rd_some (by decide) hv_50
          refine pw_iald hx hb hK hw 31 4 rfl 0 hc_49 rfl (z1_38 : Int32).toNatClampNeg hi_v_50 (by omega) (by omega) d_M_field_127 ?_
          rw [← he_v_50]
          refine lv_iconst (v := 4) hx hb d_M_field_128 (by decide) ?_
          refine lv_icmp_ne (tgt := 134) hx hb d_M_field_129 (by decide) (fun c_51 => ?_) (fun c_51 => ?_)
          · rw [if_neg c_51] at hE
            refine lv_iconst (v := 4) hx hb d_M_field_134 (by decide) ?_
            refine lv_iload_n hx hb d_M_field_135 rfl (lv_at hl 2 rfl) ?_
            refine lv_imul hx hb d_M_field_136 ?_
            refine lv_aload_n hx hb d_M_field_137 rfl (lv_at hl 1 rfl) ?_
            refine pw_get (Cn := "GraphWriterModel") (T := F_M) (N := 31) hx hb hts in_M hown hK hw 30 0 rfl hc_48 rfl 4 (by decide) (hts _ wd_758) (fun _ h9 => h9) rfl d_M_field_138 ?_
            refine lv_iload_n hx hb d_M_field_141 rfl (lv_at hl 2 rfl) ?_
            obtain ⟨v_52, hv_52, hE⟩ := ob_some hE
            obtain ⟨hi_v_52, hj_v_52, he_v_52⟩ := rd_some (by decide) hv_52
            refine pw_iald hx hb hK hw 31 4 rfl 0 hc_49 rfl (z1_38 : Int32).toNatClampNeg hi_v_52 (by omega) (by omega) d_M_field_142 ?_
            rw [← he_v_52]
            refine lv_iadd hx hb d_M_field_143 ?_
            refine lv_istore (lv' := [(5, .int ((4 * z1_38) + v_52)), (0, .ref (ad 30 0)), (1, .int z1_38), (2, .int z2_38), (3, .int z3_38), (4, .int z4_38)]) hx hb d_M_field_144 hl (by decide) rfl (fun ls hl => ?_)
            refine lv_aload_n hx hb d_M_field_146 rfl (lv_at hl 1 rfl) ?_
            refine pw_get (Cn := "GraphWriterModel") (T := F_M) (N := 31) hx hb hts in_M hown hK hw 30 0 rfl hc_48 rfl 5 (by decide) (hts _ wd_759) (fun _ h9 => h9) rfl d_M_field_147 ?_
            refine lv_iload hx hb d_M_field_150 (lv_at hl 0 rfl) ?_
            refine lv_iload_n hx hb d_M_field_152 rfl (lv_at hl 3 rfl) ?_
            have hc_53 : C_47 31 5 = some (.inl (ca 0, 24, .inl r_46.fName)) := by have h9 := rm_at.a5 hR; exact h9
            obtain ⟨w_54, hw_54, hE⟩ := ob_some hE
            obtain ⟨hi_w_54, hj_w_54, he_w_54⟩ := wr_some (by decide) hw_54
            refine pw_iast hx hb hK hw 31 5 rfl 0 hc_53 rfl (by decide) ((4 * z1_38) + v_52 : Int32).toNatClampNeg hi_w_54 (by omega) (by omega) d_M_field_153 (fun H locs hw => ?_)
            rw [← he_w_54] at hw
            have hw : pw_H D cls9 A s.heap ad C ad (pw_up C_47 31 5 (some (.inl (ca 0, 24, .inl w_54)))) H _ := hw
            generalize hC_55 : pw_up C_47 31 5 (some (.inl (ca 0, 24, .inl w_54))) = C_55 at hw
            have hR : rm_at ca ad C_55 (RS.s_fName r_46 w_54) := by rw [← hC_55]; exact rm_at.s5 hR _
            have hfr : rm_fr C C_55 := fun x y h9 => by rw [← hC_55]; exact (pw_up_ne _ _ (by omega)).trans (hfr x y h9)
            refine lv_aload_n hx hb d_M_field_154 rfl (lv_at hl 1 rfl) ?_
            have hc_56 : C_55 30 0 = some (.inr (4, [.ref (ad 31 0), .ref (ad 31 1), .ref (ad 31 2), .ref (ad 31 3), .ref (ad 31 4), .ref (ad 31 5), .ref (ad 31 6), .ref (ad 31 7), .ref (ad 31 8), .ref (ad 31 9), .ref (ad 31 10), .ref (ad 31 11), .ref (ad 31 12), .ref (ad 31 13), .ref (ad 31 14), .int r_46.objects, .ref (ad 31 15), .int r_46.length, .ref (ad 31 16), .int r_46.waits, .ref (ad 31 17), .int r_46.given, .ref (ad 31 18), .ref (ad 31 19), .ref (ad 31 20), .int r_46.left, .ref (ad 31 21), .ref (ad 31 22), .int r_46.oldLength, .int r_46.oldWaits, .int r_46.oldGiven])) := by have h9 := rm_at.o hR; exact h9
            refine pw_get (Cn := "GraphWriterModel") (T := F_M) (N := 31) hx hb hts in_M hown hK hw 30 0 rfl hc_56 rfl 6 (by decide) (hts _ wd_760) (fun _ h9 => h9) rfl d_M_field_155 ?_
            refine lv_iload hx hb d_M_field_158 (lv_at hl 0 rfl) ?_
            refine lv_iload_n hx hb d_M_field_160 rfl (lv_at hl 4 rfl) ?_
            have hc_57 : C_55 31 6 = some (.inl (ca 0, 24, .inl r_46.fType)) := by have h9 := rm_at.a6 hR; exact h9
            obtain ⟨w_58, hw_58, hE⟩ := ob_some hE
            obtain ⟨hi_w_58, hj_w_58, he_w_58⟩ := wr_some (by decide) hw_58
            refine pw_iast hx hb hK hw 31 6 rfl 0 hc_57 rfl (by decide) ((4 * z1_38) + v_52 : Int32).toNatClampNeg hi_w_58 (by omega) (by omega) d_M_field_161 (fun H locs hw => ?_)
            rw [← he_w_58] at hw
            have hw : pw_H D cls9 A s.heap ad C ad (pw_up C_55 31 6 (some (.inl (ca 0, 24, .inl w_58)))) H _ := hw
            generalize hC_59 : pw_up C_55 31 6 (some (.inl (ca 0, 24, .inl w_58))) = C_59 at hw
            have hR : rm_at ca ad C_59 (RS.s_fType (RS.s_fName r_46 w_54) w_58) := by rw [← hC_59]; exact rm_at.s6 hR _
            have hfr : rm_fr C C_59 := fun x y h9 => by rw [← hC_59]; exact (pw_up_ne _ _ (by omega)).trans (hfr x y h9)
            refine lv_aload_n hx hb d_M_field_162 rfl (lv_at hl 1 rfl) ?_
            have hc_60 : C_59 30 0 = some (.inr (4, [.ref (ad 31 0), .ref (ad 31 1), .ref (ad 31 2), .ref (ad 31 3), .ref (ad 31 4), .ref (ad 31 5), .ref (ad 31 6), .ref (ad 31 7), .ref (ad 31 8), .ref (ad 31 9), .ref (ad 31 10), .ref (ad 31 11), .ref (ad 31 12), .ref (ad 31 13), .ref (ad 31 14), .int r_46.objects, .ref (ad 31 15), .int r_46.length, .ref (ad 31 16), .int r_46.waits, .ref (ad 31 17), .int r_46.given, .ref (ad 31 18), .ref (ad 31 19), .ref (ad 31 20), .int r_46.left, .ref (ad 31 21), .ref (ad 31 22), .int r_46.oldLength, .int r_46.oldWaits, .int r_46.oldGiven])) := by have h9 := rm_at.o hR; exact h9
            refine pw_get (Cn := "GraphWriterModel") (T := F_M) (N := 31) hx hb hts in_M hown hK hw 30 0 rfl hc_60 rfl 7 (by decide) (hts _ wd_761) (fun _ h9 => h9) rfl d_M_field_163 ?_
            refine lv_iload hx hb d_M_field_166 (lv_at hl 0 rfl) ?_
            refine lv_iload hx hb d_M_field_168 (lv_at hl 5 rfl) ?_
            have hc_61 : C_59 31 7 = some (.inl (ca 3, 24, .inl r_46.fSkip)) := by have h9 := rm_at.a7 hR; exact h9
            obtain ⟨w_62, hw_62, hE⟩ := ob_some hE
            obtain ⟨hi_w_62, hj_w_62, he_w_62⟩ := wrz_some (by decide) hw_62
            refine pw_zast hx hb hK hw 31 7 rfl 3 hc_61 rfl (by decide) ((4 * z1_38) + v_52 : Int32).toNatClampNeg hi_w_62 (by omega) (by omega) d_M_field_170 (fun H locs hw => ?_)
            rw [← he_w_62] at hw
            have hw : pw_H D cls9 A s.heap ad C ad (pw_up C_59 31 7 (some (.inl (ca 3, 24, .inl w_62)))) H _ := hw
            generalize hC_63 : pw_up C_59 31 7 (some (.inl (ca 3, 24, .inl w_62))) = C_63 at hw
            have hR : rm_at ca ad C_63 (RS.s_fSkip (RS.s_fType (RS.s_fName r_46 w_54) w_58) w_62) := by rw [← hC_63]; exact rm_at.s7 hR _
            have hfr : rm_fr C C_63 := fun x y h9 => by rw [← hC_63]; exact (pw_up_ne _ _ (by omega)).trans (hfr x y h9)
            refine lv_aload_n hx hb d_M_field_171 rfl (lv_at hl 1 rfl) ?_
            have hc_64 : C_63 30 0 = some (.inr (4, [.ref (ad 31 0), .ref (ad 31 1), .ref (ad 31 2), .ref (ad 31 3), .ref (ad 31 4), .ref (ad 31 5), .ref (ad 31 6), .ref (ad 31 7), .ref (ad 31 8), .ref (ad 31 9), .ref (ad 31 10), .ref (ad 31 11), .ref (ad 31 12), .ref (ad 31 13), .ref (ad 31 14), .int r_46.objects, .ref (ad 31 15), .int r_46.length, .ref (ad 31 16), .int r_46.waits, .ref (ad 31 17), .int r_46.given, .ref (ad 31 18), .ref (ad 31 19), .ref (ad 31 20), .int r_46.left, .ref (ad 31 21), .ref (ad 31 22), .int r_46.oldLength, .int r_46.oldWaits, .int r_46.oldGiven])) := by have h9 := rm_at.o hR; exact h9
            refine pw_get (Cn := "GraphWriterModel") (T := F_M) (N := 31) hx hb hts in_M hown hK hw 30 0 rfl hc_64 rfl 4 (by decide) (hts _ wd_758) (fun _ h9 => h9) rfl d_M_field_172 ?_
            refine lv_iload_n hx hb d_M_field_175 rfl (lv_at hl 2 rfl) ?_
            refine lv_dup2_11 hx hb d_M_field_176 rfl rfl ?_
            have hc_65 : C_63 31 4 = some (.inl (ca 0, 6, .inl r_46.fields)) := by have h9 := rm_at.a4 hR; exact h9
            obtain ⟨v_66, hv_66, hE⟩ := ob_some hE
            obtain ⟨hi_v_66, hj_v_66, he_v_66⟩ := rd_some (by decide) hv_66
            refine pw_iald hx hb hK hw 31 4 rfl 0 hc_65 rfl (z1_38 : Int32).toNatClampNeg hi_v_66 (by omega) (by omega) d_M_field_177 ?_
            rw [← he_v_66]
            refine lv_iconst (v := 1) hx hb d_M_field_178 (by decide) ?_
            refine lv_iadd hx hb d_M_field_179 ?_
            obtain ⟨w_67, hw_67, hE⟩ := ob_some hE
            obtain ⟨hi_w_67, hj_w_67, he_w_67⟩ := wr_some (by decide) hw_67
            refine pw_iast hx hb hK hw 31 4 rfl 0 hc_65 rfl (by decide) (z1_38 : Int32).toNatClampNeg hi_w_67 (by omega) (by omega) d_M_field_180 (fun H locs hw => ?_)
            rw [← he_w_67] at hw
            have hw : pw_H D cls9 A s.heap ad C ad (pw_up C_63 31 4 (some (.inl (ca 0, 6, .inl w_67)))) H _ := hw
            generalize hC_68 : pw_up C_63 31 4 (some (.inl (ca 0, 6, .inl w_67))) = C_68 at hw
            have hR : rm_at ca ad C_68 (RS.s_fields (RS.s_fSkip (RS.s_fType (RS.s_fName r_46 w_54) w_58) w_62) w_67) := by rw [← hC_68]; exact rm_at.s4 hR _
            have hfr : rm_fr C C_68 := fun x y h9 => by rw [← hC_68]; exact (pw_up_ne _ _ (by omega)).trans (hfr x y h9)
            refine lv_aload_n hx hb d_M_field_181 rfl (lv_at hl 1 rfl) ?_
            have hc_69 : C_68 30 0 = some (.inr (4, [.ref (ad 31 0), .ref (ad 31 1), .ref (ad 31 2), .ref (ad 31 3), .ref (ad 31 4), .ref (ad 31 5), .ref (ad 31 6), .ref (ad 31 7), .ref (ad 31 8), .ref (ad 31 9), .ref (ad 31 10), .ref (ad 31 11), .ref (ad 31 12), .ref (ad 31 13), .ref (ad 31 14), .int r_46.objects, .ref (ad 31 15), .int r_46.length, .ref (ad 31 16), .int r_46.waits, .ref (ad 31 17), .int r_46.given, .ref (ad 31 18), .ref (ad 31 19), .ref (ad 31 20), .int r_46.left, .ref (ad 31 21), .ref (ad 31 22), .int r_46.oldLength, .int r_46.oldWaits, .int r_46.oldGiven])) := by have h9 := rm_at.o hR; exact h9
            refine pw_get (Cn := "GraphWriterModel") (T := F_M) (N := 31) hx hb hts in_M hown hK hw 30 0 rfl hc_69 rfl 4 (by decide) (hts _ wd_758) (fun _ h9 => h9) rfl d_M_field_182 ?_
            refine lv_iload_n hx hb d_M_field_185 rfl (lv_at hl 2 rfl) ?_
            have hc_70 : C_68 31 4 = some (.inl (ca 0, 6, .inl w_67)) := by have h9 := rm_at.a4 hR; exact h9
            obtain ⟨v_71, hv_71, hE⟩ := ob_some hE
            obtain ⟨hi_v_71, hj_v_71, he_v_71⟩ := rd_some (by decide) hv_71
            refine pw_iald hx hb hK hw 31 4 rfl 0 hc_70 rfl (z1_38 : Int32).toNatClampNeg hi_v_71 (by omega) (by omega) d_M_field_186 ?_
            rw [← he_v_71]
            obtain rfl := Option.some.inj hE
            exact pw_iret hx hb hr hlocks hw ⟨⟨rfl, hR, hfr⟩, rfl⟩ d_M_field_187
          · rw [if_pos c_51] at hE
            refine lv_iconst (v := (-1)) hx hb d_M_field_132 (by decide) ?_
            obtain rfl := Option.some.inj hE
            exact pw_iret hx hb hr hlocks hw ⟨⟨rfl, hR, hfr⟩, rfl⟩ d_M_field_133
        · rw [if_pos c_22] at hE
          refine lv_iconst (v := (-1)) hx hb d_M_field_38 (by decide) ?_
          obtain rfl := Option.some.inj hE
          exact pw_iret hx hb hr hlocks hw ⟨⟨rfl, hR, hfr⟩, rfl⟩ d_M_field_39
def m_begin_54 (K : Int32 → Int32 → Int32 → RS → Option (Int32 × RS)) : Nat → Int32 → Int32 → Int32 → RS → Option (Int32 × RS)
  | 0, _, _, _, _ => none
  | n + 1, x3_18, x1_18, x2_18, r => if (24 : Int32) ≤ x3_18 then (K x3_18 x1_18 x2_18 r) else (Option.bind (wrl r.value 480 ((24 * r.objects) + x3_18) 0) (fun w_22 => m_begin_54 K n (x3_18 + 1) x1_18 x2_18 (RS.s_value r w_22)))
def m_begin (l1 : Int32) (l2 : Int32) (r : RS) : Option (Int32 × RS) := if (r.objects : Int32) = 12 then (some ((-2), r)) else (Option.bind (wr r.sort 20 r.objects l1) (fun w_4 => Option.bind (wr r.size 20 r.objects l2) (fun w_8 => Option.bind (wr r.standIn 20 r.objects (-1)) (fun w_12 => Option.bind (wr r.extras 20 r.objects 0) (fun w_16 => m_begin_54 (fun z3_18 z1_18 z2_18 r_24 => some ((r_24.objects + 1) - 1, (RS.s_objects r_24 (r_24.objects + 1)))) 60 0 l1 l2 (RS.s_extras (RS.s_standIn (RS.s_size (RS.s_sort r w_4) w_8) w_12) w_16))))))
set_option maxHeartbeats 4000000 in
set_option maxRecDepth 100000 in
theorem k_M_begin {l : Launch} {D : va_G} {ca : Nat → ClassId} {kS : Nat → Nat} {kT : Nat} {ad : pw_A} {C : pw_C} {r : RS} (hR : rm_at ca ad C r) {l1 : Int32} {l2 : Int32} {res : (Int32 × RS)} (hE : m_begin l1 l2 r = some res) : gc_Con l y_M_begin c_M_begin ({ frames := 0, cells := 0, slots := 0, locals := 0 }) D ca (z9_Z kS kT) [.ref (ad 30 0), .int l1, .int l2] ad C (pw_pi (fun v ad' C' => (ad' = ad ∧ rm_at ca ad C' res.2 ∧ rm_fr C C') ∧ v = res.1)) 0 0 := by
  have hZ := z9_ok kS kT
  refine pw_ofW (cc := b_M_begin) (maxL := 4) (ret := (some FieldType.int)) (by decide) rfl (Nat.le_of_ble_eq_true rfl) ?_
  intro p e s m args below meth c A ls hB hA hw hK hz hl
  obtain ⟨hx, hb, hr, hml, hts0, hlocks, hown, hnm⟩ := hB
  have hts := wd_hts hts0
  have hown : s.vm.findClass "GraphWriterModel" = some m.cls := hown
  have hl : lv_has ls 4 [(0, .ref (ad 30 0)), (1, .int l1), (2, .int l2)] := hl
  have hfr : rm_fr C C := fun _ _ _ => rfl
  unfold m_begin at hE
  refine lv_aload_n hx hb d_M_begin_0 rfl (lv_at hl 0 rfl) ?_
  have hc_1 : C 30 0 = some (.inr (4, [.ref (ad 31 0), .ref (ad 31 1), .ref (ad 31 2), .ref (ad 31 3), .ref (ad 31 4), .ref (ad 31 5), .ref (ad 31 6), .ref (ad 31 7), .ref (ad 31 8), .ref (ad 31 9), .ref (ad 31 10), .ref (ad 31 11), .ref (ad 31 12), .ref (ad 31 13), .ref (ad 31 14), .int r.objects, .ref (ad 31 15), .int r.length, .ref (ad 31 16), .int r.waits, .ref (ad 31 17), .int r.given, .ref (ad 31 18), .ref (ad 31 19), .ref (ad 31 20), .int r.left, .ref (ad 31 21), .ref (ad 31 22), .int r.oldLength, .int r.oldWaits, .int r.oldGiven])) := by have h9 := rm_at.o hR; exact h9
  refine pw_get (Cn := "GraphWriterModel") (T := F_M) (N := 31) hx hb hts in_M hown hK hw 30 0 rfl hc_1 rfl 15 (by decide) (hts _ wd_769) (fun _ h9 => h9) rfl d_M_begin_1 ?_
  refine lv_bipush (v := 12) hx hb d_M_begin_4 (by decide) ?_
  refine lv_icmp_ne (tgt := 12) hx hb d_M_begin_6 (by decide) (fun c_2 => ?_) (fun c_2 => ?_)
  · rw [if_neg c_2] at hE
    refine lv_aload_n hx hb d_M_begin_12 rfl (lv_at hl 0 rfl) ?_
    refine pw_get (Cn := "GraphWriterModel") (T := F_M) (N := 31) hx hb hts in_M hown hK hw 30 0 rfl hc_1 rfl 8 (by decide) (hts _ wd_762) (fun _ h9 => h9) rfl d_M_begin_13 ?_
    refine lv_aload_n hx hb d_M_begin_16 rfl (lv_at hl 0 rfl) ?_
    refine pw_get (Cn := "GraphWriterModel") (T := F_M) (N := 31) hx hb hts in_M hown hK hw 30 0 rfl hc_1 rfl 15 (by decide) (hts _ wd_769) (fun _ h9 => h9) rfl d_M_begin_17 ?_
    refine lv_iload_n hx hb d_M_begin_20 rfl (lv_at hl 1 rfl) ?_
    have hc_3 : C 31 8 = some (.inl (ca 0, 20, .inl r.sort)) := by have h9 := rm_at.a8 hR; exact h9
    obtain ⟨w_4, hw_4, hE⟩ := ob_some hE
    obtain ⟨hi_w_4, hj_w_4, he_w_4⟩ := wr_some (by decide) hw_4
    refine pw_iast hx hb hK hw 31 8 rfl 0 hc_3 rfl (by decide) (r.objects : Int32).toNatClampNeg hi_w_4 (by omega) (by omega) d_M_begin_21 (fun H locs hw => ?_)
    rw [← he_w_4] at hw
    have hw : pw_H D cls9 A s.heap ad C ad (pw_up C 31 8 (some (.inl (ca 0, 20, .inl w_4)))) H _ := hw
    generalize hC_5 : pw_up C 31 8 (some (.inl (ca 0, 20, .inl w_4))) = C_5 at hw
    have hR : rm_at ca ad C_5 (RS.s_sort r w_4) := by rw [← hC_5]; exact rm_at.s8 hR _
    have hfr : rm_fr C C_5 := fun x y h9 => by rw [← hC_5]; exact (pw_up_ne _ _ (by omega)).trans (hfr x y h9)
    refine lv_aload_n hx hb d_M_begin_22 rfl (lv_at hl 0 rfl) ?_
    have hc_6 : C_5 30 0 = some (.inr (4, [.ref (ad 31 0), .ref (ad 31 1), .ref (ad 31 2), .ref (ad 31 3), .ref (ad 31 4), .ref (ad 31 5), .ref (ad 31 6), .ref (ad 31 7), .ref (ad 31 8), .ref (ad 31 9), .ref (ad 31 10), .ref (ad 31 11), .ref (ad 31 12), .ref (ad 31 13), .ref (ad 31 14), .int r.objects, .ref (ad 31 15), .int r.length, .ref (ad 31 16), .int r.waits, .ref (ad 31 17), .int r.given, .ref (ad 31 18), .ref (ad 31 19), .ref (ad 31 20), .int r.left, .ref (ad 31 21), .ref (ad 31 22), .int r.oldLength, .int r.oldWaits, .int r.oldGiven])) := by have h9 := rm_at.o hR; exact h9
    refine pw_get (Cn := "GraphWriterModel") (T := F_M) (N := 31) hx hb hts in_M hown hK hw 30 0 rfl hc_6 rfl 11 (by decide) (hts _ wd_765) (fun _ h9 => h9) rfl d_M_begin_23 ?_
    refine lv_aload_n hx hb d_M_begin_26 rfl (lv_at hl 0 rfl) ?_
    refine pw_get (Cn := "GraphWriterModel") (T := F_M) (N := 31) hx hb hts in_M hown hK hw 30 0 rfl hc_6 rfl 15 (by decide) (hts _ wd_769) (fun _ h9 => h9) rfl d_M_begin_27 ?_
    refine lv_iload_n hx hb d_M_begin_30 rfl (lv_at hl 2 rfl) ?_
    have hc_7 : C_5 31 11 = some (.inl (ca 0, 20, .inl r.size)) := by have h9 := rm_at.a11 hR; exact h9
    obtain ⟨w_8, hw_8, hE⟩ := ob_some hE
    obtain ⟨hi_w_8, hj_w_8, he_w_8⟩ := wr_some (by decide) hw_8
    refine pw_iast hx hb hK hw 31 11 rfl 0 hc_7 rfl (by decide) (r.objects : Int32).toNatClampNeg hi_w_8 (by omega) (by omega) d_M_begin_31 (fun H locs hw => ?_)
    rw [← he_w_8] at hw
    have hw : pw_H D cls9 A s.heap ad C ad (pw_up C_5 31 11 (some (.inl (ca 0, 20, .inl w_8)))) H _ := hw
    generalize hC_9 : pw_up C_5 31 11 (some (.inl (ca 0, 20, .inl w_8))) = C_9 at hw
    have hR : rm_at ca ad C_9 (RS.s_size (RS.s_sort r w_4) w_8) := by rw [← hC_9]; exact rm_at.s11 hR _
    have hfr : rm_fr C C_9 := fun x y h9 => by rw [← hC_9]; exact (pw_up_ne _ _ (by omega)).trans (hfr x y h9)
    refine lv_aload_n hx hb d_M_begin_32 rfl (lv_at hl 0 rfl) ?_
    have hc_10 : C_9 30 0 = some (.inr (4, [.ref (ad 31 0), .ref (ad 31 1), .ref (ad 31 2), .ref (ad 31 3), .ref (ad 31 4), .ref (ad 31 5), .ref (ad 31 6), .ref (ad 31 7), .ref (ad 31 8), .ref (ad 31 9), .ref (ad 31 10), .ref (ad 31 11), .ref (ad 31 12), .ref (ad 31 13), .ref (ad 31 14), .int r.objects, .ref (ad 31 15), .int r.length, .ref (ad 31 16), .int r.waits, .ref (ad 31 17), .int r.given, .ref (ad 31 18), .ref (ad 31 19), .ref (ad 31 20), .int r.left, .ref (ad 31 21), .ref (ad 31 22), .int r.oldLength, .int r.oldWaits, .int r.oldGiven])) := by have h9 := rm_at.o hR; exact h9
    refine pw_get (Cn := "GraphWriterModel") (T := F_M) (N := 31) hx hb hts in_M hown hK hw 30 0 rfl hc_10 rfl 13 (by decide) (hts _ wd_767) (fun _ h9 => h9) rfl d_M_begin_33 ?_
    refine lv_aload_n hx hb d_M_begin_36 rfl (lv_at hl 0 rfl) ?_
    refine pw_get (Cn := "GraphWriterModel") (T := F_M) (N := 31) hx hb hts in_M hown hK hw 30 0 rfl hc_10 rfl 15 (by decide) (hts _ wd_769) (fun _ h9 => h9) rfl d_M_begin_37 ?_
    refine lv_iconst (v := (-1)) hx hb d_M_begin_40 (by decide) ?_
    have hc_11 : C_9 31 13 = some (.inl (ca 0, 20, .inl r.standIn)) := by have h9 := rm_at.a13 hR; exact h9
    obtain ⟨w_12, hw_12, hE⟩ := ob_some hE
    obtain ⟨hi_w_12, hj_w_12, he_w_12⟩ := wr_some (by decide) hw_12
    refine pw_iast hx hb hK hw 31 13 rfl 0 hc_11 rfl (by decide) (r.objects : Int32).toNatClampNeg hi_w_12 (by omega) (by omega) d_M_begin_41 (fun H locs hw => ?_)
    rw [← he_w_12] at hw
    have hw : pw_H D cls9 A s.heap ad C ad (pw_up C_9 31 13 (some (.inl (ca 0, 20, .inl w_12)))) H _ := hw
    generalize hC_13 : pw_up C_9 31 13 (some (.inl (ca 0, 20, .inl w_12))) = C_13 at hw
    have hR : rm_at ca ad C_13 (RS.s_standIn (RS.s_size (RS.s_sort r w_4) w_8) w_12) := by rw [← hC_13]; exact rm_at.s13 hR _
    have hfr : rm_fr C C_13 := fun x y h9 => by rw [← hC_13]; exact (pw_up_ne _ _ (by omega)).trans (hfr x y h9)
    refine lv_aload_n hx hb d_M_begin_42 rfl (lv_at hl 0 rfl) ?_
    have hc_14 : C_13 30 0 = some (.inr (4, [.ref (ad 31 0), .ref (ad 31 1), .ref (ad 31 2), .ref (ad 31 3), .ref (ad 31 4), .ref (ad 31 5), .ref (ad 31 6), .ref (ad 31 7), .ref (ad 31 8), .ref (ad 31 9), .ref (ad 31 10), .ref (ad 31 11), .ref (ad 31 12), .ref (ad 31 13), .ref (ad 31 14), .int r.objects, .ref (ad 31 15), .int r.length, .ref (ad 31 16), .int r.waits, .ref (ad 31 17), .int r.given, .ref (ad 31 18), .ref (ad 31 19), .ref (ad 31 20), .int r.left, .ref (ad 31 21), .ref (ad 31 22), .int r.oldLength, .int r.oldWaits, .int r.oldGiven])) := by have h9 := rm_at.o hR; exact h9
    refine pw_get (Cn := "GraphWriterModel") (T := F_M) (N := 31) hx hb hts in_M hown hK hw 30 0 rfl hc_14 rfl 14 (by decide) (hts _ wd_768) (fun _ h9 => h9) rfl d_M_begin_43 ?_
    refine lv_aload_n hx hb d_M_begin_46 rfl (lv_at hl 0 rfl) ?_
    refine pw_get (Cn := "GraphWriterModel") (T := F_M) (N := 31) hx hb hts in_M hown hK hw 30 0 rfl hc_14 rfl 15 (by decide) (hts _ wd_769) (fun _ h9 => h9) rfl d_M_begin_47 ?_
    refine lv_iconst (v := 0) hx hb d_M_begin_50 (by decide) ?_
    have hc_15 : C_13 31 14 = some (.inl (ca 0, 20, .inl r.extras)) := by have h9 := rm_at.a14 hR; exact h9
    obtain ⟨w_16, hw_16, hE⟩ := ob_some hE
    obtain ⟨hi_w_16, hj_w_16, he_w_16⟩ := wr_some (by decide) hw_16
    refine pw_iast hx hb hK hw 31 14 rfl 0 hc_15 rfl (by decide) (r.objects : Int32).toNatClampNeg hi_w_16 (by omega) (by omega) d_M_begin_51 (fun H locs hw => ?_)
    rw [← he_w_16] at hw
    have hw : pw_H D cls9 A s.heap ad C ad (pw_up C_13 31 14 (some (.inl (ca 0, 20, .inl w_16)))) H _ := hw
    generalize hC_17 : pw_up C_13 31 14 (some (.inl (ca 0, 20, .inl w_16))) = C_17 at hw
    have hR : rm_at ca ad C_17 (RS.s_extras (RS.s_standIn (RS.s_size (RS.s_sort r w_4) w_8) w_12) w_16) := by rw [← hC_17]; exact rm_at.s14 hR _
    have hfr : rm_fr C C_17 := fun x y h9 => by rw [← hC_17]; exact (pw_up_ne _ _ (by omega)).trans (hfr x y h9)
    refine lv_iconst (v := 0) hx hb d_M_begin_52 (by decide) ?_
    refine lv_istore_n (lv' := [(3, .int 0), (0, .ref (ad 30 0)), (1, .int l1), (2, .int l2)]) hx hb d_M_begin_53 rfl hl (by decide) rfl (fun ls hl => ?_)
    have lp_18 : ∀ (K : Int32 → Int32 → Int32 → RS → Option (Int32 × RS)), (∀ (x3_18 : Int32) (x1_18 : Int32) (x2_18 : Int32) (r : RS) (C1 : pw_C) (H : Heap) (locs : List Loc) (ls : Array Slot), K x3_18 x1_18 x2_18 r = some res → rm_at ca ad C1 r → rm_fr C C1 → pw_H D cls9 A s.heap ad C ad C1 H locs → lv_has ls 4 [(3, .int x3_18), (0, .ref (ad 30 0)), (1, .int x1_18), (2, .int x2_18)] → W p l e ({ frames := 0, cells := 0, slots := 0, locals := 0 }) s m args below meth c H locs 0 0 (MQ below (pw_Q D cls9 ad C (pw_pi (fun v ad' C' => (ad' = ad ∧ rm_at ca ad C' res.2 ∧ rm_fr C C') ∧ v = res.1)) A) args s 0 0 A) (F0 m 81 ls [])) → ∀ (n : Nat) (x3_18 : Int32) (x1_18 : Int32) (x2_18 : Int32) (r : RS) (C1 : pw_C) (H : Heap) (locs : List Loc) (ls : Array Slot), m_begin_54 K n x3_18 x1_18 x2_18 r = some res → rm_at ca ad C1 r → rm_fr C C1 → pw_H D cls9 A s.heap ad C ad C1 H locs → lv_has ls 4 [(3, .int x3_18), (0, .ref (ad 30 0)), (1, .int x1_18), (2, .int x2_18)] → W p l e ({ frames := 0, cells := 0, slots := 0, locals := 0 }) s m args below meth c H locs 0 0 (MQ below (pw_Q D cls9 ad C (pw_pi (fun v ad' C' => (ad' = ad ∧ rm_at ca ad C' res.2 ∧ rm_fr C C') ∧ v = res.1)) A) args s 0 0 A) (F0 m 54 ls []) := by
      intro K hKK n
      induction n with
      | zero => intro x3_18 x1_18 x2_18 r C1 H locs ls hE; rw [m_begin_54] at hE; exact absurd hE (by simp)
      | succ n ih =>
        intro x3_18 x1_18 x2_18 r C1 H locs ls hE hR hfr hw hl
        rw [m_begin_54] at hE
        refine lv_iload_n hx hb d_M_begin_54 rfl (lv_at hl 0 rfl) ?_
        refine lv_bipush (v := 24) hx hb d_M_begin_55 (by decide) ?_
        refine lv_icmp_ge (tgt := 81) hx hb d_M_begin_57 (by decide) (fun c_19 => ?_) (fun c_19 => ?_)
        · rw [if_pos c_19] at hE
          exact hKK _ _ _ _ _ _ _ _ hE hR hfr hw (lv_sub hl [0, 1, 2, 3] rfl)
        · rw [if_neg c_19] at hE
          refine lv_aload_n hx hb d_M_begin_60 rfl (lv_at hl 1 rfl) ?_
          have hc_20 : C1 30 0 = some (.inr (4, [.ref (ad 31 0), .ref (ad 31 1), .ref (ad 31 2), .ref (ad 31 3), .ref (ad 31 4), .ref (ad 31 5), .ref (ad 31 6), .ref (ad 31 7), .ref (ad 31 8), .ref (ad 31 9), .ref (ad 31 10), .ref (ad 31 11), .ref (ad 31 12), .ref (ad 31 13), .ref (ad 31 14), .int r.objects, .ref (ad 31 15), .int r.length, .ref (ad 31 16), .int r.waits, .ref (ad 31 17), .int r.given, .ref (ad 31 18), .ref (ad 31 19), .ref (ad 31 20), .int r.left, .ref (ad 31 21), .ref (ad 31 22), .int r.oldLength, .int r.oldWaits, .int r.oldGiven])) := by have h9 := rm_at.o hR; exact h9
          refine pw_get (Cn := "GraphWriterModel") (T := F_M) (N := 31) hx hb hts in_M hown hK hw 30 0 rfl hc_20 rfl 12 (by decide) (hts _ wd_766) (fun _ h9 => h9) rfl d_M_begin_61 ?_
          refine lv_bipush (v := 24) hx hb d_M_begin_64 (by decide) ?_
          refine lv_aload_n hx hb d_M_begin_66 rfl (lv_at hl 1 rfl) ?_
          refine pw_get (Cn := "GraphWriterModel") (T := F_M) (N := 31) hx hb hts in_M hown hK hw 30 0 rfl hc_20 rfl 15 (by decide) (hts _ wd_769) (fun _ h9 => h9) rfl d_M_begin_67 ?_
          refine lv_imul hx hb d_M_begin_70 ?_
          refine lv_iload_n hx hb d_M_begin_71 rfl (lv_at hl 0 rfl) ?_
          refine lv_iadd hx hb d_M_begin_72 ?_
          refine lv_lconst (v := 0) hx hb d_M_begin_73 (by decide) ?_
          have hc_21 : C1 31 12 = some (.inl (ca 1, 480, .inr (.inl r.value))) := by have h9 := rm_at.a12 hR; exact h9
          obtain ⟨w_22, hw_22, hE⟩ := ob_some hE
          obtain ⟨hi_w_22, hj_w_22, he_w_22⟩ := wrl_some (by decide) hw_22
          refine pw_last hx hb hK hw 31 12 rfl 1 hc_21 rfl (by decide) ((24 * r.objects) + x3_18 : Int32).toNatClampNeg hi_w_22 (by omega) (by omega) d_M_begin_74 (fun H locs hw => ?_)
          rw [← he_w_22] at hw
          have hw : pw_H D cls9 A s.heap ad C ad (pw_up C1 31 12 (some (.inl (ca 1, 480, .inr (.inl w_22))))) H _ := hw
          generalize hC_23 : pw_up C1 31 12 (some (.inl (ca 1, 480, .inr (.inl w_22)))) = C_23 at hw
          have hR : rm_at ca ad C_23 (RS.s_value r w_22) := by rw [← hC_23]; exact rm_at.s12 hR _
          have hfr : rm_fr C C_23 := fun x y h9 => by rw [← hC_23]; exact (pw_up_ne _ _ (by omega)).trans (hfr x y h9)
          refine lv_iinc (v := x3_18 + 1) (lv' := [(3, .int (x3_18 + 1)), (0, .ref (ad 30 0)), (1, .int x1_18), (2, .int x2_18)]) hx hb d_M_begin_75 hl (k := 0) rfl rfl (by decide) rfl (fun ls hl => ?_)
          refine lv_goto (tgt := 54) hx hb d_M_begin_78 (by decide) ?_
          exact ih _ _ _ _ _ _ _ _ hE hR hfr hw (lv_sub hl [0, 1, 2, 3] rfl)
    refine lp_18 _ (fun z3_18 z1_18 z2_18 r_24 C_25 H locs ls hE hR hfr hw hl => ?_) 60 _ _ _ _ _ _ _ _ hE hR hfr hw hl
    try dsimp only at hE
    refine lv_aload_n hx hb d_M_begin_81 rfl (lv_at hl 1 rfl) ?_
    refine lv_dup hx hb d_M_begin_82 rfl ?_
    have hc_26 : C_25 30 0 = some (.inr (4, [.ref (ad 31 0), .ref (ad 31 1), .ref (ad 31 2), .ref (ad 31 3), .ref (ad 31 4), .ref (ad 31 5), .ref (ad 31 6), .ref (ad 31 7), .ref (ad 31 8), .ref (ad 31 9), .ref (ad 31 10), .ref (ad 31 11), .ref (ad 31 12), .ref (ad 31 13), .ref (ad 31 14), .int r_24.objects, .ref (ad 31 15), .int r_24.length, .ref (ad 31 16), .int r_24.waits, .ref (ad 31 17), .int r_24.given, .ref (ad 31 18), .ref (ad 31 19), .ref (ad 31 20), .int r_24.left, .ref (ad 31 21), .ref (ad 31 22), .int r_24.oldLength, .int r_24.oldWaits, .int r_24.oldGiven])) := by have h9 := rm_at.o hR; exact h9
    refine pw_get (Cn := "GraphWriterModel") (T := F_M) (N := 31) hx hb hts in_M hown hK hw 30 0 rfl hc_26 rfl 15 (by decide) (hts _ wd_769) (fun _ h9 => h9) rfl d_M_begin_83 ?_
    refine lv_iconst (v := 1) hx hb d_M_begin_86 (by decide) ?_
    refine lv_iadd hx hb d_M_begin_87 ?_
    refine pw_put (Cn := "GraphWriterModel") (T := F_M) (N := 31) (v := .int (r_24.objects + 1)) (ty := .int) hx hb hts in_M ft_M to_M nm_M hown hK hw 30 0 (by decide) rfl hc_26 rfl 15 (by decide) (hts _ wd_769) (fun _ h9 => h9) rfl (by decide +kernel) rfl rfl (Nat.le_of_ble_eq_true rfl) d_M_begin_88 (fun H locs hw => ?_)
    have hw : pw_H D cls9 A s.heap ad C ad (pw_up C_25 30 0 (some (.inr (4, [.ref (ad 31 0), .ref (ad 31 1), .ref (ad 31 2), .ref (ad 31 3), .ref (ad 31 4), .ref (ad 31 5), .ref (ad 31 6), .ref (ad 31 7), .ref (ad 31 8), .ref (ad 31 9), .ref (ad 31 10), .ref (ad 31 11), .ref (ad 31 12), .ref (ad 31 13), .ref (ad 31 14), .int (r_24.objects + 1), .ref (ad 31 15), .int r_24.length, .ref (ad 31 16), .int r_24.waits, .ref (ad 31 17), .int r_24.given, .ref (ad 31 18), .ref (ad 31 19), .ref (ad 31 20), .int r_24.left, .ref (ad 31 21), .ref (ad 31 22), .int r_24.oldLength, .int r_24.oldWaits, .int r_24.oldGiven])))) H _ := hw
    generalize hC_27 : pw_up C_25 30 0 (some (.inr (4, [.ref (ad 31 0), .ref (ad 31 1), .ref (ad 31 2), .ref (ad 31 3), .ref (ad 31 4), .ref (ad 31 5), .ref (ad 31 6), .ref (ad 31 7), .ref (ad 31 8), .ref (ad 31 9), .ref (ad 31 10), .ref (ad 31 11), .ref (ad 31 12), .ref (ad 31 13), .ref (ad 31 14), .int (r_24.objects + 1), .ref (ad 31 15), .int r_24.length, .ref (ad 31 16), .int r_24.waits, .ref (ad 31 17), .int r_24.given, .ref (ad 31 18), .ref (ad 31 19), .ref (ad 31 20), .int r_24.left, .ref (ad 31 21), .ref (ad 31 22), .int r_24.oldLength, .int r_24.oldWaits, .int r_24.oldGiven]))) = C_27 at hw
    have hR : rm_at ca ad C_27 (RS.s_objects r_24 (r_24.objects + 1)) := by rw [← hC_27]; exact rm_at.o_objects hR _
    have hfr : rm_fr C C_27 := fun x y h9 => by rw [← hC_27]; exact (pw_up_ne _ _ (by omega)).trans (hfr x y h9)
    refine lv_aload_n hx hb d_M_begin_91 rfl (lv_at hl 1 rfl) ?_
    have hc_28 : C_27 30 0 = some (.inr (4, [.ref (ad 31 0), .ref (ad 31 1), .ref (ad 31 2), .ref (ad 31 3), .ref (ad 31 4), .ref (ad 31 5), .ref (ad 31 6), .ref (ad 31 7), .ref (ad 31 8), .ref (ad 31 9), .ref (ad 31 10), .ref (ad 31 11), .ref (ad 31 12), .ref (ad 31 13), .ref (ad 31 14), .int (r_24.objects + 1), .ref (ad 31 15), .int r_24.length, .ref (ad 31 16), .int r_24.waits, .ref (ad 31 17), .int r_24.given, .ref (ad 31 18), .ref (ad 31 19), .ref (ad 31 20), .int r_24.left, .ref (ad 31 21), .ref (ad 31 22), .int r_24.oldLength, .int r_24.oldWaits, .int r_24.oldGiven])) := by have h9 := rm_at.o hR; exact h9
    refine pw_get (Cn := "GraphWriterModel") (T := F_M) (N := 31) hx hb hts in_M hown hK hw 30 0 rfl hc_28 rfl 15 (by decide) (hts _ wd_769) (fun _ h9 => h9) rfl d_M_begin_92 ?_
    refine lv_iconst (v := 1) hx hb d_M_begin_95 (by decide) ?_
    refine lv_isub hx hb d_M_begin_96 ?_
    obtain rfl := Option.some.inj hE
    exact pw_iret hx hb hr hlocks hw ⟨⟨rfl, hR, hfr⟩, rfl⟩ d_M_begin_97
  · rw [if_pos c_2] at hE
    refine lv_bipush (v := (-2)) hx hb d_M_begin_9 (by decide) ?_
    obtain rfl := Option.some.inj hE
    exact pw_iret hx hb hr hlocks hw ⟨⟨rfl, hR, hfr⟩, rfl⟩ d_M_begin_11
def m_firstSlot_12 (K : Int32 → Int32 → Int32 → Int32 → RS → Option (Int32 × RS)) : Nat → Int32 → Int32 → Int32 → Int32 → RS → Option (Int32 × RS)
  | 0, _, _, _, _, _ => none
  | n + 1, x4_4, x3_4, x2_4, x1_4, r => if (6 : Int32) ≤ x4_4 then (K x4_4 x3_4 x2_4 x1_4 r) else (if (x3_4 : Int32) < 0 then (K x4_4 x3_4 x2_4 x1_4 r) else (Option.bind (rd r.fields 6 x3_4) (fun v_9 => Option.bind (rd r.above 6 x3_4) (fun v_11 => m_firstSlot_12 K n (x4_4 + 1) v_11 (x2_4 + v_9) x1_4 r))))
def m_firstSlot (l1 : Int32) (r : RS) : Option (Int32 × RS) := Option.bind (rd r.above 6 l1) (fun v_3 => m_firstSlot_12 (fun z4_4 z3_4 z2_4 z1_4 r_12 => some (z2_4, r_12)) 60 0 v_3 0 l1 r)
set_option maxHeartbeats 4000000 in
set_option maxRecDepth 100000 in
theorem k_M_firstSlot {l : Launch} {D : va_G} {ca : Nat → ClassId} {kS : Nat → Nat} {kT : Nat} {ad : pw_A} {C : pw_C} {r : RS} (hR : rm_at ca ad C r) {l1 : Int32} {res : (Int32 × RS)} (hE : m_firstSlot l1 r = some res) : gc_Con l y_M_firstSlot c_M_firstSlot ({ frames := 0, cells := 0, slots := 0, locals := 0 }) D ca (z9_Z kS kT) [.ref (ad 30 0), .int l1] ad C (pw_pi (fun v ad' C' => (ad' = ad ∧ rm_at ca ad C' res.2 ∧ rm_fr C C') ∧ v = res.1)) 0 0 := by
  have hZ := z9_ok kS kT
  refine pw_ofW (cc := b_M_firstSlot) (maxL := 5) (ret := (some FieldType.int)) (by decide) rfl (Nat.le_of_ble_eq_true rfl) ?_
  intro p e s m args below meth c A ls hB hA hw hK hz hl
  obtain ⟨hx, hb, hr, hml, hts0, hlocks, hown, hnm⟩ := hB
  have hts := wd_hts hts0
  have hown : s.vm.findClass "GraphWriterModel" = some m.cls := hown
  have hl : lv_has ls 5 [(0, .ref (ad 30 0)), (1, .int l1)] := hl
  have hfr : rm_fr C C := fun _ _ _ => rfl
  unfold m_firstSlot at hE
  refine lv_iconst (v := 0) hx hb d_M_firstSlot_0 (by decide) ?_
  refine lv_istore_n (lv' := [(2, .int 0), (0, .ref (ad 30 0)), (1, .int l1)]) hx hb d_M_firstSlot_1 rfl hl (by decide) rfl (fun ls hl => ?_)
  refine lv_aload_n hx hb d_M_firstSlot_2 rfl (lv_at hl 1 rfl) ?_
  have hc_1 : C 30 0 = some (.inr (4, [.ref (ad 31 0), .ref (ad 31 1), .ref (ad 31 2), .ref (ad 31 3), .ref (ad 31 4), .ref (ad 31 5), .ref (ad 31 6), .ref (ad 31 7), .ref (ad 31 8), .ref (ad 31 9), .ref (ad 31 10), .ref (ad 31 11), .ref (ad 31 12), .ref (ad 31 13), .ref (ad 31 14), .int r.objects, .ref (ad 31 15), .int r.length, .ref (ad 31 16), .int r.waits, .ref (ad 31 17), .int r.given, .ref (ad 31 18), .ref (ad 31 19), .ref (ad 31 20), .int r.left, .ref (ad 31 21), .ref (ad 31 22), .int r.oldLength, .int r.oldWaits, .int r.oldGiven])) := by have h9 := rm_at.o hR; exact h9
  refine pw_get (Cn := "GraphWriterModel") (T := F_M) (N := 31) hx hb hts in_M hown hK hw 30 0 rfl hc_1 rfl 2 (by decide) (hts _ wd_756) (fun _ h9 => h9) rfl d_M_firstSlot_3 ?_
  refine lv_iload_n hx hb d_M_firstSlot_6 rfl (lv_at hl 2 rfl) ?_
  have hc_2 : C 31 2 = some (.inl (ca 0, 6, .inl r.above)) := by have h9 := rm_at.a2 hR; exact h9
  obtain ⟨v_3, hv_3, hE⟩ := ob_some hE
  obtain ⟨hi_v_3, hj_v_3, he_v_3⟩ := rd_some (by decide) hv_3
  refine pw_iald hx hb hK hw 31 2 rfl 0 hc_2 rfl (l1 : Int32).toNatClampNeg hi_v_3 (by omega) (by omega) d_M_firstSlot_7 ?_
  rw [← he_v_3]
  refine lv_istore_n (lv' := [(3, .int v_3), (2, .int 0), (0, .ref (ad 30 0)), (1, .int l1)]) hx hb d_M_firstSlot_8 rfl hl (by decide) rfl (fun ls hl => ?_)
  refine lv_iconst (v := 0) hx hb d_M_firstSlot_9 (by decide) ?_
  refine lv_istore (lv' := [(4, .int 0), (3, .int v_3), (2, .int 0), (0, .ref (ad 30 0)), (1, .int l1)]) hx hb d_M_firstSlot_10 hl (by decide) rfl (fun ls hl => ?_)
  have lp_4 : ∀ (K : Int32 → Int32 → Int32 → Int32 → RS → Option (Int32 × RS)), (∀ (x4_4 : Int32) (x3_4 : Int32) (x2_4 : Int32) (x1_4 : Int32) (r : RS) (C1 : pw_C) (H : Heap) (locs : List Loc) (ls : Array Slot), K x4_4 x3_4 x2_4 x1_4 r = some res → rm_at ca ad C1 r → rm_fr C C1 → pw_H D cls9 A s.heap ad C ad C1 H locs → lv_has ls 5 [(4, .int x4_4), (3, .int x3_4), (2, .int x2_4), (0, .ref (ad 30 0)), (1, .int x1_4)] → W p l e ({ frames := 0, cells := 0, slots := 0, locals := 0 }) s m args below meth c H locs 0 0 (MQ below (pw_Q D cls9 ad C (pw_pi (fun v ad' C' => (ad' = ad ∧ rm_at ca ad C' res.2 ∧ rm_fr C C') ∧ v = res.1)) A) args s 0 0 A) (F0 m 45 ls [])) → ∀ (n : Nat) (x4_4 : Int32) (x3_4 : Int32) (x2_4 : Int32) (x1_4 : Int32) (r : RS) (C1 : pw_C) (H : Heap) (locs : List Loc) (ls : Array Slot), m_firstSlot_12 K n x4_4 x3_4 x2_4 x1_4 r = some res → rm_at ca ad C1 r → rm_fr C C1 → pw_H D cls9 A s.heap ad C ad C1 H locs → lv_has ls 5 [(4, .int x4_4), (3, .int x3_4), (2, .int x2_4), (0, .ref (ad 30 0)), (1, .int x1_4)] → W p l e ({ frames := 0, cells := 0, slots := 0, locals := 0 }) s m args below meth c H locs 0 0 (MQ below (pw_Q D cls9 ad C (pw_pi (fun v ad' C' => (ad' = ad ∧ rm_at ca ad C' res.2 ∧ rm_fr C C') ∧ v = res.1)) A) args s 0 0 A) (F0 m 12 ls []) := by
    intro K hKK n
    induction n with
    | zero => intro x4_4 x3_4 x2_4 x1_4 r C1 H locs ls hE; rw [m_firstSlot_12] at hE; exact absurd hE (by simp)
    | succ n ih =>
      intro x4_4 x3_4 x2_4 x1_4 r C1 H locs ls hE hR hfr hw hl
      rw [m_firstSlot_12] at hE
      refine lv_iload hx hb d_M_firstSlot_12 (lv_at hl 0 rfl) ?_
      refine lv_bipush (v := 6) hx hb d_M_firstSlot_14 (by decide) ?_
      refine lv_icmp_ge (tgt := 45) hx hb d_M_firstSlot_16 (by decide) (fun c_5 => ?_) (fun c_5 => ?_)
      · rw [if_pos c_5] at hE
        exact hKK _ _ _ _ _ _ _ _ _ hE hR hfr hw (lv_sub hl [0, 1, 2, 3, 4] rfl)
      · rw [if_neg c_5] at hE
        refine lv_iload_n hx hb d_M_firstSlot_19 rfl (lv_at hl 1 rfl) ?_
        refine lv_if_lt (tgt := 45) hx hb d_M_firstSlot_20 (by decide) (fun c_6 => ?_) (fun c_6 => ?_)
        · rw [if_pos c_6] at hE
          exact hKK _ _ _ _ _ _ _ _ _ hE hR hfr hw (lv_sub hl [0, 1, 2, 3, 4] rfl)
        · rw [if_neg c_6] at hE
          refine lv_iload_n hx hb d_M_firstSlot_23 rfl (lv_at hl 2 rfl) ?_
          refine lv_aload_n hx hb d_M_firstSlot_24 rfl (lv_at hl 3 rfl) ?_
          have hc_7 : C1 30 0 = some (.inr (4, [.ref (ad 31 0), .ref (ad 31 1), .ref (ad 31 2), .ref (ad 31 3), .ref (ad 31 4), .ref (ad 31 5), .ref (ad 31 6), .ref (ad 31 7), .ref (ad 31 8), .ref (ad 31 9), .ref (ad 31 10), .ref (ad 31 11), .ref (ad 31 12), .ref (ad 31 13), .ref (ad 31 14), .int r.objects, .ref (ad 31 15), .int r.length, .ref (ad 31 16), .int r.waits, .ref (ad 31 17), .int r.given, .ref (ad 31 18), .ref (ad 31 19), .ref (ad 31 20), .int r.left, .ref (ad 31 21), .ref (ad 31 22), .int r.oldLength, .int r.oldWaits, .int r.oldGiven])) := by have h9 := rm_at.o hR; exact h9
          refine pw_get (Cn := "GraphWriterModel") (T := F_M) (N := 31) hx hb hts in_M hown hK hw 30 0 rfl hc_7 rfl 4 (by decide) (hts _ wd_758) (fun _ h9 => h9) rfl d_M_firstSlot_25 ?_
          refine lv_iload_n hx hb d_M_firstSlot_28 rfl (lv_at hl 1 rfl) ?_
          have hc_8 : C1 31 4 = some (.inl (ca 0, 6, .inl r.fields)) := by have h9 := rm_at.a4 hR; exact h9
          obtain ⟨v_9, hv_9, hE⟩ := ob_some hE
          obtain ⟨hi_v_9, hj_v_9, he_v_9⟩ := rd_some (by decide) hv_9
          refine pw_iald hx hb hK hw 31 4 rfl 0 hc_8 rfl (x3_4 : Int32).toNatClampNeg hi_v_9 (by omega) (by omega) d_M_firstSlot_29 ?_
          rw [← he_v_9]
          refine lv_iadd hx hb d_M_firstSlot_30 ?_
          refine lv_istore_n (lv' := [(2, .int (x2_4 + v_9)), (4, .int x4_4), (3, .int x3_4), (0, .ref (ad 30 0)), (1, .int x1_4)]) hx hb d_M_firstSlot_31 rfl hl (by decide) rfl (fun ls hl => ?_)
          refine lv_aload_n hx hb d_M_firstSlot_32 rfl (lv_at hl 3 rfl) ?_
          refine pw_get (Cn := "GraphWriterModel") (T := F_M) (N := 31) hx hb hts in_M hown hK hw 30 0 rfl hc_7 rfl 2 (by decide) (hts _ wd_756) (fun _ h9 => h9) rfl d_M_firstSlot_33 ?_
          refine lv_iload_n hx hb d_M_firstSlot_36 rfl (lv_at hl 2 rfl) ?_
          have hc_10 : C1 31 2 = some (.inl (ca 0, 6, .inl r.above)) := by have h9 := rm_at.a2 hR; exact h9
          obtain ⟨v_11, hv_11, hE⟩ := ob_some hE
          obtain ⟨hi_v_11, hj_v_11, he_v_11⟩ := rd_some (by decide) hv_11
          refine pw_iald hx hb hK hw 31 2 rfl 0 hc_10 rfl (x3_4 : Int32).toNatClampNeg hi_v_11 (by omega) (by omega) d_M_firstSlot_37 ?_
          rw [← he_v_11]
          refine lv_istore_n (lv' := [(3, .int v_11), (2, .int (x2_4 + v_9)), (4, .int x4_4), (0, .ref (ad 30 0)), (1, .int x1_4)]) hx hb d_M_firstSlot_38 rfl hl (by decide) rfl (fun ls hl => ?_)
          refine lv_iinc (v := x4_4 + 1) (lv' := [(4, .int (x4_4 + 1)), (3, .int v_11), (2, .int (x2_4 + v_9)), (0, .ref (ad 30 0)), (1, .int x1_4)]) hx hb d_M_firstSlot_39 hl (k := 2) rfl rfl (by decide) rfl (fun ls hl => ?_)
          refine lv_goto (tgt := 12) hx hb d_M_firstSlot_42 (by decide) ?_
          exact ih _ _ _ _ _ _ _ _ _ hE hR hfr hw (lv_sub hl [0, 1, 2, 3, 4] rfl)
  refine lp_4 _ (fun z4_4 z3_4 z2_4 z1_4 r_12 C_13 H locs ls hE hR hfr hw hl => ?_) 60 _ _ _ _ _ _ _ _ _ hE hR hfr hw hl
  try dsimp only at hE
  refine lv_iload_n hx hb d_M_firstSlot_45 rfl (lv_at hl 2 rfl) ?_
  obtain rfl := Option.some.inj hE
  exact pw_iret hx hb hr hlocks hw ⟨⟨rfl, hR, hfr⟩, rfl⟩ d_M_firstSlot_46
def m_holder_5 (K : Int32 → Int32 → Int32 → Int32 → RS → Option (Int32 × RS)) : Nat → Int32 → Int32 → Int32 → Int32 → RS → Option (Int32 × RS)
  | 0, _, _, _, _, _ => none
  | n + 1, x4_1, x3_1, x1_1, x2_1, r => if (6 : Int32) ≤ x4_1 then (K x4_1 x3_1 x1_1 x2_1 r) else (Option.bind (m_firstSlot x3_1 r) (fun y_3 => if (y_3.1 : Int32) ≤ x2_1 then (K x4_1 x3_1 x1_1 x2_1 y_3.2) else (Option.bind (rd y_3.2.above 6 x3_1) (fun v_11 => m_holder_5 K n (x4_1 + 1) v_11 x1_1 x2_1 y_3.2))))
def m_holder (l1 : Int32) (l2 : Int32) (r : RS) : Option (Int32 × RS) := m_holder_5 (fun z4_1 z3_1 z1_1 z2_1 r_12 => some (z3_1, r_12)) 60 0 l1 l1 l2 r
set_option maxHeartbeats 4000000 in
set_option maxRecDepth 100000 in
theorem k_M_holder {l : Launch} {D : va_G} {ca : Nat → ClassId} {kS : Nat → Nat} {kT : Nat} {ad : pw_A} {C : pw_C} {r : RS} (hR : rm_at ca ad C r) {l1 : Int32} {l2 : Int32} {res : (Int32 × RS)} (hE : m_holder l1 l2 r = some res) : gc_Con l y_M_holder c_M_holder ({ frames := 1, cells := 0, slots := 0, locals := 24 }) D ca (z9_Z kS kT) [.ref (ad 30 0), .int l1, .int l2] ad C (pw_pi (fun v ad' C' => (ad' = ad ∧ rm_at ca ad C' res.2 ∧ rm_fr C C') ∧ v = res.1)) 0 0 := by
  have hZ := z9_ok kS kT
  refine pw_ofW (cc := b_M_holder) (maxL := 5) (ret := (some FieldType.int)) (by decide) rfl (Nat.le_of_ble_eq_true rfl) ?_
  intro p e s m args below meth c A ls hB hA hw hK hz hl
  obtain ⟨hx, hb, hr, hml, hts0, hlocks, hown, hnm⟩ := hB
  have hts := wd_hts hts0
  have hown : s.vm.findClass "GraphWriterModel" = some m.cls := hown
  have hl : lv_has ls 5 [(0, .ref (ad 30 0)), (1, .int l1), (2, .int l2)] := hl
  have hfr : rm_fr C C := fun _ _ _ => rfl
  unfold m_holder at hE
  refine lv_iload_n hx hb d_M_holder_0 rfl (lv_at hl 1 rfl) ?_
  refine lv_istore_n (lv' := [(3, .int l1), (0, .ref (ad 30 0)), (1, .int l1), (2, .int l2)]) hx hb d_M_holder_1 rfl hl (by decide) rfl (fun ls hl => ?_)
  refine lv_iconst (v := 0) hx hb d_M_holder_2 (by decide) ?_
  refine lv_istore (lv' := [(4, .int 0), (3, .int l1), (0, .ref (ad 30 0)), (1, .int l1), (2, .int l2)]) hx hb d_M_holder_3 hl (by decide) rfl (fun ls hl => ?_)
  have lp_1 : ∀ (K : Int32 → Int32 → Int32 → Int32 → RS → Option (Int32 × RS)), (∀ (x4_1 : Int32) (x3_1 : Int32) (x1_1 : Int32) (x2_1 : Int32) (r : RS) (C1 : pw_C) (H : Heap) (locs : List Loc) (ls : Array Slot), K x4_1 x3_1 x1_1 x2_1 r = some res → rm_at ca ad C1 r → rm_fr C C1 → pw_H D cls9 A s.heap ad C ad C1 H locs → lv_has ls 5 [(4, .int x4_1), (3, .int x3_1), (0, .ref (ad 30 0)), (1, .int x1_1), (2, .int x2_1)] → W p l e ({ frames := 1, cells := 0, slots := 0, locals := 24 }) s m args below meth c H locs 0 0 (MQ below (pw_Q D cls9 ad C (pw_pi (fun v ad' C' => (ad' = ad ∧ rm_at ca ad C' res.2 ∧ rm_fr C C') ∧ v = res.1)) A) args s 0 0 A) (F0 m 34 ls [])) → ∀ (n : Nat) (x4_1 : Int32) (x3_1 : Int32) (x1_1 : Int32) (x2_1 : Int32) (r : RS) (C1 : pw_C) (H : Heap) (locs : List Loc) (ls : Array Slot), m_holder_5 K n x4_1 x3_1 x1_1 x2_1 r = some res → rm_at ca ad C1 r → rm_fr C C1 → pw_H D cls9 A s.heap ad C ad C1 H locs → lv_has ls 5 [(4, .int x4_1), (3, .int x3_1), (0, .ref (ad 30 0)), (1, .int x1_1), (2, .int x2_1)] → W p l e ({ frames := 1, cells := 0, slots := 0, locals := 24 }) s m args below meth c H locs 0 0 (MQ below (pw_Q D cls9 ad C (pw_pi (fun v ad' C' => (ad' = ad ∧ rm_at ca ad C' res.2 ∧ rm_fr C C') ∧ v = res.1)) A) args s 0 0 A) (F0 m 5 ls []) := by
    intro K hKK n
    induction n with
    | zero => intro x4_1 x3_1 x1_1 x2_1 r C1 H locs ls hE; rw [m_holder_5] at hE; exact absurd hE (by simp)
    | succ n ih =>
      intro x4_1 x3_1 x1_1 x2_1 r C1 H locs ls hE hR hfr hw hl
      rw [m_holder_5] at hE
      refine lv_iload hx hb d_M_holder_5 (lv_at hl 0 rfl) ?_
      refine lv_bipush (v := 6) hx hb d_M_holder_7 (by decide) ?_
      refine lv_icmp_ge (tgt := 34) hx hb d_M_holder_9 (by decide) (fun c_2 => ?_) (fun c_2 => ?_)
      · rw [if_pos c_2] at hE
        exact hKK _ _ _ _ _ _ _ _ _ hE hR hfr hw (lv_sub hl [0, 1, 2, 3, 4] rfl)
      · rw [if_neg c_2] at hE
        refine lv_iload_n hx hb d_M_holder_12 rfl (lv_at hl 4 rfl) ?_
        refine lv_aload_n hx hb d_M_holder_13 rfl (lv_at hl 2 rfl) ?_
        refine lv_iload_n hx hb d_M_holder_14 rfl (lv_at hl 1 rfl) ?_
        obtain ⟨y_3, hy_3, hE⟩ := ob_some hE
        have hc_4 : C1 30 0 = some (.inr (4, [.ref (ad 31 0), .ref (ad 31 1), .ref (ad 31 2), .ref (ad 31 3), .ref (ad 31 4), .ref (ad 31 5), .ref (ad 31 6), .ref (ad 31 7), .ref (ad 31 8), .ref (ad 31 9), .ref (ad 31 10), .ref (ad 31 11), .ref (ad 31 12), .ref (ad 31 13), .ref (ad 31 14), .int r.objects, .ref (ad 31 15), .int r.length, .ref (ad 31 16), .int r.waits, .ref (ad 31 17), .int r.given, .ref (ad 31 18), .ref (ad 31 19), .ref (ad 31 20), .int r.left, .ref (ad 31 21), .ref (ad 31 22), .int r.oldLength, .int r.oldWaits, .int r.oldGiven])) := by have h9 := rm_at.o hR; exact h9
        refine pw_calli (va_runV (As := [.int x3_1]) (rest := [.int x2_1]) ⟨hx, hb, hml, hown, hts0⟩ (k_M_firstSlot hR hy_3 _) (cwV 1 hts0 (wd_V wd_876 wd_873 wd_875 wd_25 wd_56) rfl rfl rfl (by decide +kernel) ⟨Nat.le_of_ble_eq_true rfl, Nat.le_of_ble_eq_true rfl⟩) (pw_preV hZ hw hA hK hz rfl hc_4 rfl) rfl rfl hl.1 rfl (lv_room (Nat.le_of_ble_eq_true rfl)) d_M_holder_15 ⟨Nat.le_of_ble_eq_true rfl, Nat.le_of_ble_eq_true rfl⟩) hw hA (fun r_7 ad_5 C_6 H locs hp hw => ?_)
        obtain ⟨⟨hae, hR, hf1⟩, hre⟩ := hp
        rw [hre]
        rw [hae] at hw
        clear hae
        have hfr : rm_fr C C_6 := fun x y h9 => (hf1 x y h9).trans (hfr x y h9)
        clear hf1
        refine lv_icmp_ge (tgt := 34) hx hb d_M_holder_18 (by decide) (fun c_8 => ?_) (fun c_8 => ?_)
        · rw [if_pos c_8] at hE
          exact hKK _ _ _ _ _ _ _ _ _ hE hR hfr hw (lv_sub hl [0, 1, 2, 3, 4] rfl)
        · rw [if_neg c_8] at hE
          refine lv_aload_n hx hb d_M_holder_21 rfl (lv_at hl 2 rfl) ?_
          have hc_9 : C_6 30 0 = some (.inr (4, [.ref (ad 31 0), .ref (ad 31 1), .ref (ad 31 2), .ref (ad 31 3), .ref (ad 31 4), .ref (ad 31 5), .ref (ad 31 6), .ref (ad 31 7), .ref (ad 31 8), .ref (ad 31 9), .ref (ad 31 10), .ref (ad 31 11), .ref (ad 31 12), .ref (ad 31 13), .ref (ad 31 14), .int y_3.2.objects, .ref (ad 31 15), .int y_3.2.length, .ref (ad 31 16), .int y_3.2.waits, .ref (ad 31 17), .int y_3.2.given, .ref (ad 31 18), .ref (ad 31 19), .ref (ad 31 20), .int y_3.2.left, .ref (ad 31 21), .ref (ad 31 22), .int y_3.2.oldLength, .int y_3.2.oldWaits, .int y_3.2.oldGiven])) := by have h9 := rm_at.o hR; exact h9
          refine pw_get (Cn := "GraphWriterModel") (T := F_M) (N := 31) hx hb hts in_M hown hK hw 30 0 rfl hc_9 rfl 2 (by decide) (hts _ wd_756) (fun _ h9 => h9) rfl d_M_holder_22 ?_
          refine lv_iload_n hx hb d_M_holder_25 rfl (lv_at hl 1 rfl) ?_
          have hc_10 : C_6 31 2 = some (.inl (ca 0, 6, .inl y_3.2.above)) := by have h9 := rm_at.a2 hR; exact h9
          obtain ⟨v_11, hv_11, hE⟩ := ob_some hE
          obtain ⟨hi_v_11, hj_v_11, he_v_11⟩ := rd_some (by decide) hv_11
          refine pw_iald hx hb hK hw 31 2 rfl 0 hc_10 rfl (x3_1 : Int32).toNatClampNeg hi_v_11 (by omega) (by omega) d_M_holder_26 ?_
          rw [← he_v_11]
          refine lv_istore_n (lv' := [(3, .int v_11), (4, .int x4_1), (0, .ref (ad 30 0)), (1, .int x1_1), (2, .int x2_1)]) hx hb d_M_holder_27 rfl hl (by decide) rfl (fun ls hl => ?_)
          refine lv_iinc (v := x4_1 + 1) (lv' := [(4, .int (x4_1 + 1)), (3, .int v_11), (0, .ref (ad 30 0)), (1, .int x1_1), (2, .int x2_1)]) hx hb d_M_holder_28 hl (k := 1) rfl rfl (by decide) rfl (fun ls hl => ?_)
          refine lv_goto (tgt := 5) hx hb d_M_holder_31 (by decide) ?_
          exact ih _ _ _ _ _ _ _ _ _ hE hR hfr hw (lv_sub hl [0, 1, 2, 3, 4] rfl)
  refine lp_1 _ (fun z4_1 z3_1 z1_1 z2_1 r_12 C_13 H locs ls hE hR hfr hw hl => ?_) 60 _ _ _ _ _ _ _ _ _ hE hR hfr hw hl
  try dsimp only at hE
  refine lv_iload_n hx hb d_M_holder_34 rfl (lv_at hl 1 rfl) ?_
  obtain rfl := Option.some.inj hE
  exact pw_iret hx hb hr hlocks hw ⟨⟨rfl, hR, hfr⟩, rfl⟩ d_M_holder_35
def m_slotType (l1 : Int32) (l2 : Int32) (r : RS) : Option (Int32 × RS) := Option.bind (rd r.classOf 20 l1) (fun v_3 => Option.bind (m_holder v_3 l2 r) (fun y_4 => Option.bind (m_firstSlot y_4.1 y_4.2) (fun y_9 => Option.bind (rd y_9.2.fType 24 (((4 * y_4.1) + l2) - y_9.1)) (fun v_14 => some (v_14, y_9.2)))))
set_option maxHeartbeats 4000000 in
set_option maxRecDepth 100000 in
theorem k_M_slotType {l : Launch} {D : va_G} {ca : Nat → ClassId} {kS : Nat → Nat} {kT : Nat} {ad : pw_A} {C : pw_C} {r : RS} (hR : rm_at ca ad C r) {l1 : Int32} {l2 : Int32} {res : (Int32 × RS)} (hE : m_slotType l1 l2 r = some res) : gc_Con l y_M_slotType c_M_slotType ({ frames := 2, cells := 0, slots := 0, locals := 48 }) D ca (z9_Z kS kT) [.ref (ad 30 0), .int l1, .int l2] ad C (pw_pi (fun v ad' C' => (ad' = ad ∧ rm_at ca ad C' res.2 ∧ rm_fr C C') ∧ v = res.1)) 0 0 := by
  have hZ := z9_ok kS kT
  refine pw_ofW (cc := b_M_slotType) (maxL := 4) (ret := (some FieldType.int)) (by decide) rfl (Nat.le_of_ble_eq_true rfl) ?_
  intro p e s m args below meth c A ls hB hA hw hK hz hl
  obtain ⟨hx, hb, hr, hml, hts0, hlocks, hown, hnm⟩ := hB
  have hts := wd_hts hts0
  have hown : s.vm.findClass "GraphWriterModel" = some m.cls := hown
  have hl : lv_has ls 4 [(0, .ref (ad 30 0)), (1, .int l1), (2, .int l2)] := hl
  have hfr : rm_fr C C := fun _ _ _ => rfl
  unfold m_slotType at hE
  refine lv_aload_n hx hb d_M_slotType_0 rfl (lv_at hl 0 rfl) ?_
  refine lv_aload_n hx hb d_M_slotType_1 rfl (lv_at hl 0 rfl) ?_
  have hc_1 : C 30 0 = some (.inr (4, [.ref (ad 31 0), .ref (ad 31 1), .ref (ad 31 2), .ref (ad 31 3), .ref (ad 31 4), .ref (ad 31 5), .ref (ad 31 6), .ref (ad 31 7), .ref (ad 31 8), .ref (ad 31 9), .ref (ad 31 10), .ref (ad 31 11), .ref (ad 31 12), .ref (ad 31 13), .ref (ad 31 14), .int r.objects, .ref (ad 31 15), .int r.length, .ref (ad 31 16), .int r.waits, .ref (ad 31 17), .int r.given, .ref (ad 31 18), .ref (ad 31 19), .ref (ad 31 20), .int r.left, .ref (ad 31 21), .ref (ad 31 22), .int r.oldLength, .int r.oldWaits, .int r.oldGiven])) := by have h9 := rm_at.o hR; exact h9
  refine pw_get (Cn := "GraphWriterModel") (T := F_M) (N := 31) hx hb hts in_M hown hK hw 30 0 rfl hc_1 rfl 9 (by decide) (hts _ wd_763) (fun _ h9 => h9) rfl d_M_slotType_2 ?_
  refine lv_iload_n hx hb d_M_slotType_5 rfl (lv_at hl 1 rfl) ?_
  have hc_2 : C 31 9 = some (.inl (ca 0, 20, .inl r.classOf)) := by have h9 := rm_at.a9 hR; exact h9
  obtain ⟨v_3, hv_3, hE⟩ := ob_some hE
  obtain ⟨hi_v_3, hj_v_3, he_v_3⟩ := rd_some (by decide) hv_3
  refine pw_iald hx hb hK hw 31 9 rfl 0 hc_2 rfl (l1 : Int32).toNatClampNeg hi_v_3 (by omega) (by omega) d_M_slotType_6 ?_
  rw [← he_v_3]
  refine lv_iload_n hx hb d_M_slotType_7 rfl (lv_at hl 2 rfl) ?_
  obtain ⟨y_4, hy_4, hE⟩ := ob_some hE
  refine pw_calli (va_runV (As := [.int v_3, .int l2]) (rest := []) ⟨hx, hb, hml, hown, hts0⟩ (k_M_holder hR hy_4 _) (cwV 2 hts0 (wd_V wd_888 wd_885 wd_887 wd_28 wd_56) rfl rfl rfl (by decide +kernel) ⟨Nat.le_of_ble_eq_true rfl, Nat.le_of_ble_eq_true rfl⟩) (pw_preV hZ hw hA hK hz rfl hc_1 rfl) rfl rfl hl.1 rfl (lv_room (Nat.le_of_ble_eq_true rfl)) d_M_slotType_8 ⟨Nat.le_of_ble_eq_true rfl, Nat.le_of_ble_eq_true rfl⟩) hw hA (fun r_7 ad_5 C_6 H locs hp hw => ?_)
  obtain ⟨⟨hae, hR, hf1⟩, hre⟩ := hp
  rw [hre]
  rw [hae] at hw
  clear hae
  have hfr : rm_fr C C_6 := fun x y h9 => (hf1 x y h9).trans (hfr x y h9)
  clear hf1
  refine lv_istore_n (lv' := [(3, .int y_4.1), (0, .ref (ad 30 0)), (1, .int l1), (2, .int l2)]) hx hb d_M_slotType_11 rfl hl (by decide) rfl (fun ls hl => ?_)
  refine lv_aload_n hx hb d_M_slotType_12 rfl (lv_at hl 1 rfl) ?_
  have hc_8 : C_6 30 0 = some (.inr (4, [.ref (ad 31 0), .ref (ad 31 1), .ref (ad 31 2), .ref (ad 31 3), .ref (ad 31 4), .ref (ad 31 5), .ref (ad 31 6), .ref (ad 31 7), .ref (ad 31 8), .ref (ad 31 9), .ref (ad 31 10), .ref (ad 31 11), .ref (ad 31 12), .ref (ad 31 13), .ref (ad 31 14), .int y_4.2.objects, .ref (ad 31 15), .int y_4.2.length, .ref (ad 31 16), .int y_4.2.waits, .ref (ad 31 17), .int y_4.2.given, .ref (ad 31 18), .ref (ad 31 19), .ref (ad 31 20), .int y_4.2.left, .ref (ad 31 21), .ref (ad 31 22), .int y_4.2.oldLength, .int y_4.2.oldWaits, .int y_4.2.oldGiven])) := by have h9 := rm_at.o hR; exact h9
  refine pw_get (Cn := "GraphWriterModel") (T := F_M) (N := 31) hx hb hts in_M hown hK hw 30 0 rfl hc_8 rfl 6 (by decide) (hts _ wd_760) (fun _ h9 => h9) rfl d_M_slotType_13 ?_
  refine lv_iconst (v := 4) hx hb d_M_slotType_16 (by decide) ?_
  refine lv_iload_n hx hb d_M_slotType_17 rfl (lv_at hl 0 rfl) ?_
  refine lv_imul hx hb d_M_slotType_18 ?_
  refine lv_iload_n hx hb d_M_slotType_19 rfl (lv_at hl 3 rfl) ?_
  refine lv_iadd hx hb d_M_slotType_20 ?_
  refine lv_aload_n hx hb d_M_slotType_21 rfl (lv_at hl 1 rfl) ?_
  refine lv_iload_n hx hb d_M_slotType_22 rfl (lv_at hl 0 rfl) ?_
  obtain ⟨y_9, hy_9, hE⟩ := ob_some hE
  refine pw_calli (va_runV (As := [.int y_4.1]) (rest := [.int ((4 * y_4.1) + l2), .ref (ad 31 6)]) ⟨hx, hb, hml, hown, hts0⟩ (k_M_firstSlot hR hy_9 _) (cwV 1 hts0 (wd_V wd_876 wd_873 wd_875 wd_25 wd_56) rfl rfl rfl (by decide +kernel) ⟨Nat.le_of_ble_eq_true rfl, Nat.le_of_ble_eq_true rfl⟩) (pw_preV hZ hw hA hK hz rfl hc_8 rfl) rfl rfl hl.1 rfl (lv_room (Nat.le_of_ble_eq_true rfl)) d_M_slotType_23 ⟨Nat.le_of_ble_eq_true rfl, Nat.le_of_ble_eq_true rfl⟩) hw hA (fun r_12 ad_10 C_11 H locs hp hw => ?_)
  obtain ⟨⟨hae, hR, hf1⟩, hre⟩ := hp
  rw [hre]
  rw [hae] at hw
  clear hae
  have hfr : rm_fr C C_11 := fun x y h9 => (hf1 x y h9).trans (hfr x y h9)
  clear hf1
  refine lv_isub hx hb d_M_slotType_26 ?_
  have hc_13 : C_11 31 6 = some (.inl (ca 0, 24, .inl y_9.2.fType)) := by have h9 := rm_at.a6 hR; exact h9
  obtain ⟨v_14, hv_14, hE⟩ := ob_some hE
  obtain ⟨hi_v_14, hj_v_14, he_v_14⟩ := rd_some (by decide) hv_14
  refine pw_iald hx hb hK hw 31 6 rfl 0 hc_13 rfl (((4 * y_4.1) + l2) - y_9.1 : Int32).toNatClampNeg hi_v_14 (by omega) (by omega) d_M_slotType_27 ?_
  rw [← he_v_14]
  obtain rfl := Option.some.inj hE
  exact pw_iret hx hb hr hlocks hw ⟨⟨rfl, hR, hfr⟩, rfl⟩ d_M_slotType_28
