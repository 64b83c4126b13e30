def m_arrange_24 (K : Int32 → Int32 → Int32 → Int32 → Int32 → RS → Option (Int32 × RS)) : Nat → Int32 → Int32 → Int32 → Int32 → Int32 → RS → Option (Int32 × RS)
  | 0, _, _, _, _, _, _ => none
  | n + 1, x5_5, x4_5, x3_5, x2_5, x1_5, r => Option.bind (rd r.fields 6 x1_5) (fun v_8 => if ((4 * x1_5) + v_8 : Int32) ≤ x5_5 then (K x5_5 x4_5 x3_5 x2_5 x1_5 r) else (Option.bind (rd r.fName 24 x5_5) (fun v_11 => if (v_11 : Int32) = x4_5 then (Option.bind (rd r.fSkip 24 x5_5) (fun v_14 => if (v_14 : Int32) = 0 then (Option.bind (rd r.fType 24 x5_5) (fun v_17 => if (v_17 : Int32) ≤ 5 then (if (x3_5 : Int32) = 1 then (m_arrange_24 K n (x5_5 + 1) x4_5 x3_5 x2_5 x1_5 r) else (Option.bind (wr r.order 4 x2_5 x5_5) (fun w_22 => m_arrange_24 K n (x5_5 + 1) x4_5 x3_5 (x2_5 + 1) x1_5 (RS.s_order r w_22)))) else (if (x3_5 : Int32) = 1 then (Option.bind (wr r.order 4 x2_5 x5_5) (fun w_29 => m_arrange_24 K n (x5_5 + 1) x4_5 x3_5 (x2_5 + 1) x1_5 (RS.s_order r w_29))) else (m_arrange_24 K n (x5_5 + 1) x4_5 x3_5 x2_5 x1_5 r)))) else (m_arrange_24 K n (x5_5 + 1) x4_5 x3_5 x2_5 x1_5 r))) else (m_arrange_24 K n (x5_5 + 1) x4_5 x3_5 x2_5 x1_5 r))))
def m_arrange_12 (K : Int32 → Int32 → Int32 → Int32 → RS → Option (Int32 × RS)) : Nat → Int32 → Int32 → Int32 → Int32 → RS → Option (Int32 × RS)
  | 0, _, _, _, _, _ => none
  | n + 1, x4_3, x3_3, x2_3, x1_3, r => if (26 : Int32) ≤ x4_3 then (K x4_3 x3_3 x2_3 x1_3 r) else (m_arrange_24 (fun z5_5 z4_5 z3_5 z2_5 z1_5 r_31 => m_arrange_12 K n (z4_5 + 1) z3_5 z2_5 z1_5 r_31) 60 (4 * x1_3) x4_3 x3_3 x2_3 x1_3 r)
def m_arrange_4 (K : Int32 → Int32 → Int32 → RS → Option (Int32 × RS)) : Nat → Int32 → Int32 → Int32 → RS → Option (Int32 × RS)
  | 0, _, _, _, _ => none
  | n + 1, x3_1, x2_1, x1_1, r => if (2 : Int32) ≤ x3_1 then (K x3_1 x2_1 x1_1 r) else (m_arrange_12 (fun z4_3 z3_3 z2_3 z1_3 r_33 => m_arrange_4 K n (z3_3 + 1) z2_3 z1_3 r_33) 60 0 x3_1 x2_1 x1_1 r)
def m_arrange (l1 : Int32) (r : RS) : Option (Int32 × RS) := m_arrange_4 (fun z3_1 z2_1 z1_1 r_35 => some (z2_1, r_35)) 60 0 0 l1 r
set_option maxHeartbeats 4000000 in
set_option maxRecDepth 100000 in
theorem k_M_arrange {l : Launch} {D : va_G} {ca : Nat → ClassId} {kS : Nat → Nat} {kT : Nat} {ad : pw_A} {C : pw_C} {r : RS} (hR : rm_at ca ad C r) {l1 : Int32} {res : (Int32 × RS)} (hE : m_arrange l1 r = some res) : gc_Con l y_M_arrange c_M_arrange ({ frames := 0, cells := 0, slots := 0, locals := 0 }) D ca (z9_Z kS kT) [.ref (ad 30 0), .int l1] ad C (pw_pi (fun v ad' C' => (ad' = ad ∧ rm_at ca ad C' res.2 ∧ rm_fr C C') ∧ v = res.1)) 0 0 := by
  have hZ := z9_ok kS kT
  refine pw_ofW (cc := b_M_arrange) (maxL := 6) (ret := (some FieldType.int)) (by decide) rfl (Nat.le_of_ble_eq_true rfl) ?_
  intro p e s m args below meth c A ls hB hA hw hK hz hl
  obtain ⟨hx, hb, hr, hml, hts0, hlocks, hown, hnm⟩ := hB
  have hts := wd_hts hts0
  have hown : s.vm.findClass "GraphWriterModel" = some m.cls := hown
  have hl : lv_has ls 6 [(0, .ref (ad 30 0)), (1, .int l1)] := hl
  have hfr : rm_fr C C := fun _ _ _ => rfl
  unfold m_arrange at hE
  refine lv_iconst (v := 0) hx hb d_M_arrange_0 (by decide) ?_
  refine lv_istore_n (lv' := [(2, .int 0), (0, .ref (ad 30 0)), (1, .int l1)]) hx hb d_M_arrange_1 rfl hl (by decide) rfl (fun ls hl => ?_)
  refine lv_iconst (v := 0) hx hb d_M_arrange_2 (by decide) ?_
  refine lv_istore_n (lv' := [(3, .int 0), (2, .int 0), (0, .ref (ad 30 0)), (1, .int l1)]) hx hb d_M_arrange_3 rfl hl (by decide) rfl (fun ls hl => ?_)
  have lp_1 : ∀ (K : Int32 → Int32 → Int32 → RS → Option (Int32 × RS)), (∀ (x3_1 : Int32) (x2_1 : Int32) (x1_1 : Int32) (r : RS) (C1 : pw_C) (H : Heap) (locs : List Loc) (ls : Array Slot), K x3_1 x2_1 x1_1 r = some res → rm_at ca ad C1 r → rm_fr C C1 → pw_H D cls9 A s.heap ad C ad C1 H locs → lv_has ls 6 [(3, .int x3_1), (2, .int x2_1), (0, .ref (ad 30 0)), (1, .int x1_1)] → W p l e ({ frames := 0, cells := 0, slots := 0, locals := 0 }) s m args below meth c H locs 0 0 (MQ below (pw_Q D cls9 ad C (pw_pi (fun v ad' C' => (ad' = ad ∧ rm_at ca ad C' res.2 ∧ rm_fr C C') ∧ v = res.1)) A) args s 0 0 A) (F0 m 119 ls [])) → ∀ (n : Nat) (x3_1 : Int32) (x2_1 : Int32) (x1_1 : Int32) (r : RS) (C1 : pw_C) (H : Heap) (locs : List Loc) (ls : Array Slot), m_arrange_4 K n x3_1 x2_1 x1_1 r = some res → rm_at ca ad C1 r → rm_fr C C1 → pw_H D cls9 A s.heap ad C ad C1 H locs → lv_has ls 6 [(3, .int x3_1), (2, .int x2_1), (0, .ref (ad 30 0)), (1, .int x1_1)] → W p l e ({ frames := 0, cells := 0, slots := 0, locals := 0 }) s m args below meth c H locs 0 0 (MQ below (pw_Q D cls9 ad C (pw_pi (fun v ad' C' => (ad' = ad ∧ rm_at ca ad C' res.2 ∧ rm_fr C C') ∧ v = res.1)) A) args s 0 0 A) (F0 m 4 ls []) := by
    intro K hKK n
    induction n with
    | zero => intro x3_1 x2_1 x1_1 r C1 H locs ls hE; rw [m_arrange_4] at hE; exact absurd hE (by simp)
    | succ n ih =>
      intro x3_1 x2_1 x1_1 r C1 H locs ls hE hR hfr hw hl
      rw [m_arrange_4] at hE
      refine lv_iload_n hx hb d_M_arrange_4 rfl (lv_at hl 0 rfl) ?_
      refine lv_iconst (v := 2) hx hb d_M_arrange_5 (by decide) ?_
      refine lv_icmp_ge (tgt := 119) hx hb d_M_arrange_6 (by decide) (fun c_2 => ?_) (fun c_2 => ?_)
      · rw [if_pos c_2] at hE
        exact hKK _ _ _ _ _ _ _ _ hE hR hfr hw (lv_sub hl [0, 1, 2, 3] rfl)
      · rw [if_neg c_2] at hE
        refine lv_iconst (v := 0) hx hb d_M_arrange_9 (by decide) ?_
        refine lv_istore (lv' := [(4, .int 0), (3, .int x3_1), (2, .int x2_1), (0, .ref (ad 30 0)), (1, .int x1_1)]) hx hb d_M_arrange_10 hl (by decide) rfl (fun ls hl => ?_)
        have lp_3 : ∀ (K : Int32 → Int32 → Int32 → Int32 → RS → Option (Int32 × RS)), (∀ (x4_3 : Int32) (x3_3 : Int32) (x2_3 : Int32) (x1_3 : Int32) (r : RS) (C1 : pw_C) (H : Heap) (locs : List Loc) (ls : Array Slot), K x4_3 x3_3 x2_3 x1_3 r = some res → rm_at ca ad C1 r → rm_fr C C1 → pw_H D cls9 A s.heap ad C ad C1 H locs → lv_has ls 6 [(4, .int x4_3), (3, .int x3_3), (2, .int x2_3), (0, .ref (ad 30 0)), (1, .int x1_3)] → W p l e ({ frames := 0, cells := 0, slots := 0, locals := 0 }) s m args below meth c H locs 0 0 (MQ below (pw_Q D cls9 ad C (pw_pi (fun v ad' C' => (ad' = ad ∧ rm_at ca ad C' res.2 ∧ rm_fr C C') ∧ v = res.1)) A) args s 0 0 A) (F0 m 113 ls [])) → ∀ (n : Nat) (x4_3 : Int32) (x3_3 : Int32) (x2_3 : Int32) (x1_3 : Int32) (r : RS) (C1 : pw_C) (H : Heap) (locs : List Loc) (ls : Array Slot), m_arrange_12 K n x4_3 x3_3 x2_3 x1_3 r = some res → rm_at ca ad C1 r → rm_fr C C1 → pw_H D cls9 A s.heap ad C ad C1 H locs → lv_has ls 6 [(4, .int x4_3), (3, .int x3_3), (2, .int x2_3), (0, .ref (ad 30 0)), (1, .int x1_3)] → W p l e ({ frames := 0, cells := 0, slots := 0, locals := 0 }) s m args below meth c H locs 0 0 (MQ below (pw_Q D cls9 ad C (pw_pi (fun v ad' C' => (ad' = ad ∧ rm_at ca ad C' res.2 ∧ rm_fr C C') ∧ v = res.1)) A) args s 0 0 A) (F0 m 12 ls []) := by
          intro K hKK n
          induction n with
          | zero => intro x4_3 x3_3 x2_3 x1_3 r C1 H locs ls hE; rw [m_arrange_12] at hE; exact absurd hE (by simp)
          | succ n ih =>
            intro x4_3 x3_3 x2_3 x1_3 r C1 H locs ls hE hR hfr hw hl
            rw [m_arrange_12] at hE
            refine lv_iload hx hb d_M_arrange_12 (lv_at hl 0 rfl) ?_
            refine lv_bipush (v := 26) hx hb d_M_arrange_14 (by decide) ?_
            refine lv_icmp_ge (tgt := 113) hx hb d_M_arrange_16 (by decide) (fun c_4 => ?_) (fun c_4 => ?_)
            · rw [if_pos c_4] at hE
              exact hKK _ _ _ _ _ _ _ _ _ hE hR hfr hw (lv_sub hl [0, 1, 2, 3, 4] rfl)
            · rw [if_neg c_4] at hE
              refine lv_iconst (v := 4) hx hb d_M_arrange_19 (by decide) ?_
              refine lv_iload_n hx hb d_M_arrange_20 rfl (lv_at hl 4 rfl) ?_
              refine lv_imul hx hb d_M_arrange_21 ?_
              refine lv_istore (lv' := [(5, .int (4 * x1_3)), (4, .int x4_3), (3, .int x3_3), (2, .int x2_3), (0, .ref (ad 30 0)), (1, .int x1_3)]) hx hb d_M_arrange_22 hl (by decide) rfl (fun ls hl => ?_)
              have lp_5 : ∀ (K : Int32 → Int32 → Int32 → Int32 → Int32 → RS → Option (Int32 × RS)), (∀ (x5_5 : Int32) (x4_5 : Int32) (x3_5 : Int32) (x2_5 : Int32) (x1_5 : Int32) (r : RS) (C1 : pw_C) (H : Heap) (locs : List Loc) (ls : Array Slot), K x5_5 x4_5 x3_5 x2_5 x1_5 r = some res → rm_at ca ad C1 r → rm_fr C C1 → pw_H D cls9 A s.heap ad C ad C1 H locs → lv_has ls 6 [(5, .int x5_5), (4, .int x4_5), (3, .int x3_5), (2, .int x2_5), (0, .ref (ad 30 0)), (1, .int x1_5)] → W p l e ({ frames := 0, cells := 0, slots := 0, locals := 0 }) s m args below meth c H locs 0 0 (MQ below (pw_Q D cls9 ad C (pw_pi (fun v ad' C' => (ad' = ad ∧ rm_at ca ad C' res.2 ∧ rm_fr C C') ∧ v = res.1)) A) args s 0 0 A) (F0 m 107 ls [])) → ∀ (n : Nat) (x5_5 : Int32) (x4_5 : Int32) (x3_5 : Int32) (x2_5 : Int32) (x1_5 : Int32) (r : RS) (C1 : pw_C) (H : Heap) (locs : List Loc) (ls : Array Slot), m_arrange_24 K n x5_5 x4_5 x3_5 x2_5 x1_5 r = some res → rm_at ca ad C1 r → rm_fr C C1 → pw_H D cls9 A s.heap ad C ad C1 H locs → lv_has ls 6 [(5, .int x5_5), (4, .int x4_5), (3, .int x3_5), (2, .int x2_5), (0, .ref (ad 30 0)), (1, .int x1_5)] → W p l e ({ frames := 0, cells := 0, slots := 0, locals := 0 }) s m args below meth c H locs 0 0 (MQ below (pw_Q D cls9 ad C (pw_pi (fun v ad' C' => (ad' = ad ∧ rm_at ca ad C' res.2 ∧ rm_fr C C') ∧ v = res.1)) A) args s 0 0 A) (F0 m 24 ls []) := by
                intro K hKK n
                induction n with
                | zero => intro x5_5 x4_5 x3_5 x2_5 x1_5 r C1 H locs ls hE; rw [m_arrange_24] at hE; exact absurd hE (by simp)
                | succ n ih =>
                  intro x5_5 x4_5 x3_5 x2_5 x1_5 r C1 H locs ls hE hR hfr hw hl
                  rw [m_arrange_24] at hE
                  refine lv_iload hx hb d_M_arrange_24 (lv_at hl 0 rfl) ?_
                  refine lv_iconst (v := 4) hx hb d_M_arrange_26 (by decide) ?_
                  refine lv_iload_n hx hb d_M_arrange_27 rfl (lv_at hl 5 rfl) ?_
                  refine lv_imul hx hb d_M_arrange_28 ?_
                  refine lv_aload_n hx hb d_M_arrange_29 rfl (lv_at hl 4 rfl) ?_
                  have hc_6 : C1 30 0 = some (.inr (4, [.ref (ad 31 0), .ref (ad 31 1), .ref (ad 31 2), .ref (ad 31 3), .ref (ad 31 4), .ref (ad 31 5), .ref (ad 31 6), .ref (ad 31 7), .ref (ad 31 8), .ref (ad 31 9), .ref (ad 31 10), .ref (ad 31 11), .ref (ad 31 12), .ref (ad 31 13), .ref (ad 31 14), .int r.objects, .ref (ad 31 15), .int r.length, .ref (ad 31 16), .int r.waits, .ref (ad 31 17), .int r.given, .ref (ad 31 18), .ref (ad 31 19), .ref (ad 31 20), .int r.left, .ref (ad 31 21), .ref (ad 31 22), .int r.oldLength, .int r.oldWaits, .int r.oldGiven])) := by have h9 := rm_at.o hR; exact h9
                  refine pw_get (Cn := "GraphWriterModel") (T := F_M) (N := 31) hx hb hts in_M hown hK hw 30 0 rfl hc_6 rfl 4 (by decide) (hts _ wd_758) (fun _ h9 => h9) rfl d_M_arrange_30 ?_
                  refine lv_iload_n hx hb d_M_arrange_33 rfl (lv_at hl 5 rfl) ?_
                  have hc_7 : C1 31 4 = some (.inl (ca 0, 6, .inl r.fields)) := by have h9 := rm_at.a4 hR; exact h9
                  obtain ⟨v_8, hv_8, hE⟩ := ob_some hE
                  obtain ⟨hi_v_8, hj_v_8, he_v_8⟩ := rd_some (by decide) hv_8
                  refine pw_iald hx hb hK hw 31 4 rfl 0 hc_7 rfl (x1_5 : Int32).toNatClampNeg hi_v_8 (by omega) (by omega) d_M_arrange_34 ?_
                  rw [← he_v_8]
                  refine lv_iadd hx hb d_M_arrange_35 ?_
                  refine lv_icmp_ge (tgt := 107) hx hb d_M_arrange_36 (by decide) (fun c_9 => ?_) (fun c_9 => ?_)
                  · rw [if_pos c_9] at hE
                    exact hKK _ _ _ _ _ _ _ _ _ _ hE hR hfr hw (lv_sub hl [0, 1, 2, 3, 4, 5] rfl)
                  · rw [if_neg c_9] at hE
                    refine lv_aload_n hx hb d_M_arrange_39 rfl (lv_at hl 4 rfl) ?_
                    refine pw_get (Cn := "GraphWriterModel") (T := F_M) (N := 31) hx hb hts in_M hown hK hw 30 0 rfl hc_6 rfl 5 (by decide) (hts _ wd_759) (fun _ h9 => h9) rfl d_M_arrange_40 ?_
                    refine lv_iload hx hb d_M_arrange_43 (lv_at hl 0 rfl) ?_
                    have hc_10 : C1 31 5 = some (.inl (ca 0, 24, .inl r.fName)) := by have h9 := rm_at.a5 hR; exact h9
                    obtain ⟨v_11, hv_11, hE⟩ := ob_some hE
                    obtain ⟨hi_v_11, hj_v_11, he_v_11⟩ := rd_some (by decide) hv_11
                    refine pw_iald hx hb hK hw 31 5 rfl 0 hc_10 rfl (x5_5 : Int32).toNatClampNeg hi_v_11 (by omega) (by omega) d_M_arrange_45 ?_
                    rw [← he_v_11]
                    refine lv_iload hx hb d_M_arrange_46 (lv_at hl 1 rfl) ?_
                    refine lv_icmp_ne (tgt := 101) hx hb d_M_arrange_48 (by decide) (fun c_12 => ?_) (fun c_12 => ?_)
                    · rw [if_neg c_12] at hE
                      refine lv_iinc (v := x5_5 + 1) (lv' := [(5, .int (x5_5 + 1)), (4, .int x4_5), (3, .int x3_5), (2, .int x2_5), (0, .ref (ad 30 0)), (1, .int x1_5)]) hx hb d_M_arrange_101 hl (k := 0) rfl rfl (by decide) rfl (fun ls hl => ?_)
                      refine lv_goto (tgt := 24) hx hb d_M_arrange_104 (by decide) ?_
                      exact ih _ _ _ _ _ _ _ _ _ _ hE hR hfr hw (lv_sub hl [0, 1, 2, 3, 4, 5] rfl)
                    · rw [if_pos c_12] at hE
                      refine lv_aload_n hx hb d_M_arrange_51 rfl (lv_at hl 4 rfl) ?_
                      refine pw_get (Cn := "GraphWriterModel") (T := F_M) (N := 31) hx hb hts in_M hown hK hw 30 0 rfl hc_6 rfl 7 (by decide) (hts _ wd_761) (fun _ h9 => h9) rfl d_M_arrange_52 ?_
                      refine lv_iload hx hb d_M_arrange_55 (lv_at hl 0 rfl) ?_
                      have hc_13 : C1 31 7 = some (.inl (ca 3, 24, .inl r.fSkip)) := by have h9 := rm_at.a7 hR; exact h9
                      obtain ⟨v_14, hv_14, hE⟩ := ob_some hE
                      obtain ⟨hi_v_14, hj_v_14, he_v_14⟩ := rd_some (by decide) hv_14
                      refine pw_zald hx hb hK hw 31 7 rfl 3 hc_13 rfl (x5_5 : Int32).toNatClampNeg hi_v_14 (by omega) (by omega) d_M_arrange_57 ?_
                      rw [← he_v_14]
                      refine lv_if_ne (tgt := 101) hx hb d_M_arrange_58 (by decide) (fun c_15 => ?_) (fun c_15 => ?_)
                      · rw [if_neg c_15] at hE
                        refine lv_iinc (v := x5_5 + 1) (lv' := [(5, .int (x5_5 + 1)), (4, .int x4_5), (3, .int x3_5), (2, .int x2_5), (0, .ref (ad 30 0)), (1, .int x1_5)]) hx hb d_M_arrange_101 hl (k := 0) rfl rfl (by decide) rfl (fun ls hl => ?_)
                        refine lv_goto (tgt := 24) hx hb d_M_arrange_104 (by decide) ?_
                        exact ih _ _ _ _ _ _ _ _ _ _ hE hR hfr hw (lv_sub hl [0, 1, 2, 3, 4, 5] rfl)
                      · rw [if_pos c_15] at hE
                        refine lv_aload_n hx hb d_M_arrange_61 rfl (lv_at hl 4 rfl) ?_
                        refine pw_get (Cn := "GraphWriterModel") (T := F_M) (N := 31) hx hb hts in_M hown hK hw 30 0 rfl hc_6 rfl 6 (by decide) (hts _ wd_760) (fun _ h9 => h9) rfl d_M_arrange_62 ?_
                        refine lv_iload hx hb d_M_arrange_65 (lv_at hl 0 rfl) ?_
                        have hc_16 : C1 31 6 = some (.inl (ca 0, 24, .inl r.fType)) := by have h9 := rm_at.a6 hR; exact h9
                        obtain ⟨v_17, hv_17, hE⟩ := ob_some hE
                        obtain ⟨hi_v_17, hj_v_17, he_v_17⟩ := rd_some (by decide) hv_17
                        refine pw_iald hx hb hK hw 31 6 rfl 0 hc_16 rfl (x5_5 : Int32).toNatClampNeg hi_v_17 (by omega) (by omega) d_M_arrange_67 ?_
                        rw [← he_v_17]
                        refine lv_iconst (v := 5) hx hb d_M_arrange_68 (by decide) ?_
                        refine lv_icmp_le (tgt := 76) hx hb d_M_arrange_69 (by decide) (fun c_18 => ?_) (fun c_18 => ?_)
                        · rw [if_pos c_18] at hE
                          refine lv_iconst (v := 0) hx hb d_M_arrange_76 (by decide) ?_
                          refine lv_iload_n hx hb d_M_arrange_77 rfl (lv_at hl 2 rfl) ?_
                          refine lv_iconst (v := 1) hx hb d_M_arrange_78 (by decide) ?_
                          refine lv_icmp_ne (tgt := 86) hx hb d_M_arrange_79 (by decide) (fun c_19 => ?_) (fun c_19 => ?_)
                          · rw [if_neg c_19] at hE
                            refine lv_iconst (v := 0) hx hb d_M_arrange_86 (by decide) ?_
                            refine lv_icmp_ne (tgt := 101) hx hb d_M_arrange_87 (by decide) (fun c_20 => ?_) (fun c_20 => ?_)
                            · exact absurd rfl c_20
                            · skip
                              refine lv_aload_n hx hb d_M_arrange_90 rfl (lv_at hl 4 rfl) ?_
                              refine pw_get (Cn := "GraphWriterModel") (T := F_M) (N := 31) hx hb hts in_M hown hK hw 30 0 rfl hc_6 rfl 26 (by decide) (hts _ wd_780) (fun _ h9 => h9) rfl d_M_arrange_91 ?_
                              refine lv_iload_n hx hb d_M_arrange_94 rfl (lv_at hl 3 rfl) ?_
                              refine lv_iload hx hb d_M_arrange_95 (lv_at hl 0 rfl) ?_
                              have hc_21 : C1 31 21 = some (.inl (ca 0, 4, .inl r.order)) := by have h9 := rm_at.a21 hR; exact h9
                              obtain ⟨w_22, hw_22, hE⟩ := ob_some hE
                              obtain ⟨hi_w_22, hj_w_22, he_w_22⟩ := wr_some (by decide) hw_22
                              refine pw_iast hx hb hK hw 31 21 rfl 0 hc_21 rfl (by decide) (x2_5 : Int32).toNatClampNeg hi_w_22 (by omega) (by omega) d_M_arrange_97 (fun H locs hw => ?_)
                              rw [← he_w_22] at hw
                              have hw : pw_H D cls9 A s.heap ad C ad (pw_up C1 31 21 (some (.inl (ca 0, 4, .inl w_22)))) H _ := hw
                              generalize hC_23 : pw_up C1 31 21 (some (.inl (ca 0, 4, .inl w_22))) = C_23 at hw
                              have hR : rm_at ca ad C_23 (RS.s_order r w_22) := by rw [← hC_23]; exact rm_at.s21 hR _
                              have hfr : rm_fr C C_23 := fun x y h9 => by rw [← hC_23]; exact (pw_up_ne _ _ (by omega)).trans (hfr x y h9)
                              refine lv_iinc (v := x2_5 + 1) (lv' := [(2, .int (x2_5 + 1)), (5, .int x5_5), (4, .int x4_5), (3, .int x3_5), (0, .ref (ad 30 0)), (1, .int x1_5)]) hx hb d_M_arrange_98 hl (k := 3) rfl rfl (by decide) rfl (fun ls hl => ?_)
                              refine lv_iinc (v := x5_5 + 1) (lv' := [(5, .int (x5_5 + 1)), (2, .int (x2_5 + 1)), (4, .int x4_5), (3, .int x3_5), (0, .ref (ad 30 0)), (1, .int x1_5)]) hx hb d_M_arrange_101 hl (k := 1) rfl rfl (by decide) rfl (fun ls hl => ?_)
                              refine lv_goto (tgt := 24) hx hb d_M_arrange_104 (by decide) ?_
                              exact ih _ _ _ _ _ _ _ _ _ _ hE hR hfr hw (lv_sub hl [0, 2, 3, 1, 4, 5] rfl)
                          · rw [if_pos c_19] at hE
                            refine lv_iconst (v := 1) hx hb d_M_arrange_82 (by decide) ?_
                            refine lv_goto (tgt := 87) hx hb d_M_arrange_83 (by decide) ?_
                            refine lv_icmp_ne (tgt := 101) hx hb d_M_arrange_87 (by decide) (fun c_24 => ?_) (fun c_24 => ?_)
                            · skip
                              refine lv_iinc (v := x5_5 + 1) (lv' := [(5, .int (x5_5 + 1)), (4, .int x4_5), (3, .int x3_5), (2, .int x2_5), (0, .ref (ad 30 0)), (1, .int x1_5)]) hx hb d_M_arrange_101 hl (k := 0) rfl rfl (by decide) rfl (fun ls hl => ?_)
                              refine lv_goto (tgt := 24) hx hb d_M_arrange_104 (by decide) ?_
                              exact ih _ _ _ _ _ _ _ _ _ _ hE hR hfr hw (lv_sub hl [0, 1, 2, 3, 4, 5] rfl)
                            · exact absurd c_24 (by decide)
                        · rw [if_neg c_18] at hE
                          refine lv_iconst (v := 1) hx hb d_M_arrange_72 (by decide) ?_
                          refine lv_goto (tgt := 77) hx hb d_M_arrange_73 (by decide) ?_
                          refine lv_iload_n hx hb d_M_arrange_77 rfl (lv_at hl 2 rfl) ?_
                          refine lv_iconst (v := 1) hx hb d_M_arrange_78 (by decide) ?_
                          refine lv_icmp_ne (tgt := 86) hx hb d_M_arrange_79 (by decide) (fun c_25 => ?_) (fun c_25 => ?_)
                          · rw [if_neg c_25] at hE
                            refine lv_iconst (v := 0) hx hb d_M_arrange_86 (by decide) ?_
                            refine lv_icmp_ne (tgt := 101) hx hb d_M_arrange_87 (by decide) (fun c_26 => ?_) (fun c_26 => ?_)
                            · skip
                              refine lv_iinc (v := x5_5 + 1) (lv' := [(5, .int (x5_5 + 1)), (4, .int x4_5), (3, .int x3_5), (2, .int x2_5), (0, .ref (ad 30 0)), (1, .int x1_5)]) hx hb d_M_arrange_101 hl (k := 0) rfl rfl (by decide) rfl (fun ls hl => ?_)
                              refine lv_goto (tgt := 24) hx hb d_M_arrange_104 (by decide) ?_
                              exact ih _ _ _ _ _ _ _ _ _ _ hE hR hfr hw (lv_sub hl [0, 1, 2, 3, 4, 5] rfl)
                            · exact absurd c_26 (by decide)
                          · rw [if_pos c_25] at hE
                            refine lv_iconst (v := 1) hx hb d_M_arrange_82 (by decide) ?_
                            refine lv_goto (tgt := 87) hx hb d_M_arrange_83 (by decide) ?_
                            refine lv_icmp_ne (tgt := 101) hx hb d_M_arrange_87 (by decide) (fun c_27 => ?_) (fun c_27 => ?_)
                            · exact absurd rfl c_27
                            · skip
                              refine lv_aload_n hx hb d_M_arrange_90 rfl (lv_at hl 4 rfl) ?_
                              refine pw_get (Cn := "GraphWriterModel") (T := F_M) (N := 31) hx hb hts in_M hown hK hw 30 0 rfl hc_6 rfl 26 (by decide) (hts _ wd_780) (fun _ h9 => h9) rfl d_M_arrange_91 ?_
                              refine lv_iload_n hx hb d_M_arrange_94 rfl (lv_at hl 3 rfl) ?_
                              refine lv_iload hx hb d_M_arrange_95 (lv_at hl 0 rfl) ?_
                              have hc_28 : C1 31 21 = some (.inl (ca 0, 4, .inl r.order)) := by have h9 := rm_at.a21 hR; exact h9
                              obtain ⟨w_29, hw_29, hE⟩ := ob_some hE
                              obtain ⟨hi_w_29, hj_w_29, he_w_29⟩ := wr_some (by decide) hw_29
                              refine pw_iast hx hb hK hw 31 21 rfl 0 hc_28 rfl (by decide) (x2_5 : Int32).toNatClampNeg hi_w_29 (by omega) (by omega) d_M_arrange_97 (fun H locs hw => ?_)
                              rw [← he_w_29] at hw
                              have hw : pw_H D cls9 A s.heap ad C ad (pw_up C1 31 21 (some (.inl (ca 0, 4, .inl w_29)))) H _ := hw
                              generalize hC_30 : pw_up C1 31 21 (some (.inl (ca 0, 4, .inl w_29))) = C_30 at hw
                              have hR : rm_at ca ad C_30 (RS.s_order r w_29) := by rw [← hC_30]; exact rm_at.s21 hR _
                              have hfr : rm_fr C C_30 := fun x y h9 => by rw [← hC_30]; exact (pw_up_ne _ _ (by omega)).trans (hfr x y h9)
                              refine lv_iinc (v := x2_5 + 1) (lv' := [(2, .int (x2_5 + 1)), (5, .int x5_5), (4, .int x4_5), (3, .int x3_5), (0, .ref (ad 30 0)), (1, .int x1_5)]) hx hb d_M_arrange_98 hl (k := 3) rfl rfl (by decide) rfl (fun ls hl => ?_)
                              refine lv_iinc (v := x5_5 + 1) (lv' := [(5, .int (x5_5 + 1)), (2, .int (x2_5 + 1)), (4, .int x4_5), (3, .int x3_5), (0, .ref (ad 30 0)), (1, .int x1_5)]) hx hb d_M_arrange_101 hl (k := 1) rfl rfl (by decide) rfl (fun ls hl => ?_)
                              refine lv_goto (tgt := 24) hx hb d_M_arrange_104 (by decide) ?_
                              exact ih _ _ _ _ _ _ _ _ _ _ hE hR hfr hw (lv_sub hl [0, 2, 3, 1, 4, 5] rfl)
              refine lp_5 _ (fun z5_5 z4_5 z3_5 z2_5 z1_5 r_31 C_32 H locs ls hE hR hfr hw hl => ?_) 60 _ _ _ _ _ _ _ _ _ _ hE hR hfr hw hl
              try dsimp only at hE
              refine lv_iinc (v := z4_5 + 1) (lv' := [(4, .int (z4_5 + 1)), (5, .int z5_5), (3, .int z3_5), (2, .int z2_5), (0, .ref (ad 30 0)), (1, .int z1_5)]) hx hb d_M_arrange_107 hl (k := 1) rfl rfl (by decide) rfl (fun ls hl => ?_)
              refine lv_goto (tgt := 12) hx hb d_M_arrange_110 (by decide) ?_
              exact ih _ _ _ _ _ _ _ _ _ hE hR hfr hw (lv_sub hl [0, 2, 3, 4, 5] rfl)
        refine lp_3 _ (fun z4_3 z3_3 z2_3 z1_3 r_33 C_34 H locs ls hE hR hfr hw hl => ?_) 60 _ _ _ _ _ _ _ _ _ hE hR hfr hw hl
        try dsimp only at hE
        refine lv_iinc (v := z3_3 + 1) (lv' := [(3, .int (z3_3 + 1)), (4, .int z4_3), (2, .int z2_3), (0, .ref (ad 30 0)), (1, .int z1_3)]) hx hb d_M_arrange_113 hl (k := 1) rfl rfl (by decide) rfl (fun ls hl => ?_)
        refine lv_goto (tgt := 4) hx hb d_M_arrange_116 (by decide) ?_
        exact ih _ _ _ _ _ _ _ _ hE hR hfr hw (lv_sub hl [0, 2, 3, 4] rfl)
  refine lp_1 _ (fun z3_1 z2_1 z1_1 r_35 C_36 H locs ls hE hR hfr hw hl => ?_) 60 _ _ _ _ _ _ _ _ hE hR hfr hw hl
  try dsimp only at hE
  refine lv_iload_n hx hb d_M_arrange_119 rfl (lv_at hl 1 rfl) ?_
  obtain rfl := Option.some.inj hE
  exact pw_iret hx hb hr hlocks hw ⟨⟨rfl, hR, hfr⟩, rfl⟩ d_M_arrange_120
def m_typeSigns (l1 : Int32) (r : RS) : Option RS := if (l1 : Int32) = 6 then (Option.bind (m_append 2 2 r) (fun y_22 => Option.bind (m_append 23369 2 y_22) (fun y_27 => some y_27))) else (Option.bind (m_append 18 2 r) (fun y_2 => Option.bind (m_append 5506320655478385761 8 y_2) (fun y_7 => Option.bind (m_append 7955379284773332323 8 y_7) (fun y_12 => Option.bind (m_append 29755 2 y_12) (fun y_17 => some y_17)))))
set_option maxHeartbeats 4000000 in
set_option maxRecDepth 100000 in
theorem k_M_typeSigns {l : Launch} {D : va_G} {ca : Nat → ClassId} {kS : Nat → Nat} {kT : Nat} {ad : pw_A} {C : pw_C} {r : RS} (hR : rm_at ca ad C r) {l1 : Int32} {res : RS} (hE : m_typeSigns l1 r = some res) : gc_Con l y_M_typeSigns c_M_typeSigns ({ frames := 1, cells := 0, slots := 0, locals := 24 }) D ca (z9_Z kS kT) [.ref (ad 30 0), .int l1] ad C (pw_pv (fun ad' C' => ad' = ad ∧ rm_at ca ad C' res ∧ rm_fr C C')) 0 0 := by
  have hZ := z9_ok kS kT
  refine pw_ofW (cc := b_M_typeSigns) (maxL := 2) (ret := none) (by decide) rfl (Nat.le_of_ble_eq_true rfl) ?_
  intro p e s m args below meth c A ls hB hA hw hK hz hl
  obtain ⟨hx, hb, hr, hml, hts0, hlocks, hown, hnm⟩ := hB
  have hts := wd_hts hts0
  have hown : s.vm.findClass "GraphWriterModel" = some m.cls := hown
  have hl : lv_has ls 2 [(0, .ref (ad 30 0)), (1, .int l1)] := hl
  have hfr : rm_fr C C := fun _ _ _ => rfl
  unfold m_typeSigns at hE
  refine lv_iload_n hx hb d_M_typeSigns_0 rfl (lv_at hl 1 rfl) ?_
  refine lv_bipush (v := 6) hx hb d_M_typeSigns_1 (by decide) ?_
  refine lv_icmp_ne (tgt := 25) hx hb d_M_typeSigns_3 (by decide) (fun c_1 => ?_) (fun c_1 => ?_)
  · rw [if_neg c_1] at hE
    refine lv_aload_n hx hb d_M_typeSigns_25 rfl (lv_at hl 0 rfl) ?_
    refine lv_ldc2 (v := 18) hx hb hown (hts _ wd_1023) d_M_typeSigns_26 ?_
    refine lv_iconst (v := 2) hx hb d_M_typeSigns_29 (by decide) ?_
    obtain ⟨y_2, hy_2, hE⟩ := ob_some hE
    have hc_3 : C 30 0 = some (.inr (4, [.ref (ad 31 0), .ref (ad 31 1), .ref (ad 31 2), .ref (ad 31 3), .ref (ad 31 4), .ref (ad 31 5), .ref (ad 31 6), .ref (ad 31 7), .ref (ad 31 8), .ref (ad 31 9), .ref (ad 31 10), .ref (ad 31 11), .ref (ad 31 12), .ref (ad 31 13), .ref (ad 31 14), .int r.objects, .ref (ad 31 15), .int r.length, .ref (ad 31 16), .int r.waits, .ref (ad 31 17), .int r.given, .ref (ad 31 18), .ref (ad 31 19), .ref (ad 31 20), .int r.left, .ref (ad 31 21), .ref (ad 31 22), .int r.oldLength, .int r.oldWaits, .int r.oldGiven])) := by have h9 := rm_at.o hR; exact h9
    refine pw_callv (va_runV (As := [.long 18, .int 2]) (rest := []) ⟨hx, hb, hml, hown, hts0⟩ (k_M_append hR hy_2 _) (cwV 2 hts0 (wd_V wd_748 wd_745 wd_747 wd_20 wd_56) rfl rfl rfl (by decide +kernel) ⟨Nat.le_of_ble_eq_true rfl, Nat.le_of_ble_eq_true rfl⟩) (pw_preV hZ hw hA hK hz rfl hc_3 rfl) rfl rfl hl.1 rfl (lv_room (Nat.le_of_ble_eq_true rfl)) d_M_typeSigns_30 ⟨Nat.le_of_ble_eq_true rfl, Nat.le_of_ble_eq_true rfl⟩) hw hA (fun ad_4 C_5 H locs hp hw => ?_)
    obtain ⟨hae, hR, hf1⟩ := hp
    rw [hae] at hw
    clear hae
    have hfr : rm_fr C C_5 := fun x y h9 => (hf1 x y h9).trans (hfr x y h9)
    clear hf1
    refine lv_aload_n hx hb d_M_typeSigns_33 rfl (lv_at hl 0 rfl) ?_
    refine lv_ldc2 (v := 5506320655478385761) hx hb hown (hts _ wd_1024) d_M_typeSigns_34 ?_
    refine lv_bipush (v := 8) hx hb d_M_typeSigns_37 (by decide) ?_
    obtain ⟨y_7, hy_7, hE⟩ := ob_some hE
    have hc_8 : C_5 30 0 = some (.inr (4, [.ref (ad 31 0), .ref (ad 31 1), .ref (ad 31 2), .ref (ad 31 3), .ref (ad 31 4), .ref (ad 31 5), .ref (ad 31 6), .ref (ad 31 7), .ref (ad 31 8), .ref (ad 31 9), .ref (ad 31 10), .ref (ad 31 11), .ref (ad 31 12), .ref (ad 31 13), .ref (ad 31 14), .int y_2.objects, .ref (ad 31 15), .int y_2.length, .ref (ad 31 16), .int y_2.waits, .ref (ad 31 17), .int y_2.given, .ref (ad 31 18), .ref (ad 31 19), .ref (ad 31 20), .int y_2.left, .ref (ad 31 21), .ref (ad 31 22), .int y_2.oldLength, .int y_2.oldWaits, .int y_2.oldGiven])) := by have h9 := rm_at.o hR; exact h9
    refine pw_callv (va_runV (As := [.long 5506320655478385761, .int 8]) (rest := []) ⟨hx, hb, hml, hown, hts0⟩ (k_M_append hR hy_7 _) (cwV 2 hts0 (wd_V wd_748 wd_745 wd_747 wd_20 wd_56) rfl rfl rfl (by decide +kernel) ⟨Nat.le_of_ble_eq_true rfl, Nat.le_of_ble_eq_true rfl⟩) (pw_preV hZ hw hA hK hz rfl hc_8 rfl) rfl rfl hl.1 rfl (lv_room (Nat.le_of_ble_eq_true rfl)) d_M_typeSigns_39 ⟨Nat.le_of_ble_eq_true rfl, Nat.le_of_ble_eq_true rfl⟩) hw hA (fun ad_9 C_10 H locs hp hw => ?_)
    obtain ⟨hae, hR, hf1⟩ := hp
    rw [hae] at hw
    clear hae
    have hfr : rm_fr C C_10 := fun x y h9 => (hf1 x y h9).trans (hfr x y h9)
    clear hf1
    refine lv_aload_n hx hb d_M_typeSigns_42 rfl (lv_at hl 0 rfl) ?_
    refine lv_ldc2 (v := 7955379284773332323) hx hb hown (hts _ wd_1025) d_M_typeSigns_43 ?_
    refine lv_bipush (v := 8) hx hb d_M_typeSigns_46 (by decide) ?_
    obtain ⟨y_12, hy_12, hE⟩ := ob_some hE
    have hc_13 : C_10 30 0 = some (.inr (4, [.ref (ad 31 0), .ref (ad 31 1), .ref (ad 31 2), .ref (ad 31 3), .ref (ad 31 4), .ref (ad 31 5), .ref (ad 31 6), .ref (ad 31 7), .ref (ad 31 8), .ref (ad 31 9), .ref (ad 31 10), .ref (ad 31 11), .ref (ad 31 12), .ref (ad 31 13), .ref (ad 31 14), .int y_7.objects, .ref (ad 31 15), .int y_7.length, .ref (ad 31 16), .int y_7.waits, .ref (ad 31 17), .int y_7.given, .ref (ad 31 18), .ref (ad 31 19), .ref (ad 31 20), .int y_7.left, .ref (ad 31 21), .ref (ad 31 22), .int y_7.oldLength, .int y_7.oldWaits, .int y_7.oldGiven])) := by have h9 := rm_at.o hR; exact h9
    refine pw_callv (va_runV (As := [.long 7955379284773332323, .int 8]) (rest := []) ⟨hx, hb, hml, hown, hts0⟩ (k_M_append hR hy_12 _) (cwV 2 hts0 (wd_V wd_748 wd_745 wd_747 wd_20 wd_56) rfl rfl rfl (by decide +kernel) ⟨Nat.le_of_ble_eq_true rfl, Nat.le_of_ble_eq_true rfl⟩) (pw_preV hZ hw hA hK hz rfl hc_13 rfl) rfl rfl hl.1 rfl (lv_room (Nat.le_of_ble_eq_true rfl)) d_M_typeSigns_48 ⟨Nat.le_of_ble_eq_true rfl, Nat.le_of_ble_eq_true rfl⟩) hw hA (fun ad_14 C_15 H locs hp hw => ?_)
    obtain ⟨hae, hR, hf1⟩ := hp
    rw [hae] at hw
    clear hae
    have hfr : rm_fr C C_15 := fun x y h9 => (hf1 x y h9).trans (hfr x y h9)
    clear hf1
    refine lv_aload_n hx hb d_M_typeSigns_51 rfl (lv_at hl 0 rfl) ?_
    refine lv_ldc2 (v := 29755) hx hb hown (hts _ wd_1026) d_M_typeSigns_52 ?_
    refine lv_iconst (v := 2) hx hb d_M_typeSigns_55 (by decide) ?_
    obtain ⟨y_17, hy_17, hE⟩ := ob_some hE
    have hc_18 : C_15 30 0 = some (.inr (4, [.ref (ad 31 0), .ref (ad 31 1), .ref (ad 31 2), .ref (ad 31 3), .ref (ad 31 4), .ref (ad 31 5), .ref (ad 31 6), .ref (ad 31 7), .ref (ad 31 8), .ref (ad 31 9), .ref (ad 31 10), .ref (ad 31 11), .ref (ad 31 12), .ref (ad 31 13), .ref (ad 31 14), .int y_12.objects, .ref (ad 31 15), .int y_12.length, .ref (ad 31 16), .int y_12.waits, .ref (ad 31 17), .int y_12.given, .ref (ad 31 18), .ref (ad 31 19), .ref (ad 31 20), .int y_12.left, .ref (ad 31 21), .ref (ad 31 22), .int y_12.oldLength, .int y_12.oldWaits, .int y_12.oldGiven])) := by have h9 := rm_at.o hR; exact h9
    refine pw_callv (va_runV (As := [.long 29755, .int 2]) (rest := []) ⟨hx, hb, hml, hown, hts0⟩ (k_M_append hR hy_17 _) (cwV 2 hts0 (wd_V wd_748 wd_745 wd_747 wd_20 wd_56) rfl rfl rfl (by decide +kernel) ⟨Nat.le_of_ble_eq_true rfl, Nat.le_of_ble_eq_true rfl⟩) (pw_preV hZ hw hA hK hz rfl hc_18 rfl) rfl rfl hl.1 rfl (lv_room (Nat.le_of_ble_eq_true rfl)) d_M_typeSigns_56 ⟨Nat.le_of_ble_eq_true rfl, Nat.le_of_ble_eq_true rfl⟩) hw hA (fun ad_19 C_20 H locs hp hw => ?_)
    obtain ⟨hae, hR, hf1⟩ := hp
    rw [hae] at hw
    clear hae
    have hfr : rm_fr C C_20 := fun x y h9 => (hf1 x y h9).trans (hfr x y h9)
    clear hf1
    obtain rfl := Option.some.inj hE
    exact pw_vret hx hb hr hlocks hw ⟨rfl, hR, hfr⟩ d_M_typeSigns_59
  · rw [if_pos c_1] at hE
    refine lv_aload_n hx hb d_M_typeSigns_6 rfl (lv_at hl 0 rfl) ?_
    refine lv_ldc2 (v := 2) hx hb hown (hts _ wd_969) d_M_typeSigns_7 ?_
    refine lv_iconst (v := 2) hx hb d_M_typeSigns_10 (by decide) ?_
    obtain ⟨y_22, hy_22, hE⟩ := ob_some hE
    have hc_23 : C 30 0 = some (.inr (4, [.ref (ad 31 0), .ref (ad 31 1), .ref (ad 31 2), .ref (ad 31 3), .ref (ad 31 4), .ref (ad 31 5), .ref (ad 31 6), .ref (ad 31 7), .ref (ad 31 8), .ref (ad 31 9), .ref (ad 31 10), .ref (ad 31 11), .ref (ad 31 12), .ref (ad 31 13), .ref (ad 31 14), .int r.objects, .ref (ad 31 15), .int r.length, .ref (ad 31 16), .int r.waits, .ref (ad 31 17), .int r.given, .ref (ad 31 18), .ref (ad 31 19), .ref (ad 31 20), .int r.left, .ref (ad 31 21), .ref (ad 31 22), .int r.oldLength, .int r.oldWaits, .int r.oldGiven])) := by have h9 := rm_at.o hR; exact h9
    refine pw_callv (va_runV (As := [.long 2, .int 2]) (rest := []) ⟨hx, hb, hml, hown, hts0⟩ (k_M_append hR hy_22 _) (cwV 2 hts0 (wd_V wd_748 wd_745 wd_747 wd_20 wd_56) rfl rfl rfl (by decide +kernel) ⟨Nat.le_of_ble_eq_true rfl, Nat.le_of_ble_eq_true rfl⟩) (pw_preV hZ hw hA hK hz rfl hc_23 rfl) rfl rfl hl.1 rfl (lv_room (Nat.le_of_ble_eq_true rfl)) d_M_typeSigns_11 ⟨Nat.le_of_ble_eq_true rfl, Nat.le_of_ble_eq_true rfl⟩) hw hA (fun ad_24 C_25 H locs hp hw => ?_)
    obtain ⟨hae, hR, hf1⟩ := hp
    rw [hae] at hw
    clear hae
    have hfr : rm_fr C C_25 := fun x y h9 => (hf1 x y h9).trans (hfr x y h9)
    clear hf1
    refine lv_aload_n hx hb d_M_typeSigns_14 rfl (lv_at hl 0 rfl) ?_
    refine lv_ldc2 (v := 23369) hx hb hown (hts _ wd_970) d_M_typeSigns_15 ?_
    refine lv_iconst (v := 2) hx hb d_M_typeSigns_18 (by decide) ?_
    obtain ⟨y_27, hy_27, hE⟩ := ob_some hE
    have hc_28 : C_25 30 0 = some (.inr (4, [.ref (ad 31 0), .ref (ad 31 1), .ref (ad 31 2), .ref (ad 31 3), .ref (ad 31 4), .ref (ad 31 5), .ref (ad 31 6), .ref (ad 31 7), .ref (ad 31 8), .ref (ad 31 9), .ref (ad 31 10), .ref (ad 31 11), .ref (ad 31 12), .ref (ad 31 13), .ref (ad 31 14), .int y_22.objects, .ref (ad 31 15), .int y_22.length, .ref (ad 31 16), .int y_22.waits, .ref (ad 31 17), .int y_22.given, .ref (ad 31 18), .ref (ad 31 19), .ref (ad 31 20), .int y_22.left, .ref (ad 31 21), .ref (ad 31 22), .int y_22.oldLength, .int y_22.oldWaits, .int y_22.oldGiven])) := by have h9 := rm_at.o hR; exact h9
    refine pw_callv (va_runV (As := [.long 23369, .int 2]) (rest := []) ⟨hx, hb, hml, hown, hts0⟩ (k_M_append hR hy_27 _) (cwV 2 hts0 (wd_V wd_748 wd_745 wd_747 wd_20 wd_56) rfl rfl rfl (by decide +kernel) ⟨Nat.le_of_ble_eq_true rfl, Nat.le_of_ble_eq_true rfl⟩) (pw_preV hZ hw hA hK hz rfl hc_28 rfl) rfl rfl hl.1 rfl (lv_room (Nat.le_of_ble_eq_true rfl)) d_M_typeSigns_19 ⟨Nat.le_of_ble_eq_true rfl, Nat.le_of_ble_eq_true rfl⟩) hw hA (fun ad_29 C_30 H locs hp hw => ?_)
    obtain ⟨hae, hR, hf1⟩ := hp
    rw [hae] at hw
    clear hae
    have hfr : rm_fr C C_30 := fun x y h9 => (hf1 x y h9).trans (hfr x y h9)
    clear hf1
    refine lv_goto (tgt := 59) hx hb d_M_typeSigns_22 (by decide) ?_
    obtain rfl := Option.some.inj hE
    exact pw_vret hx hb hr hlocks hw ⟨rfl, hR, hfr⟩ d_M_typeSigns_59
def m_fieldEntry (l1 : Int32) (r : RS) : Option RS := Option.bind (rd r.fType 24 l1) (fun v_3 => if (v_3 : Int32) = 0 then (Option.bind (m_append 66 1 r) (fun y_249 => Option.bind (rd y_249.fName 24 l1) (fun v_255 => Option.bind (m_letter (97 + v_255) y_249) (fun y_256 => if (6 : Int32) ≤ v_3 then (Option.bind (rd y_256.handles 51 (v_3 + 43)) (fun v_263 => if (v_263 : Int32) < 0 then (Option.bind (m_append 116 1 y_256) (fun y_265 => Option.bind (m_give (v_3 + 43) y_265) (fun y_269 => Option.bind (m_typeSigns v_3 y_269) (fun y_274 => some y_274)))) else (Option.bind (m_refer (v_3 + 43) y_256) (fun y_279 => some y_279)))) else (some y_256))))) else (if (v_3 : Int32) = 1 then (Option.bind (m_append 67 1 r) (fun y_215 => Option.bind (rd y_215.fName 24 l1) (fun v_221 => Option.bind (m_letter (97 + v_221) y_215) (fun y_222 => if (6 : Int32) ≤ v_3 then (Option.bind (rd y_222.handles 51 (v_3 + 43)) (fun v_229 => if (v_229 : Int32) < 0 then (Option.bind (m_append 116 1 y_222) (fun y_231 => Option.bind (m_give (v_3 + 43) y_231) (fun y_235 => Option.bind (m_typeSigns v_3 y_235) (fun y_240 => some y_240)))) else (Option.bind (m_refer (v_3 + 43) y_222) (fun y_245 => some y_245)))) else (some y_222))))) else (if (v_3 : Int32) = 2 then (Option.bind (m_append 73 1 r) (fun y_181 => Option.bind (rd y_181.fName 24 l1) (fun v_187 => Option.bind (m_letter (97 + v_187) y_181) (fun y_188 => if (6 : Int32) ≤ v_3 then (Option.bind (rd y_188.handles 51 (v_3 + 43)) (fun v_195 => if (v_195 : Int32) < 0 then (Option.bind (m_append 116 1 y_188) (fun y_197 => Option.bind (m_give (v_3 + 43) y_197) (fun y_201 => Option.bind (m_typeSigns v_3 y_201) (fun y_206 => some y_206)))) else (Option.bind (m_refer (v_3 + 43) y_188) (fun y_211 => some y_211)))) else (some y_188))))) else (if (v_3 : Int32) = 3 then (Option.bind (m_append 74 1 r) (fun y_147 => Option.bind (rd y_147.fName 24 l1) (fun v_153 => Option.bind (m_letter (97 + v_153) y_147) (fun y_154 => if (6 : Int32) ≤ v_3 then (Option.bind (rd y_154.handles 51 (v_3 + 43)) (fun v_161 => if (v_161 : Int32) < 0 then (Option.bind (m_append 116 1 y_154) (fun y_163 => Option.bind (m_give (v_3 + 43) y_163) (fun y_167 => Option.bind (m_typeSigns v_3 y_167) (fun y_172 => some y_172)))) else (Option.bind (m_refer (v_3 + 43) y_154) (fun y_177 => some y_177)))) else (some y_154))))) else (if (v_3 : Int32) = 4 then (Option.bind (m_append 83 1 r) (fun y_113 => Option.bind (rd y_113.fName 24 l1) (fun v_119 => Option.bind (m_letter (97 + v_119) y_113) (fun y_120 => if (6 : Int32) ≤ v_3 then (Option.bind (rd y_120.handles 51 (v_3 + 43)) (fun v_127 => if (v_127 : Int32) < 0 then (Option.bind (m_append 116 1 y_120) (fun y_129 => Option.bind (m_give (v_3 + 43) y_129) (fun y_133 => Option.bind (m_typeSigns v_3 y_133) (fun y_138 => some y_138)))) else (Option.bind (m_refer (v_3 + 43) y_120) (fun y_143 => some y_143)))) else (some y_120))))) else (if (v_3 : Int32) = 5 then (Option.bind (m_append 90 1 r) (fun y_79 => Option.bind (rd y_79.fName 24 l1) (fun v_85 => Option.bind (m_letter (97 + v_85) y_79) (fun y_86 => if (6 : Int32) ≤ v_3 then (Option.bind (rd y_86.handles 51 (v_3 + 43)) (fun v_93 => if (v_93 : Int32) < 0 then (Option.bind (m_append 116 1 y_86) (fun y_95 => Option.bind (m_give (v_3 + 43) y_95) (fun y_99 => Option.bind (m_typeSigns v_3 y_99) (fun y_104 => some y_104)))) else (Option.bind (m_refer (v_3 + 43) y_86) (fun y_109 => some y_109)))) else (some y_86))))) else (if (v_3 : Int32) = 6 then (Option.bind (m_append 91 1 r) (fun y_45 => Option.bind (rd y_45.fName 24 l1) (fun v_51 => Option.bind (m_letter (97 + v_51) y_45) (fun y_52 => if (6 : Int32) ≤ v_3 then (Option.bind (rd y_52.handles 51 (v_3 + 43)) (fun v_59 => if (v_59 : Int32) < 0 then (Option.bind (m_append 116 1 y_52) (fun y_61 => Option.bind (m_give (v_3 + 43) y_61) (fun y_65 => Option.bind (m_typeSigns v_3 y_65) (fun y_70 => some y_70)))) else (Option.bind (m_refer (v_3 + 43) y_52) (fun y_75 => some y_75)))) else (some y_52))))) else (Option.bind (m_append 76 1 r) (fun y_11 => Option.bind (rd y_11.fName 24 l1) (fun v_17 => Option.bind (m_letter (97 + v_17) y_11) (fun y_18 => if (6 : Int32) ≤ v_3 then (Option.bind (rd y_18.handles 51 (v_3 + 43)) (fun v_25 => if (v_25 : Int32) < 0 then (Option.bind (m_append 116 1 y_18) (fun y_27 => Option.bind (m_give (v_3 + 43) y_27) (fun y_31 => Option.bind (m_typeSigns v_3 y_31) (fun y_36 => some y_36)))) else (Option.bind (m_refer (v_3 + 43) y_18) (fun y_41 => some y_41)))) else (some y_18))))))))))))
set_option maxHeartbeats 4000000 in
set_option maxRecDepth 100000 in
theorem k_M_fieldEntry {l : Launch} {D : va_G} {ca : Nat → ClassId} {kS : Nat → Nat} {kT : Nat} {ad : pw_A} {C : pw_C} {r : RS} (hR : rm_at ca ad C r) {l1 : Int32} {res : RS} (hE : m_fieldEntry l1 r = some res) : gc_Con l y_M_fieldEntry c_M_fieldEntry ({ frames := 2, cells := 0, slots := 0, locals := 45 }) D ca (z9_Z kS kT) [.ref (ad 30 0), .int l1] ad C (pw_pv (fun ad' C' => ad' = ad ∧ rm_at ca ad C' res ∧ rm_fr C C')) 0 0 := by
  have hZ := z9_ok kS kT
  refine pw_ofW (cc := b_M_fieldEntry) (maxL := 4) (ret := none) (by decide) rfl (Nat.le_of_ble_eq_true rfl) ?_
  intro p e s m args below meth c A ls hB hA hw hK hz hl
  obtain ⟨hx, hb, hr, hml, hts0, hlocks, hown, hnm⟩ := hB
  have hts := wd_hts hts0
  have hown : s.vm.findClass "GraphWriterModel" = some m.cls := hown
  have hl : lv_has ls 4 [(0, .ref (ad 30 0)), (1, .int l1)] := hl
  have hfr : rm_fr C C := fun _ _ _ => rfl
  unfold m_fieldEntry at hE
  refine lv_aload_n hx hb d_M_fieldEntry_0 rfl (lv_at hl 0 rfl) ?_
  have hc_1 : C 30 0 = some (.inr (4, [.ref (ad 31 0), .ref (ad 31 1), .ref (ad 31 2), .ref (ad 31 3), .ref (ad 31 4), .ref (ad 31 5), .ref (ad 31 6), .ref (ad 31 7), .ref (ad 31 8), .ref (ad 31 9), .ref (ad 31 10), .ref (ad 31 11), .ref (ad 31 12), .ref (ad 31 13), .ref (ad 31 14), .int r.objects, .ref (ad 31 15), .int r.length, .ref (ad 31 16), .int r.waits, .ref (ad 31 17), .int r.given, .ref (ad 31 18), .ref (ad 31 19), .ref (ad 31 20), .int r.left, .ref (ad 31 21), .ref (ad 31 22), .int r.oldLength, .int r.oldWaits, .int r.oldGiven])) := by have h9 := rm_at.o hR; exact h9
  refine pw_get (Cn := "GraphWriterModel") (T := F_M) (N := 31) hx hb hts in_M hown hK hw 30 0 rfl hc_1 rfl 6 (by decide) (hts _ wd_760) (fun _ h9 => h9) rfl d_M_fieldEntry_1 ?_
  refine lv_iload_n hx hb d_M_fieldEntry_4 rfl (lv_at hl 1 rfl) ?_
  have hc_2 : C 31 6 = some (.inl (ca 0, 24, .inl r.fType)) := by have h9 := rm_at.a6 hR; exact h9
  obtain ⟨v_3, hv_3, hE⟩ := ob_some hE
  obtain ⟨hi_v_3, hj_v_3, he_v_3⟩ := rd_some (by decide) hv_3
  refine pw_iald hx hb hK hw 31 6 rfl 0 hc_2 rfl (l1 : Int32).toNatClampNeg hi_v_3 (by omega) (by omega) d_M_fieldEntry_5 ?_
  rw [← he_v_3]
  refine lv_istore_n (lv' := [(2, .int v_3), (0, .ref (ad 30 0)), (1, .int l1)]) hx hb d_M_fieldEntry_6 rfl hl (by decide) rfl (fun ls hl => ?_)
  refine lv_aload_n hx hb d_M_fieldEntry_7 rfl (lv_at hl 1 rfl) ?_
  refine lv_iload_n hx hb d_M_fieldEntry_8 rfl (lv_at hl 0 rfl) ?_
  refine lv_if_ne (tgt := 18) hx hb d_M_fieldEntry_9 (by decide) (fun c_4 => ?_) (fun c_4 => ?_)
  · rw [if_neg c_4] at hE
    refine lv_iload_n hx hb d_M_fieldEntry_18 rfl (lv_at hl 0 rfl) ?_
    refine lv_iconst (v := 1) hx hb d_M_fieldEntry_19 (by decide) ?_
    refine lv_icmp_ne (tgt := 29) hx hb d_M_fieldEntry_20 (by decide) (fun c_5 => ?_) (fun c_5 => ?_)
    · rw [if_neg c_5] at hE
      refine lv_iload_n hx hb d_M_fieldEntry_29 rfl (lv_at hl 0 rfl) ?_
      refine lv_iconst (v := 2) hx hb d_M_fieldEntry_30 (by decide) ?_
      refine lv_icmp_ne (tgt := 40) hx hb d_M_fieldEntry_31 (by decide) (fun c_6 => ?_) (fun c_6 => ?_)
      · rw [if_neg c_6] at hE
        refine lv_iload_n hx hb d_M_fieldEntry_40 rfl (lv_at hl 0 rfl) ?_
        refine lv_iconst (v := 3) hx hb d_M_fieldEntry_41 (by decide) ?_
        refine lv_icmp_ne (tgt := 51) hx hb d_M_fieldEntry_42 (by decide) (fun c_7 => ?_) (fun c_7 => ?_)
        · rw [if_neg c_7] at hE
          refine lv_iload_n hx hb d_M_fieldEntry_51 rfl (lv_at hl 0 rfl) ?_
          refine lv_iconst (v := 4) hx hb d_M_fieldEntry_52 (by decide) ?_
          refine lv_icmp_ne (tgt := 62) hx hb d_M_fieldEntry_53 (by decide) (fun c_8 => ?_) (fun c_8 => ?_)
          · rw [if_neg c_8] at hE
            refine lv_iload_n hx hb d_M_fieldEntry_62 rfl (lv_at hl 0 rfl) ?_
            refine lv_iconst (v := 5) hx hb d_M_fieldEntry_63 (by decide) ?_
            refine lv_icmp_ne (tgt := 73) hx hb d_M_fieldEntry_64 (by decide) (fun c_9 => ?_) (fun c_9 => ?_)
            · rw [if_neg c_9] at hE
              refine lv_iload_n hx hb d_M_fieldEntry_73 rfl (lv_at hl 0 rfl) ?_
              refine lv_bipush (v := 6) hx hb d_M_fieldEntry_74 (by decide) ?_
              refine lv_icmp_ne (tgt := 85) hx hb d_M_fieldEntry_76 (by decide) (fun c_10 => ?_) (fun c_10 => ?_)
              · rw [if_neg c_10] at hE
                refine lv_ldc2 (v := 76) hx hb hown (hts _ wd_1018) d_M_fieldEntry_85 ?_
                refine lv_iconst (v := 1) hx hb d_M_fieldEntry_88 (by decide) ?_
                obtain ⟨y_11, hy_11, hE⟩ := ob_some hE
                refine pw_callv (va_runV (As := [.long 76, .int 1]) (rest := []) ⟨hx, hb, hml, hown, hts0⟩ (k_M_append hR hy_11 _) (cwV 2 hts0 (wd_V wd_748 wd_745 wd_747 wd_20 wd_56) rfl rfl rfl (by decide +kernel) ⟨Nat.le_of_ble_eq_true rfl, Nat.le_of_ble_eq_true rfl⟩) (pw_preV hZ hw hA hK hz rfl hc_1 rfl) rfl rfl hl.1 rfl (lv_room (Nat.le_of_ble_eq_true rfl)) d_M_fieldEntry_89 ⟨Nat.le_of_ble_eq_true rfl, Nat.le_of_ble_eq_true rfl⟩) hw hA (fun ad_12 C_13 H locs hp hw => ?_)
                obtain ⟨hae, hR, hf1⟩ := hp
                rw [hae] at hw
                clear hae
                have hfr : rm_fr C C_13 := fun x y h9 => (hf1 x y h9).trans (hfr x y h9)
                clear hf1
                refine lv_aload_n hx hb d_M_fieldEntry_92 rfl (lv_at hl 1 rfl) ?_
                refine lv_bipush (v := 97) hx hb d_M_fieldEntry_93 (by decide) ?_
                refine lv_aload_n hx hb d_M_fieldEntry_95 rfl (lv_at hl 1 rfl) ?_
                have hc_15 : C_13 30 0 = some (.inr (4, [.ref (ad 31 0), .ref (ad 31 1), .ref (ad 31 2), .ref (ad 31 3), .ref (ad 31 4), .ref (ad 31 5), .ref (ad 31 6), .ref (ad 31 7), .ref (ad 31 8), .ref (ad 31 9), .ref (ad 31 10), .ref (ad 31 11), .ref (ad 31 12), .ref (ad 31 13), .ref (ad 31 14), .int y_11.objects, .ref (ad 31 15), .int y_11.length, .ref (ad 31 16), .int y_11.waits, .ref (ad 31 17), .int y_11.given, .ref (ad 31 18), .ref (ad 31 19), .ref (ad 31 20), .int y_11.left, .ref (ad 31 21), .ref (ad 31 22), .int y_11.oldLength, .int y_11.oldWaits, .int y_11.oldGiven])) := by have h9 := rm_at.o hR; exact h9
                refine pw_get (Cn := "GraphWriterModel") (T := F_M) (N := 31) hx hb hts in_M hown hK hw 30 0 rfl hc_15 rfl 5 (by decide) (hts _ wd_759) (fun _ h9 => h9) rfl d_M_fieldEntry_96 ?_
                refine lv_iload_n hx hb d_M_fieldEntry_99 rfl (lv_at hl 2 rfl) ?_
                have hc_16 : C_13 31 5 = some (.inl (ca 0, 24, .inl y_11.fName)) := by have h9 := rm_at.a5 hR; exact h9
                obtain ⟨v_17, hv_17, hE⟩ := ob_some hE
                obtain ⟨hi_v_17, hj_v_17, he_v_17⟩ := rd_some (by decide) hv_17
                refine pw_iald hx hb hK hw 31 5 rfl 0 hc_16 rfl (l1 : Int32).toNatClampNeg hi_v_17 (by omega) (by omega) d_M_fieldEntry_100 ?_
                rw [← he_v_17]
                refine lv_iadd hx hb d_M_fieldEntry_101 ?_
                obtain ⟨y_18, hy_18, hE⟩ := ob_some hE
                refine pw_callv (va_runV (As := [.int (97 + v_17)]) (rest := []) ⟨hx, hb, hml, hown, hts0⟩ (k_M_letter hR hy_18 _) (cwV 1 hts0 (wd_V wd_994 wd_991 wd_993 wd_42 wd_56) rfl rfl rfl (by decide +kernel) ⟨Nat.le_of_ble_eq_true rfl, Nat.le_of_ble_eq_true rfl⟩) (pw_preV hZ hw hA hK hz rfl hc_15 rfl) rfl rfl hl.1 rfl (lv_room (Nat.le_of_ble_eq_true rfl)) d_M_fieldEntry_102 ⟨Nat.le_of_ble_eq_true rfl, Nat.le_of_ble_eq_true rfl⟩) hw hA (fun ad_19 C_20 H locs hp hw => ?_)
                obtain ⟨hae, hR, hf1⟩ := hp
                rw [hae] at hw
                clear hae
                have hfr : rm_fr C C_20 := fun x y h9 => (hf1 x y h9).trans (hfr x y h9)
                clear hf1
                refine lv_iload_n hx hb d_M_fieldEntry_105 rfl (lv_at hl 0 rfl) ?_
                refine lv_bipush (v := 6) hx hb d_M_fieldEntry_106 (by decide) ?_
                refine lv_icmp_ge (tgt := 112) hx hb d_M_fieldEntry_108 (by decide) (fun c_22 => ?_) (fun c_22 => ?_)
                · rw [if_pos c_22] at hE
                  refine lv_iload_n hx hb d_M_fieldEntry_112 rfl (lv_at hl 0 rfl) ?_
                  refine lv_bipush (v := 43) hx hb d_M_fieldEntry_113 (by decide) ?_
                  refine lv_iadd hx hb d_M_fieldEntry_115 ?_
                  refine lv_istore_n (lv' := [(3, .int (v_3 + 43)), (2, .int v_3), (0, .ref (ad 30 0)), (1, .int l1)]) hx hb d_M_fieldEntry_116 rfl hl (by decide) rfl (fun ls hl => ?_)
                  refine lv_aload_n hx hb d_M_fieldEntry_117 rfl (lv_at hl 2 rfl) ?_
                  have hc_23 : C_20 30 0 = some (.inr (4, [.ref (ad 31 0), .ref (ad 31 1), .ref (ad 31 2), .ref (ad 31 3), .ref (ad 31 4), .ref (ad 31 5), .ref (ad 31 6), .ref (ad 31 7), .ref (ad 31 8), .ref (ad 31 9), .ref (ad 31 10), .ref (ad 31 11), .ref (ad 31 12), .ref (ad 31 13), .ref (ad 31 14), .int y_18.objects, .ref (ad 31 15), .int y_18.length, .ref (ad 31 16), .int y_18.waits, .ref (ad 31 17), .int y_18.given, .ref (ad 31 18), .ref (ad 31 19), .ref (ad 31 20), .int y_18.left, .ref (ad 31 21), .ref (ad 31 22), .int y_18.oldLength, .int y_18.oldWaits, .int y_18.oldGiven])) := by have h9 := rm_at.o hR; exact h9
                  refine pw_get (Cn := "GraphWriterModel") (T := F_M) (N := 31) hx hb hts in_M hown hK hw 30 0 rfl hc_23 rfl 20 (by decide) (hts _ wd_774) (fun _ h9 => h9) rfl d_M_fieldEntry_118 ?_
                  refine lv_iload_n hx hb d_M_fieldEntry_121 rfl (lv_at hl 0 rfl) ?_
                  have hc_24 : C_20 31 17 = some (.inl (ca 0, 51, .inl y_18.handles)) := by have h9 := rm_at.a17 hR; exact h9
                  obtain ⟨v_25, hv_25, hE⟩ := ob_some hE
                  obtain ⟨hi_v_25, hj_v_25, he_v_25⟩ := rd_some (by decide) hv_25
                  refine pw_iald hx hb hK hw 31 17 rfl 0 hc_24 rfl (v_3 + 43 : Int32).toNatClampNeg hi_v_25 (by omega) (by omega) d_M_fieldEntry_122 ?_
                  rw [← he_v_25]
                  refine lv_if_lt (tgt := 134) hx hb d_M_fieldEntry_123 (by decide) (fun c_26 => ?_) (fun c_26 => ?_)
                  · rw [if_pos c_26] at hE
                    refine lv_aload_n hx hb d_M_fieldEntry_134 rfl (lv_at hl 2 rfl) ?_
                    refine lv_ldc2 (v := 116) hx hb hown (hts _ wd_950) d_M_fieldEntry_135 ?_
                    refine lv_iconst (v := 1) hx hb d_M_fieldEntry_138 (by decide) ?_
                    obtain ⟨y_27, hy_27, hE⟩ := ob_some hE
                    refine pw_callv (va_runV (As := [.long 116, .int 1]) (rest := []) ⟨hx, hb, hml, hown, hts0⟩ (k_M_append hR hy_27 _) (cwV 2 hts0 (wd_V wd_748 wd_745 wd_747 wd_20 wd_56) rfl rfl rfl (by decide +kernel) ⟨Nat.le_of_ble_eq_true rfl, Nat.le_of_ble_eq_true rfl⟩) (pw_preV hZ hw hA hK hz rfl hc_23 rfl) rfl rfl hl.1 rfl (lv_room (Nat.le_of_ble_eq_true rfl)) d_M_fieldEntry_139 ⟨Nat.le_of_ble_eq_true rfl, Nat.le_of_ble_eq_true rfl⟩) hw hA (fun ad_28 C_29 H locs hp hw => ?_)
                    obtain ⟨hae, hR, hf1⟩ := hp
                    rw [hae] at hw
                    clear hae
                    have hfr : rm_fr C C_29 := fun x y h9 => (hf1 x y h9).trans (hfr x y h9)
                    clear hf1
                    refine lv_aload_n hx hb d_M_fieldEntry_142 rfl (lv_at hl 2 rfl) ?_
                    refine lv_iload_n hx hb d_M_fieldEntry_143 rfl (lv_at hl 0 rfl) ?_
                    obtain ⟨y_31, hy_31, hE⟩ := ob_some hE
                    have hc_32 : C_29 30 0 = some (.inr (4, [.ref (ad 31 0), .ref (ad 31 1), .ref (ad 31 2), .ref (ad 31 3), .ref (ad 31 4), .ref (ad 31 5), .ref (ad 31 6), .ref (ad 31 7), .ref (ad 31 8), .ref (ad 31 9), .ref (ad 31 10), .ref (ad 31 11), .ref (ad 31 12), .ref (ad 31 13), .ref (ad 31 14), .int y_27.objects, .ref (ad 31 15), .int y_27.length, .ref (ad 31 16), .int y_27.waits, .ref (ad 31 17), .int y_27.given, .ref (ad 31 18), .ref (ad 31 19), .ref (ad 31 20), .int y_27.left, .ref (ad 31 21), .ref (ad 31 22), .int y_27.oldLength, .int y_27.oldWaits, .int y_27.oldGiven])) := by have h9 := rm_at.o hR; exact h9
                    refine pw_callv (va_runV (As := [.int (v_3 + 43)]) (rest := []) ⟨hx, hb, hml, hown, hts0⟩ (k_M_give hR hy_31 _) (cwV 1 hts0 (wd_V wd_954 wd_951 wd_953 wd_35 wd_56) rfl rfl rfl (by decide +kernel) ⟨Nat.le_of_ble_eq_true rfl, Nat.le_of_ble_eq_true rfl⟩) (pw_preV hZ hw hA hK hz rfl hc_32 rfl) rfl rfl hl.1 rfl (lv_room (Nat.le_of_ble_eq_true rfl)) d_M_fieldEntry_144 ⟨Nat.le_of_ble_eq_true rfl, Nat.le_of_ble_eq_true rfl⟩) hw hA (fun ad_33 C_34 H locs hp hw => ?_)
                    obtain ⟨hae, hR, hf1⟩ := hp
                    rw [hae] at hw
                    clear hae
                    have hfr : rm_fr C C_34 := fun x y h9 => (hf1 x y h9).trans (hfr x y h9)
                    clear hf1
                    refine lv_aload_n hx hb d_M_fieldEntry_147 rfl (lv_at hl 2 rfl) ?_
                    refine lv_iload_n hx hb d_M_fieldEntry_148 rfl (lv_at hl 1 rfl) ?_
                    obtain ⟨y_36, hy_36, hE⟩ := ob_some hE
                    have hc_37 : C_34 30 0 = some (.inr (4, [.ref (ad 31 0), .ref (ad 31 1), .ref (ad 31 2), .ref (ad 31 3), .ref (ad 31 4), .ref (ad 31 5), .ref (ad 31 6), .ref (ad 31 7), .ref (ad 31 8), .ref (ad 31 9), .ref (ad 31 10), .ref (ad 31 11), .ref (ad 31 12), .ref (ad 31 13), .ref (ad 31 14), .int y_31.objects, .ref (ad 31 15), .int y_31.length, .ref (ad 31 16), .int y_31.waits, .ref (ad 31 17), .int y_31.given, .ref (ad 31 18), .ref (ad 31 19), .ref (ad 31 20), .int y_31.left, .ref (ad 31 21), .ref (ad 31 22), .int y_31.oldLength, .int y_31.oldWaits, .int y_31.oldGiven])) := by have h9 := rm_at.o hR; exact h9
                    refine pw_callv (va_runV (As := [.int v_3]) (rest := []) ⟨hx, hb, hml, hown, hts0⟩ (k_M_typeSigns hR hy_36 _) (cwV 1 hts0 (wd_V wd_1022 wd_1019 wd_1021 wd_46 wd_56) rfl rfl rfl (by decide +kernel) ⟨Nat.le_of_ble_eq_true rfl, Nat.le_of_ble_eq_true rfl⟩) (pw_preV hZ hw hA hK hz rfl hc_37 rfl) rfl rfl hl.1 rfl (lv_room (Nat.le_of_ble_eq_true rfl)) d_M_fieldEntry_149 ⟨Nat.le_of_ble_eq_true rfl, Nat.le_of_ble_eq_true rfl⟩) hw hA (fun ad_38 C_39 H locs hp hw => ?_)
                    obtain ⟨hae, hR, hf1⟩ := hp
                    rw [hae] at hw
                    clear hae
                    have hfr : rm_fr C C_39 := fun x y h9 => (hf1 x y h9).trans (hfr x y h9)
                    clear hf1
                    obtain rfl := Option.some.inj hE
                    exact pw_vret hx hb hr hlocks hw ⟨rfl, hR, hfr⟩ d_M_fieldEntry_152
                  · rw [if_neg c_26] at hE
                    refine lv_aload_n hx hb d_M_fieldEntry_126 rfl (lv_at hl 2 rfl) ?_
                    refine lv_iload_n hx hb d_M_fieldEntry_127 rfl (lv_at hl 0 rfl) ?_
                    obtain ⟨y_41, hy_41, hE⟩ := ob_some hE
                    refine pw_callv (va_runV (As := [.int (v_3 + 43)]) (rest := []) ⟨hx, hb, hml, hown, hts0⟩ (k_M_refer hR hy_41 _) (cwV 1 hts0 (wd_V wd_947 wd_944 wd_946 wd_34 wd_56) rfl rfl rfl (by decide +kernel) ⟨Nat.le_of_ble_eq_true rfl, Nat.le_of_ble_eq_true rfl⟩) (pw_preV hZ hw hA hK hz rfl hc_23 rfl) rfl rfl hl.1 rfl (lv_room (Nat.le_of_ble_eq_true rfl)) d_M_fieldEntry_128 ⟨Nat.le_of_ble_eq_true rfl, Nat.le_of_ble_eq_true rfl⟩) hw hA (fun ad_42 C_43 H locs hp hw => ?_)
                    obtain ⟨hae, hR, hf1⟩ := hp
                    rw [hae] at hw
                    clear hae
                    have hfr : rm_fr C C_43 := fun x y h9 => (hf1 x y h9).trans (hfr x y h9)
                    clear hf1
                    refine lv_goto (tgt := 152) hx hb d_M_fieldEntry_131 (by decide) ?_
                    obtain rfl := Option.some.inj hE
                    exact pw_vret hx hb hr hlocks hw ⟨rfl, hR, hfr⟩ d_M_fieldEntry_152
                · rw [if_neg c_22] at hE
                  obtain rfl := Option.some.inj hE
                  exact pw_vret hx hb hr hlocks hw ⟨rfl, hR, hfr⟩ d_M_fieldEntry_111
              · rw [if_pos c_10] at hE
                refine lv_ldc2 (v := 91) hx hb hown (hts _ wd_1017) d_M_fieldEntry_79 ?_
                refine lv_goto (tgt := 88) hx hb d_M_fieldEntry_82 (by decide) ?_
                refine lv_iconst (v := 1) hx hb d_M_fieldEntry_88 (by decide) ?_
                obtain ⟨y_45, hy_45, hE⟩ := ob_some hE
                refine pw_callv (va_runV (As := [.long 91, .int 1]) (rest := []) ⟨hx, hb, hml, hown, hts0⟩ (k_M_append hR hy_45 _) (cwV 2 hts0 (wd_V wd_748 wd_745 wd_747 wd_20 wd_56) rfl rfl rfl (by decide +kernel) ⟨Nat.le_of_ble_eq_true rfl, Nat.le_of_ble_eq_true rfl⟩) (pw_preV hZ hw hA hK hz rfl hc_1 rfl) rfl rfl hl.1 rfl (lv_room (Nat.le_of_ble_eq_true rfl)) d_M_fieldEntry_89 ⟨Nat.le_of_ble_eq_true rfl, Nat.le_of_ble_eq_true rfl⟩) hw hA (fun ad_46 C_47 H locs hp hw => ?_)
                obtain ⟨hae, hR, hf1⟩ := hp
                rw [hae] at hw
                clear hae
                have hfr : rm_fr C C_47 := fun x y h9 => (hf1 x y h9).trans (hfr x y h9)
                clear hf1
                refine lv_aload_n hx hb d_M_fieldEntry_92 rfl (lv_at hl 1 rfl) ?_
                refine lv_bipush (v := 97) hx hb d_M_fieldEntry_93 (by decide) ?_
                refine lv_aload_n hx hb d_M_fieldEntry_95 rfl (lv_at hl 1 rfl) ?_
                have hc_49 : C_47 30 0 = some (.inr (4, [.ref (ad 31 0), .ref (ad 31 1), .ref (ad 31 2), .ref (ad 31 3), .ref (ad 31 4), .ref (ad 31 5), .ref (ad 31 6), .ref (ad 31 7), .ref (ad 31 8), .ref (ad 31 9), .ref (ad 31 10), .ref (ad 31 11), .ref (ad 31 12), .ref (ad 31 13), .ref (ad 31 14), .int y_45.objects, .ref (ad 31 15), .int y_45.length, .ref (ad 31 16), .int y_45.waits, .ref (ad 31 17), .int y_45.given, .ref (ad 31 18), .ref (ad 31 19), .ref (ad 31 20), .int y_45.left, .ref (ad 31 21), .ref (ad 31 22), .int y_45.oldLength, .int y_45.oldWaits, .int y_45.oldGiven])) := by have h9 := rm_at.o hR; exact h9
                refine pw_get (Cn := "GraphWriterModel") (T := F_M) (N := 31) hx hb hts in_M hown hK hw 30 0 rfl hc_49 rfl 5 (by decide) (hts _ wd_759) (fun _ h9 => h9) rfl d_M_fieldEntry_96 ?_
                refine lv_iload_n hx hb d_M_fieldEntry_99 rfl (lv_at hl 2 rfl) ?_
                have hc_50 : C_47 31 5 = some (.inl (ca 0, 24, .inl y_45.fName)) := by have h9 := rm_at.a5 hR; exact h9
                obtain ⟨v_51, hv_51, hE⟩ := ob_some hE
                obtain ⟨hi_v_51, hj_v_51, he_v_51⟩ := rd_some (by decide) hv_51
                refine pw_iald hx hb hK hw 31 5 rfl 0 hc_50 rfl (l1 : Int32).toNatClampNeg hi_v_51 (by omega) (by omega) d_M_fieldEntry_100 ?_
                rw [← he_v_51]
                refine lv_iadd hx hb d_M_fieldEntry_101 ?_
                obtain ⟨y_52, hy_52, hE⟩ := ob_some hE
                refine pw_callv (va_runV (As := [.int (97 + v_51)]) (rest := []) ⟨hx, hb, hml, hown, hts0⟩ (k_M_letter hR hy_52 _) (cwV 1 hts0 (wd_V wd_994 wd_991 wd_993 wd_42 wd_56) rfl rfl rfl (by decide +kernel) ⟨Nat.le_of_ble_eq_true rfl, Nat.le_of_ble_eq_true rfl⟩) (pw_preV hZ hw hA hK hz rfl hc_49 rfl) rfl rfl hl.1 rfl (lv_room (Nat.le_of_ble_eq_true rfl)) d_M_fieldEntry_102 ⟨Nat.le_of_ble_eq_true rfl, Nat.le_of_ble_eq_true rfl⟩) hw hA (fun ad_53 C_54 H locs hp hw => ?_)
                obtain ⟨hae, hR, hf1⟩ := hp
                rw [hae] at hw
                clear hae
                have hfr : rm_fr C C_54 := fun x y h9 => (hf1 x y h9).trans (hfr x y h9)
                clear hf1
                refine lv_iload_n hx hb d_M_fieldEntry_105 rfl (lv_at hl 0 rfl) ?_
                refine lv_bipush (v := 6) hx hb d_M_fieldEntry_106 (by decide) ?_
                refine lv_icmp_ge (tgt := 112) hx hb d_M_fieldEntry_108 (by decide) (fun c_56 => ?_) (fun c_56 => ?_)
                · rw [if_pos c_56] at hE
                  refine lv_iload_n hx hb d_M_fieldEntry_112 rfl (lv_at hl 0 rfl) ?_
                  refine lv_bipush (v := 43) hx hb d_M_fieldEntry_113 (by decide) ?_
                  refine lv_iadd hx hb d_M_fieldEntry_115 ?_
                  refine lv_istore_n (lv' := [(3, .int (v_3 + 43)), (2, .int v_3), (0, .ref (ad 30 0)), (1, .int l1)]) hx hb d_M_fieldEntry_116 rfl hl (by decide) rfl (fun ls hl => ?_)
                  refine lv_aload_n hx hb d_M_fieldEntry_117 rfl (lv_at hl 2 rfl) ?_
                  have hc_57 : C_54 30 0 = some (.inr (4, [.ref (ad 31 0), .ref (ad 31 1), .ref (ad 31 2), .ref (ad 31 3), .ref (ad 31 4), .ref (ad 31 5), .ref (ad 31 6), .ref (ad 31 7), .ref (ad 31 8), .ref (ad 31 9), .ref (ad 31 10), .ref (ad 31 11), .ref (ad 31 12), .ref (ad 31 13), .ref (ad 31 14), .int y_52.objects, .ref (ad 31 15), .int y_52.length, .ref (ad 31 16), .int y_52.waits, .ref (ad 31 17), .int y_52.given, .ref (ad 31 18), .ref (ad 31 19), .ref (ad 31 20), .int y_52.left, .ref (ad 31 21), .ref (ad 31 22), .int y_52.oldLength, .int y_52.oldWaits, .int y_52.oldGiven])) := by have h9 := rm_at.o hR; exact h9
                  refine pw_get (Cn := "GraphWriterModel") (T := F_M) (N := 31) hx hb hts in_M hown hK hw 30 0 rfl hc_57 rfl 20 (by decide) (hts _ wd_774) (fun _ h9 => h9) rfl d_M_fieldEntry_118 ?_
                  refine lv_iload_n hx hb d_M_fieldEntry_121 rfl (lv_at hl 0 rfl) ?_
                  have hc_58 : C_54 31 17 = some (.inl (ca 0, 51, .inl y_52.handles)) := by have h9 := rm_at.a17 hR; exact h9
                  obtain ⟨v_59, hv_59, hE⟩ := ob_some hE
                  obtain ⟨hi_v_59, hj_v_59, he_v_59⟩ := rd_some (by decide) hv_59
                  refine pw_iald hx hb hK hw 31 17 rfl 0 hc_58 rfl (v_3 + 43 : Int32).toNatClampNeg hi_v_59 (by omega) (by omega) d_M_fieldEntry_122 ?_
                  rw [← he_v_59]
                  refine lv_if_lt (tgt := 134) hx hb d_M_fieldEntry_123 (by decide) (fun c_60 => ?_) (fun c_60 => ?_)
                  · rw [if_pos c_60] at hE
                    refine lv_aload_n hx hb d_M_fieldEntry_134 rfl (lv_at hl 2 rfl) ?_
                    refine lv_ldc2 (v := 116) hx hb hown (hts _ wd_950) d_M_fieldEntry_135 ?_
                    refine lv_iconst (v := 1) hx hb d_M_fieldEntry_138 (by decide) ?_
                    obtain ⟨y_61, hy_61, hE⟩ := ob_some hE
                    refine pw_callv (va_runV (As := [.long 116, .int 1]) (rest := []) ⟨hx, hb, hml, hown, hts0⟩ (k_M_append hR hy_61 _) (cwV 2 hts0 (wd_V wd_748 wd_745 wd_747 wd_20 wd_56) rfl rfl rfl (by decide +kernel) ⟨Nat.le_of_ble_eq_true rfl, Nat.le_of_ble_eq_true rfl⟩) (pw_preV hZ hw hA hK hz rfl hc_57 rfl) rfl rfl hl.1 rfl (lv_room (Nat.le_of_ble_eq_true rfl)) d_M_fieldEntry_139 ⟨Nat.le_of_ble_eq_true rfl, Nat.le_of_ble_eq_true rfl⟩) hw hA (fun ad_62 C_63 H locs hp hw => ?_)
                    obtain ⟨hae, hR, hf1⟩ := hp
                    rw [hae] at hw
                    clear hae
                    have hfr : rm_fr C C_63 := fun x y h9 => (hf1 x y h9).trans (hfr x y h9)
                    clear hf1
                    refine lv_aload_n hx hb d_M_fieldEntry_142 rfl (lv_at hl 2 rfl) ?_
                    refine lv_iload_n hx hb d_M_fieldEntry_143 rfl (lv_at hl 0 rfl) ?_
                    obtain ⟨y_65, hy_65, hE⟩ := ob_some hE
                    have hc_66 : C_63 30 0 = some (.inr (4, [.ref (ad 31 0), .ref (ad 31 1), .ref (ad 31 2), .ref (ad 31 3), .ref (ad 31 4), .ref (ad 31 5), .ref (ad 31 6), .ref (ad 31 7), .ref (ad 31 8), .ref (ad 31 9), .ref (ad 31 10), .ref (ad 31 11), .ref (ad 31 12), .ref (ad 31 13), .ref (ad 31 14), .int y_61.objects, .ref (ad 31 15), .int y_61.length, .ref (ad 31 16), .int y_61.waits, .ref (ad 31 17), .int y_61.given, .ref (ad 31 18), .ref (ad 31 19), .ref (ad 31 20), .int y_61.left, .ref (ad 31 21), .ref (ad 31 22), .int y_61.oldLength, .int y_61.oldWaits, .int y_61.oldGiven])) := by have h9 := rm_at.o hR; exact h9
                    refine pw_callv (va_runV (As := [.int (v_3 + 43)]) (rest := []) ⟨hx, hb, hml, hown, hts0⟩ (k_M_give hR hy_65 _) (cwV 1 hts0 (wd_V wd_954 wd_951 wd_953 wd_35 wd_56) rfl rfl rfl (by decide +kernel) ⟨Nat.le_of_ble_eq_true rfl, Nat.le_of_ble_eq_true rfl⟩) (pw_preV hZ hw hA hK hz rfl hc_66 rfl) rfl rfl hl.1 rfl (lv_room (Nat.le_of_ble_eq_true rfl)) d_M_fieldEntry_144 ⟨Nat.le_of_ble_eq_true rfl, Nat.le_of_ble_eq_true rfl⟩) hw hA (fun ad_67 C_68 H locs hp hw => ?_)
                    obtain ⟨hae, hR, hf1⟩ := hp
                    rw [hae] at hw
                    clear hae
                    have hfr : rm_fr C C_68 := fun x y h9 => (hf1 x y h9).trans (hfr x y h9)
                    clear hf1
                    refine lv_aload_n hx hb d_M_fieldEntry_147 rfl (lv_at hl 2 rfl) ?_
                    refine lv_iload_n hx hb d_M_fieldEntry_148 rfl (lv_at hl 1 rfl) ?_
                    obtain ⟨y_70, hy_70, hE⟩ := ob_some hE
                    have hc_71 : C_68 30 0 = some (.inr (4, [.ref (ad 31 0), .ref (ad 31 1), .ref (ad 31 2), .ref (ad 31 3), .ref (ad 31 4), .ref (ad 31 5), .ref (ad 31 6), .ref (ad 31 7), .ref (ad 31 8), .ref (ad 31 9), .ref (ad 31 10), .ref (ad 31 11), .ref (ad 31 12), .ref (ad 31 13), .ref (ad 31 14), .int y_65.objects, .ref (ad 31 15), .int y_65.length, .ref (ad 31 16), .int y_65.waits, .ref (ad 31 17), .int y_65.given, .ref (ad 31 18), .ref (ad 31 19), .ref (ad 31 20), .int y_65.left, .ref (ad 31 21), .ref (ad 31 22), .int y_65.oldLength, .int y_65.oldWaits, .int y_65.oldGiven])) := by have h9 := rm_at.o hR; exact h9
                    refine pw_callv (va_runV (As := [.int v_3]) (rest := []) ⟨hx, hb, hml, hown, hts0⟩ (k_M_typeSigns hR hy_70 _) (cwV 1 hts0 (wd_V wd_1022 wd_1019 wd_1021 wd_46 wd_56) rfl rfl rfl (by decide +kernel) ⟨Nat.le_of_ble_eq_true rfl, Nat.le_of_ble_eq_true rfl⟩) (pw_preV hZ hw hA hK hz rfl hc_71 rfl) rfl rfl hl.1 rfl (lv_room (Nat.le_of_ble_eq_true rfl)) d_M_fieldEntry_149 ⟨Nat.le_of_ble_eq_true rfl, Nat.le_of_ble_eq_true rfl⟩) hw hA (fun ad_72 C_73 H locs hp hw => ?_)
                    obtain ⟨hae, hR, hf1⟩ := hp
                    rw [hae] at hw
                    clear hae
                    have hfr : rm_fr C C_73 := fun x y h9 => (hf1 x y h9).trans (hfr x y h9)
                    clear hf1
                    obtain rfl := Option.some.inj hE
                    exact pw_vret hx hb hr hlocks hw ⟨rfl, hR, hfr⟩ d_M_fieldEntry_152
                  · rw [if_neg c_60] at hE
                    refine lv_aload_n hx hb d_M_fieldEntry_126 rfl (lv_at hl 2 rfl) ?_
                    refine lv_iload_n hx hb d_M_fieldEntry_127 rfl (lv_at hl 0 rfl) ?_
                    obtain ⟨y_75, hy_75, hE⟩ := ob_some hE
                    refine pw_callv (va_runV (As := [.int (v_3 + 43)]) (rest := []) ⟨hx, hb, hml, hown, hts0⟩ (k_M_refer hR hy_75 _) (cwV 1 hts0 (wd_V wd_947 wd_944 wd_946 wd_34 wd_56) rfl rfl rfl (by decide +kernel) ⟨Nat.le_of_ble_eq_true rfl, Nat.le_of_ble_eq_true rfl⟩) (pw_preV hZ hw hA hK hz rfl hc_57 rfl) rfl rfl hl.1 rfl (lv_room (Nat.le_of_ble_eq_true rfl)) d_M_fieldEntry_128 ⟨Nat.le_of_ble_eq_true rfl, Nat.le_of_ble_eq_true rfl⟩) hw hA (fun ad_76 C_77 H locs hp hw => ?_)
                    obtain ⟨hae, hR, hf1⟩ := hp
                    rw [hae] at hw
                    clear hae
                    have hfr : rm_fr C C_77 := fun x y h9 => (hf1 x y h9).trans (hfr x y h9)
                    clear hf1
                    refine lv_goto (tgt := 152) hx hb d_M_fieldEntry_131 (by decide) ?_
                    obtain rfl := Option.some.inj hE
                    exact pw_vret hx hb hr hlocks hw ⟨rfl, hR, hfr⟩ d_M_fieldEntry_152
                · rw [if_neg c_56] at hE
                  obtain rfl := Option.some.inj hE
                  exact pw_vret hx hb hr hlocks hw ⟨rfl, hR, hfr⟩ d_M_fieldEntry_111
            · rw [if_pos c_9] at hE
              refine lv_ldc2 (v := 90) hx hb hown (hts _ wd_1016) d_M_fieldEntry_67 ?_
              refine lv_goto (tgt := 88) hx hb d_M_fieldEntry_70 (by decide) ?_
              refine lv_iconst (v := 1) hx hb d_M_fieldEntry_88 (by decide) ?_
              obtain ⟨y_79, hy_79, hE⟩ := ob_some hE
              refine pw_callv (va_runV (As := [.long 90, .int 1]) (rest := []) ⟨hx, hb, hml, hown, hts0⟩ (k_M_append hR hy_79 _) (cwV 2 hts0 (wd_V wd_748 wd_745 wd_747 wd_20 wd_56) rfl rfl rfl (by decide +kernel) ⟨Nat.le_of_ble_eq_true rfl, Nat.le_of_ble_eq_true rfl⟩) (pw_preV hZ hw hA hK hz rfl hc_1 rfl) rfl rfl hl.1 rfl (lv_room (Nat.le_of_ble_eq_true rfl)) d_M_fieldEntry_89 ⟨Nat.le_of_ble_eq_true rfl, Nat.le_of_ble_eq_true rfl⟩) hw hA (fun ad_80 C_81 H locs hp hw => ?_)
              obtain ⟨hae, hR, hf1⟩ := hp
              rw [hae] at hw
              clear hae
              have hfr : rm_fr C C_81 := fun x y h9 => (hf1 x y h9).trans (hfr x y h9)
              clear hf1
              refine lv_aload_n hx hb d_M_fieldEntry_92 rfl (lv_at hl 1 rfl) ?_
              refine lv_bipush (v := 97) hx hb d_M_fieldEntry_93 (by decide) ?_
              refine lv_aload_n hx hb d_M_fieldEntry_95 rfl (lv_at hl 1 rfl) ?_
              have hc_83 : C_81 30 0 = some (.inr (4, [.ref (ad 31 0), .ref (ad 31 1), .ref (ad 31 2), .ref (ad 31 3), .ref (ad 31 4), .ref (ad 31 5), .ref (ad 31 6), .ref (ad 31 7), .ref (ad 31 8), .ref (ad 31 9), .ref (ad 31 10), .ref (ad 31 11), .ref (ad 31 12), .ref (ad 31 13), .ref (ad 31 14), .int y_79.objects, .ref (ad 31 15), .int y_79.length, .ref (ad 31 16), .int y_79.waits, .ref (ad 31 17), .int y_79.given, .ref (ad 31 18), .ref (ad 31 19), .ref (ad 31 20), .int y_79.left, .ref (ad 31 21), .ref (ad 31 22), .int y_79.oldLength, .int y_79.oldWaits, .int y_79.oldGiven])) := by have h9 := rm_at.o hR; exact h9
              refine pw_get (Cn := "GraphWriterModel") (T := F_M) (N := 31) hx hb hts in_M hown hK hw 30 0 rfl hc_83 rfl 5 (by decide) (hts _ wd_759) (fun _ h9 => h9) rfl d_M_fieldEntry_96 ?_
              refine lv_iload_n hx hb d_M_fieldEntry_99 rfl (lv_at hl 2 rfl) ?_
              have hc_84 : C_81 31 5 = some (.inl (ca 0, 24, .inl y_79.fName)) := by have h9 := rm_at.a5 hR; exact h9
              obtain ⟨v_85, hv_85, hE⟩ := ob_some hE
              obtain ⟨hi_v_85, hj_v_85, he_v_85⟩ := rd_some (by decide) hv_85
              refine pw_iald hx hb hK hw 31 5 rfl 0 hc_84 rfl (l1 : Int32).toNatClampNeg hi_v_85 (by omega) (by omega) d_M_fieldEntry_100 ?_
              rw [← he_v_85]
              refine lv_iadd hx hb d_M_fieldEntry_101 ?_
              obtain ⟨y_86, hy_86, hE⟩ := ob_some hE
              refine pw_callv (va_runV (As := [.int (97 + v_85)]) (rest := []) ⟨hx, hb, hml, hown, hts0⟩ (k_M_letter hR hy_86 _) (cwV 1 hts0 (wd_V wd_994 wd_991 wd_993 wd_42 wd_56) rfl rfl rfl (by decide +kernel) ⟨Nat.le_of_ble_eq_true rfl, Nat.le_of_ble_eq_true rfl⟩) (pw_preV hZ hw hA hK hz rfl hc_83 rfl) rfl rfl hl.1 rfl (lv_room (Nat.le_of_ble_eq_true rfl)) d_M_fieldEntry_102 ⟨Nat.le_of_ble_eq_true rfl, Nat.le_of_ble_eq_true rfl⟩) hw hA (fun ad_87 C_88 H locs hp hw => ?_)
              obtain ⟨hae, hR, hf1⟩ := hp
              rw [hae] at hw
              clear hae
              have hfr : rm_fr C C_88 := fun x y h9 => (hf1 x y h9).trans (hfr x y h9)
              clear hf1
              refine lv_iload_n hx hb d_M_fieldEntry_105 rfl (lv_at hl 0 rfl) ?_
              refine lv_bipush (v := 6) hx hb d_M_fieldEntry_106 (by decide) ?_
              refine lv_icmp_ge (tgt := 112) hx hb d_M_fieldEntry_108 (by decide) (fun c_90 => ?_) (fun c_90 => ?_)
              · rw [if_pos c_90] at hE
                refine lv_iload_n hx hb d_M_fieldEntry_112 rfl (lv_at hl 0 rfl) ?_
                refine lv_bipush (v := 43) hx hb d_M_fieldEntry_113 (by decide) ?_
                refine lv_iadd hx hb d_M_fieldEntry_115 ?_
                refine lv_istore_n (lv' := [(3, .int (v_3 + 43)), (2, .int v_3), (0, .ref (ad 30 0)), (1, .int l1)]) hx hb d_M_fieldEntry_116 rfl hl (by decide) rfl (fun ls hl => ?_)
                refine lv_aload_n hx hb d_M_fieldEntry_117 rfl (lv_at hl 2 rfl) ?_
                have hc_91 : C_88 30 0 = some (.inr (4, [.ref (ad 31 0), .ref (ad 31 1), .ref (ad 31 2), .ref (ad 31 3), .ref (ad 31 4), .ref (ad 31 5), .ref (ad 31 6), .ref (ad 31 7), .ref (ad 31 8), .ref (ad 31 9), .ref (ad 31 10), .ref (ad 31 11), .ref (ad 31 12), .ref (ad 31 13), .ref (ad 31 14), .int y_86.objects, .ref (ad 31 15), .int y_86.length, .ref (ad 31 16), .int y_86.waits, .ref (ad 31 17), .int y_86.given, .ref (ad 31 18), .ref (ad 31 19), .ref (ad 31 20), .int y_86.left, .ref (ad 31 21), .ref (ad 31 22), .int y_86.oldLength, .int y_86.oldWaits, .int y_86.oldGiven])) := by have h9 := rm_at.o hR; exact h9
                refine pw_get (Cn := "GraphWriterModel") (T := F_M) (N := 31) hx hb hts in_M hown hK hw 30 0 rfl hc_91 rfl 20 (by decide) (hts _ wd_774) (fun _ h9 => h9) rfl d_M_fieldEntry_118 ?_
                refine lv_iload_n hx hb d_M_fieldEntry_121 rfl (lv_at hl 0 rfl) ?_
                have hc_92 : C_88 31 17 = some (.inl (ca 0, 51, .inl y_86.handles)) := by have h9 := rm_at.a17 hR; exact h9
                obtain ⟨v_93, hv_93, hE⟩ := ob_some hE
                obtain ⟨hi_v_93, hj_v_93, he_v_93⟩ := rd_some (by decide) hv_93
                refine pw_iald hx hb hK hw 31 17 rfl 0 hc_92 rfl (v_3 + 43 : Int32).toNatClampNeg hi_v_93 (by omega) (by omega) d_M_fieldEntry_122 ?_
                rw [← he_v_93]
                refine lv_if_lt (tgt := 134) hx hb d_M_fieldEntry_123 (by decide) (fun c_94 => ?_) (fun c_94 => ?_)
                · rw [if_pos c_94] at hE
                  refine lv_aload_n hx hb d_M_fieldEntry_134 rfl (lv_at hl 2 rfl) ?_
                  refine lv_ldc2 (v := 116) hx hb hown (hts _ wd_950) d_M_fieldEntry_135 ?_
                  refine lv_iconst (v := 1) hx hb d_M_fieldEntry_138 (by decide) ?_
                  obtain ⟨y_95, hy_95, hE⟩ := ob_some hE
                  refine pw_callv (va_runV (As := [.long 116, .int 1]) (rest := []) ⟨hx, hb, hml, hown, hts0⟩ (k_M_append hR hy_95 _) (cwV 2 hts0 (wd_V wd_748 wd_745 wd_747 wd_20 wd_56) rfl rfl rfl (by decide +kernel) ⟨Nat.le_of_ble_eq_true rfl, Nat.le_of_ble_eq_true rfl⟩) (pw_preV hZ hw hA hK hz rfl hc_91 rfl) rfl rfl hl.1 rfl (lv_room (Nat.le_of_ble_eq_true rfl)) d_M_fieldEntry_139 ⟨Nat.le_of_ble_eq_true rfl, Nat.le_of_ble_eq_true rfl⟩) hw hA (fun ad_96 C_97 H locs hp hw => ?_)
                  obtain ⟨hae, hR, hf1⟩ := hp
                  rw [hae] at hw
                  clear hae
                  have hfr : rm_fr C C_97 := fun x y h9 => (hf1 x y h9).trans (hfr x y h9)
                  clear hf1
                  refine lv_aload_n hx hb d_M_fieldEntry_142 rfl (lv_at hl 2 rfl) ?_
                  refine lv_iload_n hx hb d_M_fieldEntry_143 rfl (lv_at hl 0 rfl) ?_
                  obtain ⟨y_99, hy_99, hE⟩ := ob_some hE
                  have hc_100 : C_97 30 0 = some (.inr (4, [.ref (ad 31 0), .ref (ad 31 1), .ref (ad 31 2), .ref (ad 31 3), .ref (ad 31 4), .ref (ad 31 5), .ref (ad 31 6), .ref (ad 31 7), .ref (ad 31 8), .ref (ad 31 9), .ref (ad 31 10), .ref (ad 31 11), .ref (ad 31 12), .ref (ad 31 13), .ref (ad 31 14), .int y_95.objects, .ref (ad 31 15), .int y_95.length, .ref (ad 31 16), .int y_95.waits, .ref (ad 31 17), .int y_95.given, .ref (ad 31 18), .ref (ad 31 19), .ref (ad 31 20), .int y_95.left, .ref (ad 31 21), .ref (ad 31 22), .int y_95.oldLength, .int y_95.oldWaits, .int y_95.oldGiven])) := by have h9 := rm_at.o hR; exact h9
                  refine pw_callv (va_runV (As := [.int (v_3 + 43)]) (rest := []) ⟨hx, hb, hml, hown, hts0⟩ (k_M_give hR hy_99 _) (cwV 1 hts0 (wd_V wd_954 wd_951 wd_953 wd_35 wd_56) rfl rfl rfl (by decide +kernel) ⟨Nat.le_of_ble_eq_true rfl, Nat.le_of_ble_eq_true rfl⟩) (pw_preV hZ hw hA hK hz rfl hc_100 rfl) rfl rfl hl.1 rfl (lv_room (Nat.le_of_ble_eq_true rfl)) d_M_fieldEntry_144 ⟨Nat.le_of_ble_eq_true rfl, Nat.le_of_ble_eq_true rfl⟩) hw hA (fun ad_101 C_102 H locs hp hw => ?_)
                  obtain ⟨hae, hR, hf1⟩ := hp
                  rw [hae] at hw
                  clear hae
                  have hfr : rm_fr C C_102 := fun x y h9 => (hf1 x y h9).trans (hfr x y h9)
                  clear hf1
                  refine lv_aload_n hx hb d_M_fieldEntry_147 rfl (lv_at hl 2 rfl) ?_
                  refine lv_iload_n hx hb d_M_fieldEntry_148 rfl (lv_at hl 1 rfl) ?_
                  obtain ⟨y_104, hy_104, hE⟩ := ob_some hE
                  have hc_105 : C_102 30 0 = some (.inr (4, [.ref (ad 31 0), .ref (ad 31 1), .ref (ad 31 2), .ref (ad 31 3), .ref (ad 31 4), .ref (ad 31 5), .ref (ad 31 6), .ref (ad 31 7), .ref (ad 31 8), .ref (ad 31 9), .ref (ad 31 10), .ref (ad 31 11), .ref (ad 31 12), .ref (ad 31 13), .ref (ad 31 14), .int y_99.objects, .ref (ad 31 15), .int y_99.length, .ref (ad 31 16), .int y_99.waits, .ref (ad 31 17), .int y_99.given, .ref (ad 31 18), .ref (ad 31 19), .ref (ad 31 20), .int y_99.left, .ref (ad 31 21), .ref (ad 31 22), .int y_99.oldLength, .int y_99.oldWaits, .int y_99.oldGiven])) := by have h9 := rm_at.o hR; exact h9
                  refine pw_callv (va_runV (As := [.int v_3]) (rest := []) ⟨hx, hb, hml, hown, hts0⟩ (k_M_typeSigns hR hy_104 _) (cwV 1 hts0 (wd_V wd_1022 wd_1019 wd_1021 wd_46 wd_56) rfl rfl rfl (by decide +kernel) ⟨Nat.le_of_ble_eq_true rfl, Nat.le_of_ble_eq_true rfl⟩) (pw_preV hZ hw hA hK hz rfl hc_105 rfl) rfl rfl hl.1 rfl (lv_room (Nat.le_of_ble_eq_true rfl)) d_M_fieldEntry_149 ⟨Nat.le_of_ble_eq_true rfl, Nat.le_of_ble_eq_true rfl⟩) hw hA (fun ad_106 C_107 H locs hp hw => ?_)
                  obtain ⟨hae, hR, hf1⟩ := hp
                  rw [hae] at hw
                  clear hae
                  have hfr : rm_fr C C_107 := fun x y h9 => (hf1 x y h9).trans (hfr x y h9)
                  clear hf1
                  obtain rfl := Option.some.inj hE
                  exact pw_vret hx hb hr hlocks hw ⟨rfl, hR, hfr⟩ d_M_fieldEntry_152
                · rw [if_neg c_94] at hE
                  refine lv_aload_n hx hb d_M_fieldEntry_126 rfl (lv_at hl 2 rfl) ?_
                  refine lv_iload_n hx hb d_M_fieldEntry_127 rfl (lv_at hl 0 rfl) ?_
                  obtain ⟨y_109, hy_109, hE⟩ := ob_some hE
                  refine pw_callv (va_runV (As := [.int (v_3 + 43)]) (rest := []) ⟨hx, hb, hml, hown, hts0⟩ (k_M_refer hR hy_109 _) (cwV 1 hts0 (wd_V wd_947 wd_944 wd_946 wd_34 wd_56) rfl rfl rfl (by decide +kernel) ⟨Nat.le_of_ble_eq_true rfl, Nat.le_of_ble_eq_true rfl⟩) (pw_preV hZ hw hA hK hz rfl hc_91 rfl) rfl rfl hl.1 rfl (lv_room (Nat.le_of_ble_eq_true rfl)) d_M_fieldEntry_128 ⟨Nat.le_of_ble_eq_true rfl, Nat.le_of_ble_eq_true rfl⟩) hw hA (fun ad_110 C_111 H locs hp hw => ?_)
                  obtain ⟨hae, hR, hf1⟩ := hp
                  rw [hae] at hw
                  clear hae
                  have hfr : rm_fr C C_111 := fun x y h9 => (hf1 x y h9).trans (hfr x y h9)
                  clear hf1
                  refine lv_goto (tgt := 152) hx hb d_M_fieldEntry_131 (by decide) ?_
                  obtain rfl := Option.some.inj hE
                  exact pw_vret hx hb hr hlocks hw ⟨rfl, hR, hfr⟩ d_M_fieldEntry_152
              · rw [if_neg c_90] at hE
                obtain rfl := Option.some.inj hE
                exact pw_vret hx hb hr hlocks hw ⟨rfl, hR, hfr⟩ d_M_fieldEntry_111
          · rw [if_pos c_8] at hE
            refine lv_ldc2 (v := 83) hx hb hown (hts _ wd_1015) d_M_fieldEntry_56 ?_
            refine lv_goto (tgt := 88) hx hb d_M_fieldEntry_59 (by decide) ?_
            refine lv_iconst (v := 1) hx hb d_M_fieldEntry_88 (by decide) ?_
            obtain ⟨y_113, hy_113, hE⟩ := ob_some hE
            refine pw_callv (va_runV (As := [.long 83, .int 1]) (rest := []) ⟨hx, hb, hml, hown, hts0⟩ (k_M_append hR hy_113 _) (cwV 2 hts0 (wd_V wd_748 wd_745 wd_747 wd_20 wd_56) rfl rfl rfl (by decide +kernel) ⟨Nat.le_of_ble_eq_true rfl, Nat.le_of_ble_eq_true rfl⟩) (pw_preV hZ hw hA hK hz rfl hc_1 rfl) rfl rfl hl.1 rfl (lv_room (Nat.le_of_ble_eq_true rfl)) d_M_fieldEntry_89 ⟨Nat.le_of_ble_eq_true rfl, Nat.le_of_ble_eq_true rfl⟩) hw hA (fun ad_114 C_115 H locs hp hw => ?_)
            obtain ⟨hae, hR, hf1⟩ := hp
            rw [hae] at hw
            clear hae
            have hfr : rm_fr C C_115 := fun x y h9 => (hf1 x y h9).trans (hfr x y h9)
            clear hf1
            refine lv_aload_n hx hb d_M_fieldEntry_92 rfl (lv_at hl 1 rfl) ?_
            refine lv_bipush (v := 97) hx hb d_M_fieldEntry_93 (by decide) ?_
            refine lv_aload_n hx hb d_M_fieldEntry_95 rfl (lv_at hl 1 rfl) ?_
            have hc_117 : C_115 30 0 = some (.inr (4, [.ref (ad 31 0), .ref (ad 31 1), .ref (ad 31 2), .ref (ad 31 3), .ref (ad 31 4), .ref (ad 31 5), .ref (ad 31 6), .ref (ad 31 7), .ref (ad 31 8), .ref (ad 31 9), .ref (ad 31 10), .ref (ad 31 11), .ref (ad 31 12), .ref (ad 31 13), .ref (ad 31 14), .int y_113.objects, .ref (ad 31 15), .int y_113.length, .ref (ad 31 16), .int y_113.waits, .ref (ad 31 17), .int y_113.given, .ref (ad 31 18), .ref (ad 31 19), .ref (ad 31 20), .int y_113.left, .ref (ad 31 21), .ref (ad 31 22), .int y_113.oldLength, .int y_113.oldWaits, .int y_113.oldGiven])) := by have h9 := rm_at.o hR; exact h9
            refine pw_get (Cn := "GraphWriterModel") (T := F_M) (N := 31) hx hb hts in_M hown hK hw 30 0 rfl hc_117 rfl 5 (by decide) (hts _ wd_759) (fun _ h9 => h9) rfl d_M_fieldEntry_96 ?_
            refine lv_iload_n hx hb d_M_fieldEntry_99 rfl (lv_at hl 2 rfl) ?_
            have hc_118 : C_115 31 5 = some (.inl (ca 0, 24, .inl y_113.fName)) := by have h9 := rm_at.a5 hR; exact h9
            obtain ⟨v_119, hv_119, hE⟩ := ob_some hE
            obtain ⟨hi_v_119, hj_v_119, he_v_119⟩ := rd_some (by decide) hv_119
            refine pw_iald hx hb hK hw 31 5 rfl 0 hc_118 rfl (l1 : Int32).toNatClampNeg hi_v_119 (by omega) (by omega) d_M_fieldEntry_100 ?_
            rw [← he_v_119]
            refine lv_iadd hx hb d_M_fieldEntry_101 ?_
            obtain ⟨y_120, hy_120, hE⟩ := ob_some hE
            refine pw_callv (va_runV (As := [.int (97 + v_119)]) (rest := []) ⟨hx, hb, hml, hown, hts0⟩ (k_M_letter hR hy_120 _) (cwV 1 hts0 (wd_V wd_994 wd_991 wd_993 wd_42 wd_56) rfl rfl rfl (by decide +kernel) ⟨Nat.le_of_ble_eq_true rfl, Nat.le_of_ble_eq_true rfl⟩) (pw_preV hZ hw hA hK hz rfl hc_117 rfl) rfl rfl hl.1 rfl (lv_room (Nat.le_of_ble_eq_true rfl)) d_M_fieldEntry_102 ⟨Nat.le_of_ble_eq_true rfl, Nat.le_of_ble_eq_true rfl⟩) hw hA (fun ad_121 C_122 H locs hp hw => ?_)
            obtain ⟨hae, hR, hf1⟩ := hp
            rw [hae] at hw
            clear hae
            have hfr : rm_fr C C_122 := fun x y h9 => (hf1 x y h9).trans (hfr x y h9)
            clear hf1
            refine lv_iload_n hx hb d_M_fieldEntry_105 rfl (lv_at hl 0 rfl) ?_
            refine lv_bipush (v := 6) hx hb d_M_fieldEntry_106 (by decide) ?_
            refine lv_icmp_ge (tgt := 112) hx hb d_M_fieldEntry_108 (by decide) (fun c_124 => ?_) (fun c_124 => ?_)
            · rw [if_pos c_124] at hE
              refine lv_iload_n hx hb d_M_fieldEntry_112 rfl (lv_at hl 0 rfl) ?_
              refine lv_bipush (v := 43) hx hb d_M_fieldEntry_113 (by decide) ?_
              refine lv_iadd hx hb d_M_fieldEntry_115 ?_
              refine lv_istore_n (lv' := [(3, .int (v_3 + 43)), (2, .int v_3), (0, .ref (ad 30 0)), (1, .int l1)]) hx hb d_M_fieldEntry_116 rfl hl (by decide) rfl (fun ls hl => ?_)
              refine lv_aload_n hx hb d_M_fieldEntry_117 rfl (lv_at hl 2 rfl) ?_
              have hc_125 : C_122 30 0 = some (.inr (4, [.ref (ad 31 0), .ref (ad 31 1), .ref (ad 31 2), .ref (ad 31 3), .ref (ad 31 4), .ref (ad 31 5), .ref (ad 31 6), .ref (ad 31 7), .ref (ad 31 8), .ref (ad 31 9), .ref (ad 31 10), .ref (ad 31 11), .ref (ad 31 12), .ref (ad 31 13), .ref (ad 31 14), .int y_120.objects, .ref (ad 31 15), .int y_120.length, .ref (ad 31 16), .int y_120.waits, .ref (ad 31 17), .int y_120.given, .ref (ad 31 18), .ref (ad 31 19), .ref (ad 31 20), .int y_120.left, .ref (ad 31 21), .ref (ad 31 22), .int y_120.oldLength, .int y_120.oldWaits, .int y_120.oldGiven])) := by have h9 := rm_at.o hR; exact h9
              refine pw_get (Cn := "GraphWriterModel") (T := F_M) (N := 31) hx hb hts in_M hown hK hw 30 0 rfl hc_125 rfl 20 (by decide) (hts _ wd_774) (fun _ h9 => h9) rfl d_M_fieldEntry_118 ?_
              refine lv_iload_n hx hb d_M_fieldEntry_121 rfl (lv_at hl 0 rfl) ?_
              have hc_126 : C_122 31 17 = some (.inl (ca 0, 51, .inl y_120.handles)) := by have h9 := rm_at.a17 hR; exact h9
              obtain ⟨v_127, hv_127, hE⟩ := ob_some hE
              obtain ⟨hi_v_127, hj_v_127, he_v_127⟩ := rd_some (by decide) hv_127
              refine pw_iald hx hb hK hw 31 17 rfl 0 hc_126 rfl (v_3 + 43 : Int32).toNatClampNeg hi_v_127 (by omega) (by omega) d_M_fieldEntry_122 ?_
              rw [← he_v_127]
              refine lv_if_lt (tgt := 134) hx hb d_M_fieldEntry_123 (by decide) (fun c_128 => ?_) (fun c_128 => ?_)
              · rw [if_pos c_128] at hE
                refine lv_aload_n hx hb d_M_fieldEntry_134 rfl (lv_at hl 2 rfl) ?_
                refine lv_ldc2 (v := 116) hx hb hown (hts _ wd_950) d_M_fieldEntry_135 ?_
                refine lv_iconst (v := 1) hx hb d_M_fieldEntry_138 (by decide) ?_
                obtain ⟨y_129, hy_129, hE⟩ := ob_some hE
                refine pw_callv (va_runV (As := [.long 116, .int 1]) (rest := []) ⟨hx, hb, hml, hown, hts0⟩ (k_M_append hR hy_129 _) (cwV 2 hts0 (wd_V wd_748 wd_745 wd_747 wd_20 wd_56) rfl rfl rfl (by decide +kernel) ⟨Nat.le_of_ble_eq_true rfl, Nat.le_of_ble_eq_true rfl⟩) (pw_preV hZ hw hA hK hz rfl hc_125 rfl) rfl rfl hl.1 rfl (lv_room (Nat.le_of_ble_eq_true rfl)) d_M_fieldEntry_139 ⟨Nat.le_of_ble_eq_true rfl, Nat.le_of_ble_eq_true rfl⟩) hw hA (fun ad_130 C_131 H locs hp hw => ?_)
                obtain ⟨hae, hR, hf1⟩ := hp
                rw [hae] at hw
                clear hae
                have hfr : rm_fr C C_131 := fun x y h9 => (hf1 x y h9).trans (hfr x y h9)
                clear hf1
                refine lv_aload_n hx hb d_M_fieldEntry_142 rfl (lv_at hl 2 rfl) ?_
                refine lv_iload_n hx hb d_M_fieldEntry_143 rfl (lv_at hl 0 rfl) ?_
                obtain ⟨y_133, hy_133, hE⟩ := ob_some hE
                have hc_134 : C_131 30 0 = some (.inr (4, [.ref (ad 31 0), .ref (ad 31 1), .ref (ad 31 2), .ref (ad 31 3), .ref (ad 31 4), .ref (ad 31 5), .ref (ad 31 6), .ref (ad 31 7), .ref (ad 31 8), .ref (ad 31 9), .ref (ad 31 10), .ref (ad 31 11), .ref (ad 31 12), .ref (ad 31 13), .ref (ad 31 14), .int y_129.objects, .ref (ad 31 15), .int y_129.length, .ref (ad 31 16), .int y_129.waits, .ref (ad 31 17), .int y_129.given, .ref (ad 31 18), .ref (ad 31 19), .ref (ad 31 20), .int y_129.left, .ref (ad 31 21), .ref (ad 31 22), .int y_129.oldLength, .int y_129.oldWaits, .int y_129.oldGiven])) := by have h9 := rm_at.o hR; exact h9
                refine pw_callv (va_runV (As := [.int (v_3 + 43)]) (rest := []) ⟨hx, hb, hml, hown, hts0⟩ (k_M_give hR hy_133 _) (cwV 1 hts0 (wd_V wd_954 wd_951 wd_953 wd_35 wd_56) rfl rfl rfl (by decide +kernel) ⟨Nat.le_of_ble_eq_true rfl, Nat.le_of_ble_eq_true rfl⟩) (pw_preV hZ hw hA hK hz rfl hc_134 rfl) rfl rfl hl.1 rfl (lv_room (Nat.le_of_ble_eq_true rfl)) d_M_fieldEntry_144 ⟨Nat.le_of_ble_eq_true rfl, Nat.le_of_ble_eq_true rfl⟩) hw hA (fun ad_135 C_136 H locs hp hw => ?_)
                obtain ⟨hae, hR, hf1⟩ := hp
                rw [hae] at hw
                clear hae
                have hfr : rm_fr C C_136 := fun x y h9 => (hf1 x y h9).trans (hfr x y h9)
                clear hf1
                refine lv_aload_n hx hb d_M_fieldEntry_147 rfl (lv_at hl 2 rfl) ?_
                refine lv_iload_n hx hb d_M_fieldEntry_148 rfl (lv_at hl 1 rfl) ?_
                obtain ⟨y_138, hy_138, hE⟩ := ob_some hE
                have hc_139 : C_136 30 0 = some (.inr (4, [.ref (ad 31 0), .ref (ad 31 1), .ref (ad 31 2), .ref (ad 31 3), .ref (ad 31 4), .ref (ad 31 5), .ref (ad 31 6), .ref (ad 31 7), .ref (ad 31 8), .ref (ad 31 9), .ref (ad 31 10), .ref (ad 31 11), .ref (ad 31 12), .ref (ad 31 13), .ref (ad 31 14), .int y_133.objects, .ref (ad 31 15), .int y_133.length, .ref (ad 31 16), .int y_133.waits, .ref (ad 31 17), .int y_133.given, .ref (ad 31 18), .ref (ad 31 19), .ref (ad 31 20), .int y_133.left, .ref (ad 31 21), .ref (ad 31 22), .int y_133.oldLength, .int y_133.oldWaits, .int y_133.oldGiven])) := by have h9 := rm_at.o hR; exact h9
                refine pw_callv (va_runV (As := [.int v_3]) (rest := []) ⟨hx, hb, hml, hown, hts0⟩ (k_M_typeSigns hR hy_138 _) (cwV 1 hts0 (wd_V wd_1022 wd_1019 wd_1021 wd_46 wd_56) rfl rfl rfl (by decide +kernel) ⟨Nat.le_of_ble_eq_true rfl, Nat.le_of_ble_eq_true rfl⟩) (pw_preV hZ hw hA hK hz rfl hc_139 rfl) rfl rfl hl.1 rfl (lv_room (Nat.le_of_ble_eq_true rfl)) d_M_fieldEntry_149 ⟨Nat.le_of_ble_eq_true rfl, Nat.le_of_ble_eq_true rfl⟩) hw hA (fun ad_140 C_141 H locs hp hw => ?_)
                obtain ⟨hae, hR, hf1⟩ := hp
                rw [hae] at hw
                clear hae
                have hfr : rm_fr C C_141 := fun x y h9 => (hf1 x y h9).trans (hfr x y h9)
                clear hf1
                obtain rfl := Option.some.inj hE
                exact pw_vret hx hb hr hlocks hw ⟨rfl, hR, hfr⟩ d_M_fieldEntry_152
              · rw [if_neg c_128] at hE
                refine lv_aload_n hx hb d_M_fieldEntry_126 rfl (lv_at hl 2 rfl) ?_
                refine lv_iload_n hx hb d_M_fieldEntry_127 rfl (lv_at hl 0 rfl) ?_
                obtain ⟨y_143, hy_143, hE⟩ := ob_some hE
                refine pw_callv (va_runV (As := [.int (v_3 + 43)]) (rest := []) ⟨hx, hb, hml, hown, hts0⟩ (k_M_refer hR hy_143 _) (cwV 1 hts0 (wd_V wd_947 wd_944 wd_946 wd_34 wd_56) rfl rfl rfl (by decide +kernel) ⟨Nat.le_of_ble_eq_true rfl, Nat.le_of_ble_eq_true rfl⟩) (pw_preV hZ hw hA hK hz rfl hc_125 rfl) rfl rfl hl.1 rfl (lv_room (Nat.le_of_ble_eq_true rfl)) d_M_fieldEntry_128 ⟨Nat.le_of_ble_eq_true rfl, Nat.le_of_ble_eq_true rfl⟩) hw hA (fun ad_144 C_145 H locs hp hw => ?_)
                obtain ⟨hae, hR, hf1⟩ := hp
                rw [hae] at hw
                clear hae
                have hfr : rm_fr C C_145 := fun x y h9 => (hf1 x y h9).trans (hfr x y h9)
                clear hf1
                refine lv_goto (tgt := 152) hx hb d_M_fieldEntry_131 (by decide) ?_
                obtain rfl := Option.some.inj hE
                exact pw_vret hx hb hr hlocks hw ⟨rfl, hR, hfr⟩ d_M_fieldEntry_152
            · rw [if_neg c_124] at hE
              obtain rfl := Option.some.inj hE
              exact pw_vret hx hb hr hlocks hw ⟨rfl, hR, hfr⟩ d_M_fieldEntry_111
        · rw [if_pos c_7] at hE
          refine lv_ldc2 (v := 74) hx hb hown (hts _ wd_1014) d_M_fieldEntry_45 ?_
          refine lv_goto (tgt := 88) hx hb d_M_fieldEntry_48 (by decide) ?_
          refine lv_iconst (v := 1) hx hb d_M_fieldEntry_88 (by decide) ?_
          obtain ⟨y_147, hy_147, hE⟩ := ob_some hE
          refine pw_callv (va_runV (As := [.long 74, .int 1]) (rest := []) ⟨hx, hb, hml, hown, hts0⟩ (k_M_append hR hy_147 _) (cwV 2 hts0 (wd_V wd_748 wd_745 wd_747 wd_20 wd_56) rfl rfl rfl (by decide +kernel) ⟨Nat.le_of_ble_eq_true rfl, Nat.le_of_ble_eq_true rfl⟩) (pw_preV hZ hw hA hK hz rfl hc_1 rfl) rfl rfl hl.1 rfl (lv_room (Nat.le_of_ble_eq_true rfl)) d_M_fieldEntry_89 ⟨Nat.le_of_ble_eq_true rfl, Nat.le_of_ble_eq_true rfl⟩) hw hA (fun ad_148 C_149 H locs hp hw => ?_)
          obtain ⟨hae, hR, hf1⟩ := hp
          rw [hae] at hw
          clear hae
          have hfr : rm_fr C C_149 := fun x y h9 => (hf1 x y h9).trans (hfr x y h9)
          clear hf1
          refine lv_aload_n hx hb d_M_fieldEntry_92 rfl (lv_at hl 1 rfl) ?_
          refine lv_bipush (v := 97) hx hb d_M_fieldEntry_93 (by decide) ?_
          refine lv_aload_n hx hb d_M_fieldEntry_95 rfl (lv_at hl 1 rfl) ?_
          have hc_151 : C_149 30 0 = some (.inr (4, [.ref (ad 31 0), .ref (ad 31 1), .ref (ad 31 2), .ref (ad 31 3), .ref (ad 31 4), .ref (ad 31 5), .ref (ad 31 6), .ref (ad 31 7), .ref (ad 31 8), .ref (ad 31 9), .ref (ad 31 10), .ref (ad 31 11), .ref (ad 31 12), .ref (ad 31 13), .ref (ad 31 14), .int y_147.objects, .ref (ad 31 15), .int y_147.length, .ref (ad 31 16), .int y_147.waits, .ref (ad 31 17), .int y_147.given, .ref (ad 31 18), .ref (ad 31 19), .ref (ad 31 20), .int y_147.left, .ref (ad 31 21), .ref (ad 31 22), .int y_147.oldLength, .int y_147.oldWaits, .int y_147.oldGiven])) := by have h9 := rm_at.o hR; exact h9
          refine pw_get (Cn := "GraphWriterModel") (T := F_M) (N := 31) hx hb hts in_M hown hK hw 30 0 rfl hc_151 rfl 5 (by decide) (hts _ wd_759) (fun _ h9 => h9) rfl d_M_fieldEntry_96 ?_
          refine lv_iload_n hx hb d_M_fieldEntry_99 rfl (lv_at hl 2 rfl) ?_
          have hc_152 : C_149 31 5 = some (.inl (ca 0, 24, .inl y_147.fName)) := by have h9 := rm_at.a5 hR; exact h9
          obtain ⟨v_153, hv_153, hE⟩ := ob_some hE
          obtain ⟨hi_v_153, hj_v_153, he_v_153⟩ := rd_some (by decide) hv_153
          refine pw_iald hx hb hK hw 31 5 rfl 0 hc_152 rfl (l1 : Int32).toNatClampNeg hi_v_153 (by omega) (by omega) d_M_fieldEntry_100 ?_
          rw [← he_v_153]
          refine lv_iadd hx hb d_M_fieldEntry_101 ?_
          obtain ⟨y_154, hy_154, hE⟩ := ob_some hE
          refine pw_callv (va_runV (As := [.int (97 + v_153)]) (rest := []) ⟨hx, hb, hml, hown, hts0⟩ (k_M_letter hR hy_154 _) (cwV 1 hts0 (wd_V wd_994 wd_991 wd_993 wd_42 wd_56) rfl rfl rfl (by decide +kernel) ⟨Nat.le_of_ble_eq_true rfl, Nat.le_of_ble_eq_true rfl⟩) (pw_preV hZ hw hA hK hz rfl hc_151 rfl) rfl rfl hl.1 rfl (lv_room (Nat.le_of_ble_eq_true rfl)) d_M_fieldEntry_102 ⟨Nat.le_of_ble_eq_true rfl, Nat.le_of_ble_eq_true rfl⟩) hw hA (fun ad_155 C_156 H locs hp hw => ?_)
          obtain ⟨hae, hR, hf1⟩ := hp
          rw [hae] at hw
          clear hae
          have hfr : rm_fr C C_156 := fun x y h9 => (hf1 x y h9).trans (hfr x y h9)
          clear hf1
          refine lv_iload_n hx hb d_M_fieldEntry_105 rfl (lv_at hl 0 rfl) ?_
          refine lv_bipush (v := 6) hx hb d_M_fieldEntry_106 (by decide) ?_
          refine lv_icmp_ge (tgt := 112) hx hb d_M_fieldEntry_108 (by decide) (fun c_158 => ?_) (fun c_158 => ?_)
          · rw [if_pos c_158] at hE
            refine lv_iload_n hx hb d_M_fieldEntry_112 rfl (lv_at hl 0 rfl) ?_
            refine lv_bipush (v := 43) hx hb d_M_fieldEntry_113 (by decide) ?_
            refine lv_iadd hx hb d_M_fieldEntry_115 ?_
            refine lv_istore_n (lv' := [(3, .int (v_3 + 43)), (2, .int v_3), (0, .ref (ad 30 0)), (1, .int l1)]) hx hb d_M_fieldEntry_116 rfl hl (by decide) rfl (fun ls hl => ?_)
            refine lv_aload_n hx hb d_M_fieldEntry_117 rfl (lv_at hl 2 rfl) ?_
            have hc_159 : C_156 30 0 = some (.inr (4, [.ref (ad 31 0), .ref (ad 31 1), .ref (ad 31 2), .ref (ad 31 3), .ref (ad 31 4), .ref (ad 31 5), .ref (ad 31 6), .ref (ad 31 7), .ref (ad 31 8), .ref (ad 31 9), .ref (ad 31 10), .ref (ad 31 11), .ref (ad 31 12), .ref (ad 31 13), .ref (ad 31 14), .int y_154.objects, .ref (ad 31 15), .int y_154.length, .ref (ad 31 16), .int y_154.waits, .ref (ad 31 17), .int y_154.given, .ref (ad 31 18), .ref (ad 31 19), .ref (ad 31 20), .int y_154.left, .ref (ad 31 21), .ref (ad 31 22), .int y_154.oldLength, .int y_154.oldWaits, .int y_154.oldGiven])) := by have h9 := rm_at.o hR; exact h9
            refine pw_get (Cn := "GraphWriterModel") (T := F_M) (N := 31) hx hb hts in_M hown hK hw 30 0 rfl hc_159 rfl 20 (by decide) (hts _ wd_774) (fun _ h9 => h9) rfl d_M_fieldEntry_118 ?_
            refine lv_iload_n hx hb d_M_fieldEntry_121 rfl (lv_at hl 0 rfl) ?_
            have hc_160 : C_156 31 17 = some (.inl (ca 0, 51, .inl y_154.handles)) := by have h9 := rm_at.a17 hR; exact h9
            obtain ⟨v_161, hv_161, hE⟩ := ob_some hE
            obtain ⟨hi_v_161, hj_v_161, he_v_161⟩ := rd_some (by decide) hv_161
            refine pw_iald hx hb hK hw 31 17 rfl 0 hc_160 rfl (v_3 + 43 : Int32).toNatClampNeg hi_v_161 (by omega) (by omega) d_M_fieldEntry_122 ?_
            rw [← he_v_161]
            refine lv_if_lt (tgt := 134) hx hb d_M_fieldEntry_123 (by decide) (fun c_162 => ?_) (fun c_162 => ?_)
            · rw [if_pos c_162] at hE
              refine lv_aload_n hx hb d_M_fieldEntry_134 rfl (lv_at hl 2 rfl) ?_
              refine lv_ldc2 (v := 116) hx hb hown (hts _ wd_950) d_M_fieldEntry_135 ?_
              refine lv_iconst (v := 1) hx hb d_M_fieldEntry_138 (by decide) ?_
              obtain ⟨y_163, hy_163, hE⟩ := ob_some hE
              refine pw_callv (va_runV (As := [.long 116, .int 1]) (rest := []) ⟨hx, hb, hml, hown, hts0⟩ (k_M_append hR hy_163 _) (cwV 2 hts0 (wd_V wd_748 wd_745 wd_747 wd_20 wd_56) rfl rfl rfl (by decide +kernel) ⟨Nat.le_of_ble_eq_true rfl, Nat.le_of_ble_eq_true rfl⟩) (pw_preV hZ hw hA hK hz rfl hc_159 rfl) rfl rfl hl.1 rfl (lv_room (Nat.le_of_ble_eq_true rfl)) d_M_fieldEntry_139 ⟨Nat.le_of_ble_eq_true rfl, Nat.le_of_ble_eq_true rfl⟩) hw hA (fun ad_164 C_165 H locs hp hw => ?_)
              obtain ⟨hae, hR, hf1⟩ := hp
              rw [hae] at hw
              clear hae
              have hfr : rm_fr C C_165 := fun x y h9 => (hf1 x y h9).trans (hfr x y h9)
              clear hf1
              refine lv_aload_n hx hb d_M_fieldEntry_142 rfl (lv_at hl 2 rfl) ?_
              refine lv_iload_n hx hb d_M_fieldEntry_143 rfl (lv_at hl 0 rfl) ?_
              obtain ⟨y_167, hy_167, hE⟩ := ob_some hE
              have hc_168 : C_165 30 0 = some (.inr (4, [.ref (ad 31 0), .ref (ad 31 1), .ref (ad 31 2), .ref (ad 31 3), .ref (ad 31 4), .ref (ad 31 5), .ref (ad 31 6), .ref (ad 31 7), .ref (ad 31 8), .ref (ad 31 9), .ref (ad 31 10), .ref (ad 31 11), .ref (ad 31 12), .ref (ad 31 13), .ref (ad 31 14), .int y_163.objects, .ref (ad 31 15), .int y_163.length, .ref (ad 31 16), .int y_163.waits, .ref (ad 31 17), .int y_163.given, .ref (ad 31 18), .ref (ad 31 19), .ref (ad 31 20), .int y_163.left, .ref (ad 31 21), .ref (ad 31 22), .int y_163.oldLength, .int y_163.oldWaits, .int y_163.oldGiven])) := by have h9 := rm_at.o hR; exact h9
              refine pw_callv (va_runV (As := [.int (v_3 + 43)]) (rest := []) ⟨hx, hb, hml, hown, hts0⟩ (k_M_give hR hy_167 _) (cwV 1 hts0 (wd_V wd_954 wd_951 wd_953 wd_35 wd_56) rfl rfl rfl (by decide +kernel) ⟨Nat.le_of_ble_eq_true rfl, Nat.le_of_ble_eq_true rfl⟩) (pw_preV hZ hw hA hK hz rfl hc_168 rfl) rfl rfl hl.1 rfl (lv_room (Nat.le_of_ble_eq_true rfl)) d_M_fieldEntry_144 ⟨Nat.le_of_ble_eq_true rfl, Nat.le_of_ble_eq_true rfl⟩) hw hA (fun ad_169 C_170 H locs hp hw => ?_)
              obtain ⟨hae, hR, hf1⟩ := hp
              rw [hae] at hw
              clear hae
              have hfr : rm_fr C C_170 := fun x y h9 => (hf1 x y h9).trans (hfr x y h9)
              clear hf1
              refine lv_aload_n hx hb d_M_fieldEntry_147 rfl (lv_at hl 2 rfl) ?_
              refine lv_iload_n hx hb d_M_fieldEntry_148 rfl (lv_at hl 1 rfl) ?_
              obtain ⟨y_172, hy_172, hE⟩ := ob_some hE
              have hc_173 : C_170 30 0 = some (.inr (4, [.ref (ad 31 0), .ref (ad 31 1), .ref (ad 31 2), .ref (ad 31 3), .ref (ad 31 4), .ref (ad 31 5), .ref (ad 31 6), .ref (ad 31 7), .ref (ad 31 8), .ref (ad 31 9), .ref (ad 31 10), .ref (ad 31 11), .ref (ad 31 12), .ref (ad 31 13), .ref (ad 31 14), .int y_167.objects, .ref (ad 31 15), .int y_167.length, .ref (ad 31 16), .int y_167.waits, .ref (ad 31 17), .int y_167.given, .ref (ad 31 18), .ref (ad 31 19), .ref (ad 31 20), .int y_167.left, .ref (ad 31 21), .ref (ad 31 22), .int y_167.oldLength, .int y_167.oldWaits, .int y_167.oldGiven])) := by have h9 := rm_at.o hR; exact h9
              refine pw_callv (va_runV (As := [.int v_3]) (rest := []) ⟨hx, hb, hml, hown, hts0⟩ (k_M_typeSigns hR hy_172 _) (cwV 1 hts0 (wd_V wd_1022 wd_1019 wd_1021 wd_46 wd_56) rfl rfl rfl (by decide +kernel) ⟨Nat.le_of_ble_eq_true rfl, Nat.le_of_ble_eq_true rfl⟩) (pw_preV hZ hw hA hK hz rfl hc_173 rfl) rfl rfl hl.1 rfl (lv_room (Nat.le_of_ble_eq_true rfl)) d_M_fieldEntry_149 ⟨Nat.le_of_ble_eq_true rfl, Nat.le_of_ble_eq_true rfl⟩) hw hA (fun ad_174 C_175 H locs hp hw => ?_)
              obtain ⟨hae, hR, hf1⟩ := hp
              rw [hae] at hw
              clear hae
              have hfr : rm_fr C C_175 := fun x y h9 => (hf1 x y h9).trans (hfr x y h9)
              clear hf1
              obtain rfl := Option.some.inj hE
              exact pw_vret hx hb hr hlocks hw ⟨rfl, hR, hfr⟩ d_M_fieldEntry_152
            · rw [if_neg c_162] at hE
              refine lv_aload_n hx hb d_M_fieldEntry_126 rfl (lv_at hl 2 rfl) ?_
              refine lv_iload_n hx hb d_M_fieldEntry_127 rfl (lv_at hl 0 rfl) ?_
              obtain ⟨y_177, hy_177, hE⟩ := ob_some hE
              refine pw_callv (va_runV (As := [.int (v_3 + 43)]) (rest := []) ⟨hx, hb, hml, hown, hts0⟩ (k_M_refer hR hy_177 _) (cwV 1 hts0 (wd_V wd_947 wd_944 wd_946 wd_34 wd_56) rfl rfl rfl (by decide +kernel) ⟨Nat.le_of_ble_eq_true rfl, Nat.le_of_ble_eq_true rfl⟩) (pw_preV hZ hw hA hK hz rfl hc_159 rfl) rfl rfl hl.1 rfl (lv_room (Nat.le_of_ble_eq_true rfl)) d_M_fieldEntry_128 ⟨Nat.le_of_ble_eq_true rfl, Nat.le_of_ble_eq_true rfl⟩) hw hA (fun ad_178 C_179 H locs hp hw => ?_)
              obtain ⟨hae, hR, hf1⟩ := hp
              rw [hae] at hw
              clear hae
              have hfr : rm_fr C C_179 := fun x y h9 => (hf1 x y h9).trans (hfr x y h9)
              clear hf1
              refine lv_goto (tgt := 152) hx hb d_M_fieldEntry_131 (by decide) ?_
              obtain rfl := Option.some.inj hE
              exact pw_vret hx hb hr hlocks hw ⟨rfl, hR, hfr⟩ d_M_fieldEntry_152
          · rw [if_neg c_158] at hE
            obtain rfl := Option.some.inj hE
            exact pw_vret hx hb hr hlocks hw ⟨rfl, hR, hfr⟩ d_M_fieldEntry_111
      · rw [if_pos c_6] at hE
        refine lv_ldc2 (v := 73) hx hb hown (hts _ wd_1013) d_M_fieldEntry_34 ?_
        refine lv_goto (tgt := 88) hx hb d_M_fieldEntry_37 (by decide) ?_
        refine lv_iconst (v := 1) hx hb d_M_fieldEntry_88 (by decide) ?_
        obtain ⟨y_181, hy_181, hE⟩ := ob_some hE
        refine pw_callv (va_runV (As := [.long 73, .int 1]) (rest := []) ⟨hx, hb, hml, hown, hts0⟩ (k_M_append hR hy_181 _) (cwV 2 hts0 (wd_V wd_748 wd_745 wd_747 wd_20 wd_56) rfl rfl rfl (by decide +kernel) ⟨Nat.le_of_ble_eq_true rfl, Nat.le_of_ble_eq_true rfl⟩) (pw_preV hZ hw hA hK hz rfl hc_1 rfl) rfl rfl hl.1 rfl (lv_room (Nat.le_of_ble_eq_true rfl)) d_M_fieldEntry_89 ⟨Nat.le_of_ble_eq_true rfl, Nat.le_of_ble_eq_true rfl⟩) hw hA (fun ad_182 C_183 H locs hp hw => ?_)
        obtain ⟨hae, hR, hf1⟩ := hp
        rw [hae] at hw
        clear hae
        have hfr : rm_fr C C_183 := fun x y h9 => (hf1 x y h9).trans (hfr x y h9)
        clear hf1
        refine lv_aload_n hx hb d_M_fieldEntry_92 rfl (lv_at hl 1 rfl) ?_
        refine lv_bipush (v := 97) hx hb d_M_fieldEntry_93 (by decide) ?_
        refine lv_aload_n hx hb d_M_fieldEntry_95 rfl (lv_at hl 1 rfl) ?_
        have hc_185 : C_183 30 0 = some (.inr (4, [.ref (ad 31 0), .ref (ad 31 1), .ref (ad 31 2), .ref (ad 31 3), .ref (ad 31 4), .ref (ad 31 5), .ref (ad 31 6), .ref (ad 31 7), .ref (ad 31 8), .ref (ad 31 9), .ref (ad 31 10), .ref (ad 31 11), .ref (ad 31 12), .ref (ad 31 13), .ref (ad 31 14), .int y_181.objects, .ref (ad 31 15), .int y_181.length, .ref (ad 31 16), .int y_181.waits, .ref (ad 31 17), .int y_181.given, .ref (ad 31 18), .ref (ad 31 19), .ref (ad 31 20), .int y_181.left, .ref (ad 31 21), .ref (ad 31 22), .int y_181.oldLength, .int y_181.oldWaits, .int y_181.oldGiven])) := by have h9 := rm_at.o hR; exact h9
        refine pw_get (Cn := "GraphWriterModel") (T := F_M) (N := 31) hx hb hts in_M hown hK hw 30 0 rfl hc_185 rfl 5 (by decide) (hts _ wd_759) (fun _ h9 => h9) rfl d_M_fieldEntry_96 ?_
        refine lv_iload_n hx hb d_M_fieldEntry_99 rfl (lv_at hl 2 rfl) ?_
        have hc_186 : C_183 31 5 = some (.inl (ca 0, 24, .inl y_181.fName)) := by have h9 := rm_at.a5 hR; exact h9
        obtain ⟨v_187, hv_187, hE⟩ := ob_some hE
        obtain ⟨hi_v_187, hj_v_187, he_v_187⟩ := rd_some (by decide) hv_187
        refine pw_iald hx hb hK hw 31 5 rfl 0 hc_186 rfl (l1 : Int32).toNatClampNeg hi_v_187 (by omega) (by omega) d_M_fieldEntry_100 ?_
        rw [← he_v_187]
        refine lv_iadd hx hb d_M_fieldEntry_101 ?_
        obtain ⟨y_188, hy_188, hE⟩ := ob_some hE
        refine pw_callv (va_runV (As := [.int (97 + v_187)]) (rest := []) ⟨hx, hb, hml, hown, hts0⟩ (k_M_letter hR hy_188 _) (cwV 1 hts0 (wd_V wd_994 wd_991 wd_993 wd_42 wd_56) rfl rfl rfl (by decide +kernel) ⟨Nat.le_of_ble_eq_true rfl, Nat.le_of_ble_eq_true rfl⟩) (pw_preV hZ hw hA hK hz rfl hc_185 rfl) rfl rfl hl.1 rfl (lv_room (Nat.le_of_ble_eq_true rfl)) d_M_fieldEntry_102 ⟨Nat.le_of_ble_eq_true rfl, Nat.le_of_ble_eq_true rfl⟩) hw hA (fun ad_189 C_190 H locs hp hw => ?_)
        obtain ⟨hae, hR, hf1⟩ := hp
        rw [hae] at hw
        clear hae
        have hfr : rm_fr C C_190 := fun x y h9 => (hf1 x y h9).trans (hfr x y h9)
        clear hf1
        refine lv_iload_n hx hb d_M_fieldEntry_105 rfl (lv_at hl 0 rfl) ?_
        refine lv_bipush (v := 6) hx hb d_M_fieldEntry_106 (by decide) ?_
        refine lv_icmp_ge (tgt := 112) hx hb d_M_fieldEntry_108 (by decide) (fun c_192 => ?_) (fun c_192 => ?_)
        · rw [if_pos c_192] at hE
          refine lv_iload_n hx hb d_M_fieldEntry_112 rfl (lv_at hl 0 rfl) ?_
          refine lv_bipush (v := 43) hx hb d_M_fieldEntry_113 (by decide) ?_
          refine lv_iadd hx hb d_M_fieldEntry_115 ?_
          refine lv_istore_n (lv' := [(3, .int (v_3 + 43)), (2, .int v_3), (0, .ref (ad 30 0)), (1, .int l1)]) hx hb d_M_fieldEntry_116 rfl hl (by decide) rfl (fun ls hl => ?_)
          refine lv_aload_n hx hb d_M_fieldEntry_117 rfl (lv_at hl 2 rfl) ?_
          have hc_193 : C_190 30 0 = some (.inr (4, [.ref (ad 31 0), .ref (ad 31 1), .ref (ad 31 2), .ref (ad 31 3), .ref (ad 31 4), .ref (ad 31 5), .ref (ad 31 6), .ref (ad 31 7), .ref (ad 31 8), .ref (ad 31 9), .ref (ad 31 10), .ref (ad 31 11), .ref (ad 31 12), .ref (ad 31 13), .ref (ad 31 14), .int y_188.objects, .ref (ad 31 15), .int y_188.length, .ref (ad 31 16), .int y_188.waits, .ref (ad 31 17), .int y_188.given, .ref (ad 31 18), .ref (ad 31 19), .ref (ad 31 20), .int y_188.left, .ref (ad 31 21), .ref (ad 31 22), .int y_188.oldLength, .int y_188.oldWaits, .int y_188.oldGiven])) := by have h9 := rm_at.o hR; exact h9
          refine pw_get (Cn := "GraphWriterModel") (T := F_M) (N := 31) hx hb hts in_M hown hK hw 30 0 rfl hc_193 rfl 20 (by decide) (hts _ wd_774) (fun _ h9 => h9) rfl d_M_fieldEntry_118 ?_
          refine lv_iload_n hx hb d_M_fieldEntry_121 rfl (lv_at hl 0 rfl) ?_
          have hc_194 : C_190 31 17 = some (.inl (ca 0, 51, .inl y_188.handles)) := by have h9 := rm_at.a17 hR; exact h9
          obtain ⟨v_195, hv_195, hE⟩ := ob_some hE
          obtain ⟨hi_v_195, hj_v_195, he_v_195⟩ := rd_some (by decide) hv_195
          refine pw_iald hx hb hK hw 31 17 rfl 0 hc_194 rfl (v_3 + 43 : Int32).toNatClampNeg hi_v_195 (by omega) (by omega) d_M_fieldEntry_122 ?_
          rw [← he_v_195]
          refine lv_if_lt (tgt := 134) hx hb d_M_fieldEntry_123 (by decide) (fun c_196 => ?_) (fun c_196 => ?_)
          · rw [if_pos c_196] at hE
            refine lv_aload_n hx hb d_M_fieldEntry_134 rfl (lv_at hl 2 rfl) ?_
            refine lv_ldc2 (v := 116) hx hb hown (hts _ wd_950) d_M_fieldEntry_135 ?_
            refine lv_iconst (v := 1) hx hb d_M_fieldEntry_138 (by decide) ?_
            obtain ⟨y_197, hy_197, hE⟩ := ob_some hE
            refine pw_callv (va_runV (As := [.long 116, .int 1]) (rest := []) ⟨hx, hb, hml, hown, hts0⟩ (k_M_append hR hy_197 _) (cwV 2 hts0 (wd_V wd_748 wd_745 wd_747 wd_20 wd_56) rfl rfl rfl (by decide +kernel) ⟨Nat.le_of_ble_eq_true rfl, Nat.le_of_ble_eq_true rfl⟩) (pw_preV hZ hw hA hK hz rfl hc_193 rfl) rfl rfl hl.1 rfl (lv_room (Nat.le_of_ble_eq_true rfl)) d_M_fieldEntry_139 ⟨Nat.le_of_ble_eq_true rfl, Nat.le_of_ble_eq_true rfl⟩) hw hA (fun ad_198 C_199 H locs hp hw => ?_)
            obtain ⟨hae, hR, hf1⟩ := hp
            rw [hae] at hw
            clear hae
            have hfr : rm_fr C C_199 := fun x y h9 => (hf1 x y h9).trans (hfr x y h9)
            clear hf1
            refine lv_aload_n hx hb d_M_fieldEntry_142 rfl (lv_at hl 2 rfl) ?_
            refine lv_iload_n hx hb d_M_fieldEntry_143 rfl (lv_at hl 0 rfl) ?_
            obtain ⟨y_201, hy_201, hE⟩ := ob_some hE
            have hc_202 : C_199 30 0 = some (.inr (4, [.ref (ad 31 0), .ref (ad 31 1), .ref (ad 31 2), .ref (ad 31 3), .ref (ad 31 4), .ref (ad 31 5), .ref (ad 31 6), .ref (ad 31 7), .ref (ad 31 8), .ref (ad 31 9), .ref (ad 31 10), .ref (ad 31 11), .ref (ad 31 12), .ref (ad 31 13), .ref (ad 31 14), .int y_197.objects, .ref (ad 31 15), .int y_197.length, .ref (ad 31 16), .int y_197.waits, .ref (ad 31 17), .int y_197.given, .ref (ad 31 18), .ref (ad 31 19), .ref (ad 31 20), .int y_197.left, .ref (ad 31 21), .ref (ad 31 22), .int y_197.oldLength, .int y_197.oldWaits, .int y_197.oldGiven])) := by have h9 := rm_at.o hR; exact h9
            refine pw_callv (va_runV (As := [.int (v_3 + 43)]) (rest := []) ⟨hx, hb, hml, hown, hts0⟩ (k_M_give hR hy_201 _) (cwV 1 hts0 (wd_V wd_954 wd_951 wd_953 wd_35 wd_56) rfl rfl rfl (by decide +kernel) ⟨Nat.le_of_ble_eq_true rfl, Nat.le_of_ble_eq_true rfl⟩) (pw_preV hZ hw hA hK hz rfl hc_202 rfl) rfl rfl hl.1 rfl (lv_room (Nat.le_of_ble_eq_true rfl)) d_M_fieldEntry_144 ⟨Nat.le_of_ble_eq_true rfl, Nat.le_of_ble_eq_true rfl⟩) hw hA (fun ad_203 C_204 H locs hp hw => ?_)
            obtain ⟨hae, hR, hf1⟩ := hp
            rw [hae] at hw
            clear hae
            have hfr : rm_fr C C_204 := fun x y h9 => (hf1 x y h9).trans (hfr x y h9)
            clear hf1
            refine lv_aload_n hx hb d_M_fieldEntry_147 rfl (lv_at hl 2 rfl) ?_
            refine lv_iload_n hx hb d_M_fieldEntry_148 rfl (lv_at hl 1 rfl) ?_
            obtain ⟨y_206, hy_206, hE⟩ := ob_some hE
            have hc_207 : C_204 30 0 = some (.inr (4, [.ref (ad 31 0), .ref (ad 31 1), .ref (ad 31 2), .ref (ad 31 3), .ref (ad 31 4), .ref (ad 31 5), .ref (ad 31 6), .ref (ad 31 7), .ref (ad 31 8), .ref (ad 31 9), .ref (ad 31 10), .ref (ad 31 11), .ref (ad 31 12), .ref (ad 31 13), .ref (ad 31 14), .int y_201.objects, .ref (ad 31 15), .int y_201.length, .ref (ad 31 16), .int y_201.waits, .ref (ad 31 17), .int y_201.given, .ref (ad 31 18), .ref (ad 31 19), .ref (ad 31 20), .int y_201.left, .ref (ad 31 21), .ref (ad 31 22), .int y_201.oldLength, .int y_201.oldWaits, .int y_201.oldGiven])) := by have h9 := rm_at.o hR; exact h9
            refine pw_callv (va_runV (As := [.int v_3]) (rest := []) ⟨hx, hb, hml, hown, hts0⟩ (k_M_typeSigns hR hy_206 _) (cwV 1 hts0 (wd_V wd_1022 wd_1019 wd_1021 wd_46 wd_56) rfl rfl rfl (by decide +kernel) ⟨Nat.le_of_ble_eq_true rfl, Nat.le_of_ble_eq_true rfl⟩) (pw_preV hZ hw hA hK hz rfl hc_207 rfl) rfl rfl hl.1 rfl (lv_room (Nat.le_of_ble_eq_true rfl)) d_M_fieldEntry_149 ⟨Nat.le_of_ble_eq_true rfl, Nat.le_of_ble_eq_true rfl⟩) hw hA (fun ad_208 C_209 H locs hp hw => ?_)
            obtain ⟨hae, hR, hf1⟩ := hp
            rw [hae] at hw
            clear hae
            have hfr : rm_fr C C_209 := fun x y h9 => (hf1 x y h9).trans (hfr x y h9)
            clear hf1
            obtain rfl := Option.some.inj hE
            exact pw_vret hx hb hr hlocks hw ⟨rfl, hR, hfr⟩ d_M_fieldEntry_152
          · rw [if_neg c_196] at hE
            refine lv_aload_n hx hb d_M_fieldEntry_126 rfl (lv_at hl 2 rfl) ?_
            refine lv_iload_n hx hb d_M_fieldEntry_127 rfl (lv_at hl 0 rfl) ?_
            obtain ⟨y_211, hy_211, hE⟩ := ob_some hE
            refine pw_callv (va_runV (As := [.int (v_3 + 43)]) (rest := []) ⟨hx, hb, hml, hown, hts0⟩ (k_M_refer hR hy_211 _) (cwV 1 hts0 (wd_V wd_947 wd_944 wd_946 wd_34 wd_56) rfl rfl rfl (by decide +kernel) ⟨Nat.le_of_ble_eq_true rfl, Nat.le_of_ble_eq_true rfl⟩) (pw_preV hZ hw hA hK hz rfl hc_193 rfl) rfl rfl hl.1 rfl (lv_room (Nat.le_of_ble_eq_true rfl)) d_M_fieldEntry_128 ⟨Nat.le_of_ble_eq_true rfl, Nat.le_of_ble_eq_true rfl⟩) hw hA (fun ad_212 C_213 H locs hp hw => ?_)
            obtain ⟨hae, hR, hf1⟩ := hp
            rw [hae] at hw
            clear hae
            have hfr : rm_fr C C_213 := fun x y h9 => (hf1 x y h9).trans (hfr x y h9)
            clear hf1
            refine lv_goto (tgt := 152) hx hb d_M_fieldEntry_131 (by decide) ?_
            obtain rfl := Option.some.inj hE
            exact pw_vret hx hb hr hlocks hw ⟨rfl, hR, hfr⟩ d_M_fieldEntry_152
        · rw [if_neg c_192] at hE
          obtain rfl := Option.some.inj hE
          exact pw_vret hx hb hr hlocks hw ⟨rfl, hR, hfr⟩ d_M_fieldEntry_111
    · rw [if_pos c_5] at hE
      refine lv_ldc2 (v := 67) hx hb hown (hts _ wd_1012) d_M_fieldEntry_23 ?_
      refine lv_goto (tgt := 88) hx hb d_M_fieldEntry_26 (by decide) ?_
      refine lv_iconst (v := 1) hx hb d_M_fieldEntry_88 (by decide) ?_
      obtain ⟨y_215, hy_215, hE⟩ := ob_some hE
      refine pw_callv (va_runV (As := [.long 67, .int 1]) (rest := []) ⟨hx, hb, hml, hown, hts0⟩ (k_M_append hR hy_215 _) (cwV 2 hts0 (wd_V wd_748 wd_745 wd_747 wd_20 wd_56) rfl rfl rfl (by decide +kernel) ⟨Nat.le_of_ble_eq_true rfl, Nat.le_of_ble_eq_true rfl⟩) (pw_preV hZ hw hA hK hz rfl hc_1 rfl) rfl rfl hl.1 rfl (lv_room (Nat.le_of_ble_eq_true rfl)) d_M_fieldEntry_89 ⟨Nat.le_of_ble_eq_true rfl, Nat.le_of_ble_eq_true rfl⟩) hw hA (fun ad_216 C_217 H locs hp hw => ?_)
      obtain ⟨hae, hR, hf1⟩ := hp
      rw [hae] at hw
      clear hae
      have hfr : rm_fr C C_217 := fun x y h9 => (hf1 x y h9).trans (hfr x y h9)
      clear hf1
      refine lv_aload_n hx hb d_M_fieldEntry_92 rfl (lv_at hl 1 rfl) ?_
      refine lv_bipush (v := 97) hx hb d_M_fieldEntry_93 (by decide) ?_
      refine lv_aload_n hx hb d_M_fieldEntry_95 rfl (lv_at hl 1 rfl) ?_
      have hc_219 : C_217 30 0 = some (.inr (4, [.ref (ad 31 0), .ref (ad 31 1), .ref (ad 31 2), .ref (ad 31 3), .ref (ad 31 4), .ref (ad 31 5), .ref (ad 31 6), .ref (ad 31 7), .ref (ad 31 8), .ref (ad 31 9), .ref (ad 31 10), .ref (ad 31 11), .ref (ad 31 12), .ref (ad 31 13), .ref (ad 31 14), .int y_215.objects, .ref (ad 31 15), .int y_215.length, .ref (ad 31 16), .int y_215.waits, .ref (ad 31 17), .int y_215.given, .ref (ad 31 18), .ref (ad 31 19), .ref (ad 31 20), .int y_215.left, .ref (ad 31 21), .ref (ad 31 22), .int y_215.oldLength, .int y_215.oldWaits, .int y_215.oldGiven])) := by have h9 := rm_at.o hR; exact h9
      refine pw_get (Cn := "GraphWriterModel") (T := F_M) (N := 31) hx hb hts in_M hown hK hw 30 0 rfl hc_219 rfl 5 (by decide) (hts _ wd_759) (fun _ h9 => h9) rfl d_M_fieldEntry_96 ?_
      refine lv_iload_n hx hb d_M_fieldEntry_99 rfl (lv_at hl 2 rfl) ?_
      have hc_220 : C_217 31 5 = some (.inl (ca 0, 24, .inl y_215.fName)) := by have h9 := rm_at.a5 hR; exact h9
      obtain ⟨v_221, hv_221, hE⟩ := ob_some hE
      obtain ⟨hi_v_221, hj_v_221, he_v_221⟩ := rd_some (by decide) hv_221
      refine pw_iald hx hb hK hw 31 5 rfl 0 hc_220 rfl (l1 : Int32).toNatClampNeg hi_v_221 (by omega) (by omega) d_M_fieldEntry_100 ?_
      rw [← he_v_221]
      refine lv_iadd hx hb d_M_fieldEntry_101 ?_
      obtain ⟨y_222, hy_222, hE⟩ := ob_some hE
      refine pw_callv (va_runV (As := [.int (97 + v_221)]) (rest := []) ⟨hx, hb, hml, hown, hts0⟩ (k_M_letter hR hy_222 _) (cwV 1 hts0 (wd_V wd_994 wd_991 wd_993 wd_42 wd_56) rfl rfl rfl (by decide +kernel) ⟨Nat.le_of_ble_eq_true rfl, Nat.le_of_ble_eq_true rfl⟩) (pw_preV hZ hw hA hK hz rfl hc_219 rfl) rfl rfl hl.1 rfl (lv_room (Nat.le_of_ble_eq_true rfl)) d_M_fieldEntry_102 ⟨Nat.le_of_ble_eq_true rfl, Nat.le_of_ble_eq_true rfl⟩) hw hA (fun ad_223 C_224 H locs hp hw => ?_)
      obtain ⟨hae, hR, hf1⟩ := hp
      rw [hae] at hw
      clear hae
      have hfr : rm_fr C C_224 := fun x y h9 => (hf1 x y h9).trans (hfr x y h9)
      clear hf1
      refine lv_iload_n hx hb d_M_fieldEntry_105 rfl (lv_at hl 0 rfl) ?_
      refine lv_bipush (v := 6) hx hb d_M_fieldEntry_106 (by decide) ?_
      refine lv_icmp_ge (tgt := 112) hx hb d_M_fieldEntry_108 (by decide) (fun c_226 => ?_) (fun c_226 => ?_)
      · rw [if_pos c_226] at hE
        refine lv_iload_n hx hb d_M_fieldEntry_112 rfl (lv_at hl 0 rfl) ?_
        refine lv_bipush (v := 43) hx hb d_M_fieldEntry_113 (by decide) ?_
        refine lv_iadd hx hb d_M_fieldEntry_115 ?_
        refine lv_istore_n (lv' := [(3, .int (v_3 + 43)), (2, .int v_3), (0, .ref (ad 30 0)), (1, .int l1)]) hx hb d_M_fieldEntry_116 rfl hl (by decide) rfl (fun ls hl => ?_)
        refine lv_aload_n hx hb d_M_fieldEntry_117 rfl (lv_at hl 2 rfl) ?_
        have hc_227 : C_224 30 0 = some (.inr (4, [.ref (ad 31 0), .ref (ad 31 1), .ref (ad 31 2), .ref (ad 31 3), .ref (ad 31 4), .ref (ad 31 5), .ref (ad 31 6), .ref (ad 31 7), .ref (ad 31 8), .ref (ad 31 9), .ref (ad 31 10), .ref (ad 31 11), .ref (ad 31 12), .ref (ad 31 13), .ref (ad 31 14), .int y_222.objects, .ref (ad 31 15), .int y_222.length, .ref (ad 31 16), .int y_222.waits, .ref (ad 31 17), .int y_222.given, .ref (ad 31 18), .ref (ad 31 19), .ref (ad 31 20), .int y_222.left, .ref (ad 31 21), .ref (ad 31 22), .int y_222.oldLength, .int y_222.oldWaits, .int y_222.oldGiven])) := by have h9 := rm_at.o hR; exact h9
        refine pw_get (Cn := "GraphWriterModel") (T := F_M) (N := 31) hx hb hts in_M hown hK hw 30 0 rfl hc_227 rfl 20 (by decide) (hts _ wd_774) (fun _ h9 => h9) rfl d_M_fieldEntry_118 ?_
        refine lv_iload_n hx hb d_M_fieldEntry_121 rfl (lv_at hl 0 rfl) ?_
        have hc_228 : C_224 31 17 = some (.inl (ca 0, 51, .inl y_222.handles)) := by have h9 := rm_at.a17 hR; exact h9
        obtain ⟨v_229, hv_229, hE⟩ := ob_some hE
        obtain ⟨hi_v_229, hj_v_229, he_v_229⟩ := rd_some (by decide) hv_229
        refine pw_iald hx hb hK hw 31 17 rfl 0 hc_228 rfl (v_3 + 43 : Int32).toNatClampNeg hi_v_229 (by omega) (by omega) d_M_fieldEntry_122 ?_
        rw [← he_v_229]
        refine lv_if_lt (tgt := 134) hx hb d_M_fieldEntry_123 (by decide) (fun c_230 => ?_) (fun c_230 => ?_)
        · rw [if_pos c_230] at hE
          refine lv_aload_n hx hb d_M_fieldEntry_134 rfl (lv_at hl 2 rfl) ?_
          refine lv_ldc2 (v := 116) hx hb hown (hts _ wd_950) d_M_fieldEntry_135 ?_
          refine lv_iconst (v := 1) hx hb d_M_fieldEntry_138 (by decide) ?_
          obtain ⟨y_231, hy_231, hE⟩ := ob_some hE
          refine pw_callv (va_runV (As := [.long 116, .int 1]) (rest := []) ⟨hx, hb, hml, hown, hts0⟩ (k_M_append hR hy_231 _) (cwV 2 hts0 (wd_V wd_748 wd_745 wd_747 wd_20 wd_56) rfl rfl rfl (by decide +kernel) ⟨Nat.le_of_ble_eq_true rfl, Nat.le_of_ble_eq_true rfl⟩) (pw_preV hZ hw hA hK hz rfl hc_227 rfl) rfl rfl hl.1 rfl (lv_room (Nat.le_of_ble_eq_true rfl)) d_M_fieldEntry_139 ⟨Nat.le_of_ble_eq_true rfl, Nat.le_of_ble_eq_true rfl⟩) hw hA (fun ad_232 C_233 H locs hp hw => ?_)
          obtain ⟨hae, hR, hf1⟩ := hp
          rw [hae] at hw
          clear hae
          have hfr : rm_fr C C_233 := fun x y h9 => (hf1 x y h9).trans (hfr x y h9)
          clear hf1
          refine lv_aload_n hx hb d_M_fieldEntry_142 rfl (lv_at hl 2 rfl) ?_
          refine lv_iload_n hx hb d_M_fieldEntry_143 rfl (lv_at hl 0 rfl) ?_
          obtain ⟨y_235, hy_235, hE⟩ := ob_some hE
          have hc_236 : C_233 30 0 = some (.inr (4, [.ref (ad 31 0), .ref (ad 31 1), .ref (ad 31 2), .ref (ad 31 3), .ref (ad 31 4), .ref (ad 31 5), .ref (ad 31 6), .ref (ad 31 7), .ref (ad 31 8), .ref (ad 31 9), .ref (ad 31 10), .ref (ad 31 11), .ref (ad 31 12), .ref (ad 31 13), .ref (ad 31 14), .int y_231.objects, .ref (ad 31 15), .int y_231.length, .ref (ad 31 16), .int y_231.waits, .ref (ad 31 17), .int y_231.given, .ref (ad 31 18), .ref (ad 31 19), .ref (ad 31 20), .int y_231.left, .ref (ad 31 21), .ref (ad 31 22), .int y_231.oldLength, .int y_231.oldWaits, .int y_231.oldGiven])) := by have h9 := rm_at.o hR; exact h9
          refine pw_callv (va_runV (As := [.int (v_3 + 43)]) (rest := []) ⟨hx, hb, hml, hown, hts0⟩ (k_M_give hR hy_235 _) (cwV 1 hts0 (wd_V wd_954 wd_951 wd_953 wd_35 wd_56) rfl rfl rfl (by decide +kernel) ⟨Nat.le_of_ble_eq_true rfl, Nat.le_of_ble_eq_true rfl⟩) (pw_preV hZ hw hA hK hz rfl hc_236 rfl) rfl rfl hl.1 rfl (lv_room (Nat.le_of_ble_eq_true rfl)) d_M_fieldEntry_144 ⟨Nat.le_of_ble_eq_true rfl, Nat.le_of_ble_eq_true rfl⟩) hw hA (fun ad_237 C_238 H locs hp hw => ?_)
          obtain ⟨hae, hR, hf1⟩ := hp
          rw [hae] at hw
          clear hae
          have hfr : rm_fr C C_238 := fun x y h9 => (hf1 x y h9).trans (hfr x y h9)
          clear hf1
          refine lv_aload_n hx hb d_M_fieldEntry_147 rfl (lv_at hl 2 rfl) ?_
          refine lv_iload_n hx hb d_M_fieldEntry_148 rfl (lv_at hl 1 rfl) ?_
          obtain ⟨y_240, hy_240, hE⟩ := ob_some hE
          have hc_241 : C_238 30 0 = some (.inr (4, [.ref (ad 31 0), .ref (ad 31 1), .ref (ad 31 2), .ref (ad 31 3), .ref (ad 31 4), .ref (ad 31 5), .ref (ad 31 6), .ref (ad 31 7), .ref (ad 31 8), .ref (ad 31 9), .ref (ad 31 10), .ref (ad 31 11), .ref (ad 31 12), .ref (ad 31 13), .ref (ad 31 14), .int y_235.objects, .ref (ad 31 15), .int y_235.length, .ref (ad 31 16), .int y_235.waits, .ref (ad 31 17), .int y_235.given, .ref (ad 31 18), .ref (ad 31 19), .ref (ad 31 20), .int y_235.left, .ref (ad 31 21), .ref (ad 31 22), .int y_235.oldLength, .int y_235.oldWaits, .int y_235.oldGiven])) := by have h9 := rm_at.o hR; exact h9
          refine pw_callv (va_runV (As := [.int v_3]) (rest := []) ⟨hx, hb, hml, hown, hts0⟩ (k_M_typeSigns hR hy_240 _) (cwV 1 hts0 (wd_V wd_1022 wd_1019 wd_1021 wd_46 wd_56) rfl rfl rfl (by decide +kernel) ⟨Nat.le_of_ble_eq_true rfl, Nat.le_of_ble_eq_true rfl⟩) (pw_preV hZ hw hA hK hz rfl hc_241 rfl) rfl rfl hl.1 rfl (lv_room (Nat.le_of_ble_eq_true rfl)) d_M_fieldEntry_149 ⟨Nat.le_of_ble_eq_true rfl, Nat.le_of_ble_eq_true rfl⟩) hw hA (fun ad_242 C_243 H locs hp hw => ?_)
          obtain ⟨hae, hR, hf1⟩ := hp
          rw [hae] at hw
          clear hae
          have hfr : rm_fr C C_243 := fun x y h9 => (hf1 x y h9).trans (hfr x y h9)
          clear hf1
          obtain rfl := Option.some.inj hE
          exact pw_vret hx hb hr hlocks hw ⟨rfl, hR, hfr⟩ d_M_fieldEntry_152
        · rw [if_neg c_230] at hE
          refine lv_aload_n hx hb d_M_fieldEntry_126 rfl (lv_at hl 2 rfl) ?_
          refine lv_iload_n hx hb d_M_fieldEntry_127 rfl (lv_at hl 0 rfl) ?_
          obtain ⟨y_245, hy_245, hE⟩ := ob_some hE
          refine pw_callv (va_runV (As := [.int (v_3 + 43)]) (rest := []) ⟨hx, hb, hml, hown, hts0⟩ (k_M_refer hR hy_245 _) (cwV 1 hts0 (wd_V wd_947 wd_944 wd_946 wd_34 wd_56) rfl rfl rfl (by decide +kernel) ⟨Nat.le_of_ble_eq_true rfl, Nat.le_of_ble_eq_true rfl⟩) (pw_preV hZ hw hA hK hz rfl hc_227 rfl) rfl rfl hl.1 rfl (lv_room (Nat.le_of_ble_eq_true rfl)) d_M_fieldEntry_128 ⟨Nat.le_of_ble_eq_true rfl, Nat.le_of_ble_eq_true rfl⟩) hw hA (fun ad_246 C_247 H locs hp hw => ?_)
          obtain ⟨hae, hR, hf1⟩ := hp
          rw [hae] at hw
          clear hae
          have hfr : rm_fr C C_247 := fun x y h9 => (hf1 x y h9).trans (hfr x y h9)
          clear hf1
          refine lv_goto (tgt := 152) hx hb d_M_fieldEntry_131 (by decide) ?_
          obtain rfl := Option.some.inj hE
          exact pw_vret hx hb hr hlocks hw ⟨rfl, hR, hfr⟩ d_M_fieldEntry_152
      · rw [if_neg c_226] at hE
        obtain rfl := Option.some.inj hE
        exact pw_vret hx hb hr hlocks hw ⟨rfl, hR, hfr⟩ d_M_fieldEntry_111
  · rw [if_pos c_4] at hE
    refine lv_ldc2 (v := 66) hx hb hown (hts _ wd_1011) d_M_fieldEntry_12 ?_
    refine lv_goto (tgt := 88) hx hb d_M_fieldEntry_15 (by decide) ?_
    refine lv_iconst (v := 1) hx hb d_M_fieldEntry_88 (by decide) ?_
    obtain ⟨y_249, hy_249, hE⟩ := ob_some hE
    refine pw_callv (va_runV (As := [.long 66, .int 1]) (rest := []) ⟨hx, hb, hml, hown, hts0⟩ (k_M_append hR hy_249 _) (cwV 2 hts0 (wd_V wd_748 wd_745 wd_747 wd_20 wd_56) rfl rfl rfl (by decide +kernel) ⟨Nat.le_of_ble_eq_true rfl, Nat.le_of_ble_eq_true rfl⟩) (pw_preV hZ hw hA hK hz rfl hc_1 rfl) rfl rfl hl.1 rfl (lv_room (Nat.le_of_ble_eq_true rfl)) d_M_fieldEntry_89 ⟨Nat.le_of_ble_eq_true rfl, Nat.le_of_ble_eq_true rfl⟩) hw hA (fun ad_250 C_251 H locs hp hw => ?_)
    obtain ⟨hae, hR, hf1⟩ := hp
    rw [hae] at hw
    clear hae
    have hfr : rm_fr C C_251 := fun x y h9 => (hf1 x y h9).trans (hfr x y h9)
    clear hf1
    refine lv_aload_n hx hb d_M_fieldEntry_92 rfl (lv_at hl 1 rfl) ?_
    refine lv_bipush (v := 97) hx hb d_M_fieldEntry_93 (by decide) ?_
    refine lv_aload_n hx hb d_M_fieldEntry_95 rfl (lv_at hl 1 rfl) ?_
    have hc_253 : C_251 30 0 = some (.inr (4, [.ref (ad 31 0), .ref (ad 31 1), .ref (ad 31 2), .ref (ad 31 3), .ref (ad 31 4), .ref (ad 31 5), .ref (ad 31 6), .ref (ad 31 7), .ref (ad 31 8), .ref (ad 31 9), .ref (ad 31 10), .ref (ad 31 11), .ref (ad 31 12), .ref (ad 31 13), .ref (ad 31 14), .int y_249.objects, .ref (ad 31 15), .int y_249.length, .ref (ad 31 16), .int y_249.waits, .ref (ad 31 17), .int y_249.given, .ref (ad 31 18), .ref (ad 31 19), .ref (ad 31 20), .int y_249.left, .ref (ad 31 21), .ref (ad 31 22), .int y_249.oldLength, .int y_249.oldWaits, .int y_249.oldGiven])) := by have h9 := rm_at.o hR; exact h9
    refine pw_get (Cn := "GraphWriterModel") (T := F_M) (N := 31) hx hb hts in_M hown hK hw 30 0 rfl hc_253 rfl 5 (by decide) (hts _ wd_759) (fun _ h9 => h9) rfl d_M_fieldEntry_96 ?_
    refine lv_iload_n hx hb d_M_fieldEntry_99 rfl (lv_at hl 2 rfl) ?_
    have hc_254 : C_251 31 5 = some (.inl (ca 0, 24, .inl y_249.fName)) := by have h9 := rm_at.a5 hR; exact h9
    obtain ⟨v_255, hv_255, hE⟩ := ob_some hE
    obtain ⟨hi_v_255, hj_v_255, he_v_255⟩ := rd_some (by decide) hv_255
    refine pw_iald hx hb hK hw 31 5 rfl 0 hc_254 rfl (l1 : Int32).toNatClampNeg hi_v_255 (by omega) (by omega) d_M_fieldEntry_100 ?_
    rw [← he_v_255]
    refine lv_iadd hx hb d_M_fieldEntry_101 ?_
    obtain ⟨y_256, hy_256, hE⟩ := ob_some hE
    refine pw_callv (va_runV (As := [.int (97 + v_255)]) (rest := []) ⟨hx, hb, hml, hown, hts0⟩ (k_M_letter hR hy_256 _) (cwV 1 hts0 (wd_V wd_994 wd_991 wd_993 wd_42 wd_56) rfl rfl rfl (by decide +kernel) ⟨Nat.le_of_ble_eq_true rfl, Nat.le_of_ble_eq_true rfl⟩) (pw_preV hZ hw hA hK hz rfl hc_253 rfl) rfl rfl hl.1 rfl (lv_room (Nat.le_of_ble_eq_true rfl)) d_M_fieldEntry_102 ⟨Nat.le_of_ble_eq_true rfl, Nat.le_of_ble_eq_true rfl⟩) hw hA (fun ad_257 C_258 H locs hp hw => ?_)
    obtain ⟨hae, hR, hf1⟩ := hp
    rw [hae] at hw
    clear hae
    have hfr : rm_fr C C_258 := fun x y h9 => (hf1 x y h9).trans (hfr x y h9)
    clear hf1
    refine lv_iload_n hx hb d_M_fieldEntry_105 rfl (lv_at hl 0 rfl) ?_
    refine lv_bipush (v := 6) hx hb d_M_fieldEntry_106 (by decide) ?_
    refine lv_icmp_ge (tgt := 112) hx hb d_M_fieldEntry_108 (by decide) (fun c_260 => ?_) (fun c_260 => ?_)
    · rw [if_pos c_260] at hE
      refine lv_iload_n hx hb d_M_fieldEntry_112 rfl (lv_at hl 0 rfl) ?_
      refine lv_bipush (v := 43) hx hb d_M_fieldEntry_113 (by decide) ?_
      refine lv_iadd hx hb d_M_fieldEntry_115 ?_
      refine lv_istore_n (lv' := [(3, .int (v_3 + 43)), (2, .int v_3), (0, .ref (ad 30 0)), (1, .int l1)]) hx hb d_M_fieldEntry_116 rfl hl (by decide) rfl (fun ls hl => ?_)
      refine lv_aload_n hx hb d_M_fieldEntry_117 rfl (lv_at hl 2 rfl) ?_
      have hc_261 : C_258 30 0 = some (.inr (4, [.ref (ad 31 0), .ref (ad 31 1), .ref (ad 31 2), .ref (ad 31 3), .ref (ad 31 4), .ref (ad 31 5), .ref (ad 31 6), .ref (ad 31 7), .ref (ad 31 8), .ref (ad 31 9), .ref (ad 31 10), .ref (ad 31 11), .ref (ad 31 12), .ref (ad 31 13), .ref (ad 31 14), .int y_256.objects, .ref (ad 31 15), .int y_256.length, .ref (ad 31 16), .int y_256.waits, .ref (ad 31 17), .int y_256.given, .ref (ad 31 18), .ref (ad 31 19), .ref (ad 31 20), .int y_256.left, .ref (ad 31 21), .ref (ad 31 22), .int y_256.oldLength, .int y_256.oldWaits, .int y_256.oldGiven])) := by have h9 := rm_at.o hR; exact h9
      refine pw_get (Cn := "GraphWriterModel") (T := F_M) (N := 31) hx hb hts in_M hown hK hw 30 0 rfl hc_261 rfl 20 (by decide) (hts _ wd_774) (fun _ h9 => h9) rfl d_M_fieldEntry_118 ?_
      refine lv_iload_n hx hb d_M_fieldEntry_121 rfl (lv_at hl 0 rfl) ?_
      have hc_262 : C_258 31 17 = some (.inl (ca 0, 51, .inl y_256.handles)) := by have h9 := rm_at.a17 hR; exact h9
      obtain ⟨v_263, hv_263, hE⟩ := ob_some hE
      obtain ⟨hi_v_263, hj_v_263, he_v_263⟩ := rd_some (by decide) hv_263
      refine pw_iald hx hb hK hw 31 17 rfl 0 hc_262 rfl (v_3 + 43 : Int32).toNatClampNeg hi_v_263 (by omega) (by omega) d_M_fieldEntry_122 ?_
      rw [← he_v_263]
      refine lv_if_lt (tgt := 134) hx hb d_M_fieldEntry_123 (by decide) (fun c_264 => ?_) (fun c_264 => ?_)
      · rw [if_pos c_264] at hE
        refine lv_aload_n hx hb d_M_fieldEntry_134 rfl (lv_at hl 2 rfl) ?_
        refine lv_ldc2 (v := 116) hx hb hown (hts _ wd_950) d_M_fieldEntry_135 ?_
        refine lv_iconst (v := 1) hx hb d_M_fieldEntry_138 (by decide) ?_
        obtain ⟨y_265, hy_265, hE⟩ := ob_some hE
        refine pw_callv (va_runV (As := [.long 116, .int 1]) (rest := []) ⟨hx, hb, hml, hown, hts0⟩ (k_M_append hR hy_265 _) (cwV 2 hts0 (wd_V wd_748 wd_745 wd_747 wd_20 wd_56) rfl rfl rfl (by decide +kernel) ⟨Nat.le_of_ble_eq_true rfl, Nat.le_of_ble_eq_true rfl⟩) (pw_preV hZ hw hA hK hz rfl hc_261 rfl) rfl rfl hl.1 rfl (lv_room (Nat.le_of_ble_eq_true rfl)) d_M_fieldEntry_139 ⟨Nat.le_of_ble_eq_true rfl, Nat.le_of_ble_eq_true rfl⟩) hw hA (fun ad_266 C_267 H locs hp hw => ?_)
        obtain ⟨hae, hR, hf1⟩ := hp
        rw [hae] at hw
        clear hae
        have hfr : rm_fr C C_267 := fun x y h9 => (hf1 x y h9).trans (hfr x y h9)
        clear hf1
        refine lv_aload_n hx hb d_M_fieldEntry_142 rfl (lv_at hl 2 rfl) ?_
        refine lv_iload_n hx hb d_M_fieldEntry_143 rfl (lv_at hl 0 rfl) ?_
        obtain ⟨y_269, hy_269, hE⟩ := ob_some hE
        have hc_270 : C_267 30 0 = some (.inr (4, [.ref (ad 31 0), .ref (ad 31 1), .ref (ad 31 2), .ref (ad 31 3), .ref (ad 31 4), .ref (ad 31 5), .ref (ad 31 6), .ref (ad 31 7), .ref (ad 31 8), .ref (ad 31 9), .ref (ad 31 10), .ref (ad 31 11), .ref (ad 31 12), .ref (ad 31 13), .ref (ad 31 14), .int y_265.objects, .ref (ad 31 15), .int y_265.length, .ref (ad 31 16), .int y_265.waits, .ref (ad 31 17), .int y_265.given, .ref (ad 31 18), .ref (ad 31 19), .ref (ad 31 20), .int y_265.left, .ref (ad 31 21), .ref (ad 31 22), .int y_265.oldLength, .int y_265.oldWaits, .int y_265.oldGiven])) := by have h9 := rm_at.o hR; exact h9
        refine pw_callv (va_runV (As := [.int (v_3 + 43)]) (rest := []) ⟨hx, hb, hml, hown, hts0⟩ (k_M_give hR hy_269 _) (cwV 1 hts0 (wd_V wd_954 wd_951 wd_953 wd_35 wd_56) rfl rfl rfl (by decide +kernel) ⟨Nat.le_of_ble_eq_true rfl, Nat.le_of_ble_eq_true rfl⟩) (pw_preV hZ hw hA hK hz rfl hc_270 rfl) rfl rfl hl.1 rfl (lv_room (Nat.le_of_ble_eq_true rfl)) d_M_fieldEntry_144 ⟨Nat.le_of_ble_eq_true rfl, Nat.le_of_ble_eq_true rfl⟩) hw hA (fun ad_271 C_272 H locs hp hw => ?_)
        obtain ⟨hae, hR, hf1⟩ := hp
        rw [hae] at hw
        clear hae
        have hfr : rm_fr C C_272 := fun x y h9 => (hf1 x y h9).trans (hfr x y h9)
        clear hf1
        refine lv_aload_n hx hb d_M_fieldEntry_147 rfl (lv_at hl 2 rfl) ?_
        refine lv_iload_n hx hb d_M_fieldEntry_148 rfl (lv_at hl 1 rfl) ?_
        obtain ⟨y_274, hy_274, hE⟩ := ob_some hE
        have hc_275 : C_272 30 0 = some (.inr (4, [.ref (ad 31 0), .ref (ad 31 1), .ref (ad 31 2), .ref (ad 31 3), .ref (ad 31 4), .ref (ad 31 5), .ref (ad 31 6), .ref (ad 31 7), .ref (ad 31 8), .ref (ad 31 9), .ref (ad 31 10), .ref (ad 31 11), .ref (ad 31 12), .ref (ad 31 13), .ref (ad 31 14), .int y_269.objects, .ref (ad 31 15), .int y_269.length, .ref (ad 31 16), .int y_269.waits, .ref (ad 31 17), .int y_269.given, .ref (ad 31 18), .ref (ad 31 19), .ref (ad 31 20), .int y_269.left, .ref (ad 31 21), .ref (ad 31 22), .int y_269.oldLength, .int y_269.oldWaits, .int y_269.oldGiven])) := by have h9 := rm_at.o hR; exact h9
        refine pw_callv (va_runV (As := [.int v_3]) (rest := []) ⟨hx, hb, hml, hown, hts0⟩ (k_M_typeSigns hR hy_274 _) (cwV 1 hts0 (wd_V wd_1022 wd_1019 wd_1021 wd_46 wd_56) rfl rfl rfl (by decide +kernel) ⟨Nat.le_of_ble_eq_true rfl, Nat.le_of_ble_eq_true rfl⟩) (pw_preV hZ hw hA hK hz rfl hc_275 rfl) rfl rfl hl.1 rfl (lv_room (Nat.le_of_ble_eq_true rfl)) d_M_fieldEntry_149 ⟨Nat.le_of_ble_eq_true rfl, Nat.le_of_ble_eq_true rfl⟩) hw hA (fun ad_276 C_277 H locs hp hw => ?_)
        obtain ⟨hae, hR, hf1⟩ := hp
        rw [hae] at hw
        clear hae
        have hfr : rm_fr C C_277 := fun x y h9 => (hf1 x y h9).trans (hfr x y h9)
        clear hf1
        obtain rfl := Option.some.inj hE
        exact pw_vret hx hb hr hlocks hw ⟨rfl, hR, hfr⟩ d_M_fieldEntry_152
      · rw [if_neg c_264] at hE
        refine lv_aload_n hx hb d_M_fieldEntry_126 rfl (lv_at hl 2 rfl) ?_
        refine lv_iload_n hx hb d_M_fieldEntry_127 rfl (lv_at hl 0 rfl) ?_
        obtain ⟨y_279, hy_279, hE⟩ := ob_some hE
        refine pw_callv (va_runV (As := [.int (v_3 + 43)]) (rest := []) ⟨hx, hb, hml, hown, hts0⟩ (k_M_refer hR hy_279 _) (cwV 1 hts0 (wd_V wd_947 wd_944 wd_946 wd_34 wd_56) rfl rfl rfl (by decide +kernel) ⟨Nat.le_of_ble_eq_true rfl, Nat.le_of_ble_eq_true rfl⟩) (pw_preV hZ hw hA hK hz rfl hc_261 rfl) rfl rfl hl.1 rfl (lv_room (Nat.le_of_ble_eq_true rfl)) d_M_fieldEntry_128 ⟨Nat.le_of_ble_eq_true rfl, Nat.le_of_ble_eq_true rfl⟩) hw hA (fun ad_280 C_281 H locs hp hw => ?_)
        obtain ⟨hae, hR, hf1⟩ := hp
        rw [hae] at hw
        clear hae
        have hfr : rm_fr C C_281 := fun x y h9 => (hf1 x y h9).trans (hfr x y h9)
        clear hf1
        refine lv_goto (tgt := 152) hx hb d_M_fieldEntry_131 (by decide) ?_
        obtain rfl := Option.some.inj hE
        exact pw_vret hx hb hr hlocks hw ⟨rfl, hR, hfr⟩ d_M_fieldEntry_152
    · rw [if_neg c_260] at hE
      obtain rfl := Option.some.inj hE
      exact pw_vret hx hb hr hlocks hw ⟨rfl, hR, hfr⟩ d_M_fieldEntry_111
def m_plainEnd (l1 : Int32) (l2 : Int32) (r : RS) : Option RS := Option.bind (m_give l1 r) (fun y_1 => Option.bind (m_append l2.toInt64 1 y_1) (fun y_6 => Option.bind (m_append 0 2 y_6) (fun y_11 => Option.bind (m_append 120 1 y_11) (fun y_16 => some y_16))))
set_option maxHeartbeats 4000000 in
set_option maxRecDepth 100000 in
theorem k_M_plainEnd {l : Launch} {D : va_G} {ca : Nat → ClassId} {kS : Nat → Nat} {kT : Nat} {ad : pw_A} {C : pw_C} {r : RS} (hR : rm_at ca ad C r) {l1 : Int32} {l2 : Int32} {res : RS} (hE : m_plainEnd l1 l2 r = some res) : gc_Con l y_M_plainEnd c_M_plainEnd ({ frames := 1, cells := 0, slots := 0, locals := 24 }) D ca (z9_Z kS kT) [.ref (ad 30 0), .int l1, .int l2] ad C (pw_pv (fun ad' C' => ad' = ad ∧ rm_at ca ad C' res ∧ rm_fr C C')) 0 0 := by
  have hZ := z9_ok kS kT
  refine pw_ofW (cc := b_M_plainEnd) (maxL := 3) (ret := none) (by decide) rfl (Nat.le_of_ble_eq_true rfl) ?_
  intro p e s m args below meth c A ls hB hA hw hK hz hl
  obtain ⟨hx, hb, hr, hml, hts0, hlocks, hown, hnm⟩ := hB
  have hts := wd_hts hts0
  have hown : s.vm.findClass "GraphWriterModel" = some m.cls := hown
  have hl : lv_has ls 3 [(0, .ref (ad 30 0)), (1, .int l1), (2, .int l2)] := hl
  have hfr : rm_fr C C := fun _ _ _ => rfl
  unfold m_plainEnd at hE
  refine lv_aload_n hx hb d_M_plainEnd_0 rfl (lv_at hl 0 rfl) ?_
  refine lv_iload_n hx hb d_M_plainEnd_1 rfl (lv_at hl 1 rfl) ?_
  obtain ⟨y_1, hy_1, hE⟩ := ob_some hE
  have hc_2 : C 30 0 = some (.inr (4, [.ref (ad 31 0), .ref (ad 31 1), .ref (ad 31 2), .ref (ad 31 3), .ref (ad 31 4), .ref (ad 31 5), .ref (ad 31 6), .ref (ad 31 7), .ref (ad 31 8), .ref (ad 31 9), .ref (ad 31 10), .ref (ad 31 11), .ref (ad 31 12), .ref (ad 31 13), .ref (ad 31 14), .int r.objects, .ref (ad 31 15), .int r.length, .ref (ad 31 16), .int r.waits, .ref (ad 31 17), .int r.given, .ref (ad 31 18), .ref (ad 31 19), .ref (ad 31 20), .int r.left, .ref (ad 31 21), .ref (ad 31 22), .int r.oldLength, .int r.oldWaits, .int r.oldGiven])) := by have h9 := rm_at.o hR; exact h9
  refine pw_callv (va_runV (As := [.int l1]) (rest := []) ⟨hx, hb, hml, hown, hts0⟩ (k_M_give hR hy_1 _) (cwV 1 hts0 (wd_V wd_954 wd_951 wd_953 wd_35 wd_56) rfl rfl rfl (by decide +kernel) ⟨Nat.le_of_ble_eq_true rfl, Nat.le_of_ble_eq_true rfl⟩) (pw_preV hZ hw hA hK hz rfl hc_2 rfl) rfl rfl hl.1 rfl (lv_room (Nat.le_of_ble_eq_true rfl)) d_M_plainEnd_2 ⟨Nat.le_of_ble_eq_true rfl, Nat.le_of_ble_eq_true rfl⟩) hw hA (fun ad_3 C_4 H locs hp hw => ?_)
  obtain ⟨hae, hR, hf1⟩ := hp
  rw [hae] at hw
  clear hae
  have hfr : rm_fr C C_4 := fun x y h9 => (hf1 x y h9).trans (hfr x y h9)
  clear hf1
  refine lv_aload_n hx hb d_M_plainEnd_5 rfl (lv_at hl 0 rfl) ?_
  refine lv_iload_n hx hb d_M_plainEnd_6 rfl (lv_at hl 2 rfl) ?_
  refine lv_i2l hx hb d_M_plainEnd_7 rfl ?_
  refine lv_iconst (v := 1) hx hb d_M_plainEnd_8 (by decide) ?_
  obtain ⟨y_6, hy_6, hE⟩ := ob_some hE
  have hc_7 : C_4 30 0 = some (.inr (4, [.ref (ad 31 0), .ref (ad 31 1), .ref (ad 31 2), .ref (ad 31 3), .ref (ad 31 4), .ref (ad 31 5), .ref (ad 31 6), .ref (ad 31 7), .ref (ad 31 8), .ref (ad 31 9), .ref (ad 31 10), .ref (ad 31 11), .ref (ad 31 12), .ref (ad 31 13), .ref (ad 31 14), .int y_1.objects, .ref (ad 31 15), .int y_1.length, .ref (ad 31 16), .int y_1.waits, .ref (ad 31 17), .int y_1.given, .ref (ad 31 18), .ref (ad 31 19), .ref (ad 31 20), .int y_1.left, .ref (ad 31 21), .ref (ad 31 22), .int y_1.oldLength, .int y_1.oldWaits, .int y_1.oldGiven])) := by have h9 := rm_at.o hR; exact h9
  refine pw_callv (va_runV (As := [.long l2.toInt64, .int 1]) (rest := []) ⟨hx, hb, hml, hown, hts0⟩ (k_M_append hR hy_6 _) (cwV 2 hts0 (wd_V wd_748 wd_745 wd_747 wd_20 wd_56) rfl rfl rfl (by decide +kernel) ⟨Nat.le_of_ble_eq_true rfl, Nat.le_of_ble_eq_true rfl⟩) (pw_preV hZ hw hA hK hz rfl hc_7 rfl) rfl rfl hl.1 rfl (lv_room (Nat.le_of_ble_eq_true rfl)) d_M_plainEnd_9 ⟨Nat.le_of_ble_eq_true rfl, Nat.le_of_ble_eq_true rfl⟩) hw hA (fun ad_8 C_9 H locs hp hw => ?_)
  obtain ⟨hae, hR, hf1⟩ := hp
  rw [hae] at hw
  clear hae
  have hfr : rm_fr C C_9 := fun x y h9 => (hf1 x y h9).trans (hfr x y h9)
  clear hf1
  refine lv_aload_n hx hb d_M_plainEnd_12 rfl (lv_at hl 0 rfl) ?_
  refine lv_lconst (v := 0) hx hb d_M_plainEnd_13 (by decide) ?_
  refine lv_iconst (v := 2) hx hb d_M_plainEnd_14 (by decide) ?_
  obtain ⟨y_11, hy_11, hE⟩ := ob_some hE
  have hc_12 : C_9 30 0 = some (.inr (4, [.ref (ad 31 0), .ref (ad 31 1), .ref (ad 31 2), .ref (ad 31 3), .ref (ad 31 4), .ref (ad 31 5), .ref (ad 31 6), .ref (ad 31 7), .ref (ad 31 8), .ref (ad 31 9), .ref (ad 31 10), .ref (ad 31 11), .ref (ad 31 12), .ref (ad 31 13), .ref (ad 31 14), .int y_6.objects, .ref (ad 31 15), .int y_6.length, .ref (ad 31 16), .int y_6.waits, .ref (ad 31 17), .int y_6.given, .ref (ad 31 18), .ref (ad 31 19), .ref (ad 31 20), .int y_6.left, .ref (ad 31 21), .ref (ad 31 22), .int y_6.oldLength, .int y_6.oldWaits, .int y_6.oldGiven])) := by have h9 := rm_at.o hR; exact h9
  refine pw_callv (va_runV (As := [.long 0, .int 2]) (rest := []) ⟨hx, hb, hml, hown, hts0⟩ (k_M_append hR hy_11 _) (cwV 2 hts0 (wd_V wd_748 wd_745 wd_747 wd_20 wd_56) rfl rfl rfl (by decide +kernel) ⟨Nat.le_of_ble_eq_true rfl, Nat.le_of_ble_eq_true rfl⟩) (pw_preV hZ hw hA hK hz rfl hc_12 rfl) rfl rfl hl.1 rfl (lv_room (Nat.le_of_ble_eq_true rfl)) d_M_plainEnd_15 ⟨Nat.le_of_ble_eq_true rfl, Nat.le_of_ble_eq_true rfl⟩) hw hA (fun ad_13 C_14 H locs hp hw => ?_)
  obtain ⟨hae, hR, hf1⟩ := hp
  rw [hae] at hw
  clear hae
  have hfr : rm_fr C C_14 := fun x y h9 => (hf1 x y h9).trans (hfr x y h9)
  clear hf1
  refine lv_aload_n hx hb d_M_plainEnd_18 rfl (lv_at hl 0 rfl) ?_
  refine lv_ldc2 (v := 120) hx hb hown (hts _ wd_977) d_M_plainEnd_19 ?_
  refine lv_iconst (v := 1) hx hb d_M_plainEnd_22 (by decide) ?_
  obtain ⟨y_16, hy_16, hE⟩ := ob_some hE
  have hc_17 : C_14 30 0 = some (.inr (4, [.ref (ad 31 0), .ref (ad 31 1), .ref (ad 31 2), .ref (ad 31 3), .ref (ad 31 4), .ref (ad 31 5), .ref (ad 31 6), .ref (ad 31 7), .ref (ad 31 8), .ref (ad 31 9), .ref (ad 31 10), .ref (ad 31 11), .ref (ad 31 12), .ref (ad 31 13), .ref (ad 31 14), .int y_11.objects, .ref (ad 31 15), .int y_11.length, .ref (ad 31 16), .int y_11.waits, .ref (ad 31 17), .int y_11.given, .ref (ad 31 18), .ref (ad 31 19), .ref (ad 31 20), .int y_11.left, .ref (ad 31 21), .ref (ad 31 22), .int y_11.oldLength, .int y_11.oldWaits, .int y_11.oldGiven])) := by have h9 := rm_at.o hR; exact h9
  refine pw_callv (va_runV (As := [.long 120, .int 1]) (rest := []) ⟨hx, hb, hml, hown, hts0⟩ (k_M_append hR hy_16 _) (cwV 2 hts0 (wd_V wd_748 wd_745 wd_747 wd_20 wd_56) rfl rfl rfl (by decide +kernel) ⟨Nat.le_of_ble_eq_true rfl, Nat.le_of_ble_eq_true rfl⟩) (pw_preV hZ hw hA hK hz rfl hc_17 rfl) rfl rfl hl.1 rfl (lv_room (Nat.le_of_ble_eq_true rfl)) d_M_plainEnd_23 ⟨Nat.le_of_ble_eq_true rfl, Nat.le_of_ble_eq_true rfl⟩) hw hA (fun ad_18 C_19 H locs hp hw => ?_)
  obtain ⟨hae, hR, hf1⟩ := hp
  rw [hae] at hw
  clear hae
  have hfr : rm_fr C C_19 := fun x y h9 => (hf1 x y h9).trans (hfr x y h9)
  clear hf1
  obtain rfl := Option.some.inj hE
  exact pw_vret hx hb hr hlocks hw ⟨rfl, hR, hfr⟩ d_M_plainEnd_26
def m_enumBase  (r : RS) : Option RS := Option.bind (rd r.handles 51 48) (fun v_3 => if (v_3 : Int32) < 0 then (Option.bind (m_append 114 1 r) (fun y_5 => Option.bind (m_append 14 2 y_5) (fun y_9 => Option.bind (m_append 7665538200524054894 8 y_9) (fun y_14 => Option.bind (m_append 113448431023469 6 y_14) (fun y_19 => Option.bind (m_append 0 8 y_19) (fun y_24 => Option.bind (m_plainEnd 48 18 y_24) (fun y_29 => Option.bind (m_append 112 1 y_29) (fun y_34 => some y_34)))))))) else (Option.bind (m_refer 48 r) (fun y_39 => some y_39)))
set_option maxHeartbeats 4000000 in
set_option maxRecDepth 100000 in
theorem k_M_enumBase {l : Launch} {D : va_G} {ca : Nat → ClassId} {kS : Nat → Nat} {kT : Nat} {ad : pw_A} {C : pw_C} {r : RS} (hR : rm_at ca ad C r)  {res : RS} (hE : m_enumBase  r = some res) : gc_Con l y_M_enumBase c_M_enumBase ({ frames := 2, cells := 0, slots := 0, locals := 46 }) D ca (z9_Z kS kT) [.ref (ad 30 0)] ad C (pw_pv (fun ad' C' => ad' = ad ∧ rm_at ca ad C' res ∧ rm_fr C C')) 0 0 := by
  have hZ := z9_ok kS kT
  refine pw_ofW (cc := b_M_enumBase) (maxL := 1) (ret := none) (by decide) rfl (Nat.le_of_ble_eq_true rfl) ?_
  intro p e s m args below meth c A ls hB hA hw hK hz hl
  obtain ⟨hx, hb, hr, hml, hts0, hlocks, hown, hnm⟩ := hB
  have hts := wd_hts hts0
  have hown : s.vm.findClass "GraphWriterModel" = some m.cls := hown
  have hl : lv_has ls 1 [(0, .ref (ad 30 0))] := hl
  have hfr : rm_fr C C := fun _ _ _ => rfl
  unfold m_enumBase at hE
  refine lv_aload_n hx hb d_M_enumBase_0 rfl (lv_at hl 0 rfl) ?_
  have hc_1 : C 30 0 = some (.inr (4, [.ref (ad 31 0), .ref (ad 31 1), .ref (ad 31 2), .ref (ad 31 3), .ref (ad 31 4), .ref (ad 31 5), .ref (ad 31 6), .ref (ad 31 7), .ref (ad 31 8), .ref (ad 31 9), .ref (ad 31 10), .ref (ad 31 11), .ref (ad 31 12), .ref (ad 31 13), .ref (ad 31 14), .int r.objects, .ref (ad 31 15), .int r.length, .ref (ad 31 16), .int r.waits, .ref (ad 31 17), .int r.given, .ref (ad 31 18), .ref (ad 31 19), .ref (ad 31 20), .int r.left, .ref (ad 31 21), .ref (ad 31 22), .int r.oldLength, .int r.oldWaits, .int r.oldGiven])) := by have h9 := rm_at.o hR; exact h9
  refine pw_get (Cn := "GraphWriterModel") (T := F_M) (N := 31) hx hb hts in_M hown hK hw 30 0 rfl hc_1 rfl 20 (by decide) (hts _ wd_774) (fun _ h9 => h9) rfl d_M_enumBase_1 ?_
  refine lv_bipush (v := 48) hx hb d_M_enumBase_4 (by decide) ?_
  have hc_2 : C 31 17 = some (.inl (ca 0, 51, .inl r.handles)) := by have h9 := rm_at.a17 hR; exact h9
  obtain ⟨v_3, hv_3, hE⟩ := ob_some hE
  obtain ⟨hi_v_3, hj_v_3, he_v_3⟩ := rd_some (by decide) hv_3
  refine pw_iald hx hb hK hw 31 17 rfl 0 hc_2 rfl (48 : Int32).toNatClampNeg hi_v_3 (by omega) (by omega) d_M_enumBase_6 ?_
  rw [← he_v_3]
  refine lv_if_lt (tgt := 17) hx hb d_M_enumBase_7 (by decide) (fun c_4 => ?_) (fun c_4 => ?_)
  · rw [if_pos c_4] at hE
    refine lv_aload_n hx hb d_M_enumBase_17 rfl (lv_at hl 0 rfl) ?_
    refine lv_ldc2 (v := 114) hx hb hown (hts _ wd_964) d_M_enumBase_18 ?_
    refine lv_iconst (v := 1) hx hb d_M_enumBase_21 (by decide) ?_
    obtain ⟨y_5, hy_5, hE⟩ := ob_some hE
    refine pw_callv (va_runV (As := [.long 114, .int 1]) (rest := []) ⟨hx, hb, hml, hown, hts0⟩ (k_M_append hR hy_5 _) (cwV 2 hts0 (wd_V wd_748 wd_745 wd_747 wd_20 wd_56) rfl rfl rfl (by decide +kernel) ⟨Nat.le_of_ble_eq_true rfl, Nat.le_of_ble_eq_true rfl⟩) (pw_preV hZ hw hA hK hz rfl hc_1 rfl) rfl rfl hl.1 rfl (lv_room (Nat.le_of_ble_eq_true rfl)) d_M_enumBase_22 ⟨Nat.le_of_ble_eq_true rfl, Nat.le_of_ble_eq_true rfl⟩) hw hA (fun ad_6 C_7 H locs hp hw => ?_)
    obtain ⟨hae, hR, hf1⟩ := hp
    rw [hae] at hw
    clear hae
    have hfr : rm_fr C C_7 := fun x y h9 => (hf1 x y h9).trans (hfr x y h9)
    clear hf1
    refine lv_aload_n hx hb d_M_enumBase_25 rfl (lv_at hl 0 rfl) ?_
    refine lv_ldc2 (v := 14) hx hb hown (hts _ wd_999) d_M_enumBase_26 ?_
    refine lv_iconst (v := 2) hx hb d_M_enumBase_29 (by decide) ?_
    obtain ⟨y_9, hy_9, hE⟩ := ob_some hE
    have hc_10 : C_7 30 0 = some (.inr (4, [.ref (ad 31 0), .ref (ad 31 1), .ref (ad 31 2), .ref (ad 31 3), .ref (ad 31 4), .ref (ad 31 5), .ref (ad 31 6), .ref (ad 31 7), .ref (ad 31 8), .ref (ad 31 9), .ref (ad 31 10), .ref (ad 31 11), .ref (ad 31 12), .ref (ad 31 13), .ref (ad 31 14), .int y_5.objects, .ref (ad 31 15), .int y_5.length, .ref (ad 31 16), .int y_5.waits, .ref (ad 31 17), .int y_5.given, .ref (ad 31 18), .ref (ad 31 19), .ref (ad 31 20), .int y_5.left, .ref (ad 31 21), .ref (ad 31 22), .int y_5.oldLength, .int y_5.oldWaits, .int y_5.oldGiven])) := by have h9 := rm_at.o hR; exact h9
    refine pw_callv (va_runV (As := [.long 14, .int 2]) (rest := []) ⟨hx, hb, hml, hown, hts0⟩ (k_M_append hR hy_9 _) (cwV 2 hts0 (wd_V wd_748 wd_745 wd_747 wd_20 wd_56) rfl rfl rfl (by decide +kernel) ⟨Nat.le_of_ble_eq_true rfl, Nat.le_of_ble_eq_true rfl⟩) (pw_preV hZ hw hA hK hz rfl hc_10 rfl) rfl rfl hl.1 rfl (lv_room (Nat.le_of_ble_eq_true rfl)) d_M_enumBase_30 ⟨Nat.le_of_ble_eq_true rfl, Nat.le_of_ble_eq_true rfl⟩) hw hA (fun ad_11 C_12 H locs hp hw => ?_)
    obtain ⟨hae, hR, hf1⟩ := hp
    rw [hae] at hw
    clear hae
    have hfr : rm_fr C C_12 := fun x y h9 => (hf1 x y h9).trans (hfr x y h9)
    clear hf1
    refine lv_aload_n hx hb d_M_enumBase_33 rfl (lv_at hl 0 rfl) ?_
    refine lv_ldc2 (v := 7665538200524054894) hx hb hown (hts _ wd_1000) d_M_enumBase_34 ?_
    refine lv_bipush (v := 8) hx hb d_M_enumBase_37 (by decide) ?_
    obtain ⟨y_14, hy_14, hE⟩ := ob_some hE
    have hc_15 : C_12 30 0 = some (.inr (4, [.ref (ad 31 0), .ref (ad 31 1), .ref (ad 31 2), .ref (ad 31 3), .ref (ad 31 4), .ref (ad 31 5), .ref (ad 31 6), .ref (ad 31 7), .ref (ad 31 8), .ref (ad 31 9), .ref (ad 31 10), .ref (ad 31 11), .ref (ad 31 12), .ref (ad 31 13), .ref (ad 31 14), .int y_9.objects, .ref (ad 31 15), .int y_9.length, .ref (ad 31 16), .int y_9.waits, .ref (ad 31 17), .int y_9.given, .ref (ad 31 18), .ref (ad 31 19), .ref (ad 31 20), .int y_9.left, .ref (ad 31 21), .ref (ad 31 22), .int y_9.oldLength, .int y_9.oldWaits, .int y_9.oldGiven])) := by have h9 := rm_at.o hR; exact h9
    refine pw_callv (va_runV (As := [.long 7665538200524054894, .int 8]) (rest := []) ⟨hx, hb, hml, hown, hts0⟩ (k_M_append hR hy_14 _) (cwV 2 hts0 (wd_V wd_748 wd_745 wd_747 wd_20 wd_56) rfl rfl rfl (by decide +kernel) ⟨Nat.le_of_ble_eq_true rfl, Nat.le_of_ble_eq_true rfl⟩) (pw_preV hZ hw hA hK hz rfl hc_15 rfl) rfl rfl hl.1 rfl (lv_room (Nat.le_of_ble_eq_true rfl)) d_M_enumBase_39 ⟨Nat.le_of_ble_eq_true rfl, Nat.le_of_ble_eq_true rfl⟩) hw hA (fun ad_16 C_17 H locs hp hw => ?_)
    obtain ⟨hae, hR, hf1⟩ := hp
    rw [hae] at hw
    clear hae
    have hfr : rm_fr C C_17 := fun x y h9 => (hf1 x y h9).trans (hfr x y h9)
    clear hf1
    refine lv_aload_n hx hb d_M_enumBase_42 rfl (lv_at hl 0 rfl) ?_
    refine lv_ldc2 (v := 113448431023469) hx hb hown (hts _ wd_1001) d_M_enumBase_43 ?_
    refine lv_bipush (v := 6) hx hb d_M_enumBase_46 (by decide) ?_
    obtain ⟨y_19, hy_19, hE⟩ := ob_some hE
    have hc_20 : C_17 30 0 = some (.inr (4, [.ref (ad 31 0), .ref (ad 31 1), .ref (ad 31 2), .ref (ad 31 3), .ref (ad 31 4), .ref (ad 31 5), .ref (ad 31 6), .ref (ad 31 7), .ref (ad 31 8), .ref (ad 31 9), .ref (ad 31 10), .ref (ad 31 11), .ref (ad 31 12), .ref (ad 31 13), .ref (ad 31 14), .int y_14.objects, .ref (ad 31 15), .int y_14.length, .ref (ad 31 16), .int y_14.waits, .ref (ad 31 17), .int y_14.given, .ref (ad 31 18), .ref (ad 31 19), .ref (ad 31 20), .int y_14.left, .ref (ad 31 21), .ref (ad 31 22), .int y_14.oldLength, .int y_14.oldWaits, .int y_14.oldGiven])) := by have h9 := rm_at.o hR; exact h9
    refine pw_callv (va_runV (As := [.long 113448431023469, .int 6]) (rest := []) ⟨hx, hb, hml, hown, hts0⟩ (k_M_append hR hy_19 _) (cwV 2 hts0 (wd_V wd_748 wd_745 wd_747 wd_20 wd_56) rfl rfl rfl (by decide +kernel) ⟨Nat.le_of_ble_eq_true rfl, Nat.le_of_ble_eq_true rfl⟩) (pw_preV hZ hw hA hK hz rfl hc_20 rfl) rfl rfl hl.1 rfl (lv_room (Nat.le_of_ble_eq_true rfl)) d_M_enumBase_48 ⟨Nat.le_of_ble_eq_true rfl, Nat.le_of_ble_eq_true rfl⟩) hw hA (fun ad_21 C_22 H locs hp hw => ?_)
    obtain ⟨hae, hR, hf1⟩ := hp
    rw [hae] at hw
    clear hae
    have hfr : rm_fr C C_22 := fun x y h9 => (hf1 x y h9).trans (hfr x y h9)
    clear hf1
    refine lv_aload_n hx hb d_M_enumBase_51 rfl (lv_at hl 0 rfl) ?_
    refine lv_lconst (v := 0) hx hb d_M_enumBase_52 (by decide) ?_
    refine lv_bipush (v := 8) hx hb d_M_enumBase_53 (by decide) ?_
    obtain ⟨y_24, hy_24, hE⟩ := ob_some hE
    have hc_25 : C_22 30 0 = some (.inr (4, [.ref (ad 31 0), .ref (ad 31 1), .ref (ad 31 2), .ref (ad 31 3), .ref (ad 31 4), .ref (ad 31 5), .ref (ad 31 6), .ref (ad 31 7), .ref (ad 31 8), .ref (ad 31 9), .ref (ad 31 10), .ref (ad 31 11), .ref (ad 31 12), .ref (ad 31 13), .ref (ad 31 14), .int y_19.objects, .ref (ad 31 15), .int y_19.length, .ref (ad 31 16), .int y_19.waits, .ref (ad 31 17), .int y_19.given, .ref (ad 31 18), .ref (ad 31 19), .ref (ad 31 20), .int y_19.left, .ref (ad 31 21), .ref (ad 31 22), .int y_19.oldLength, .int y_19.oldWaits, .int y_19.oldGiven])) := by have h9 := rm_at.o hR; exact h9
    refine pw_callv (va_runV (As := [.long 0, .int 8]) (rest := []) ⟨hx, hb, hml, hown, hts0⟩ (k_M_append hR hy_24 _) (cwV 2 hts0 (wd_V wd_748 wd_745 wd_747 wd_20 wd_56) rfl rfl rfl (by decide +kernel) ⟨Nat.le_of_ble_eq_true rfl, Nat.le_of_ble_eq_true rfl⟩) (pw_preV hZ hw hA hK hz rfl hc_25 rfl) rfl rfl hl.1 rfl (lv_room (Nat.le_of_ble_eq_true rfl)) d_M_enumBase_55 ⟨Nat.le_of_ble_eq_true rfl, Nat.le_of_ble_eq_true rfl⟩) hw hA (fun ad_26 C_27 H locs hp hw => ?_)
    obtain ⟨hae, hR, hf1⟩ := hp
    rw [hae] at hw
    clear hae
    have hfr : rm_fr C C_27 := fun x y h9 => (hf1 x y h9).trans (hfr x y h9)
    clear hf1
    refine lv_aload_n hx hb d_M_enumBase_58 rfl (lv_at hl 0 rfl) ?_
    refine lv_bipush (v := 48) hx hb d_M_enumBase_59 (by decide) ?_
    refine lv_bipush (v := 18) hx hb d_M_enumBase_61 (by decide) ?_
    obtain ⟨y_29, hy_29, hE⟩ := ob_some hE
    have hc_30 : C_27 30 0 = some (.inr (4, [.ref (ad 31 0), .ref (ad 31 1), .ref (ad 31 2), .ref (ad 31 3), .ref (ad 31 4), .ref (ad 31 5), .ref (ad 31 6), .ref (ad 31 7), .ref (ad 31 8), .ref (ad 31 9), .ref (ad 31 10), .ref (ad 31 11), .ref (ad 31 12), .ref (ad 31 13), .ref (ad 31 14), .int y_24.objects, .ref (ad 31 15), .int y_24.length, .ref (ad 31 16), .int y_24.waits, .ref (ad 31 17), .int y_24.given, .ref (ad 31 18), .ref (ad 31 19), .ref (ad 31 20), .int y_24.left, .ref (ad 31 21), .ref (ad 31 22), .int y_24.oldLength, .int y_24.oldWaits, .int y_24.oldGiven])) := by have h9 := rm_at.o hR; exact h9
    refine pw_callv (va_runV (As := [.int 48, .int 18]) (rest := []) ⟨hx, hb, hml, hown, hts0⟩ (k_M_plainEnd hR hy_29 _) (cwV 2 hts0 (wd_V wd_976 wd_973 wd_975 wd_38 wd_56) rfl rfl rfl (by decide +kernel) ⟨Nat.le_of_ble_eq_true rfl, Nat.le_of_ble_eq_true rfl⟩) (pw_preV hZ hw hA hK hz rfl hc_30 rfl) rfl rfl hl.1 rfl (lv_room (Nat.le_of_ble_eq_true rfl)) d_M_enumBase_63 ⟨Nat.le_of_ble_eq_true rfl, Nat.le_of_ble_eq_true rfl⟩) hw hA (fun ad_31 C_32 H locs hp hw => ?_)
    obtain ⟨hae, hR, hf1⟩ := hp
    rw [hae] at hw
    clear hae
    have hfr : rm_fr C C_32 := fun x y h9 => (hf1 x y h9).trans (hfr x y h9)
    clear hf1
    refine lv_aload_n hx hb d_M_enumBase_66 rfl (lv_at hl 0 rfl) ?_
    refine lv_ldc2 (v := 112) hx hb hown (hts _ wd_943) d_M_enumBase_67 ?_
    refine lv_iconst (v := 1) hx hb d_M_enumBase_70 (by decide) ?_
    obtain ⟨y_34, hy_34, hE⟩ := ob_some hE
    have hc_35 : C_32 30 0 = some (.inr (4, [.ref (ad 31 0), .ref (ad 31 1), .ref (ad 31 2), .ref (ad 31 3), .ref (ad 31 4), .ref (ad 31 5), .ref (ad 31 6), .ref (ad 31 7), .ref (ad 31 8), .ref (ad 31 9), .ref (ad 31 10), .ref (ad 31 11), .ref (ad 31 12), .ref (ad 31 13), .ref (ad 31 14), .int y_29.objects, .ref (ad 31 15), .int y_29.length, .ref (ad 31 16), .int y_29.waits, .ref (ad 31 17), .int y_29.given, .ref (ad 31 18), .ref (ad 31 19), .ref (ad 31 20), .int y_29.left, .ref (ad 31 21), .ref (ad 31 22), .int y_29.oldLength, .int y_29.oldWaits, .int y_29.oldGiven])) := by have h9 := rm_at.o hR; exact h9
    refine pw_callv (va_runV (As := [.long 112, .int 1]) (rest := []) ⟨hx, hb, hml, hown, hts0⟩ (k_M_append hR hy_34 _) (cwV 2 hts0 (wd_V wd_748 wd_745 wd_747 wd_20 wd_56) rfl rfl rfl (by decide +kernel) ⟨Nat.le_of_ble_eq_true rfl, Nat.le_of_ble_eq_true rfl⟩) (pw_preV hZ hw hA hK hz rfl hc_35 rfl) rfl rfl hl.1 rfl (lv_room (Nat.le_of_ble_eq_true rfl)) d_M_enumBase_71 ⟨Nat.le_of_ble_eq_true rfl, Nat.le_of_ble_eq_true rfl⟩) hw hA (fun ad_36 C_37 H locs hp hw => ?_)
    obtain ⟨hae, hR, hf1⟩ := hp
    rw [hae] at hw
    clear hae
    have hfr : rm_fr C C_37 := fun x y h9 => (hf1 x y h9).trans (hfr x y h9)
    clear hf1
    obtain rfl := Option.some.inj hE
    exact pw_vret hx hb hr hlocks hw ⟨rfl, hR, hfr⟩ d_M_enumBase_74
  · rw [if_neg c_4] at hE
    refine lv_aload_n hx hb d_M_enumBase_10 rfl (lv_at hl 0 rfl) ?_
    refine lv_bipush (v := 48) hx hb d_M_enumBase_11 (by decide) ?_
    obtain ⟨y_39, hy_39, hE⟩ := ob_some hE
    refine pw_callv (va_runV (As := [.int 48]) (rest := []) ⟨hx, hb, hml, hown, hts0⟩ (k_M_refer hR hy_39 _) (cwV 1 hts0 (wd_V wd_947 wd_944 wd_946 wd_34 wd_56) rfl rfl rfl (by decide +kernel) ⟨Nat.le_of_ble_eq_true rfl, Nat.le_of_ble_eq_true rfl⟩) (pw_preV hZ hw hA hK hz rfl hc_1 rfl) rfl rfl hl.1 rfl (lv_room (Nat.le_of_ble_eq_true rfl)) d_M_enumBase_13 ⟨Nat.le_of_ble_eq_true rfl, Nat.le_of_ble_eq_true rfl⟩) hw hA (fun ad_40 C_41 H locs hp hw => ?_)
    obtain ⟨hae, hR, hf1⟩ := hp
    rw [hae] at hw
    clear hae
    have hfr : rm_fr C C_41 := fun x y h9 => (hf1 x y h9).trans (hfr x y h9)
    clear hf1
    obtain rfl := Option.some.inj hE
    exact pw_vret hx hb hr hlocks hw ⟨rfl, hR, hfr⟩ d_M_enumBase_16
def m_descriptor_170 (K : Int32 → Int32 → Int32 → Int32 → Int32 → RS → Option RS) : Nat → Int32 → Int32 → Int32 → Int32 → Int32 → RS → Option RS
  | 0, _, _, _, _, _, _ => none
  | n + 1, x5_61, x4_61, x3_61, x2_61, x1_61, r => if (x4_61 : Int32) ≤ x5_61 then (K x5_61 x4_61 x3_61 x2_61 x1_61 r) else (Option.bind (rd r.order 4 x5_61) (fun v_65 => Option.bind (m_fieldEntry v_65 r) (fun y_66 => m_descriptor_170 K n (x5_61 + 1) x4_61 x3_61 x2_61 x1_61 y_66)))
def m_descriptor_170' (K : Int32 → Int32 → Int32 → Int32 → Int32 → RS → Option RS) : Nat → Int32 → Int32 → Int32 → Int32 → Int32 → RS → Option RS
  | 0, _, _, _, _, _, _ => none
  | n + 1, x5_94, x4_94, x3_94, x2_94, x1_94, r => if (x4_94 : Int32) ≤ x5_94 then (K x5_94 x4_94 x3_94 x2_94 x1_94 r) else (Option.bind (rd r.order 4 x5_94) (fun v_98 => Option.bind (m_fieldEntry v_98 r) (fun y_99 => m_descriptor_170' K n (x5_94 + 1) x4_94 x3_94 x2_94 x1_94 y_99)))
def m_descriptor_170'' (K : Int32 → Int32 → Int32 → Int32 → Int32 → RS → Option RS) : Nat → Int32 → Int32 → Int32 → Int32 → Int32 → RS → Option RS
  | 0, _, _, _, _, _, _ => none
  | n + 1, x5_152, x4_152, x3_152, x2_152, x1_152, r => if (x4_152 : Int32) ≤ x5_152 then (K x5_152 x4_152 x3_152 x2_152 x1_152 r) else (Option.bind (rd r.order 4 x5_152) (fun v_156 => Option.bind (m_fieldEntry v_156 r) (fun y_157 => m_descriptor_170'' K n (x5_152 + 1) x4_152 x3_152 x2_152 x1_152 y_157)))
def m_descriptor_170''' (K : Int32 → Int32 → Int32 → Int32 → Int32 → RS → Option RS) : Nat → Int32 → Int32 → Int32 → Int32 → Int32 → RS → Option RS
  | 0, _, _, _, _, _, _ => none
  | n + 1, x5_185, x4_185, x3_185, x2_185, x1_185, r => if (x4_185 : Int32) ≤ x5_185 then (K x5_185 x4_185 x3_185 x2_185 x1_185 r) else (Option.bind (rd r.order 4 x5_185) (fun v_189 => Option.bind (m_fieldEntry v_189 r) (fun y_190 => m_descriptor_170''' K n (x5_185 + 1) x4_185 x3_185 x2_185 x1_185 y_190)))
def m_descriptor_4 (K : Int32 → Int32 → Int32 → RS → Option RS) : Nat → Int32 → Int32 → Int32 → RS → Option RS
  | 0, _, _, _, _ => none
  | n + 1, x3_1, x2_1, x1_1, r => if (7 : Int32) ≤ x3_1 then (K x3_1 x2_1 x1_1 r) else (if (x2_1 : Int32) < 0 then (Option.bind (m_append 112 1 r) (fun y_4 => some y_4)) else (Option.bind (rd r.kind 6 x2_1) (fun v_11 => if (v_11 : Int32) = 0 then (Option.bind (m_append 112 1 r) (fun y_217 => some y_217)) else (Option.bind (rd r.handles 51 (40 + x2_1)) (fun v_14 => if (v_14 : Int32) < 0 then (Option.bind (m_append 114 1 r) (fun y_16 => Option.bind (m_letter (65 + x2_1) y_16) (fun y_20 => Option.bind (rd y_20.kind 6 x2_1) (fun v_27 => if (v_27 : Int32) = 3 then (Option.bind (m_append 0 8 y_20) (fun y_122 => Option.bind (rd y_122.kind 6 x2_1) (fun v_128 => if (v_128 : Int32) = 3 then (Option.bind (m_plainEnd (40 + x2_1) 18 y_122) (fun y_204 => Option.bind (m_enumBase  y_204) (fun y_208 => some y_208))) else (Option.bind (m_give (40 + x2_1) y_122) (fun y_130 => Option.bind (rd y_130.kind 6 x2_1) (fun v_136 => if (v_136 : Int32) = 2 then (Option.bind (m_append 3 1 y_130) (fun y_171 => Option.bind (m_arrange x2_1 y_171) (fun y_175 => Option.bind (m_append y_175.1.toInt64 2 y_175.2) (fun y_180 => m_descriptor_170''' (fun z5_185 z4_185 z3_185 z2_185 z1_185 r_194 => Option.bind (m_append 120 1 r_194) (fun y_196 => Option.bind (rd y_196.above 6 z2_185) (fun v_203 => m_descriptor_4 K n (z3_185 + 1) v_203 z1_185 y_196))) 60 0 y_175.1 x3_1 x2_1 x1_1 y_180)))) else (Option.bind (m_append 2 1 y_130) (fun y_138 => Option.bind (m_arrange x2_1 y_138) (fun y_142 => Option.bind (m_append y_142.1.toInt64 2 y_142.2) (fun y_147 => m_descriptor_170'' (fun z5_152 z4_152 z3_152 z2_152 z1_152 r_161 => Option.bind (m_append 120 1 r_161) (fun y_163 => Option.bind (rd y_163.above 6 z2_152) (fun v_170 => m_descriptor_4 K n (z3_152 + 1) v_170 z1_152 y_163))) 60 0 y_142.1 x3_1 x2_1 x1_1 y_147)))))))))) else (Option.bind (rd y_20.id 6 x2_1) (fun v_30 => Option.bind (m_append v_30 8 y_20) (fun y_31 => Option.bind (rd y_31.kind 6 x2_1) (fun v_37 => if (v_37 : Int32) = 3 then (Option.bind (m_plainEnd (40 + x2_1) 18 y_31) (fun y_113 => Option.bind (m_enumBase  y_113) (fun y_117 => some y_117))) else (Option.bind (m_give (40 + x2_1) y_31) (fun y_39 => Option.bind (rd y_39.kind 6 x2_1) (fun v_45 => if (v_45 : Int32) = 2 then (Option.bind (m_append 3 1 y_39) (fun y_80 => Option.bind (m_arrange x2_1 y_80) (fun y_84 => Option.bind (m_append y_84.1.toInt64 2 y_84.2) (fun y_89 => m_descriptor_170' (fun z5_94 z4_94 z3_94 z2_94 z1_94 r_103 => Option.bind (m_append 120 1 r_103) (fun y_105 => Option.bind (rd y_105.above 6 z2_94) (fun v_112 => m_descriptor_4 K n (z3_94 + 1) v_112 z1_94 y_105))) 60 0 y_84.1 x3_1 x2_1 x1_1 y_89)))) else (Option.bind (m_append 2 1 y_39) (fun y_47 => Option.bind (m_arrange x2_1 y_47) (fun y_51 => Option.bind (m_append y_51.1.toInt64 2 y_51.2) (fun y_56 => m_descriptor_170 (fun z5_61 z4_61 z3_61 z2_61 z1_61 r_70 => Option.bind (m_append 120 1 r_70) (fun y_72 => Option.bind (rd y_72.above 6 z2_61) (fun v_79 => m_descriptor_4 K n (z3_61 + 1) v_79 z1_61 y_72))) 60 0 y_51.1 x3_1 x2_1 x1_1 y_56))))))))))))))) else (Option.bind (m_refer (40 + x2_1) r) (fun y_213 => some y_213)))))))
def m_descriptor (l1 : Int32) (r : RS) : Option RS := m_descriptor_4 (fun z3_1 z2_1 z1_1 r_221 => some r_221) 60 0 l1 l1 r
set_option maxHeartbeats 4000000 in
set_option maxRecDepth 100000 in
theorem k_M_descriptor {l : Launch} {D : va_G} {ca : Nat → ClassId} {kS : Nat → Nat} {kT : Nat} {ad : pw_A} {C : pw_C} {r : RS} (hR : rm_at ca ad C r) {l1 : Int32} {res : RS} (hE : m_descriptor l1 r = some res) : gc_Con l y_M_descriptor c_M_descriptor ({ frames := 3, cells := 0, slots := 0, locals := 68 }) D ca (z9_Z kS kT) [.ref (ad 30 0), .int l1] ad C (pw_pv (fun ad' C' => ad' = ad ∧ rm_at ca ad C' res ∧ rm_fr C C')) 0 0 := by
  have hZ := z9_ok kS kT
  refine pw_ofW (cc := b_M_descriptor) (maxL := 6) (ret := none) (by decide) rfl (Nat.le_of_ble_eq_true rfl) ?_
  intro p e s m args below meth c A ls hB hA hw hK hz hl
  obtain ⟨hx, hb, hr, hml, hts0, hlocks, hown, hnm⟩ := hB
  have hts := wd_hts hts0
  have hown : s.vm.findClass "GraphWriterModel" = some m.cls := hown
  have hl : lv_has ls 6 [(0, .ref (ad 30 0)), (1, .int l1)] := hl
  have hfr : rm_fr C C := fun _ _ _ => rfl
  unfold m_descriptor at hE
  refine lv_iload_n hx hb d_M_descriptor_0 rfl (lv_at hl 1 rfl) ?_
  refine lv_istore_n (lv' := [(2, .int l1), (0, .ref (ad 30 0)), (1, .int l1)]) hx hb d_M_descriptor_1 rfl hl (by decide) rfl (fun ls hl => ?_)
  refine lv_iconst (v := 0) hx hb d_M_descriptor_2 (by decide) ?_
  refine lv_istore_n (lv' := [(3, .int 0), (2, .int l1), (0, .ref (ad 30 0)), (1, .int l1)]) hx hb d_M_descriptor_3 rfl hl (by decide) rfl (fun ls hl => ?_)
  have lp_1 : ∀ (K : Int32 → Int32 → Int32 → RS → Option RS), (∀ (x3_1 : Int32) (x2_1 : Int32) (x1_1 : Int32) (r : RS) (C1 : pw_C) (H : Heap) (locs : List Loc) (ls : Array Slot), K x3_1 x2_1 x1_1 r = some res → rm_at ca ad C1 r → rm_fr C C1 → pw_H D cls9 A s.heap ad C ad C1 H locs → lv_has ls 6 [(3, .int x3_1), (2, .int x2_1), (0, .ref (ad 30 0)), (1, .int x1_1)] → W p l e ({ frames := 3, cells := 0, slots := 0, locals := 68 }) s m args below meth c H locs 0 0 (MQ below (pw_Q D cls9 ad C (pw_pv (fun ad' C' => ad' = ad ∧ rm_at ca ad C' res ∧ rm_fr C C')) A) args s 0 0 A) (F0 m 215 ls [])) → ∀ (n : Nat) (x3_1 : Int32) (x2_1 : Int32) (x1_1 : Int32) (r : RS) (C1 : pw_C) (H : Heap) (locs : List Loc) (ls : Array Slot), m_descriptor_4 K n x3_1 x2_1 x1_1 r = some res → rm_at ca ad C1 r → rm_fr C C1 → pw_H D cls9 A s.heap ad C ad C1 H locs → lv_has ls 6 [(3, .int x3_1), (2, .int x2_1), (0, .ref (ad 30 0)), (1, .int x1_1)] → W p l e ({ frames := 3, cells := 0, slots := 0, locals := 68 }) s m args below meth c H locs 0 0 (MQ below (pw_Q D cls9 ad C (pw_pv (fun ad' C' => ad' = ad ∧ rm_at ca ad C' res ∧ rm_fr C C')) A) args s 0 0 A) (F0 m 4 ls []) := by
    intro K hKK n
    induction n with
    | zero => intro x3_1 x2_1 x1_1 r C1 H locs ls hE; rw [m_descriptor_4] at hE; exact absurd hE (by simp)
    | succ n ih =>
      intro x3_1 x2_1 x1_1 r C1 H locs ls hE hR hfr hw hl
      rw [m_descriptor_4] at hE
      refine lv_iload_n hx hb d_M_descriptor_4 rfl (lv_at hl 0 rfl) ?_
      refine lv_bipush (v := 7) hx hb d_M_descriptor_5 (by decide) ?_
      refine lv_icmp_ge (tgt := 215) hx hb d_M_descriptor_7 (by decide) (fun c_2 => ?_) (fun c_2 => ?_)
      · rw [if_pos c_2] at hE
        exact hKK _ _ _ _ _ _ _ _ hE hR hfr hw (lv_sub hl [0, 1, 2, 3] rfl)
      · rw [if_neg c_2] at hE
        refine lv_iload_n hx hb d_M_descriptor_10 rfl (lv_at hl 1 rfl) ?_
        refine lv_if_lt (tgt := 23) hx hb d_M_descriptor_11 (by decide) (fun c_3 => ?_) (fun c_3 => ?_)
        · rw [if_pos c_3] at hE
          refine lv_aload_n hx hb d_M_descriptor_23 rfl (lv_at hl 2 rfl) ?_
          refine lv_ldc2 (v := 112) hx hb hown (hts _ wd_943) d_M_descriptor_24 ?_
          refine lv_iconst (v := 1) hx hb d_M_descriptor_27 (by decide) ?_
          obtain ⟨y_4, hy_4, hE⟩ := ob_some hE
          have hc_5 : C1 30 0 = some (.inr (4, [.ref (ad 31 0), .ref (ad 31 1), .ref (ad 31 2), .ref (ad 31 3), .ref (ad 31 4), .ref (ad 31 5), .ref (ad 31 6), .ref (ad 31 7), .ref (ad 31 8), .ref (ad 31 9), .ref (ad 31 10), .ref (ad 31 11), .ref (ad 31 12), .ref (ad 31 13), .ref (ad 31 14), .int r.objects, .ref (ad 31 15), .int r.length, .ref (ad 31 16), .int r.waits, .ref (ad 31 17), .int r.given, .ref (ad 31 18), .ref (ad 31 19), .ref (ad 31 20), .int r.left, .ref (ad 31 21), .ref (ad 31 22), .int r.oldLength, .int r.oldWaits, .int r.oldGiven])) := by have h9 := rm_at.o hR; exact h9
          refine pw_callv (va_runV (As := [.long 112, .int 1]) (rest := []) ⟨hx, hb, hml, hown, hts0⟩ (k_M_append hR hy_4 _) (cwV 2 hts0 (wd_V wd_748 wd_745 wd_747 wd_20 wd_56) rfl rfl rfl (by decide +kernel) ⟨Nat.le_of_ble_eq_true rfl, Nat.le_of_ble_eq_true rfl⟩) (pw_preV hZ hw hA hK hz rfl hc_5 rfl) rfl rfl hl.1 rfl (lv_room (Nat.le_of_ble_eq_true rfl)) d_M_descriptor_28 ⟨Nat.le_of_ble_eq_true rfl, Nat.le_of_ble_eq_true rfl⟩) hw hA (fun ad_6 C_7 H locs hp hw => ?_)
          obtain ⟨hae, hR, hf1⟩ := hp
          rw [hae] at hw
          clear hae
          have hfr : rm_fr C C_7 := fun x y h9 => (hf1 x y h9).trans (hfr x y h9)
          clear hf1
          obtain rfl := Option.some.inj hE
          exact pw_vret hx hb hr hlocks hw ⟨rfl, hR, hfr⟩ d_M_descriptor_31
        · rw [if_neg c_3] at hE
          refine lv_aload_n hx hb d_M_descriptor_14 rfl (lv_at hl 2 rfl) ?_
          have hc_9 : C1 30 0 = some (.inr (4, [.ref (ad 31 0), .ref (ad 31 1), .ref (ad 31 2), .ref (ad 31 3), .ref (ad 31 4), .ref (ad 31 5), .ref (ad 31 6), .ref (ad 31 7), .ref (ad 31 8), .ref (ad 31 9), .ref (ad 31 10), .ref (ad 31 11), .ref (ad 31 12), .ref (ad 31 13), .ref (ad 31 14), .int r.objects, .ref (ad 31 15), .int r.length, .ref (ad 31 16), .int r.waits, .ref (ad 31 17), .int r.given, .ref (ad 31 18), .ref (ad 31 19), .ref (ad 31 20), .int r.left, .ref (ad 31 21), .ref (ad 31 22), .int r.oldLength, .int r.oldWaits, .int r.oldGiven])) := by have h9 := rm_at.o hR; exact h9
          refine pw_get (Cn := "GraphWriterModel") (T := F_M) (N := 31) hx hb hts in_M hown hK hw 30 0 rfl hc_9 rfl 1 (by decide) (hts _ wd_755) (fun _ h9 => h9) rfl d_M_descriptor_15 ?_
          refine lv_iload_n hx hb d_M_descriptor_18 rfl (lv_at hl 1 rfl) ?_
          have hc_10 : C1 31 1 = some (.inl (ca 0, 6, .inl r.kind)) := by have h9 := rm_at.a1 hR; exact h9
          obtain ⟨v_11, hv_11, hE⟩ := ob_some hE
          obtain ⟨hi_v_11, hj_v_11, he_v_11⟩ := rd_some (by decide) hv_11
          refine pw_iald hx hb hK hw 31 1 rfl 0 hc_10 rfl (x2_1 : Int32).toNatClampNeg hi_v_11 (by omega) (by omega) d_M_descriptor_19 ?_
          rw [← he_v_11]
          refine lv_if_ne (tgt := 32) hx hb d_M_descriptor_20 (by decide) (fun c_12 => ?_) (fun c_12 => ?_)
          · rw [if_neg c_12] at hE
            refine lv_aload_n hx hb d_M_descriptor_32 rfl (lv_at hl 2 rfl) ?_
            refine pw_get (Cn := "GraphWriterModel") (T := F_M) (N := 31) hx hb hts in_M hown hK hw 30 0 rfl hc_9 rfl 20 (by decide) (hts _ wd_774) (fun _ h9 => h9) rfl d_M_descriptor_33 ?_
            refine lv_bipush (v := 40) hx hb d_M_descriptor_36 (by decide) ?_
            refine lv_iload_n hx hb d_M_descriptor_38 rfl (lv_at hl 1 rfl) ?_
            refine lv_iadd hx hb d_M_descriptor_39 ?_
            have hc_13 : C1 31 17 = some (.inl (ca 0, 51, .inl r.handles)) := by have h9 := rm_at.a17 hR; exact h9
            obtain ⟨v_14, hv_14, hE⟩ := ob_some hE
            obtain ⟨hi_v_14, hj_v_14, he_v_14⟩ := rd_some (by decide) hv_14
            refine pw_iald hx hb hK hw 31 17 rfl 0 hc_13 rfl (40 + x2_1 : Int32).toNatClampNeg hi_v_14 (by omega) (by omega) d_M_descriptor_40 ?_
            rw [← he_v_14]
            refine lv_if_lt (tgt := 53) hx hb d_M_descriptor_41 (by decide) (fun c_15 => ?_) (fun c_15 => ?_)
            · rw [if_pos c_15] at hE
              refine lv_aload_n hx hb d_M_descriptor_53 rfl (lv_at hl 2 rfl) ?_
              refine lv_ldc2 (v := 114) hx hb hown (hts _ wd_964) d_M_descriptor_54 ?_
              refine lv_iconst (v := 1) hx hb d_M_descriptor_57 (by decide) ?_
              obtain ⟨y_16, hy_16, hE⟩ := ob_some hE
              refine pw_callv (va_runV (As := [.long 114, .int 1]) (rest := []) ⟨hx, hb, hml, hown, hts0⟩ (k_M_append hR hy_16 _) (cwV 2 hts0 (wd_V wd_748 wd_745 wd_747 wd_20 wd_56) rfl rfl rfl (by decide +kernel) ⟨Nat.le_of_ble_eq_true rfl, Nat.le_of_ble_eq_true rfl⟩) (pw_preV hZ hw hA hK hz rfl hc_9 rfl) rfl rfl hl.1 rfl (lv_room (Nat.le_of_ble_eq_true rfl)) d_M_descriptor_58 ⟨Nat.le_of_ble_eq_true rfl, Nat.le_of_ble_eq_true rfl⟩) hw hA (fun ad_17 C_18 H locs hp hw => ?_)
              obtain ⟨hae, hR, hf1⟩ := hp
              rw [hae] at hw
              clear hae
              have hfr : rm_fr C C_18 := fun x y h9 => (hf1 x y h9).trans (hfr x y h9)
              clear hf1
              refine lv_aload_n hx hb d_M_descriptor_61 rfl (lv_at hl 2 rfl) ?_
              refine lv_bipush (v := 65) hx hb d_M_descriptor_62 (by decide) ?_
              refine lv_iload_n hx hb d_M_descriptor_64 rfl (lv_at hl 1 rfl) ?_
              refine lv_iadd hx hb d_M_descriptor_65 ?_
              obtain ⟨y_20, hy_20, hE⟩ := ob_some hE
              have hc_21 : C_18 30 0 = some (.inr (4, [.ref (ad 31 0), .ref (ad 31 1), .ref (ad 31 2), .ref (ad 31 3), .ref (ad 31 4), .ref (ad 31 5), .ref (ad 31 6), .ref (ad 31 7), .ref (ad 31 8), .ref (ad 31 9), .ref (ad 31 10), .ref (ad 31 11), .ref (ad 31 12), .ref (ad 31 13), .ref (ad 31 14), .int y_16.objects, .ref (ad 31 15), .int y_16.length, .ref (ad 31 16), .int y_16.waits, .ref (ad 31 17), .int y_16.given, .ref (ad 31 18), .ref (ad 31 19), .ref (ad 31 20), .int y_16.left, .ref (ad 31 21), .ref (ad 31 22), .int y_16.oldLength, .int y_16.oldWaits, .int y_16.oldGiven])) := by have h9 := rm_at.o hR; exact h9
              refine pw_callv (va_runV (As := [.int (65 + x2_1)]) (rest := []) ⟨hx, hb, hml, hown, hts0⟩ (k_M_letter hR hy_20 _) (cwV 1 hts0 (wd_V wd_994 wd_991 wd_993 wd_42 wd_56) rfl rfl rfl (by decide +kernel) ⟨Nat.le_of_ble_eq_true rfl, Nat.le_of_ble_eq_true rfl⟩) (pw_preV hZ hw hA hK hz rfl hc_21 rfl) rfl rfl hl.1 rfl (lv_room (Nat.le_of_ble_eq_true rfl)) d_M_descriptor_66 ⟨Nat.le_of_ble_eq_true rfl, Nat.le_of_ble_eq_true rfl⟩) hw hA (fun ad_22 C_23 H locs hp hw => ?_)
              obtain ⟨hae, hR, hf1⟩ := hp
              rw [hae] at hw
              clear hae
              have hfr : rm_fr C C_23 := fun x y h9 => (hf1 x y h9).trans (hfr x y h9)
              clear hf1
              refine lv_aload_n hx hb d_M_descriptor_69 rfl (lv_at hl 2 rfl) ?_
              refine lv_aload_n hx hb d_M_descriptor_70 rfl (lv_at hl 2 rfl) ?_
              have hc_25 : C_23 30 0 = some (.inr (4, [.ref (ad 31 0), .ref (ad 31 1), .ref (ad 31 2), .ref (ad 31 3), .ref (ad 31 4), .ref (ad 31 5), .ref (ad 31 6), .ref (ad 31 7), .ref (ad 31 8), .ref (ad 31 9), .ref (ad 31 10), .ref (ad 31 11), .ref (ad 31 12), .ref (ad 31 13), .ref (ad 31 14), .int y_20.objects, .ref (ad 31 15), .int y_20.length, .ref (ad 31 16), .int y_20.waits, .ref (ad 31 17), .int y_20.given, .ref (ad 31 18), .ref (ad 31 19), .ref (ad 31 20), .int y_20.left, .ref (ad 31 21), .ref (ad 31 22), .int y_20.oldLength, .int y_20.oldWaits, .int y_20.oldGiven])) := by have h9 := rm_at.o hR; exact h9
              refine pw_get (Cn := "GraphWriterModel") (T := F_M) (N := 31) hx hb hts in_M hown hK hw 30 0 rfl hc_25 rfl 1 (by decide) (hts _ wd_755) (fun _ h9 => h9) rfl d_M_descriptor_71 ?_
              refine lv_iload_n hx hb d_M_descriptor_74 rfl (lv_at hl 1 rfl) ?_
              have hc_26 : C_23 31 1 = some (.inl (ca 0, 6, .inl y_20.kind)) := by have h9 := rm_at.a1 hR; exact h9
              obtain ⟨v_27, hv_27, hE⟩ := ob_some hE
              obtain ⟨hi_v_27, hj_v_27, he_v_27⟩ := rd_some (by decide) hv_27
              refine pw_iald hx hb hK hw 31 1 rfl 0 hc_26 rfl (x2_1 : Int32).toNatClampNeg hi_v_27 (by omega) (by omega) d_M_descriptor_75 ?_
              rw [← he_v_27]
              refine lv_iconst (v := 3) hx hb d_M_descriptor_76 (by decide) ?_
              refine lv_icmp_ne (tgt := 84) hx hb d_M_descriptor_77 (by decide) (fun c_28 => ?_) (fun c_28 => ?_)
              · rw [if_neg c_28] at hE
                refine lv_aload_n hx hb d_M_descriptor_84 rfl (lv_at hl 2 rfl) ?_
                refine pw_get (Cn := "GraphWriterModel") (T := F_M) (N := 31) hx hb hts in_M hown hK hw 30 0 rfl hc_25 rfl 3 (by decide) (hts _ wd_757) (fun _ h9 => h9) rfl d_M_descriptor_85 ?_
                refine lv_iload_n hx hb d_M_descriptor_88 rfl (lv_at hl 1 rfl) ?_
                have hc_29 : C_23 31 3 = some (.inl (ca 1, 6, .inr (.inl y_20.id))) := by have h9 := rm_at.a3 hR; exact h9
                obtain ⟨v_30, hv_30, hE⟩ := ob_some hE
                obtain ⟨hi_v_30, hj_v_30, he_v_30⟩ := rd_some (by decide) hv_30
                refine pw_lald hx hb hK hw 31 3 rfl 1 hc_29 rfl (x2_1 : Int32).toNatClampNeg hi_v_30 (by omega) (by omega) d_M_descriptor_89 ?_
                rw [← he_v_30]
                refine lv_bipush (v := 8) hx hb d_M_descriptor_90 (by decide) ?_
                obtain ⟨y_31, hy_31, hE⟩ := ob_some hE
                refine pw_callv (va_runV (As := [.long v_30, .int 8]) (rest := []) ⟨hx, hb, hml, hown, hts0⟩ (k_M_append hR hy_31 _) (cwV 2 hts0 (wd_V wd_748 wd_745 wd_747 wd_20 wd_56) rfl rfl rfl (by decide +kernel) ⟨Nat.le_of_ble_eq_true rfl, Nat.le_of_ble_eq_true rfl⟩) (pw_preV hZ hw hA hK hz rfl hc_25 rfl) rfl rfl hl.1 rfl (lv_room (Nat.le_of_ble_eq_true rfl)) d_M_descriptor_92 ⟨Nat.le_of_ble_eq_true rfl, Nat.le_of_ble_eq_true rfl⟩) hw hA (fun ad_32 C_33 H locs hp hw => ?_)
                obtain ⟨hae, hR, hf1⟩ := hp
                rw [hae] at hw
                clear hae
                have hfr : rm_fr C C_33 := fun x y h9 => (hf1 x y h9).trans (hfr x y h9)
                clear hf1
                refine lv_aload_n hx hb d_M_descriptor_95 rfl (lv_at hl 2 rfl) ?_
                have hc_35 : C_33 30 0 = some (.inr (4, [.ref (ad 31 0), .ref (ad 31 1), .ref (ad 31 2), .ref (ad 31 3), .ref (ad 31 4), .ref (ad 31 5), .ref (ad 31 6), .ref (ad 31 7), .ref (ad 31 8), .ref (ad 31 9), .ref (ad 31 10), .ref (ad 31 11), .ref (ad 31 12), .ref (ad 31 13), .ref (ad 31 14), .int y_31.objects, .ref (ad 31 15), .int y_31.length, .ref (ad 31 16), .int y_31.waits, .ref (ad 31 17), .int y_31.given, .ref (ad 31 18), .ref (ad 31 19), .ref (ad 31 20), .int y_31.left, .ref (ad 31 21), .ref (ad 31 22), .int y_31.oldLength, .int y_31.oldWaits, .int y_31.oldGiven])) := by have h9 := rm_at.o hR; exact h9
                refine pw_get (Cn := "GraphWriterModel") (T := F_M) (N := 31) hx hb hts in_M hown hK hw 30 0 rfl hc_35 rfl 1 (by decide) (hts _ wd_755) (fun _ h9 => h9) rfl d_M_descriptor_96 ?_
                refine lv_iload_n hx hb d_M_descriptor_99 rfl (lv_at hl 1 rfl) ?_
                have hc_36 : C_33 31 1 = some (.inl (ca 0, 6, .inl y_31.kind)) := by have h9 := rm_at.a1 hR; exact h9
                obtain ⟨v_37, hv_37, hE⟩ := ob_some hE
                obtain ⟨hi_v_37, hj_v_37, he_v_37⟩ := rd_some (by decide) hv_37
                refine pw_iald hx hb hK hw 31 1 rfl 0 hc_36 rfl (x2_1 : Int32).toNatClampNeg hi_v_37 (by omega) (by omega) d_M_descriptor_100 ?_
                rw [← he_v_37]
                refine lv_iconst (v := 3) hx hb d_M_descriptor_101 (by decide) ?_
                refine lv_icmp_ne (tgt := 120) hx hb d_M_descriptor_102 (by decide) (fun c_38 => ?_) (fun c_38 => ?_)
                · rw [if_neg c_38] at hE
                  refine lv_aload_n hx hb d_M_descriptor_120 rfl (lv_at hl 2 rfl) ?_
                  refine lv_bipush (v := 40) hx hb d_M_descriptor_121 (by decide) ?_
                  refine lv_iload_n hx hb d_M_descriptor_123 rfl (lv_at hl 1 rfl) ?_
                  refine lv_iadd hx hb d_M_descriptor_124 ?_
                  obtain ⟨y_39, hy_39, hE⟩ := ob_some hE
                  refine pw_callv (va_runV (As := [.int (40 + x2_1)]) (rest := []) ⟨hx, hb, hml, hown, hts0⟩ (k_M_give hR hy_39 _) (cwV 1 hts0 (wd_V wd_954 wd_951 wd_953 wd_35 wd_56) rfl rfl rfl (by decide +kernel) ⟨Nat.le_of_ble_eq_true rfl, Nat.le_of_ble_eq_true rfl⟩) (pw_preV hZ hw hA hK hz rfl hc_35 rfl) rfl rfl hl.1 rfl (lv_room (Nat.le_of_ble_eq_true rfl)) d_M_descriptor_125 ⟨Nat.le_of_ble_eq_true rfl, Nat.le_of_ble_eq_true rfl⟩) hw hA (fun ad_40 C_41 H locs hp hw => ?_)
                  obtain ⟨hae, hR, hf1⟩ := hp
                  rw [hae] at hw
                  clear hae
                  have hfr : rm_fr C C_41 := fun x y h9 => (hf1 x y h9).trans (hfr x y h9)
                  clear hf1
                  refine lv_aload_n hx hb d_M_descriptor_128 rfl (lv_at hl 2 rfl) ?_
                  refine lv_aload_n hx hb d_M_descriptor_129 rfl (lv_at hl 2 rfl) ?_
                  have hc_43 : C_41 30 0 = some (.inr (4, [.ref (ad 31 0), .ref (ad 31 1), .ref (ad 31 2), .ref (ad 31 3), .ref (ad 31 4), .ref (ad 31 5), .ref (ad 31 6), .ref (ad 31 7), .ref (ad 31 8), .ref (ad 31 9), .ref (ad 31 10), .ref (ad 31 11), .ref (ad 31 12), .ref (ad 31 13), .ref (ad 31 14), .int y_39.objects, .ref (ad 31 15), .int y_39.length, .ref (ad 31 16), .int y_39.waits, .ref (ad 31 17), .int y_39.given, .ref (ad 31 18), .ref (ad 31 19), .ref (ad 31 20), .int y_39.left, .ref (ad 31 21), .ref (ad 31 22), .int y_39.oldLength, .int y_39.oldWaits, .int y_39.oldGiven])) := by have h9 := rm_at.o hR; exact h9
                  refine pw_get (Cn := "GraphWriterModel") (T := F_M) (N := 31) hx hb hts in_M hown hK hw 30 0 rfl hc_43 rfl 1 (by decide) (hts _ wd_755) (fun _ h9 => h9) rfl d_M_descriptor_130 ?_
                  refine lv_iload_n hx hb d_M_descriptor_133 rfl (lv_at hl 1 rfl) ?_
                  have hc_44 : C_41 31 1 = some (.inl (ca 0, 6, .inl y_39.kind)) := by have h9 := rm_at.a1 hR; exact h9
                  obtain ⟨v_45, hv_45, hE⟩ := ob_some hE
                  obtain ⟨hi_v_45, hj_v_45, he_v_45⟩ := rd_some (by decide) hv_45
                  refine pw_iald hx hb hK hw 31 1 rfl 0 hc_44 rfl (x2_1 : Int32).toNatClampNeg hi_v_45 (by omega) (by omega) d_M_descriptor_134 ?_
                  rw [← he_v_45]
                  refine lv_iconst (v := 2) hx hb d_M_descriptor_135 (by decide) ?_
                  refine lv_icmp_ne (tgt := 145) hx hb d_M_descriptor_136 (by decide) (fun c_46 => ?_) (fun c_46 => ?_)
                  · rw [if_neg c_46] at hE
                    refine lv_ldc2 (v := 2) hx hb hown (hts _ wd_969) d_M_descriptor_145 ?_
                    refine lv_iconst (v := 1) hx hb d_M_descriptor_148 (by decide) ?_
                    obtain ⟨y_47, hy_47, hE⟩ := ob_some hE
                    refine pw_callv (va_runV (As := [.long 2, .int 1]) (rest := []) ⟨hx, hb, hml, hown, hts0⟩ (k_M_append hR hy_47 _) (cwV 2 hts0 (wd_V wd_748 wd_745 wd_747 wd_20 wd_56) rfl rfl rfl (by decide +kernel) ⟨Nat.le_of_ble_eq_true rfl, Nat.le_of_ble_eq_true rfl⟩) (pw_preV hZ hw hA hK hz rfl hc_43 rfl) rfl rfl hl.1 rfl (lv_room (Nat.le_of_ble_eq_true rfl)) d_M_descriptor_149 ⟨Nat.le_of_ble_eq_true rfl, Nat.le_of_ble_eq_true rfl⟩) hw hA (fun ad_48 C_49 H locs hp hw => ?_)
                    obtain ⟨hae, hR, hf1⟩ := hp
                    rw [hae] at hw
                    clear hae
                    have hfr : rm_fr C C_49 := fun x y h9 => (hf1 x y h9).trans (hfr x y h9)
                    clear hf1
                    refine lv_aload_n hx hb d_M_descriptor_152 rfl (lv_at hl 2 rfl) ?_
                    refine lv_iload_n hx hb d_M_descriptor_153 rfl (lv_at hl 1 rfl) ?_
                    obtain ⟨y_51, hy_51, hE⟩ := ob_some hE
                    have hc_52 : C_49 30 0 = some (.inr (4, [.ref (ad 31 0), .ref (ad 31 1), .ref (ad 31 2), .ref (ad 31 3), .ref (ad 31 4), .ref (ad 31 5), .ref (ad 31 6), .ref (ad 31 7), .ref (ad 31 8), .ref (ad 31 9), .ref (ad 31 10), .ref (ad 31 11), .ref (ad 31 12), .ref (ad 31 13), .ref (ad 31 14), .int y_47.objects, .ref (ad 31 15), .int y_47.length, .ref (ad 31 16), .int y_47.waits, .ref (ad 31 17), .int y_47.given, .ref (ad 31 18), .ref (ad 31 19), .ref (ad 31 20), .int y_47.left, .ref (ad 31 21), .ref (ad 31 22), .int y_47.oldLength, .int y_47.oldWaits, .int y_47.oldGiven])) := by have h9 := rm_at.o hR; exact h9
                    refine pw_calli (va_runV (As := [.int x2_1]) (rest := []) ⟨hx, hb, hml, hown, hts0⟩ (k_M_arrange hR hy_51 _) (cwV 1 hts0 (wd_V wd_1006 wd_1003 wd_1005 wd_44 wd_56) rfl rfl rfl (by decide +kernel) ⟨Nat.le_of_ble_eq_true rfl, Nat.le_of_ble_eq_true rfl⟩) (pw_preV hZ hw hA hK hz rfl hc_52 rfl) rfl rfl hl.1 rfl (lv_room (Nat.le_of_ble_eq_true rfl)) d_M_descriptor_154 ⟨Nat.le_of_ble_eq_true rfl, Nat.le_of_ble_eq_true rfl⟩) hw hA (fun r_55 ad_53 C_54 H locs hp hw => ?_)
                    obtain ⟨⟨hae, hR, hf1⟩, hre⟩ := hp
                    rw [hre]
                    rw [hae] at hw
                    clear hae
                    have hfr : rm_fr C C_54 := fun x y h9 => (hf1 x y h9).trans (hfr x y h9)
                    clear hf1
                    refine lv_istore (lv' := [(4, .int y_51.1), (3, .int x3_1), (2, .int x2_1), (0, .ref (ad 30 0)), (1, .int x1_1)]) hx hb d_M_descriptor_157 hl (by decide) rfl (fun ls hl => ?_)
                    refine lv_aload_n hx hb d_M_descriptor_159 rfl (lv_at hl 3 rfl) ?_
                    refine lv_iload hx hb d_M_descriptor_160 (lv_at hl 0 rfl) ?_
                    refine lv_i2l hx hb d_M_descriptor_162 rfl ?_
                    refine lv_iconst (v := 2) hx hb d_M_descriptor_163 (by decide) ?_
                    obtain ⟨y_56, hy_56, hE⟩ := ob_some hE
                    have hc_57 : C_54 30 0 = some (.inr (4, [.ref (ad 31 0), .ref (ad 31 1), .ref (ad 31 2), .ref (ad 31 3), .ref (ad 31 4), .ref (ad 31 5), .ref (ad 31 6), .ref (ad 31 7), .ref (ad 31 8), .ref (ad 31 9), .ref (ad 31 10), .ref (ad 31 11), .ref (ad 31 12), .ref (ad 31 13), .ref (ad 31 14), .int y_51.2.objects, .ref (ad 31 15), .int y_51.2.length, .ref (ad 31 16), .int y_51.2.waits, .ref (ad 31 17), .int y_51.2.given, .ref (ad 31 18), .ref (ad 31 19), .ref (ad 31 20), .int y_51.2.left, .ref (ad 31 21), .ref (ad 31 22), .int y_51.2.oldLength, .int y_51.2.oldWaits, .int y_51.2.oldGiven])) := by have h9 := rm_at.o hR; exact h9
                    refine pw_callv (va_runV (As := [.long y_51.1.toInt64, .int 2]) (rest := []) ⟨hx, hb, hml, hown, hts0⟩ (k_M_append hR hy_56 _) (cwV 2 hts0 (wd_V wd_748 wd_745 wd_747 wd_20 wd_56) rfl rfl rfl (by decide +kernel) ⟨Nat.le_of_ble_eq_true rfl, Nat.le_of_ble_eq_true rfl⟩) (pw_preV hZ hw hA hK hz rfl hc_57 rfl) rfl rfl hl.1 rfl (lv_room (Nat.le_of_ble_eq_true rfl)) d_M_descriptor_164 ⟨Nat.le_of_ble_eq_true rfl, Nat.le_of_ble_eq_true rfl⟩) hw hA (fun ad_58 C_59 H locs hp hw => ?_)
                    obtain ⟨hae, hR, hf1⟩ := hp
                    rw [hae] at hw
                    clear hae
                    have hfr : rm_fr C C_59 := fun x y h9 => (hf1 x y h9).trans (hfr x y h9)
                    clear hf1
                    refine lv_iconst (v := 0) hx hb d_M_descriptor_167 (by decide) ?_
                    refine lv_istore (lv' := [(5, .int 0), (4, .int y_51.1), (3, .int x3_1), (2, .int x2_1), (0, .ref (ad 30 0)), (1, .int x1_1)]) hx hb d_M_descriptor_168 hl (by decide) rfl (fun ls hl => ?_)
                    have lp_61 : ∀ (K : Int32 → Int32 → Int32 → Int32 → Int32 → RS → Option RS), (∀ (x5_61 : Int32) (x4_61 : Int32) (x3_61 : Int32) (x2_61 : Int32) (x1_61 : Int32) (r : RS) (C1 : pw_C) (H : Heap) (locs : List Loc) (ls : Array Slot), K x5_61 x4_61 x3_61 x2_61 x1_61 r = some res → rm_at ca ad C1 r → rm_fr C C1 → pw_H D cls9 A s.heap ad C ad C1 H locs → lv_has ls 6 [(5, .int x5_61), (4, .int x4_61), (3, .int x3_61), (2, .int x2_61), (0, .ref (ad 30 0)), (1, .int x1_61)] → W p l e ({ frames := 3, cells := 0, slots := 0, locals := 68 }) s m args below meth c H locs 0 0 (MQ below (pw_Q D cls9 ad C (pw_pv (fun ad' C' => ad' = ad ∧ rm_at ca ad C' res ∧ rm_fr C C')) A) args s 0 0 A) (F0 m 194 ls [])) → ∀ (n : Nat) (x5_61 : Int32) (x4_61 : Int32) (x3_61 : Int32) (x2_61 : Int32) (x1_61 : Int32) (r : RS) (C1 : pw_C) (H : Heap) (locs : List Loc) (ls : Array Slot), m_descriptor_170 K n x5_61 x4_61 x3_61 x2_61 x1_61 r = some res → rm_at ca ad C1 r → rm_fr C C1 → pw_H D cls9 A s.heap ad C ad C1 H locs → lv_has ls 6 [(5, .int x5_61), (4, .int x4_61), (3, .int x3_61), (2, .int x2_61), (0, .ref (ad 30 0)), (1, .int x1_61)] → W p l e ({ frames := 3, cells := 0, slots := 0, locals := 68 }) s m args below meth c H locs 0 0 (MQ below (pw_Q D cls9 ad C (pw_pv (fun ad' C' => ad' = ad ∧ rm_at ca ad C' res ∧ rm_fr C C')) A) args s 0 0 A) (F0 m 170 ls []) := by
                      intro K hKK n
                      induction n with
                      | zero => intro x5_61 x4_61 x3_61 x2_61 x1_61 r C1 H locs ls hE; rw [m_descriptor_170] at hE; exact absurd hE (by simp)
                      | succ n ih =>
                        intro x5_61 x4_61 x3_61 x2_61 x1_61 r C1 H locs ls hE hR hfr hw hl
                        rw [m_descriptor_170] at hE
                        refine lv_iload hx hb d_M_descriptor_170 (lv_at hl 0 rfl) ?_
                        refine lv_iload hx hb d_M_descriptor_172 (lv_at hl 1 rfl) ?_
                        refine lv_icmp_ge (tgt := 194) hx hb d_M_descriptor_174 (by decide) (fun c_62 => ?_) (fun c_62 => ?_)
                        · rw [if_pos c_62] at hE
                          exact hKK _ _ _ _ _ _ _ _ _ _ hE hR hfr hw (lv_sub hl [0, 1, 2, 3, 4, 5] rfl)
                        · rw [if_neg c_62] at hE
                          refine lv_aload_n hx hb d_M_descriptor_177 rfl (lv_at hl 4 rfl) ?_
                          refine lv_aload_n hx hb d_M_descriptor_178 rfl (lv_at hl 4 rfl) ?_
                          have hc_63 : C1 30 0 = some (.inr (4, [.ref (ad 31 0), .ref (ad 31 1), .ref (ad 31 2), .ref (ad 31 3), .ref (ad 31 4), .ref (ad 31 5), .ref (ad 31 6), .ref (ad 31 7), .ref (ad 31 8), .ref (ad 31 9), .ref (ad 31 10), .ref (ad 31 11), .ref (ad 31 12), .ref (ad 31 13), .ref (ad 31 14), .int r.objects, .ref (ad 31 15), .int r.length, .ref (ad 31 16), .int r.waits, .ref (ad 31 17), .int r.given, .ref (ad 31 18), .ref (ad 31 19), .ref (ad 31 20), .int r.left, .ref (ad 31 21), .ref (ad 31 22), .int r.oldLength, .int r.oldWaits, .int r.oldGiven])) := by have h9 := rm_at.o hR; exact h9
                          refine pw_get (Cn := "GraphWriterModel") (T := F_M) (N := 31) hx hb hts in_M hown hK hw 30 0 rfl hc_63 rfl 26 (by decide) (hts _ wd_780) (fun _ h9 => h9) rfl d_M_descriptor_179 ?_
                          refine lv_iload hx hb d_M_descriptor_182 (lv_at hl 0 rfl) ?_
                          have hc_64 : C1 31 21 = some (.inl (ca 0, 4, .inl r.order)) := by have h9 := rm_at.a21 hR; exact h9
                          obtain ⟨v_65, hv_65, hE⟩ := ob_some hE
                          obtain ⟨hi_v_65, hj_v_65, he_v_65⟩ := rd_some (by decide) hv_65
                          refine pw_iald hx hb hK hw 31 21 rfl 0 hc_64 rfl (x5_61 : Int32).toNatClampNeg hi_v_65 (by omega) (by omega) d_M_descriptor_184 ?_
                          rw [← he_v_65]
                          obtain ⟨y_66, hy_66, hE⟩ := ob_some hE
                          refine pw_callv (va_runV (As := [.int v_65]) (rest := []) ⟨hx, hb, hml, hown, hts0⟩ (k_M_fieldEntry hR hy_66 _) (cwV 1 hts0 (wd_V wd_1010 wd_1007 wd_1009 wd_45 wd_56) rfl rfl rfl (by decide +kernel) ⟨Nat.le_of_ble_eq_true rfl, Nat.le_of_ble_eq_true rfl⟩) (pw_preV hZ hw hA hK hz rfl hc_63 rfl) rfl rfl hl.1 rfl (lv_room (Nat.le_of_ble_eq_true rfl)) d_M_descriptor_185 ⟨Nat.le_of_ble_eq_true rfl, Nat.le_of_ble_eq_true rfl⟩) hw hA (fun ad_67 C_68 H locs hp hw => ?_)
                          obtain ⟨hae, hR, hf1⟩ := hp
                          rw [hae] at hw
                          clear hae
                          have hfr : rm_fr C C_68 := fun x y h9 => (hf1 x y h9).trans (hfr x y h9)
                          clear hf1
                          refine lv_iinc (v := x5_61 + 1) (lv' := [(5, .int (x5_61 + 1)), (4, .int x4_61), (3, .int x3_61), (2, .int x2_61), (0, .ref (ad 30 0)), (1, .int x1_61)]) hx hb d_M_descriptor_188 hl (k := 0) rfl rfl (by decide) rfl (fun ls hl => ?_)
                          refine lv_goto (tgt := 170) hx hb d_M_descriptor_191 (by decide) ?_
                          exact ih _ _ _ _ _ _ _ _ _ _ hE hR hfr hw (lv_sub hl [0, 1, 2, 3, 4, 5] rfl)
                    refine lp_61 _ (fun z5_61 z4_61 z3_61 z2_61 z1_61 r_70 C_71 H locs ls hE hR hfr hw hl => ?_) 60 _ _ _ _ _ _ _ _ _ _ hE hR hfr hw hl
                    try dsimp only at hE
                    refine lv_aload_n hx hb d_M_descriptor_194 rfl (lv_at hl 4 rfl) ?_
                    refine lv_ldc2 (v := 120) hx hb hown (hts _ wd_977) d_M_descriptor_195 ?_
                    refine lv_iconst (v := 1) hx hb d_M_descriptor_198 (by decide) ?_
                    obtain ⟨y_72, hy_72, hE⟩ := ob_some hE
                    have hc_73 : C_71 30 0 = some (.inr (4, [.ref (ad 31 0), .ref (ad 31 1), .ref (ad 31 2), .ref (ad 31 3), .ref (ad 31 4), .ref (ad 31 5), .ref (ad 31 6), .ref (ad 31 7), .ref (ad 31 8), .ref (ad 31 9), .ref (ad 31 10), .ref (ad 31 11), .ref (ad 31 12), .ref (ad 31 13), .ref (ad 31 14), .int r_70.objects, .ref (ad 31 15), .int r_70.length, .ref (ad 31 16), .int r_70.waits, .ref (ad 31 17), .int r_70.given, .ref (ad 31 18), .ref (ad 31 19), .ref (ad 31 20), .int r_70.left, .ref (ad 31 21), .ref (ad 31 22), .int r_70.oldLength, .int r_70.oldWaits, .int r_70.oldGiven])) := by have h9 := rm_at.o hR; exact h9
                    refine pw_callv (va_runV (As := [.long 120, .int 1]) (rest := []) ⟨hx, hb, hml, hown, hts0⟩ (k_M_append hR hy_72 _) (cwV 2 hts0 (wd_V wd_748 wd_745 wd_747 wd_20 wd_56) rfl rfl rfl (by decide +kernel) ⟨Nat.le_of_ble_eq_true rfl, Nat.le_of_ble_eq_true rfl⟩) (pw_preV hZ hw hA hK hz rfl hc_73 rfl) rfl rfl hl.1 rfl (lv_room (Nat.le_of_ble_eq_true rfl)) d_M_descriptor_199 ⟨Nat.le_of_ble_eq_true rfl, Nat.le_of_ble_eq_true rfl⟩) hw hA (fun ad_74 C_75 H locs hp hw => ?_)
                    obtain ⟨hae, hR, hf1⟩ := hp
                    rw [hae] at hw
                    clear hae
                    have hfr : rm_fr C C_75 := fun x y h9 => (hf1 x y h9).trans (hfr x y h9)
                    clear hf1
                    refine lv_aload_n hx hb d_M_descriptor_202 rfl (lv_at hl 4 rfl) ?_
                    have hc_77 : C_75 30 0 = some (.inr (4, [.ref (ad 31 0), .ref (ad 31 1), .ref (ad 31 2), .ref (ad 31 3), .ref (ad 31 4), .ref (ad 31 5), .ref (ad 31 6), .ref (ad 31 7), .ref (ad 31 8), .ref (ad 31 9), .ref (ad 31 10), .ref (ad 31 11), .ref (ad 31 12), .ref (ad 31 13), .ref (ad 31 14), .int y_72.objects, .ref (ad 31 15), .int y_72.length, .ref (ad 31 16), .int y_72.waits, .ref (ad 31 17), .int y_72.given, .ref (ad 31 18), .ref (ad 31 19), .ref (ad 31 20), .int y_72.left, .ref (ad 31 21), .ref (ad 31 22), .int y_72.oldLength, .int y_72.oldWaits, .int y_72.oldGiven])) := by have h9 := rm_at.o hR; exact h9
                    refine pw_get (Cn := "GraphWriterModel") (T := F_M) (N := 31) hx hb hts in_M hown hK hw 30 0 rfl hc_77 rfl 2 (by decide) (hts _ wd_756) (fun _ h9 => h9) rfl d_M_descriptor_203 ?_
                    refine lv_iload_n hx hb d_M_descriptor_206 rfl (lv_at hl 3 rfl) ?_
                    have hc_78 : C_75 31 2 = some (.inl (ca 0, 6, .inl y_72.above)) := by have h9 := rm_at.a2 hR; exact h9
                    obtain ⟨v_79, hv_79, hE⟩ := ob_some hE
                    obtain ⟨hi_v_79, hj_v_79, he_v_79⟩ := rd_some (by decide) hv_79
                    refine pw_iald hx hb hK hw 31 2 rfl 0 hc_78 rfl (z2_61 : Int32).toNatClampNeg hi_v_79 (by omega) (by omega) d_M_descriptor_207 ?_
                    rw [← he_v_79]
                    refine lv_istore_n (lv' := [(2, .int v_79), (5, .int z5_61), (4, .int z4_61), (3, .int z3_61), (0, .ref (ad 30 0)), (1, .int z1_61)]) hx hb d_M_descriptor_208 rfl hl (by decide) rfl (fun ls hl => ?_)
                    refine lv_iinc (v := z3_61 + 1) (lv' := [(3, .int (z3_61 + 1)), (2, .int v_79), (5, .int z5_61), (4, .int z4_61), (0, .ref (ad 30 0)), (1, .int z1_61)]) hx hb d_M_descriptor_209 hl (k := 3) rfl rfl (by decide) rfl (fun ls hl => ?_)
                    refine lv_goto (tgt := 4) hx hb d_M_descriptor_212 (by decide) ?_
                    exact ih _ _ _ _ _ _ _ _ hE hR hfr hw (lv_sub hl [0, 1, 4, 5] rfl)
                  · rw [if_pos c_46] at hE
                    refine lv_ldc2 (v := 3) hx hb hown (hts _ wd_1002) d_M_descriptor_139 ?_
                    refine lv_goto (tgt := 148) hx hb d_M_descriptor_142 (by decide) ?_
                    refine lv_iconst (v := 1) hx hb d_M_descriptor_148 (by decide) ?_
                    obtain ⟨y_80, hy_80, hE⟩ := ob_some hE
                    refine pw_callv (va_runV (As := [.long 3, .int 1]) (rest := []) ⟨hx, hb, hml, hown, hts0⟩ (k_M_append hR hy_80 _) (cwV 2 hts0 (wd_V wd_748 wd_745 wd_747 wd_20 wd_56) rfl rfl rfl (by decide +kernel) ⟨Nat.le_of_ble_eq_true rfl, Nat.le_of_ble_eq_true rfl⟩) (pw_preV hZ hw hA hK hz rfl hc_43 rfl) rfl rfl hl.1 rfl (lv_room (Nat.le_of_ble_eq_true rfl)) d_M_descriptor_149 ⟨Nat.le_of_ble_eq_true rfl, Nat.le_of_ble_eq_true rfl⟩) hw hA (fun ad_81 C_82 H locs hp hw => ?_)
                    obtain ⟨hae, hR, hf1⟩ := hp
                    rw [hae] at hw
                    clear hae
                    have hfr : rm_fr C C_82 := fun x y h9 => (hf1 x y h9).trans (hfr x y h9)
                    clear hf1
                    refine lv_aload_n hx hb d_M_descriptor_152 rfl (lv_at hl 2 rfl) ?_
                    refine lv_iload_n hx hb d_M_descriptor_153 rfl (lv_at hl 1 rfl) ?_
                    obtain ⟨y_84, hy_84, hE⟩ := ob_some hE
                    have hc_85 : C_82 30 0 = some (.inr (4, [.ref (ad 31 0), .ref (ad 31 1), .ref (ad 31 2), .ref (ad 31 3), .ref (ad 31 4), .ref (ad 31 5), .ref (ad 31 6), .ref (ad 31 7), .ref (ad 31 8), .ref (ad 31 9), .ref (ad 31 10), .ref (ad 31 11), .ref (ad 31 12), .ref (ad 31 13), .ref (ad 31 14), .int y_80.objects, .ref (ad 31 15), .int y_80.length, .ref (ad 31 16), .int y_80.waits, .ref (ad 31 17), .int y_80.given, .ref (ad 31 18), .ref (ad 31 19), .ref (ad 31 20), .int y_80.left, .ref (ad 31 21), .ref (ad 31 22), .int y_80.oldLength, .int y_80.oldWaits, .int y_80.oldGiven])) := by have h9 := rm_at.o hR; exact h9
                    refine pw_calli (va_runV (As := [.int x2_1]) (rest := []) ⟨hx, hb, hml, hown, hts0⟩ (k_M_arrange hR hy_84 _) (cwV 1 hts0 (wd_V wd_1006 wd_1003 wd_1005 wd_44 wd_56) rfl rfl rfl (by decide +kernel) ⟨Nat.le_of_ble_eq_true rfl, Nat.le_of_ble_eq_true rfl⟩) (pw_preV hZ hw hA hK hz rfl hc_85 rfl) rfl rfl hl.1 rfl (lv_room (Nat.le_of_ble_eq_true rfl)) d_M_descriptor_154 ⟨Nat.le_of_ble_eq_true rfl, Nat.le_of_ble_eq_true rfl⟩) hw hA (fun r_88 ad_86 C_87 H locs hp hw => ?_)
                    obtain ⟨⟨hae, hR, hf1⟩, hre⟩ := hp
                    rw [hre]
                    rw [hae] at hw
                    clear hae
                    have hfr : rm_fr C C_87 := fun x y h9 => (hf1 x y h9).trans (hfr x y h9)
                    clear hf1
                    refine lv_istore (lv' := [(4, .int y_84.1), (3, .int x3_1), (2, .int x2_1), (0, .ref (ad 30 0)), (1, .int x1_1)]) hx hb d_M_descriptor_157 hl (by decide) rfl (fun ls hl => ?_)
                    refine lv_aload_n hx hb d_M_descriptor_159 rfl (lv_at hl 3 rfl) ?_
                    refine lv_iload hx hb d_M_descriptor_160 (lv_at hl 0 rfl) ?_
                    refine lv_i2l hx hb d_M_descriptor_162 rfl ?_
                    refine lv_iconst (v := 2) hx hb d_M_descriptor_163 (by decide) ?_
                    obtain ⟨y_89, hy_89, hE⟩ := ob_some hE
                    have hc_90 : C_87 30 0 = some (.inr (4, [.ref (ad 31 0), .ref (ad 31 1), .ref (ad 31 2), .ref (ad 31 3), .ref (ad 31 4), .ref (ad 31 5), .ref (ad 31 6), .ref (ad 31 7), .ref (ad 31 8), .ref (ad 31 9), .ref (ad 31 10), .ref (ad 31 11), .ref (ad 31 12), .ref (ad 31 13), .ref (ad 31 14), .int y_84.2.objects, .ref (ad 31 15), .int y_84.2.length, .ref (ad 31 16), .int y_84.2.waits, .ref (ad 31 17), .int y_84.2.given, .ref (ad 31 18), .ref (ad 31 19), .ref (ad 31 20), .int y_84.2.left, .ref (ad 31 21), .ref (ad 31 22), .int y_84.2.oldLength, .int y_84.2.oldWaits, .int y_84.2.oldGiven])) := by have h9 := rm_at.o hR; exact h9
                    refine pw_callv (va_runV (As := [.long y_84.1.toInt64, .int 2]) (rest := []) ⟨hx, hb, hml, hown, hts0⟩ (k_M_append hR hy_89 _) (cwV 2 hts0 (wd_V wd_748 wd_745 wd_747 wd_20 wd_56) rfl rfl rfl (by decide +kernel) ⟨Nat.le_of_ble_eq_true rfl, Nat.le_of_ble_eq_true rfl⟩) (pw_preV hZ hw hA hK hz rfl hc_90 rfl) rfl rfl hl.1 rfl (lv_room (Nat.le_of_ble_eq_true rfl)) d_M_descriptor_164 ⟨Nat.le_of_ble_eq_true rfl, Nat.le_of_ble_eq_true rfl⟩) hw hA (fun ad_91 C_92 H locs hp hw => ?_)
                    obtain ⟨hae, hR, hf1⟩ := hp
                    rw [hae] at hw
                    clear hae
                    have hfr : rm_fr C C_92 := fun x y h9 => (hf1 x y h9).trans (hfr x y h9)
                    clear hf1
                    refine lv_iconst (v := 0) hx hb d_M_descriptor_167 (by decide) ?_
                    refine lv_istore (lv' := [(5, .int 0), (4, .int y_84.1), (3, .int x3_1), (2, .int x2_1), (0, .ref (ad 30 0)), (1, .int x1_1)]) hx hb d_M_descriptor_168 hl (by decide) rfl (fun ls hl => ?_)
                    have lp_94 : ∀ (K : Int32 → Int32 → Int32 → Int32 → Int32 → RS → Option RS), (∀ (x5_94 : Int32) (x4_94 : Int32) (x3_94 : Int32) (x2_94 : Int32) (x1_94 : Int32) (r : RS) (C1 : pw_C) (H : Heap) (locs : List Loc) (ls : Array Slot), K x5_94 x4_94 x3_94 x2_94 x1_94 r = some res → rm_at ca ad C1 r → rm_fr C C1 → pw_H D cls9 A s.heap ad C ad C1 H locs → lv_has ls 6 [(5, .int x5_94), (4, .int x4_94), (3, .int x3_94), (2, .int x2_94), (0, .ref (ad 30 0)), (1, .int x1_94)] → W p l e ({ frames := 3, cells := 0, slots := 0, locals := 68 }) s m args below meth c H locs 0 0 (MQ below (pw_Q D cls9 ad C (pw_pv (fun ad' C' => ad' = ad ∧ rm_at ca ad C' res ∧ rm_fr C C')) A) args s 0 0 A) (F0 m 194 ls [])) → ∀ (n : Nat) (x5_94 : Int32) (x4_94 : Int32) (x3_94 : Int32) (x2_94 : Int32) (x1_94 : Int32) (r : RS) (C1 : pw_C) (H : Heap) (locs : List Loc) (ls : Array Slot), m_descriptor_170' K n x5_94 x4_94 x3_94 x2_94 x1_94 r = some res → rm_at ca ad C1 r → rm_fr C C1 → pw_H D cls9 A s.heap ad C ad C1 H locs → lv_has ls 6 [(5, .int x5_94), (4, .int x4_94), (3, .int x3_94), (2, .int x2_94), (0, .ref (ad 30 0)), (1, .int x1_94)] → W p l e ({ frames := 3, cells := 0, slots := 0, locals := 68 }) s m args below meth c H locs 0 0 (MQ below (pw_Q D cls9 ad C (pw_pv (fun ad' C' => ad' = ad ∧ rm_at ca ad C' res ∧ rm_fr C C')) A) args s 0 0 A) (F0 m 170 ls []) := by
                      intro K hKK n
                      induction n with
                      | zero => intro x5_94 x4_94 x3_94 x2_94 x1_94 r C1 H locs ls hE; rw [m_descriptor_170'] at hE; exact absurd hE (by simp)
                      | succ n ih =>
                        intro x5_94 x4_94 x3_94 x2_94 x1_94 r C1 H locs ls hE hR hfr hw hl
                        rw [m_descriptor_170'] at hE
                        refine lv_iload hx hb d_M_descriptor_170 (lv_at hl 0 rfl) ?_
                        refine lv_iload hx hb d_M_descriptor_172 (lv_at hl 1 rfl) ?_
                        refine lv_icmp_ge (tgt := 194) hx hb d_M_descriptor_174 (by decide) (fun c_95 => ?_) (fun c_95 => ?_)
                        · rw [if_pos c_95] at hE
                          exact hKK _ _ _ _ _ _ _ _ _ _ hE hR hfr hw (lv_sub hl [0, 1, 2, 3, 4, 5] rfl)
                        · rw [if_neg c_95] at hE
                          refine lv_aload_n hx hb d_M_descriptor_177 rfl (lv_at hl 4 rfl) ?_
                          refine lv_aload_n hx hb d_M_descriptor_178 rfl (lv_at hl 4 rfl) ?_
                          have hc_96 : C1 30 0 = some (.inr (4, [.ref (ad 31 0), .ref (ad 31 1), .ref (ad 31 2), .ref (ad 31 3), .ref (ad 31 4), .ref (ad 31 5), .ref (ad 31 6), .ref (ad 31 7), .ref (ad 31 8), .ref (ad 31 9), .ref (ad 31 10), .ref (ad 31 11), .ref (ad 31 12), .ref (ad 31 13), .ref (ad 31 14), .int r.objects, .ref (ad 31 15), .int r.length, .ref (ad 31 16), .int r.waits, .ref (ad 31 17), .int r.given, .ref (ad 31 18), .ref (ad 31 19), .ref (ad 31 20), .int r.left, .ref (ad 31 21), .ref (ad 31 22), .int r.oldLength, .int r.oldWaits, .int r.oldGiven])) := by have h9 := rm_at.o hR; exact h9
                          refine pw_get (Cn := "GraphWriterModel") (T := F_M) (N := 31) hx hb hts in_M hown hK hw 30 0 rfl hc_96 rfl 26 (by decide) (hts _ wd_780) (fun _ h9 => h9) rfl d_M_descriptor_179 ?_
                          refine lv_iload hx hb d_M_descriptor_182 (lv_at hl 0 rfl) ?_
                          have hc_97 : C1 31 21 = some (.inl (ca 0, 4, .inl r.order)) := by have h9 := rm_at.a21 hR; exact h9
                          obtain ⟨v_98, hv_98, hE⟩ := ob_some hE
                          obtain ⟨hi_v_98, hj_v_98, he_v_98⟩ := rd_some (by decide) hv_98
                          refine pw_iald hx hb hK hw 31 21 rfl 0 hc_97 rfl (x5_94 : Int32).toNatClampNeg hi_v_98 (by omega) (by omega) d_M_descriptor_184 ?_
                          rw [← he_v_98]
                          obtain ⟨y_99, hy_99, hE⟩ := ob_some hE
                          refine pw_callv (va_runV (As := [.int v_98]) (rest := []) ⟨hx, hb, hml, hown, hts0⟩ (k_M_fieldEntry hR hy_99 _) (cwV 1 hts0 (wd_V wd_1010 wd_1007 wd_1009 wd_45 wd_56) rfl rfl rfl (by decide +kernel) ⟨Nat.le_of_ble_eq_true rfl, Nat.le_of_ble_eq_true rfl⟩) (pw_preV hZ hw hA hK hz rfl hc_96 rfl) rfl rfl hl.1 rfl (lv_room (Nat.le_of_ble_eq_true rfl)) d_M_descriptor_185 ⟨Nat.le_of_ble_eq_true rfl, Nat.le_of_ble_eq_true rfl⟩) hw hA (fun ad_100 C_101 H locs hp hw => ?_)
                          obtain ⟨hae, hR, hf1⟩ := hp
                          rw [hae] at hw
                          clear hae
                          have hfr : rm_fr C C_101 := fun x y h9 => (hf1 x y h9).trans (hfr x y h9)
                          clear hf1
                          refine lv_iinc (v := x5_94 + 1) (lv' := [(5, .int (x5_94 + 1)), (4, .int x4_94), (3, .int x3_94), (2, .int x2_94), (0, .ref (ad 30 0)), (1, .int x1_94)]) hx hb d_M_descriptor_188 hl (k := 0) rfl rfl (by decide) rfl (fun ls hl => ?_)
                          refine lv_goto (tgt := 170) hx hb d_M_descriptor_191 (by decide) ?_
                          exact ih _ _ _ _ _ _ _ _ _ _ hE hR hfr hw (lv_sub hl [0, 1, 2, 3, 4, 5] rfl)
                    refine lp_94 _ (fun z5_94 z4_94 z3_94 z2_94 z1_94 r_103 C_104 H locs ls hE hR hfr hw hl => ?_) 60 _ _ _ _ _ _ _ _ _ _ hE hR hfr hw hl
                    try dsimp only at hE
                    refine lv_aload_n hx hb d_M_descriptor_194 rfl (lv_at hl 4 rfl) ?_
                    refine lv_ldc2 (v := 120) hx hb hown (hts _ wd_977) d_M_descriptor_195 ?_
                    refine lv_iconst (v := 1) hx hb d_M_descriptor_198 (by decide) ?_
                    obtain ⟨y_105, hy_105, hE⟩ := ob_some hE
                    have hc_106 : C_104 30 0 = some (.inr (4, [.ref (ad 31 0), .ref (ad 31 1), .ref (ad 31 2), .ref (ad 31 3), .ref (ad 31 4), .ref (ad 31 5), .ref (ad 31 6), .ref (ad 31 7), .ref (ad 31 8), .ref (ad 31 9), .ref (ad 31 10), .ref (ad 31 11), .ref (ad 31 12), .ref (ad 31 13), .ref (ad 31 14), .int r_103.objects, .ref (ad 31 15), .int r_103.length, .ref (ad 31 16), .int r_103.waits, .ref (ad 31 17), .int r_103.given, .ref (ad 31 18), .ref (ad 31 19), .ref (ad 31 20), .int r_103.left, .ref (ad 31 21), .ref (ad 31 22), .int r_103.oldLength, .int r_103.oldWaits, .int r_103.oldGiven])) := by have h9 := rm_at.o hR; exact h9
                    refine pw_callv (va_runV (As := [.long 120, .int 1]) (rest := []) ⟨hx, hb, hml, hown, hts0⟩ (k_M_append hR hy_105 _) (cwV 2 hts0 (wd_V wd_748 wd_745 wd_747 wd_20 wd_56) rfl rfl rfl (by decide +kernel) ⟨Nat.le_of_ble_eq_true rfl, Nat.le_of_ble_eq_true rfl⟩) (pw_preV hZ hw hA hK hz rfl hc_106 rfl) rfl rfl hl.1 rfl (lv_room (Nat.le_of_ble_eq_true rfl)) d_M_descriptor_199 ⟨Nat.le_of_ble_eq_true rfl, Nat.le_of_ble_eq_true rfl⟩) hw hA (fun ad_107 C_108 H locs hp hw => ?_)
                    obtain ⟨hae, hR, hf1⟩ := hp
                    rw [hae] at hw
                    clear hae
                    have hfr : rm_fr C C_108 := fun x y h9 => (hf1 x y h9).trans (hfr x y h9)
                    clear hf1
                    refine lv_aload_n hx hb d_M_descriptor_202 rfl (lv_at hl 4 rfl) ?_
                    have hc_110 : C_108 30 0 = some (.inr (4, [.ref (ad 31 0), .ref (ad 31 1), .ref (ad 31 2), .ref (ad 31 3), .ref (ad 31 4), .ref (ad 31 5), .ref (ad 31 6), .ref (ad 31 7), .ref (ad 31 8), .ref (ad 31 9), .ref (ad 31 10), .ref (ad 31 11), .ref (ad 31 12), .ref (ad 31 13), .ref (ad 31 14), .int y_105.objects, .ref (ad 31 15), .int y_105.length, .ref (ad 31 16), .int y_105.waits, .ref (ad 31 17), .int y_105.given, .ref (ad 31 18), .ref (ad 31 19), .ref (ad 31 20), .int y_105.left, .ref (ad 31 21), .ref (ad 31 22), .int y_105.oldLength, .int y_105.oldWaits, .int y_105.oldGiven])) := by have h9 := rm_at.o hR; exact h9
                    refine pw_get (Cn := "GraphWriterModel") (T := F_M) (N := 31) hx hb hts in_M hown hK hw 30 0 rfl hc_110 rfl 2 (by decide) (hts _ wd_756) (fun _ h9 => h9) rfl d_M_descriptor_203 ?_
                    refine lv_iload_n hx hb d_M_descriptor_206 rfl (lv_at hl 3 rfl) ?_
                    have hc_111 : C_108 31 2 = some (.inl (ca 0, 6, .inl y_105.above)) := by have h9 := rm_at.a2 hR; exact h9
                    obtain ⟨v_112, hv_112, hE⟩ := ob_some hE
                    obtain ⟨hi_v_112, hj_v_112, he_v_112⟩ := rd_some (by decide) hv_112
                    refine pw_iald hx hb hK hw 31 2 rfl 0 hc_111 rfl (z2_94 : Int32).toNatClampNeg hi_v_112 (by omega) (by omega) d_M_descriptor_207 ?_
                    rw [← he_v_112]
                    refine lv_istore_n (lv' := [(2, .int v_112), (5, .int z5_94), (4, .int z4_94), (3, .int z3_94), (0, .ref (ad 30 0)), (1, .int z1_94)]) hx hb d_M_descriptor_208 rfl hl (by decide) rfl (fun ls hl => ?_)
                    refine lv_iinc (v := z3_94 + 1) (lv' := [(3, .int (z3_94 + 1)), (2, .int v_112), (5, .int z5_94), (4, .int z4_94), (0, .ref (ad 30 0)), (1, .int z1_94)]) hx hb d_M_descriptor_209 hl (k := 3) rfl rfl (by decide) rfl (fun ls hl => ?_)
                    refine lv_goto (tgt := 4) hx hb d_M_descriptor_212 (by decide) ?_
                    exact ih _ _ _ _ _ _ _ _ hE hR hfr hw (lv_sub hl [0, 1, 4, 5] rfl)
                · rw [if_pos c_38] at hE
                  refine lv_aload_n hx hb d_M_descriptor_105 rfl (lv_at hl 2 rfl) ?_
                  refine lv_bipush (v := 40) hx hb d_M_descriptor_106 (by decide) ?_
                  refine lv_iload_n hx hb d_M_descriptor_108 rfl (lv_at hl 1 rfl) ?_
                  refine lv_iadd hx hb d_M_descriptor_109 ?_
                  refine lv_bipush (v := 18) hx hb d_M_descriptor_110 (by decide) ?_
                  obtain ⟨y_113, hy_113, hE⟩ := ob_some hE
                  refine pw_callv (va_runV (As := [.int (40 + x2_1), .int 18]) (rest := []) ⟨hx, hb, hml, hown, hts0⟩ (k_M_plainEnd hR hy_113 _) (cwV 2 hts0 (wd_V wd_976 wd_973 wd_975 wd_38 wd_56) rfl rfl rfl (by decide +kernel) ⟨Nat.le_of_ble_eq_true rfl, Nat.le_of_ble_eq_true rfl⟩) (pw_preV hZ hw hA hK hz rfl hc_35 rfl) rfl rfl hl.1 rfl (lv_room (Nat.le_of_ble_eq_true rfl)) d_M_descriptor_112 ⟨Nat.le_of_ble_eq_true rfl, Nat.le_of_ble_eq_true rfl⟩) hw hA (fun ad_114 C_115 H locs hp hw => ?_)
                  obtain ⟨hae, hR, hf1⟩ := hp
                  rw [hae] at hw
                  clear hae
                  have hfr : rm_fr C C_115 := fun x y h9 => (hf1 x y h9).trans (hfr x y h9)
                  clear hf1
                  refine lv_aload_n hx hb d_M_descriptor_115 rfl (lv_at hl 2 rfl) ?_
                  obtain ⟨y_117, hy_117, hE⟩ := ob_some hE
                  have hc_118 : C_115 30 0 = some (.inr (4, [.ref (ad 31 0), .ref (ad 31 1), .ref (ad 31 2), .ref (ad 31 3), .ref (ad 31 4), .ref (ad 31 5), .ref (ad 31 6), .ref (ad 31 7), .ref (ad 31 8), .ref (ad 31 9), .ref (ad 31 10), .ref (ad 31 11), .ref (ad 31 12), .ref (ad 31 13), .ref (ad 31 14), .int y_113.objects, .ref (ad 31 15), .int y_113.length, .ref (ad 31 16), .int y_113.waits, .ref (ad 31 17), .int y_113.given, .ref (ad 31 18), .ref (ad 31 19), .ref (ad 31 20), .int y_113.left, .ref (ad 31 21), .ref (ad 31 22), .int y_113.oldLength, .int y_113.oldWaits, .int y_113.oldGiven])) := by have h9 := rm_at.o hR; exact h9
                  refine pw_callv (va_runV (As := []) (rest := []) ⟨hx, hb, hml, hown, hts0⟩ (k_M_enumBase hR hy_117 _) (cwV 0 hts0 (wd_V wd_998 wd_995 wd_997 wd_43 wd_56) rfl rfl rfl (by decide +kernel) ⟨Nat.le_of_ble_eq_true rfl, Nat.le_of_ble_eq_true rfl⟩) (pw_preV hZ hw hA hK hz rfl hc_118 rfl) rfl rfl hl.1 rfl (lv_room (Nat.le_of_ble_eq_true rfl)) d_M_descriptor_116 ⟨Nat.le_of_ble_eq_true rfl, Nat.le_of_ble_eq_true rfl⟩) hw hA (fun ad_119 C_120 H locs hp hw => ?_)
                  obtain ⟨hae, hR, hf1⟩ := hp
                  rw [hae] at hw
                  clear hae
                  have hfr : rm_fr C C_120 := fun x y h9 => (hf1 x y h9).trans (hfr x y h9)
                  clear hf1
                  obtain rfl := Option.some.inj hE
                  exact pw_vret hx hb hr hlocks hw ⟨rfl, hR, hfr⟩ d_M_descriptor_119
              · rw [if_pos c_28] at hE
                refine lv_lconst (v := 0) hx hb d_M_descriptor_80 (by decide) ?_
                refine lv_goto (tgt := 90) hx hb d_M_descriptor_81 (by decide) ?_
                refine lv_bipush (v := 8) hx hb d_M_descriptor_90 (by decide) ?_
                obtain ⟨y_122, hy_122, hE⟩ := ob_some hE
                refine pw_callv (va_runV (As := [.long 0, .int 8]) (rest := []) ⟨hx, hb, hml, hown, hts0⟩ (k_M_append hR hy_122 _) (cwV 2 hts0 (wd_V wd_748 wd_745 wd_747 wd_20 wd_56) rfl rfl rfl (by decide +kernel) ⟨Nat.le_of_ble_eq_true rfl, Nat.le_of_ble_eq_true rfl⟩) (pw_preV hZ hw hA hK hz rfl hc_25 rfl) rfl rfl hl.1 rfl (lv_room (Nat.le_of_ble_eq_true rfl)) d_M_descriptor_92 ⟨Nat.le_of_ble_eq_true rfl, Nat.le_of_ble_eq_true rfl⟩) hw hA (fun ad_123 C_124 H locs hp hw => ?_)
                obtain ⟨hae, hR, hf1⟩ := hp
                rw [hae] at hw
                clear hae
                have hfr : rm_fr C C_124 := fun x y h9 => (hf1 x y h9).trans (hfr x y h9)
                clear hf1
                refine lv_aload_n hx hb d_M_descriptor_95 rfl (lv_at hl 2 rfl) ?_
                have hc_126 : C_124 30 0 = some (.inr (4, [.ref (ad 31 0), .ref (ad 31 1), .ref (ad 31 2), .ref (ad 31 3), .ref (ad 31 4), .ref (ad 31 5), .ref (ad 31 6), .ref (ad 31 7), .ref (ad 31 8), .ref (ad 31 9), .ref (ad 31 10), .ref (ad 31 11), .ref (ad 31 12), .ref (ad 31 13), .ref (ad 31 14), .int y_122.objects, .ref (ad 31 15), .int y_122.length, .ref (ad 31 16), .int y_122.waits, .ref (ad 31 17), .int y_122.given, .ref (ad 31 18), .ref (ad 31 19), .ref (ad 31 20), .int y_122.left, .ref (ad 31 21), .ref (ad 31 22), .int y_122.oldLength, .int y_122.oldWaits, .int y_122.oldGiven])) := by have h9 := rm_at.o hR; exact h9
                refine pw_get (Cn := "GraphWriterModel") (T := F_M) (N := 31) hx hb hts in_M hown hK hw 30 0 rfl hc_126 rfl 1 (by decide) (hts _ wd_755) (fun _ h9 => h9) rfl d_M_descriptor_96 ?_
                refine lv_iload_n hx hb d_M_descriptor_99 rfl (lv_at hl 1 rfl) ?_
                have hc_127 : C_124 31 1 = some (.inl (ca 0, 6, .inl y_122.kind)) := by have h9 := rm_at.a1 hR; exact h9
                obtain ⟨v_128, hv_128, hE⟩ := ob_some hE
                obtain ⟨hi_v_128, hj_v_128, he_v_128⟩ := rd_some (by decide) hv_128
                refine pw_iald hx hb hK hw 31 1 rfl 0 hc_127 rfl (x2_1 : Int32).toNatClampNeg hi_v_128 (by omega) (by omega) d_M_descriptor_100 ?_
                rw [← he_v_128]
                refine lv_iconst (v := 3) hx hb d_M_descriptor_101 (by decide) ?_
                refine lv_icmp_ne (tgt := 120) hx hb d_M_descriptor_102 (by decide) (fun c_129 => ?_) (fun c_129 => ?_)
                · rw [if_neg c_129] at hE
                  refine lv_aload_n hx hb d_M_descriptor_120 rfl (lv_at hl 2 rfl) ?_
                  refine lv_bipush (v := 40) hx hb d_M_descriptor_121 (by decide) ?_
                  refine lv_iload_n hx hb d_M_descriptor_123 rfl (lv_at hl 1 rfl) ?_
                  refine lv_iadd hx hb d_M_descriptor_124 ?_
                  obtain ⟨y_130, hy_130, hE⟩ := ob_some hE
                  refine pw_callv (va_runV (As := [.int (40 + x2_1)]) (rest := []) ⟨hx, hb, hml, hown, hts0⟩ (k_M_give hR hy_130 _) (cwV 1 hts0 (wd_V wd_954 wd_951 wd_953 wd_35 wd_56) rfl rfl rfl (by decide +kernel) ⟨Nat.le_of_ble_eq_true rfl, Nat.le_of_ble_eq_true rfl⟩) (pw_preV hZ hw hA hK hz rfl hc_126 rfl) rfl rfl hl.1 rfl (lv_room (Nat.le_of_ble_eq_true rfl)) d_M_descriptor_125 ⟨Nat.le_of_ble_eq_true rfl, Nat.le_of_ble_eq_true rfl⟩) hw hA (fun ad_131 C_132 H locs hp hw => ?_)
                  obtain ⟨hae, hR, hf1⟩ := hp
                  rw [hae] at hw
                  clear hae
                  have hfr : rm_fr C C_132 := fun x y h9 => (hf1 x y h9).trans (hfr x y h9)
                  clear hf1
                  refine lv_aload_n hx hb d_M_descriptor_128 rfl (lv_at hl 2 rfl) ?_
                  refine lv_aload_n hx hb d_M_descriptor_129 rfl (lv_at hl 2 rfl) ?_
                  have hc_134 : C_132 30 0 = some (.inr (4, [.ref (ad 31 0), .ref (ad 31 1), .ref (ad 31 2), .ref (ad 31 3), .ref (ad 31 4), .ref (ad 31 5), .ref (ad 31 6), .ref (ad 31 7), .ref (ad 31 8), .ref (ad 31 9), .ref (ad 31 10), .ref (ad 31 11), .ref (ad 31 12), .ref (ad 31 13), .ref (ad 31 14), .int y_130.objects, .ref (ad 31 15), .int y_130.length, .ref (ad 31 16), .int y_130.waits, .ref (ad 31 17), .int y_130.given, .ref (ad 31 18), .ref (ad 31 19), .ref (ad 31 20), .int y_130.left, .ref (ad 31 21), .ref (ad 31 22), .int y_130.oldLength, .int y_130.oldWaits, .int y_130.oldGiven])) := by have h9 := rm_at.o hR; exact h9
                  refine pw_get (Cn := "GraphWriterModel") (T := F_M) (N := 31) hx hb hts in_M hown hK hw 30 0 rfl hc_134 rfl 1 (by decide) (hts _ wd_755) (fun _ h9 => h9) rfl d_M_descriptor_130 ?_
                  refine lv_iload_n hx hb d_M_descriptor_133 rfl (lv_at hl 1 rfl) ?_
                  have hc_135 : C_132 31 1 = some (.inl (ca 0, 6, .inl y_130.kind)) := by have h9 := rm_at.a1 hR; exact h9
                  obtain ⟨v_136, hv_136, hE⟩ := ob_some hE
                  obtain ⟨hi_v_136, hj_v_136, he_v_136⟩ := rd_some (by decide) hv_136
                  refine pw_iald hx hb hK hw 31 1 rfl 0 hc_135 rfl (x2_1 : Int32).toNatClampNeg hi_v_136 (by omega) (by omega) d_M_descriptor_134 ?_
                  rw [← he_v_136]
                  refine lv_iconst (v := 2) hx hb d_M_descriptor_135 (by decide) ?_
                  refine lv_icmp_ne (tgt := 145) hx hb d_M_descriptor_136 (by decide) (fun c_137 => ?_) (fun c_137 => ?_)
                  · rw [if_neg c_137] at hE
                    refine lv_ldc2 (v := 2) hx hb hown (hts _ wd_969) d_M_descriptor_145 ?_
                    refine lv_iconst (v := 1) hx hb d_M_descriptor_148 (by decide) ?_
                    obtain ⟨y_138, hy_138, hE⟩ := ob_some hE
                    refine pw_callv (va_runV (As := [.long 2, .int 1]) (rest := []) ⟨hx, hb, hml, hown, hts0⟩ (k_M_append hR hy_138 _) (cwV 2 hts0 (wd_V wd_748 wd_745 wd_747 wd_20 wd_56) rfl rfl rfl (by decide +kernel) ⟨Nat.le_of_ble_eq_true rfl, Nat.le_of_ble_eq_true rfl⟩) (pw_preV hZ hw hA hK hz rfl hc_134 rfl) rfl rfl hl.1 rfl (lv_room (Nat.le_of_ble_eq_true rfl)) d_M_descriptor_149 ⟨Nat.le_of_ble_eq_true rfl, Nat.le_of_ble_eq_true rfl⟩) hw hA (fun ad_139 C_140 H locs hp hw => ?_)
                    obtain ⟨hae, hR, hf1⟩ := hp
                    rw [hae] at hw
                    clear hae
                    have hfr : rm_fr C C_140 := fun x y h9 => (hf1 x y h9).trans (hfr x y h9)
                    clear hf1
                    refine lv_aload_n hx hb d_M_descriptor_152 rfl (lv_at hl 2 rfl) ?_
                    refine lv_iload_n hx hb d_M_descriptor_153 rfl (lv_at hl 1 rfl) ?_
                    obtain ⟨y_142, hy_142, hE⟩ := ob_some hE
                    have hc_143 : C_140 30 0 = some (.inr (4, [.ref (ad 31 0), .ref (ad 31 1), .ref (ad 31 2), .ref (ad 31 3), .ref (ad 31 4), .ref (ad 31 5), .ref (ad 31 6), .ref (ad 31 7), .ref (ad 31 8), .ref (ad 31 9), .ref (ad 31 10), .ref (ad 31 11), .ref (ad 31 12), .ref (ad 31 13), .ref (ad 31 14), .int y_138.objects, .ref (ad 31 15), .int y_138.length, .ref (ad 31 16), .int y_138.waits, .ref (ad 31 17), .int y_138.given, .ref (ad 31 18), .ref (ad 31 19), .ref (ad 31 20), .int y_138.left, .ref (ad 31 21), .ref (ad 31 22), .int y_138.oldLength, .int y_138.oldWaits, .int y_138.oldGiven])) := by have h9 := rm_at.o hR; exact h9
                    refine pw_calli (va_runV (As := [.int x2_1]) (rest := []) ⟨hx, hb, hml, hown, hts0⟩ (k_M_arrange hR hy_142 _) (cwV 1 hts0 (wd_V wd_1006 wd_1003 wd_1005 wd_44 wd_56) rfl rfl rfl (by decide +kernel) ⟨Nat.le_of_ble_eq_true rfl, Nat.le_of_ble_eq_true rfl⟩) (pw_preV hZ hw hA hK hz rfl hc_143 rfl) rfl rfl hl.1 rfl (lv_room (Nat.le_of_ble_eq_true rfl)) d_M_descriptor_154 ⟨Nat.le_of_ble_eq_true rfl, Nat.le_of_ble_eq_true rfl⟩) hw hA (fun r_146 ad_144 C_145 H locs hp hw => ?_)
                    obtain ⟨⟨hae, hR, hf1⟩, hre⟩ := hp
                    rw [hre]
                    rw [hae] at hw
                    clear hae
                    have hfr : rm_fr C C_145 := fun x y h9 => (hf1 x y h9).trans (hfr x y h9)
                    clear hf1
                    refine lv_istore (lv' := [(4, .int y_142.1), (3, .int x3_1), (2, .int x2_1), (0, .ref (ad 30 0)), (1, .int x1_1)]) hx hb d_M_descriptor_157 hl (by decide) rfl (fun ls hl => ?_)
                    refine lv_aload_n hx hb d_M_descriptor_159 rfl (lv_at hl 3 rfl) ?_
                    refine lv_iload hx hb d_M_descriptor_160 (lv_at hl 0 rfl) ?_
                    refine lv_i2l hx hb d_M_descriptor_162 rfl ?_
                    refine lv_iconst (v := 2) hx hb d_M_descriptor_163 (by decide) ?_
                    obtain ⟨y_147, hy_147, hE⟩ := ob_some hE
                    have hc_148 : C_145 30 0 = some (.inr (4, [.ref (ad 31 0), .ref (ad 31 1), .ref (ad 31 2), .ref (ad 31 3), .ref (ad 31 4), .ref (ad 31 5), .ref (ad 31 6), .ref (ad 31 7), .ref (ad 31 8), .ref (ad 31 9), .ref (ad 31 10), .ref (ad 31 11), .ref (ad 31 12), .ref (ad 31 13), .ref (ad 31 14), .int y_142.2.objects, .ref (ad 31 15), .int y_142.2.length, .ref (ad 31 16), .int y_142.2.waits, .ref (ad 31 17), .int y_142.2.given, .ref (ad 31 18), .ref (ad 31 19), .ref (ad 31 20), .int y_142.2.left, .ref (ad 31 21), .ref (ad 31 22), .int y_142.2.oldLength, .int y_142.2.oldWaits, .int y_142.2.oldGiven])) := by have h9 := rm_at.o hR; exact h9
                    refine pw_callv (va_runV (As := [.long y_142.1.toInt64, .int 2]) (rest := []) ⟨hx, hb, hml, hown, hts0⟩ (k_M_append hR hy_147 _) (cwV 2 hts0 (wd_V wd_748 wd_745 wd_747 wd_20 wd_56) rfl rfl rfl (by decide +kernel) ⟨Nat.le_of_ble_eq_true rfl, Nat.le_of_ble_eq_true rfl⟩) (pw_preV hZ hw hA hK hz rfl hc_148 rfl) rfl rfl hl.1 rfl (lv_room (Nat.le_of_ble_eq_true rfl)) d_M_descriptor_164 ⟨Nat.le_of_ble_eq_true rfl, Nat.le_of_ble_eq_true rfl⟩) hw hA (fun ad_149 C_150 H locs hp hw => ?_)
                    obtain ⟨hae, hR, hf1⟩ := hp
                    rw [hae] at hw
                    clear hae
                    have hfr : rm_fr C C_150 := fun x y h9 => (hf1 x y h9).trans (hfr x y h9)
                    clear hf1
                    refine lv_iconst (v := 0) hx hb d_M_descriptor_167 (by decide) ?_
                    refine lv_istore (lv' := [(5, .int 0), (4, .int y_142.1), (3, .int x3_1), (2, .int x2_1), (0, .ref (ad 30 0)), (1, .int x1_1)]) hx hb d_M_descriptor_168 hl (by decide) rfl (fun ls hl => ?_)
                    have lp_152 : ∀ (K : Int32 → Int32 → Int32 → Int32 → Int32 → RS → Option RS), (∀ (x5_152 : Int32) (x4_152 : Int32) (x3_152 : Int32) (x2_152 : Int32) (x1_152 : Int32) (r : RS) (C1 : pw_C) (H : Heap) (locs : List Loc) (ls : Array Slot), K x5_152 x4_152 x3_152 x2_152 x1_152 r = some res → rm_at ca ad C1 r → rm_fr C C1 → pw_H D cls9 A s.heap ad C ad C1 H locs → lv_has ls 6 [(5, .int x5_152), (4, .int x4_152), (3, .int x3_152), (2, .int x2_152), (0, .ref (ad 30 0)), (1, .int x1_152)] → W p l e ({ frames := 3, cells := 0, slots := 0, locals := 68 }) s m args below meth c H locs 0 0 (MQ below (pw_Q D cls9 ad C (pw_pv (fun ad' C' => ad' = ad ∧ rm_at ca ad C' res ∧ rm_fr C C')) A) args s 0 0 A) (F0 m 194 ls [])) → ∀ (n : Nat) (x5_152 : Int32) (x4_152 : Int32) (x3_152 : Int32) (x2_152 : Int32) (x1_152 : Int32) (r : RS) (C1 : pw_C) (H : Heap) (locs : List Loc) (ls : Array Slot), m_descriptor_170'' K n x5_152 x4_152 x3_152 x2_152 x1_152 r = some res → rm_at ca ad C1 r → rm_fr C C1 → pw_H D cls9 A s.heap ad C ad C1 H locs → lv_has ls 6 [(5, .int x5_152), (4, .int x4_152), (3, .int x3_152), (2, .int x2_152), (0, .ref (ad 30 0)), (1, .int x1_152)] → W p l e ({ frames := 3, cells := 0, slots := 0, locals := 68 }) s m args below meth c H locs 0 0 (MQ below (pw_Q D cls9 ad C (pw_pv (fun ad' C' => ad' = ad ∧ rm_at ca ad C' res ∧ rm_fr C C')) A) args s 0 0 A) (F0 m 170 ls []) := by
                      intro K hKK n
                      induction n with
                      | zero => intro x5_152 x4_152 x3_152 x2_152 x1_152 r C1 H locs ls hE; rw [m_descriptor_170''] at hE; exact absurd hE (by simp)
                      | succ n ih =>
                        intro x5_152 x4_152 x3_152 x2_152 x1_152 r C1 H locs ls hE hR hfr hw hl
                        rw [m_descriptor_170''] at hE
                        refine lv_iload hx hb d_M_descriptor_170 (lv_at hl 0 rfl) ?_
                        refine lv_iload hx hb d_M_descriptor_172 (lv_at hl 1 rfl) ?_
                        refine lv_icmp_ge (tgt := 194) hx hb d_M_descriptor_174 (by decide) (fun c_153 => ?_) (fun c_153 => ?_)
                        · rw [if_pos c_153] at hE
                          exact hKK _ _ _ _ _ _ _ _ _ _ hE hR hfr hw (lv_sub hl [0, 1, 2, 3, 4, 5] rfl)
                        · rw [if_neg c_153] at hE
                          refine lv_aload_n hx hb d_M_descriptor_177 rfl (lv_at hl 4 rfl) ?_
                          refine lv_aload_n hx hb d_M_descriptor_178 rfl (lv_at hl 4 rfl) ?_
                          have hc_154 : C1 30 0 = some (.inr (4, [.ref (ad 31 0), .ref (ad 31 1), .ref (ad 31 2), .ref (ad 31 3), .ref (ad 31 4), .ref (ad 31 5), .ref (ad 31 6), .ref (ad 31 7), .ref (ad 31 8), .ref (ad 31 9), .ref (ad 31 10), .ref (ad 31 11), .ref (ad 31 12), .ref (ad 31 13), .ref (ad 31 14), .int r.objects, .ref (ad 31 15), .int r.length, .ref (ad 31 16), .int r.waits, .ref (ad 31 17), .int r.given, .ref (ad 31 18), .ref (ad 31 19), .ref (ad 31 20), .int r.left, .ref (ad 31 21), .ref (ad 31 22), .int r.oldLength, .int r.oldWaits, .int r.oldGiven])) := by have h9 := rm_at.o hR; exact h9
                          refine pw_get (Cn := "GraphWriterModel") (T := F_M) (N := 31) hx hb hts in_M hown hK hw 30 0 rfl hc_154 rfl 26 (by decide) (hts _ wd_780) (fun _ h9 => h9) rfl d_M_descriptor_179 ?_
                          refine lv_iload hx hb d_M_descriptor_182 (lv_at hl 0 rfl) ?_
                          have hc_155 : C1 31 21 = some (.inl (ca 0, 4, .inl r.order)) := by have h9 := rm_at.a21 hR; exact h9
                          obtain ⟨v_156, hv_156, hE⟩ := ob_some hE
                          obtain ⟨hi_v_156, hj_v_156, he_v_156⟩ := rd_some (by decide) hv_156
                          refine pw_iald hx hb hK hw 31 21 rfl 0 hc_155 rfl (x5_152 : Int32).toNatClampNeg hi_v_156 (by omega) (by omega) d_M_descriptor_184 ?_
                          rw [← he_v_156]
                          obtain ⟨y_157, hy_157, hE⟩ := ob_some hE
                          refine pw_callv (va_runV (As := [.int v_156]) (rest := []) ⟨hx, hb, hml, hown, hts0⟩ (k_M_fieldEntry hR hy_157 _) (cwV 1 hts0 (wd_V wd_1010 wd_1007 wd_1009 wd_45 wd_56) rfl rfl rfl (by decide +kernel) ⟨Nat.le_of_ble_eq_true rfl, Nat.le_of_ble_eq_true rfl⟩) (pw_preV hZ hw hA hK hz rfl hc_154 rfl) rfl rfl hl.1 rfl (lv_room (Nat.le_of_ble_eq_true rfl)) d_M_descriptor_185 ⟨Nat.le_of_ble_eq_true rfl, Nat.le_of_ble_eq_true rfl⟩) hw hA (fun ad_158 C_159 H locs hp hw => ?_)
                          obtain ⟨hae, hR, hf1⟩ := hp
                          rw [hae] at hw
                          clear hae
                          have hfr : rm_fr C C_159 := fun x y h9 => (hf1 x y h9).trans (hfr x y h9)
                          clear hf1
                          refine lv_iinc (v := x5_152 + 1) (lv' := [(5, .int (x5_152 + 1)), (4, .int x4_152), (3, .int x3_152), (2, .int x2_152), (0, .ref (ad 30 0)), (1, .int x1_152)]) hx hb d_M_descriptor_188 hl (k := 0) rfl rfl (by decide) rfl (fun ls hl => ?_)
                          refine lv_goto (tgt := 170) hx hb d_M_descriptor_191 (by decide) ?_
                          exact ih _ _ _ _ _ _ _ _ _ _ hE hR hfr hw (lv_sub hl [0, 1, 2, 3, 4, 5] rfl)
                    refine lp_152 _ (fun z5_152 z4_152 z3_152 z2_152 z1_152 r_161 C_162 H locs ls hE hR hfr hw hl => ?_) 60 _ _ _ _ _ _ _ _ _ _ hE hR hfr hw hl
                    try dsimp only at hE
                    refine lv_aload_n hx hb d_M_descriptor_194 rfl (lv_at hl 4 rfl) ?_
                    refine lv_ldc2 (v := 120) hx hb hown (hts _ wd_977) d_M_descriptor_195 ?_
                    refine lv_iconst (v := 1) hx hb d_M_descriptor_198 (by decide) ?_
                    obtain ⟨y_163, hy_163, hE⟩ := ob_some hE
                    have hc_164 : C_162 30 0 = some (.inr (4, [.ref (ad 31 0), .ref (ad 31 1), .ref (ad 31 2), .ref (ad 31 3), .ref (ad 31 4), .ref (ad 31 5), .ref (ad 31 6), .ref (ad 31 7), .ref (ad 31 8), .ref (ad 31 9), .ref (ad 31 10), .ref (ad 31 11), .ref (ad 31 12), .ref (ad 31 13), .ref (ad 31 14), .int r_161.objects, .ref (ad 31 15), .int r_161.length, .ref (ad 31 16), .int r_161.waits, .ref (ad 31 17), .int r_161.given, .ref (ad 31 18), .ref (ad 31 19), .ref (ad 31 20), .int r_161.left, .ref (ad 31 21), .ref (ad 31 22), .int r_161.oldLength, .int r_161.oldWaits, .int r_161.oldGiven])) := by have h9 := rm_at.o hR; exact h9
                    refine pw_callv (va_runV (As := [.long 120, .int 1]) (rest := []) ⟨hx, hb, hml, hown, hts0⟩ (k_M_append hR hy_163 _) (cwV 2 hts0 (wd_V wd_748 wd_745 wd_747 wd_20 wd_56) rfl rfl rfl (by decide +kernel) ⟨Nat.le_of_ble_eq_true rfl, Nat.le_of_ble_eq_true rfl⟩) (pw_preV hZ hw hA hK hz rfl hc_164 rfl) rfl rfl hl.1 rfl (lv_room (Nat.le_of_ble_eq_true rfl)) d_M_descriptor_199 ⟨Nat.le_of_ble_eq_true rfl, Nat.le_of_ble_eq_true rfl⟩) hw hA (fun ad_165 C_166 H locs hp hw => ?_)
                    obtain ⟨hae, hR, hf1⟩ := hp
                    rw [hae] at hw
                    clear hae
                    have hfr : rm_fr C C_166 := fun x y h9 => (hf1 x y h9).trans (hfr x y h9)
                    clear hf1
                    refine lv_aload_n hx hb d_M_descriptor_202 rfl (lv_at hl 4 rfl) ?_
                    have hc_168 : C_166 30 0 = some (.inr (4, [.ref (ad 31 0), .ref (ad 31 1), .ref (ad 31 2), .ref (ad 31 3), .ref (ad 31 4), .ref (ad 31 5), .ref (ad 31 6), .ref (ad 31 7), .ref (ad 31 8), .ref (ad 31 9), .ref (ad 31 10), .ref (ad 31 11), .ref (ad 31 12), .ref (ad 31 13), .ref (ad 31 14), .int y_163.objects, .ref (ad 31 15), .int y_163.length, .ref (ad 31 16), .int y_163.waits, .ref (ad 31 17), .int y_163.given, .ref (ad 31 18), .ref (ad 31 19), .ref (ad 31 20), .int y_163.left, .ref (ad 31 21), .ref (ad 31 22), .int y_163.oldLength, .int y_163.oldWaits, .int y_163.oldGiven])) := by have h9 := rm_at.o hR; exact h9
                    refine pw_get (Cn := "GraphWriterModel") (T := F_M) (N := 31) hx hb hts in_M hown hK hw 30 0 rfl hc_168 rfl 2 (by decide) (hts _ wd_756) (fun _ h9 => h9) rfl d_M_descriptor_203 ?_
                    refine lv_iload_n hx hb d_M_descriptor_206 rfl (lv_at hl 3 rfl) ?_
                    have hc_169 : C_166 31 2 = some (.inl (ca 0, 6, .inl y_163.above)) := by have h9 := rm_at.a2 hR; exact h9
                    obtain ⟨v_170, hv_170, hE⟩ := ob_some hE
                    obtain ⟨hi_v_170, hj_v_170, he_v_170⟩ := rd_some (by decide) hv_170
                    refine pw_iald hx hb hK hw 31 2 rfl 0 hc_169 rfl (z2_152 : Int32).toNatClampNeg hi_v_170 (by omega) (by omega) d_M_descriptor_207 ?_
                    rw [← he_v_170]
                    refine lv_istore_n (lv' := [(2, .int v_170), (5, .int z5_152), (4, .int z4_152), (3, .int z3_152), (0, .ref (ad 30 0)), (1, .int z1_152)]) hx hb d_M_descriptor_208 rfl hl (by decide) rfl (fun ls hl => ?_)
                    refine lv_iinc (v := z3_152 + 1) (lv' := [(3, .int (z3_152 + 1)), (2, .int v_170), (5, .int z5_152), (4, .int z4_152), (0, .ref (ad 30 0)), (1, .int z1_152)]) hx hb d_M_descriptor_209 hl (k := 3) rfl rfl (by decide) rfl (fun ls hl => ?_)
                    refine lv_goto (tgt := 4) hx hb d_M_descriptor_212 (by decide) ?_
                    exact ih _ _ _ _ _ _ _ _ hE hR hfr hw (lv_sub hl [0, 1, 4, 5] rfl)
                  · rw [if_pos c_137] at hE
                    refine lv_ldc2 (v := 3) hx hb hown (hts _ wd_1002) d_M_descriptor_139 ?_
                    refine lv_goto (tgt := 148) hx hb d_M_descriptor_142 (by decide) ?_
                    refine lv_iconst (v := 1) hx hb d_M_descriptor_148 (by decide) ?_
                    obtain ⟨y_171, hy_171, hE⟩ := ob_some hE
                    refine pw_callv (va_runV (As := [.long 3, .int 1]) (rest := []) ⟨hx, hb, hml, hown, hts0⟩ (k_M_append hR hy_171 _) (cwV 2 hts0 (wd_V wd_748 wd_745 wd_747 wd_20 wd_56) rfl rfl rfl (by decide +kernel) ⟨Nat.le_of_ble_eq_true rfl, Nat.le_of_ble_eq_true rfl⟩) (pw_preV hZ hw hA hK hz rfl hc_134 rfl) rfl rfl hl.1 rfl (lv_room (Nat.le_of_ble_eq_true rfl)) d_M_descriptor_149 ⟨Nat.le_of_ble_eq_true rfl, Nat.le_of_ble_eq_true rfl⟩) hw hA (fun ad_172 C_173 H locs hp hw => ?_)
                    obtain ⟨hae, hR, hf1⟩ := hp
                    rw [hae] at hw
                    clear hae
                    have hfr : rm_fr C C_173 := fun x y h9 => (hf1 x y h9).trans (hfr x y h9)
                    clear hf1
                    refine lv_aload_n hx hb d_M_descriptor_152 rfl (lv_at hl 2 rfl) ?_
                    refine lv_iload_n hx hb d_M_descriptor_153 rfl (lv_at hl 1 rfl) ?_
                    obtain ⟨y_175, hy_175, hE⟩ := ob_some hE
                    have hc_176 : C_173 30 0 = some (.inr (4, [.ref (ad 31 0), .ref (ad 31 1), .ref (ad 31 2), .ref (ad 31 3), .ref (ad 31 4), .ref (ad 31 5), .ref (ad 31 6), .ref (ad 31 7), .ref (ad 31 8), .ref (ad 31 9), .ref (ad 31 10), .ref (ad 31 11), .ref (ad 31 12), .ref (ad 31 13), .ref (ad 31 14), .int y_171.objects, .ref (ad 31 15), .int y_171.length, .ref (ad 31 16), .int y_171.waits, .ref (ad 31 17), .int y_171.given, .ref (ad 31 18), .ref (ad 31 19), .ref (ad 31 20), .int y_171.left, .ref (ad 31 21), .ref (ad 31 22), .int y_171.oldLength, .int y_171.oldWaits, .int y_171.oldGiven])) := by have h9 := rm_at.o hR; exact h9
                    refine pw_calli (va_runV (As := [.int x2_1]) (rest := []) ⟨hx, hb, hml, hown, hts0⟩ (k_M_arrange hR hy_175 _) (cwV 1 hts0 (wd_V wd_1006 wd_1003 wd_1005 wd_44 wd_56) rfl rfl rfl (by decide +kernel) ⟨Nat.le_of_ble_eq_true rfl, Nat.le_of_ble_eq_true rfl⟩) (pw_preV hZ hw hA hK hz rfl hc_176 rfl) rfl rfl hl.1 rfl (lv_room (Nat.le_of_ble_eq_true rfl)) d_M_descriptor_154 ⟨Nat.le_of_ble_eq_true rfl, Nat.le_of_ble_eq_true rfl⟩) hw hA (fun r_179 ad_177 C_178 H locs hp hw => ?_)
                    obtain ⟨⟨hae, hR, hf1⟩, hre⟩ := hp
                    rw [hre]
                    rw [hae] at hw
                    clear hae
                    have hfr : rm_fr C C_178 := fun x y h9 => (hf1 x y h9).trans (hfr x y h9)
                    clear hf1
                    refine lv_istore (lv' := [(4, .int y_175.1), (3, .int x3_1), (2, .int x2_1), (0, .ref (ad 30 0)), (1, .int x1_1)]) hx hb d_M_descriptor_157 hl (by decide) rfl (fun ls hl => ?_)
                    refine lv_aload_n hx hb d_M_descriptor_159 rfl (lv_at hl 3 rfl) ?_
                    refine lv_iload hx hb d_M_descriptor_160 (lv_at hl 0 rfl) ?_
                    refine lv_i2l hx hb d_M_descriptor_162 rfl ?_
                    refine lv_iconst (v := 2) hx hb d_M_descriptor_163 (by decide) ?_
                    obtain ⟨y_180, hy_180, hE⟩ := ob_some hE
                    have hc_181 : C_178 30 0 = some (.inr (4, [.ref (ad 31 0), .ref (ad 31 1), .ref (ad 31 2), .ref (ad 31 3), .ref (ad 31 4), .ref (ad 31 5), .ref (ad 31 6), .ref (ad 31 7), .ref (ad 31 8), .ref (ad 31 9), .ref (ad 31 10), .ref (ad 31 11), .ref (ad 31 12), .ref (ad 31 13), .ref (ad 31 14), .int y_175.2.objects, .ref (ad 31 15), .int y_175.2.length, .ref (ad 31 16), .int y_175.2.waits, .ref (ad 31 17), .int y_175.2.given, .ref (ad 31 18), .ref (ad 31 19), .ref (ad 31 20), .int y_175.2.left, .ref (ad 31 21), .ref (ad 31 22), .int y_175.2.oldLength, .int y_175.2.oldWaits, .int y_175.2.oldGiven])) := by have h9 := rm_at.o hR; exact h9
                    refine pw_callv (va_runV (As := [.long y_175.1.toInt64, .int 2]) (rest := []) ⟨hx, hb, hml, hown, hts0⟩ (k_M_append hR hy_180 _) (cwV 2 hts0 (wd_V wd_748 wd_745 wd_747 wd_20 wd_56) rfl rfl rfl (by decide +kernel) ⟨Nat.le_of_ble_eq_true rfl, Nat.le_of_ble_eq_true rfl⟩) (pw_preV hZ hw hA hK hz rfl hc_181 rfl) rfl rfl hl.1 rfl (lv_room (Nat.le_of_ble_eq_true rfl)) d_M_descriptor_164 ⟨Nat.le_of_ble_eq_true rfl, Nat.le_of_ble_eq_true rfl⟩) hw hA (fun ad_182 C_183 H locs hp hw => ?_)
                    obtain ⟨hae, hR, hf1⟩ := hp
                    rw [hae] at hw
                    clear hae
                    have hfr : rm_fr C C_183 := fun x y h9 => (hf1 x y h9).trans (hfr x y h9)
                    clear hf1
                    refine lv_iconst (v := 0) hx hb d_M_descriptor_167 (by decide) ?_
                    refine lv_istore (lv' := [(5, .int 0), (4, .int y_175.1), (3, .int x3_1), (2, .int x2_1), (0, .ref (ad 30 0)), (1, .int x1_1)]) hx hb d_M_descriptor_168 hl (by decide) rfl (fun ls hl => ?_)
                    have lp_185 : ∀ (K : Int32 → Int32 → Int32 → Int32 → Int32 → RS → Option RS), (∀ (x5_185 : Int32) (x4_185 : Int32) (x3_185 : Int32) (x2_185 : Int32) (x1_185 : Int32) (r : RS) (C1 : pw_C) (H : Heap) (locs : List Loc) (ls : Array Slot), K x5_185 x4_185 x3_185 x2_185 x1_185 r = some res → rm_at ca ad C1 r → rm_fr C C1 → pw_H D cls9 A s.heap ad C ad C1 H locs → lv_has ls 6 [(5, .int x5_185), (4, .int x4_185), (3, .int x3_185), (2, .int x2_185), (0, .ref (ad 30 0)), (1, .int x1_185)] → W p l e ({ frames := 3, cells := 0, slots := 0, locals := 68 }) s m args below meth c H locs 0 0 (MQ below (pw_Q D cls9 ad C (pw_pv (fun ad' C' => ad' = ad ∧ rm_at ca ad C' res ∧ rm_fr C C')) A) args s 0 0 A) (F0 m 194 ls [])) → ∀ (n : Nat) (x5_185 : Int32) (x4_185 : Int32) (x3_185 : Int32) (x2_185 : Int32) (x1_185 : Int32) (r : RS) (C1 : pw_C) (H : Heap) (locs : List Loc) (ls : Array Slot), m_descriptor_170''' K n x5_185 x4_185 x3_185 x2_185 x1_185 r = some res → rm_at ca ad C1 r → rm_fr C C1 → pw_H D cls9 A s.heap ad C ad C1 H locs → lv_has ls 6 [(5, .int x5_185), (4, .int x4_185), (3, .int x3_185), (2, .int x2_185), (0, .ref (ad 30 0)), (1, .int x1_185)] → W p l e ({ frames := 3, cells := 0, slots := 0, locals := 68 }) s m args below meth c H locs 0 0 (MQ below (pw_Q D cls9 ad C (pw_pv (fun ad' C' => ad' = ad ∧ rm_at ca ad C' res ∧ rm_fr C C')) A) args s 0 0 A) (F0 m 170 ls []) := by
                      intro K hKK n
                      induction n with
                      | zero => intro x5_185 x4_185 x3_185 x2_185 x1_185 r C1 H locs ls hE; rw [m_descriptor_170'''] at hE; exact absurd hE (by simp)
                      | succ n ih =>
                        intro x5_185 x4_185 x3_185 x2_185 x1_185 r C1 H locs ls hE hR hfr hw hl
                        rw [m_descriptor_170'''] at hE
                        refine lv_iload hx hb d_M_descriptor_170 (lv_at hl 0 rfl) ?_
                        refine lv_iload hx hb d_M_descriptor_172 (lv_at hl 1 rfl) ?_
                        refine lv_icmp_ge (tgt := 194) hx hb d_M_descriptor_174 (by decide) (fun c_186 => ?_) (fun c_186 => ?_)
                        · rw [if_pos c_186] at hE
                          exact hKK _ _ _ _ _ _ _ _ _ _ hE hR hfr hw (lv_sub hl [0, 1, 2, 3, 4, 5] rfl)
                        · rw [if_neg c_186] at hE
                          refine lv_aload_n hx hb d_M_descriptor_177 rfl (lv_at hl 4 rfl) ?_
                          refine lv_aload_n hx hb d_M_descriptor_178 rfl (lv_at hl 4 rfl) ?_
                          have hc_187 : C1 30 0 = some (.inr (4, [.ref (ad 31 0), .ref (ad 31 1), .ref (ad 31 2), .ref (ad 31 3), .ref (ad 31 4), .ref (ad 31 5), .ref (ad 31 6), .ref (ad 31 7), .ref (ad 31 8), .ref (ad 31 9), .ref (ad 31 10), .ref (ad 31 11), .ref (ad 31 12), .ref (ad 31 13), .ref (ad 31 14), .int r.objects, .ref (ad 31 15), .int r.length, .ref (ad 31 16), .int r.waits, .ref (ad 31 17), .int r.given, .ref (ad 31 18), .ref (ad 31 19), .ref (ad 31 20), .int r.left, .ref (ad 31 21), .ref (ad 31 22), .int r.oldLength, .int r.oldWaits, .int r.oldGiven])) := by have h9 := rm_at.o hR; exact h9
                          refine pw_get (Cn := "GraphWriterModel") (T := F_M) (N := 31) hx hb hts in_M hown hK hw 30 0 rfl hc_187 rfl 26 (by decide) (hts _ wd_780) (fun _ h9 => h9) rfl d_M_descriptor_179 ?_
                          refine lv_iload hx hb d_M_descriptor_182 (lv_at hl 0 rfl) ?_
                          have hc_188 : C1 31 21 = some (.inl (ca 0, 4, .inl r.order)) := by have h9 := rm_at.a21 hR; exact h9
                          obtain ⟨v_189, hv_189, hE⟩ := ob_some hE
                          obtain ⟨hi_v_189, hj_v_189, he_v_189⟩ := rd_some (by decide) hv_189
                          refine pw_iald hx hb hK hw 31 21 rfl 0 hc_188 rfl (x5_185 : Int32).toNatClampNeg hi_v_189 (by omega) (by omega) d_M_descriptor_184 ?_
                          rw [← he_v_189]
                          obtain ⟨y_190, hy_190, hE⟩ := ob_some hE
                          refine pw_callv (va_runV (As := [.int v_189]) (rest := []) ⟨hx, hb, hml, hown, hts0⟩ (k_M_fieldEntry hR hy_190 _) (cwV 1 hts0 (wd_V wd_1010 wd_1007 wd_1009 wd_45 wd_56) rfl rfl rfl (by decide +kernel) ⟨Nat.le_of_ble_eq_true rfl, Nat.le_of_ble_eq_true rfl⟩) (pw_preV hZ hw hA hK hz rfl hc_187 rfl) rfl rfl hl.1 rfl (lv_room (Nat.le_of_ble_eq_true rfl)) d_M_descriptor_185 ⟨Nat.le_of_ble_eq_true rfl, Nat.le_of_ble_eq_true rfl⟩) hw hA (fun ad_191 C_192 H locs hp hw => ?_)
                          obtain ⟨hae, hR, hf1⟩ := hp
                          rw [hae] at hw
                          clear hae
                          have hfr : rm_fr C C_192 := fun x y h9 => (hf1 x y h9).trans (hfr x y h9)
                          clear hf1
                          refine lv_iinc (v := x5_185 + 1) (lv' := [(5, .int (x5_185 + 1)), (4, .int x4_185), (3, .int x3_185), (2, .int x2_185), (0, .ref (ad 30 0)), (1, .int x1_185)]) hx hb d_M_descriptor_188 hl (k := 0) rfl rfl (by decide) rfl (fun ls hl => ?_)
                          refine lv_goto (tgt := 170) hx hb d_M_descriptor_191 (by decide) ?_
                          exact ih _ _ _ _ _ _ _ _ _ _ hE hR hfr hw (lv_sub hl [0, 1, 2, 3, 4, 5] rfl)
                    refine lp_185 _ (fun z5_185 z4_185 z3_185 z2_185 z1_185 r_194 C_195 H locs ls hE hR hfr hw hl => ?_) 60 _ _ _ _ _ _ _ _ _ _ hE hR hfr hw hl
                    try dsimp only at hE
                    refine lv_aload_n hx hb d_M_descriptor_194 rfl (lv_at hl 4 rfl) ?_
                    refine lv_ldc2 (v := 120) hx hb hown (hts _ wd_977) d_M_descriptor_195 ?_
                    refine lv_iconst (v := 1) hx hb d_M_descriptor_198 (by decide) ?_
                    obtain ⟨y_196, hy_196, hE⟩ := ob_some hE
                    have hc_197 : C_195 30 0 = some (.inr (4, [.ref (ad 31 0), .ref (ad 31 1), .ref (ad 31 2), .ref (ad 31 3), .ref (ad 31 4), .ref (ad 31 5), .ref (ad 31 6), .ref (ad 31 7), .ref (ad 31 8), .ref (ad 31 9), .ref (ad 31 10), .ref (ad 31 11), .ref (ad 31 12), .ref (ad 31 13), .ref (ad 31 14), .int r_194.objects, .ref (ad 31 15), .int r_194.length, .ref (ad 31 16), .int r_194.waits, .ref (ad 31 17), .int r_194.given, .ref (ad 31 18), .ref (ad 31 19), .ref (ad 31 20), .int r_194.left, .ref (ad 31 21), .ref (ad 31 22), .int r_194.oldLength, .int r_194.oldWaits, .int r_194.oldGiven])) := by have h9 := rm_at.o hR; exact h9
                    refine pw_callv (va_runV (As := [.long 120, .int 1]) (rest := []) ⟨hx, hb, hml, hown, hts0⟩ (k_M_append hR hy_196 _) (cwV 2 hts0 (wd_V wd_748 wd_745 wd_747 wd_20 wd_56) rfl rfl rfl (by decide +kernel) ⟨Nat.le_of_ble_eq_true rfl, Nat.le_of_ble_eq_true rfl⟩) (pw_preV hZ hw hA hK hz rfl hc_197 rfl) rfl rfl hl.1 rfl (lv_room (Nat.le_of_ble_eq_true rfl)) d_M_descriptor_199 ⟨Nat.le_of_ble_eq_true rfl, Nat.le_of_ble_eq_true rfl⟩) hw hA (fun ad_198 C_199 H locs hp hw => ?_)
                    obtain ⟨hae, hR, hf1⟩ := hp
                    rw [hae] at hw
                    clear hae
                    have hfr : rm_fr C C_199 := fun x y h9 => (hf1 x y h9).trans (hfr x y h9)
                    clear hf1
                    refine lv_aload_n hx hb d_M_descriptor_202 rfl (lv_at hl 4 rfl) ?_
                    have hc_201 : C_199 30 0 = some (.inr (4, [.ref (ad 31 0), .ref (ad 31 1), .ref (ad 31 2), .ref (ad 31 3), .ref (ad 31 4), .ref (ad 31 5), .ref (ad 31 6), .ref (ad 31 7), .ref (ad 31 8), .ref (ad 31 9), .ref (ad 31 10), .ref (ad 31 11), .ref (ad 31 12), .ref (ad 31 13), .ref (ad 31 14), .int y_196.objects, .ref (ad 31 15), .int y_196.length, .ref (ad 31 16), .int y_196.waits, .ref (ad 31 17), .int y_196.given, .ref (ad 31 18), .ref (ad 31 19), .ref (ad 31 20), .int y_196.left, .ref (ad 31 21), .ref (ad 31 22), .int y_196.oldLength, .int y_196.oldWaits, .int y_196.oldGiven])) := by have h9 := rm_at.o hR; exact h9
                    refine pw_get (Cn := "GraphWriterModel") (T := F_M) (N := 31) hx hb hts in_M hown hK hw 30 0 rfl hc_201 rfl 2 (by decide) (hts _ wd_756) (fun _ h9 => h9) rfl d_M_descriptor_203 ?_
                    refine lv_iload_n hx hb d_M_descriptor_206 rfl (lv_at hl 3 rfl) ?_
                    have hc_202 : C_199 31 2 = some (.inl (ca 0, 6, .inl y_196.above)) := by have h9 := rm_at.a2 hR; exact h9
                    obtain ⟨v_203, hv_203, hE⟩ := ob_some hE
                    obtain ⟨hi_v_203, hj_v_203, he_v_203⟩ := rd_some (by decide) hv_203
                    refine pw_iald hx hb hK hw 31 2 rfl 0 hc_202 rfl (z2_185 : Int32).toNatClampNeg hi_v_203 (by omega) (by omega) d_M_descriptor_207 ?_
                    rw [← he_v_203]
                    refine lv_istore_n (lv' := [(2, .int v_203), (5, .int z5_185), (4, .int z4_185), (3, .int z3_185), (0, .ref (ad 30 0)), (1, .int z1_185)]) hx hb d_M_descriptor_208 rfl hl (by decide) rfl (fun ls hl => ?_)
                    refine lv_iinc (v := z3_185 + 1) (lv' := [(3, .int (z3_185 + 1)), (2, .int v_203), (5, .int z5_185), (4, .int z4_185), (0, .ref (ad 30 0)), (1, .int z1_185)]) hx hb d_M_descriptor_209 hl (k := 3) rfl rfl (by decide) rfl (fun ls hl => ?_)
                    refine lv_goto (tgt := 4) hx hb d_M_descriptor_212 (by decide) ?_
                    exact ih _ _ _ _ _ _ _ _ hE hR hfr hw (lv_sub hl [0, 1, 4, 5] rfl)
                · rw [if_pos c_129] at hE
                  refine lv_aload_n hx hb d_M_descriptor_105 rfl (lv_at hl 2 rfl) ?_
                  refine lv_bipush (v := 40) hx hb d_M_descriptor_106 (by decide) ?_
                  refine lv_iload_n hx hb d_M_descriptor_108 rfl (lv_at hl 1 rfl) ?_
                  refine lv_iadd hx hb d_M_descriptor_109 ?_
                  refine lv_bipush (v := 18) hx hb d_M_descriptor_110 (by decide) ?_
                  obtain ⟨y_204, hy_204, hE⟩ := ob_some hE
                  refine pw_callv (va_runV (As := [.int (40 + x2_1), .int 18]) (rest := []) ⟨hx, hb, hml, hown, hts0⟩ (k_M_plainEnd hR hy_204 _) (cwV 2 hts0 (wd_V wd_976 wd_973 wd_975 wd_38 wd_56) rfl rfl rfl (by decide +kernel) ⟨Nat.le_of_ble_eq_true rfl, Nat.le_of_ble_eq_true rfl⟩) (pw_preV hZ hw hA hK hz rfl hc_126 rfl) rfl rfl hl.1 rfl (lv_room (Nat.le_of_ble_eq_true rfl)) d_M_descriptor_112 ⟨Nat.le_of_ble_eq_true rfl, Nat.le_of_ble_eq_true rfl⟩) hw hA (fun ad_205 C_206 H locs hp hw => ?_)
                  obtain ⟨hae, hR, hf1⟩ := hp
                  rw [hae] at hw
                  clear hae
                  have hfr : rm_fr C C_206 := fun x y h9 => (hf1 x y h9).trans (hfr x y h9)
                  clear hf1
                  refine lv_aload_n hx hb d_M_descriptor_115 rfl (lv_at hl 2 rfl) ?_
                  obtain ⟨y_208, hy_208, hE⟩ := ob_some hE
                  have hc_209 : C_206 30 0 = some (.inr (4, [.ref (ad 31 0), .ref (ad 31 1), .ref (ad 31 2), .ref (ad 31 3), .ref (ad 31 4), .ref (ad 31 5), .ref (ad 31 6), .ref (ad 31 7), .ref (ad 31 8), .ref (ad 31 9), .ref (ad 31 10), .ref (ad 31 11), .ref (ad 31 12), .ref (ad 31 13), .ref (ad 31 14), .int y_204.objects, .ref (ad 31 15), .int y_204.length, .ref (ad 31 16), .int y_204.waits, .ref (ad 31 17), .int y_204.given, .ref (ad 31 18), .ref (ad 31 19), .ref (ad 31 20), .int y_204.left, .ref (ad 31 21), .ref (ad 31 22), .int y_204.oldLength, .int y_204.oldWaits, .int y_204.oldGiven])) := by have h9 := rm_at.o hR; exact h9
                  refine pw_callv (va_runV (As := []) (rest := []) ⟨hx, hb, hml, hown, hts0⟩ (k_M_enumBase hR hy_208 _) (cwV 0 hts0 (wd_V wd_998 wd_995 wd_997 wd_43 wd_56) rfl rfl rfl (by decide +kernel) ⟨Nat.le_of_ble_eq_true rfl, Nat.le_of_ble_eq_true rfl⟩) (pw_preV hZ hw hA hK hz rfl hc_209 rfl) rfl rfl hl.1 rfl (lv_room (Nat.le_of_ble_eq_true rfl)) d_M_descriptor_116 ⟨Nat.le_of_ble_eq_true rfl, Nat.le_of_ble_eq_true rfl⟩) hw hA (fun ad_210 C_211 H locs hp hw => ?_)
                  obtain ⟨hae, hR, hf1⟩ := hp
                  rw [hae] at hw
                  clear hae
                  have hfr : rm_fr C C_211 := fun x y h9 => (hf1 x y h9).trans (hfr x y h9)
                  clear hf1
                  obtain rfl := Option.some.inj hE
                  exact pw_vret hx hb hr hlocks hw ⟨rfl, hR, hfr⟩ d_M_descriptor_119
            · rw [if_neg c_15] at hE
              refine lv_aload_n hx hb d_M_descriptor_44 rfl (lv_at hl 2 rfl) ?_
              refine lv_bipush (v := 40) hx hb d_M_descriptor_45 (by decide) ?_
              refine lv_iload_n hx hb d_M_descriptor_47 rfl (lv_at hl 1 rfl) ?_
              refine lv_iadd hx hb d_M_descriptor_48 ?_
              obtain ⟨y_213, hy_213, hE⟩ := ob_some hE
              refine pw_callv (va_runV (As := [.int (40 + x2_1)]) (rest := []) ⟨hx, hb, hml, hown, hts0⟩ (k_M_refer hR hy_213 _) (cwV 1 hts0 (wd_V wd_947 wd_944 wd_946 wd_34 wd_56) rfl rfl rfl (by decide +kernel) ⟨Nat.le_of_ble_eq_true rfl, Nat.le_of_ble_eq_true rfl⟩) (pw_preV hZ hw hA hK hz rfl hc_9 rfl) rfl rfl hl.1 rfl (lv_room (Nat.le_of_ble_eq_true rfl)) d_M_descriptor_49 ⟨Nat.le_of_ble_eq_true rfl, Nat.le_of_ble_eq_true rfl⟩) hw hA (fun ad_214 C_215 H locs hp hw => ?_)
              obtain ⟨hae, hR, hf1⟩ := hp
              rw [hae] at hw
              clear hae
              have hfr : rm_fr C C_215 := fun x y h9 => (hf1 x y h9).trans (hfr x y h9)
              clear hf1
              obtain rfl := Option.some.inj hE
              exact pw_vret hx hb hr hlocks hw ⟨rfl, hR, hfr⟩ d_M_descriptor_52
          · rw [if_pos c_12] at hE
            refine lv_aload_n hx hb d_M_descriptor_23 rfl (lv_at hl 2 rfl) ?_
            refine lv_ldc2 (v := 112) hx hb hown (hts _ wd_943) d_M_descriptor_24 ?_
            refine lv_iconst (v := 1) hx hb d_M_descriptor_27 (by decide) ?_
            obtain ⟨y_217, hy_217, hE⟩ := ob_some hE
            refine pw_callv (va_runV (As := [.long 112, .int 1]) (rest := []) ⟨hx, hb, hml, hown, hts0⟩ (k_M_append hR hy_217 _) (cwV 2 hts0 (wd_V wd_748 wd_745 wd_747 wd_20 wd_56) rfl rfl rfl (by decide +kernel) ⟨Nat.le_of_ble_eq_true rfl, Nat.le_of_ble_eq_true rfl⟩) (pw_preV hZ hw hA hK hz rfl hc_9 rfl) rfl rfl hl.1 rfl (lv_room (Nat.le_of_ble_eq_true rfl)) d_M_descriptor_28 ⟨Nat.le_of_ble_eq_true rfl, Nat.le_of_ble_eq_true rfl⟩) hw hA (fun ad_218 C_219 H locs hp hw => ?_)
            obtain ⟨hae, hR, hf1⟩ := hp
            rw [hae] at hw
            clear hae
            have hfr : rm_fr C C_219 := fun x y h9 => (hf1 x y h9).trans (hfr x y h9)
            clear hf1
            obtain rfl := Option.some.inj hE
            exact pw_vret hx hb hr hlocks hw ⟨rfl, hR, hfr⟩ d_M_descriptor_31
  refine lp_1 _ (fun z3_1 z2_1 z1_1 r_221 C_222 H locs ls hE hR hfr hw hl => ?_) 60 _ _ _ _ _ _ _ _ hE hR hfr hw hl
  try dsimp only at hE
  obtain rfl := Option.some.inj hE
  exact pw_vret hx hb hr hlocks hw ⟨rfl, hR, hfr⟩ d_M_descriptor_215
def m_arrayDescriptor0  (r : RS) : Option RS := Option.bind (rd r.handles 51 46) (fun v_4 => if (v_4 : Int32) < 0 then (Option.bind (m_append 114 1 r) (fun y_6 => Option.bind (m_append 2 2 y_6) (fun y_11 => Option.bind (m_append 23369 2 y_11) (fun y_16 => Option.bind (m_append 5600894804908749477 8 y_16) (fun y_22 => Option.bind (m_plainEnd 46 2 y_22) (fun y_27 => Option.bind (m_append 112 1 y_27) (fun y_32 => some y_32))))))) else (Option.bind (m_refer 46 r) (fun y_37 => some y_37)))
set_option maxHeartbeats 4000000 in
set_option maxRecDepth 100000 in
theorem k_M_arrayDescriptor0 {l : Launch} {D : va_G} {ca : Nat → ClassId} {kS : Nat → Nat} {kT : Nat} {ad : pw_A} {C : pw_C} {r : RS} (hR : rm_at ca ad C r)  {res : RS} (hE : m_arrayDescriptor0  r = some res) : gc_Con l y_M_arrayDescriptor c_M_arrayDescriptor ({ frames := 2, cells := 0, slots := 0, locals := 46 }) D ca (z9_Z kS kT) [.ref (ad 30 0), .int 0] ad C (pw_pv (fun ad' C' => ad' = ad ∧ rm_at ca ad C' res ∧ rm_fr C C')) 0 0 := by
  have hZ := z9_ok kS kT
  refine pw_ofW (cc := b_M_arrayDescriptor) (maxL := 3) (ret := none) (by decide) rfl (Nat.le_of_ble_eq_true rfl) ?_
  intro p e s m args below meth c A ls hB hA hw hK hz hl
  obtain ⟨hx, hb, hr, hml, hts0, hlocks, hown, hnm⟩ := hB
  have hts := wd_hts hts0
  have hown : s.vm.findClass "GraphWriterModel" = some m.cls := hown
  have hl : lv_has ls 3 [(0, .ref (ad 30 0)), (1, .int 0)] := hl
  have hfr : rm_fr C C := fun _ _ _ => rfl
  unfold m_arrayDescriptor0 at hE
  refine lv_iload_n hx hb d_M_arrayDescriptor_0 rfl (lv_at hl 1 rfl) ?_
  refine lv_if_eq (tgt := 9) hx hb d_M_arrayDescriptor_1 (by decide) (fun c_1 => ?_) (fun c_1 => ?_)
  · skip
    refine lv_bipush (v := 46) hx hb d_M_arrayDescriptor_9 (by decide) ?_
    refine lv_istore_n (lv' := [(2, .int 46), (0, .ref (ad 30 0)), (1, .int 0)]) hx hb d_M_arrayDescriptor_11 rfl hl (by decide) rfl (fun ls hl => ?_)
    refine lv_aload_n hx hb d_M_arrayDescriptor_12 rfl (lv_at hl 1 rfl) ?_
    have hc_2 : C 30 0 = some (.inr (4, [.ref (ad 31 0), .ref (ad 31 1), .ref (ad 31 2), .ref (ad 31 3), .ref (ad 31 4), .ref (ad 31 5), .ref (ad 31 6), .ref (ad 31 7), .ref (ad 31 8), .ref (ad 31 9), .ref (ad 31 10), .ref (ad 31 11), .ref (ad 31 12), .ref (ad 31 13), .ref (ad 31 14), .int r.objects, .ref (ad 31 15), .int r.length, .ref (ad 31 16), .int r.waits, .ref (ad 31 17), .int r.given, .ref (ad 31 18), .ref (ad 31 19), .ref (ad 31 20), .int r.left, .ref (ad 31 21), .ref (ad 31 22), .int r.oldLength, .int r.oldWaits, .int r.oldGiven])) := by have h9 := rm_at.o hR; exact h9
    refine pw_get (Cn := "GraphWriterModel") (T := F_M) (N := 31) hx hb hts in_M hown hK hw 30 0 rfl hc_2 rfl 20 (by decide) (hts _ wd_774) (fun _ h9 => h9) rfl d_M_arrayDescriptor_13 ?_
    refine lv_iload_n hx hb d_M_arrayDescriptor_16 rfl (lv_at hl 0 rfl) ?_
    have hc_3 : C 31 17 = some (.inl (ca 0, 51, .inl r.handles)) := by have h9 := rm_at.a17 hR; exact h9
    obtain ⟨v_4, hv_4, hE⟩ := ob_some hE
    obtain ⟨hi_v_4, hj_v_4, he_v_4⟩ := rd_some (by decide) hv_4
    refine pw_iald hx hb hK hw 31 17 rfl 0 hc_3 rfl (46 : Int32).toNatClampNeg hi_v_4 (by omega) (by omega) d_M_arrayDescriptor_17 ?_
    rw [← he_v_4]
    refine lv_if_lt (tgt := 27) hx hb d_M_arrayDescriptor_18 (by decide) (fun c_5 => ?_) (fun c_5 => ?_)
    · rw [if_pos c_5] at hE
      refine lv_aload_n hx hb d_M_arrayDescriptor_27 rfl (lv_at hl 1 rfl) ?_
      refine lv_ldc2 (v := 114) hx hb hown (hts _ wd_964) d_M_arrayDescriptor_28 ?_
      refine lv_iconst (v := 1) hx hb d_M_arrayDescriptor_31 (by decide) ?_
      obtain ⟨y_6, hy_6, hE⟩ := ob_some hE
      refine pw_callv (va_runV (As := [.long 114, .int 1]) (rest := []) ⟨hx, hb, hml, hown, hts0⟩ (k_M_append hR hy_6 _) (cwV 2 hts0 (wd_V wd_748 wd_745 wd_747 wd_20 wd_56) rfl rfl rfl (by decide +kernel) ⟨Nat.le_of_ble_eq_true rfl, Nat.le_of_ble_eq_true rfl⟩) (pw_preV hZ hw hA hK hz rfl hc_2 rfl) rfl rfl hl.1 rfl (lv_room (Nat.le_of_ble_eq_true rfl)) d_M_arrayDescriptor_32 ⟨Nat.le_of_ble_eq_true rfl, Nat.le_of_ble_eq_true rfl⟩) hw hA (fun ad_7 C_8 H locs hp hw => ?_)
      obtain ⟨hae, hR, hf1⟩ := hp
      rw [hae] at hw
      clear hae
      have hfr : rm_fr C C_8 := fun x y h9 => (hf1 x y h9).trans (hfr x y h9)
      clear hf1
      refine lv_iload_n hx hb d_M_arrayDescriptor_35 rfl (lv_at hl 2 rfl) ?_
      refine lv_if_eq (tgt := 76) hx hb d_M_arrayDescriptor_36 (by decide) (fun c_10 => ?_) (fun c_10 => ?_)
      · skip
        refine lv_aload_n hx hb d_M_arrayDescriptor_76 rfl (lv_at hl 1 rfl) ?_
        refine lv_ldc2 (v := 2) hx hb hown (hts _ wd_969) d_M_arrayDescriptor_77 ?_
        refine lv_iconst (v := 2) hx hb d_M_arrayDescriptor_80 (by decide) ?_
        obtain ⟨y_11, hy_11, hE⟩ := ob_some hE
        have hc_12 : C_8 30 0 = some (.inr (4, [.ref (ad 31 0), .ref (ad 31 1), .ref (ad 31 2), .ref (ad 31 3), .ref (ad 31 4), .ref (ad 31 5), .ref (ad 31 6), .ref (ad 31 7), .ref (ad 31 8), .ref (ad 31 9), .ref (ad 31 10), .ref (ad 31 11), .ref (ad 31 12), .ref (ad 31 13), .ref (ad 31 14), .int y_6.objects, .ref (ad 31 15), .int y_6.length, .ref (ad 31 16), .int y_6.waits, .ref (ad 31 17), .int y_6.given, .ref (ad 31 18), .ref (ad 31 19), .ref (ad 31 20), .int y_6.left, .ref (ad 31 21), .ref (ad 31 22), .int y_6.oldLength, .int y_6.oldWaits, .int y_6.oldGiven])) := by have h9 := rm_at.o hR; exact h9
        refine pw_callv (va_runV (As := [.long 2, .int 2]) (rest := []) ⟨hx, hb, hml, hown, hts0⟩ (k_M_append hR hy_11 _) (cwV 2 hts0 (wd_V wd_748 wd_745 wd_747 wd_20 wd_56) rfl rfl rfl (by decide +kernel) ⟨Nat.le_of_ble_eq_true rfl, Nat.le_of_ble_eq_true rfl⟩) (pw_preV hZ hw hA hK hz rfl hc_12 rfl) rfl rfl hl.1 rfl (lv_room (Nat.le_of_ble_eq_true rfl)) d_M_arrayDescriptor_81 ⟨Nat.le_of_ble_eq_true rfl, Nat.le_of_ble_eq_true rfl⟩) hw hA (fun ad_13 C_14 H locs hp hw => ?_)
        obtain ⟨hae, hR, hf1⟩ := hp
        rw [hae] at hw
        clear hae
        have hfr : rm_fr C C_14 := fun x y h9 => (hf1 x y h9).trans (hfr x y h9)
        clear hf1
        refine lv_aload_n hx hb d_M_arrayDescriptor_84 rfl (lv_at hl 1 rfl) ?_
        refine lv_ldc2 (v := 23369) hx hb hown (hts _ wd_970) d_M_arrayDescriptor_85 ?_
        refine lv_iconst (v := 2) hx hb d_M_arrayDescriptor_88 (by decide) ?_
        obtain ⟨y_16, hy_16, hE⟩ := ob_some hE
        have hc_17 : C_14 30 0 = some (.inr (4, [.ref (ad 31 0), .ref (ad 31 1), .ref (ad 31 2), .ref (ad 31 3), .ref (ad 31 4), .ref (ad 31 5), .ref (ad 31 6), .ref (ad 31 7), .ref (ad 31 8), .ref (ad 31 9), .ref (ad 31 10), .ref (ad 31 11), .ref (ad 31 12), .ref (ad 31 13), .ref (ad 31 14), .int y_11.objects, .ref (ad 31 15), .int y_11.length, .ref (ad 31 16), .int y_11.waits, .ref (ad 31 17), .int y_11.given, .ref (ad 31 18), .ref (ad 31 19), .ref (ad 31 20), .int y_11.left, .ref (ad 31 21), .ref (ad 31 22), .int y_11.oldLength, .int y_11.oldWaits, .int y_11.oldGiven])) := by have h9 := rm_at.o hR; exact h9
        refine pw_callv (va_runV (As := [.long 23369, .int 2]) (rest := []) ⟨hx, hb, hml, hown, hts0⟩ (k_M_append hR hy_16 _) (cwV 2 hts0 (wd_V wd_748 wd_745 wd_747 wd_20 wd_56) rfl rfl rfl (by decide +kernel) ⟨Nat.le_of_ble_eq_true rfl, Nat.le_of_ble_eq_true rfl⟩) (pw_preV hZ hw hA hK hz rfl hc_17 rfl) rfl rfl hl.1 rfl (lv_room (Nat.le_of_ble_eq_true rfl)) d_M_arrayDescriptor_89 ⟨Nat.le_of_ble_eq_true rfl, Nat.le_of_ble_eq_true rfl⟩) hw hA (fun ad_18 C_19 H locs hp hw => ?_)
        obtain ⟨hae, hR, hf1⟩ := hp
        rw [hae] at hw
        clear hae
        have hfr : rm_fr C C_19 := fun x y h9 => (hf1 x y h9).trans (hfr x y h9)
        clear hf1
        refine lv_aload_n hx hb d_M_arrayDescriptor_92 rfl (lv_at hl 1 rfl) ?_
        refine lv_iload_n hx hb d_M_arrayDescriptor_93 rfl (lv_at hl 2 rfl) ?_
        refine lv_if_eq (tgt := 103) hx hb d_M_arrayDescriptor_94 (by decide) (fun c_21 => ?_) (fun c_21 => ?_)
        · skip
          refine lv_ldc2 (v := 5600894804908749477) hx hb hown (hts _ wd_972) d_M_arrayDescriptor_103 ?_
          refine lv_bipush (v := 8) hx hb d_M_arrayDescriptor_106 (by decide) ?_
          obtain ⟨y_22, hy_22, hE⟩ := ob_some hE
          have hc_23 : C_19 30 0 = some (.inr (4, [.ref (ad 31 0), .ref (ad 31 1), .ref (ad 31 2), .ref (ad 31 3), .ref (ad 31 4), .ref (ad 31 5), .ref (ad 31 6), .ref (ad 31 7), .ref (ad 31 8), .ref (ad 31 9), .ref (ad 31 10), .ref (ad 31 11), .ref (ad 31 12), .ref (ad 31 13), .ref (ad 31 14), .int y_16.objects, .ref (ad 31 15), .int y_16.length, .ref (ad 31 16), .int y_16.waits, .ref (ad 31 17), .int y_16.given, .ref (ad 31 18), .ref (ad 31 19), .ref (ad 31 20), .int y_16.left, .ref (ad 31 21), .ref (ad 31 22), .int y_16.oldLength, .int y_16.oldWaits, .int y_16.oldGiven])) := by have h9 := rm_at.o hR; exact h9
          refine pw_callv (va_runV (As := [.long 5600894804908749477, .int 8]) (rest := []) ⟨hx, hb, hml, hown, hts0⟩ (k_M_append hR hy_22 _) (cwV 2 hts0 (wd_V wd_748 wd_745 wd_747 wd_20 wd_56) rfl rfl rfl (by decide +kernel) ⟨Nat.le_of_ble_eq_true rfl, Nat.le_of_ble_eq_true rfl⟩) (pw_preV hZ hw hA hK hz rfl hc_23 rfl) rfl rfl hl.1 rfl (lv_room (Nat.le_of_ble_eq_true rfl)) d_M_arrayDescriptor_108 ⟨Nat.le_of_ble_eq_true rfl, Nat.le_of_ble_eq_true rfl⟩) hw hA (fun ad_24 C_25 H locs hp hw => ?_)
          obtain ⟨hae, hR, hf1⟩ := hp
          rw [hae] at hw
          clear hae
          have hfr : rm_fr C C_25 := fun x y h9 => (hf1 x y h9).trans (hfr x y h9)
          clear hf1
          refine lv_aload_n hx hb d_M_arrayDescriptor_111 rfl (lv_at hl 1 rfl) ?_
          refine lv_iload_n hx hb d_M_arrayDescriptor_112 rfl (lv_at hl 0 rfl) ?_
          refine lv_iconst (v := 2) hx hb d_M_arrayDescriptor_113 (by decide) ?_
          obtain ⟨y_27, hy_27, hE⟩ := ob_some hE
          have hc_28 : C_25 30 0 = some (.inr (4, [.ref (ad 31 0), .ref (ad 31 1), .ref (ad 31 2), .ref (ad 31 3), .ref (ad 31 4), .ref (ad 31 5), .ref (ad 31 6), .ref (ad 31 7), .ref (ad 31 8), .ref (ad 31 9), .ref (ad 31 10), .ref (ad 31 11), .ref (ad 31 12), .ref (ad 31 13), .ref (ad 31 14), .int y_22.objects, .ref (ad 31 15), .int y_22.length, .ref (ad 31 16), .int y_22.waits, .ref (ad 31 17), .int y_22.given, .ref (ad 31 18), .ref (ad 31 19), .ref (ad 31 20), .int y_22.left, .ref (ad 31 21), .ref (ad 31 22), .int y_22.oldLength, .int y_22.oldWaits, .int y_22.oldGiven])) := by have h9 := rm_at.o hR; exact h9
          refine pw_callv (va_runV (As := [.int 46, .int 2]) (rest := []) ⟨hx, hb, hml, hown, hts0⟩ (k_M_plainEnd hR hy_27 _) (cwV 2 hts0 (wd_V wd_976 wd_973 wd_975 wd_38 wd_56) rfl rfl rfl (by decide +kernel) ⟨Nat.le_of_ble_eq_true rfl, Nat.le_of_ble_eq_true rfl⟩) (pw_preV hZ hw hA hK hz rfl hc_28 rfl) rfl rfl hl.1 rfl (lv_room (Nat.le_of_ble_eq_true rfl)) d_M_arrayDescriptor_114 ⟨Nat.le_of_ble_eq_true rfl, Nat.le_of_ble_eq_true rfl⟩) hw hA (fun ad_29 C_30 H locs hp hw => ?_)
          obtain ⟨hae, hR, hf1⟩ := hp
          rw [hae] at hw
          clear hae
          have hfr : rm_fr C C_30 := fun x y h9 => (hf1 x y h9).trans (hfr x y h9)
          clear hf1
          refine lv_aload_n hx hb d_M_arrayDescriptor_117 rfl (lv_at hl 1 rfl) ?_
          refine lv_ldc2 (v := 112) hx hb hown (hts _ wd_943) d_M_arrayDescriptor_118 ?_
          refine lv_iconst (v := 1) hx hb d_M_arrayDescriptor_121 (by decide) ?_
          obtain ⟨y_32, hy_32, hE⟩ := ob_some hE
          have hc_33 : C_30 30 0 = some (.inr (4, [.ref (ad 31 0), .ref (ad 31 1), .ref (ad 31 2), .ref (ad 31 3), .ref (ad 31 4), .ref (ad 31 5), .ref (ad 31 6), .ref (ad 31 7), .ref (ad 31 8), .ref (ad 31 9), .ref (ad 31 10), .ref (ad 31 11), .ref (ad 31 12), .ref (ad 31 13), .ref (ad 31 14), .int y_27.objects, .ref (ad 31 15), .int y_27.length, .ref (ad 31 16), .int y_27.waits, .ref (ad 31 17), .int y_27.given, .ref (ad 31 18), .ref (ad 31 19), .ref (ad 31 20), .int y_27.left, .ref (ad 31 21), .ref (ad 31 22), .int y_27.oldLength, .int y_27.oldWaits, .int y_27.oldGiven])) := by have h9 := rm_at.o hR; exact h9
          refine pw_callv (va_runV (As := [.long 112, .int 1]) (rest := []) ⟨hx, hb, hml, hown, hts0⟩ (k_M_append hR hy_32 _) (cwV 2 hts0 (wd_V wd_748 wd_745 wd_747 wd_20 wd_56) rfl rfl rfl (by decide +kernel) ⟨Nat.le_of_ble_eq_true rfl, Nat.le_of_ble_eq_true rfl⟩) (pw_preV hZ hw hA hK hz rfl hc_33 rfl) rfl rfl hl.1 rfl (lv_room (Nat.le_of_ble_eq_true rfl)) d_M_arrayDescriptor_122 ⟨Nat.le_of_ble_eq_true rfl, Nat.le_of_ble_eq_true rfl⟩) hw hA (fun ad_34 C_35 H locs hp hw => ?_)
          obtain ⟨hae, hR, hf1⟩ := hp
          rw [hae] at hw
          clear hae
          have hfr : rm_fr C C_35 := fun x y h9 => (hf1 x y h9).trans (hfr x y h9)
          clear hf1
          obtain rfl := Option.some.inj hE
          exact pw_vret hx hb hr hlocks hw ⟨rfl, hR, hfr⟩ d_M_arrayDescriptor_125
        · exact absurd (by decide) c_21
      · exact absurd (by decide) c_10
    · rw [if_neg c_5] at hE
      refine lv_aload_n hx hb d_M_arrayDescriptor_21 rfl (lv_at hl 1 rfl) ?_
      refine lv_iload_n hx hb d_M_arrayDescriptor_22 rfl (lv_at hl 0 rfl) ?_
      obtain ⟨y_37, hy_37, hE⟩ := ob_some hE
      refine pw_callv (va_runV (As := [.int 46]) (rest := []) ⟨hx, hb, hml, hown, hts0⟩ (k_M_refer hR hy_37 _) (cwV 1 hts0 (wd_V wd_947 wd_944 wd_946 wd_34 wd_56) rfl rfl rfl (by decide +kernel) ⟨Nat.le_of_ble_eq_true rfl, Nat.le_of_ble_eq_true rfl⟩) (pw_preV hZ hw hA hK hz rfl hc_2 rfl) rfl rfl hl.1 rfl (lv_room (Nat.le_of_ble_eq_true rfl)) d_M_arrayDescriptor_23 ⟨Nat.le_of_ble_eq_true rfl, Nat.le_of_ble_eq_true rfl⟩) hw hA (fun ad_38 C_39 H locs hp hw => ?_)
      obtain ⟨hae, hR, hf1⟩ := hp
      rw [hae] at hw
      clear hae
      have hfr : rm_fr C C_39 := fun x y h9 => (hf1 x y h9).trans (hfr x y h9)
      clear hf1
      obtain rfl := Option.some.inj hE
      exact pw_vret hx hb hr hlocks hw ⟨rfl, hR, hfr⟩ d_M_arrayDescriptor_26
  · exact absurd (by decide) c_1
def m_arrayDescriptor1  (r : RS) : Option RS := Option.bind (rd r.handles 51 47) (fun v_4 => if (v_4 : Int32) < 0 then (Option.bind (m_append 114 1 r) (fun y_6 => Option.bind (m_append 19 2 y_6) (fun y_11 => Option.bind (m_append 6578750122511904364 8 y_11) (fun y_16 => Option.bind (m_append 7020662317715188325 8 y_16) (fun y_21 => Option.bind (m_append 6517819 3 y_21) (fun y_26 => Option.bind (m_append (-8012369246846506644) 8 y_26) (fun y_32 => Option.bind (m_plainEnd 47 2 y_32) (fun y_37 => Option.bind (m_append 112 1 y_37) (fun y_42 => some y_42))))))))) else (Option.bind (m_refer 47 r) (fun y_47 => some y_47)))
set_option maxHeartbeats 4000000 in
set_option maxRecDepth 100000 in
theorem k_M_arrayDescriptor1 {l : Launch} {D : va_G} {ca : Nat → ClassId} {kS : Nat → Nat} {kT : Nat} {ad : pw_A} {C : pw_C} {r : RS} (hR : rm_at ca ad C r)  {res : RS} (hE : m_arrayDescriptor1  r = some res) : gc_Con l y_M_arrayDescriptor c_M_arrayDescriptor ({ frames := 2, cells := 0, slots := 0, locals := 46 }) D ca (z9_Z kS kT) [.ref (ad 30 0), .int 1] ad C (pw_pv (fun ad' C' => ad' = ad ∧ rm_at ca ad C' res ∧ rm_fr C C')) 0 0 := by
  have hZ := z9_ok kS kT
  refine pw_ofW (cc := b_M_arrayDescriptor) (maxL := 3) (ret := none) (by decide) rfl (Nat.le_of_ble_eq_true rfl) ?_
  intro p e s m args below meth c A ls hB hA hw hK hz hl
  obtain ⟨hx, hb, hr, hml, hts0, hlocks, hown, hnm⟩ := hB
  have hts := wd_hts hts0
  have hown : s.vm.findClass "GraphWriterModel" = some m.cls := hown
  have hl : lv_has ls 3 [(0, .ref (ad 30 0)), (1, .int 1)] := hl
  have hfr : rm_fr C C := fun _ _ _ => rfl
  unfold m_arrayDescriptor1 at hE
  refine lv_iload_n hx hb d_M_arrayDescriptor_0 rfl (lv_at hl 1 rfl) ?_
  refine lv_if_eq (tgt := 9) hx hb d_M_arrayDescriptor_1 (by decide) (fun c_1 => ?_) (fun c_1 => ?_)
  · exact absurd c_1 (by decide)
  · skip
    refine lv_bipush (v := 47) hx hb d_M_arrayDescriptor_4 (by decide) ?_
    refine lv_goto (tgt := 11) hx hb d_M_arrayDescriptor_6 (by decide) ?_
    refine lv_istore_n (lv' := [(2, .int 47), (0, .ref (ad 30 0)), (1, .int 1)]) hx hb d_M_arrayDescriptor_11 rfl hl (by decide) rfl (fun ls hl => ?_)
    refine lv_aload_n hx hb d_M_arrayDescriptor_12 rfl (lv_at hl 1 rfl) ?_
    have hc_2 : C 30 0 = some (.inr (4, [.ref (ad 31 0), .ref (ad 31 1), .ref (ad 31 2), .ref (ad 31 3), .ref (ad 31 4), .ref (ad 31 5), .ref (ad 31 6), .ref (ad 31 7), .ref (ad 31 8), .ref (ad 31 9), .ref (ad 31 10), .ref (ad 31 11), .ref (ad 31 12), .ref (ad 31 13), .ref (ad 31 14), .int r.objects, .ref (ad 31 15), .int r.length, .ref (ad 31 16), .int r.waits, .ref (ad 31 17), .int r.given, .ref (ad 31 18), .ref (ad 31 19), .ref (ad 31 20), .int r.left, .ref (ad 31 21), .ref (ad 31 22), .int r.oldLength, .int r.oldWaits, .int r.oldGiven])) := by have h9 := rm_at.o hR; exact h9
    refine pw_get (Cn := "GraphWriterModel") (T := F_M) (N := 31) hx hb hts in_M hown hK hw 30 0 rfl hc_2 rfl 20 (by decide) (hts _ wd_774) (fun _ h9 => h9) rfl d_M_arrayDescriptor_13 ?_
    refine lv_iload_n hx hb d_M_arrayDescriptor_16 rfl (lv_at hl 0 rfl) ?_
    have hc_3 : C 31 17 = some (.inl (ca 0, 51, .inl r.handles)) := by have h9 := rm_at.a17 hR; exact h9
    obtain ⟨v_4, hv_4, hE⟩ := ob_some hE
    obtain ⟨hi_v_4, hj_v_4, he_v_4⟩ := rd_some (by decide) hv_4
    refine pw_iald hx hb hK hw 31 17 rfl 0 hc_3 rfl (47 : Int32).toNatClampNeg hi_v_4 (by omega) (by omega) d_M_arrayDescriptor_17 ?_
    rw [← he_v_4]
    refine lv_if_lt (tgt := 27) hx hb d_M_arrayDescriptor_18 (by decide) (fun c_5 => ?_) (fun c_5 => ?_)
    · rw [if_pos c_5] at hE
      refine lv_aload_n hx hb d_M_arrayDescriptor_27 rfl (lv_at hl 1 rfl) ?_
      refine lv_ldc2 (v := 114) hx hb hown (hts _ wd_964) d_M_arrayDescriptor_28 ?_
      refine lv_iconst (v := 1) hx hb d_M_arrayDescriptor_31 (by decide) ?_
      obtain ⟨y_6, hy_6, hE⟩ := ob_some hE
      refine pw_callv (va_runV (As := [.long 114, .int 1]) (rest := []) ⟨hx, hb, hml, hown, hts0⟩ (k_M_append hR hy_6 _) (cwV 2 hts0 (wd_V wd_748 wd_745 wd_747 wd_20 wd_56) rfl rfl rfl (by decide +kernel) ⟨Nat.le_of_ble_eq_true rfl, Nat.le_of_ble_eq_true rfl⟩) (pw_preV hZ hw hA hK hz rfl hc_2 rfl) rfl rfl hl.1 rfl (lv_room (Nat.le_of_ble_eq_true rfl)) d_M_arrayDescriptor_32 ⟨Nat.le_of_ble_eq_true rfl, Nat.le_of_ble_eq_true rfl⟩) hw hA (fun ad_7 C_8 H locs hp hw => ?_)
      obtain ⟨hae, hR, hf1⟩ := hp
      rw [hae] at hw
      clear hae
      have hfr : rm_fr C C_8 := fun x y h9 => (hf1 x y h9).trans (hfr x y h9)
      clear hf1
      refine lv_iload_n hx hb d_M_arrayDescriptor_35 rfl (lv_at hl 2 rfl) ?_
      refine lv_if_eq (tgt := 76) hx hb d_M_arrayDescriptor_36 (by decide) (fun c_10 => ?_) (fun c_10 => ?_)
      · exact absurd c_10 (by decide)
      · skip
        refine lv_aload_n hx hb d_M_arrayDescriptor_39 rfl (lv_at hl 1 rfl) ?_
        refine lv_ldc2 (v := 19) hx hb hown (hts _ wd_965) d_M_arrayDescriptor_40 ?_
        refine lv_iconst (v := 2) hx hb d_M_arrayDescriptor_43 (by decide) ?_
        obtain ⟨y_11, hy_11, hE⟩ := ob_some hE
        have hc_12 : C_8 30 0 = some (.inr (4, [.ref (ad 31 0), .ref (ad 31 1), .ref (ad 31 2), .ref (ad 31 3), .ref (ad 31 4), .ref (ad 31 5), .ref (ad 31 6), .ref (ad 31 7), .ref (ad 31 8), .ref (ad 31 9), .ref (ad 31 10), .ref (ad 31 11), .ref (ad 31 12), .ref (ad 31 13), .ref (ad 31 14), .int y_6.objects, .ref (ad 31 15), .int y_6.length, .ref (ad 31 16), .int y_6.waits, .ref (ad 31 17), .int y_6.given, .ref (ad 31 18), .ref (ad 31 19), .ref (ad 31 20), .int y_6.left, .ref (ad 31 21), .ref (ad 31 22), .int y_6.oldLength, .int y_6.oldWaits, .int y_6.oldGiven])) := by have h9 := rm_at.o hR; exact h9
        refine pw_callv (va_runV (As := [.long 19, .int 2]) (rest := []) ⟨hx, hb, hml, hown, hts0⟩ (k_M_append hR hy_11 _) (cwV 2 hts0 (wd_V wd_748 wd_745 wd_747 wd_20 wd_56) rfl rfl rfl (by decide +kernel) ⟨Nat.le_of_ble_eq_true rfl, Nat.le_of_ble_eq_true rfl⟩) (pw_preV hZ hw hA hK hz rfl hc_12 rfl) rfl rfl hl.1 rfl (lv_room (Nat.le_of_ble_eq_true rfl)) d_M_arrayDescriptor_44 ⟨Nat.le_of_ble_eq_true rfl, Nat.le_of_ble_eq_true rfl⟩) hw hA (fun ad_13 C_14 H locs hp hw => ?_)
        obtain ⟨hae, hR, hf1⟩ := hp
        rw [hae] at hw
        clear hae
        have hfr : rm_fr C C_14 := fun x y h9 => (hf1 x y h9).trans (hfr x y h9)
        clear hf1
        refine lv_aload_n hx hb d_M_arrayDescriptor_47 rfl (lv_at hl 1 rfl) ?_
        refine lv_ldc2 (v := 6578750122511904364) hx hb hown (hts _ wd_966) d_M_arrayDescriptor_48 ?_
        refine lv_bipush (v := 8) hx hb d_M_arrayDescriptor_51 (by decide) ?_
        obtain ⟨y_16, hy_16, hE⟩ := ob_some hE
        have hc_17 : C_14 30 0 = some (.inr (4, [.ref (ad 31 0), .ref (ad 31 1), .ref (ad 31 2), .ref (ad 31 3), .ref (ad 31 4), .ref (ad 31 5), .ref (ad 31 6), .ref (ad 31 7), .ref (ad 31 8), .ref (ad 31 9), .ref (ad 31 10), .ref (ad 31 11), .ref (ad 31 12), .ref (ad 31 13), .ref (ad 31 14), .int y_11.objects, .ref (ad 31 15), .int y_11.length, .ref (ad 31 16), .int y_11.waits, .ref (ad 31 17), .int y_11.given, .ref (ad 31 18), .ref (ad 31 19), .ref (ad 31 20), .int y_11.left, .ref (ad 31 21), .ref (ad 31 22), .int y_11.oldLength, .int y_11.oldWaits, .int y_11.oldGiven])) := by have h9 := rm_at.o hR; exact h9
        refine pw_callv (va_runV (As := [.long 6578750122511904364, .int 8]) (rest := []) ⟨hx, hb, hml, hown, hts0⟩ (k_M_append hR hy_16 _) (cwV 2 hts0 (wd_V wd_748 wd_745 wd_747 wd_20 wd_56) rfl rfl rfl (by decide +kernel) ⟨Nat.le_of_ble_eq_true rfl, Nat.le_of_ble_eq_true rfl⟩) (pw_preV hZ hw hA hK hz rfl hc_17 rfl) rfl rfl hl.1 rfl (lv_room (Nat.le_of_ble_eq_true rfl)) d_M_arrayDescriptor_53 ⟨Nat.le_of_ble_eq_true rfl, Nat.le_of_ble_eq_true rfl⟩) hw hA (fun ad_18 C_19 H locs hp hw => ?_)
        obtain ⟨hae, hR, hf1⟩ := hp
        rw [hae] at hw
        clear hae
        have hfr : rm_fr C C_19 := fun x y h9 => (hf1 x y h9).trans (hfr x y h9)
        clear hf1
        refine lv_aload_n hx hb d_M_arrayDescriptor_56 rfl (lv_at hl 1 rfl) ?_
        refine lv_ldc2 (v := 7020662317715188325) hx hb hown (hts _ wd_967) d_M_arrayDescriptor_57 ?_
        refine lv_bipush (v := 8) hx hb d_M_arrayDescriptor_60 (by decide) ?_
        obtain ⟨y_21, hy_21, hE⟩ := ob_some hE
        have hc_22 : C_19 30 0 = some (.inr (4, [.ref (ad 31 0), .ref (ad 31 1), .ref (ad 31 2), .ref (ad 31 3), .ref (ad 31 4), .ref (ad 31 5), .ref (ad 31 6), .ref (ad 31 7), .ref (ad 31 8), .ref (ad 31 9), .ref (ad 31 10), .ref (ad 31 11), .ref (ad 31 12), .ref (ad 31 13), .ref (ad 31 14), .int y_16.objects, .ref (ad 31 15), .int y_16.length, .ref (ad 31 16), .int y_16.waits, .ref (ad 31 17), .int y_16.given, .ref (ad 31 18), .ref (ad 31 19), .ref (ad 31 20), .int y_16.left, .ref (ad 31 21), .ref (ad 31 22), .int y_16.oldLength, .int y_16.oldWaits, .int y_16.oldGiven])) := by have h9 := rm_at.o hR; exact h9
        refine pw_callv (va_runV (As := [.long 7020662317715188325, .int 8]) (rest := []) ⟨hx, hb, hml, hown, hts0⟩ (k_M_append hR hy_21 _) (cwV 2 hts0 (wd_V wd_748 wd_745 wd_747 wd_20 wd_56) rfl rfl rfl (by decide +kernel) ⟨Nat.le_of_ble_eq_true rfl, Nat.le_of_ble_eq_true rfl⟩) (pw_preV hZ hw hA hK hz rfl hc_22 rfl) rfl rfl hl.1 rfl (lv_room (Nat.le_of_ble_eq_true rfl)) d_M_arrayDescriptor_62 ⟨Nat.le_of_ble_eq_true rfl, Nat.le_of_ble_eq_true rfl⟩) hw hA (fun ad_23 C_24 H locs hp hw => ?_)
        obtain ⟨hae, hR, hf1⟩ := hp
        rw [hae] at hw
        clear hae
        have hfr : rm_fr C C_24 := fun x y h9 => (hf1 x y h9).trans (hfr x y h9)
        clear hf1
        refine lv_aload_n hx hb d_M_arrayDescriptor_65 rfl (lv_at hl 1 rfl) ?_
        refine lv_ldc2 (v := 6517819) hx hb hown (hts _ wd_968) d_M_arrayDescriptor_66 ?_
        refine lv_iconst (v := 3) hx hb d_M_arrayDescriptor_69 (by decide) ?_
        obtain ⟨y_26, hy_26, hE⟩ := ob_some hE
        have hc_27 : C_24 30 0 = some (.inr (4, [.ref (ad 31 0), .ref (ad 31 1), .ref (ad 31 2), .ref (ad 31 3), .ref (ad 31 4), .ref (ad 31 5), .ref (ad 31 6), .ref (ad 31 7), .ref (ad 31 8), .ref (ad 31 9), .ref (ad 31 10), .ref (ad 31 11), .ref (ad 31 12), .ref (ad 31 13), .ref (ad 31 14), .int y_21.objects, .ref (ad 31 15), .int y_21.length, .ref (ad 31 16), .int y_21.waits, .ref (ad 31 17), .int y_21.given, .ref (ad 31 18), .ref (ad 31 19), .ref (ad 31 20), .int y_21.left, .ref (ad 31 21), .ref (ad 31 22), .int y_21.oldLength, .int y_21.oldWaits, .int y_21.oldGiven])) := by have h9 := rm_at.o hR; exact h9
        refine pw_callv (va_runV (As := [.long 6517819, .int 3]) (rest := []) ⟨hx, hb, hml, hown, hts0⟩ (k_M_append hR hy_26 _) (cwV 2 hts0 (wd_V wd_748 wd_745 wd_747 wd_20 wd_56) rfl rfl rfl (by decide +kernel) ⟨Nat.le_of_ble_eq_true rfl, Nat.le_of_ble_eq_true rfl⟩) (pw_preV hZ hw hA hK hz rfl hc_27 rfl) rfl rfl hl.1 rfl (lv_room (Nat.le_of_ble_eq_true rfl)) d_M_arrayDescriptor_70 ⟨Nat.le_of_ble_eq_true rfl, Nat.le_of_ble_eq_true rfl⟩) hw hA (fun ad_28 C_29 H locs hp hw => ?_)
        obtain ⟨hae, hR, hf1⟩ := hp
        rw [hae] at hw
        clear hae
        have hfr : rm_fr C C_29 := fun x y h9 => (hf1 x y h9).trans (hfr x y h9)
        clear hf1
        refine lv_goto (tgt := 92) hx hb d_M_arrayDescriptor_73 (by decide) ?_
        refine lv_aload_n hx hb d_M_arrayDescriptor_92 rfl (lv_at hl 1 rfl) ?_
        refine lv_iload_n hx hb d_M_arrayDescriptor_93 rfl (lv_at hl 2 rfl) ?_
        refine lv_if_eq (tgt := 103) hx hb d_M_arrayDescriptor_94 (by decide) (fun c_31 => ?_) (fun c_31 => ?_)
        · exact absurd c_31 (by decide)
        · skip
          refine lv_ldc2 (v := (-8012369246846506644)) hx hb hown (hts _ wd_971) d_M_arrayDescriptor_97 ?_
          refine lv_goto (tgt := 106) hx hb d_M_arrayDescriptor_100 (by decide) ?_
          refine lv_bipush (v := 8) hx hb d_M_arrayDescriptor_106 (by decide) ?_
          obtain ⟨y_32, hy_32, hE⟩ := ob_some hE
          have hc_33 : C_29 30 0 = some (.inr (4, [.ref (ad 31 0), .ref (ad 31 1), .ref (ad 31 2), .ref (ad 31 3), .ref (ad 31 4), .ref (ad 31 5), .ref (ad 31 6), .ref (ad 31 7), .ref (ad 31 8), .ref (ad 31 9), .ref (ad 31 10), .ref (ad 31 11), .ref (ad 31 12), .ref (ad 31 13), .ref (ad 31 14), .int y_26.objects, .ref (ad 31 15), .int y_26.length, .ref (ad 31 16), .int y_26.waits, .ref (ad 31 17), .int y_26.given, .ref (ad 31 18), .ref (ad 31 19), .ref (ad 31 20), .int y_26.left, .ref (ad 31 21), .ref (ad 31 22), .int y_26.oldLength, .int y_26.oldWaits, .int y_26.oldGiven])) := by have h9 := rm_at.o hR; exact h9
          refine pw_callv (va_runV (As := [.long (-8012369246846506644), .int 8]) (rest := []) ⟨hx, hb, hml, hown, hts0⟩ (k_M_append hR hy_32 _) (cwV 2 hts0 (wd_V wd_748 wd_745 wd_747 wd_20 wd_56) rfl rfl rfl (by decide +kernel) ⟨Nat.le_of_ble_eq_true rfl, Nat.le_of_ble_eq_true rfl⟩) (pw_preV hZ hw hA hK hz rfl hc_33 rfl) rfl rfl hl.1 rfl (lv_room (Nat.le_of_ble_eq_true rfl)) d_M_arrayDescriptor_108 ⟨Nat.le_of_ble_eq_true rfl, Nat.le_of_ble_eq_true rfl⟩) hw hA (fun ad_34 C_35 H locs hp hw => ?_)
          obtain ⟨hae, hR, hf1⟩ := hp
          rw [hae] at hw
          clear hae
          have hfr : rm_fr C C_35 := fun x y h9 => (hf1 x y h9).trans (hfr x y h9)
          clear hf1
          refine lv_aload_n hx hb d_M_arrayDescriptor_111 rfl (lv_at hl 1 rfl) ?_
          refine lv_iload_n hx hb d_M_arrayDescriptor_112 rfl (lv_at hl 0 rfl) ?_
          refine lv_iconst (v := 2) hx hb d_M_arrayDescriptor_113 (by decide) ?_
          obtain ⟨y_37, hy_37, hE⟩ := ob_some hE
          have hc_38 : C_35 30 0 = some (.inr (4, [.ref (ad 31 0), .ref (ad 31 1), .ref (ad 31 2), .ref (ad 31 3), .ref (ad 31 4), .ref (ad 31 5), .ref (ad 31 6), .ref (ad 31 7), .ref (ad 31 8), .ref (ad 31 9), .ref (ad 31 10), .ref (ad 31 11), .ref (ad 31 12), .ref (ad 31 13), .ref (ad 31 14), .int y_32.objects, .ref (ad 31 15), .int y_32.length, .ref (ad 31 16), .int y_32.waits, .ref (ad 31 17), .int y_32.given, .ref (ad 31 18), .ref (ad 31 19), .ref (ad 31 20), .int y_32.left, .ref (ad 31 21), .ref (ad 31 22), .int y_32.oldLength, .int y_32.oldWaits, .int y_32.oldGiven])) := by have h9 := rm_at.o hR; exact h9
          refine pw_callv (va_runV (As := [.int 47, .int 2]) (rest := []) ⟨hx, hb, hml, hown, hts0⟩ (k_M_plainEnd hR hy_37 _) (cwV 2 hts0 (wd_V wd_976 wd_973 wd_975 wd_38 wd_56) rfl rfl rfl (by decide +kernel) ⟨Nat.le_of_ble_eq_true rfl, Nat.le_of_ble_eq_true rfl⟩) (pw_preV hZ hw hA hK hz rfl hc_38 rfl) rfl rfl hl.1 rfl (lv_room (Nat.le_of_ble_eq_true rfl)) d_M_arrayDescriptor_114 ⟨Nat.le_of_ble_eq_true rfl, Nat.le_of_ble_eq_true rfl⟩) hw hA (fun ad_39 C_40 H locs hp hw => ?_)
          obtain ⟨hae, hR, hf1⟩ := hp
          rw [hae] at hw
          clear hae
          have hfr : rm_fr C C_40 := fun x y h9 => (hf1 x y h9).trans (hfr x y h9)
          clear hf1
          refine lv_aload_n hx hb d_M_arrayDescriptor_117 rfl (lv_at hl 1 rfl) ?_
          refine lv_ldc2 (v := 112) hx hb hown (hts _ wd_943) d_M_arrayDescriptor_118 ?_
          refine lv_iconst (v := 1) hx hb d_M_arrayDescriptor_121 (by decide) ?_
          obtain ⟨y_42, hy_42, hE⟩ := ob_some hE
          have hc_43 : C_40 30 0 = some (.inr (4, [.ref (ad 31 0), .ref (ad 31 1), .ref (ad 31 2), .ref (ad 31 3), .ref (ad 31 4), .ref (ad 31 5), .ref (ad 31 6), .ref (ad 31 7), .ref (ad 31 8), .ref (ad 31 9), .ref (ad 31 10), .ref (ad 31 11), .ref (ad 31 12), .ref (ad 31 13), .ref (ad 31 14), .int y_37.objects, .ref (ad 31 15), .int y_37.length, .ref (ad 31 16), .int y_37.waits, .ref (ad 31 17), .int y_37.given, .ref (ad 31 18), .ref (ad 31 19), .ref (ad 31 20), .int y_37.left, .ref (ad 31 21), .ref (ad 31 22), .int y_37.oldLength, .int y_37.oldWaits, .int y_37.oldGiven])) := by have h9 := rm_at.o hR; exact h9
          refine pw_callv (va_runV (As := [.long 112, .int 1]) (rest := []) ⟨hx, hb, hml, hown, hts0⟩ (k_M_append hR hy_42 _) (cwV 2 hts0 (wd_V wd_748 wd_745 wd_747 wd_20 wd_56) rfl rfl rfl (by decide +kernel) ⟨Nat.le_of_ble_eq_true rfl, Nat.le_of_ble_eq_true rfl⟩) (pw_preV hZ hw hA hK hz rfl hc_43 rfl) rfl rfl hl.1 rfl (lv_room (Nat.le_of_ble_eq_true rfl)) d_M_arrayDescriptor_122 ⟨Nat.le_of_ble_eq_true rfl, Nat.le_of_ble_eq_true rfl⟩) hw hA (fun ad_44 C_45 H locs hp hw => ?_)
          obtain ⟨hae, hR, hf1⟩ := hp
          rw [hae] at hw
          clear hae
          have hfr : rm_fr C C_45 := fun x y h9 => (hf1 x y h9).trans (hfr x y h9)
          clear hf1
          obtain rfl := Option.some.inj hE
          exact pw_vret hx hb hr hlocks hw ⟨rfl, hR, hfr⟩ d_M_arrayDescriptor_125
    · rw [if_neg c_5] at hE
      refine lv_aload_n hx hb d_M_arrayDescriptor_21 rfl (lv_at hl 1 rfl) ?_
      refine lv_iload_n hx hb d_M_arrayDescriptor_22 rfl (lv_at hl 0 rfl) ?_
      obtain ⟨y_47, hy_47, hE⟩ := ob_some hE
      refine pw_callv (va_runV (As := [.int 47]) (rest := []) ⟨hx, hb, hml, hown, hts0⟩ (k_M_refer hR hy_47 _) (cwV 1 hts0 (wd_V wd_947 wd_944 wd_946 wd_34 wd_56) rfl rfl rfl (by decide +kernel) ⟨Nat.le_of_ble_eq_true rfl, Nat.le_of_ble_eq_true rfl⟩) (pw_preV hZ hw hA hK hz rfl hc_2 rfl) rfl rfl hl.1 rfl (lv_room (Nat.le_of_ble_eq_true rfl)) d_M_arrayDescriptor_23 ⟨Nat.le_of_ble_eq_true rfl, Nat.le_of_ble_eq_true rfl⟩) hw hA (fun ad_48 C_49 H locs hp hw => ?_)
      obtain ⟨hae, hR, hf1⟩ := hp
      rw [hae] at hw
      clear hae
      have hfr : rm_fr C C_49 := fun x y h9 => (hf1 x y h9).trans (hfr x y h9)
      clear hf1
      obtain rfl := Option.some.inj hE
      exact pw_vret hx hb hr hlocks hw ⟨rfl, hR, hfr⟩ d_M_arrayDescriptor_26
def m_standing_9 (K : Int32 → Int32 → Int32 → Int32 → RS → Option (Int32 × RS)) : Nat → Int32 → Int32 → Int32 → Int32 → RS → Option (Int32 × RS)
  | 0, _, _, _, _, _ => none
  | n + 1, x4_1, x3_1, x2_1, x1_1, r => if (20 : Int32) ≤ x4_1 then (K x4_1 x3_1 x2_1 x1_1 r) else (Option.bind (rd r.sort 20 x3_1) (fun v_5 => if (v_5 : Int32) = 0 then (Option.bind (rd r.standIn 20 x3_1) (fun v_9 => if (v_9 : Int32) < 0 then (some (x3_1, r)) else (if ((x2_1 >>> (v_9 &&& 31)) &&& 1 : Int32) = 1 then (some (x3_1, r)) else (m_standing_9 K n (x4_1 + 1) v_9 (x2_1 ||| (1 <<< (v_9 &&& 31))) x1_1 r)))) else (some (x3_1, r))))
def m_standing (l1 : Int32) (r : RS) : Option (Int32 × RS) := m_standing_9 (fun z4_1 z3_1 z2_1 z1_1 r_12 => some (z3_1, r_12)) 60 0 l1 (1 <<< (l1 &&& 31)) l1 r
set_option maxHeartbeats 4000000 in
set_option maxRecDepth 100000 in
theorem k_M_standing {l : Launch} {D : va_G} {ca : Nat → ClassId} {kS : Nat → Nat} {kT : Nat} {ad : pw_A} {C : pw_C} {r : RS} (hR : rm_at ca ad C r) {l1 : Int32} {res : (Int32 × RS)} (hE : m_standing l1 r = some res) : gc_Con l y_M_standing c_M_standing ({ frames := 0, cells := 0, slots := 0, locals := 0 }) D ca (z9_Z kS kT) [.ref (ad 30 0), .int l1] ad C (pw_pi (fun v ad' C' => (ad' = ad ∧ rm_at ca ad C' res.2 ∧ rm_fr C C') ∧ v = res.1)) 0 0 := by
  have hZ := z9_ok kS kT
  refine pw_ofW (cc := b_M_standing) (maxL := 6) (ret := (some FieldType.int)) (by decide) rfl (Nat.le_of_ble_eq_true rfl) ?_
  intro p e s m args below meth c A ls hB hA hw hK hz hl
  obtain ⟨hx, hb, hr, hml, hts0, hlocks, hown, hnm⟩ := hB
  have hts := wd_hts hts0
  have hown : s.vm.findClass "GraphWriterModel" = some m.cls := hown
  have hl : lv_has ls 6 [(0, .ref (ad 30 0)), (1, .int l1)] := hl
  have hfr : rm_fr C C := fun _ _ _ => rfl
  unfold m_standing at hE
  refine lv_iconst (v := 1) hx hb d_M_standing_0 (by decide) ?_
  refine lv_iload_n hx hb d_M_standing_1 rfl (lv_at hl 1 rfl) ?_
  refine lv_ishl hx hb d_M_standing_2 ?_
  refine lv_istore_n (lv' := [(2, .int (1 <<< (l1 &&& 31))), (0, .ref (ad 30 0)), (1, .int l1)]) hx hb d_M_standing_3 rfl hl (by decide) rfl (fun ls hl => ?_)
  refine lv_iload_n hx hb d_M_standing_4 rfl (lv_at hl 2 rfl) ?_
  refine lv_istore_n (lv' := [(3, .int l1), (2, .int (1 <<< (l1 &&& 31))), (0, .ref (ad 30 0)), (1, .int l1)]) hx hb d_M_standing_5 rfl hl (by decide) rfl (fun ls hl => ?_)
  refine lv_iconst (v := 0) hx hb d_M_standing_6 (by decide) ?_
  refine lv_istore (lv' := [(4, .int 0), (3, .int l1), (2, .int (1 <<< (l1 &&& 31))), (0, .ref (ad 30 0)), (1, .int l1)]) hx hb d_M_standing_7 hl (by decide) rfl (fun ls hl => ?_)
  have lp_1 : ∀ (K : Int32 → Int32 → Int32 → Int32 → RS → Option (Int32 × RS)), (∀ (x4_1 : Int32) (x3_1 : Int32) (x2_1 : Int32) (x1_1 : Int32) (r : RS) (C1 : pw_C) (H : Heap) (locs : List Loc) (ls : Array Slot), K x4_1 x3_1 x2_1 x1_1 r = some res → rm_at ca ad C1 r → rm_fr C C1 → pw_H D cls9 A s.heap ad C ad C1 H locs → lv_has ls 6 [(4, .int x4_1), (3, .int x3_1), (2, .int x2_1), (0, .ref (ad 30 0)), (1, .int x1_1)] → W p l e ({ frames := 0, cells := 0, slots := 0, locals := 0 }) s m args below meth c H locs 0 0 (MQ below (pw_Q D cls9 ad C (pw_pi (fun v ad' C' => (ad' = ad ∧ rm_at ca ad C' res.2 ∧ rm_fr C C') ∧ v = res.1)) A) args s 0 0 A) (F0 m 69 ls [])) → ∀ (n : Nat) (x4_1 : Int32) (x3_1 : Int32) (x2_1 : Int32) (x1_1 : Int32) (r : RS) (C1 : pw_C) (H : Heap) (locs : List Loc) (ls : Array Slot), m_standing_9 K n x4_1 x3_1 x2_1 x1_1 r = some res → rm_at ca ad C1 r → rm_fr C C1 → pw_H D cls9 A s.heap ad C ad C1 H locs → lv_has ls 6 [(4, .int x4_1), (3, .int x3_1), (2, .int x2_1), (0, .ref (ad 30 0)), (1, .int x1_1)] → W p l e ({ frames := 0, cells := 0, slots := 0, locals := 0 }) s m args below meth c H locs 0 0 (MQ below (pw_Q D cls9 ad C (pw_pi (fun v ad' C' => (ad' = ad ∧ rm_at ca ad C' res.2 ∧ rm_fr C C') ∧ v = res.1)) A) args s 0 0 A) (F0 m 9 ls []) := by
    intro K hKK n
    induction n with
    | zero => intro x4_1 x3_1 x2_1 x1_1 r C1 H locs ls hE; rw [m_standing_9] at hE; exact absurd hE (by simp)
    | succ n ih =>
      intro x4_1 x3_1 x2_1 x1_1 r C1 H locs ls hE hR hfr hw hl
      rw [m_standing_9] at hE
      refine lv_iload hx hb d_M_standing_9 (lv_at hl 0 rfl) ?_
      refine lv_bipush (v := 20) hx hb d_M_standing_11 (by decide) ?_
      refine lv_icmp_ge (tgt := 69) hx hb d_M_standing_13 (by decide) (fun c_2 => ?_) (fun c_2 => ?_)
      · rw [if_pos c_2] at hE
        exact hKK _ _ _ _ _ _ _ _ _ hE hR hfr hw (lv_sub hl [0, 1, 2, 3, 4] rfl)
      · rw [if_neg c_2] at hE
        refine lv_aload_n hx hb d_M_standing_16 rfl (lv_at hl 3 rfl) ?_
        have hc_3 : C1 30 0 = some (.inr (4, [.ref (ad 31 0), .ref (ad 31 1), .ref (ad 31 2), .ref (ad 31 3), .ref (ad 31 4), .ref (ad 31 5), .ref (ad 31 6), .ref (ad 31 7), .ref (ad 31 8), .ref (ad 31 9), .ref (ad 31 10), .ref (ad 31 11), .ref (ad 31 12), .ref (ad 31 13), .ref (ad 31 14), .int r.objects, .ref (ad 31 15), .int r.length, .ref (ad 31 16), .int r.waits, .ref (ad 31 17), .int r.given, .ref (ad 31 18), .ref (ad 31 19), .ref (ad 31 20), .int r.left, .ref (ad 31 21), .ref (ad 31 22), .int r.oldLength, .int r.oldWaits, .int r.oldGiven])) := by have h9 := rm_at.o hR; exact h9
        refine pw_get (Cn := "GraphWriterModel") (T := F_M) (N := 31) hx hb hts in_M hown hK hw 30 0 rfl hc_3 rfl 8 (by decide) (hts _ wd_762) (fun _ h9 => h9) rfl d_M_standing_17 ?_
        refine lv_iload_n hx hb d_M_standing_20 rfl (lv_at hl 1 rfl) ?_
        have hc_4 : C1 31 8 = some (.inl (ca 0, 20, .inl r.sort)) := by have h9 := rm_at.a8 hR; exact h9
        obtain ⟨v_5, hv_5, hE⟩ := ob_some hE
        obtain ⟨hi_v_5, hj_v_5, he_v_5⟩ := rd_some (by decide) hv_5
        refine pw_iald hx hb hK hw 31 8 rfl 0 hc_4 rfl (x3_1 : Int32).toNatClampNeg hi_v_5 (by omega) (by omega) d_M_standing_21 ?_
        rw [← he_v_5]
        refine lv_if_ne (tgt := 34) hx hb d_M_standing_22 (by decide) (fun c_6 => ?_) (fun c_6 => ?_)
        · rw [if_neg c_6] at hE
          refine lv_iconst (v := (-1)) hx hb d_M_standing_34 (by decide) ?_
          refine lv_istore (lv' := [(5, .int (-1)), (4, .int x4_1), (3, .int x3_1), (2, .int x2_1), (0, .ref (ad 30 0)), (1, .int x1_1)]) hx hb d_M_standing_35 hl (by decide) rfl (fun ls hl => ?_)
          refine lv_iload hx hb d_M_standing_37 (lv_at hl 0 rfl) ?_
          refine lv_if_lt (tgt := 52) hx hb d_M_standing_39 (by decide) (fun c_7 => ?_) (fun c_7 => ?_)
          · skip
            refine lv_iload_n hx hb d_M_standing_52 rfl (lv_at hl 2 rfl) ?_
            obtain rfl := Option.some.inj hE
            exact pw_iret hx hb hr hlocks hw ⟨⟨rfl, hR, hfr⟩, rfl⟩ d_M_standing_53
          · exact absurd (by decide) c_7
        · rw [if_pos c_6] at hE
          refine lv_aload_n hx hb d_M_standing_25 rfl (lv_at hl 3 rfl) ?_
          refine pw_get (Cn := "GraphWriterModel") (T := F_M) (N := 31) hx hb hts in_M hown hK hw 30 0 rfl hc_3 rfl 13 (by decide) (hts _ wd_767) (fun _ h9 => h9) rfl d_M_standing_26 ?_
          refine lv_iload_n hx hb d_M_standing_29 rfl (lv_at hl 1 rfl) ?_
          have hc_8 : C1 31 13 = some (.inl (ca 0, 20, .inl r.standIn)) := by have h9 := rm_at.a13 hR; exact h9
          obtain ⟨v_9, hv_9, hE⟩ := ob_some hE
          obtain ⟨hi_v_9, hj_v_9, he_v_9⟩ := rd_some (by decide) hv_9
          refine pw_iald hx hb hK hw 31 13 rfl 0 hc_8 rfl (x3_1 : Int32).toNatClampNeg hi_v_9 (by omega) (by omega) d_M_standing_30 ?_
          rw [← he_v_9]
          refine lv_goto (tgt := 35) hx hb d_M_standing_31 (by decide) ?_
          refine lv_istore (lv' := [(5, .int v_9), (4, .int x4_1), (3, .int x3_1), (2, .int x2_1), (0, .ref (ad 30 0)), (1, .int x1_1)]) hx hb d_M_standing_35 hl (by decide) rfl (fun ls hl => ?_)
          refine lv_iload hx hb d_M_standing_37 (lv_at hl 0 rfl) ?_
          refine lv_if_lt (tgt := 52) hx hb d_M_standing_39 (by decide) (fun c_10 => ?_) (fun c_10 => ?_)
          · rw [if_pos c_10] at hE
            refine lv_iload_n hx hb d_M_standing_52 rfl (lv_at hl 2 rfl) ?_
            obtain rfl := Option.some.inj hE
            exact pw_iret hx hb hr hlocks hw ⟨⟨rfl, hR, hfr⟩, rfl⟩ d_M_standing_53
          · rw [if_neg c_10] at hE
            refine lv_iload_n hx hb d_M_standing_42 rfl (lv_at hl 3 rfl) ?_
            refine lv_iload hx hb d_M_standing_43 (lv_at hl 0 rfl) ?_
            refine lv_ishr hx hb d_M_standing_45 ?_
            refine lv_iconst (v := 1) hx hb d_M_standing_46 (by decide) ?_
            refine lv_iand hx hb d_M_standing_47 ?_
            refine lv_iconst (v := 1) hx hb d_M_standing_48 (by decide) ?_
            refine lv_icmp_ne (tgt := 54) hx hb d_M_standing_49 (by decide) (fun c_11 => ?_) (fun c_11 => ?_)
            · rw [if_neg c_11] at hE
              refine lv_iload hx hb d_M_standing_54 (lv_at hl 0 rfl) ?_
              refine lv_istore_n (lv' := [(3, .int v_9), (5, .int v_9), (4, .int x4_1), (2, .int x2_1), (0, .ref (ad 30 0)), (1, .int x1_1)]) hx hb d_M_standing_56 rfl hl (by decide) rfl (fun ls hl => ?_)
              refine lv_iload_n hx hb d_M_standing_57 rfl (lv_at hl 3 rfl) ?_
              refine lv_iconst (v := 1) hx hb d_M_standing_58 (by decide) ?_
              refine lv_iload_n hx hb d_M_standing_59 rfl (lv_at hl 0 rfl) ?_
              refine lv_ishl hx hb d_M_standing_60 ?_
              refine lv_ior hx hb d_M_standing_61 ?_
              refine lv_istore_n (lv' := [(2, .int (x2_1 ||| (1 <<< (v_9 &&& 31)))), (3, .int v_9), (5, .int v_9), (4, .int x4_1), (0, .ref (ad 30 0)), (1, .int x1_1)]) hx hb d_M_standing_62 rfl hl (by decide) rfl (fun ls hl => ?_)
              refine lv_iinc (v := x4_1 + 1) (lv' := [(4, .int (x4_1 + 1)), (2, .int (x2_1 ||| (1 <<< (v_9 &&& 31)))), (3, .int v_9), (5, .int v_9), (0, .ref (ad 30 0)), (1, .int x1_1)]) hx hb d_M_standing_63 hl (k := 3) rfl rfl (by decide) rfl (fun ls hl => ?_)
              refine lv_goto (tgt := 9) hx hb d_M_standing_66 (by decide) ?_
              exact ih _ _ _ _ _ _ _ _ _ hE hR hfr hw (lv_sub hl [0, 2, 1, 4, 5] rfl)
            · rw [if_pos c_11] at hE
              refine lv_iload_n hx hb d_M_standing_52 rfl (lv_at hl 2 rfl) ?_
              obtain rfl := Option.some.inj hE
              exact pw_iret hx hb hr hlocks hw ⟨⟨rfl, hR, hfr⟩, rfl⟩ d_M_standing_53
  refine lp_1 _ (fun z4_1 z3_1 z2_1 z1_1 r_12 C_13 H locs ls hE hR hfr hw hl => ?_) 60 _ _ _ _ _ _ _ _ _ hE hR hfr hw hl
  try dsimp only at hE
  refine lv_iload_n hx hb d_M_standing_69 rfl (lv_at hl 1 rfl) ?_
  obtain rfl := Option.some.inj hE
  exact pw_iret hx hb hr hlocks hw ⟨⟨rfl, hR, hfr⟩, rfl⟩ d_M_standing_70
