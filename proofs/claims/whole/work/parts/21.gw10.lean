def ga_hasr (d : DT) (n : Int32) : Nat → Int32
  | 0 => 0
  | r + 1 => if dd_nm d (dd_fn d - 1 - r) = n then 1 else ga_hasr d n r
def ga_rank (d : DT) (f : Nat) : Int32 := if 6 ≤ dd_ty d f then 26 + dd_nm d f else dd_nm d f
def dd_so (d : DT) (o : Nat → Int32) : DT := (dd_kd d, dd_id d, dd_cn d, dd_cf d, dd_nm d, dd_ty d, o, dd_fn d, dd_sh d, dd_us d)
def dd_ss (d : DT) (s : Nat) : DT := (dd_kd d, dd_id d, dd_cn d, dd_cf d, dd_nm d, dd_ty d, dd_or d, dd_fn d, s, dd_us d)
def dd_sf (d : DT) (s : Nat) : DT := (dd_kd d, dd_id d, dd_cn d, dd_cf d, dd_nm d, dd_ty d, dd_or d, s, dd_sh d, dd_us d)
def dd_sn (d : DT) (n t : Nat → Int32) : DT := (dd_kd d, dd_id d, dd_cn d, dd_cf d, n, t, dd_or d, dd_fn d, dd_sh d, dd_us d)
def dd_su (d : DT) (u : Int32) : DT := (dd_kd d, dd_id d, dd_cn d, dd_cf d, dd_nm d, dd_ty d, dd_or d, dd_fn d, dd_sh d, u)
/-- a field's place among those shown -/
def ga_pio (d : DT) (f : Nat) : Nat → (Nat → Int32) → (Nat → Int32)
  | 0, o => upd o 0 (nI f)
  | p + 1, o => if ga_rank d (o p).toNatClampNeg ≤ ga_rank d f then upd o (p + 1) (nI f) else ga_pio d f p (upd o (p + 1) (o p))
def ga_put (d : DT) (f : Nat) : DT := dd_ss (dd_so d (ga_pio d f (dd_sh d) (dd_or d))) (dd_sh d + 1)
def ga_add (d : DT) (n t tr : Int32) : DT := (fun e : DT => dd_sf e (dd_fn d + 1)) (if tr = 0 then ga_put (dd_sn d (upd (dd_nm d) (dd_fn d) n) (upd (dd_ty d) (dd_fn d) t)) (dd_fn d) else dd_sn d (upd (dd_nm d) (dd_fn d) n) (upd (dd_ty d) (dd_fn d) t))
abbrev dk_fr (k : Nat) (C C' : pw_C) : Prop := ∀ x y, ¬ ((x = 10 ∨ x = 12 ∨ x = 13 ∨ x = 14) ∧ y = k) → C' x y = C x y
theorem gw_at.klass {ca : Nat → ClassId} {kS : Nat → Nat} {kT : Nat} {ad : pw_A} {C C1 : pw_C} {cd : Nat → Option DT} {mk : Nat} {td : Nat → TT} (h : gw_at ca kS kT ad C cd mk td) {j : Nat} {d0 d : DT} (hj : cd j = some d0) (hf : dk_fr j C C1) (ht : dd_at ca ad C1 j d) : gw_at ca kS kT ad C1 (va_up cd j (some d)) mk td := by
  obtain ⟨h0, h1, h2, h3, h4, h5, h6, h7, h8⟩ := h
  have e1 : gw_cf ad (va_up cd j (some d)) = gw_cf ad cd := by
    funext i
    by_cases hij : i = j
    · subst hij; simp [gw_cf, va_up_self, hj]
    · simp [gw_cf, va_up_ne _ _ hij]
  refine ⟨(hf 0 0 (by omega)).trans h0, by rw [e1]; exact (hf 1 0 (by omega)).trans h1, (hf 2 0 (by omega)).trans h2, h3, fun k d' hk => ?_, fun i hi => ?_, fun i hi => ?_, (hf 52 0 (by omega)).trans h7, h8⟩
  · by_cases hij : k = j
    · subst hij
      rw [va_up_self] at hk
      cases hk
      exact ⟨(h4 k d0 hj).1, ht⟩
    · rw [va_up_ne _ _ hij] at hk
      obtain ⟨q0, q1, q2, q3, q4, q5, q6⟩ := h4 k d' hk
      exact ⟨q0, (hf 10 k (by omega)).trans q1, (hf 11 k (by omega)).trans q2, (hf 12 k (by omega)).trans q3, (hf 13 k (by omega)).trans q4, (hf 14 k (by omega)).trans q5, q6.of (hf 15 k (by omega)) (hf 16 k (by omega))⟩
  · obtain ⟨q1, q2, q3, q4, q5⟩ := h5 i hi
    exact ⟨(hf 20 i (by omega)).trans q1, (hf 21 i (by omega)).trans q2, (hf 22 i (by omega)).trans q3, q4, fun z => (q5 z).of (hf 23 i (by omega)) (hf 24 i (by omega))⟩
  · exact ⟨(h6 i hi).1.of (hf 50 i (by omega)) (hf 51 i (by omega)), (h6 i hi).2⟩
set_option maxHeartbeats 4000000 in
set_option maxRecDepth 100000 in
theorem k_D_hasField {l : Launch} {D : va_G} {ca : Nat → ClassId} {Z : (Nat → Prop) → State → Prop} (hZ : pw_Zok Z) {ad : pw_A} {C : pw_C} {k : Nat} {d : DT} (hd : dd_at ca ad C k d) (hfn : dd_fn d ≤ 4) (n : Int32) : gc_Con l y_D_hasField c_D_hasField ({ frames := 0, cells := 0, slots := 0, locals := 0 }) D ca Z [.ref (ad 10 k), .int n] ad C (pw_pi (fun r ad' C' => (ad' = ad ∧ C' = C) ∧ r = ga_hasr d n (dd_fn d))) 0 0 := by
  have hd0 := hd
  obtain ⟨q10, q11, q12, q13, q14, qst⟩ := hd
  refine pw_ofW (cc := b_D_hasField) (maxL := 3) (ret := (some FieldType.boolean)) (by decide) rfl (Nat.le_of_ble_eq_true rfl) ?_
  intro p e s m args below meth c A ls hB hA hw hK hz hl
  obtain ⟨hx, hb, hr, hml, hts0, hlocks, hown, hnm⟩ := hB
  have hts := wd_hts hts0
  have hown : s.vm.findClass "GraphWriter$Defined" = some m.cls := hown
  have hl : lv_has ls 3 [(0, .ref (ad 10 k)), (1, .int n)] := hl
  have hfr : dk_fr k C C := fun _ _ _ => rfl
  have key : ∀ (r : Nat) (ls : Array Slot), r ≤ dd_fn d → ga_hasr d n r = ga_hasr d n (dd_fn d) → lv_has ls 3 [(2, .int (nI (dd_fn d - r))), (0, .ref (ad 10 k)), (1, .int n)] → W p l e ({ frames := 0, cells := 0, slots := 0, locals := 0 }) s m args below meth c s.heap [] 0 0 (MQ below (pw_Q D cls9 ad C (pw_pi (fun r ad' C' => (ad' = ad ∧ C' = C) ∧ r = ga_hasr d n (dd_fn d))) A) args s 0 0 A) (F0 m 2 ls []) := by
    intro r
    induction r with
    | zero =>
      intro ls hr9 hga hl
      refine lv_iload_n hx hb d_D_hasField_2 rfl (lv_at hl 0 rfl) ?_
      refine lv_aload_n hx hb d_D_hasField_3 rfl (lv_at hl 1 rfl) ?_
      refine pw_get (Cn := "GraphWriter$Defined") (T := F_D) (N := 11) hx hb hts in_D hown hK hw 10 k rfl q10 rfl 8 (by decide) (hts _ wd_310) (fun _ h9 => h9) rfl d_D_hasField_4 ?_
      refine lv_icmp_ge (tgt := 28) hx hb d_D_hasField_7 (by decide) (fun c_1 => ?_) (fun c_1 => ?_)
      · skip
        refine lv_iconst (v := 0) hx hb d_D_hasField_28 (by decide) ?_
        exact pw_zret hx hb hr hlocks hw rfl ⟨⟨rfl, rfl⟩, hga⟩ d_D_hasField_29
      · exact absurd (nI_le (by omega) (by omega)) c_1
    | succ r ih =>
      intro ls hr9 hga hl
      refine lv_iload_n hx hb d_D_hasField_2 rfl (lv_at hl 0 rfl) ?_
      refine lv_aload_n hx hb d_D_hasField_3 rfl (lv_at hl 1 rfl) ?_
      refine pw_get (Cn := "GraphWriter$Defined") (T := F_D) (N := 11) hx hb hts in_D hown hK hw 10 k rfl q10 rfl 8 (by decide) (hts _ wd_310) (fun _ h9 => h9) rfl d_D_hasField_4 ?_
      refine lv_icmp_ge (tgt := 28) hx hb d_D_hasField_7 (by decide) (fun c_2 => ?_) (fun c_2 => ?_)
      · exact absurd c_2 (nI_ge (by omega) (by omega))
      · skip
        refine lv_aload_n hx hb d_D_hasField_10 rfl (lv_at hl 1 rfl) ?_
        refine pw_get (Cn := "GraphWriter$Defined") (T := F_D) (N := 11) hx hb hts in_D hown hK hw 10 k rfl q10 rfl 5 (by decide) (hts _ wd_304) (fun _ h9 => h9) rfl d_D_hasField_11 ?_
        refine lv_iload_n hx hb d_D_hasField_14 rfl (lv_at hl 0 rfl) ?_
        refine pw_iald hx hb hK hw 12 k rfl 0 q12 rfl (dd_fn d - (r + 1)) rfl (by omega) (by omega) d_D_hasField_15 ?_
        refine lv_iload_n hx hb d_D_hasField_16 rfl (lv_at hl 2 rfl) ?_
        refine lv_icmp_ne (tgt := 22) hx hb d_D_hasField_17 (by decide) (fun c_3 => ?_) (fun c_3 => ?_)
        · skip
          refine lv_iinc (v := (nI (dd_fn d - (r + 1))) + 1) (lv' := [(2, .int ((nI (dd_fn d - (r + 1))) + 1)), (0, .ref (ad 10 k)), (1, .int n)]) hx hb d_D_hasField_22 hl (k := 0) rfl rfl (by decide) rfl (fun ls hl => ?_)
          refine lv_goto (tgt := 2) hx hb d_D_hasField_25 (by decide) ?_
          rw [nI_1, show dd_fn d - (r + 1) + 1 = dd_fn d - r by omega] at hl
          exact ih _ (by omega) (by rw [← hga]; show _ = (if dd_nm d (dd_fn d - 1 - r) = n then (1 : Int32) else ga_hasr d n r); rw [show dd_fn d - 1 - r = dd_fn d - (r + 1) by omega]; exact (if_neg c_3).symm) hl
        · skip
          refine lv_iconst (v := 1) hx hb d_D_hasField_20 (by decide) ?_
          have e9 : ga_hasr d n (dd_fn d) = 1 := by rw [← hga]; show (if dd_nm d (dd_fn d - 1 - r) = n then (1 : Int32) else _) = 1; rw [show dd_fn d - 1 - r = dd_fn d - (r + 1) by omega]; exact if_pos c_3
          exact pw_zret hx hb hr hlocks hw rfl ⟨⟨rfl, rfl⟩, e9.symm⟩ d_D_hasField_21
  refine lv_iconst (v := 0) hx hb d_D_hasField_0 (by decide) ?_
  refine lv_istore_n (lv' := [(2, .int 0), (0, .ref (ad 10 k)), (1, .int n)]) hx hb d_D_hasField_1 rfl hl (by decide) rfl (fun ls hl => ?_)
  exact key (dd_fn d) _ (Nat.le_refl _) rfl (by rw [Nat.sub_self]; exact hl)
set_option maxHeartbeats 4000000 in
set_option maxRecDepth 100000 in
theorem k_D_rank {l : Launch} {D : va_G} {ca : Nat → ClassId} {Z : (Nat → Prop) → State → Prop} (hZ : pw_Zok Z) {ad : pw_A} {C : pw_C} {k : Nat} {d : DT} (hd : dd_at ca ad C k d) {f : Nat} (hf : f < 4) : gc_Con l y_D_rank c_D_rank ({ frames := 0, cells := 0, slots := 0, locals := 0 }) D ca Z [.ref (ad 10 k), .int (nI f)] ad C (pw_pi (fun r ad' C' => (ad' = ad ∧ C' = C) ∧ r = ga_rank d f)) 0 0 := by
  have hd0 := hd
  obtain ⟨q10, q11, q12, q13, q14, qst⟩ := hd
  refine pw_ofW (cc := b_D_rank) (maxL := 2) (ret := (some FieldType.int)) (by decide) rfl (Nat.le_of_ble_eq_true rfl) ?_
  intro p e s m args below meth c A ls hB hA hw hK hz hl
  obtain ⟨hx, hb, hr, hml, hts0, hlocks, hown, hnm⟩ := hB
  have hts := wd_hts hts0
  have hown : s.vm.findClass "GraphWriter$Defined" = some m.cls := hown
  have hl : lv_has ls 2 [(0, .ref (ad 10 k)), (1, .int (nI f))] := hl
  have hfr : dk_fr k C C := fun _ _ _ => rfl
  refine lv_aload_n hx hb d_D_rank_0 rfl (lv_at hl 0 rfl) ?_
  refine pw_get (Cn := "GraphWriter$Defined") (T := F_D) (N := 11) hx hb hts in_D hown hK hw 10 k rfl q10 rfl 6 (by decide) (hts _ wd_306) (fun _ h9 => h9) rfl d_D_rank_1 ?_
  refine lv_iload_n hx hb d_D_rank_4 rfl (lv_at hl 1 rfl) ?_
  refine pw_iald hx hb hK hw 13 k rfl 0 q13 rfl f rfl (by omega) (by omega) d_D_rank_5 ?_
  refine lv_bipush (v := 6) hx hb d_D_rank_6 (by decide) ?_
  refine lv_icmp_ge (tgt := 20) hx hb d_D_rank_8 (by decide) (fun c_1 => ?_) (fun c_1 => ?_)
  · skip
    refine lv_bipush (v := 26) hx hb d_D_rank_20 (by decide) ?_
    refine lv_aload_n hx hb d_D_rank_22 rfl (lv_at hl 0 rfl) ?_
    refine pw_get (Cn := "GraphWriter$Defined") (T := F_D) (N := 11) hx hb hts in_D hown hK hw 10 k rfl q10 rfl 5 (by decide) (hts _ wd_304) (fun _ h9 => h9) rfl d_D_rank_23 ?_
    refine lv_iload_n hx hb d_D_rank_26 rfl (lv_at hl 1 rfl) ?_
    refine pw_iald hx hb hK hw 12 k rfl 0 q12 rfl f rfl (by omega) (by omega) d_D_rank_27 ?_
    refine lv_iadd hx hb d_D_rank_28 ?_
    exact pw_iret hx hb hr hlocks hw ⟨⟨rfl, rfl⟩, (if_pos c_1).symm⟩ d_D_rank_29
  · skip
    refine lv_aload_n hx hb d_D_rank_11 rfl (lv_at hl 0 rfl) ?_
    refine pw_get (Cn := "GraphWriter$Defined") (T := F_D) (N := 11) hx hb hts in_D hown hK hw 10 k rfl q10 rfl 5 (by decide) (hts _ wd_304) (fun _ h9 => h9) rfl d_D_rank_12 ?_
    refine lv_iload_n hx hb d_D_rank_15 rfl (lv_at hl 1 rfl) ?_
    refine pw_iald hx hb hK hw 12 k rfl 0 q12 rfl f rfl (by omega) (by omega) d_D_rank_16 ?_
    refine lv_goto (tgt := 29) hx hb d_D_rank_17 (by decide) ?_
    exact pw_iret hx hb hr hlocks hw ⟨⟨rfl, rfl⟩, (if_neg c_1).symm⟩ d_D_rank_29
set_option maxHeartbeats 4000000 in
set_option maxRecDepth 100000 in
theorem k_D_putInOrder {l : Launch} {D : va_G} {ca : Nat → ClassId} {Z : (Nat → Prop) → State → Prop} (hZ : pw_Zok Z) {ad : pw_A} {C : pw_C} {k : Nat} {d : DT} (hd : dd_at ca ad C k d) {f : Nat} (hf : f < 4) (hsh : dd_sh d < 4) (hor : ∀ i, i < dd_sh d → ∃ g, g < 4 ∧ dd_or d i = nI g) : gc_Con l y_D_putInOrder c_D_putInOrder ({ frames := 1, cells := 0, slots := 0, locals := 21 }) D ca Z [.ref (ad 10 k), .int (nI f)] ad C (pw_pv (fun ad' C' => ad' = ad ∧ dd_at ca ad C' k (ga_put d f) ∧ dk_fr k C C')) 0 0 := by
  have hd0 := hd
  obtain ⟨q10, q11, q12, q13, q14, qst⟩ := hd
  refine pw_ofW (cc := b_D_putInOrder) (maxL := 3) (ret := none) (by decide) rfl (Nat.le_of_ble_eq_true rfl) ?_
  intro p e s m args below meth c A ls hB hA hw hK hz hl
  obtain ⟨hx, hb, hr, hml, hts0, hlocks, hown, hnm⟩ := hB
  have hts := wd_hts hts0
  have hown : s.vm.findClass "GraphWriter$Defined" = some m.cls := hown
  have hl : lv_has ls 3 [(0, .ref (ad 10 k)), (1, .int (nI f))] := hl
  have hfr : dk_fr k C C := fun _ _ _ => rfl
  have key : ∀ (p9 : Nat) (o : Nat → Int32) (C1 : pw_C) (H : Heap) (locs : List Loc) (ls : Array Slot), p9 ≤ dd_sh d → (∀ i, i < p9 → ∃ g, g < 4 ∧ o i = nI g) → ga_pio d f p9 o = ga_pio d f (dd_sh d) (dd_or d) → dd_at ca ad C1 k (dd_so d o) → dk_fr k C C1 → pw_H D cls9 A s.heap ad C ad C1 H locs → lv_has ls 3 [(2, .int (nI p9)), (0, .ref (ad 10 k)), (1, .int (nI f))] → W p l e ({ frames := 1, cells := 0, slots := 0, locals := 21 }) s m args below meth c H locs 0 0 (MQ below (pw_Q D cls9 ad C (pw_pv (fun ad' C' => ad' = ad ∧ dd_at ca ad C' k (ga_put d f) ∧ dk_fr k C C')) A) args s 0 0 A) (F0 m 5 ls []) := by
    intro p9
    induction p9 with
    | zero =>
      intro o C1 H locs ls hp9 ho hga hd hfr hw hl
      have hd1 := hd
      obtain ⟨q10, q11, q12, q13, q14, qst1⟩ := hd
      have q10 : C1 10 k = some (.inr (2, [.int (nI k), .int (dd_kd d), .long (dd_id d), .ref (ad 15 k), .ref (ad 11 k), .ref (ad 12 k), .ref (ad 13 k), .ref (ad 14 k), .int (nI (dd_fn d)), .int (nI (dd_sh d)), .int (dd_us d)])) := q10
      have q11 : C1 11 k = some (.inl (ca 0, dd_cn d, .inl (dd_cf d))) := q11
      have q12 : C1 12 k = some (.inl (ca 0, 4, .inl (dd_nm d))) := q12
      have q13 : C1 13 k = some (.inl (ca 0, 4, .inl (dd_ty d))) := q13
      have q14 : C1 14 k = some (.inl (ca 0, 4, .inl o)) := q14
      refine lv_iload_n hx hb d_D_putInOrder_5 rfl (lv_at hl 0 rfl) ?_
      refine lv_if_le (tgt := 49) hx hb d_D_putInOrder_6 (by decide) (fun c_1 => ?_) (fun c_1 => ?_)
      · skip
        refine lv_aload_n hx hb d_D_putInOrder_49 rfl (lv_at hl 1 rfl) ?_
        refine pw_get (Cn := "GraphWriter$Defined") (T := F_D) (N := 11) hx hb hts in_D hown hK hw 10 k rfl q10 rfl 7 (by decide) (hts _ wd_308) (fun _ h9 => h9) rfl d_D_putInOrder_50 ?_
        refine lv_iload_n hx hb d_D_putInOrder_53 rfl (lv_at hl 0 rfl) ?_
        refine lv_iload_n hx hb d_D_putInOrder_54 rfl (lv_at hl 2 rfl) ?_
        refine pw_iast hx hb hK hw 14 k rfl 0 q14 rfl (by decide) 0 rfl (by omega) (by omega) d_D_putInOrder_55 (fun H locs hw => ?_)
        have hw : pw_H D cls9 A s.heap ad C ad (pw_up C1 14 k (some (.inl (ca 0, 4, .inl (upd o 0 (nI f)))))) H locs := hw
        generalize hC_2 : pw_up C1 14 k (some (.inl (ca 0, 4, .inl (upd o 0 (nI f))))) = C_2 at hw
        have q10 : C_2 10 k = some (.inr (2, [.int (nI k), .int (dd_kd d), .long (dd_id d), .ref (ad 15 k), .ref (ad 11 k), .ref (ad 12 k), .ref (ad 13 k), .ref (ad 14 k), .int (nI (dd_fn d)), .int (nI (dd_sh d)), .int (dd_us d)])) := by rw [← hC_2]; exact (pw_up_ne _ _ (by omega)).trans q10
        have q11 : C_2 11 k = some (.inl (ca 0, dd_cn d, .inl (dd_cf d))) := by rw [← hC_2]; exact (pw_up_ne _ _ (by omega)).trans q11
        have q12 : C_2 12 k = some (.inl (ca 0, 4, .inl (dd_nm d))) := by rw [← hC_2]; exact (pw_up_ne _ _ (by omega)).trans q12
        have q13 : C_2 13 k = some (.inl (ca 0, 4, .inl (dd_ty d))) := by rw [← hC_2]; exact (pw_up_ne _ _ (by omega)).trans q13
        have q14 : C_2 14 k = some (.inl (ca 0, 4, .inl (upd o 0 (nI f)))) := by rw [← hC_2]; exact pw_up_self _ _ _ _
        have hfr : ∀ x y, ¬ ((x = 10 ∨ x = 12 ∨ x = 13 ∨ x = 14) ∧ y = k) → C_2 x y = C x y := fun x y h => by rw [← hC_2]; exact (pw_up_ne _ _ (by omega)).trans (hfr x y h)
        refine lv_aload_n hx hb d_D_putInOrder_56 rfl (lv_at hl 1 rfl) ?_
        refine lv_dup hx hb d_D_putInOrder_57 rfl ?_
        refine pw_get (Cn := "GraphWriter$Defined") (T := F_D) (N := 11) hx hb hts in_D hown hK hw 10 k rfl q10 rfl 9 (by decide) (hts _ wd_312) (fun _ h9 => h9) rfl d_D_putInOrder_58 ?_
        refine lv_iconst (v := 1) hx hb d_D_putInOrder_61 (by decide) ?_
        refine lv_iadd hx hb d_D_putInOrder_62 ?_
        rw [nI_1]
        refine pw_put (Cn := "GraphWriter$Defined") (T := F_D) (N := 11) (v := .int (nI (dd_sh d + 1))) (ty := .int) hx hb hts in_D ft_D to_D nm_D hown hK hw 10 k (by decide) rfl q10 rfl 9 (by decide) (hts _ wd_312) (fun _ h9 => h9) rfl (by decide +kernel) rfl rfl (Nat.le_of_ble_eq_true rfl) d_D_putInOrder_63 (fun H locs hw => ?_)
        have hw : pw_H D cls9 A s.heap ad C ad (pw_up C_2 10 k (some (.inr (2, [.int (nI k), .int (dd_kd d), .long (dd_id d), .ref (ad 15 k), .ref (ad 11 k), .ref (ad 12 k), .ref (ad 13 k), .ref (ad 14 k), .int (nI (dd_fn d)), .int (nI (dd_sh d + 1)), .int (dd_us d)])))) H locs := hw
        generalize hC_3 : pw_up C_2 10 k (some (.inr (2, [.int (nI k), .int (dd_kd d), .long (dd_id d), .ref (ad 15 k), .ref (ad 11 k), .ref (ad 12 k), .ref (ad 13 k), .ref (ad 14 k), .int (nI (dd_fn d)), .int (nI (dd_sh d + 1)), .int (dd_us d)]))) = C_3 at hw
        have q11 : C_3 11 k = some (.inl (ca 0, dd_cn d, .inl (dd_cf d))) := by rw [← hC_3]; exact (pw_up_ne _ _ (by omega)).trans q11
        have q12 : C_3 12 k = some (.inl (ca 0, 4, .inl (dd_nm d))) := by rw [← hC_3]; exact (pw_up_ne _ _ (by omega)).trans q12
        have q13 : C_3 13 k = some (.inl (ca 0, 4, .inl (dd_ty d))) := by rw [← hC_3]; exact (pw_up_ne _ _ (by omega)).trans q13
        have q14 : C_3 14 k = some (.inl (ca 0, 4, .inl (upd o 0 (nI f)))) := by rw [← hC_3]; exact (pw_up_ne _ _ (by omega)).trans q14
        have q10 : C_3 10 k = some (.inr (2, [.int (nI k), .int (dd_kd d), .long (dd_id d), .ref (ad 15 k), .ref (ad 11 k), .ref (ad 12 k), .ref (ad 13 k), .ref (ad 14 k), .int (nI (dd_fn d)), .int (nI (dd_sh d + 1)), .int (dd_us d)])) := by rw [← hC_3]; exact pw_up_self _ _ _ _
        have hfr : ∀ x y, ¬ ((x = 10 ∨ x = 12 ∨ x = 13 ∨ x = 14) ∧ y = k) → C_3 x y = C x y := fun x y h => by rw [← hC_3]; exact (pw_up_ne _ _ (by omega)).trans (hfr x y h)
        have e9 : upd o 0 (nI f) = ga_pio d f (dd_sh d) (dd_or d) := by rw [← hga]; rfl
        have q14 : C_3 14 k = some (.inl (ca 0, 4, .inl (ga_pio d f (dd_sh d) (dd_or d)))) := by rw [← e9]; exact q14
        exact pw_vret hx hb hr hlocks hw ⟨rfl, ⟨q10, q11, q12, q13, q14, qst.of (hfr 15 k (by omega)) (hfr 16 k (by omega))⟩, hfr⟩ d_D_putInOrder_66
      · exact absurd (by decide) c_1
    | succ p9 ih =>
      intro o C1 H locs ls hp9 ho hga hd hfr hw hl
      have hd1 := hd
      obtain ⟨q10, q11, q12, q13, q14, qst1⟩ := hd
      have q10 : C1 10 k = some (.inr (2, [.int (nI k), .int (dd_kd d), .long (dd_id d), .ref (ad 15 k), .ref (ad 11 k), .ref (ad 12 k), .ref (ad 13 k), .ref (ad 14 k), .int (nI (dd_fn d)), .int (nI (dd_sh d)), .int (dd_us d)])) := q10
      have q11 : C1 11 k = some (.inl (ca 0, dd_cn d, .inl (dd_cf d))) := q11
      have q12 : C1 12 k = some (.inl (ca 0, 4, .inl (dd_nm d))) := q12
      have q13 : C1 13 k = some (.inl (ca 0, 4, .inl (dd_ty d))) := q13
      have q14 : C1 14 k = some (.inl (ca 0, 4, .inl o)) := q14
      obtain ⟨g9, hg4, hog⟩ := ho p9 (by omega)
      have eg : (o p9).toNatClampNeg = g9 := by rw [hog]; exact nI_clamp (by omega)
      refine lv_iload_n hx hb d_D_putInOrder_5 rfl (lv_at hl 0 rfl) ?_
      refine lv_if_le (tgt := 49) hx hb d_D_putInOrder_6 (by decide) (fun c_4 => ?_) (fun c_4 => ?_)
      · exact absurd c_4 (nI_nle (by omega) (by omega))
      · skip
        refine lv_aload_n hx hb d_D_putInOrder_9 rfl (lv_at hl 1 rfl) ?_
        refine lv_aload_n hx hb d_D_putInOrder_10 rfl (lv_at hl 1 rfl) ?_
        refine pw_get (Cn := "GraphWriter$Defined") (T := F_D) (N := 11) hx hb hts in_D hown hK hw 10 k rfl q10 rfl 7 (by decide) (hts _ wd_308) (fun _ h9 => h9) rfl d_D_putInOrder_11 ?_
        refine lv_iload_n hx hb d_D_putInOrder_14 rfl (lv_at hl 0 rfl) ?_
        refine lv_iconst (v := 1) hx hb d_D_putInOrder_15 (by decide) ?_
        refine lv_isub hx hb d_D_putInOrder_16 ?_
        rw [nI_pred]
        refine pw_iald hx hb hK hw 14 k rfl 0 q14 rfl p9 rfl (by omega) (by omega) d_D_putInOrder_17 ?_
        rw [hog]
        refine pw_calli (va_runV (As := [.int (nI g9)]) (rest := []) ⟨hx, hb, hml, hown, hts0⟩ (k_D_rank hZ hd1 (f := g9) hg4 _) (cwV 1 hts0 (wd_V wd_357 wd_354 wd_356 wd_4 wd_57) rfl rfl rfl (by decide +kernel) ⟨Nat.le_of_ble_eq_true rfl, Nat.le_of_ble_eq_true rfl⟩) (pw_preV hZ hw hA hK hz rfl q10 rfl) rfl rfl hl.1 rfl (lv_room (Nat.le_of_ble_eq_true rfl)) d_D_putInOrder_18 ⟨Nat.le_of_ble_eq_true rfl, Nat.le_of_ble_eq_true rfl⟩) hw hA (fun r_7 ad_5 C_6 H locs hp hw => ?_)
        obtain ⟨⟨hae, hce⟩, hre⟩ := hp
        rw [hae, hce] at hw
        rw [hre]
        clear hae hce hre
        refine lv_aload_n hx hb d_D_putInOrder_21 rfl (lv_at hl 1 rfl) ?_
        refine lv_iload_n hx hb d_D_putInOrder_22 rfl (lv_at hl 2 rfl) ?_
        refine pw_calli (va_runV (As := [.int (nI f)]) (rest := [.int (ga_rank d g9)]) ⟨hx, hb, hml, hown, hts0⟩ (k_D_rank hZ hd1 (f := f) hf _) (cwV 1 hts0 (wd_V wd_357 wd_354 wd_356 wd_4 wd_57) rfl rfl rfl (by decide +kernel) ⟨Nat.le_of_ble_eq_true rfl, Nat.le_of_ble_eq_true rfl⟩) (pw_preV hZ hw hA hK hz rfl q10 rfl) rfl rfl hl.1 rfl (lv_room (Nat.le_of_ble_eq_true rfl)) d_D_putInOrder_23 ⟨Nat.le_of_ble_eq_true rfl, Nat.le_of_ble_eq_true rfl⟩) hw hA (fun r_10 ad_8 C_9 H locs hp hw => ?_)
        obtain ⟨⟨hae, hce⟩, hre⟩ := hp
        rw [hae, hce] at hw
        rw [hre]
        clear hae hce hre
        refine lv_icmp_le (tgt := 49) hx hb d_D_putInOrder_26 (by decide) (fun c_11 => ?_) (fun c_11 => ?_)
        · skip
          refine lv_aload_n hx hb d_D_putInOrder_49 rfl (lv_at hl 1 rfl) ?_
          refine pw_get (Cn := "GraphWriter$Defined") (T := F_D) (N := 11) hx hb hts in_D hown hK hw 10 k rfl q10 rfl 7 (by decide) (hts _ wd_308) (fun _ h9 => h9) rfl d_D_putInOrder_50 ?_
          refine lv_iload_n hx hb d_D_putInOrder_53 rfl (lv_at hl 0 rfl) ?_
          refine lv_iload_n hx hb d_D_putInOrder_54 rfl (lv_at hl 2 rfl) ?_
          refine pw_iast hx hb hK hw 14 k rfl 0 q14 rfl (by decide) (p9 + 1) rfl (by omega) (by omega) d_D_putInOrder_55 (fun H locs hw => ?_)
          have hw : pw_H D cls9 A s.heap ad C ad (pw_up C1 14 k (some (.inl (ca 0, 4, .inl (upd o (p9 + 1) (nI f)))))) H locs := hw
          generalize hC_12 : pw_up C1 14 k (some (.inl (ca 0, 4, .inl (upd o (p9 + 1) (nI f))))) = C_12 at hw
          have q10 : C_12 10 k = some (.inr (2, [.int (nI k), .int (dd_kd d), .long (dd_id d), .ref (ad 15 k), .ref (ad 11 k), .ref (ad 12 k), .ref (ad 13 k), .ref (ad 14 k), .int (nI (dd_fn d)), .int (nI (dd_sh d)), .int (dd_us d)])) := by rw [← hC_12]; exact (pw_up_ne _ _ (by omega)).trans q10
          have q11 : C_12 11 k = some (.inl (ca 0, dd_cn d, .inl (dd_cf d))) := by rw [← hC_12]; exact (pw_up_ne _ _ (by omega)).trans q11
          have q12 : C_12 12 k = some (.inl (ca 0, 4, .inl (dd_nm d))) := by rw [← hC_12]; exact (pw_up_ne _ _ (by omega)).trans q12
          have q13 : C_12 13 k = some (.inl (ca 0, 4, .inl (dd_ty d))) := by rw [← hC_12]; exact (pw_up_ne _ _ (by omega)).trans q13
          have q14 : C_12 14 k = some (.inl (ca 0, 4, .inl (upd o (p9 + 1) (nI f)))) := by rw [← hC_12]; exact pw_up_self _ _ _ _
          have hfr : ∀ x y, ¬ ((x = 10 ∨ x = 12 ∨ x = 13 ∨ x = 14) ∧ y = k) → C_12 x y = C x y := fun x y h => by rw [← hC_12]; exact (pw_up_ne _ _ (by omega)).trans (hfr x y h)
          refine lv_aload_n hx hb d_D_putInOrder_56 rfl (lv_at hl 1 rfl) ?_
          refine lv_dup hx hb d_D_putInOrder_57 rfl ?_
          refine pw_get (Cn := "GraphWriter$Defined") (T := F_D) (N := 11) hx hb hts in_D hown hK hw 10 k rfl q10 rfl 9 (by decide) (hts _ wd_312) (fun _ h9 => h9) rfl d_D_putInOrder_58 ?_
          refine lv_iconst (v := 1) hx hb d_D_putInOrder_61 (by decide) ?_
          refine lv_iadd hx hb d_D_putInOrder_62 ?_
          rw [nI_1]
          refine pw_put (Cn := "GraphWriter$Defined") (T := F_D) (N := 11) (v := .int (nI (dd_sh d + 1))) (ty := .int) hx hb hts in_D ft_D to_D nm_D hown hK hw 10 k (by decide) rfl q10 rfl 9 (by decide) (hts _ wd_312) (fun _ h9 => h9) rfl (by decide +kernel) rfl rfl (Nat.le_of_ble_eq_true rfl) d_D_putInOrder_63 (fun H locs hw => ?_)
          have hw : pw_H D cls9 A s.heap ad C ad (pw_up C_12 10 k (some (.inr (2, [.int (nI k), .int (dd_kd d), .long (dd_id d), .ref (ad 15 k), .ref (ad 11 k), .ref (ad 12 k), .ref (ad 13 k), .ref (ad 14 k), .int (nI (dd_fn d)), .int (nI (dd_sh d + 1)), .int (dd_us d)])))) H locs := hw
          generalize hC_13 : pw_up C_12 10 k (some (.inr (2, [.int (nI k), .int (dd_kd d), .long (dd_id d), .ref (ad 15 k), .ref (ad 11 k), .ref (ad 12 k), .ref (ad 13 k), .ref (ad 14 k), .int (nI (dd_fn d)), .int (nI (dd_sh d + 1)), .int (dd_us d)]))) = C_13 at hw
          have q11 : C_13 11 k = some (.inl (ca 0, dd_cn d, .inl (dd_cf d))) := by rw [← hC_13]; exact (pw_up_ne _ _ (by omega)).trans q11
          have q12 : C_13 12 k = some (.inl (ca 0, 4, .inl (dd_nm d))) := by rw [← hC_13]; exact (pw_up_ne _ _ (by omega)).trans q12
          have q13 : C_13 13 k = some (.inl (ca 0, 4, .inl (dd_ty d))) := by rw [← hC_13]; exact (pw_up_ne _ _ (by omega)).trans q13
          have q14 : C_13 14 k = some (.inl (ca 0, 4, .inl (upd o (p9 + 1) (nI f)))) := by rw [← hC_13]; exact (pw_up_ne _ _ (by omega)).trans q14
          have q10 : C_13 10 k = some (.inr (2, [.int (nI k), .int (dd_kd d), .long (dd_id d), .ref (ad 15 k), .ref (ad 11 k), .ref (ad 12 k), .ref (ad 13 k), .ref (ad 14 k), .int (nI (dd_fn d)), .int (nI (dd_sh d + 1)), .int (dd_us d)])) := by rw [← hC_13]; exact pw_up_self _ _ _ _
          have hfr : ∀ x y, ¬ ((x = 10 ∨ x = 12 ∨ x = 13 ∨ x = 14) ∧ y = k) → C_13 x y = C x y := fun x y h => by rw [← hC_13]; exact (pw_up_ne _ _ (by omega)).trans (hfr x y h)
          have e9 : upd o (p9 + 1) (nI f) = ga_pio d f (dd_sh d) (dd_or d) := by
            rw [← hga]
            conv => rhs; rw [ga_pio]
            rw [eg, if_pos (show ga_rank d g9 ≤ ga_rank d f from c_11)]
          have q14 : C_13 14 k = some (.inl (ca 0, 4, .inl (ga_pio d f (dd_sh d) (dd_or d)))) := by rw [← e9]; exact q14
          exact pw_vret hx hb hr hlocks hw ⟨rfl, ⟨q10, q11, q12, q13, q14, qst.of (hfr 15 k (by omega)) (hfr 16 k (by omega))⟩, hfr⟩ d_D_putInOrder_66
        · skip
          refine lv_aload_n hx hb d_D_putInOrder_29 rfl (lv_at hl 1 rfl) ?_
          refine pw_get (Cn := "GraphWriter$Defined") (T := F_D) (N := 11) hx hb hts in_D hown hK hw 10 k rfl q10 rfl 7 (by decide) (hts _ wd_308) (fun _ h9 => h9) rfl d_D_putInOrder_30 ?_
          refine lv_iload_n hx hb d_D_putInOrder_33 rfl (lv_at hl 0 rfl) ?_
          refine lv_aload_n hx hb d_D_putInOrder_34 rfl (lv_at hl 1 rfl) ?_
          refine pw_get (Cn := "GraphWriter$Defined") (T := F_D) (N := 11) hx hb hts in_D hown hK hw 10 k rfl q10 rfl 7 (by decide) (hts _ wd_308) (fun _ h9 => h9) rfl d_D_putInOrder_35 ?_
          refine lv_iload_n hx hb d_D_putInOrder_38 rfl (lv_at hl 0 rfl) ?_
          refine lv_iconst (v := 1) hx hb d_D_putInOrder_39 (by decide) ?_
          refine lv_isub hx hb d_D_putInOrder_40 ?_
          rw [nI_pred]
          refine pw_iald hx hb hK hw 14 k rfl 0 q14 rfl p9 rfl (by omega) (by omega) d_D_putInOrder_41 ?_
          rw [hog]
          refine pw_iast hx hb hK hw 14 k rfl 0 q14 rfl (by decide) (p9 + 1) rfl (by omega) (by omega) d_D_putInOrder_42 (fun H locs hw => ?_)
          have hw : pw_H D cls9 A s.heap ad C ad (pw_up C1 14 k (some (.inl (ca 0, 4, .inl (upd o (p9 + 1) (nI g9)))))) H locs := hw
          generalize hC_14 : pw_up C1 14 k (some (.inl (ca 0, 4, .inl (upd o (p9 + 1) (nI g9))))) = C_14 at hw
          have q10 : C_14 10 k = some (.inr (2, [.int (nI k), .int (dd_kd d), .long (dd_id d), .ref (ad 15 k), .ref (ad 11 k), .ref (ad 12 k), .ref (ad 13 k), .ref (ad 14 k), .int (nI (dd_fn d)), .int (nI (dd_sh d)), .int (dd_us d)])) := by rw [← hC_14]; exact (pw_up_ne _ _ (by omega)).trans q10
          have q11 : C_14 11 k = some (.inl (ca 0, dd_cn d, .inl (dd_cf d))) := by rw [← hC_14]; exact (pw_up_ne _ _ (by omega)).trans q11
          have q12 : C_14 12 k = some (.inl (ca 0, 4, .inl (dd_nm d))) := by rw [← hC_14]; exact (pw_up_ne _ _ (by omega)).trans q12
          have q13 : C_14 13 k = some (.inl (ca 0, 4, .inl (dd_ty d))) := by rw [← hC_14]; exact (pw_up_ne _ _ (by omega)).trans q13
          have q14 : C_14 14 k = some (.inl (ca 0, 4, .inl (upd o (p9 + 1) (nI g9)))) := by rw [← hC_14]; exact pw_up_self _ _ _ _
          have hfr : ∀ x y, ¬ ((x = 10 ∨ x = 12 ∨ x = 13 ∨ x = 14) ∧ y = k) → C_14 x y = C x y := fun x y h => by rw [← hC_14]; exact (pw_up_ne _ _ (by omega)).trans (hfr x y h)
          refine lv_iinc (v := (nI (p9 + 1)) + (-1)) (lv' := [(2, .int ((nI (p9 + 1)) + (-1))), (0, .ref (ad 10 k)), (1, .int (nI f))]) hx hb d_D_putInOrder_43 hl (k := 0) rfl rfl (by decide) rfl (fun ls hl => ?_)
          refine lv_goto (tgt := 5) hx hb d_D_putInOrder_46 (by decide) ?_
          rw [show nI (p9 + 1) + (-1) = nI p9 from pk_m1 p9] at hl
          refine ih (upd o (p9 + 1) (nI g9)) _ _ _ _ (by omega) (fun i hi => ?_) ?_ ⟨q10, q11, q12, q13, q14, qst.of (hfr 15 k (by omega)) (hfr 16 k (by omega))⟩ hfr hw hl
          · rw [pk_un (by omega)]; exact ho i (by omega)
          · rw [← hga]; conv => rhs; rw [ga_pio]
            rw [eg, if_neg (show ¬ ga_rank d g9 ≤ ga_rank d f from c_11), hog]
  refine lv_aload_n hx hb d_D_putInOrder_0 rfl (lv_at hl 0 rfl) ?_
  refine pw_get (Cn := "GraphWriter$Defined") (T := F_D) (N := 11) hx hb hts in_D hown hK hw 10 k rfl q10 rfl 9 (by decide) (hts _ wd_312) (fun _ h9 => h9) rfl d_D_putInOrder_1 ?_
  refine lv_istore_n (lv' := [(2, .int (nI (dd_sh d))), (0, .ref (ad 10 k)), (1, .int (nI f))]) hx hb d_D_putInOrder_4 rfl hl (by decide) rfl (fun ls hl => ?_)
  exact key (dd_sh d) (dd_or d) C _ _ _ (Nat.le_refl _) hor rfl ⟨q10, q11, q12, q13, q14, qst⟩ hfr hw hl
set_option maxHeartbeats 4000000 in
set_option maxRecDepth 100000 in
theorem k_D_addField {l : Launch} {D : va_G} {ca : Nat → ClassId} {Z : (Nat → Prop) → State → Prop} (hZ : pw_Zok Z) {ad : pw_A} {C : pw_C} {k : Nat} {d : DT} (hd : dd_at ca ad C k d) (hfn : dd_fn d < 4) (hsh : dd_sh d ≤ dd_fn d) (hor : ∀ i, i < dd_sh d → ∃ g, g < 4 ∧ dd_or d i = nI g) (n t tr : Int32) : gc_Con l y_D_addField c_D_addField ({ frames := 2, cells := 0, slots := 0, locals := 43 }) D ca Z [.ref (ad 10 k), .int n, .int t, .int tr] ad C (pw_pv (fun ad' C' => ad' = ad ∧ dd_at ca ad C' k (ga_add d n t tr) ∧ dk_fr k C C')) 0 0 := by
  have hd0 := hd
  obtain ⟨q10, q11, q12, q13, q14, qst⟩ := hd
  refine pw_ofW (cc := b_D_addField) (maxL := 4) (ret := none) (by decide) rfl (Nat.le_of_ble_eq_true rfl) ?_
  intro p e s m args below meth c A ls hB hA hw hK hz hl
  obtain ⟨hx, hb, hr, hml, hts0, hlocks, hown, hnm⟩ := hB
  have hts := wd_hts hts0
  have hown : s.vm.findClass "GraphWriter$Defined" = some m.cls := hown
  have hl : lv_has ls 4 [(0, .ref (ad 10 k)), (1, .int n), (2, .int t), (3, .int tr)] := hl
  have hfr : dk_fr k C C := fun _ _ _ => rfl
  obtain ⟨e1, he1⟩ : ∃ z, z = dd_sn d (upd (dd_nm d) (dd_fn d) n) (upd (dd_ty d) (dd_fn d) t) := ⟨_, rfl⟩
  refine lv_aload_n hx hb d_D_addField_0 rfl (lv_at hl 0 rfl) ?_
  refine pw_get (Cn := "GraphWriter$Defined") (T := F_D) (N := 11) hx hb hts in_D hown hK hw 10 k rfl q10 rfl 5 (by decide) (hts _ wd_304) (fun _ h9 => h9) rfl d_D_addField_1 ?_
  refine lv_aload_n hx hb d_D_addField_4 rfl (lv_at hl 0 rfl) ?_
  refine pw_get (Cn := "GraphWriter$Defined") (T := F_D) (N := 11) hx hb hts in_D hown hK hw 10 k rfl q10 rfl 8 (by decide) (hts _ wd_310) (fun _ h9 => h9) rfl d_D_addField_5 ?_
  refine lv_iload_n hx hb d_D_addField_8 rfl (lv_at hl 1 rfl) ?_
  refine pw_iast hx hb hK hw 12 k rfl 0 q12 rfl (by decide) (dd_fn d) rfl (by omega) (by omega) d_D_addField_9 (fun H locs hw => ?_)
  have hw : pw_H D cls9 A s.heap ad C ad (pw_up C 12 k (some (.inl (ca 0, 4, .inl (upd (dd_nm d) (dd_fn d) n))))) H locs := hw
  generalize hC_1 : pw_up C 12 k (some (.inl (ca 0, 4, .inl (upd (dd_nm d) (dd_fn d) n)))) = C_1 at hw
  have q10 : C_1 10 k = some (.inr (2, [.int (nI k), .int (dd_kd d), .long (dd_id d), .ref (ad 15 k), .ref (ad 11 k), .ref (ad 12 k), .ref (ad 13 k), .ref (ad 14 k), .int (nI (dd_fn d)), .int (nI (dd_sh d)), .int (dd_us d)])) := by rw [← hC_1]; exact (pw_up_ne _ _ (by omega)).trans q10
  have q11 : C_1 11 k = some (.inl (ca 0, dd_cn d, .inl (dd_cf d))) := by rw [← hC_1]; exact (pw_up_ne _ _ (by omega)).trans q11
  have q13 : C_1 13 k = some (.inl (ca 0, 4, .inl (dd_ty d))) := by rw [← hC_1]; exact (pw_up_ne _ _ (by omega)).trans q13
  have q14 : C_1 14 k = some (.inl (ca 0, 4, .inl (dd_or d))) := by rw [← hC_1]; exact (pw_up_ne _ _ (by omega)).trans q14
  have q12 : C_1 12 k = some (.inl (ca 0, 4, .inl (upd (dd_nm d) (dd_fn d) n))) := by rw [← hC_1]; exact pw_up_self _ _ _ _
  have hfr : ∀ x y, ¬ ((x = 10 ∨ x = 12 ∨ x = 13 ∨ x = 14) ∧ y = k) → C_1 x y = C x y := fun x y h => by rw [← hC_1]; exact (pw_up_ne _ _ (by omega)).trans (hfr x y h)
  refine lv_aload_n hx hb d_D_addField_10 rfl (lv_at hl 0 rfl) ?_
  refine pw_get (Cn := "GraphWriter$Defined") (T := F_D) (N := 11) hx hb hts in_D hown hK hw 10 k rfl q10 rfl 6 (by decide) (hts _ wd_306) (fun _ h9 => h9) rfl d_D_addField_11 ?_
  refine lv_aload_n hx hb d_D_addField_14 rfl (lv_at hl 0 rfl) ?_
  refine pw_get (Cn := "GraphWriter$Defined") (T := F_D) (N := 11) hx hb hts in_D hown hK hw 10 k rfl q10 rfl 8 (by decide) (hts _ wd_310) (fun _ h9 => h9) rfl d_D_addField_15 ?_
  refine lv_iload_n hx hb d_D_addField_18 rfl (lv_at hl 2 rfl) ?_
  refine pw_iast hx hb hK hw 13 k rfl 0 q13 rfl (by decide) (dd_fn d) rfl (by omega) (by omega) d_D_addField_19 (fun H locs hw => ?_)
  have hw : pw_H D cls9 A s.heap ad C ad (pw_up C_1 13 k (some (.inl (ca 0, 4, .inl (upd (dd_ty d) (dd_fn d) t))))) H locs := hw
  generalize hC_2 : pw_up C_1 13 k (some (.inl (ca 0, 4, .inl (upd (dd_ty d) (dd_fn d) t)))) = C_2 at hw
  have q10 : C_2 10 k = some (.inr (2, [.int (nI k), .int (dd_kd d), .long (dd_id d), .ref (ad 15 k), .ref (ad 11 k), .ref (ad 12 k), .ref (ad 13 k), .ref (ad 14 k), .int (nI (dd_fn d)), .int (nI (dd_sh d)), .int (dd_us d)])) := by rw [← hC_2]; exact (pw_up_ne _ _ (by omega)).trans q10
  have q11 : C_2 11 k = some (.inl (ca 0, dd_cn d, .inl (dd_cf d))) := by rw [← hC_2]; exact (pw_up_ne _ _ (by omega)).trans q11
  have q12 : C_2 12 k = some (.inl (ca 0, 4, .inl (upd (dd_nm d) (dd_fn d) n))) := by rw [← hC_2]; exact (pw_up_ne _ _ (by omega)).trans q12
  have q14 : C_2 14 k = some (.inl (ca 0, 4, .inl (dd_or d))) := by rw [← hC_2]; exact (pw_up_ne _ _ (by omega)).trans q14
  have q13 : C_2 13 k = some (.inl (ca 0, 4, .inl (upd (dd_ty d) (dd_fn d) t))) := by rw [← hC_2]; exact pw_up_self _ _ _ _
  have hfr : ∀ x y, ¬ ((x = 10 ∨ x = 12 ∨ x = 13 ∨ x = 14) ∧ y = k) → C_2 x y = C x y := fun x y h => by rw [← hC_2]; exact (pw_up_ne _ _ (by omega)).trans (hfr x y h)
  refine lv_iload_n hx hb d_D_addField_20 rfl (lv_at hl 3 rfl) ?_
  refine lv_if_ne (tgt := 32) hx hb d_D_addField_21 (by decide) (fun c_3 => ?_) (fun c_3 => ?_)
  · skip
    refine lv_aload_n hx hb d_D_addField_32 rfl (lv_at hl 0 rfl) ?_
    refine lv_dup hx hb d_D_addField_33 rfl ?_
    refine pw_get (Cn := "GraphWriter$Defined") (T := F_D) (N := 11) hx hb hts in_D hown hK hw 10 k rfl q10 rfl 8 (by decide) (hts _ wd_310) (fun _ h9 => h9) rfl d_D_addField_34 ?_
    refine lv_iconst (v := 1) hx hb d_D_addField_37 (by decide) ?_
    refine lv_iadd hx hb d_D_addField_38 ?_
    rw [nI_1]
    refine pw_put (Cn := "GraphWriter$Defined") (T := F_D) (N := 11) (v := .int (nI (dd_fn d + 1))) (ty := .int) hx hb hts in_D ft_D to_D nm_D hown hK hw 10 k (by decide) rfl q10 rfl 8 (by decide) (hts _ wd_310) (fun _ h9 => h9) rfl (by decide +kernel) rfl rfl (Nat.le_of_ble_eq_true rfl) d_D_addField_39 (fun H locs hw => ?_)
    have hw : pw_H D cls9 A s.heap ad C ad (pw_up C_2 10 k (some (.inr (2, [.int (nI k), .int (dd_kd d), .long (dd_id d), .ref (ad 15 k), .ref (ad 11 k), .ref (ad 12 k), .ref (ad 13 k), .ref (ad 14 k), .int (nI (dd_fn d + 1)), .int (nI (dd_sh d)), .int (dd_us d)])))) H locs := hw
    generalize hC_4 : pw_up C_2 10 k (some (.inr (2, [.int (nI k), .int (dd_kd d), .long (dd_id d), .ref (ad 15 k), .ref (ad 11 k), .ref (ad 12 k), .ref (ad 13 k), .ref (ad 14 k), .int (nI (dd_fn d + 1)), .int (nI (dd_sh d)), .int (dd_us d)]))) = C_4 at hw
    have q11 : C_4 11 k = some (.inl (ca 0, dd_cn d, .inl (dd_cf d))) := by rw [← hC_4]; exact (pw_up_ne _ _ (by omega)).trans q11
    have q12 : C_4 12 k = some (.inl (ca 0, 4, .inl (upd (dd_nm d) (dd_fn d) n))) := by rw [← hC_4]; exact (pw_up_ne _ _ (by omega)).trans q12
    have q13 : C_4 13 k = some (.inl (ca 0, 4, .inl (upd (dd_ty d) (dd_fn d) t))) := by rw [← hC_4]; exact (pw_up_ne _ _ (by omega)).trans q13
    have q14 : C_4 14 k = some (.inl (ca 0, 4, .inl (dd_or d))) := by rw [← hC_4]; exact (pw_up_ne _ _ (by omega)).trans q14
    have q10 : C_4 10 k = some (.inr (2, [.int (nI k), .int (dd_kd d), .long (dd_id d), .ref (ad 15 k), .ref (ad 11 k), .ref (ad 12 k), .ref (ad 13 k), .ref (ad 14 k), .int (nI (dd_fn d + 1)), .int (nI (dd_sh d)), .int (dd_us d)])) := by rw [← hC_4]; exact pw_up_self _ _ _ _
    have hfr : ∀ x y, ¬ ((x = 10 ∨ x = 12 ∨ x = 13 ∨ x = 14) ∧ y = k) → C_4 x y = C x y := fun x y h => by rw [← hC_4]; exact (pw_up_ne _ _ (by omega)).trans (hfr x y h)
    have e9 : ga_add d n t tr = dd_sf e1 (dd_fn d + 1) := by unfold ga_add; rw [← he1, if_neg c_3]
    refine pw_vret hx hb hr hlocks hw ⟨rfl, ?_, hfr⟩ d_D_addField_42
    rw [e9, he1]; exact ⟨q10, q11, q12, q13, q14, qst.of (hfr 15 k (by omega)) (hfr 16 k (by omega))⟩
  · skip
    refine lv_aload_n hx hb d_D_addField_24 rfl (lv_at hl 0 rfl) ?_
    refine lv_aload_n hx hb d_D_addField_25 rfl (lv_at hl 0 rfl) ?_
    refine pw_get (Cn := "GraphWriter$Defined") (T := F_D) (N := 11) hx hb hts in_D hown hK hw 10 k rfl q10 rfl 8 (by decide) (hts _ wd_310) (fun _ h9 => h9) rfl d_D_addField_26 ?_
    have hd1 : dd_at ca ad C_2 k e1 := by rw [he1]; exact ⟨q10, q11, q12, q13, q14, qst.of (hfr 15 k (by omega)) (hfr 16 k (by omega))⟩
    refine pw_callv (va_runV (As := [.int (nI (dd_fn d))]) (rest := []) ⟨hx, hb, hml, hown, hts0⟩ (k_D_putInOrder hZ hd1 (f := dd_fn d) (by omega) (by rw [he1]; show dd_sh d < 4; omega) (by rw [he1]; exact hor) _) (cwV 1 hts0 (wd_V wd_353 wd_350 wd_352 wd_3 wd_57) rfl rfl rfl (by decide +kernel) ⟨Nat.le_of_ble_eq_true rfl, Nat.le_of_ble_eq_true rfl⟩) (pw_preV hZ hw hA hK hz rfl q10 rfl) rfl rfl hl.1 rfl (lv_room (Nat.le_of_ble_eq_true rfl)) d_D_addField_29 ⟨Nat.le_of_ble_eq_true rfl, Nat.le_of_ble_eq_true rfl⟩) hw hA (fun ad_5 C_6 H locs hp hw => ?_)
    obtain ⟨hae, hd, hf1⟩ := hp
    rw [hae] at hw; clear hae
    have hfr : dk_fr k C C_6 := fun x y h => (hf1 x y h).trans (hfr x y h)
    obtain ⟨q10, q11, q12, q13, q14, qst9⟩ := hd
    have e2 : dd_fn (ga_put e1 (dd_fn d)) = dd_fn d := by rw [he1]; rfl
    rw [e2] at q10
    refine lv_aload_n hx hb d_D_addField_32 rfl (lv_at hl 0 rfl) ?_
    refine lv_dup hx hb d_D_addField_33 rfl ?_
    refine pw_get (Cn := "GraphWriter$Defined") (T := F_D) (N := 11) hx hb hts in_D hown hK hw 10 k rfl q10 rfl 8 (by decide) (hts _ wd_310) (fun _ h9 => h9) rfl d_D_addField_34 ?_
    refine lv_iconst (v := 1) hx hb d_D_addField_37 (by decide) ?_
    refine lv_iadd hx hb d_D_addField_38 ?_
    rw [nI_1]
    refine pw_put (Cn := "GraphWriter$Defined") (T := F_D) (N := 11) (v := .int (nI (dd_fn d + 1))) (ty := .int) hx hb hts in_D ft_D to_D nm_D hown hK hw 10 k (by decide) rfl q10 rfl 8 (by decide) (hts _ wd_310) (fun _ h9 => h9) rfl (by decide +kernel) rfl rfl (Nat.le_of_ble_eq_true rfl) d_D_addField_39 (fun H locs hw => ?_)
    have hw : pw_H D cls9 A s.heap ad C ad (pw_up C_6 10 k (some (.inr (2, [.int (nI k), .int (dd_kd (ga_put e1 (dd_fn d))), .long (dd_id (ga_put e1 (dd_fn d))), .ref (ad 15 k), .ref (ad 11 k), .ref (ad 12 k), .ref (ad 13 k), .ref (ad 14 k), .int (nI (dd_fn d + 1)), .int (nI (dd_sh (ga_put e1 (dd_fn d)))), .int (dd_us (ga_put e1 (dd_fn d)))])))) H locs := hw
    generalize hC_8 : pw_up C_6 10 k (some (.inr (2, [.int (nI k), .int (dd_kd (ga_put e1 (dd_fn d))), .long (dd_id (ga_put e1 (dd_fn d))), .ref (ad 15 k), .ref (ad 11 k), .ref (ad 12 k), .ref (ad 13 k), .ref (ad 14 k), .int (nI (dd_fn d + 1)), .int (nI (dd_sh (ga_put e1 (dd_fn d)))), .int (dd_us (ga_put e1 (dd_fn d)))]))) = C_8 at hw
    have q11 : C_8 11 k = some (.inl (ca 0, dd_cn (ga_put e1 (dd_fn d)), .inl (dd_cf (ga_put e1 (dd_fn d))))) := by rw [← hC_8]; exact (pw_up_ne _ _ (by omega)).trans q11
    have q12 : C_8 12 k = some (.inl (ca 0, 4, .inl (dd_nm (ga_put e1 (dd_fn d))))) := by rw [← hC_8]; exact (pw_up_ne _ _ (by omega)).trans q12
    have q13 : C_8 13 k = some (.inl (ca 0, 4, .inl (dd_ty (ga_put e1 (dd_fn d))))) := by rw [← hC_8]; exact (pw_up_ne _ _ (by omega)).trans q13
    have q14 : C_8 14 k = some (.inl (ca 0, 4, .inl (dd_or (ga_put e1 (dd_fn d))))) := by rw [← hC_8]; exact (pw_up_ne _ _ (by omega)).trans q14
    have q10 : C_8 10 k = some (.inr (2, [.int (nI k), .int (dd_kd (ga_put e1 (dd_fn d))), .long (dd_id (ga_put e1 (dd_fn d))), .ref (ad 15 k), .ref (ad 11 k), .ref (ad 12 k), .ref (ad 13 k), .ref (ad 14 k), .int (nI (dd_fn d + 1)), .int (nI (dd_sh (ga_put e1 (dd_fn d)))), .int (dd_us (ga_put e1 (dd_fn d)))])) := by rw [← hC_8]; exact pw_up_self _ _ _ _
    have hfr : ∀ x y, ¬ ((x = 10 ∨ x = 12 ∨ x = 13 ∨ x = 14) ∧ y = k) → C_8 x y = C x y := fun x y h => by rw [← hC_8]; exact (pw_up_ne _ _ (by omega)).trans (hfr x y h)
    have e9 : ga_add d n t tr = dd_sf (ga_put e1 (dd_fn d)) (dd_fn d + 1) := by unfold ga_add; rw [← he1, if_pos c_3]
    refine pw_vret hx hb hr hlocks hw ⟨rfl, ?_, hfr⟩ d_D_addField_42
    rw [e9]; exact ⟨q10, q11, q12, q13, q14, qst.of (hfr 15 k (by omega)) (hfr 16 k (by omega))⟩
