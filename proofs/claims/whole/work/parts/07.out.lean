abbrev ES : Type := List Int32 × Int32 × (Nat → Int32) × Int32
abbrev SN : Type := (Nat → Int32) × Int32 × Int32 × Int32
abbrev ty9 (ca : Nat → ClassId) : List (ClassId × FieldType) := [(ca 0, .int), (ca 1, .long), (ca 2, .byte), (ca 3, .boolean), (ca 4, .object "GraphWriter$Defined"), (ca 5, .object "GraphWriter$Thing")]
abbrev gc_Con (l : Launch) (y : MethodName) (c : Cond) (rm : Room) (D : va_G) (ca : Nat → ClassId) (Z : (Nat → Prop) → State → Prop) (av : List Value) (ad : pw_A) (C : pw_C) (post : Option Value → pw_A → pw_C → Prop) (mc ms : Nat) : Prop := pw_Con l y (c :: wd_W) rm D cls9 (ty9 ca) Z av ad C post mc ms
def es_by (n : Int64) (w j : Nat) : Int32 := ((n.toUInt64 >>> ((nI (8 * (w - 1 - j))).toInt64.toUInt64 &&& Int64.toUInt64 63)).toInt64).toInt32.toInt8.toInt32
def es_bytes (n : Int64) (w : Nat) : List Int32 := (List.range w).map (es_by n w)
theorem es_bytes_len (n : Int64) (w : Nat) : (es_bytes n w).length = w := by simp [es_bytes]
theorem es_bytes_get (n : Int64) (w j : Nat) (h : j < w) : (es_bytes n w).getD j 0 = es_by n w j := by simp [es_bytes, List.getD, h]
/-- the lowest w bytes of n are put, if there is room -/
def es_put (x : ES) (n : Int64) (w : Nat) : ES := if x.2.1 = 0 then (if 1400 < x.1.length + w then (x.1, -2, x.2.2) else (x.1 ++ es_bytes n w, x.2)) else x
/-- the stream's cells: the object, its bytes, what waits, the last handles, those before -/
def os_at (ca : Nat → ClassId) (ad : pw_A) (C : pw_C) (bs : List Int32) (oc : Int32) (la : Nat → Int32) (hn : Int32) (w0 : List Int32) (wn : Nat) (sn : SN) : Prop := ∃ by0 wt : Nat → Int32,
  C 3 0 = some (.inr (1, [.ref (ad 4 0), .ref (ad 5 0), .ref (ad 6 0), .int (nI bs.length), .int (nI wn), .int hn, .int oc, .ref (ad 7 0), .int sn.2.1, .int sn.2.2.1, .int sn.2.2.2])) ∧
  C 4 0 = some (.inl (ca 2, 1400, .inl by0)) ∧ C 5 0 = some (.inl (ca 2, 255, .inl wt)) ∧ C 6 0 = some (.inl (ca 0, 35, .inl la)) ∧ C 7 0 = some (.inl (ca 0, 35, .inl sn.1)) ∧
  bs.length ≤ 1400 ∧ (∀ i, i < bs.length → by0 i = bs.getD i 0) ∧ wn ≤ w0.length ∧ w0.length ≤ 255 ∧ ∀ i, i < w0.length → wt i = w0.getD i 0
abbrev os_x (ca : Nat → ClassId) (ad : pw_A) (C : pw_C) (x : ES) (w0 : List Int32) (wn : Nat) (sn : SN) : Prop := os_at ca ad C x.1 x.2.1 x.2.2.1 x.2.2.2 w0 wn sn
abbrev os_fr (C C' : pw_C) : Prop := ∀ x y, (x < 3 ∨ 7 < x) → C' x y = C x y
theorem es_getl {a b : List Int32} {i : Nat} (h : i < a.length) : (a ++ b).getD i 0 = a.getD i 0 := by simp [List.getD, List.getElem?_append_left h]
theorem es_getr {a b : List Int32} {i : Nat} (h : a.length ≤ i) : (a ++ b).getD i 0 = b.getD (i - a.length) 0 := by simp [List.getD, List.getElem?_append_right h]
theorem es_sh1 (r : Nat) : (8 : Int32) * nI (r + 1) - 8 = nI (8 * r) := by
  rw [show (8 : Int32) = nI 8 from rfl, pk_mul, pk_sub (by omega)]
  congr 1
theorem es_sh2 (r : Nat) : nI (8 * r) + (-8) = (8 : Int32) * nI r - 8 := by
  rw [show (8 : Int32) * nI r = nI (8 * r) from by rw [show (8 : Int32) = nI 8 from rfl, pk_mul], Int32.sub_eq_add_neg]

set_option maxHeartbeats 4000000 in
set_option maxRecDepth 100000 in
/-- put(n, w) -/
theorem k_O_put {l : Launch} {D : va_G} {ca : Nat → ClassId} {Z : (Nat → Prop) → State → Prop} {ad : pw_A} {C : pw_C} {bs : List Int32} {oc : Int32} {la : Nat → Int32} {hn : Int32} {w0 : List Int32} {wn : Nat} {sn : SN} (hO : os_at ca ad C bs oc la hn w0 wn sn) (n : Int64) {w : Nat} (hw8 : w ≤ 8) : gc_Con l y_O_put c_O_put ({ frames := 0, cells := 0, slots := 0, locals := 0 }) D ca Z [.ref (ad 3 0), .long n, .int (nI w)] ad C (pw_pv (fun ad' C' => ad' = ad ∧ os_x ca ad C' (es_put (bs, oc, la, hn) n w) w0 wn sn ∧ os_fr C C')) 0 0 := by
  obtain ⟨by0, wt, h30, h40, h50, h60, h70, hlen, hby, hwn, hw0, hwt⟩ := hO
  refine pw_ofW (cc := b_O_put) (maxL := 5) (ret := none) (by decide) rfl (Nat.le_of_ble_eq_true rfl) ?_
  intro p e s m args below meth c A ls hB hA hw hK hz hl
  obtain ⟨hx, hb, hr, hml, hts0, hlocks, hown, hnm⟩ := hB
  have hts := wd_hts hts0
  have hown : s.vm.findClass "GraphWriter$Out" = some m.cls := hown
  have hl : lv_has ls 5 [(0, .ref (ad 3 0)), (1, .long n), (3, .int (nI w))] := hl
  have hfr : os_fr C C := fun _ _ _ => rfl
  have key : oc = 0 → bs.length + w ≤ 1400 → ∀ (r j : Nat), j + r = w → ∀ (by1 : Nat → Int32) (C1 : pw_C) (H : Heap) (locs : List Loc) (ls : Array Slot), C1 3 0 = some (.inr (1, [.ref (ad 4 0), .ref (ad 5 0), .ref (ad 6 0), .int (nI (bs.length + j)), .int (nI wn), .int hn, .int oc, .ref (ad 7 0), .int sn.2.1, .int sn.2.2.1, .int sn.2.2.2])) → C1 4 0 = some (.inl (ca 2, 1400, .inl by1)) → C1 5 0 = some (.inl (ca 2, 255, .inl wt)) → C1 6 0 = some (.inl (ca 0, 35, .inl la)) → C1 7 0 = some (.inl (ca 0, 35, .inl sn.1)) → os_fr C C1 → (∀ i, i < bs.length → by1 i = by0 i) → (∀ i, i < j → by1 (bs.length + i) = es_by n w i) → pw_H D cls9 A s.heap ad C ad C1 H locs → lv_has ls 5 [(4, .int (8 * nI r - 8)), (0, .ref (ad 3 0)), (1, .long n), (3, .int (nI w))] → W p l e ({ frames := 0, cells := 0, slots := 0, locals := 0 }) s m args below meth c H locs 0 0 (MQ below (pw_Q D cls9 ad C (pw_pv (fun ad' C' => ad' = ad ∧ os_x ca ad C' (es_put (bs, oc, la, hn) n w) w0 wn sn ∧ os_fr C C')) A) args s 0 0 A) (F0 m 42 ls []) := by
    intro hoc hfit r
    induction r with
    | zero =>
      intro j hj by1 C1 H locs ls h30 h40 h50 h60 h70 hfr h1 h2 hw hl
      refine lv_iload hx hb d_O_put_42 (lv_at hl 0 rfl) ?_
      refine lv_if_lt (tgt := 78) hx hb d_O_put_44 (by decide) (fun c_1 => ?_) (fun c_1 => ?_)
      · have hjw : j = w := by omega
        subst hjw
        refine pw_vret hx hb hr hlocks hw ⟨rfl, ?_, hfr⟩ d_O_put_78
        have hp : es_put (bs, oc, la, hn) n j = (bs ++ es_bytes n j, oc, la, hn) := by simp only [es_put, hoc, if_true]; rw [if_neg (by omega)]
        rw [hp]
        refine ⟨by1, wt, ?_, h40, h50, h60, h70, ?_, ?_, hwn, hw0, hwt⟩
        · rw [List.length_append, es_bytes_len]; exact h30
        · rw [List.length_append, es_bytes_len]; exact hfit
        · intro i hi
          rw [List.length_append, es_bytes_len] at hi
          by_cases hi2 : i < bs.length
          · rw [h1 i hi2, hby i hi2, es_getl hi2]
          · have h3 := h2 (i - bs.length) (by omega)
            rw [show bs.length + (i - bs.length) = i by omega] at h3
            rw [h3, es_getr (by omega), es_bytes_get _ _ _ (by omega)]
      · exact absurd (by decide) c_1
    | succ r ih =>
      intro j hj by1 C1 H locs ls h30 h40 h50 h60 h70 hfr h1 h2 hw hl
      rw [es_sh1 r] at hl
      refine lv_iload hx hb d_O_put_42 (lv_at hl 0 rfl) ?_
      refine lv_if_lt (tgt := 78) hx hb d_O_put_44 (by decide) (fun c_2 => ?_) (fun c_2 => ?_)
      · exact absurd c_2 (nI_pos (by omega))
      · skip
        refine lv_aload_n hx hb d_O_put_47 rfl (lv_at hl 1 rfl) ?_
        refine pw_get (Cn := "GraphWriter$Out") (T := F_O) (N := 11) hx hb hts in_O hown hK hw 3 0 rfl h30 rfl 0 (by decide) (hts _ wd_86) (fun _ h9 => h9) rfl d_O_put_48 ?_
        refine lv_aload_n hx hb d_O_put_51 rfl (lv_at hl 1 rfl) ?_
        refine pw_get (Cn := "GraphWriter$Out") (T := F_O) (N := 11) hx hb hts in_O hown hK hw 3 0 rfl h30 rfl 3 (by decide) (hts _ wd_91) (fun _ h9 => h9) rfl d_O_put_52 ?_
        refine lv_lload_n hx hb d_O_put_55 rfl (lv_at hl 2 rfl) ?_
        refine lv_iload hx hb d_O_put_56 (lv_at hl 0 rfl) ?_
        refine lv_lushr hx hb d_O_put_58 rfl ?_
        refine lv_l2i hx hb d_O_put_59 rfl ?_
        refine lv_i2b hx hb d_O_put_60 rfl ?_
        refine pw_bast hx hb hK hw 4 0 rfl 2 h40 rfl (by decide) (bs.length + j) rfl (by omega) (by omega) d_O_put_61 (fun H locs hw => ?_)
        have hw : pw_H D cls9 A s.heap ad C ad (pw_up C1 4 0 (some (.inl (ca 2, 1400, .inl (upd by1 (bs.length + j) (vp_nar .byte ((((n.toUInt64 >>> ((nI (8 * r)).toInt64.toUInt64 &&& Int64.toUInt64 63)).toInt64).toInt32).toInt8.toInt32))))))) H locs := hw
        generalize hC_3 : pw_up C1 4 0 (some (.inl (ca 2, 1400, .inl (upd by1 (bs.length + j) (vp_nar .byte ((((n.toUInt64 >>> ((nI (8 * r)).toInt64.toUInt64 &&& Int64.toUInt64 63)).toInt64).toInt32).toInt8.toInt32)))))) = C_3 at hw
        have h30 : C_3 3 0 = some (.inr (1, [.ref (ad 4 0), .ref (ad 5 0), .ref (ad 6 0), .int (nI (bs.length + j)), .int (nI wn), .int hn, .int oc, .ref (ad 7 0), .int sn.2.1, .int sn.2.2.1, .int sn.2.2.2])) := by rw [← hC_3]; exact (pw_up_ne _ _ (by decide)).trans h30
        have h50 : C_3 5 0 = some (.inl (ca 2, 255, .inl wt)) := by rw [← hC_3]; exact (pw_up_ne _ _ (by decide)).trans h50
        have h60 : C_3 6 0 = some (.inl (ca 0, 35, .inl la)) := by rw [← hC_3]; exact (pw_up_ne _ _ (by decide)).trans h60
        have h70 : C_3 7 0 = some (.inl (ca 0, 35, .inl sn.1)) := by rw [← hC_3]; exact (pw_up_ne _ _ (by decide)).trans h70
        have h40 : C_3 4 0 = some (.inl (ca 2, 1400, .inl (upd by1 (bs.length + j) (vp_nar .byte ((((n.toUInt64 >>> ((nI (8 * r)).toInt64.toUInt64 &&& Int64.toUInt64 63)).toInt64).toInt32).toInt8.toInt32))))) := by rw [← hC_3]; exact pw_up_self _ _ _ _
        have hfr : ∀ x y, (x < 3 ∨ 7 < x) → C_3 x y = C x y := fun x y h => by rw [← hC_3]; exact (pw_up_ne _ _ (by omega)).trans (hfr x y h)
        refine lv_aload_n hx hb d_O_put_62 rfl (lv_at hl 1 rfl) ?_
        refine lv_dup hx hb d_O_put_63 rfl ?_
        refine pw_get (Cn := "GraphWriter$Out") (T := F_O) (N := 11) hx hb hts in_O hown hK hw 3 0 rfl h30 rfl 3 (by decide) (hts _ wd_91) (fun _ h9 => h9) rfl d_O_put_64 ?_
        refine lv_iconst (v := 1) hx hb d_O_put_67 (by decide) ?_
        refine lv_iadd hx hb d_O_put_68 ?_
        rw [show nI (bs.length + j) + 1 = nI (bs.length + (j + 1)) from nI_1 _]
        refine pw_put (Cn := "GraphWriter$Out") (T := F_O) (N := 11) (v := .int (nI (bs.length + (j + 1)))) (ty := .int) hx hb hts in_O ft_O to_O nm_O hown hK hw 3 0 (by decide) rfl h30 rfl 3 (by decide) (hts _ wd_91) (fun _ h9 => h9) rfl (by decide +kernel) rfl rfl (Nat.le_of_ble_eq_true rfl) d_O_put_69 (fun H locs hw => ?_)
        have hw : pw_H D cls9 A s.heap ad C ad (pw_up C_3 3 0 (some (.inr (1, [.ref (ad 4 0), .ref (ad 5 0), .ref (ad 6 0), .int (nI (bs.length + (j + 1))), .int (nI wn), .int hn, .int oc, .ref (ad 7 0), .int sn.2.1, .int sn.2.2.1, .int sn.2.2.2])))) H locs := hw
        generalize hC_4 : pw_up C_3 3 0 (some (.inr (1, [.ref (ad 4 0), .ref (ad 5 0), .ref (ad 6 0), .int (nI (bs.length + (j + 1))), .int (nI wn), .int hn, .int oc, .ref (ad 7 0), .int sn.2.1, .int sn.2.2.1, .int sn.2.2.2]))) = C_4 at hw
        have h40 : C_4 4 0 = some (.inl (ca 2, 1400, .inl (upd by1 (bs.length + j) (vp_nar .byte ((((n.toUInt64 >>> ((nI (8 * r)).toInt64.toUInt64 &&& Int64.toUInt64 63)).toInt64).toInt32).toInt8.toInt32))))) := by rw [← hC_4]; exact (pw_up_ne _ _ (by decide)).trans h40
        have h50 : C_4 5 0 = some (.inl (ca 2, 255, .inl wt)) := by rw [← hC_4]; exact (pw_up_ne _ _ (by decide)).trans h50
        have h60 : C_4 6 0 = some (.inl (ca 0, 35, .inl la)) := by rw [← hC_4]; exact (pw_up_ne _ _ (by decide)).trans h60
        have h70 : C_4 7 0 = some (.inl (ca 0, 35, .inl sn.1)) := by rw [← hC_4]; exact (pw_up_ne _ _ (by decide)).trans h70
        have h30 : C_4 3 0 = some (.inr (1, [.ref (ad 4 0), .ref (ad 5 0), .ref (ad 6 0), .int (nI (bs.length + (j + 1))), .int (nI wn), .int hn, .int oc, .ref (ad 7 0), .int sn.2.1, .int sn.2.2.1, .int sn.2.2.2])) := by rw [← hC_4]; exact pw_up_self _ _ _ _
        have hfr : ∀ x y, (x < 3 ∨ 7 < x) → C_4 x y = C x y := fun x y h => by rw [← hC_4]; exact (pw_up_ne _ _ (by omega)).trans (hfr x y h)
        refine lv_iinc (v := (nI (8 * r)) + (-8)) (lv' := [(4, .int ((nI (8 * r)) + (-8))), (0, .ref (ad 3 0)), (1, .long n), (3, .int (nI w))]) hx hb d_O_put_72 hl (k := 0) rfl rfl (by decide) rfl (fun ls hl => ?_)
        rw [es_sh2 r] at hl
        refine lv_goto (tgt := 42) hx hb d_O_put_75 (by decide) ?_
        refine ih (j + 1) (by omega) _ _ _ _ _ h30 h40 h50 h60 h70 hfr (fun i hi => ?_) (fun i hi => ?_) hw hl
        · rw [pk_un (by omega)]; exact h1 i hi
        · by_cases hij : i = j
          · subst hij; rw [pk_us, pk_vb]; show _ = es_by n w i; unfold es_by; rw [show w - 1 - i = r by omega]
          · rw [pk_un (by omega)]; exact h2 i (by omega)
  refine lv_aload_n hx hb d_O_put_0 rfl (lv_at hl 0 rfl) ?_
  refine pw_get (Cn := "GraphWriter$Out") (T := F_O) (N := 11) hx hb hts in_O hown hK hw 3 0 rfl h30 rfl 6 (by decide) (hts _ wd_97) (fun _ h9 => h9) rfl d_O_put_1 ?_
  refine lv_if_ne (tgt := 25) hx hb d_O_put_4 (by decide) (fun c_5 => ?_) (fun c_5 => ?_)
  · skip
    refine lv_aload_n hx hb d_O_put_25 rfl (lv_at hl 0 rfl) ?_
    refine pw_get (Cn := "GraphWriter$Out") (T := F_O) (N := 11) hx hb hts in_O hown hK hw 3 0 rfl h30 rfl 6 (by decide) (hts _ wd_97) (fun _ h9 => h9) rfl d_O_put_26 ?_
    refine lv_if_eq (tgt := 33) hx hb d_O_put_29 (by decide) (fun c_6 => ?_) (fun c_6 => ?_)
    · exact absurd c_6 c_5
    · refine pw_vret hx hb hr hlocks hw ⟨rfl, ?_, hfr⟩ d_O_put_32
      have hp : es_put (bs, oc, la, hn) n w = (bs, oc, la, hn) := if_neg c_5
      rw [hp]
      exact ⟨by0, wt, h30, h40, h50, h60, h70, hlen, hby, hwn, hw0, hwt⟩
  · skip
    have hoc : oc = 0 := c_5
    refine lv_aload_n hx hb d_O_put_7 rfl (lv_at hl 0 rfl) ?_
    refine pw_get (Cn := "GraphWriter$Out") (T := F_O) (N := 11) hx hb hts in_O hown hK hw 3 0 rfl h30 rfl 3 (by decide) (hts _ wd_91) (fun _ h9 => h9) rfl d_O_put_8 ?_
    refine lv_iload_n hx hb d_O_put_11 rfl (lv_at hl 2 rfl) ?_
    refine lv_iadd hx hb d_O_put_12 ?_
    rw [nI_add]
    refine lv_sipush (v := 1400) hx hb d_O_put_13 (by decide) ?_
    refine lv_icmp_le (tgt := 25) hx hb d_O_put_16 (by decide) (fun c_7 => ?_) (fun c_7 => ?_)
    · have hfit : bs.length + w ≤ 1400 := (nI_leI (by omega) (by decide)).mp c_7
      refine lv_aload_n hx hb d_O_put_25 rfl (lv_at hl 0 rfl) ?_
      refine pw_get (Cn := "GraphWriter$Out") (T := F_O) (N := 11) hx hb hts in_O hown hK hw 3 0 rfl h30 rfl 6 (by decide) (hts _ wd_97) (fun _ h9 => h9) rfl d_O_put_26 ?_
      refine lv_if_eq (tgt := 33) hx hb d_O_put_29 (by decide) (fun c_8 => ?_) (fun c_8 => ?_)
      · skip
        refine lv_bipush (v := 8) hx hb d_O_put_33 (by decide) ?_
        refine lv_iload_n hx hb d_O_put_35 rfl (lv_at hl 2 rfl) ?_
        refine lv_imul hx hb d_O_put_36 ?_
        refine lv_bipush (v := 8) hx hb d_O_put_37 (by decide) ?_
        refine lv_isub hx hb d_O_put_39 ?_
        refine lv_istore (lv' := [(4, .int ((8 * (nI w)) - 8)), (0, .ref (ad 3 0)), (1, .long n), (3, .int (nI w))]) hx hb d_O_put_40 hl (by decide) rfl (fun ls hl => ?_)
        exact key hoc hfit w 0 (by omega) by0 C _ _ ls h30 h40 h50 h60 h70 hfr (fun _ _ => rfl) (fun i hi => absurd hi (by omega)) hw hl
      · exact absurd hoc c_8
    · have hfull : ¬ bs.length + w ≤ 1400 := fun h => c_7 ((nI_leI (by omega) (by decide)).mpr h)
      refine lv_aload_n hx hb d_O_put_19 rfl (lv_at hl 0 rfl) ?_
      refine lv_bipush (v := (-2)) hx hb d_O_put_20 (by decide) ?_
      refine pw_put (Cn := "GraphWriter$Out") (T := F_O) (N := 11) (v := .int (-2)) (ty := .int) hx hb hts in_O ft_O to_O nm_O hown hK hw 3 0 (by decide) rfl h30 rfl 6 (by decide) (hts _ wd_97) (fun _ h9 => h9) rfl (by decide +kernel) rfl rfl (Nat.le_of_ble_eq_true rfl) d_O_put_22 (fun H locs hw => ?_)
      have hw : pw_H D cls9 A s.heap ad C ad (pw_up C 3 0 (some (.inr (1, [.ref (ad 4 0), .ref (ad 5 0), .ref (ad 6 0), .int (nI bs.length), .int (nI wn), .int hn, .int (-2), .ref (ad 7 0), .int sn.2.1, .int sn.2.2.1, .int sn.2.2.2])))) H locs := hw
      generalize hC_9 : pw_up C 3 0 (some (.inr (1, [.ref (ad 4 0), .ref (ad 5 0), .ref (ad 6 0), .int (nI bs.length), .int (nI wn), .int hn, .int (-2), .ref (ad 7 0), .int sn.2.1, .int sn.2.2.1, .int sn.2.2.2]))) = C_9 at hw
      have h40 : C_9 4 0 = some (.inl (ca 2, 1400, .inl by0)) := by rw [← hC_9]; exact (pw_up_ne _ _ (by decide)).trans h40
      have h50 : C_9 5 0 = some (.inl (ca 2, 255, .inl wt)) := by rw [← hC_9]; exact (pw_up_ne _ _ (by decide)).trans h50
      have h60 : C_9 6 0 = some (.inl (ca 0, 35, .inl la)) := by rw [← hC_9]; exact (pw_up_ne _ _ (by decide)).trans h60
      have h70 : C_9 7 0 = some (.inl (ca 0, 35, .inl sn.1)) := by rw [← hC_9]; exact (pw_up_ne _ _ (by decide)).trans h70
      have h30 : C_9 3 0 = some (.inr (1, [.ref (ad 4 0), .ref (ad 5 0), .ref (ad 6 0), .int (nI bs.length), .int (nI wn), .int hn, .int (-2), .ref (ad 7 0), .int sn.2.1, .int sn.2.2.1, .int sn.2.2.2])) := by rw [← hC_9]; exact pw_up_self _ _ _ _
      have hfr : ∀ x y, (x < 3 ∨ 7 < x) → C_9 x y = C x y := fun x y h => by rw [← hC_9]; exact (pw_up_ne _ _ (by omega)).trans (hfr x y h)
      refine lv_aload_n hx hb d_O_put_25 rfl (lv_at hl 0 rfl) ?_
      refine pw_get (Cn := "GraphWriter$Out") (T := F_O) (N := 11) hx hb hts in_O hown hK hw 3 0 rfl h30 rfl 6 (by decide) (hts _ wd_97) (fun _ h9 => h9) rfl d_O_put_26 ?_
      refine lv_if_eq (tgt := 33) hx hb d_O_put_29 (by decide) (fun c_10 => ?_) (fun c_10 => ?_)
      · exact absurd c_10 (by decide)
      · refine pw_vret hx hb hr hlocks hw ⟨rfl, ?_, hfr⟩ d_O_put_32
        have hp : es_put (bs, oc, la, hn) n w = (bs, -2, la, hn) := by simp only [es_put, hoc, if_true]; rw [if_pos (by omega)]
        rw [hp]
        exact ⟨by0, wt, h30, h40, h50, h60, h70, hlen, hby, hwn, hw0, hwt⟩
