/-- the texts of the constants -/
def z9_tx (i : Nat) : List Int32 := match i with
  | 0 => [97, 98, 99, 100, 101, 102, 103, 104, 105, 106, 107, 108, 109, 110, 111, 112, 113, 114, 115, 116, 117, 118, 119, 120, 121, 122]
  | 1 => [91, 73]
  | 2 => [91, 76, 106, 97, 118, 97, 46, 108, 97, 110, 103, 46, 79, 98, 106, 101, 99, 116, 59]
  | 3 => [66, 67, 73, 74, 83, 90, 91, 76]
  | 4 => [76, 106, 97, 118, 97, 47, 108, 97, 110, 103, 47, 79, 98, 106, 101, 99, 116, 59]
  | 5 => [106, 97, 118, 97, 46, 108, 97, 110, 103, 46, 69, 110, 117, 109]
  | 6 => []
  | _ => [65, 66, 67, 68, 69, 70]
/-- what stays: statics, constants' places, tables' words of their own kind -/
def z9_Z (kS : Nat → Nat) (kT : Nat) (A : Nat → Prop) (U : State) : Prop :=
  va_Z "java/lang/String" "COMPACT_STRINGS" "Z" (.int 1) A U U.heap ∧
  va_Zq "jdk/internal/util/Preconditions" "SIOOBE_FORMATTER" "Ljava/util/function/BiFunction;" A U U.heap ∧
  va_Z "GraphWriter" "TYPE_WIDTHS" "[I" (.ref kT) A U U.heap ∧
  vk_R "GraphWriter" 102 "abcdefghijklmnopqrstuvwxyz" (kS 0) U ∧
  vk_R "GraphWriter" 244 "[I" (kS 1) U ∧
  vk_R "GraphWriter" 257 "[Ljava.lang.Object;" (kS 2) U ∧
  vk_R "GraphWriter" 305 "BCIJSZ[L" (kS 3) U ∧
  vk_R "GraphWriter" 318 "Ljava/lang/Object;" (kS 4) U ∧
  vk_R "GraphWriter" 320 "java.lang.Enum" (kS 5) U ∧
  vk_R "GraphWriter" 81 "" (kS 6) U ∧
  vk_R "GraphWriter$Defined" 32 "ABCDEF" (kS 7) U ∧
  va_AO "GraphWriter$Defined" U ∧ va_AO "GraphWriter$Thing" U ∧ va_Nw (.methodLinkNest "GraphWriter" 23 ⟨"GraphWriter$Out", "<init>", "()V"⟩ "GraphWriter") U ∧
  ∀ args : Array Value, (Cond.privateMethod ⟨"java/lang/AbstractStringBuilder", "ensureCapacityInternal", "(I)V"⟩).before args U = true
theorem z9_ok (kS : Nat → Nat) (kT : Nat) : pw_Zok (z9_Z kS kT) := by
  intro A A' U V hW hA hs hk h
  obtain ⟨h1, h2, h3, s0, s1, s2, s3, s4, s5, s6, s7, a1, a2, n1, n2⟩ := h
  have hk' : ∀ a : Nat, a < U.heap.size → ¬ A a → V.heap[a]? = U.heap[a]? := hk
  exact ⟨((va_Z.moved hW.alike h1).kept hk').narrow hA, ((va_Zq.moved hW.alike h2).kept hk').narrow hA, ((va_Z.moved hW.alike h3).kept hk').narrow hA, s0.warm hW, s1.warm hW, s2.warm hW, s3.warm hW, s4.warm hW, s5.warm hW, s6.warm hW, s7.warm hW, va_AO.moved hW.alike a1, va_AO.moved hW.alike a2, va_Nw.warmM hW n1, fun args => Cond.privateMethod_warm (args := args) hW (n2 args)⟩
/-- a text's two cells -/
def st_at (ca : Nat → ClassId) (ad : pw_A) (C : pw_C) (x y x2 y2 : Nat) (t : List Int32) : Prop := ∃ (f : Nat → Int32) (g1 g2 : Value), C x y = some (.inr (5, [.ref (ad x2 y2), .int 0, g1, g2])) ∧ C x2 y2 = some (.inl (ca 2, t.length, .inl f)) ∧ (∀ i, i < t.length → f i = t.getD i 0) ∧ t.length < 2 ^ 15 ∧ ∀ i, i < t.length → ∃ k : Nat, k < 128 ∧ t.getD i 0 = nI k
set_option maxHeartbeats 4000000 in
set_option maxRecDepth 100000 in
theorem k_JS_coder {l : Launch} {D : va_G} {ca : Nat → ClassId} {kS : Nat → Nat} {kT : Nat} {ad : pw_A} {C : pw_C} {x y x2 y2 : Nat} {t : List Int32} (hT : st_at ca ad C x y x2 y2 t) : gc_Con l y_JS_coder c_JS_coder ({ frames := 0, cells := 0, slots := 0, locals := 0 }) D ca (z9_Z kS kT) [.ref (ad x y)] ad C (pw_pi (fun r ad' C' => (ad' = ad ∧ C' = C) ∧ r = 0)) 0 0 := by
  have hZ := z9_ok kS kT
  have hT0 := hT
  obtain ⟨f, g1, g2, hs0, hs1, hsf, hsn, hsc⟩ := hT
  refine pw_ofW (cc := b_JS_coder) (maxL := 1) (ret := (some FieldType.byte)) (by decide) rfl (Nat.le_of_ble_eq_true rfl) ?_
  intro p e s m args below meth c A ls hB hA hw hK hz hl
  obtain ⟨hx, hb, hr, hml, hts0, hlocks, hown, hnm⟩ := hB
  have hts := wd_hts hts0
  have hown : s.vm.findClass "java/lang/String" = some m.cls := hown
  have hl : lv_has ls 1 [(0, .ref (ad x y))] := hl
  have hz0 := hz
  obtain ⟨hz1, hz2, hz3, -⟩ := hz0
  refine va_gets (v := .int 1) hx hb hz1 hw.2.2.1 hown (hts _ wd_203) (fun _ h9 => h9) d_JS_coder_0 ?_
  refine lv_if_eq (tgt := 13) hx hb d_JS_coder_3 (by decide) (fun c_1 => ?_) (fun c_1 => ?_)
  · exact absurd c_1 (by decide)
  · skip
    refine lv_aload_n hx hb d_JS_coder_6 rfl (lv_at hl 0 rfl) ?_
    refine pw_get (Cn := "java/lang/String") (T := F_JS) (N := 4) hx hb hts in_JS hown hK hw x y rfl hs0 rfl 1 (by decide) (hts _ wd_242) (fun _ h9 => h9) rfl d_JS_coder_7 ?_
    refine lv_goto (tgt := 14) hx hb d_JS_coder_10 (by decide) ?_
    exact pw_zret hx hb hr hlocks hw rfl ⟨⟨rfl, rfl⟩, rfl⟩ d_JS_coder_14
set_option maxHeartbeats 4000000 in
set_option maxRecDepth 100000 in
theorem k_JS_isLatin1 {l : Launch} {D : va_G} {ca : Nat → ClassId} {kS : Nat → Nat} {kT : Nat} {ad : pw_A} {C : pw_C} {x y x2 y2 : Nat} {t : List Int32} (hT : st_at ca ad C x y x2 y2 t) : gc_Con l y_JS_isLatin1 c_JS_isLatin1 ({ frames := 0, cells := 0, slots := 0, locals := 0 }) D ca (z9_Z kS kT) [.ref (ad x y)] ad C (pw_pi (fun r ad' C' => (ad' = ad ∧ C' = C) ∧ r = 1)) 0 0 := by
  have hZ := z9_ok kS kT
  have hT0 := hT
  obtain ⟨f, g1, g2, hs0, hs1, hsf, hsn, hsc⟩ := hT
  refine pw_ofW (cc := b_JS_isLatin1) (maxL := 1) (ret := (some FieldType.boolean)) (by decide) rfl (Nat.le_of_ble_eq_true rfl) ?_
  intro p e s m args below meth c A ls hB hA hw hK hz hl
  obtain ⟨hx, hb, hr, hml, hts0, hlocks, hown, hnm⟩ := hB
  have hts := wd_hts hts0
  have hown : s.vm.findClass "java/lang/String" = some m.cls := hown
  have hl : lv_has ls 1 [(0, .ref (ad x y))] := hl
  have hz0 := hz
  obtain ⟨hz1, hz2, hz3, -⟩ := hz0
  refine va_gets (v := .int 1) hx hb hz1 hw.2.2.1 hown (hts _ wd_203) (fun _ h9 => h9) d_JS_isLatin1_0 ?_
  refine lv_if_eq (tgt := 17) hx hb d_JS_isLatin1_3 (by decide) (fun c_1 => ?_) (fun c_1 => ?_)
  · exact absurd c_1 (by decide)
  · skip
    refine lv_aload_n hx hb d_JS_isLatin1_6 rfl (lv_at hl 0 rfl) ?_
    refine pw_get (Cn := "java/lang/String") (T := F_JS) (N := 4) hx hb hts in_JS hown hK hw x y rfl hs0 rfl 1 (by decide) (hts _ wd_242) (fun _ h9 => h9) rfl d_JS_isLatin1_7 ?_
    refine lv_if_ne (tgt := 17) hx hb d_JS_isLatin1_10 (by decide) (fun c_2 => ?_) (fun c_2 => ?_)
    · exact absurd rfl c_2
    · skip
      refine lv_iconst (v := 1) hx hb d_JS_isLatin1_13 (by decide) ?_
      refine lv_goto (tgt := 18) hx hb d_JS_isLatin1_14 (by decide) ?_
      exact pw_zret hx hb hr hlocks hw rfl ⟨⟨rfl, rfl⟩, rfl⟩ d_JS_isLatin1_18
set_option maxHeartbeats 4000000 in
set_option maxRecDepth 100000 in
theorem k_JS_length {l : Launch} {D : va_G} {ca : Nat → ClassId} {kS : Nat → Nat} {kT : Nat} {ad : pw_A} {C : pw_C} {x y x2 y2 : Nat} {t : List Int32} (hT : st_at ca ad C x y x2 y2 t) : gc_Con l y_JS_length c_JS_length ({ frames := 1, cells := 0, slots := 0, locals := 20 }) D ca (z9_Z kS kT) [.ref (ad x y)] ad C (pw_pi (fun r ad' C' => (ad' = ad ∧ C' = C) ∧ r = nI t.length)) 0 0 := by
  have hZ := z9_ok kS kT
  have hT0 := hT
  obtain ⟨f, g1, g2, hs0, hs1, hsf, hsn, hsc⟩ := hT
  refine pw_ofW (cc := b_JS_length) (maxL := 1) (ret := (some FieldType.int)) (by decide) rfl (Nat.le_of_ble_eq_true rfl) ?_
  intro p e s m args below meth c A ls hB hA hw hK hz hl
  obtain ⟨hx, hb, hr, hml, hts0, hlocks, hown, hnm⟩ := hB
  have hts := wd_hts hts0
  have hown : s.vm.findClass "java/lang/String" = some m.cls := hown
  have hl : lv_has ls 1 [(0, .ref (ad x y))] := hl
  have hz0 := hz
  obtain ⟨hz1, hz2, hz3, -⟩ := hz0
  refine lv_aload_n hx hb d_JS_length_0 rfl (lv_at hl 0 rfl) ?_
  refine pw_get (Cn := "java/lang/String") (T := F_JS) (N := 4) hx hb hts in_JS hown hK hw x y rfl hs0 rfl 0 (by decide) (hts _ wd_241) (fun _ h9 => h9) rfl d_JS_length_1 ?_
  refine pw_alen hx hb hK hw x2 y2 rfl 2 hs1 rfl d_JS_length_4 ?_
  refine lv_aload_n hx hb d_JS_length_5 rfl (lv_at hl 0 rfl) ?_
  refine pw_calli (va_runV (As := []) (rest := [.int (nI t.length)]) ⟨hx, hb, hml, hown, hts0⟩ (k_JS_coder hT0 _) (cwV 0 hts0 (wd_V wd_202 wd_199 wd_200 wd_201 wd_60) rfl rfl rfl (by decide +kernel) ⟨Nat.le_of_ble_eq_true rfl, Nat.le_of_ble_eq_true rfl⟩) (pw_preV hZ hw hA hK hz rfl hs0 rfl) rfl rfl hl.1 rfl (lv_room (Nat.le_of_ble_eq_true rfl)) d_JS_length_6 ⟨Nat.le_of_ble_eq_true rfl, Nat.le_of_ble_eq_true rfl⟩) hw hA (fun r_3 ad_1 C_2 H locs hp hw => ?_)
  obtain ⟨⟨hae, hce⟩, hre⟩ := hp
  rw [hae, hce] at hw
  rw [hre]
  clear hae hce hre
  refine lv_ishr hx hb d_JS_length_9 ?_
  rw [sb_shr0]
  exact pw_iret hx hb hr hlocks hw ⟨⟨rfl, rfl⟩, rfl⟩ d_JS_length_10
set_option maxHeartbeats 4000000 in
set_option maxRecDepth 100000 in
theorem k_JC_checkIndexN {l : Launch} {D : va_G} {ca : Nat → ClassId} {kS : Nat → Nat} {kT : Nat} {ad : pw_A} {C : pw_C} {j n : Nat} (hj : j < n) (hn : n < 2 ^ 31) : gc_Con l y_JC_checkIndex c_JC_checkIndex ({ frames := 0, cells := 0, slots := 0, locals := 0 }) D ca (z9_Z kS kT) [.int (nI j), .int (nI n), .null] ad C (pw_pi (fun r ad' C' => (ad' = ad ∧ C' = C) ∧ r = nI j)) 0 0 := by
  have hZ := z9_ok kS kT
  refine pw_ofW (cc := b_JC_checkIndex) (maxL := 3) (ret := (some FieldType.int)) (by decide) rfl (Nat.le_of_ble_eq_true rfl) ?_
  intro p e s m args below meth c A ls hB hA hw hK hz hl
  obtain ⟨hx, hb, hr, hml, hts0, hlocks, hown, hnm⟩ := hB
  have hts := wd_hts hts0
  have hown : s.vm.findClass "jdk/internal/util/Preconditions" = some m.cls := hown
  have hl : lv_has ls 3 [(0, .int (nI j)), (1, .int (nI n)), (2, .null)] := hl
  have hz0 := hz
  obtain ⟨hz1, hz2, hz3, -⟩ := hz0
  refine lv_iload_n hx hb d_JC_checkIndex_0 rfl (lv_at hl 0 rfl) ?_
  refine lv_if_lt (tgt := 9) hx hb d_JC_checkIndex_1 (by decide) (fun c_1 => ?_) (fun c_1 => ?_)
  · exact absurd c_1 (nI_pos (by omega))
  · skip
    refine lv_iload_n hx hb d_JC_checkIndex_4 rfl (lv_at hl 0 rfl) ?_
    refine lv_iload_n hx hb d_JC_checkIndex_5 rfl (lv_at hl 1 rfl) ?_
    refine lv_icmp_lt (tgt := 16) hx hb d_JC_checkIndex_6 (by decide) (fun c_2 => ?_) (fun c_2 => ?_)
    · skip
      refine lv_iload_n hx hb d_JC_checkIndex_16 rfl (lv_at hl 0 rfl) ?_
      exact pw_iret hx hb hr hlocks hw ⟨⟨rfl, rfl⟩, rfl⟩ d_JC_checkIndex_17
    · exact absurd (nI_lt hj hn) c_2
set_option maxHeartbeats 4000000 in
set_option maxRecDepth 100000 in
theorem k_JC_checkIndexR {l : Launch} {D : va_G} {ca : Nat → ClassId} {kS : Nat → Nat} {kT : Nat} {ad : pw_A} {C : pw_C} {q : Nat} {j n : Nat} (hj : j < n) (hn : n < 2 ^ 31) : gc_Con l y_JC_checkIndex c_JC_checkIndex ({ frames := 0, cells := 0, slots := 0, locals := 0 }) D ca (z9_Z kS kT) [.int (nI j), .int (nI n), .ref q] ad C (pw_pi (fun r ad' C' => (ad' = ad ∧ C' = C) ∧ r = nI j)) 0 0 := by
  have hZ := z9_ok kS kT
  refine pw_ofW (cc := b_JC_checkIndex) (maxL := 3) (ret := (some FieldType.int)) (by decide) rfl (Nat.le_of_ble_eq_true rfl) ?_
  intro p e s m args below meth c A ls hB hA hw hK hz hl
  obtain ⟨hx, hb, hr, hml, hts0, hlocks, hown, hnm⟩ := hB
  have hts := wd_hts hts0
  have hown : s.vm.findClass "jdk/internal/util/Preconditions" = some m.cls := hown
  have hl : lv_has ls 3 [(0, .int (nI j)), (1, .int (nI n)), (2, .ref q)] := hl
  have hz0 := hz
  obtain ⟨hz1, hz2, hz3, -⟩ := hz0
  refine lv_iload_n hx hb d_JC_checkIndex_0 rfl (lv_at hl 0 rfl) ?_
  refine lv_if_lt (tgt := 9) hx hb d_JC_checkIndex_1 (by decide) (fun c_1 => ?_) (fun c_1 => ?_)
  · exact absurd c_1 (nI_pos (by omega))
  · skip
    refine lv_iload_n hx hb d_JC_checkIndex_4 rfl (lv_at hl 0 rfl) ?_
    refine lv_iload_n hx hb d_JC_checkIndex_5 rfl (lv_at hl 1 rfl) ?_
    refine lv_icmp_lt (tgt := 16) hx hb d_JC_checkIndex_6 (by decide) (fun c_2 => ?_) (fun c_2 => ?_)
    · skip
      refine lv_iload_n hx hb d_JC_checkIndex_16 rfl (lv_at hl 0 rfl) ?_
      exact pw_iret hx hb hr hlocks hw ⟨⟨rfl, rfl⟩, rfl⟩ d_JC_checkIndex_17
    · exact absurd (nI_lt hj hn) c_2
set_option maxHeartbeats 4000000 in
set_option maxRecDepth 100000 in
theorem k_JS_checkIndex {l : Launch} {D : va_G} {ca : Nat → ClassId} {kS : Nat → Nat} {kT : Nat} {ad : pw_A} {C : pw_C} {j n : Nat} (hj : j < n) (hn : n < 2 ^ 31) : gc_Con l y_JS_checkIndex c_JS_checkIndex ({ frames := 1, cells := 0, slots := 0, locals := 22 }) D ca (z9_Z kS kT) [.int (nI j), .int (nI n)] ad C (pw_pv (fun ad' C' => ad' = ad ∧ C' = C)) 0 0 := by
  have hZ := z9_ok kS kT
  refine pw_ofW (cc := b_JS_checkIndex) (maxL := 2) (ret := none) (by decide) rfl (Nat.le_of_ble_eq_true rfl) ?_
  intro p e s m args below meth c A ls hB hA hw hK hz hl
  obtain ⟨hx, hb, hr, hml, hts0, hlocks, hown, hnm⟩ := hB
  have hts := wd_hts hts0
  have hown : s.vm.findClass "java/lang/String" = some m.cls := hown
  have hl : lv_has ls 2 [(0, .int (nI j)), (1, .int (nI n))] := hl
  have hz0 := hz
  obtain ⟨hz1, hz2, hz3, -⟩ := hz0
  refine lv_iload_n hx hb d_JS_checkIndex_0 rfl (lv_at hl 0 rfl) ?_
  refine lv_iload_n hx hb d_JS_checkIndex_1 rfl (lv_at hl 1 rfl) ?_
  rcases hz2 with hz2 | ⟨q, hz2⟩
  · skip
    refine va_gets (v := .null) hx hb hz2 hw.2.2.1 hown (hts _ wd_208) (fun _ h9 => h9) d_JS_checkIndex_2 ?_
    refine pw_calli (va_runS (As := [.int (nI j), .int (nI n), .null]) (rest := []) ⟨hx, hb, hml, hown, hts0⟩ (k_JC_checkIndexN hj hn _) (va_cwS 3 hts0 (wd_S wd_503 wd_501 wd_502 wd_61) rfl rfl rfl (by decide +kernel) ⟨Nat.le_of_ble_eq_true rfl, Nat.le_of_ble_eq_true rfl⟩) (pw_preS hZ hw hA hK hz) rfl rfl hl.1 rfl (lv_room (Nat.le_of_ble_eq_true rfl)) d_JS_checkIndex_5 ⟨Nat.le_of_ble_eq_true rfl, Nat.le_of_ble_eq_true rfl⟩) hw hA (fun r_3 ad_1 C_2 H locs hp hw => ?_)
    obtain ⟨⟨hae, hce⟩, hre⟩ := hp
    rw [hae, hce] at hw
    rw [hre]
    clear hae hce hre
    refine lv_pop hx hb d_JS_checkIndex_8 rfl ?_
    exact pw_vret hx hb hr hlocks hw ⟨rfl, rfl⟩ d_JS_checkIndex_9
  · skip
    refine va_gets (v := .ref q) hx hb hz2 hw.2.2.1 hown (hts _ wd_208) (fun _ h9 => h9) d_JS_checkIndex_2 ?_
    refine pw_calli (va_runS (As := [.int (nI j), .int (nI n), .ref q]) (rest := []) ⟨hx, hb, hml, hown, hts0⟩ (k_JC_checkIndexR hj hn _) (va_cwS 3 hts0 (wd_S wd_503 wd_501 wd_502 wd_61) rfl rfl rfl (by decide +kernel) ⟨Nat.le_of_ble_eq_true rfl, Nat.le_of_ble_eq_true rfl⟩) (pw_preS hZ hw hA hK hz) rfl rfl hl.1 rfl (lv_room (Nat.le_of_ble_eq_true rfl)) d_JS_checkIndex_5 ⟨Nat.le_of_ble_eq_true rfl, Nat.le_of_ble_eq_true rfl⟩) hw hA (fun r_6 ad_4 C_5 H locs hp hw => ?_)
    obtain ⟨⟨hae, hce⟩, hre⟩ := hp
    rw [hae, hce] at hw
    rw [hre]
    clear hae hce hre
    refine lv_pop hx hb d_JS_checkIndex_8 rfl ?_
    exact pw_vret hx hb hr hlocks hw ⟨rfl, rfl⟩ d_JS_checkIndex_9
theorem st_char : ∀ k, k < 128 → ((nI k &&& nI 255).toUInt32 % 65536).toInt32 = nI k := by decide +kernel
set_option maxHeartbeats 4000000 in
set_option maxRecDepth 100000 in
theorem k_JL_charAt {l : Launch} {D : va_G} {ca : Nat → ClassId} {kS : Nat → Nat} {kT : Nat} {ad : pw_A} {C : pw_C} {x y x2 y2 : Nat} {t : List Int32} (hT : st_at ca ad C x y x2 y2 t) {j : Nat} (hj : j < t.length) : gc_Con l y_JL_charAt c_JL_charAt ({ frames := 2, cells := 0, slots := 0, locals := 43 }) D ca (z9_Z kS kT) [.ref (ad x2 y2), .int (nI j)] ad C (pw_pi (fun r ad' C' => (ad' = ad ∧ C' = C) ∧ r = t.getD j 0)) 0 0 := by
  have hZ := z9_ok kS kT
  have hT0 := hT
  obtain ⟨f, g1, g2, hs0, hs1, hsf, hsn, hsc⟩ := hT
  refine pw_ofW (cc := b_JL_charAt) (maxL := 2) (ret := (some FieldType.char)) (by decide) rfl (Nat.le_of_ble_eq_true rfl) ?_
  intro p e s m args below meth c A ls hB hA hw hK hz hl
  obtain ⟨hx, hb, hr, hml, hts0, hlocks, hown, hnm⟩ := hB
  have hts := wd_hts hts0
  have hown : s.vm.findClass "java/lang/StringLatin1" = some m.cls := hown
  have hl : lv_has ls 2 [(0, .ref (ad x2 y2)), (1, .int (nI j))] := hl
  have hz0 := hz
  obtain ⟨hz1, hz2, hz3, -⟩ := hz0
  refine lv_iload_n hx hb d_JL_charAt_0 rfl (lv_at hl 1 rfl) ?_
  refine lv_aload_n hx hb d_JL_charAt_1 rfl (lv_at hl 0 rfl) ?_
  refine pw_alen hx hb hK hw x2 y2 rfl 2 hs1 rfl d_JL_charAt_2 ?_
  refine pw_callv (va_runS (As := [.int (nI j), .int (nI t.length)]) (rest := []) ⟨hx, hb, hml, hown, hts0⟩ (k_JS_checkIndex hj (by omega) _) (va_cwS 2 hts0 (wd_S wd_500 wd_632 wd_499 wd_60) rfl rfl rfl (by decide +kernel) ⟨Nat.le_of_ble_eq_true rfl, Nat.le_of_ble_eq_true rfl⟩) (pw_preS hZ hw hA hK hz) rfl rfl hl.1 rfl (lv_room (Nat.le_of_ble_eq_true rfl)) d_JL_charAt_3 ⟨Nat.le_of_ble_eq_true rfl, Nat.le_of_ble_eq_true rfl⟩) hw hA (fun ad_1 C_2 H locs hp hw => ?_)
  obtain ⟨hae, hce⟩ := hp
  rw [hae, hce] at hw
  clear hae hce
  refine lv_aload_n hx hb d_JL_charAt_6 rfl (lv_at hl 0 rfl) ?_
  refine lv_iload_n hx hb d_JL_charAt_7 rfl (lv_at hl 1 rfl) ?_
  refine pw_bald hx hb hK hw x2 y2 rfl 2 hs1 rfl j rfl (by omega) (by omega) d_JL_charAt_8 ?_
  refine lv_sipush (v := 255) hx hb d_JL_charAt_9 (by decide) ?_
  refine lv_iand hx hb d_JL_charAt_12 ?_
  refine lv_i2c hx hb d_JL_charAt_13 rfl ?_
  obtain ⟨k, hk, hk2⟩ := hsc j hj
  have e9 : ((f j &&& 255).toUInt32 % 65536).toInt32 = t.getD j 0 := by
    rw [hsf j hj, hk2, show (255 : Int32) = nI 255 from rfl]
    exact st_char k hk
  rw [e9]
  exact pw_zret hx hb hr hlocks hw (by rw [hk2]; exact (pk_charN (by omega)).1) ⟨⟨rfl, rfl⟩, rfl⟩ d_JL_charAt_14
set_option maxHeartbeats 4000000 in
set_option maxRecDepth 100000 in
theorem k_JS_charAt {l : Launch} {D : va_G} {ca : Nat → ClassId} {kS : Nat → Nat} {kT : Nat} {ad : pw_A} {C : pw_C} {x y x2 y2 : Nat} {t : List Int32} (hT : st_at ca ad C x y x2 y2 t) {j : Nat} (hj : j < t.length) : gc_Con l y_JS_charAt c_JS_charAt ({ frames := 3, cells := 0, slots := 0, locals := 64 }) D ca (z9_Z kS kT) [.ref (ad x y), .int (nI j)] ad C (pw_pi (fun r ad' C' => (ad' = ad ∧ C' = C) ∧ r = t.getD j 0)) 0 0 := by
  have hZ := z9_ok kS kT
  have hT0 := hT
  obtain ⟨f, g1, g2, hs0, hs1, hsf, hsn, hsc⟩ := hT
  refine pw_ofW (cc := b_JS_charAt) (maxL := 2) (ret := (some FieldType.char)) (by decide) rfl (Nat.le_of_ble_eq_true rfl) ?_
  intro p e s m args below meth c A ls hB hA hw hK hz hl
  obtain ⟨hx, hb, hr, hml, hts0, hlocks, hown, hnm⟩ := hB
  have hts := wd_hts hts0
  have hown : s.vm.findClass "java/lang/String" = some m.cls := hown
  have hl : lv_has ls 2 [(0, .ref (ad x y)), (1, .int (nI j))] := hl
  have hz0 := hz
  obtain ⟨hz1, hz2, hz3, -⟩ := hz0
  refine lv_aload_n hx hb d_JS_charAt_0 rfl (lv_at hl 0 rfl) ?_
  refine pw_calli (va_runV (As := []) (rest := []) ⟨hx, hb, hml, hown, hts0⟩ (k_JS_isLatin1 hT0 _) (cwV 0 hts0 (wd_V wd_216 wd_213 wd_214 wd_215 wd_60) rfl rfl rfl (by decide +kernel) ⟨Nat.le_of_ble_eq_true rfl, Nat.le_of_ble_eq_true rfl⟩) (pw_preV hZ hw hA hK hz rfl hs0 rfl) rfl rfl hl.1 rfl (lv_room (Nat.le_of_ble_eq_true rfl)) d_JS_charAt_1 ⟨Nat.le_of_ble_eq_true rfl, Nat.le_of_ble_eq_true rfl⟩) hw hA (fun r_3 ad_1 C_2 H locs hp hw => ?_)
  obtain ⟨⟨hae, hce⟩, hre⟩ := hp
  rw [hae, hce] at hw
  rw [hre]
  clear hae hce hre
  refine lv_if_eq (tgt := 16) hx hb d_JS_charAt_4 (by decide) (fun c_4 => ?_) (fun c_4 => ?_)
  · exact absurd c_4 (by decide)
  · skip
    refine lv_aload_n hx hb d_JS_charAt_7 rfl (lv_at hl 0 rfl) ?_
    refine pw_get (Cn := "java/lang/String") (T := F_JS) (N := 4) hx hb hts in_JS hown hK hw x y rfl hs0 rfl 0 (by decide) (hts _ wd_241) (fun _ h9 => h9) rfl d_JS_charAt_8 ?_
    refine lv_iload_n hx hb d_JS_charAt_11 rfl (lv_at hl 1 rfl) ?_
    refine pw_calli (va_runS (As := [.ref (ad x2 y2), .int (nI j)]) (rest := []) ⟨hx, hb, hml, hown, hts0⟩ (k_JL_charAt hT0 hj _) (va_cwS 2 hts0 (wd_S wd_631 wd_629 wd_630 wd_62) rfl rfl rfl (by decide +kernel) ⟨Nat.le_of_ble_eq_true rfl, Nat.le_of_ble_eq_true rfl⟩) (pw_preS hZ hw hA hK hz) rfl rfl hl.1 rfl (lv_room (Nat.le_of_ble_eq_true rfl)) d_JS_charAt_12 ⟨Nat.le_of_ble_eq_true rfl, Nat.le_of_ble_eq_true rfl⟩) hw hA (fun r_7 ad_5 C_6 H locs hp hw => ?_)
    obtain ⟨⟨hae, hce⟩, hre⟩ := hp
    rw [hae, hce] at hw
    rw [hre]
    clear hae hce hre
    obtain ⟨k, hk, hk2⟩ := hsc j hj
    exact pw_zret hx hb hr hlocks hw (by rw [hk2]; exact (pk_charN (by omega)).1) ⟨⟨rfl, rfl⟩, rfl⟩ d_JS_charAt_15
