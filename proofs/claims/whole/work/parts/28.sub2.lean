theorem nI_inj {a b : Nat} (ha : a < 2 ^ 31) (hb : b < 2 ^ 31) (h : nI a = nI b) : a = b := by
  have := congrArg Int32.toNatClampNeg h
  rwa [nI_clamp ha, nI_clamp hb] at this
/-- a thing that nobody needs any more leaves the world -/
theorem pw_H.drop {D : va_G} {cl : List vw_C} {A : Nat → Prop} {H0 : Heap} {a0 ad : pw_A} {c0 C : pw_C} {H : Heap} {locs : List Loc} (h : pw_H D cl A H0 a0 c0 ad C H locs) {x y : Nat} (hx : x < 50) (v : Nat) : pw_H D cl A H0 a0 c0 (pw_up ad x y v) (pw_up C x y none) H locs := by
  have hs : ∀ (a b : Nat) (e : va_E), pw_up C x y none a b = some e → C a b = some e ∧ pw_up ad x y v a b = ad a b := by
    intro a b e he
    by_cases hab : a = x ∧ b = y
    · obtain ⟨rfl, rfl⟩ := hab
      rw [pw_up_self] at he; exact absurd he (by simp)
    · rw [pw_up_ne _ _ hab] at he
      exact ⟨he, pw_up_ne _ _ hab⟩
  obtain ⟨⟨w1, w2, Ls, w3⟩, h2, h3, h4⟩ := h
  refine ⟨⟨fun a b e he => ?_, fun a b a' b' e e' he he' h5 hq => ?_, Ls, fun a b e he => w3 a b e (hs a b e he).1⟩, fun a b e he => ?_, h3, fun a b hab => ?_⟩
  · obtain ⟨g1, g2⟩ := hs a b e he
    rw [g2]; exact w1 a b e g1
  · obtain ⟨g1, g2⟩ := hs a b e he
    obtain ⟨g3, g4⟩ := hs a' b' e' he'
    rw [g2, g4] at hq
    exact w2 a b a' b' e e' g1 g3 h5 hq
  · obtain ⟨g1, g2⟩ := hs a b e he
    rw [g2]; exact h2 a b e g1
  · rw [pw_up_ne _ _ (by omega), pw_up_ne _ _ (by omega)]; exact h4 a b hab
set_option maxHeartbeats 4000000 in
set_option maxRecDepth 100000 in
theorem k_JR_copyOfRangeByteW {l : Launch} {D : va_G} {ca : Nat → ClassId} {kS : Nat → Nat} {kT : Nat} {ad : pw_A} {C : pw_C} {x y x2 y2 n a b : Nat} {f : Nat → Int32} (hx5 : x < 50) (hno : C x y = none) (hx2 : x2 < 50) (hs1 : C x2 y2 = some (.inl (ca 2, n, .inl f))) (hab : a ≤ b) (hbn : b ≤ n) (hb8 : b - a ≤ 8) (hn : n < 2 ^ 15) (hfit : ∀ i, i < b - a → fits .byte (.int (f (a + i))) = true) : gc_Con l y_JR_copyOfRangeByte c_JR_copyOfRangeByte ({ frames := 1, cells := 1, slots := 8, locals := 60 }) D ca (z9_Z kS kT) [.ref (ad x2 y2), .int (nI a), .int (nI b)] ad C (pw_pr (fun r ad' C' => ad' = pw_up ad x y r ∧ C' = pw_up C x y (some (.inl (ca 2, b - a, .inl (va_cpy f (fun _ => 0) a 0 (b - a))))))) 1 8 := by
  have hZ := z9_ok kS kT
  refine pw_ofW (cc := b_JR_copyOfRangeByte) (maxL := 5) (ret := (some (FieldType.array FieldType.byte))) (by decide) rfl (Nat.le_of_ble_eq_true rfl) ?_
  intro p e s m args below meth c A ls hB hA hw hK hz hl
  obtain ⟨hx, hb, hr, hml, hts0, hlocks, hown, hnm⟩ := hB
  have hts := wd_hts hts0
  have hown : s.vm.findClass "java/util/Arrays" = some m.cls := hown
  have hl : lv_has ls 5 [(0, .ref (ad x2 y2)), (1, .int (nI a)), (2, .int (nI b))] := hl
  have hz0 := hz
  obtain ⟨hz1, hz2, hz3, -⟩ := hz0
  have hne9 : ¬ (x2 = x ∧ y2 = y) := by rintro ⟨rfl, rfl⟩; rw [hno] at hs1; exact absurd hs1 (by simp)
  refine lv_iload_n hx hb d_JR_copyOfRangeByte_0 rfl (lv_at hl 1 rfl) ?_
  refine lv_iload_n hx hb d_JR_copyOfRangeByte_1 rfl (lv_at hl 2 rfl) ?_
  refine pw_callv (va_runS (As := [.int (nI a), .int (nI b)]) (rest := []) ⟨hx, hb, hml, hown, hts0⟩ (k_JR_checkLength hab (by omega) _) (va_cwS 2 hts0 (wd_S wd_231 wd_229 wd_230 wd_55) rfl rfl rfl (by decide +kernel) ⟨Nat.le_of_ble_eq_true rfl, Nat.le_of_ble_eq_true rfl⟩) (pw_preS hZ hw hA hK hz) rfl rfl hl.1 rfl (lv_room (Nat.le_of_ble_eq_true rfl)) d_JR_copyOfRangeByte_2 ⟨Nat.le_of_ble_eq_true rfl, Nat.le_of_ble_eq_true rfl⟩) hw hA (fun ad_1 C_2 H locs hp hw => ?_)
  obtain ⟨hae, hce⟩ := hp
  rw [hae, hce] at hw
  clear hae hce
  refine lv_iload_n hx hb d_JR_copyOfRangeByte_5 rfl (lv_at hl 2 rfl) ?_
  refine lv_iload_n hx hb d_JR_copyOfRangeByte_6 rfl (lv_at hl 1 rfl) ?_
  refine lv_isub hx hb d_JR_copyOfRangeByte_7 ?_
  rw [pk_sub hab]
  refine lv_istore_n (lv' := [(3, .int (nI (b - a))), (0, .ref (ad x2 y2)), (1, .int (nI a)), (2, .int (nI b))]) hx hb d_JR_copyOfRangeByte_8 rfl hl (by decide) rfl (fun ls hl => ?_)
  refine lv_iload_n hx hb d_JR_copyOfRangeByte_9 rfl (lv_at hl 0 rfl) ?_
  refine pw_newa (atype := .byte) (ty := .byte) (az := ((b - a), .inl (fun _ => 0))) hx hb (hts _ wd_126) rfl (fun t h => by cases h) hK hw hA x y hx5 hno 2 rfl (fun _ => rfl) rfl (by omega) (by show _ * 1 ≤ _; omega) (by (try dsimp only); omega) (by (try dsimp only); omega) d_JR_copyOfRangeByte_10 (fun q_4 H hw => ?_)
  refine W.widen (k := 1) (n := 8) (by omega) (by omega) ?_
  obtain ⟨ad_5, had_5⟩ : ∃ z, z = pw_up ad x y q_4 := ⟨_, rfl⟩
  rw [← had_5] at hw
  have hsad_5 : ad_5 x y = q_4 := by rw [had_5]; exact pw_up_self _ _ _ _
  have hadk : ∀ x9 y9, ¬ (x9 = x ∧ y9 = y) → ad_5 x9 y9 = ad x9 y9 := fun x9 y9 h9 => by rw [had_5]; exact pw_up_ne _ _ h9
  have hw : pw_H D cls9 A s.heap ad C ad_5 (pw_up C x y (some (.inl (ca 2, (b - a), .inl (fun _ => 0))))) H _ := hw
  generalize hC_6 : pw_up C x y (some (.inl (ca 2, (b - a), .inl (fun _ => 0)))) = C_6 at hw
  have hs1 : C_6 x2 y2 = some (.inl (ca 2, n, .inl f)) := by rw [← hC_6]; exact (pw_up_ne _ _ (by omega)).trans hs1
  have p9 : C_6 x y = some (.inl (ca 2, (b - a), .inl (fun _ => 0))) := by rw [← hC_6]; exact pw_up_self _ _ _ _
  refine lv_astore (lv' := [(4, .ref q_4), (3, .int (nI (b - a))), (0, .ref (ad x2 y2)), (1, .int (nI a)), (2, .int (nI b))]) hx hb d_JR_copyOfRangeByte_12 hl (by decide) rfl (fun ls hl => ?_)
  refine lv_aload_n hx hb d_JR_copyOfRangeByte_14 rfl (lv_at hl 2 rfl) ?_
  refine lv_iload_n hx hb d_JR_copyOfRangeByte_15 rfl (lv_at hl 3 rfl) ?_
  refine lv_aload hx hb d_JR_copyOfRangeByte_16 (lv_at hl 0 rfl) ?_
  refine lv_iconst (v := 0) hx hb d_JR_copyOfRangeByte_18 (by decide) ?_
  refine lv_aload_n hx hb d_JR_copyOfRangeByte_19 rfl (lv_at hl 2 rfl) ?_
  refine pw_alen hx hb hK hw x2 y2 (hadk x2 y2 (by omega)) 2 hs1 rfl d_JR_copyOfRangeByte_20 ?_
  refine lv_iload_n hx hb d_JR_copyOfRangeByte_21 rfl (lv_at hl 3 rfl) ?_
  refine lv_isub hx hb d_JR_copyOfRangeByte_22 ?_
  rw [pk_sub (show a ≤ n by omega)]
  refine lv_iload_n hx hb d_JR_copyOfRangeByte_23 rfl (lv_at hl 1 rfl) ?_
  refine va_mmin (rest := [.int 0, .ref q_4, .int (nI a), .ref (ad x2 y2)]) hx hb (hml.trans hl.1.symm) hown (hts _ wd_180) (hts _ wd_181) (hts _ wd_58) (hts _ wd_182) (Nat.le_of_ble_eq_true rfl) (Nat.le_of_ble_eq_true rfl) (by (try dsimp only); omega) (by (try dsimp only); omega) d_JR_copyOfRangeByte_24 ?_
  rw [show (if nI (b - a) < nI (n - a) then nI (b - a) else nI (n - a)) = nI (b - a) from pk_min (by omega) (by omega) (by omega)]
  refine pw_copyi hx hb (hml.trans hl.1.symm) hown (hts _ wd_183) (hts _ wd_185) (hts _ wd_184) (hts _ wd_59) hK hw x2 y2 x y hx2 hx5 (hadk x2 y2 (by omega)) hsad_5 2 2 hs1 p9 rfl rfl rfl a 0 (b - a) rfl rfl rfl (by omega) (by omega) ⟨by omega, by omega⟩ hfit (Nat.le_of_ble_eq_true rfl) (Nat.le_of_ble_eq_true rfl) d_JR_copyOfRangeByte_27 (fun H locs hw => ?_)
  have hw : pw_H D cls9 A s.heap ad C ad_5 (pw_up C_6 x y (some (.inl (ca 2, b - a, .inl (va_cpy f (fun _ => 0) a 0 (b - a)))))) H _ := hw
  generalize hC_7 : pw_up C_6 x y (some (.inl (ca 2, b - a, .inl (va_cpy f (fun _ => 0) a 0 (b - a))))) = C_7 at hw
  have hs1 : C_7 x2 y2 = some (.inl (ca 2, n, .inl f)) := by rw [← hC_7]; exact (pw_up_ne _ _ (by omega)).trans hs1
  have p9 : C_7 x y = some (.inl (ca 2, b - a, .inl (va_cpy f (fun _ => 0) a 0 (b - a)))) := by rw [← hC_7]; exact pw_up_self _ _ _ _
  refine lv_aload hx hb d_JR_copyOfRangeByte_30 (lv_at hl 0 rfl) ?_
  refine pw_aret hx hb hr (Or.inr ⟨_, rfl⟩) hlocks hw ⟨had_5, ?_⟩ d_JR_copyOfRangeByte_32
  rw [← hC_7, ← hC_6, pw_up_up]
set_option maxHeartbeats 4000000 in
set_option maxRecDepth 100000 in
theorem k_JR_copyOfRange {l : Launch} {D : va_G} {ca : Nat → ClassId} {kS : Nat → Nat} {kT : Nat} {ad : pw_A} {C : pw_C} {x y x2 y2 n a b : Nat} {f : Nat → Int32} (hx5 : x < 50) (hno : C x y = none) (hx2 : ¬ x2 < 50) (hs1 : C x2 y2 = some (.inl (ca 2, n, .inl f))) (hab : a ≤ b) (hbn : b ≤ n) (hb8 : b - a ≤ 8) (hn : n < 2 ^ 15) (hfit : ∀ i, i < b - a → fits .byte (.int (f (a + i))) = true) (hnw : ¬ (a = 0 ∧ b = n)) : gc_Con l y_JR_copyOfRange c_JR_copyOfRange ({ frames := 2, cells := 1, slots := 8, locals := 84 }) D ca (z9_Z kS kT) [.ref (ad x2 y2), .int (nI a), .int (nI b)] ad C (pw_pr (fun r ad' C' => ad' = pw_up ad x y r ∧ C' = pw_up C x y (some (.inl (ca 2, b - a, .inl (va_cpy f (fun _ => 0) a 0 (b - a))))))) 1 8 := by
  have hZ := z9_ok kS kT
  refine pw_ofW (cc := b_JR_copyOfRange) (maxL := 3) (ret := (some (FieldType.array FieldType.byte))) (by decide) rfl (Nat.le_of_ble_eq_true rfl) ?_
  intro p e s m args below meth c A ls hB hA hw hK hz hl
  obtain ⟨hx, hb, hr, hml, hts0, hlocks, hown, hnm⟩ := hB
  have hts := wd_hts hts0
  have hown : s.vm.findClass "java/util/Arrays" = some m.cls := hown
  have hl : lv_has ls 3 [(0, .ref (ad x2 y2)), (1, .int (nI a)), (2, .int (nI b))] := hl
  have hz0 := hz
  obtain ⟨hz1, hz2, hz3, -⟩ := hz0
  refine lv_iload_n hx hb d_JR_copyOfRange_0 rfl (lv_at hl 1 rfl) ?_
  refine lv_if_ne (tgt := 10) hx hb d_JR_copyOfRange_1 (by decide) (fun c_1 => ?_) (fun c_1 => ?_)
  · skip
    refine lv_aload_n hx hb d_JR_copyOfRange_10 rfl (lv_at hl 0 rfl) ?_
    refine lv_iload_n hx hb d_JR_copyOfRange_11 rfl (lv_at hl 1 rfl) ?_
    refine lv_iload_n hx hb d_JR_copyOfRange_12 rfl (lv_at hl 2 rfl) ?_
    refine pw_callr (va_runS (As := [.ref (ad x2 y2), .int (nI a), .int (nI b)]) (rest := []) ⟨hx, hb, hml, hown, hts0⟩ (k_JR_copyOfRangeByte hx5 hno hx2 hs1 hab hbn hb8 hn hfit _) (va_cwS 3 hts0 (wd_S wd_228 wd_226 wd_227 wd_55) rfl rfl rfl (by decide +kernel) ⟨Nat.le_of_ble_eq_true rfl, Nat.le_of_ble_eq_true rfl⟩) (pw_preS hZ hw hA hK hz) rfl rfl hl.1 rfl (lv_room (Nat.le_of_ble_eq_true rfl)) d_JR_copyOfRange_13 ⟨Nat.le_of_ble_eq_true rfl, Nat.le_of_ble_eq_true rfl⟩) hw hA (fun r_4 ad_2 C_3 H locs hp hw => ?_)
    exact pw_aret hx hb hr (Or.inr ⟨_, rfl⟩) hlocks hw hp d_JR_copyOfRange_16
  · skip
    refine lv_iload_n hx hb d_JR_copyOfRange_4 rfl (lv_at hl 2 rfl) ?_
    refine lv_aload_n hx hb d_JR_copyOfRange_5 rfl (lv_at hl 0 rfl) ?_
    refine pw_alen hx hb hK hw x2 y2 rfl 2 hs1 rfl d_JR_copyOfRange_6 ?_
    refine lv_icmp_eq (tgt := 17) hx hb d_JR_copyOfRange_7 (by decide) (fun c_5 => ?_) (fun c_5 => ?_)
    · exact absurd ⟨nI_inj (b := 0) (by omega) (by omega) c_1, nI_inj (by omega) (by omega) c_5⟩ hnw
    · skip
      refine lv_aload_n hx hb d_JR_copyOfRange_10 rfl (lv_at hl 0 rfl) ?_
      refine lv_iload_n hx hb d_JR_copyOfRange_11 rfl (lv_at hl 1 rfl) ?_
      refine lv_iload_n hx hb d_JR_copyOfRange_12 rfl (lv_at hl 2 rfl) ?_
      refine pw_callr (va_runS (As := [.ref (ad x2 y2), .int (nI a), .int (nI b)]) (rest := []) ⟨hx, hb, hml, hown, hts0⟩ (k_JR_copyOfRangeByte hx5 hno hx2 hs1 hab hbn hb8 hn hfit _) (va_cwS 3 hts0 (wd_S wd_228 wd_226 wd_227 wd_55) rfl rfl rfl (by decide +kernel) ⟨Nat.le_of_ble_eq_true rfl, Nat.le_of_ble_eq_true rfl⟩) (pw_preS hZ hw hA hK hz) rfl rfl hl.1 rfl (lv_room (Nat.le_of_ble_eq_true rfl)) d_JR_copyOfRange_13 ⟨Nat.le_of_ble_eq_true rfl, Nat.le_of_ble_eq_true rfl⟩) hw hA (fun r_8 ad_6 C_7 H locs hp hw => ?_)
      exact pw_aret hx hb hr (Or.inr ⟨_, rfl⟩) hlocks hw hp d_JR_copyOfRange_16
set_option maxHeartbeats 4000000 in
set_option maxRecDepth 100000 in
theorem k_JR_copyOfRangeW {l : Launch} {D : va_G} {ca : Nat → ClassId} {kS : Nat → Nat} {kT : Nat} {ad : pw_A} {C : pw_C} {x y x2 y2 n a b : Nat} {f : Nat → Int32} (hx5 : x < 50) (hno : C x y = none) (hx2 : x2 < 50) (hs1 : C x2 y2 = some (.inl (ca 2, n, .inl f))) (hab : a ≤ b) (hbn : b ≤ n) (hb8 : b - a ≤ 8) (hn : n < 2 ^ 15) (hfit : ∀ i, i < b - a → fits .byte (.int (f (a + i))) = true) (hnw : ¬ (a = 0 ∧ b = n)) : gc_Con l y_JR_copyOfRange c_JR_copyOfRange ({ frames := 2, cells := 1, slots := 8, locals := 84 }) D ca (z9_Z kS kT) [.ref (ad x2 y2), .int (nI a), .int (nI b)] ad C (pw_pr (fun r ad' C' => ad' = pw_up ad x y r ∧ C' = pw_up C x y (some (.inl (ca 2, b - a, .inl (va_cpy f (fun _ => 0) a 0 (b - a))))))) 1 8 := by
  have hZ := z9_ok kS kT
  refine pw_ofW (cc := b_JR_copyOfRange) (maxL := 3) (ret := (some (FieldType.array FieldType.byte))) (by decide) rfl (Nat.le_of_ble_eq_true rfl) ?_
  intro p e s m args below meth c A ls hB hA hw hK hz hl
  obtain ⟨hx, hb, hr, hml, hts0, hlocks, hown, hnm⟩ := hB
  have hts := wd_hts hts0
  have hown : s.vm.findClass "java/util/Arrays" = some m.cls := hown
  have hl : lv_has ls 3 [(0, .ref (ad x2 y2)), (1, .int (nI a)), (2, .int (nI b))] := hl
  have hz0 := hz
  obtain ⟨hz1, hz2, hz3, -⟩ := hz0
  refine lv_iload_n hx hb d_JR_copyOfRange_0 rfl (lv_at hl 1 rfl) ?_
  refine lv_if_ne (tgt := 10) hx hb d_JR_copyOfRange_1 (by decide) (fun c_1 => ?_) (fun c_1 => ?_)
  · skip
    refine lv_aload_n hx hb d_JR_copyOfRange_10 rfl (lv_at hl 0 rfl) ?_
    refine lv_iload_n hx hb d_JR_copyOfRange_11 rfl (lv_at hl 1 rfl) ?_
    refine lv_iload_n hx hb d_JR_copyOfRange_12 rfl (lv_at hl 2 rfl) ?_
    refine pw_callr (va_runS (As := [.ref (ad x2 y2), .int (nI a), .int (nI b)]) (rest := []) ⟨hx, hb, hml, hown, hts0⟩ (k_JR_copyOfRangeByteW hx5 hno hx2 hs1 hab hbn hb8 hn hfit _) (va_cwS 3 hts0 (wd_S wd_228 wd_226 wd_227 wd_55) rfl rfl rfl (by decide +kernel) ⟨Nat.le_of_ble_eq_true rfl, Nat.le_of_ble_eq_true rfl⟩) (pw_preS hZ hw hA hK hz) rfl rfl hl.1 rfl (lv_room (Nat.le_of_ble_eq_true rfl)) d_JR_copyOfRange_13 ⟨Nat.le_of_ble_eq_true rfl, Nat.le_of_ble_eq_true rfl⟩) hw hA (fun r_4 ad_2 C_3 H locs hp hw => ?_)
    exact pw_aret hx hb hr (Or.inr ⟨_, rfl⟩) hlocks hw hp d_JR_copyOfRange_16
  · skip
    refine lv_iload_n hx hb d_JR_copyOfRange_4 rfl (lv_at hl 2 rfl) ?_
    refine lv_aload_n hx hb d_JR_copyOfRange_5 rfl (lv_at hl 0 rfl) ?_
    refine pw_alen hx hb hK hw x2 y2 rfl 2 hs1 rfl d_JR_copyOfRange_6 ?_
    refine lv_icmp_eq (tgt := 17) hx hb d_JR_copyOfRange_7 (by decide) (fun c_5 => ?_) (fun c_5 => ?_)
    · exact absurd ⟨nI_inj (b := 0) (by omega) (by omega) c_1, nI_inj (by omega) (by omega) c_5⟩ hnw
    · skip
      refine lv_aload_n hx hb d_JR_copyOfRange_10 rfl (lv_at hl 0 rfl) ?_
      refine lv_iload_n hx hb d_JR_copyOfRange_11 rfl (lv_at hl 1 rfl) ?_
      refine lv_iload_n hx hb d_JR_copyOfRange_12 rfl (lv_at hl 2 rfl) ?_
      refine pw_callr (va_runS (As := [.ref (ad x2 y2), .int (nI a), .int (nI b)]) (rest := []) ⟨hx, hb, hml, hown, hts0⟩ (k_JR_copyOfRangeByteW hx5 hno hx2 hs1 hab hbn hb8 hn hfit _) (va_cwS 3 hts0 (wd_S wd_228 wd_226 wd_227 wd_55) rfl rfl rfl (by decide +kernel) ⟨Nat.le_of_ble_eq_true rfl, Nat.le_of_ble_eq_true rfl⟩) (pw_preS hZ hw hA hK hz) rfl rfl hl.1 rfl (lv_room (Nat.le_of_ble_eq_true rfl)) d_JR_copyOfRange_13 ⟨Nat.le_of_ble_eq_true rfl, Nat.le_of_ble_eq_true rfl⟩) hw hA (fun r_8 ad_6 C_7 H locs hp hw => ?_)
      exact pw_aret hx hb hr (Or.inr ⟨_, rfl⟩) hlocks hw hp d_JR_copyOfRange_16
set_option maxHeartbeats 4000000 in
set_option maxRecDepth 100000 in
theorem k_JS_init1 {l : Launch} {D : va_G} {ca : Nat → ClassId} {kS : Nat → Nat} {kT : Nat} {ad : pw_A} {C : pw_C} {x y a : Nat} (hx5 : x < 50) (p8 : C x y = some (.inr (5, [.null, .int 0, .int 0, .int 0]))) : gc_Con l y_JS_init1 c_JS_init1 ({ frames := 1, cells := 0, slots := 0, locals := 60 }) D ca (z9_Z kS kT) [.ref (ad x y), .ref a, .int 0] ad C (pw_pv (fun ad' C' => ad' = ad ∧ C' = pw_up C x y (some (.inr (5, [.ref a, .int 0, .int 0, .int 0]))))) 0 0 := by
  have hZ := z9_ok kS kT
  refine pw_ofW (cc := b_JS_init1) (maxL := 3) (ret := none) (by decide) rfl (Nat.le_of_ble_eq_true rfl) ?_
  intro p e s m args below meth c A ls hB hA hw hK hz hl
  obtain ⟨hx, hb, hr, hml, hts0, hlocks, hown, hnm⟩ := hB
  have hts := wd_hts hts0
  have hown : s.vm.findClass "java/lang/String" = some m.cls := hown
  have hl : lv_has ls 3 [(0, .ref (ad x y)), (1, .ref a), (2, .int 0)] := hl
  have hz0 := hz
  obtain ⟨hz1, hz2, hz3, -⟩ := hz0
  refine lv_aload_n hx hb d_JS_init1_0 rfl (lv_at hl 0 rfl) ?_
  refine W.objInit hx hb hown (hts _ wd_240) (hts _ wd_74) (hts _ wd_75) rfl (by rw [hml]; exact hl.1) rfl d_JS_init1_1 (Nat.le_of_ble_eq_true rfl) (Nat.le_of_ble_eq_true rfl) ?_
  refine W.eq (g2 := F0 m 4 ls []) rfl ?_
  refine lv_aload_n hx hb d_JS_init1_4 rfl (lv_at hl 0 rfl) ?_
  refine lv_aload_n hx hb d_JS_init1_5 rfl (lv_at hl 1 rfl) ?_
  refine pw_putF (Cn := "java/lang/String") (T := F_JS) (N := 4) (v := .ref a) (ty := .array .byte) hx hb hts in_JS ft_JS to_JS nm_JS hown hK hw x y hx5 rfl p8 rfl 0 (by decide) (hts _ wd_241) (fun _ h9 => h9) rfl hnm rfl (by decide +kernel) rfl rfl (Nat.le_of_ble_eq_true rfl) d_JS_init1_6 (fun H locs hw => ?_)
  have hw : pw_H D cls9 A s.heap ad C ad (pw_up C x y (some (.inr (5, [.ref a, .int 0, .int 0, .int 0])))) H _ := hw
  generalize hC_1 : pw_up C x y (some (.inr (5, [.ref a, .int 0, .int 0, .int 0]))) = C_1 at hw
  have p8 : C_1 x y = some (.inr (5, [.ref a, .int 0, .int 0, .int 0])) := by rw [← hC_1]; exact pw_up_self _ _ _ _
  refine lv_aload_n hx hb d_JS_init1_9 rfl (lv_at hl 0 rfl) ?_
  refine lv_iload_n hx hb d_JS_init1_10 rfl (lv_at hl 2 rfl) ?_
  refine pw_putF (Cn := "java/lang/String") (T := F_JS) (N := 4) (v := .int 0) (ty := .byte) hx hb hts in_JS ft_JS to_JS nm_JS hown hK hw x y hx5 rfl p8 rfl 1 (by decide) (hts _ wd_242) (fun _ h9 => h9) rfl hnm rfl (by decide +kernel) rfl rfl (Nat.le_of_ble_eq_true rfl) d_JS_init1_11 (fun H locs hw => ?_)
  have hw : pw_H D cls9 A s.heap ad C ad (pw_up C_1 x y (some (.inr (5, [.ref a, .int 0, .int 0, .int 0])))) H _ := hw
  generalize hC_2 : pw_up C_1 x y (some (.inr (5, [.ref a, .int 0, .int 0, .int 0]))) = C_2 at hw
  have p8 : C_2 x y = some (.inr (5, [.ref a, .int 0, .int 0, .int 0])) := by rw [← hC_2]; exact pw_up_self _ _ _ _
  refine pw_vret hx hb hr hlocks hw ⟨rfl, ?_⟩ d_JS_init1_14
  rw [← hC_2, ← hC_1, pw_up_up]
set_option maxHeartbeats 4000000 in
set_option maxRecDepth 100000 in
theorem k_JL_newString {l : Launch} {D : va_G} {ca : Nat → ClassId} {kS : Nat → Nat} {kT : Nat} {ad : pw_A} {C : pw_C} {u v x2 y2 N a n : Nat} {f : Nat → Int32} (hu : u + 1 < 50) (nu : C u v = none) (nu1 : C (u + 1) v = none) (hx2 : ¬ x2 < 50) (hs1 : C x2 y2 = some (.inl (ca 2, N, .inl f))) (hn0 : 0 < n) (haN : a + n ≤ N) (hn8 : n ≤ 8) (hN : N < 2 ^ 15) (hfit : ∀ i, i < n → fits .byte (.int (f (a + i))) = true) (hnw : ¬ (a = 0 ∧ n = N)) : gc_Con l y_JL_newString c_JL_newString ({ frames := 3, cells := 2, slots := 16, locals := 106 }) D ca (z9_Z kS kT) [.ref (ad x2 y2), .int (nI a), .int (nI n)] ad C (pw_pr (fun r ad' C' => ∃ q, ad' = pw_up (pw_up ad u v r) (u + 1) v q ∧ C' u v = some (.inr (5, [.ref q, .int 0, .int 0, .int 0])) ∧ C' (u + 1) v = some (.inl (ca 2, n, .inl (va_cpy f (fun _ => 0) a 0 n))) ∧ ∀ x9 y9, ¬ (x9 = u ∧ y9 = v) → ¬ (x9 = u + 1 ∧ y9 = v) → C' x9 y9 = C x9 y9)) 2 16 := by
  have hZ := z9_ok kS kT
  refine pw_ofW (cc := b_JL_newString) (maxL := 3) (ret := (some (FieldType.object "java/lang/String"))) (by decide) rfl (Nat.le_of_ble_eq_true rfl) ?_
  intro p e s m args below meth c A ls hB hA hw hK hz hl
  obtain ⟨hx, hb, hr, hml, hts0, hlocks, hown, hnm⟩ := hB
  have hts := wd_hts hts0
  have hown : s.vm.findClass "java/lang/StringLatin1" = some m.cls := hown
  have hl : lv_has ls 3 [(0, .ref (ad x2 y2)), (1, .int (nI a)), (2, .int (nI n))] := hl
  have hz0 := hz
  obtain ⟨hz1, hz2, hz3, -⟩ := hz0
  have hfr : ∀ x y, ¬ (x = u ∧ y = v) → ¬ (x = u + 1 ∧ y = v) → C x y = C x y := fun _ _ _ _ => rfl
  refine lv_iload_n hx hb d_JL_newString_0 rfl (lv_at hl 2 rfl) ?_
  refine lv_if_ne (tgt := 7) hx hb d_JL_newString_1 (by decide) (fun c_1 => ?_) (fun c_1 => ?_)
  · skip
    refine pw_new (ci := 5) (fs := [.null, .int 0, .int 0, .int 0]) (Cn := "java/lang/String") (T := F_JS) (N := 4) hx hb hts in_JS ft_JS to_JS hown (hts _ wd_221) (hts _ wd_222) (hts _ wd_60) hK hw hA u v (by omega) nu rfl (fun j hj => by match j, hj with | 0, _ => rfl | 1, _ => rfl | 2, _ => rfl | 3, _ => rfl | j + 4, h => exact absurd h (by omega)) (by (try dsimp only); omega) (by (try dsimp only); omega) d_JL_newString_7 (fun q_2 H hw => ?_)
    refine W.widen (k := 1) (n := 8) (by omega) (by omega) ?_
    obtain ⟨ad_3, had_3⟩ : ∃ z, z = pw_up ad u v q_2 := ⟨_, rfl⟩
    rw [← had_3] at hw
    have hsad_3 : ad_3 u v = q_2 := by rw [had_3]; exact pw_up_self _ _ _ _
    have hadk : ∀ x9 y9, ¬ (x9 = u ∧ y9 = v) → ad_3 x9 y9 = ad x9 y9 := fun x9 y9 h9 => by rw [had_3]; exact pw_up_ne _ _ h9
    have hw : pw_H D cls9 A s.heap ad C ad_3 (pw_up C u v (some (.inr (5, [.null, .int 0, .int 0, .int 0])))) H _ := hw
    generalize hC_4 : pw_up C u v (some (.inr (5, [.null, .int 0, .int 0, .int 0]))) = C_4 at hw
    have hs1 : C_4 x2 y2 = some (.inl (ca 2, N, .inl f)) := by rw [← hC_4]; exact (pw_up_ne _ _ (by omega)).trans hs1
    have p8 : C_4 u v = some (.inr (5, [.null, .int 0, .int 0, .int 0])) := by rw [← hC_4]; exact pw_up_self _ _ _ _
    have hfr : ∀ x y, ¬ (x = u ∧ y = v) → ¬ (x = u + 1 ∧ y = v) → C_4 x y = C x y := fun x y h0 h1 => by rw [← hC_4]; exact (pw_up_ne _ _ (by omega)).trans (hfr x y h0 h1)
    have nu1 : C_4 (u + 1) v = none := by rw [← hC_4]; exact (pw_up_ne _ _ (by omega)).trans nu1
    refine lv_dup hx hb d_JL_newString_10 rfl ?_
    refine lv_aload_n hx hb d_JL_newString_11 rfl (lv_at hl 0 rfl) ?_
    refine lv_iload_n hx hb d_JL_newString_12 rfl (lv_at hl 1 rfl) ?_
    refine lv_iload_n hx hb d_JL_newString_13 rfl (lv_at hl 1 rfl) ?_
    refine lv_iload_n hx hb d_JL_newString_14 rfl (lv_at hl 2 rfl) ?_
    refine lv_iadd hx hb d_JL_newString_15 ?_
    rw [nI_add, ← hadk x2 y2 (by omega)]
    refine pw_callr (va_runS (As := [.ref (ad_3 x2 y2), .int (nI a), .int (nI (a + n))]) (rest := [.ref q_2, .ref q_2]) ⟨hx, hb, hml, hown, hts0⟩ (k_JR_copyOfRange (ad := ad_3) (a := a) (b := a + n) hu nu1 hx2 hs1 (by omega) (by omega) (by omega) hN (by rw [show a + n - a = n by omega]; exact hfit) (by omega) _) (va_cwS 3 hts0 (wd_S wd_225 wd_223 wd_224 wd_55) rfl rfl rfl (by decide +kernel) ⟨Nat.le_of_ble_eq_true rfl, Nat.le_of_ble_eq_true rfl⟩) (pw_preS hZ hw hA hK hz) rfl rfl hl.1 rfl (lv_room (Nat.le_of_ble_eq_true rfl)) d_JL_newString_16 ⟨Nat.le_of_ble_eq_true rfl, Nat.le_of_ble_eq_true rfl⟩) hw hA (fun r_7 ad_5 C_6 H locs hp hw => ?_)
    obtain ⟨hae, hce⟩ := hp
    rw [hae, hce] at hw; clear hae hce
    rw [show a + n - a = n by omega] at hw
    refine W.widen (k := 2) (n := 16) (by omega) (by omega) ?_
    obtain ⟨ad_8, had_8⟩ : ∃ z, z = pw_up ad_3 (u + 1) v r_7 := ⟨_, rfl⟩
    rw [← had_8] at hw
    have hsad_8 : ad_8 (u + 1) v = r_7 := by rw [had_8]; exact pw_up_self _ _ _ _
    have hadk : ∀ x9 y9, ¬ (x9 = u ∧ y9 = v) → ¬ (x9 = (u + 1) ∧ y9 = v) → ad_8 x9 y9 = ad x9 y9 := fun x9 y9 e0 h9 => by rw [had_8]; exact (pw_up_ne _ _ h9).trans (hadk x9 y9 e0)
    have hq_q_2 : ad_8 u v = q_2 := by rw [had_8]; exact (pw_up_ne _ _ (by omega)).trans hsad_3
    have hw : pw_H D cls9 A s.heap ad C ad_8 (pw_up C_4 (u + 1) v (some (.inl (ca 2, n, .inl (va_cpy f (fun _ => 0) a 0 n))))) H _ := hw
    generalize hC_9 : pw_up C_4 (u + 1) v (some (.inl (ca 2, n, .inl (va_cpy f (fun _ => 0) a 0 n)))) = C_9 at hw
    have hs1 : C_9 x2 y2 = some (.inl (ca 2, N, .inl f)) := by rw [← hC_9]; exact (pw_up_ne _ _ (by omega)).trans hs1
    have p8 : C_9 u v = some (.inr (5, [.null, .int 0, .int 0, .int 0])) := by rw [← hC_9]; exact (pw_up_ne _ _ (by omega)).trans p8
    have p9 : C_9 (u + 1) v = some (.inl (ca 2, n, .inl (va_cpy f (fun _ => 0) a 0 n))) := by rw [← hC_9]; exact pw_up_self _ _ _ _
    have hfr : ∀ x y, ¬ (x = u ∧ y = v) → ¬ (x = u + 1 ∧ y = v) → C_9 x y = C x y := fun x y h0 h1 => by rw [← hC_9]; exact (pw_up_ne _ _ (by omega)).trans (hfr x y h0 h1)
    refine lv_iconst (v := 0) hx hb d_JL_newString_19 (by decide) ?_
    rw [← hq_q_2]
    refine pw_callv (va_runI (As := [.ref r_7, .int 0]) (rest := [.ref (ad_8 u v)]) ⟨hx, hb, hml, hown, hts0⟩ (k_JS_init1 (ad := ad_8) (a := r_7) (by omega) p8 _) (cwI 2 hts0 (wd_sub wd_239) rfl rfl rfl (hts _ wd_60) (hts _ wd_237) (hts _ wd_238) rfl (by decide +kernel) ⟨(by (try dsimp only); omega), (by (try dsimp only); omega)⟩) (pw_preS hZ hw hA hK hz) rfl rfl hl.1 rfl (lv_room (Nat.le_of_ble_eq_true rfl)) d_JL_newString_20 ⟨(by (try dsimp only); omega), (by (try dsimp only); omega)⟩) hw hA (fun ad_10 C_11 H locs hp hw => ?_)
    obtain ⟨hae, hce⟩ := hp
    rw [hae, hce] at hw; clear hae hce
    rw [hq_q_2]
    have hw : pw_H D cls9 A s.heap ad C ad_8 (pw_up C_9 u v (some (.inr (5, [.ref r_7, .int 0, .int 0, .int 0])))) H _ := hw
    generalize hC_12 : pw_up C_9 u v (some (.inr (5, [.ref r_7, .int 0, .int 0, .int 0]))) = C_12 at hw
    have hs1 : C_12 x2 y2 = some (.inl (ca 2, N, .inl f)) := by rw [← hC_12]; exact (pw_up_ne _ _ (by omega)).trans hs1
    have p9 : C_12 (u + 1) v = some (.inl (ca 2, n, .inl (va_cpy f (fun _ => 0) a 0 n))) := by rw [← hC_12]; exact (pw_up_ne _ _ (by omega)).trans p9
    have p8 : C_12 u v = some (.inr (5, [.ref r_7, .int 0, .int 0, .int 0])) := by rw [← hC_12]; exact pw_up_self _ _ _ _
    have hfr : ∀ x y, ¬ (x = u ∧ y = v) → ¬ (x = u + 1 ∧ y = v) → C_12 x y = C x y := fun x y h0 h1 => by rw [← hC_12]; exact (pw_up_ne _ _ (by omega)).trans (hfr x y h0 h1)
    refine pw_aret hx hb hr (Or.inl ⟨_, rfl⟩) hlocks hw ⟨r_7, ?_, p8, p9, hfr⟩ d_JL_newString_23
    rw [had_8, had_3]
  · exact absurd c_1 (nI_ne0 hn0 (by omega))
