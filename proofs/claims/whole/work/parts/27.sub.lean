section PWR
variable {p : Program} {l : Launch} {e : Env} {R : Room} {s : State} {m : MethodId} {args : Array Value} {below : List Frame} {meth : Method} {c : Code} {H : Heap} {locs : List Loc} {cells slots : Nat} {Q : State → Prop}
variable {cc : ByteArray} {pc : Nat} {ls : Array Slot} {rest : List Value} {D : va_G} {cl : List vw_C} {A : Nat → Prop} {tys : List (ClassId × FieldType)} {a0 ad : pw_A} {c0 C : pw_C} {a : Nat}
/-- bytes that are only read, copied into an array of the world -/
theorem pw_copyR (hexec : p.tables.exec = Jvm.exec) (hb : c.code = cc) (hml : c.maxLocals = ls.size) {own : String} {index : Nat} (hown : s.vm.findClass own = some m.cls) (hlink : (Cond.methodLink own index arraycopyName).before args s = true) (hnat : (Cond.native arraycopyName).before args s = true) (hstat : (Cond.static arraycopyName).before args s = true) (hini : (Cond.initialized "java/lang/System").before args s = true)
    (hK : pw_K D cl tys s) (hw : pw_H D cl A s.heap a0 c0 ad C H locs) (x0 y0 x1 y1 : Nat) (hx50 : ¬ x0 < 50) (hx5 : x1 < 50) {a9 : Nat} (hb0 : ad x0 y0 = a9) (hb1 : ad x1 y1 = a) (t0 t1 : Nat) {cy cz : ClassId} {n0 n1 : Nat} {f g : Nat → Int32} (he0 : C x0 y0 = some (.inl (cy, n0, .inl f))) (he1 : C x1 y1 = some (.inl (cz, n1, .inl g))) (ht0 : tys[t0]? = some (cy, .byte)) (ht1 : tys[t1]? = some (cz, .byte))
    {sp dp n : Int32} (jsp jdp jn : Nat) (h1 : sp = nI jsp) (h2 : dp = nI jdp) (h3 : n = nI jn) (h4 : jsp + jn ≤ n0) (h5 : jdp + jn ≤ n1) (hb9 : n0 < 2 ^ 31 ∧ n1 < 2 ^ 31) (hfit : ∀ i, i < jn → fits .byte (.int (f (jsp + i))) = true)
    (hframes : 1 ≤ R.frames) (hlocals : (rest.map fun v => v.category).sum + (nativeFrameWords "java/lang/System" "arraycopy" 5 + 11) ≤ R.locals) (hdg : decode cc pc = .ok (.invokestatic index, 3))
    (kk : ∀ (H1 : Heap) (locs1 : List Loc), pw_H D cl A s.heap a0 c0 ad (pw_up C x1 y1 (some (.inl (cz, n1, .inl (va_cpy f g jsp jdp jn))))) H1 locs1 → W p l e R s m args below meth c H1 locs1 cells slots Q (F0 m (pc + 3) ls rest)) : W p l e R s m args below meth c H locs cells slots Q (F0 m pc ls (.int n :: .int dp :: .ref a :: .int sp :: .ref a9 :: rest)) := by
  subst hb0; subst hb1
  obtain ⟨ws, hL, hP, hD⟩ := pw_list hw
  obtain ⟨k9, hk9⟩ := hL.2 x1 y1 _ hx5 he1
  obtain ⟨s1, s2⟩ := pw_clamp0 h1 (by omega)
  obtain ⟨d1, d2⟩ := pw_clamp0 h2 (by omega)
  obtain ⟨m1, m2⟩ := pw_clamp0 h3 (by omega)
  obtain ⟨q1, q2⟩ := (hw.2.1 x0 y0 _ he0).2 hx50
  obtain ⟨cell, f9, g1, g2, g3, g4, g5, g6, g7⟩ := pw_ro hw hK hx50 he0 ht0
  cases g3
  have hc : s.heap[ad x0 y0]? = some cell := by
    rw [← hw.2.2.1.2.1 _ q1 q2]
    exact g1
  have hX : va_T .byte (ad x0 y0) n0 (fun j => .int (f j)) A s s.heap := ⟨_, hc, g2, g4, g5, g6, g7, q2⟩
  refine vk_copyt hexec hb hml hown hlink hnat hstat hini hK.1 hP hD hw.2.2.1 hX k9 t1 hk9 ht1 s1 d1 m1 (by rw [s2, m2]; exact h4) (by rw [d2, m2]; exact h5) (by rw [s2, m2]; exact hfit) hframes hlocals hdg (fun H1 locs1 hP1 hD1 hS1 => kk H1 locs1 (pw_set hw hL hD hx5 he1 hk9 ?_ hS1))
  rw [s2, d2, m2] at hP1
  exact hP1
end PWR
theorem st_fit : ∀ k, k < 128 → fits .byte (.int (nI k)) = true := by decide +kernel
theorem pk_min {a b v : Nat} (ha : a < 2 ^ 31) (hb : b < 2 ^ 31) (h : v = min a b) : (if nI b < nI a then nI b else nI a) = nI v := by
  have := nI_ltI (a := b) (b := a) hb ha
  by_cases z : nI b < nI a
  · rw [if_pos z]; have := this.mp z; congr 1; omega
  · rw [if_neg z]; have := mt this.mpr z; congr 1; omega
set_option maxHeartbeats 4000000 in
set_option maxRecDepth 100000 in
theorem k_JR_checkLength {l : Launch} {D : va_G} {ca : Nat → ClassId} {kS : Nat → Nat} {kT : Nat} {ad : pw_A} {C : pw_C} {a b : Nat} (hab : a ≤ b) (hb9 : b < 2 ^ 31) : gc_Con l y_JR_checkLength c_JR_checkLength ({ frames := 0, cells := 0, slots := 0, locals := 0 }) D ca (z9_Z kS kT) [.int (nI a), .int (nI b)] ad C (pw_pv (fun ad' C' => ad' = ad ∧ C' = C)) 0 0 := by
  have hZ := z9_ok kS kT
  refine pw_ofW (cc := b_JR_checkLength) (maxL := 2) (ret := none) (by decide) rfl (Nat.le_of_ble_eq_true rfl) ?_
  intro p e s m args below meth c A ls hB hA hw hK hz hl
  obtain ⟨hx, hb, hr, hml, hts0, hlocks, hown, hnm⟩ := hB
  have hts := wd_hts hts0
  have hown : s.vm.findClass "java/util/Arrays" = some m.cls := hown
  have hl : lv_has ls 2 [(0, .int (nI a)), (1, .int (nI b))] := hl
  have hz0 := hz
  obtain ⟨hz1, hz2, hz3, -⟩ := hz0
  refine lv_iload_n hx hb d_JR_checkLength_0 rfl (lv_at hl 1 rfl) ?_
  refine lv_iload_n hx hb d_JR_checkLength_1 rfl (lv_at hl 0 rfl) ?_
  refine lv_icmp_ge (tgt := 37) hx hb d_JR_checkLength_2 (by decide) (fun c_1 => ?_) (fun c_1 => ?_)
  · skip
    exact pw_vret hx hb hr hlocks hw ⟨rfl, rfl⟩ d_JR_checkLength_37
  · exact absurd (nI_le hab hb9) c_1
set_option maxHeartbeats 4000000 in
set_option maxRecDepth 100000 in
theorem k_JC_checkFromToIndexN {l : Launch} {D : va_G} {ca : Nat → ClassId} {kS : Nat → Nat} {kT : Nat} {ad : pw_A} {C : pw_C} {a b n : Nat} (hab : a ≤ b) (hbn : b ≤ n) (hn : n < 2 ^ 31) : gc_Con l y_JC_checkFromToIndex c_JC_checkFromToIndex ({ frames := 0, cells := 0, slots := 0, locals := 0 }) D ca (z9_Z kS kT) [.int (nI a), .int (nI b), .int (nI n), .null] ad C (pw_pi (fun r ad' C' => (ad' = ad ∧ C' = C) ∧ r = nI a)) 0 0 := by
  have hZ := z9_ok kS kT
  refine pw_ofW (cc := b_JC_checkFromToIndex) (maxL := 4) (ret := (some FieldType.int)) (by decide) rfl (Nat.le_of_ble_eq_true rfl) ?_
  intro p e s m args below meth c A ls hB hA hw hK hz hl
  obtain ⟨hx, hb, hr, hml, hts0, hlocks, hown, hnm⟩ := hB
  have hts := wd_hts hts0
  have hown : s.vm.findClass "jdk/internal/util/Preconditions" = some m.cls := hown
  have hl : lv_has ls 4 [(0, .int (nI a)), (1, .int (nI b)), (2, .int (nI n)), (3, .null)] := hl
  have hz0 := hz
  obtain ⟨hz1, hz2, hz3, -⟩ := hz0
  refine lv_iload_n hx hb d_JC_checkFromToIndex_0 rfl (lv_at hl 0 rfl) ?_
  refine lv_if_lt (tgt := 14) hx hb d_JC_checkFromToIndex_1 (by decide) (fun c_1 => ?_) (fun c_1 => ?_)
  · exact absurd c_1 (nI_pos (by omega))
  · skip
    refine lv_iload_n hx hb d_JC_checkFromToIndex_4 rfl (lv_at hl 0 rfl) ?_
    refine lv_iload_n hx hb d_JC_checkFromToIndex_5 rfl (lv_at hl 1 rfl) ?_
    refine lv_icmp_gt (tgt := 14) hx hb d_JC_checkFromToIndex_6 (by decide) (fun c_2 => ?_) (fun c_2 => ?_)
    · exact absurd c_2 (nI_nlt hab (by omega))
    · skip
      refine lv_iload_n hx hb d_JC_checkFromToIndex_9 rfl (lv_at hl 1 rfl) ?_
      refine lv_iload_n hx hb d_JC_checkFromToIndex_10 rfl (lv_at hl 2 rfl) ?_
      refine lv_icmp_le (tgt := 22) hx hb d_JC_checkFromToIndex_11 (by decide) (fun c_3 => ?_) (fun c_3 => ?_)
      · skip
        refine lv_iload_n hx hb d_JC_checkFromToIndex_22 rfl (lv_at hl 0 rfl) ?_
        exact pw_iret hx hb hr hlocks hw ⟨⟨rfl, rfl⟩, rfl⟩ d_JC_checkFromToIndex_23
      · exact absurd (nI_le hbn hn) c_3
set_option maxHeartbeats 4000000 in
set_option maxRecDepth 100000 in
theorem k_JC_checkFromToIndexR {l : Launch} {D : va_G} {ca : Nat → ClassId} {kS : Nat → Nat} {kT : Nat} {ad : pw_A} {C : pw_C} {q : Nat} {a b n : Nat} (hab : a ≤ b) (hbn : b ≤ n) (hn : n < 2 ^ 31) : gc_Con l y_JC_checkFromToIndex c_JC_checkFromToIndex ({ frames := 0, cells := 0, slots := 0, locals := 0 }) D ca (z9_Z kS kT) [.int (nI a), .int (nI b), .int (nI n), .ref q] ad C (pw_pi (fun r ad' C' => (ad' = ad ∧ C' = C) ∧ r = nI a)) 0 0 := by
  have hZ := z9_ok kS kT
  refine pw_ofW (cc := b_JC_checkFromToIndex) (maxL := 4) (ret := (some FieldType.int)) (by decide) rfl (Nat.le_of_ble_eq_true rfl) ?_
  intro p e s m args below meth c A ls hB hA hw hK hz hl
  obtain ⟨hx, hb, hr, hml, hts0, hlocks, hown, hnm⟩ := hB
  have hts := wd_hts hts0
  have hown : s.vm.findClass "jdk/internal/util/Preconditions" = some m.cls := hown
  have hl : lv_has ls 4 [(0, .int (nI a)), (1, .int (nI b)), (2, .int (nI n)), (3, .ref q)] := hl
  have hz0 := hz
  obtain ⟨hz1, hz2, hz3, -⟩ := hz0
  refine lv_iload_n hx hb d_JC_checkFromToIndex_0 rfl (lv_at hl 0 rfl) ?_
  refine lv_if_lt (tgt := 14) hx hb d_JC_checkFromToIndex_1 (by decide) (fun c_1 => ?_) (fun c_1 => ?_)
  · exact absurd c_1 (nI_pos (by omega))
  · skip
    refine lv_iload_n hx hb d_JC_checkFromToIndex_4 rfl (lv_at hl 0 rfl) ?_
    refine lv_iload_n hx hb d_JC_checkFromToIndex_5 rfl (lv_at hl 1 rfl) ?_
    refine lv_icmp_gt (tgt := 14) hx hb d_JC_checkFromToIndex_6 (by decide) (fun c_2 => ?_) (fun c_2 => ?_)
    · exact absurd c_2 (nI_nlt hab (by omega))
    · skip
      refine lv_iload_n hx hb d_JC_checkFromToIndex_9 rfl (lv_at hl 1 rfl) ?_
      refine lv_iload_n hx hb d_JC_checkFromToIndex_10 rfl (lv_at hl 2 rfl) ?_
      refine lv_icmp_le (tgt := 22) hx hb d_JC_checkFromToIndex_11 (by decide) (fun c_3 => ?_) (fun c_3 => ?_)
      · skip
        refine lv_iload_n hx hb d_JC_checkFromToIndex_22 rfl (lv_at hl 0 rfl) ?_
        exact pw_iret hx hb hr hlocks hw ⟨⟨rfl, rfl⟩, rfl⟩ d_JC_checkFromToIndex_23
      · exact absurd (nI_le hbn hn) c_3
set_option maxHeartbeats 4000000 in
set_option maxRecDepth 100000 in
theorem k_JS_checkBoundsBeginEnd {l : Launch} {D : va_G} {ca : Nat → ClassId} {kS : Nat → Nat} {kT : Nat} {ad : pw_A} {C : pw_C} {a b n : Nat} (hab : a ≤ b) (hbn : b ≤ n) (hn : n < 2 ^ 31) : gc_Con l y_JS_checkBoundsBeginEnd c_JS_checkBoundsBeginEnd ({ frames := 1, cells := 0, slots := 0, locals := 23 }) D ca (z9_Z kS kT) [.int (nI a), .int (nI b), .int (nI n)] ad C (pw_pv (fun ad' C' => ad' = ad ∧ C' = C)) 0 0 := by
  have hZ := z9_ok kS kT
  refine pw_ofW (cc := b_JS_checkBoundsBeginEnd) (maxL := 3) (ret := none) (by decide) rfl (Nat.le_of_ble_eq_true rfl) ?_
  intro p e s m args below meth c A ls hB hA hw hK hz hl
  obtain ⟨hx, hb, hr, hml, hts0, hlocks, hown, hnm⟩ := hB
  have hts := wd_hts hts0
  have hown : s.vm.findClass "java/lang/String" = some m.cls := hown
  have hl : lv_has ls 3 [(0, .int (nI a)), (1, .int (nI b)), (2, .int (nI n))] := hl
  have hz0 := hz
  obtain ⟨hz1, hz2, hz3, -⟩ := hz0
  refine lv_iload_n hx hb d_JS_checkBoundsBeginEnd_0 rfl (lv_at hl 0 rfl) ?_
  refine lv_iload_n hx hb d_JS_checkBoundsBeginEnd_1 rfl (lv_at hl 1 rfl) ?_
  refine lv_iload_n hx hb d_JS_checkBoundsBeginEnd_2 rfl (lv_at hl 2 rfl) ?_
  rcases hz2 with hz2 | ⟨q, hz2⟩
  · skip
    refine va_gets (v := .null) hx hb hz2 hw.2.2.1 hown (hts _ wd_208) (fun _ h9 => h9) d_JS_checkBoundsBeginEnd_3 ?_
    refine pw_calli (va_runS (As := [.int (nI a), .int (nI b), .int (nI n), .null]) (rest := []) ⟨hx, hb, hml, hown, hts0⟩ (k_JC_checkFromToIndexN hab hbn hn _) (va_cwS 4 hts0 (wd_S wd_212 wd_210 wd_211 wd_61) rfl rfl rfl (by decide +kernel) ⟨Nat.le_of_ble_eq_true rfl, Nat.le_of_ble_eq_true rfl⟩) (pw_preS hZ hw hA hK hz) rfl rfl hl.1 rfl (lv_room (Nat.le_of_ble_eq_true rfl)) d_JS_checkBoundsBeginEnd_6 ⟨Nat.le_of_ble_eq_true rfl, Nat.le_of_ble_eq_true rfl⟩) hw hA (fun r_3 ad_1 C_2 H locs hp hw => ?_)
    obtain ⟨⟨hae, hce⟩, hre⟩ := hp
    rw [hae, hce] at hw
    rw [hre]
    clear hae hce hre
    refine lv_pop hx hb d_JS_checkBoundsBeginEnd_9 rfl ?_
    exact pw_vret hx hb hr hlocks hw ⟨rfl, rfl⟩ d_JS_checkBoundsBeginEnd_10
  · skip
    refine va_gets (v := .ref q) hx hb hz2 hw.2.2.1 hown (hts _ wd_208) (fun _ h9 => h9) d_JS_checkBoundsBeginEnd_3 ?_
    refine pw_calli (va_runS (As := [.int (nI a), .int (nI b), .int (nI n), .ref q]) (rest := []) ⟨hx, hb, hml, hown, hts0⟩ (k_JC_checkFromToIndexR hab hbn hn _) (va_cwS 4 hts0 (wd_S wd_212 wd_210 wd_211 wd_61) rfl rfl rfl (by decide +kernel) ⟨Nat.le_of_ble_eq_true rfl, Nat.le_of_ble_eq_true rfl⟩) (pw_preS hZ hw hA hK hz) rfl rfl hl.1 rfl (lv_room (Nat.le_of_ble_eq_true rfl)) d_JS_checkBoundsBeginEnd_6 ⟨Nat.le_of_ble_eq_true rfl, Nat.le_of_ble_eq_true rfl⟩) hw hA (fun r_6 ad_4 C_5 H locs hp hw => ?_)
    obtain ⟨⟨hae, hce⟩, hre⟩ := hp
    rw [hae, hce] at hw
    rw [hre]
    clear hae hce hre
    refine lv_pop hx hb d_JS_checkBoundsBeginEnd_9 rfl ?_
    exact pw_vret hx hb hr hlocks hw ⟨rfl, rfl⟩ d_JS_checkBoundsBeginEnd_10

set_option maxHeartbeats 4000000 in
set_option maxRecDepth 100000 in
theorem k_JR_copyOfRangeByte {l : Launch} {D : va_G} {ca : Nat → ClassId} {kS : Nat → Nat} {kT : Nat} {ad : pw_A} {C : pw_C} {x y x2 y2 n a b : Nat} {f : Nat → Int32} (hx5 : x < 50) (hno : C x y = none) (hx2 : ¬ x2 < 50) (hs1 : C x2 y2 = some (.inl (ca 2, n, .inl f))) (hab : a ≤ b) (hbn : b ≤ n) (hb8 : b - a ≤ 8) (hn : n < 2 ^ 15) (hfit : ∀ i, i < b - a → fits .byte (.int (f (a + i))) = true) : gc_Con l y_JR_copyOfRangeByte c_JR_copyOfRangeByte ({ frames := 1, cells := 1, slots := 8, locals := 60 }) D ca (z9_Z kS kT) [.ref (ad x2 y2), .int (nI a), .int (nI b)] ad C (pw_pr (fun r ad' C' => ad' = pw_up ad x y r ∧ C' = pw_up C x y (some (.inl (ca 2, b - a, .inl (va_cpy f (fun _ => 0) a 0 (b - a))))))) 1 8 := by
  have hZ := z9_ok kS kT
  refine pw_ofW (cc := b_JR_copyOfRangeByte) (maxL := 5) (ret := (some (FieldType.array FieldType.byte))) (by decide) rfl (Nat.le_of_ble_eq_true rfl) ?_
  intro p e s m args below meth c A ls hB hA hw hK hz hl
  obtain ⟨hx, hb, hr, hml, hts0, hlocks, hown, hnm⟩ := hB
  have hts := wd_hts hts0
  have hown : s.vm.findClass "java/util/Arrays" = some m.cls := hown
  have hl : lv_has ls 5 [(0, .ref (ad x2 y2)), (1, .int (nI a)), (2, .int (nI b))] := hl
  have hz0 := hz
  obtain ⟨hz1, hz2, hz3, -⟩ := hz0
  refine lv_iload_n hx hb d_JR_copyOfRangeByte_0 rfl (lv_at hl 1 rfl) ?_
  refine lv_iload_n hx hb d_JR_copyOfRangeByte_1 rfl (lv_at hl 2 rfl) ?_
  refine pw_callv (va_runS (As := [.int (nI a), .int (nI b)]) (rest := []) ⟨hx, hb, hml, hown, hts0⟩ (k_JR_checkLength hab (by omega) _) (va_cwS 2 hts0 (wd_S wd_231 wd_229 wd_230 wd_55) rfl rfl rfl (by decide +kernel) ⟨Nat.le_of_ble_eq_true rfl, Nat.le_of_ble_eq_true rfl⟩) (pw_preS hZ hw hA hK hz) rfl rfl hl.1 rfl (lv_room (Nat.le_of_ble_eq_true rfl)) d_JR_copyOfRangeByte_2 ⟨Nat.le_of_ble_eq_true rfl, Nat.le_of_ble_eq_true rfl⟩) hw hA (fun ad_1 C_2 H locs hp hw => ?_)
  obtain ⟨hae, hce⟩ := hp
  rw [hae, hce] at hw
  clear hae hce
  refine lv_iload_n hx hb d_JR_copyOfRangeByte_5 rfl (lv_at hl 2 rfl) ?_
  refine lv_iload_n hx hb d_JR_copyOfRangeByte_6 rfl (lv_at hl 1 rfl) ?_
  refine lv_isub hx hb d_JR_copyOfRangeByte_7 ?_
  rw [pk_sub hab]
  refine lv_istore_n (lv' := [(3, .int (nI (b - a))), (0, .ref (ad x2 y2)), (1, .int (nI a)), (2, .int (nI b))]) hx hb d_JR_copyOfRangeByte_8 rfl hl (by decide) rfl (fun ls hl => ?_)
  refine lv_iload_n hx hb d_JR_copyOfRangeByte_9 rfl (lv_at hl 0 rfl) ?_
  refine pw_newa (atype := .byte) (ty := .byte) (az := ((b - a), .inl (fun _ => 0))) hx hb (hts _ wd_126) rfl (fun t h => by cases h) hK hw hA x y hx5 hno 2 rfl (fun _ => rfl) rfl (by omega) (by show _ * 1 ≤ _; omega) (by (try dsimp only); omega) (by (try dsimp only); omega) d_JR_copyOfRangeByte_10 (fun q_4 H hw => ?_)
  refine W.widen (k := 1) (n := 8) (by omega) (by omega) ?_
  obtain ⟨ad_5, had_5⟩ : ∃ z, z = pw_up ad x y q_4 := ⟨_, rfl⟩
  rw [← had_5] at hw
  have hsad_5 : ad_5 x y = q_4 := by rw [had_5]; exact pw_up_self _ _ _ _
  have hadk : ∀ x9 y9, ¬ (x9 = x ∧ y9 = y) → ad_5 x9 y9 = ad x9 y9 := fun x9 y9 h9 => by rw [had_5]; exact pw_up_ne _ _ h9
  have hw : pw_H D cls9 A s.heap ad C ad_5 (pw_up C x y (some (.inl (ca 2, (b - a), .inl (fun _ => 0))))) H _ := hw
  generalize hC_6 : pw_up C x y (some (.inl (ca 2, (b - a), .inl (fun _ => 0)))) = C_6 at hw
  have hs1 : C_6 x2 y2 = some (.inl (ca 2, n, .inl f)) := by rw [← hC_6]; exact (pw_up_ne _ _ (by omega)).trans hs1
  have p9 : C_6 x y = some (.inl (ca 2, (b - a), .inl (fun _ => 0))) := by rw [← hC_6]; exact pw_up_self _ _ _ _
  refine lv_astore (lv' := [(4, .ref q_4), (3, .int (nI (b - a))), (0, .ref (ad x2 y2)), (1, .int (nI a)), (2, .int (nI b))]) hx hb d_JR_copyOfRangeByte_12 hl (by decide) rfl (fun ls hl => ?_)
  refine lv_aload_n hx hb d_JR_copyOfRangeByte_14 rfl (lv_at hl 2 rfl) ?_
  refine lv_iload_n hx hb d_JR_copyOfRangeByte_15 rfl (lv_at hl 3 rfl) ?_
  refine lv_aload hx hb d_JR_copyOfRangeByte_16 (lv_at hl 0 rfl) ?_
  refine lv_iconst (v := 0) hx hb d_JR_copyOfRangeByte_18 (by decide) ?_
  refine lv_aload_n hx hb d_JR_copyOfRangeByte_19 rfl (lv_at hl 2 rfl) ?_
  refine pw_alen hx hb hK hw x2 y2 (hadk x2 y2 (by omega)) 2 hs1 rfl d_JR_copyOfRangeByte_20 ?_
  refine lv_iload_n hx hb d_JR_copyOfRangeByte_21 rfl (lv_at hl 3 rfl) ?_
  refine lv_isub hx hb d_JR_copyOfRangeByte_22 ?_
  rw [pk_sub (show a ≤ n by omega)]
  refine lv_iload_n hx hb d_JR_copyOfRangeByte_23 rfl (lv_at hl 1 rfl) ?_
  refine va_mmin (rest := [.int 0, .ref q_4, .int (nI a), .ref (ad x2 y2)]) hx hb (hml.trans hl.1.symm) hown (hts _ wd_180) (hts _ wd_181) (hts _ wd_58) (hts _ wd_182) (Nat.le_of_ble_eq_true rfl) (Nat.le_of_ble_eq_true rfl) (by (try dsimp only); omega) (by (try dsimp only); omega) d_JR_copyOfRangeByte_24 ?_
  rw [show (if nI (b - a) < nI (n - a) then nI (b - a) else nI (n - a)) = nI (b - a) from pk_min (by omega) (by omega) (by omega)]
  refine pw_copyR hx hb (hml.trans hl.1.symm) hown (hts _ wd_183) (hts _ wd_185) (hts _ wd_184) (hts _ wd_59) hK hw x2 y2 x y hx2 hx5 (hadk x2 y2 (by omega)) hsad_5 2 2 hs1 p9 rfl rfl a 0 (b - a) rfl rfl rfl (by omega) (by omega) ⟨by omega, by omega⟩ hfit (Nat.le_of_ble_eq_true rfl) (Nat.le_of_ble_eq_true rfl) d_JR_copyOfRangeByte_27 (fun H locs hw => ?_)
  have hw : pw_H D cls9 A s.heap ad C ad_5 (pw_up C_6 x y (some (.inl (ca 2, b - a, .inl (va_cpy f (fun _ => 0) a 0 (b - a)))))) H _ := hw
  generalize hC_7 : pw_up C_6 x y (some (.inl (ca 2, b - a, .inl (va_cpy f (fun _ => 0) a 0 (b - a))))) = C_7 at hw
  have hs1 : C_7 x2 y2 = some (.inl (ca 2, n, .inl f)) := by rw [← hC_7]; exact (pw_up_ne _ _ (by omega)).trans hs1
  have p9 : C_7 x y = some (.inl (ca 2, b - a, .inl (va_cpy f (fun _ => 0) a 0 (b - a)))) := by rw [← hC_7]; exact pw_up_self _ _ _ _
  refine lv_aload hx hb d_JR_copyOfRangeByte_30 (lv_at hl 0 rfl) ?_
  refine pw_aret hx hb hr (Or.inr ⟨_, rfl⟩) hlocks hw ⟨had_5, ?_⟩ d_JR_copyOfRangeByte_32
  rw [← hC_7, ← hC_6, pw_up_up]
