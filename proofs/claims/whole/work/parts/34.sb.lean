theorem wd_440 : (Cond.superclass "java/lang/StringBuilder" "java/lang/AbstractStringBuilder") ∈ wd_W := wd_mem 440 (by decide +kernel) (by decide +kernel)
section PWP
variable {p : Program} {l : Launch} {e : Env} {R : Room} {s : State} {m : MethodId} {args : Array Value} {below : List Frame} {meth : Method} {c : Code} {H : Heap} {locs : List Loc} {cells slots : Nat}
/-- a private method by its contract -/
theorem pw_runP {y : MethodName} {bytes cc : ByteArray} {maxL nL mc ms n index : Nat} {ret : Option FieldType} {ws ws' : List Cond} {rm : Room} {Pc : Array Value → State → Prop} {Qc : Array Value → State → Outcome → State → Prop} {free : Addr → Prop} {Ts : List Cond} {own C : String} {b : Addr} {As rest : List Value} {g : JFrame}
    (S : CallFix p m c cc nL s args Ts own) (hM : Met l y ws rm Pc Qc mc ms free) (ht : ∀ w ∈ Ts, w.before args s = true) (hG : GoodIn Ts ws) (hw : ws = Cond.code y bytes maxL ret :: ws') (hrc : rm.cells = mc) (hrs : rm.slots = ms) (hd : y.cls ≠ "java/lang/invoke/MethodHandle" ∧ y.cls ≠ "java/lang/invoke/VarHandle" ∧ (parseMethodDescriptor y.desc).map (fun d => d.parameters.length) = some n) (hR : rm.frames + 1 ≤ R.frames ∧ 8 + (maxL + 11) + rm.locals ≤ R.locals)
    (hlink : (Cond.methodLink own index y).before args s = true) (hsame : (Cond.sameMethod y.cls y.cls y.name y.desc).before args s = true) (hpriv : (Cond.privateMethod y).before args s = true) (hinst : (Cond.instanceMethod y).before args s = true) (hini : (Cond.initialized y.cls).before args s = true) (hp : PreV s H C b Pc As)
    (hg : g.method = m) (hn : As.length = n) (hsize : g.locals.size = nL) (hstack : g.stack = As.reverse ++ .ref b :: rest) (hW : 2 * g.monitorRoom + (rest.map fun v => v.category).sum ≤ 8) (hdg : decode cc g.pc = .ok (.invokevirtual index, 3)) (hf : cells + mc ≤ R.cells ∧ slots + ms ≤ R.slots) :
    va_Run p l e R s m args below meth c H locs cells slots mc ms g rest (Qc (Value.ref b :: As).toArray) (free) := by
  have hcw : Cond.code y bytes maxL ret ∈ ws := by rw [hw]; exact List.mem_cons_self
  have hK : Back l R p e below s args y 3 8 (PreOf R mc ms Pc) (PostOf Qc mc ms free) := back_of (bytes := bytes) (maxL := maxL) (ret := ret) hM hp.1 hrc hrs hR.1 hR.2 (pay_in ht hG) hcw (fun a' U hW => word_at hW (Or.inl (by first | rfl | simp [Cond.onTables, Cond.keeps, Cond.steady])) hini)
  obtain ⟨hx, hb, hml, ho, -⟩ := S
  obtain ⟨-, ⟨cellB, hcB, hoB, hclB⟩, hPc⟩ := hp
  obtain ⟨c0, ck, r0, hc0, hck, hni, -, -⟩ := Cond.sameMethod_found hsame
  have hpv := Cond.privateMethod_at hpriv
  have hsel := Stand.selects_self_of_private hc0 hck hni hpv hinst ⟨hd.1, hd.2.1⟩
  intro T hT X
  obtain ⟨v, vm₁, ⟨U', l2, c2, s2⟩, hW₁, X', ⟨g', mk, t, L, e1, e2, hq, h1, hL, h2, h3⟩, st⟩ := X.privateBack hx ho hlink hinst hsel hpv (ht _ (hG _ hcw).1) ⟨hd.1, hd.2.1⟩ hK hg (hsize.trans hml.symm) (s₀ := T.setTop g) (Steps.refl _) (by rw [hT]; exact hcB) (fun z h => by rw [h] at hoB; cases hoB) (argsL := As) (rest := rest) (fun sig h => by have h2 := hd.2.2; rw [h] at h2; exact hn.trans (Option.some.inj h2).symm) hstack hW (by rw [hb]; exact hdg)
    (fun vm₁ hW₁ => ⟨hf.1, hf.2, hPc (T.setVm vm₁) hT hW₁⟩)
  dsimp only [Pt.U, Pt.locs, Pt.cells, Pt.slots] at X' e1 e2 h1 h2 h3 st
  subst h1; subst h2; subst h3
  exact ⟨v, (T.setVm vm₁).calling g' mk (Value.ref b :: As).toArray, t, U', L, hT, X', hL, e1, e2, hq, fun target h => st.trans h⟩
end PWP
theorem wd_U {c0 c1 : Cond} {own C owner : String} {idx : Nat} {x y : MethodName} (h : c1 ∈ wd_W) (h1 : Cond.methodLink own idx x ∈ wd_W) (h2 : Cond.sameMethod x.cls owner x.name x.desc ∈ wd_W) (h3 : Cond.selects C x y ∈ wd_W) (h4 : Cond.instanceMethod y ∈ wd_W) (h5 : Cond.initialized y.cls ∈ wd_W) : GoodIn (c0 :: wd_W) (va_wsU own idx C owner x y (c1 :: wd_W)) := fun w hw => by
  have h9 : w ∈ wd_W := by
    rcases List.mem_append.mp hw with h6 | h6
    · simp only [List.mem_cons, List.not_mem_nil, or_false] at h6
      rcases h6 with rfl | rfl | rfl | rfl | rfl <;> assumption
    · rcases List.mem_cons.mp h6 with rfl | h7
      · exact h
      · exact h7
  exact ⟨List.mem_cons_of_mem _ h9, wd_good w h9⟩
theorem wd_O {c0 c1 : Cond} {own C owner : String} {idx : Nat} {x y : MethodName} (h : c1 ∈ wd_W) (h1 : Cond.methodLink own idx x ∈ wd_W) (h2 : Cond.sameMethod x.cls owner x.name x.desc ∈ wd_W) (h8 : Cond.instanceMethod ⟨owner, x.name, x.desc⟩ ∈ wd_W) (h3 : Cond.selects C x y ∈ wd_W) (h4 : Cond.instanceMethod y ∈ wd_W) (h5 : Cond.initialized y.cls ∈ wd_W) : GoodIn (c0 :: wd_W) (va_wsO own idx C owner x y (c1 :: wd_W)) := fun w hw => by
  have h9 : w ∈ wd_W := by
    rcases List.mem_append.mp hw with h6 | h6
    · simp only [List.mem_cons, List.not_mem_nil, or_false] at h6
      rcases h6 with rfl | rfl | rfl | rfl | rfl | rfl <;> assumption
    · rcases List.mem_cons.mp h6 with rfl | h7
      · exact h
      · exact h7
  exact ⟨List.mem_cons_of_mem _ h9, wd_good w h9⟩
theorem wd_SU {c0 c1 : Cond} {own : String} {idx : Nat} {y : MethodName} (h : c1 ∈ wd_W) (h1 : Cond.methodLink own idx y ∈ wd_W) (h2 : Cond.sameMethod y.cls y.cls y.name y.desc ∈ wd_W) (h3 : Cond.superclass own y.cls ∈ wd_W) (h4 : Cond.instanceMethod y ∈ wd_W) (h5 : Cond.initialized y.cls ∈ wd_W) : GoodIn (c0 :: wd_W) (va_wsSU own idx y (c1 :: wd_W)) := fun w hw => by
  have h9 : w ∈ wd_W := by
    rcases List.mem_append.mp hw with h6 | h6
    · simp only [List.mem_cons, List.not_mem_nil, or_false] at h6
      rcases h6 with rfl | rfl | rfl | rfl | rfl <;> assumption
    · rcases List.mem_cons.mp h6 with rfl | h7
      · exact h
      · exact h7
  exact ⟨List.mem_cons_of_mem _ h9, wd_good w h9⟩
theorem sb_room : ∀ n, n ≤ 8 → nI (n + 1) - 16 ≤ 0 := by decide +kernel
theorem sb_nar : ∀ k, k < 128 → vp_nar .byte ((nI k).toInt8.toInt32) = nI k := by decide +kernel
set_option maxHeartbeats 4000000 in
set_option maxRecDepth 100000 in
theorem k_JA_getValue {l : Launch} {D : va_G} {ca : Nat → ClassId} {kS : Nat → Nat} {kT : Nat} {ad : pw_A} {C : pw_C} {n : Nat} {f : Nat → Int32} (b25 : C 25 0 = some (.inr (6, [.ref (ad 26 0), .int 0, .int 0, .int (nI n)]))) (b26 : C 26 0 = some (.inl (ca 2, 16, .inl f))) : gc_Con l y_JA_getValue c_JA_getValue ({ frames := 0, cells := 0, slots := 0, locals := 0 }) D ca (z9_Z kS kT) [.ref (ad 25 0)] ad C (pw_pr (fun r ad' C' => (ad' = ad ∧ C' = C) ∧ r = ad 26 0)) 0 0 := by
  have hZ := z9_ok kS kT
  refine pw_ofW (cc := b_JA_getValue) (maxL := 1) (ret := (some (FieldType.array FieldType.byte))) (by decide) rfl (Nat.le_of_ble_eq_true rfl) ?_
  intro p e s m args below meth c A ls hB hA hw hK hz hl
  obtain ⟨hx, hb, hr, hml, hts0, hlocks, hown, hnm⟩ := hB
  have hts := wd_hts hts0
  have hown : s.vm.findClass "java/lang/AbstractStringBuilder" = some m.cls := hown
  have hl : lv_has ls 1 [(0, .ref (ad 25 0))] := hl
  have hz0 := hz
  obtain ⟨hz1, hz2, hz3, -⟩ := hz0
  refine lv_aload_n hx hb d_JA_getValue_0 rfl (lv_at hl 0 rfl) ?_
  refine pw_get (Cn := "java/lang/StringBuilder") (T := F_JB) (N := 4) hx hb hts in_JB hown hK hw 25 0 rfl b25 rfl 0 (by decide) (hts _ wd_428) (fun _ h9 => h9) rfl d_JA_getValue_1 ?_
  exact pw_aret hx hb hr (Or.inr ⟨_, rfl⟩) hlocks hw ⟨⟨rfl, rfl⟩, rfl⟩ d_JA_getValue_4
set_option maxHeartbeats 4000000 in
set_option maxRecDepth 100000 in
theorem k_JA_length {l : Launch} {D : va_G} {ca : Nat → ClassId} {kS : Nat → Nat} {kT : Nat} {ad : pw_A} {C : pw_C} {n : Nat} {f : Nat → Int32} (b25 : C 25 0 = some (.inr (6, [.ref (ad 26 0), .int 0, .int 0, .int (nI n)]))) (b26 : C 26 0 = some (.inl (ca 2, 16, .inl f))) : gc_Con l y_JA_length c_JA_length ({ frames := 0, cells := 0, slots := 0, locals := 0 }) D ca (z9_Z kS kT) [.ref (ad 25 0)] ad C (pw_pi (fun r ad' C' => (ad' = ad ∧ C' = C) ∧ r = nI n)) 0 0 := by
  have hZ := z9_ok kS kT
  refine pw_ofW (cc := b_JA_length) (maxL := 1) (ret := (some FieldType.int)) (by decide) rfl (Nat.le_of_ble_eq_true rfl) ?_
  intro p e s m args below meth c A ls hB hA hw hK hz hl
  obtain ⟨hx, hb, hr, hml, hts0, hlocks, hown, hnm⟩ := hB
  have hts := wd_hts hts0
  have hown : s.vm.findClass "java/lang/AbstractStringBuilder" = some m.cls := hown
  have hl : lv_has ls 1 [(0, .ref (ad 25 0))] := hl
  have hz0 := hz
  obtain ⟨hz1, hz2, hz3, -⟩ := hz0
  refine lv_aload_n hx hb d_JA_length_0 rfl (lv_at hl 0 rfl) ?_
  refine pw_get (Cn := "java/lang/StringBuilder") (T := F_JB) (N := 4) hx hb hts in_JB hown hK hw 25 0 rfl b25 rfl 3 (by decide) (hts _ wd_431) (fun _ h9 => h9) rfl d_JA_length_1 ?_
  exact pw_iret hx hb hr hlocks hw ⟨⟨rfl, rfl⟩, rfl⟩ d_JA_length_4
set_option maxHeartbeats 4000000 in
set_option maxRecDepth 100000 in
theorem k_JA_isLatin1 {l : Launch} {D : va_G} {ca : Nat → ClassId} {kS : Nat → Nat} {kT : Nat} {ad : pw_A} {C : pw_C} {n : Nat} {f : Nat → Int32} (b25 : C 25 0 = some (.inr (6, [.ref (ad 26 0), .int 0, .int 0, .int (nI n)]))) (b26 : C 26 0 = some (.inl (ca 2, 16, .inl f))) : gc_Con l y_JA_isLatin1 c_JA_isLatin1 ({ frames := 0, cells := 0, slots := 0, locals := 0 }) D ca (z9_Z kS kT) [.ref (ad 25 0)] ad C (pw_pi (fun r ad' C' => (ad' = ad ∧ C' = C) ∧ r = 1)) 0 0 := by
  have hZ := z9_ok kS kT
  refine pw_ofW (cc := b_JA_isLatin1) (maxL := 1) (ret := (some FieldType.boolean)) (by decide) rfl (Nat.le_of_ble_eq_true rfl) ?_
  intro p e s m args below meth c A ls hB hA hw hK hz hl
  obtain ⟨hx, hb, hr, hml, hts0, hlocks, hown, hnm⟩ := hB
  have hts := wd_hts hts0
  have hown : s.vm.findClass "java/lang/AbstractStringBuilder" = some m.cls := hown
  have hl : lv_has ls 1 [(0, .ref (ad 25 0))] := hl
  have hz0 := hz
  obtain ⟨hz1, hz2, hz3, -⟩ := hz0
  refine va_gets (v := .int 1) hx hb hz1 hw.2.2.1 hown (hts _ wd_424) (fun _ h9 => h9) d_JA_isLatin1_0 ?_
  refine lv_if_eq (tgt := 17) hx hb d_JA_isLatin1_3 (by decide) (fun c_1 => ?_) (fun c_1 => ?_)
  · exact absurd c_1 (by decide)
  · skip
    refine lv_aload_n hx hb d_JA_isLatin1_6 rfl (lv_at hl 0 rfl) ?_
    refine pw_get (Cn := "java/lang/StringBuilder") (T := F_JB) (N := 4) hx hb hts in_JB hown hK hw 25 0 rfl b25 rfl 1 (by decide) (hts _ wd_429) (fun _ h9 => h9) rfl d_JA_isLatin1_7 ?_
    refine lv_if_ne (tgt := 17) hx hb d_JA_isLatin1_10 (by decide) (fun c_2 => ?_) (fun c_2 => ?_)
    · exact absurd rfl c_2
    · skip
      refine lv_iconst (v := 1) hx hb d_JA_isLatin1_13 (by decide) ?_
      refine lv_goto (tgt := 18) hx hb d_JA_isLatin1_14 (by decide) ?_
      exact pw_zret hx hb hr hlocks hw rfl ⟨⟨rfl, rfl⟩, rfl⟩ d_JA_isLatin1_18
set_option maxHeartbeats 4000000 in
set_option maxRecDepth 100000 in
theorem k_JL_canEncode {l : Launch} {D : va_G} {ca : Nat → ClassId} {kS : Nat → Nat} {kT : Nat} {ad : pw_A} {C : pw_C} {k : Nat} (hk : k < 128) : gc_Con l y_JL_canEncode c_JL_canEncode ({ frames := 0, cells := 0, slots := 0, locals := 0 }) D ca (z9_Z kS kT) [.int (nI k)] ad C (pw_pi (fun r ad' C' => (ad' = ad ∧ C' = C) ∧ r = 1)) 0 0 := by
  have hZ := z9_ok kS kT
  refine pw_ofW (cc := b_JL_canEncode) (maxL := 1) (ret := (some FieldType.boolean)) (by decide) rfl (Nat.le_of_ble_eq_true rfl) ?_
  intro p e s m args below meth c A ls hB hA hw hK hz hl
  obtain ⟨hx, hb, hr, hml, hts0, hlocks, hown, hnm⟩ := hB
  have hts := wd_hts hts0
  have hown : s.vm.findClass "java/lang/StringLatin1" = some m.cls := hown
  have hl : lv_has ls 1 [(0, .int (nI k))] := hl
  have hz0 := hz
  obtain ⟨hz1, hz2, hz3, -⟩ := hz0
  refine lv_iload_n hx hb d_JL_canEncode_0 rfl (lv_at hl 0 rfl) ?_
  refine lv_sipush (v := 255) hx hb d_JL_canEncode_1 (by decide) ?_
  refine lv_icmp_gt (tgt := 11) hx hb d_JL_canEncode_4 (by decide) (fun c_1 => ?_) (fun c_1 => ?_)
  · exact absurd c_1 (Int32.not_lt.mpr (nI_le (b := 255) (by omega) (by decide)))
  · skip
    refine lv_iconst (v := 1) hx hb d_JL_canEncode_7 (by decide) ?_
    refine lv_goto (tgt := 12) hx hb d_JL_canEncode_8 (by decide) ?_
    exact pw_zret hx hb hr hlocks hw rfl ⟨⟨rfl, rfl⟩, rfl⟩ d_JL_canEncode_12
set_option maxHeartbeats 4000000 in
set_option maxRecDepth 100000 in
theorem k_JB_length {l : Launch} {D : va_G} {ca : Nat → ClassId} {kS : Nat → Nat} {kT : Nat} {ad : pw_A} {C : pw_C} {n : Nat} {f : Nat → Int32} (b25 : C 25 0 = some (.inr (6, [.ref (ad 26 0), .int 0, .int 0, .int (nI n)]))) (b26 : C 26 0 = some (.inl (ca 2, 16, .inl f))) : gc_Con l y_JB_length c_JB_length ({ frames := 1, cells := 0, slots := 0, locals := 20 }) D ca (z9_Z kS kT) [.ref (ad 25 0)] ad C (pw_pi (fun r ad' C' => (ad' = ad ∧ C' = C) ∧ r = nI n)) 0 0 := by
  have hZ := z9_ok kS kT
  refine pw_ofW (cc := b_JB_length) (maxL := 1) (ret := (some FieldType.int)) (by decide) rfl (Nat.le_of_ble_eq_true rfl) ?_
  intro p e s m args below meth c A ls hB hA hw hK hz hl
  obtain ⟨hx, hb, hr, hml, hts0, hlocks, hown, hnm⟩ := hB
  have hts := wd_hts hts0
  have hown : s.vm.findClass "java/lang/StringBuilder" = some m.cls := hown
  have hl : lv_has ls 1 [(0, .ref (ad 25 0))] := hl
  have hz0 := hz
  obtain ⟨hz1, hz2, hz3, -⟩ := hz0
  refine lv_aload_n hx hb d_JB_length_0 rfl (lv_at hl 0 rfl) ?_
  refine pw_calli (va_runSU (hK.1.1 6 _ rfl).2 (As := []) (rest := []) ⟨hx, hb, hml, hown, hts0⟩ (k_JA_length b25 b26 _) (va_cwSU 0 hts0 (wd_SU wd_527 wd_526 wd_522 wd_440 wd_521 wd_65) rfl rfl rfl (by decide +kernel) ⟨Nat.le_of_ble_eq_true rfl, Nat.le_of_ble_eq_true rfl⟩) (pw_preV hZ hw hA hK hz rfl b25 rfl) rfl rfl hl.1 rfl (lv_room (Nat.le_of_ble_eq_true rfl)) d_JB_length_1 ⟨Nat.le_of_ble_eq_true rfl, Nat.le_of_ble_eq_true rfl⟩) hw hA (fun r_3 ad_1 C_2 H locs hp hw => ?_)
  obtain ⟨⟨hae, hce⟩, hre⟩ := hp
  rw [hae, hce] at hw
  rw [hre]
  clear hae hce hre
  exact pw_iret hx hb hr hlocks hw ⟨⟨rfl, rfl⟩, rfl⟩ d_JB_length_4
set_option maxHeartbeats 4000000 in
set_option maxRecDepth 100000 in
theorem k_JA_ensureCapacityInternal {l : Launch} {D : va_G} {ca : Nat → ClassId} {kS : Nat → Nat} {kT : Nat} {ad : pw_A} {C : pw_C} {n : Nat} {f : Nat → Int32} (b25 : C 25 0 = some (.inr (6, [.ref (ad 26 0), .int 0, .int 0, .int (nI n)]))) (b26 : C 26 0 = some (.inl (ca 2, 16, .inl f))) (hn8 : n ≤ 8) : gc_Con l y_JA_ensureCapacityInternal c_JA_ensureCapacityInternal ({ frames := 0, cells := 0, slots := 0, locals := 0 }) D ca (z9_Z kS kT) [.ref (ad 25 0), .int (nI (n + 1))] ad C (pw_pv (fun ad' C' => ad' = ad ∧ C' = C)) 0 0 := by
  have hZ := z9_ok kS kT
  refine pw_ofW (cc := b_JA_ensureCapacityInternal) (maxL := 3) (ret := none) (by decide) rfl (Nat.le_of_ble_eq_true rfl) ?_
  intro p e s m args below meth c A ls hB hA hw hK hz hl
  obtain ⟨hx, hb, hr, hml, hts0, hlocks, hown, hnm⟩ := hB
  have hts := wd_hts hts0
  have hown : s.vm.findClass "java/lang/AbstractStringBuilder" = some m.cls := hown
  have hl : lv_has ls 3 [(0, .ref (ad 25 0)), (1, .int (nI (n + 1)))] := hl
  have hz0 := hz
  obtain ⟨hz1, hz2, hz3, -⟩ := hz0
  refine lv_aload_n hx hb d_JA_ensureCapacityInternal_0 rfl (lv_at hl 0 rfl) ?_
  refine pw_get (Cn := "java/lang/StringBuilder") (T := F_JB) (N := 4) hx hb hts in_JB hown hK hw 25 0 rfl b25 rfl 0 (by decide) (hts _ wd_428) (fun _ h9 => h9) rfl d_JA_ensureCapacityInternal_1 ?_
  refine pw_alen hx hb hK hw 26 0 rfl 2 b26 rfl d_JA_ensureCapacityInternal_4 ?_
  refine lv_aload_n hx hb d_JA_ensureCapacityInternal_5 rfl (lv_at hl 0 rfl) ?_
  refine pw_get (Cn := "java/lang/StringBuilder") (T := F_JB) (N := 4) hx hb hts in_JB hown hK hw 25 0 rfl b25 rfl 1 (by decide) (hts _ wd_429) (fun _ h9 => h9) rfl d_JA_ensureCapacityInternal_6 ?_
  refine lv_ishr hx hb d_JA_ensureCapacityInternal_9 ?_
  rw [sb_shr0]
  refine lv_istore_n (lv' := [(2, .int (nI 16)), (0, .ref (ad 25 0)), (1, .int (nI (n + 1)))]) hx hb d_JA_ensureCapacityInternal_10 rfl hl (by decide) rfl (fun ls hl => ?_)
  refine lv_iload_n hx hb d_JA_ensureCapacityInternal_11 rfl (lv_at hl 2 rfl) ?_
  refine lv_iload_n hx hb d_JA_ensureCapacityInternal_12 rfl (lv_at hl 0 rfl) ?_
  refine lv_isub hx hb d_JA_ensureCapacityInternal_13 ?_
  refine lv_if_le (tgt := 38) hx hb d_JA_ensureCapacityInternal_14 (by decide) (fun c_1 => ?_) (fun c_1 => ?_)
  · skip
    exact pw_vret hx hb hr hlocks hw ⟨rfl, rfl⟩ d_JA_ensureCapacityInternal_38
  · exact absurd (sb_room n hn8) c_1
set_option maxHeartbeats 4000000 in
set_option maxRecDepth 100000 in
theorem k_JA_append {l : Launch} {D : va_G} {ca : Nat → ClassId} {kS : Nat → Nat} {kT : Nat} {ad : pw_A} {C : pw_C} {n : Nat} {f : Nat → Int32} (b25 : C 25 0 = some (.inr (6, [.ref (ad 26 0), .int 0, .int 0, .int (nI n)]))) (b26 : C 26 0 = some (.inl (ca 2, 16, .inl f))) (hn8 : n ≤ 8) {k : Nat} (hk : k < 128) : gc_Con l y_JA_append c_JA_append ({ frames := 1, cells := 0, slots := 0, locals := 22 }) D ca (z9_Z kS kT) [.ref (ad 25 0), .int (nI k)] ad C (pw_pr (fun r ad' C' => (ad' = ad ∧ r = ad 25 0) ∧ C' 25 0 = some (.inr (6, [.ref (ad 26 0), .int 0, .int 0, .int (nI (n + 1))])) ∧ C' 26 0 = some (.inl (ca 2, 16, .inl (upd f n (nI k)))) ∧ ∀ x y, ¬ (x = 25 ∧ y = 0) → ¬ (x = 26 ∧ y = 0) → C' x y = C x y)) 0 0 := by
  have hZ := z9_ok kS kT
  refine pw_ofW (cc := b_JA_append) (maxL := 2) (ret := (some (FieldType.object "java/lang/AbstractStringBuilder"))) (by decide) rfl (Nat.le_of_ble_eq_true rfl) ?_
  intro p e s m args below meth c A ls hB hA hw hK hz hl
  obtain ⟨hx, hb, hr, hml, hts0, hlocks, hown, hnm⟩ := hB
  have hts := wd_hts hts0
  have hown : s.vm.findClass "java/lang/AbstractStringBuilder" = some m.cls := hown
  have hl : lv_has ls 2 [(0, .ref (ad 25 0)), (1, .int (nI k))] := hl
  have hz0 := hz
  obtain ⟨hz1, hz2, hz3, -⟩ := hz0
  have hfr : ∀ x y, ¬ (x = 25 ∧ y = 0) → ¬ (x = 26 ∧ y = 0) → C x y = C x y := fun _ _ _ _ => rfl
  refine lv_aload_n hx hb d_JA_append_0 rfl (lv_at hl 0 rfl) ?_
  refine lv_aload_n hx hb d_JA_append_1 rfl (lv_at hl 0 rfl) ?_
  refine pw_get (Cn := "java/lang/StringBuilder") (T := F_JB) (N := 4) hx hb hts in_JB hown hK hw 25 0 rfl b25 rfl 3 (by decide) (hts _ wd_431) (fun _ h9 => h9) rfl d_JA_append_2 ?_
  refine lv_iconst (v := 1) hx hb d_JA_append_5 (by decide) ?_
  refine lv_iadd hx hb d_JA_append_6 ?_
  have hpm := hz.2.2.2.2.2.2.2.2.2.2.2.2.2.2
  rw [nI_1]
  refine pw_callv (pw_runP (n := 1) (C := "java/lang/StringBuilder") (As := [.int (nI (n + 1))]) (rest := []) ⟨hx, hb, hml, hown, hts0⟩ (k_JA_ensureCapacityInternal b25 b26 hn8 _) hts0 (wd_sub wd_452) rfl rfl rfl (by decide +kernel) ⟨Nat.le_of_ble_eq_true rfl, Nat.le_of_ble_eq_true rfl⟩ (hts _ wd_449) (hts _ wd_1073) (hpm args) (hts _ wd_451) (hts _ wd_65) (pw_preV hZ hw hA hK hz rfl b25 rfl) rfl rfl hl.1 rfl (lv_room (Nat.le_of_ble_eq_true rfl)) d_JA_append_7 ⟨Nat.le_of_ble_eq_true rfl, Nat.le_of_ble_eq_true rfl⟩) hw hA (fun ad_1 C_2 H locs hp hw => ?_)
  obtain ⟨hae, hce⟩ := hp
  rw [hae, hce] at hw
  clear hae hce
  refine lv_aload_n hx hb d_JA_append_10 rfl (lv_at hl 0 rfl) ?_
  refine pw_calli (va_runU (C := "java/lang/StringBuilder") (As := []) (rest := []) ⟨hx, hb, hml, hown, hts0⟩ (k_JA_isLatin1 b25 b26 _) (va_cwU (owner := "java/lang/AbstractStringBuilder") 0 hts0 (wd_U wd_475 wd_471 wd_473 wd_474 wd_472 wd_65) rfl rfl rfl rfl (by decide +kernel) ⟨Nat.le_of_ble_eq_true rfl, Nat.le_of_ble_eq_true rfl⟩) (pw_preV hZ hw hA hK hz rfl b25 rfl) rfl rfl hl.1 rfl (lv_room (Nat.le_of_ble_eq_true rfl)) d_JA_append_11 ⟨Nat.le_of_ble_eq_true rfl, Nat.le_of_ble_eq_true rfl⟩) hw hA (fun r_6 ad_4 C_5 H locs hp hw => ?_)
  obtain ⟨⟨hae, hce⟩, hre⟩ := hp
  rw [hae, hce] at hw
  rw [hre]
  clear hae hce hre
  refine lv_if_eq (tgt := 45) hx hb d_JA_append_14 (by decide) (fun c_7 => ?_) (fun c_7 => ?_)
  · exact absurd c_7 (by decide)
  · skip
    refine lv_iload_n hx hb d_JA_append_17 rfl (lv_at hl 1 rfl) ?_
    refine pw_calli (va_runS (As := [.int (nI k)]) (rest := []) ⟨hx, hb, hml, hown, hts0⟩ (k_JL_canEncode hk _) (va_cwS 1 hts0 (wd_S wd_478 wd_476 wd_477 wd_62) rfl rfl rfl (by decide +kernel) ⟨Nat.le_of_ble_eq_true rfl, Nat.le_of_ble_eq_true rfl⟩) (pw_preS hZ hw hA hK hz) rfl rfl hl.1 rfl (lv_room (Nat.le_of_ble_eq_true rfl)) d_JA_append_18 ⟨Nat.le_of_ble_eq_true rfl, Nat.le_of_ble_eq_true rfl⟩) hw hA (fun r_10 ad_8 C_9 H locs hp hw => ?_)
    obtain ⟨⟨hae, hce⟩, hre⟩ := hp
    rw [hae, hce] at hw
    rw [hre]
    clear hae hce hre
    refine lv_if_eq (tgt := 45) hx hb d_JA_append_21 (by decide) (fun c_11 => ?_) (fun c_11 => ?_)
    · exact absurd c_11 (by decide)
    · skip
      refine lv_aload_n hx hb d_JA_append_24 rfl (lv_at hl 0 rfl) ?_
      refine pw_get (Cn := "java/lang/StringBuilder") (T := F_JB) (N := 4) hx hb hts in_JB hown hK hw 25 0 rfl b25 rfl 0 (by decide) (hts _ wd_428) (fun _ h9 => h9) rfl d_JA_append_25 ?_
      refine lv_aload_n hx hb d_JA_append_28 rfl (lv_at hl 0 rfl) ?_
      refine lv_dup hx hb d_JA_append_29 rfl ?_
      refine pw_get (Cn := "java/lang/StringBuilder") (T := F_JB) (N := 4) hx hb hts in_JB hown hK hw 25 0 rfl b25 rfl 3 (by decide) (hts _ wd_431) (fun _ h9 => h9) rfl d_JA_append_30 ?_
      refine lv_dup_x1 hx hb d_JA_append_33 rfl rfl ?_
      refine lv_iconst (v := 1) hx hb d_JA_append_34 (by decide) ?_
      refine lv_iadd hx hb d_JA_append_35 ?_
      rw [nI_1]
      refine pw_put (Cn := "java/lang/StringBuilder") (T := F_JB) (N := 4) (v := .int (nI (n + 1))) (ty := .int) hx hb hts in_JB ft_JB to_JB nm_JB hown hK hw 25 0 (by decide) rfl b25 rfl 3 (by decide) (hts _ wd_431) (fun _ h9 => h9) rfl (by decide +kernel) rfl rfl (Nat.le_of_ble_eq_true rfl) d_JA_append_36 (fun H locs hw => ?_)
      have hw : pw_H D cls9 A s.heap ad C ad (pw_up C 25 0 (some (.inr (6, [.ref (ad 26 0), .int 0, .int 0, .int (nI (n + 1))])))) H _ := hw
      generalize hC_12 : pw_up C 25 0 (some (.inr (6, [.ref (ad 26 0), .int 0, .int 0, .int (nI (n + 1))]))) = C_12 at hw
      have b26 : C_12 26 0 = some (.inl (ca 2, 16, .inl f)) := by rw [← hC_12]; exact (pw_up_ne _ _ (by decide)).trans b26
      have b25 : C_12 25 0 = some (.inr (6, [.ref (ad 26 0), .int 0, .int 0, .int (nI (n + 1))])) := by rw [← hC_12]; exact pw_up_self _ _ _ _
      have hfr : ∀ x y, ¬ (x = 25 ∧ y = 0) → ¬ (x = 26 ∧ y = 0) → C_12 x y = C x y := fun x y h0 h1 => by rw [← hC_12]; exact (pw_up_ne _ _ (by omega)).trans (hfr x y h0 h1)
      refine lv_iload_n hx hb d_JA_append_39 rfl (lv_at hl 1 rfl) ?_
      refine lv_i2b hx hb d_JA_append_40 rfl ?_
      refine pw_bast hx hb hK hw 26 0 rfl 2 b26 rfl (by decide) n rfl (by omega) (by omega) d_JA_append_41 (fun H locs hw => ?_)
      have hw : pw_H D cls9 A s.heap ad C ad (pw_up C_12 26 0 (some (.inl (ca 2, 16, .inl (upd f n (vp_nar .byte ((nI k).toInt8.toInt32))))))) H _ := hw
      generalize hC_13 : pw_up C_12 26 0 (some (.inl (ca 2, 16, .inl (upd f n (vp_nar .byte ((nI k).toInt8.toInt32)))))) = C_13 at hw
      have b25 : C_13 25 0 = some (.inr (6, [.ref (ad 26 0), .int 0, .int 0, .int (nI (n + 1))])) := by rw [← hC_13]; exact (pw_up_ne _ _ (by decide)).trans b25
      have b26 : C_13 26 0 = some (.inl (ca 2, 16, .inl (upd f n (vp_nar .byte ((nI k).toInt8.toInt32))))) := by rw [← hC_13]; exact pw_up_self _ _ _ _
      have hfr : ∀ x y, ¬ (x = 25 ∧ y = 0) → ¬ (x = 26 ∧ y = 0) → C_13 x y = C x y := fun x y h0 h1 => by rw [← hC_13]; exact (pw_up_ne _ _ (by omega)).trans (hfr x y h0 h1)
      rw [sb_nar k hk] at b26
      refine lv_goto (tgt := 75) hx hb d_JA_append_42 (by decide) ?_
      refine lv_aload_n hx hb d_JA_append_75 rfl (lv_at hl 0 rfl) ?_
      exact pw_aret hx hb hr (Or.inl ⟨_, rfl⟩) hlocks hw ⟨⟨rfl, rfl⟩, b25, b26, hfr⟩ d_JA_append_76
set_option maxHeartbeats 4000000 in
set_option maxRecDepth 100000 in
theorem k_JB_append {l : Launch} {D : va_G} {ca : Nat → ClassId} {kS : Nat → Nat} {kT : Nat} {ad : pw_A} {C : pw_C} {n : Nat} {f : Nat → Int32} (b25 : C 25 0 = some (.inr (6, [.ref (ad 26 0), .int 0, .int 0, .int (nI n)]))) (b26 : C 26 0 = some (.inl (ca 2, 16, .inl f))) (hn8 : n ≤ 8) {k : Nat} (hk : k < 128) : gc_Con l y_JB_append c_JB_append ({ frames := 2, cells := 0, slots := 0, locals := 43 }) D ca (z9_Z kS kT) [.ref (ad 25 0), .int (nI k)] ad C (pw_pr (fun r ad' C' => (ad' = ad ∧ r = ad 25 0) ∧ C' 25 0 = some (.inr (6, [.ref (ad 26 0), .int 0, .int 0, .int (nI (n + 1))])) ∧ C' 26 0 = some (.inl (ca 2, 16, .inl (upd f n (nI k)))) ∧ ∀ x y, ¬ (x = 25 ∧ y = 0) → ¬ (x = 26 ∧ y = 0) → C' x y = C x y)) 0 0 := by
  have hZ := z9_ok kS kT
  refine pw_ofW (cc := b_JB_append) (maxL := 2) (ret := (some (FieldType.object "java/lang/StringBuilder"))) (by decide) rfl (Nat.le_of_ble_eq_true rfl) ?_
  intro p e s m args below meth c A ls hB hA hw hK hz hl
  obtain ⟨hx, hb, hr, hml, hts0, hlocks, hown, hnm⟩ := hB
  have hts := wd_hts hts0
  have hown : s.vm.findClass "java/lang/StringBuilder" = some m.cls := hown
  have hl : lv_has ls 2 [(0, .ref (ad 25 0)), (1, .int (nI k))] := hl
  have hz0 := hz
  obtain ⟨hz1, hz2, hz3, -⟩ := hz0
  refine lv_aload_n hx hb d_JB_append_0 rfl (lv_at hl 0 rfl) ?_
  refine lv_iload_n hx hb d_JB_append_1 rfl (lv_at hl 1 rfl) ?_
  refine pw_callr (va_runSU (hK.1.1 6 _ rfl).2 (As := [.int (nI k)]) (rest := []) ⟨hx, hb, hml, hown, hts0⟩ (k_JA_append b25 b26 hn8 hk _) (va_cwSU 1 hts0 (wd_SU wd_448 wd_446 wd_1072 wd_440 wd_447 wd_65) rfl rfl rfl (by decide +kernel) ⟨Nat.le_of_ble_eq_true rfl, Nat.le_of_ble_eq_true rfl⟩) (pw_preV hZ hw hA hK hz rfl b25 rfl) rfl rfl hl.1 rfl (lv_room (Nat.le_of_ble_eq_true rfl)) d_JB_append_2 ⟨Nat.le_of_ble_eq_true rfl, Nat.le_of_ble_eq_true rfl⟩) hw hA (fun r_3 ad_1 C_2 H locs hp hw => ?_)
  obtain ⟨⟨hae, hre⟩, b25, b26, hfr⟩ := hp
  rw [hae] at hw; clear hae
  rw [hre]
  refine lv_pop hx hb d_JB_append_5 rfl ?_
  refine lv_aload_n hx hb d_JB_append_6 rfl (lv_at hl 0 rfl) ?_
  exact pw_aret hx hb hr (Or.inl ⟨_, rfl⟩) hlocks hw ⟨⟨rfl, rfl⟩, b25, b26, hfr⟩ d_JB_append_7
