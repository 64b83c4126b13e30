theorem lw_D_v {dC ca : Nat → ClassId} {aV : Nat → Nat} {kT : Nat} {H : Heap} {y : Nat} (hy : y < 8) {cell : Cell} (h : H[aV y]? = some cell) : cell.cls = lw_D dC ca aV kT H (1000 + y) := by
  unfold lw_D
  rw [if_neg (by omega), if_pos (by omega), show 1000 + y - 1000 = y by omega, h]; rfl
theorem lw_D_l {dC ca : Nat → ClassId} {aV : Nat → Nat} {kT : Nat} {H : Heap} {y : Nat} (hy : y < 8) : ca 2 = lw_D dC ca aV kT H (2000 + y) := by
  unfold lw_D
  rw [if_neg (by omega), if_neg (by omega), if_neg (by omega), if_neg (by omega)]
theorem lw_D_t {dC ca : Nat → ClassId} {aV : Nat → Nat} {kT : Nat} {H : Heap} {cell : Cell} (h : H[kT]? = some cell) : cell.cls = lw_D dC ca aV kT H (1000 + 8) := by
  unfold lw_D
  rw [if_neg (by omega), if_neg (by omega), if_pos (by omega), h]; rfl
theorem lw_D_u {dC ca : Nat → ClassId} {aV : Nat → Nat} {kT : Nat} {H : Heap} : ca 0 = lw_D dC ca aV kT H (2000 + 8) := by
  unfold lw_D
  rw [if_neg (by omega), if_neg (by omega), if_neg (by omega), if_pos (by omega)]
theorem lw_slot {s : State} {o n d : String} {v : Value} {t i : Nat} {A : Nat → Prop} {cell : Cell} (h : va_OF o n d v t A s s.heap) (hs : SlotIs s o n d i) (hc : s.heap[t]? = some cell) : cell.slots[i]? = some v ∧ cell.vm ≠ .unknown := by
  obtain ⟨cf, kf, fi, f, cell2, p1, p2, p3, p4, p5, p6⟩ := h
  obtain ⟨cf9, kf9, fi9, f9, q1, q2⟩ := hs
  have e1 : cell2 = cell := Option.some.inj (p3.symm.trans hc)
  have e2 := Option.some.inj (p1.symm.trans q1)
  have e3 : f = f9 := congrArg (fun z => z.2.2.2) e2
  subst e1
  subst e3
  rw [← q2]
  exact ⟨p5, p4⟩
set_option maxHeartbeats 4000000 in
set_option maxRecDepth 100000 in
theorem lw_world {p : Program} {s : State} {m : MethodId} {meth : Method} {c : Code} {b L : Nat} {xs : Nat → Int32} (hL : L ≤ 3072) (C0 : lw_At p s m meth c b L xs) : ∃ (D : va_G) (ca : Nat → ClassId) (kS : Nat → Nat) (kT : Nat) (A : Nat → Prop) (ad : pw_A) (C : pw_C), lw_E p s m meth c b L xs D ca kS kT A ∧ (∀ q, A q → s.heap.size ≤ q) ∧ gw_ks ca kS kT ad C ∧ (∀ x y, x < 50 → C x y = none) ∧ pw_H D cls9 A s.heap ad C ad C s.heap [] := by
  obtain ⟨hx, hb, hr, hml, hown, hts, hX, hbl, hlocks, hgv⟩ := C0
  have htW : ∀ w ∈ wd_W, w.before #[Value.ref b] s = true := fun w hw => hts w (List.mem_filter.mp hw).1
  have hts0 : ∀ w ∈ lw_c0 :: wd_W, w.before #[Value.ref b] s = true := List.forall_mem_cons.mpr ⟨htW _ wd_0, htW⟩
  have hs := flat_of_before _ hgv
  have hA9 : ∀ a : Nat, a < s.heap.size → ¬ (fun q : Nat => s.heap.size ≤ q) a := fun a h z => absurd h (Nat.not_lt.mpr z)
  obtain ⟨d0, i0, k0⟩ := u_known (C := "GraphWriter") (T := F_G) (N := 4) (n := 4) htW in_G (htW _ wd_69)
  obtain ⟨d1, i1, k1⟩ := u_known (C := "GraphWriter$Out") (T := F_O) (N := 11) (n := 11) htW in_O (htW _ wd_81)
  obtain ⟨d2, i2, k2⟩ := u_known (C := "GraphWriter$Defined") (T := F_D) (N := 11) (n := 11) htW in_D (htW _ wd_165)
  obtain ⟨d3, i3, k3⟩ := u_known (C := "GraphWriter$Thing") (T := F_T) (N := 7) (n := 7) htW in_T (htW _ wd_362)
  obtain ⟨d4, i4, k4⟩ := u_known (C := "GraphWriterModel") (T := F_M) (N := 31) (n := 31) htW in_M (htW _ wd_739)
  obtain ⟨d5, i5, k5⟩ := u_known (C := "java/lang/String") (T := F_JS) (N := 4) (n := 4) htW in_JS (htW _ wd_222)
  obtain ⟨d6, i6, k6⟩ := u_known (C := "java/lang/StringBuilder") (T := F_JB) (N := 4) (n := 4) htW in_JB (htW _ wd_416)
  obtain ⟨c0, e0⟩ := lw_arr (ty := .int) (fun t h => by cases h) (htW _ wd_127)
  obtain ⟨c1, e1⟩ := lw_arr (ty := .long) (fun t h => by cases h) (htW _ wd_402)
  obtain ⟨c2, e2⟩ := lw_arr (ty := .byte) (fun t h => by cases h) (htW _ wd_126)
  obtain ⟨c3, e3⟩ := lw_arr (ty := .boolean) (fun t h => by cases h) (htW _ wd_848)
  have o4 : va_AO "GraphWriter$Defined" s := va_AO.of (hts _ (List.mem_of_getElem? (i := 77) (by decide +kernel)))
  obtain ⟨c4, e4⟩ := lw_arq o4
  have o5 : va_AO "GraphWriter$Thing" s := va_AO.of (hts _ (List.mem_of_getElem? (i := 79) (by decide +kernel)))
  obtain ⟨c5, e5⟩ := lw_arq o5
  obtain ⟨ca, hca⟩ : ∃ f : Nat → ClassId, f = fun k => match k with | 0 => c0 | 1 => c1 | 2 => c2 | 3 => c3 | 4 => c4 | _ => c5 := ⟨_, rfl⟩
  obtain ⟨dC, hdC⟩ : ∃ f : Nat → ClassId, f = fun k => match k with | 0 => d0 | 1 => d1 | 2 => d2 | 3 => d3 | 4 => d4 | 5 => d5 | _ => d6 := ⟨_, rfl⟩
  obtain ⟨dI, hdI⟩ : ∃ f : Nat → Nat → Nat, f = fun k => match k with | 0 => i0 | 1 => i1 | 2 => i2 | 3 => i3 | 4 => i4 | 5 => i5 | _ => i6 := ⟨_, rfl⟩
  obtain ⟨aK, aV, hS, hev⟩ := vk_Sof (N := 8) (tm := lw_tm) (len := lw_len) (byt := lw_byt) lw_ln (fun i hi => hs _ (lw_w1 i hi)) (fun i hi => hs _ (lw_w2 i hi)) (fun i hi => hs _ (lw_w3 i hi)) (fun i hi => hs _ (lw_w4 i hi)) (fun i hi j hj => hs _ (lw_w5 i hi j hj)) (fun i j hi hj hij => (lw_w6 i hi j hj hij).imp (fun z => hs _ z) (fun z => hs _ z)) hA9
  obtain ⟨kT, hTe, hT⟩ := va_Tof (tm := .static "GraphWriter" "TYPE_WIDTHS" "[I") (ty := .int) (N := 6) (f := fun j => .int (gw_wd j)) (by decide) (hs _ lw_w8.1) (va_eqt (hs _ lw_w8.2.1)) (fun j hj => va_eqt (hs _ (lw_w7 j hj))) hA9
  have hD : ∀ k, k < 7 → lw_D dC ca aV kT s.heap k = dC k := fun k hk => by unfold lw_D; rw [if_pos (by omega)]
  have hKc : ∀ (k : Nat) (q : vw_C), cls9[k]? = some q → u_Kn s q.1 q.2.1 q.2.2 (lw_D dC ca aV kT s.heap k) (dI k) := by
    intro k q hq
    match k, hq with
    | 0, hq => cases hq; rw [hD 0 (by omega), hdC, hdI]; exact k0
    | 1, hq => cases hq; rw [hD 1 (by omega), hdC, hdI]; exact k1
    | 2, hq => cases hq; rw [hD 2 (by omega), hdC, hdI]; exact k2
    | 3, hq => cases hq; rw [hD 3 (by omega), hdC, hdI]; exact k3
    | 4, hq => cases hq; rw [hD 4 (by omega), hdC, hdI]; exact k4
    | 5, hq => cases hq; rw [hD 5 (by omega), hdC, hdI]; exact k5
    | 6, hq => cases hq; rw [hD 6 (by omega), hdC, hdI]; exact k6
    | k + 7, hq => simp [cls9] at hq
  have hKt : ∀ (k : Nat) (q : ClassId × FieldType), (ty9 ca)[k]? = some q → ArrOfT s q.1 q.2 ∧ va_RA s q.1 q.2 := by
    intro k q hq
    match k, hq with
    | 0, hq => cases hq; rw [hca]; exact e0
    | 1, hq => cases hq; rw [hca]; exact e1
    | 2, hq => cases hq; rw [hca]; exact e2
    | 3, hq => cases hq; rw [hca]; exact e3
    | 4, hq => cases hq; rw [hca]; exact e4
    | 5, hq => cases hq; rw [hca]; exact e5
    | k + 6, hq => simp [ty9] at hq
  have hV : ∀ i, i < 8 → ∃ cell, s.heap[aV i]? = some cell ∧ s.isArrayOf cell .byte := fun i hi => by
    obtain ⟨cell, t1, t2, -⟩ := (hS.1 i hi).2.2.2
    exact ⟨cell, t1, t2⟩
  have hTT : ∃ cell, s.heap[kT]? = some cell ∧ s.isArrayOf cell .int := by
    obtain ⟨cell, t1, t2, -⟩ := hT
    exact ⟨cell, t1, t2⟩
  have hK : pw_K (lw_D dC ca aV kT s.heap, dI) cls9 (ty9 ca) s := ⟨⟨hKc, hKt⟩, fun k ty h => lw_rk (hKt 2 _ rfl).1 (hKt 0 _ rfl).1 hV hTT k ty h⟩
  have hz : z9_Z aK kT (fun q : Nat => s.heap.size ≤ q) s := ⟨va_Zof (hts _ (List.mem_of_getElem? (i := 204) (by decide +kernel))) (htW _ wd_60) (va_eqi (hs _ lw_w8.2.2.1)) hA9, va_Zqof (hts _ (List.mem_of_getElem? (i := 209) (by decide +kernel))) (htW _ wd_61) (hs _ lw_w8.2.2.2) hA9, va_Zof (hts _ (List.mem_of_getElem? (i := 700) (by decide +kernel))) (htW _ wd_53) hTe hA9, vk_R.of (hts _ (List.mem_of_getElem? (i := 541) (by decide +kernel))) (hev 0 (by decide)), vk_R.of (hts _ (List.mem_of_getElem? (i := 641) (by decide +kernel))) (hev 1 (by decide)), vk_R.of (hts _ (List.mem_of_getElem? (i := 660) (by decide +kernel))) (hev 2 (by decide)), vk_R.of (hts _ (List.mem_of_getElem? (i := 675) (by decide +kernel))) (hev 3 (by decide)), vk_R.of (hts _ (List.mem_of_getElem? (i := 681) (by decide +kernel))) (hev 4 (by decide)), vk_R.of (hts _ (List.mem_of_getElem? (i := 683) (by decide +kernel))) (hev 5 (by decide)), vk_R.of (hts _ (List.mem_of_getElem? (i := 368) (by decide +kernel))) (hev 6 (by decide)), vk_R.of (hts _ (List.mem_of_getElem? (i := 190) (by decide +kernel))) (hev 7 (by decide)), o4, o5, va_Nw.of rfl (hts _ (List.mem_of_getElem? (i := 82) (by decide +kernel))), fun args => va_tabs rfl rfl (hts _ (List.mem_of_getElem? (i := 450) (by decide +kernel)))⟩
  have hno : ∀ x y, x < 50 → lw_C ca aV x y = none := fun x y h => lw_C_none y h
  have hvr : ∀ x y e, lw_C ca aV x y = some e → vr_at (lw_D dC ca aV kT s.heap, dI) cls9 (lw_ad aK aV kT x y, e) s.heap ∧ ¬ (fun q : Nat => s.heap.size ≤ q) (lw_ad aK aV kT x y) := by
    intro x y e he
    rcases lw_C_some he with ⟨rfl, hy, rfl⟩ | ⟨rfl, hy, rfl⟩ | ⟨rfl, rfl, rfl⟩
    · obtain ⟨⟨cell, o1, o2, o3, o9⟩, p1, p2, p3⟩ := hS.1 y hy
      have hk5 := hKc 5 _ rfl
      have h1 := lw_slot p2 (hk5.1 0 (by decide)) o1
      have h2 := lw_slot p1 (hk5.1 1 (by decide)) o1
      refine ⟨⟨("java/lang/String", F_JS, 4), cell, rfl, o1, Option.some.inj (o3.symm.trans hk5.2.1), h1.2, o2, fun k hk => ?_⟩, o9⟩
      match k, hk with
      | 0, _ => exact h1.1
      | 1, _ => exact h2.1
      | k + 2, h => exact absurd h (by omega)
    · have t := (hS.1 y hy).2.2.2
      rw [(lw_lb y hy).1, (lw_lb y hy).2] at t
      obtain ⟨cell, t1, t2, t3, t4, t5, t6, t7⟩ := t
      exact ⟨⟨cell, y, (fun j => (z9_tx y).getD j 0), t1, lw_D_v hy t1, lw_D_l hy, rfl, t3, t2.1, t4, t5, t6⟩, t7⟩
    · obtain ⟨cell, t1, t2, t3, t4, t5, t6, t7⟩ := hT
      exact ⟨⟨cell, 8, gw_wd, t1, lw_D_t (dC := dC) (ca := ca) (aV := aV) t1, lw_D_u (dC := dC) (ca := ca) (aV := aV) (kT := kT) (H := s.heap), rfl, t3, t2.1, t4, t5, t6⟩, t7⟩
  refine ⟨(lw_D dC ca aV kT s.heap, dI), ca, aK, kT, (fun q : Nat => s.heap.size ≤ q), lw_ad aK aV kT, lw_C ca aV, ⟨hx, hb, hr, hml, hown, hts0, hX, hbl, hA9 b hbl, fun _ h => h, hlocks, hL, hK, hz⟩, fun _ h => h, lw_ks ca aK aV kT, hno, ⟨fun x y e he => ⟨fun h5 => ?_, fun _ => (hvr x y e he).1⟩, fun x y x' y' e e' he _ h5 => ?_, [(50, 0), (50, 1), (50, 2), (50, 3), (50, 4), (50, 5), (50, 6), (50, 7), (51, 0), (51, 1), (51, 2), (51, 3), (51, 4), (51, 5), (51, 6), (51, 7), (52, 0)], fun x y e he => ?_⟩, fun x y e he => ⟨fun h5 => ?_, fun _ => ⟨(hvr x y e he).1.lt, (hvr x y e he).2⟩⟩, va_S.rf, fun _ _ _ => ⟨rfl, rfl⟩⟩
  · rw [hno x y h5] at he; cases he
  · rw [hno x y h5] at he; cases he
  · rcases lw_C_some he with ⟨rfl, hy, rfl⟩ | ⟨rfl, hy, rfl⟩ | ⟨rfl, rfl, rfl⟩
    · match y, hy with
      | 0, _ => decide
      | 1, _ => decide
      | 2, _ => decide
      | 3, _ => decide
      | 4, _ => decide
      | 5, _ => decide
      | 6, _ => decide
      | 7, _ => decide
      | y + 8, h => exact absurd h (by omega)
    · match y, hy with
      | 0, _ => decide
      | 1, _ => decide
      | 2, _ => decide
      | 3, _ => decide
      | 4, _ => decide
      | 5, _ => decide
      | 6, _ => decide
      | 7, _ => decide
      | y + 8, h => exact absurd h (by omega)
    · decide
  · rw [hno x y h5] at he; cases he
