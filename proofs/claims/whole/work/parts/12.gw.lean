/-! the graph's cells: classes' data, objects' data -/
abbrev DT : Type := Int32 × Int64 × Nat × (Nat → Int32) × (Nat → Int32) × (Nat → Int32) × (Nat → Int32) × Nat × Nat × Int32
abbrev dd_kd (d : DT) : Int32 := d.1
abbrev dd_id (d : DT) : Int64 := d.2.1
abbrev dd_cn (d : DT) : Nat := d.2.2.1
abbrev dd_cf (d : DT) : Nat → Int32 := d.2.2.2.1
abbrev dd_nm (d : DT) : Nat → Int32 := d.2.2.2.2.1
abbrev dd_ty (d : DT) : Nat → Int32 := d.2.2.2.2.2.1
abbrev dd_or (d : DT) : Nat → Int32 := d.2.2.2.2.2.2.1
abbrev dd_fn (d : DT) : Nat := d.2.2.2.2.2.2.2.1
abbrev dd_sh (d : DT) : Nat := d.2.2.2.2.2.2.2.2.1
abbrev dd_us (d : DT) : Int32 := d.2.2.2.2.2.2.2.2.2
abbrev TT : Type := Int32 × Int32 × Nat × (Nat → Int32) × (Nat → Int64) × List Int32 × Int32 × Int32
abbrev tt_so (t : TT) : Int32 := t.1
abbrev tt_ow (t : TT) : Int32 := t.2.1
abbrev tt_n (t : TT) : Nat := t.2.2.1
abbrev tt_ty (t : TT) : Nat → Int32 := t.2.2.2.1
abbrev tt_va (t : TT) : Nat → Int64 := t.2.2.2.2.1
abbrev tt_tx (t : TT) : List Int32 := t.2.2.2.2.2.1
abbrev tt_rp (t : TT) : Int32 := t.2.2.2.2.2.2.1
abbrev tt_ex (t : TT) : Int32 := t.2.2.2.2.2.2.2
def tt_ta (kS : Nat → Nat) (ad : pw_A) (i : Nat) (t : TT) : Nat := if tt_so t = 1 ∨ tt_so t = 4 then ad 23 i else kS 6
def gw_tf (ad : pw_A) (mk : Nat) : Nat → Option Nat := fun i => if i < mk then some (ad 20 i) else none
def gw_cf (ad : pw_A) (cd : Nat → Option DT) : Nat → Option Nat := fun k => if (cd k).isSome then some (ad 10 k) else none
theorem gw_th {ad : pw_A} {mk i : Nat} (h : i < mk) : va_rf (gw_tf ad mk i) = .ref (ad 20 i) := by simp [gw_tf, va_rf, h]
theorem gw_cl {ad : pw_A} {cd : Nat → Option DT} {k : Nat} {d : DT} (h : cd k = some d) : va_rf (gw_cf ad cd k) = .ref (ad 10 k) := by simp [gw_cf, va_rf, h]
theorem gw_cn {ad : pw_A} {cd : Nat → Option DT} {k : Nat} (h : cd k = none) : va_rf (gw_cf ad cd k) = .null := by simp [gw_cf, va_rf, h]
def dd_at (ca : Nat → ClassId) (ad : pw_A) (C : pw_C) (k : Nat) (d : DT) : Prop :=
  C 10 k = some (.inr (2, [.int (nI k), .int (dd_kd d), .long (dd_id d), .ref (ad 15 k), .ref (ad 11 k), .ref (ad 12 k), .ref (ad 13 k), .ref (ad 14 k), .int (nI (dd_fn d)), .int (nI (dd_sh d)), .int (dd_us d)])) ∧
  C 11 k = some (.inl (ca 0, dd_cn d, .inl (dd_cf d))) ∧ C 12 k = some (.inl (ca 0, 4, .inl (dd_nm d))) ∧ C 13 k = some (.inl (ca 0, 4, .inl (dd_ty d))) ∧ C 14 k = some (.inl (ca 0, 4, .inl (dd_or d))) ∧ st_at ca ad C 15 k 16 k [nI (65 + k)]
def tt_at (ca : Nat → ClassId) (kS : Nat → Nat) (ad : pw_A) (C : pw_C) (i : Nat) (t : TT) : Prop :=
  C 20 i = some (.inr (3, [.int (tt_so t), .int (tt_ow t), .ref (ad 21 i), .ref (ad 22 i), .ref (tt_ta kS ad i t), .int (tt_rp t), .int (tt_ex t)])) ∧
  C 21 i = some (.inl (ca 0, tt_n t, .inl (tt_ty t))) ∧ C 22 i = some (.inl (ca 1, tt_n t, .inr (.inl (tt_va t)))) ∧ tt_n t ≤ 24 ∧ ((tt_so t = 1 ∨ tt_so t = 4) → st_at ca ad C 23 i 24 i (tt_tx t))
def gw_wd : Nat → Int32 := fun j => if j = 0 then 1 else if j = 1 then 2 else if j = 2 then 4 else if j = 3 then 8 else if j = 4 then 2 else 1
/-- the constants that are only read -/
def gw_ks (ca : Nat → ClassId) (kS : Nat → Nat) (kT : Nat) (ad : pw_A) (C : pw_C) : Prop := (∀ i, i < 8 → st_at ca ad C 50 i 51 i (z9_tx i) ∧ ad 50 i = kS i) ∧ C 52 0 = some (.inl (ca 0, 6, .inl gw_wd)) ∧ ad 52 0 = kT
def gw_at (ca : Nat → ClassId) (kS : Nat → Nat) (kT : Nat) (ad : pw_A) (C : pw_C) (cd : Nat → Option DT) (mk : Nat) (td : Nat → TT) : Prop :=
  C 0 0 = some (.inr (0, [.ref (ad 1 0), .ref (ad 2 0), .ref (ad 3 0), .int (nI mk)])) ∧
  C 1 0 = some (.inl (ca 4, 6, .inr (.inr (.inr (.inr (gw_cf ad cd)))))) ∧ C 2 0 = some (.inl (ca 5, 12, .inr (.inr (.inr (.inr (gw_tf ad mk)))))) ∧ mk ≤ 12 ∧
  (∀ k d, cd k = some d → k < 6 ∧ dd_at ca ad C k d) ∧ (∀ i, i < mk → tt_at ca kS ad C i (td i)) ∧ gw_ks ca kS kT ad C
theorem gw_at.fr {ca : Nat → ClassId} {kS : Nat → Nat} {kT : Nat} {ad : pw_A} {C C1 : pw_C} {cd : Nat → Option DT} {mk : Nat} {td : Nat → TT} (h : gw_at ca kS kT ad C cd mk td) (hf : os_fr C C1) : gw_at ca kS kT ad C1 cd mk td := by
  obtain ⟨h0, h1, h2, h3, h4, h5, h6, h7, h8⟩ := h
  refine ⟨(hf 0 0 (by decide)).trans h0, (hf 1 0 (by decide)).trans h1, (hf 2 0 (by decide)).trans h2, h3, fun k d hk => ?_, fun i hi => ?_, fun i hi => ?_, (hf 52 0 (by decide)).trans h7, h8⟩
  · obtain ⟨q0, q1, q2, q3, q4, q5, q6⟩ := h4 k d hk
    exact ⟨q0, (hf 10 k (by decide)).trans q1, (hf 11 k (by decide)).trans q2, (hf 12 k (by decide)).trans q3, (hf 13 k (by decide)).trans q4, (hf 14 k (by decide)).trans q5, q6.fr hf (by decide) (by decide)⟩
  · obtain ⟨q1, q2, q3, q4, q5⟩ := h5 i hi
    exact ⟨(hf 20 i (by decide)).trans q1, (hf 21 i (by decide)).trans q2, (hf 22 i (by decide)).trans q3, q4, fun z => (q5 z).fr hf (by decide) (by decide)⟩
  · exact ⟨(h6 i hi).1.fr hf (by decide) (by decide), (h6 i hi).2⟩
def ga_made (mk : Nat) (o : Int32) : Int32 := if o < 0 then 0 else if nI mk ≤ o then 0 else 1
theorem ga_made_1 {mk : Nat} {o : Int32} (hm : mk ≤ 12) (h : ¬ ga_made mk o = 0) : ∃ j : Nat, j < mk ∧ o = nI j := by
  unfold ga_made at h
  split at h
  · exact absurd rfl h
  · split at h
    · exact absurd rfl h
    · rename_i h1 h2
      rcases pk_ix o (n := mk) (by omega) with h3 | h3 | h3
      · exact absurd h3 h1
      · exact absurd h3 h2
      · exact h3
def ga_inst (mk : Nat) (td : Nat → TT) (o : Int32) : Int32 := if ga_made mk o = 0 then 0 else if tt_so (td o.toNatClampNeg) = 0 then 1 else 0
/-- the way of replacements -/
def ga_repl (td : Nat → TT) : Nat → Nat → Int32 → Nat
  | 0, o, _ => o
  | n + 1, o, z => if tt_rp (td o) = -1 then o else if ((z ||| ((1 : Int32) <<< (nI o &&& 31))) >>> (tt_rp (td o) &&& 31)) &&& 1 = 0 then ga_repl td n (tt_rp (td o)).toNatClampNeg (z ||| ((1 : Int32) <<< (nI o &&& 31))) else o
set_option maxHeartbeats 4000000 in
set_option maxRecDepth 100000 in
theorem k_G_isMade {l : Launch} {D : va_G} {ca : Nat → ClassId} {kS : Nat → Nat} {kT : Nat} {ad : pw_A} {C : pw_C} {cd : Nat → Option DT} {mk : Nat} {td : Nat → TT} (hG : gw_at ca kS kT ad C cd mk td) (o : Int32) : gc_Con l y_G_isMade c_G_isMade ({ frames := 0, cells := 0, slots := 0, locals := 0 }) D ca (z9_Z kS kT) [.ref (ad 0 0), .int o] ad C (pw_pi (fun r ad' C' => (ad' = ad ∧ C' = C) ∧ r = ga_made mk o)) 0 0 := by
  have hZ := z9_ok kS kT
  have hG0 := hG
  obtain ⟨g00, g10, g20, hmk, hDD, hTT, hKK⟩ := hG
  refine pw_ofW (cc := b_G_isMade) (maxL := 2) (ret := (some FieldType.boolean)) (by decide) rfl (Nat.le_of_ble_eq_true rfl) ?_
  intro p e s m args below meth c A ls hB hA hw hK hz hl
  obtain ⟨hx, hb, hr, hml, hts0, hlocks, hown, hnm⟩ := hB
  have hts := wd_hts hts0
  have hown : s.vm.findClass "GraphWriter" = some m.cls := hown
  have hl : lv_has ls 2 [(0, .ref (ad 0 0)), (1, .int o)] := hl
  have hz0 := hz
  obtain ⟨hz1, hz2, hz3, hk0, hk1, hk2, hk3, hk4, hk5, hk6, hk7, hao1, hao2, hnw⟩ := hz0
  refine lv_iload_n hx hb d_G_isMade_0 rfl (lv_at hl 1 rfl) ?_
  refine lv_if_lt (tgt := 16) hx hb d_G_isMade_1 (by decide) (fun c_1 => ?_) (fun c_1 => ?_)
  · skip
    refine lv_iconst (v := 0) hx hb d_G_isMade_16 (by decide) ?_
    exact pw_zret hx hb hr hlocks hw rfl ⟨⟨rfl, rfl⟩, (if_pos c_1).symm⟩ d_G_isMade_17
  · skip
    refine lv_iload_n hx hb d_G_isMade_4 rfl (lv_at hl 1 rfl) ?_
    refine lv_aload_n hx hb d_G_isMade_5 rfl (lv_at hl 0 rfl) ?_
    refine pw_get (Cn := "GraphWriter") (T := F_G) (N := 4) hx hb hts in_G hown hK hw 0 0 rfl g00 rfl 3 (by decide) (hts _ wd_143) (fun _ h9 => h9) rfl d_G_isMade_6 ?_
    refine lv_icmp_ge (tgt := 16) hx hb d_G_isMade_9 (by decide) (fun c_2 => ?_) (fun c_2 => ?_)
    · skip
      refine lv_iconst (v := 0) hx hb d_G_isMade_16 (by decide) ?_
      exact pw_zret hx hb hr hlocks hw rfl ⟨⟨rfl, rfl⟩, ((if_neg c_1).trans (if_pos c_2)).symm⟩ d_G_isMade_17
    · skip
      refine lv_iconst (v := 1) hx hb d_G_isMade_12 (by decide) ?_
      refine lv_goto (tgt := 17) hx hb d_G_isMade_13 (by decide) ?_
      exact pw_zret hx hb hr hlocks hw rfl ⟨⟨rfl, rfl⟩, ((if_neg c_1).trans (if_neg c_2)).symm⟩ d_G_isMade_17
set_option maxHeartbeats 4000000 in
set_option maxRecDepth 100000 in
theorem k_G_isInstance {l : Launch} {D : va_G} {ca : Nat → ClassId} {kS : Nat → Nat} {kT : Nat} {ad : pw_A} {C : pw_C} {cd : Nat → Option DT} {mk : Nat} {td : Nat → TT} (hG : gw_at ca kS kT ad C cd mk td) (o : Int32) : gc_Con l y_G_isInstance c_G_isInstance ({ frames := 1, cells := 0, slots := 0, locals := 21 }) D ca (z9_Z kS kT) [.ref (ad 0 0), .int o] ad C (pw_pi (fun r ad' C' => (ad' = ad ∧ C' = C) ∧ r = ga_inst mk td o)) 0 0 := by
  have hZ := z9_ok kS kT
  have hG0 := hG
  obtain ⟨g00, g10, g20, hmk, hDD, hTT, hKK⟩ := hG
  refine pw_ofW (cc := b_G_isInstance) (maxL := 2) (ret := (some FieldType.boolean)) (by decide) rfl (Nat.le_of_ble_eq_true rfl) ?_
  intro p e s m args below meth c A ls hB hA hw hK hz hl
  obtain ⟨hx, hb, hr, hml, hts0, hlocks, hown, hnm⟩ := hB
  have hts := wd_hts hts0
  have hown : s.vm.findClass "GraphWriter" = some m.cls := hown
  have hl : lv_has ls 2 [(0, .ref (ad 0 0)), (1, .int o)] := hl
  have hz0 := hz
  obtain ⟨hz1, hz2, hz3, hk0, hk1, hk2, hk3, hk4, hk5, hk6, hk7, hao1, hao2, hnw⟩ := hz0
  refine lv_aload_n hx hb d_G_isInstance_0 rfl (lv_at hl 0 rfl) ?_
  refine lv_iload_n hx hb d_G_isInstance_1 rfl (lv_at hl 1 rfl) ?_
  refine pw_calli (va_runV (As := [.int o]) (rest := []) ⟨hx, hb, hml, hown, hts0⟩ (k_G_isMade hG0 o _) (cwV 1 hts0 (wd_V wd_550 wd_547 wd_549 wd_7 wd_53) rfl rfl rfl (by decide +kernel) ⟨Nat.le_of_ble_eq_true rfl, Nat.le_of_ble_eq_true rfl⟩) (pw_preV hZ hw hA hK hz rfl g00 rfl) rfl rfl hl.1 rfl (lv_room (Nat.le_of_ble_eq_true rfl)) d_G_isInstance_2 ⟨Nat.le_of_ble_eq_true rfl, Nat.le_of_ble_eq_true rfl⟩) hw hA (fun r_3 ad_1 C_2 H locs hp hw => ?_)
  obtain ⟨⟨hae, hce⟩, hre⟩ := hp
  rw [hae, hce] at hw
  rw [hre]
  clear hae hce hre
  refine lv_if_eq (tgt := 24) hx hb d_G_isInstance_5 (by decide) (fun c_4 => ?_) (fun c_4 => ?_)
  · skip
    refine lv_iconst (v := 0) hx hb d_G_isInstance_24 (by decide) ?_
    exact pw_zret hx hb hr hlocks hw rfl ⟨⟨rfl, rfl⟩, (if_pos c_4).symm⟩ d_G_isInstance_25
  · skip
    refine lv_aload_n hx hb d_G_isInstance_8 rfl (lv_at hl 0 rfl) ?_
    refine pw_get (Cn := "GraphWriter") (T := F_G) (N := 4) hx hb hts in_G hown hK hw 0 0 rfl g00 rfl 1 (by decide) (hts _ wd_141) (fun _ h9 => h9) rfl d_G_isInstance_9 ?_
    refine lv_iload_n hx hb d_G_isInstance_12 rfl (lv_at hl 1 rfl) ?_
    obtain ⟨j, hj, hoj⟩ := ga_made_1 hmk c_4
    obtain ⟨p20, p21, p22, pn, pt⟩ := hTT j hj
    refine pw_aald hx hb hK hw 2 0 rfl 5 g20 rfl j hoj (by omega) (by omega) d_G_isInstance_13 ?_
    rw [gw_th hj]
    refine pw_get (Cn := "GraphWriter$Thing") (T := F_T) (N := 7) hx hb hts in_T hown hK hw 20 j rfl p20 rfl 0 (by decide) (hts _ wd_375) (fun _ h9 => h9) rfl d_G_isInstance_14 ?_
    refine lv_if_ne (tgt := 24) hx hb d_G_isInstance_17 (by decide) (fun c_5 => ?_) (fun c_5 => ?_)
    · skip
      refine lv_iconst (v := 0) hx hb d_G_isInstance_24 (by decide) ?_
      have e8 : o.toNatClampNeg = j := by rw [hoj]; exact nI_clamp (by omega)
      have e9 : ga_inst mk td o = 0 := by unfold ga_inst; rw [if_neg c_4, e8]; exact if_neg c_5
      exact pw_zret hx hb hr hlocks hw rfl ⟨⟨rfl, rfl⟩, e9.symm⟩ d_G_isInstance_25
    · skip
      refine lv_iconst (v := 1) hx hb d_G_isInstance_20 (by decide) ?_
      refine lv_goto (tgt := 25) hx hb d_G_isInstance_21 (by decide) ?_
      have e8 : o.toNatClampNeg = j := by rw [hoj]; exact nI_clamp (by omega)
      have e9 : ga_inst mk td o = 1 := by unfold ga_inst; rw [if_neg c_4, e8]; exact if_pos c_5
      exact pw_zret hx hb hr hlocks hw rfl ⟨⟨rfl, rfl⟩, e9.symm⟩ d_G_isInstance_25
set_option maxHeartbeats 4000000 in
set_option maxRecDepth 100000 in
theorem k_G_replaced {l : Launch} {D : va_G} {ca : Nat → ClassId} {kS : Nat → Nat} {kT : Nat} {ad : pw_A} {C : pw_C} {cd : Nat → Option DT} {mk : Nat} {td : Nat → TT} (hG : gw_at ca kS kT ad C cd mk td) {o : Nat} (ho : o < mk) (hrp : ∀ i, i < mk → tt_rp (td i) = -1 ∨ ∃ j, j < mk ∧ tt_rp (td i) = nI j) : gc_Con l y_G_replaced c_G_replaced ({ frames := 0, cells := 0, slots := 0, locals := 0 }) D ca (z9_Z kS kT) [.ref (ad 0 0), .int (nI o)] ad C (pw_pi (fun r ad' C' => (ad' = ad ∧ C' = C) ∧ r = nI (ga_repl td 12 o 0))) 0 0 := by
  have hZ := z9_ok kS kT
  have hG0 := hG
  obtain ⟨g00, g10, g20, hmk, hDD, hTT, hKK⟩ := hG
  refine pw_ofW (cc := b_G_replaced) (maxL := 6) (ret := (some FieldType.int)) (by decide) rfl (Nat.le_of_ble_eq_true rfl) ?_
  intro p e s m args below meth c A ls hB hA hw hK hz hl
  obtain ⟨hx, hb, hr, hml, hts0, hlocks, hown, hnm⟩ := hB
  have hts := wd_hts hts0
  have hown : s.vm.findClass "GraphWriter" = some m.cls := hown
  have hl : lv_has ls 6 [(0, .ref (ad 0 0)), (1, .int (nI o))] := hl
  have hz0 := hz
  obtain ⟨hz1, hz2, hz3, hk0, hk1, hk2, hk3, hk4, hk5, hk6, hk7, hao1, hao2, hnw⟩ := hz0
  have key : ∀ (r k q : Nat) (z : Int32) (lv : List (Nat × Value)) (ls : Array Slot), k + r = 12 → q < mk → ga_repl td r q z = ga_repl td 12 o 0 → lv_has ls 6 ([(4, .int (nI k)), (3, .int z), (2, .int (nI q)), (0, .ref (ad 0 0))] ++ lv) → W p l e ({ frames := 0, cells := 0, slots := 0, locals := 0 }) s m args below meth c s.heap [] 0 0 (MQ below (pw_Q D cls9 ad C (pw_pi (fun r ad' C' => (ad' = ad ∧ C' = C) ∧ r = nI (ga_repl td 12 o 0))) A) args s 0 0 A) (F0 m 7 ls []) := by
    intro r
    induction r with
    | zero =>
      intro k q z lv ls hk hq hga hl
      have hl : lv_has ls 6 [(4, .int (nI k)), (3, .int z), (2, .int (nI q)), (0, .ref (ad 0 0))] := ⟨hl.1, hl.2.1, fun a h => hl.2.2 a (List.mem_append_left _ h)⟩
      refine lv_iload hx hb d_G_replaced_7 (lv_at hl 0 rfl) ?_
      refine lv_bipush (v := 12) hx hb d_G_replaced_9 (by decide) ?_
      refine lv_icmp_ge (tgt := 58) hx hb d_G_replaced_11 (by decide) (fun c_1 => ?_) (fun c_1 => ?_)
      · skip
        refine lv_iload_n hx hb d_G_replaced_58 rfl (lv_at hl 2 rfl) ?_
        have e9 : q = ga_repl td 12 o 0 := hga
        exact pw_iret hx hb hr hlocks hw ⟨⟨rfl, rfl⟩, by rw [← e9]⟩ d_G_replaced_59
      · exact absurd (by rw [show k = 12 by omega]; decide) c_1
    | succ r ih =>
      intro k q z lv ls hk hq hga hl
      have hl : lv_has ls 6 [(4, .int (nI k)), (3, .int z), (2, .int (nI q)), (0, .ref (ad 0 0))] := ⟨hl.1, hl.2.1, fun a h => hl.2.2 a (List.mem_append_left _ h)⟩
      refine lv_iload hx hb d_G_replaced_7 (lv_at hl 0 rfl) ?_
      refine lv_bipush (v := 12) hx hb d_G_replaced_9 (by decide) ?_
      refine lv_icmp_ge (tgt := 58) hx hb d_G_replaced_11 (by decide) (fun c_2 => ?_) (fun c_2 => ?_)
      · exact absurd c_2 (nI_ge (show k < 12 by omega) (by decide))
      · skip
        refine lv_iload_n hx hb d_G_replaced_14 rfl (lv_at hl 1 rfl) ?_
        refine lv_iconst (v := 1) hx hb d_G_replaced_15 (by decide) ?_
        refine lv_iload_n hx hb d_G_replaced_16 rfl (lv_at hl 2 rfl) ?_
        refine lv_ishl hx hb d_G_replaced_17 ?_
        refine lv_ior hx hb d_G_replaced_18 ?_
        refine lv_istore_n (lv' := [(3, .int (z ||| (1 <<< ((nI q) &&& 31)))), (4, .int (nI k)), (2, .int (nI q)), (0, .ref (ad 0 0))]) hx hb d_G_replaced_19 rfl hl (by decide) rfl (fun ls hl => ?_)
        refine lv_aload_n hx hb d_G_replaced_20 rfl (lv_at hl 3 rfl) ?_
        refine pw_get (Cn := "GraphWriter") (T := F_G) (N := 4) hx hb hts in_G hown hK hw 0 0 rfl g00 rfl 1 (by decide) (hts _ wd_141) (fun _ h9 => h9) rfl d_G_replaced_21 ?_
        refine lv_iload_n hx hb d_G_replaced_24 rfl (lv_at hl 2 rfl) ?_
        obtain ⟨p20, p21, p22, pn, pt⟩ := hTT q hq
        refine pw_aald hx hb hK hw 2 0 rfl 5 g20 rfl q rfl (by omega) (by omega) d_G_replaced_25 ?_
        rw [gw_th hq]
        refine pw_get (Cn := "GraphWriter$Thing") (T := F_T) (N := 7) hx hb hts in_T hown hK hw 20 q rfl p20 rfl 5 (by decide) (hts _ wd_385) (fun _ h9 => h9) rfl d_G_replaced_26 ?_
        refine lv_istore (lv' := [(5, .int (tt_rp (td q))), (3, .int (z ||| (1 <<< ((nI q) &&& 31)))), (4, .int (nI k)), (2, .int (nI q)), (0, .ref (ad 0 0))]) hx hb d_G_replaced_29 hl (by decide) rfl (fun ls hl => ?_)
        refine lv_iload hx hb d_G_replaced_31 (lv_at hl 0 rfl) ?_
        refine lv_iconst (v := (-1)) hx hb d_G_replaced_33 (by decide) ?_
        refine lv_icmp_eq (tgt := 58) hx hb d_G_replaced_34 (by decide) (fun c_3 => ?_) (fun c_3 => ?_)
        · skip
          refine lv_iload_n hx hb d_G_replaced_58 rfl (lv_at hl 3 rfl) ?_
          have e9 : q = ga_repl td 12 o 0 := by rw [← hga, ga_repl]; rw [if_pos c_3]
          exact pw_iret hx hb hr hlocks hw ⟨⟨rfl, rfl⟩, by rw [← e9]⟩ d_G_replaced_59
        · skip
          refine lv_iload_n hx hb d_G_replaced_37 rfl (lv_at hl 1 rfl) ?_
          refine lv_iload hx hb d_G_replaced_38 (lv_at hl 0 rfl) ?_
          refine lv_ishr hx hb d_G_replaced_40 ?_
          refine lv_iconst (v := 1) hx hb d_G_replaced_41 (by decide) ?_
          refine lv_iand hx hb d_G_replaced_42 ?_
          refine lv_if_eq (tgt := 49) hx hb d_G_replaced_43 (by decide) (fun c_4 => ?_) (fun c_4 => ?_)
          · skip
            refine lv_iload hx hb d_G_replaced_49 (lv_at hl 0 rfl) ?_
            refine lv_istore_n (lv' := [(2, .int (tt_rp (td q))), (5, .int (tt_rp (td q))), (3, .int (z ||| (1 <<< ((nI q) &&& 31)))), (4, .int (nI k)), (0, .ref (ad 0 0))]) hx hb d_G_replaced_51 rfl hl (by decide) rfl (fun ls hl => ?_)
            refine lv_iinc (v := (nI k) + 1) (lv' := [(4, .int ((nI k) + 1)), (2, .int (tt_rp (td q))), (5, .int (tt_rp (td q))), (3, .int (z ||| (1 <<< ((nI q) &&& 31)))), (0, .ref (ad 0 0))]) hx hb d_G_replaced_52 hl (k := 3) rfl rfl (by decide) rfl (fun ls hl => ?_)
            refine lv_goto (tgt := 7) hx hb d_G_replaced_55 (by decide) ?_
            rcases hrp q hq with h9 | ⟨j, hj, h9⟩
            · exact absurd h9 c_3
            · rw [h9] at hl; rw [nI_1] at hl
              refine ih (k + 1) j _ [(5, .int (nI j))] _ (by omega) hj ?_ (lv_sub hl [0, 3, 1, 4, 2] rfl)
              rw [← hga]; conv => rhs; rw [ga_repl]
              rw [if_neg c_3, if_pos c_4, h9, nI_clamp (by omega)]
          · skip
            refine lv_goto (tgt := 58) hx hb d_G_replaced_46 (by decide) ?_
            refine lv_iload_n hx hb d_G_replaced_58 rfl (lv_at hl 3 rfl) ?_
            have e9 : q = ga_repl td 12 o 0 := by rw [← hga, ga_repl]; rw [if_neg c_3, if_neg c_4]
            exact pw_iret hx hb hr hlocks hw ⟨⟨rfl, rfl⟩, by rw [← e9]⟩ d_G_replaced_59
  refine lv_iload_n hx hb d_G_replaced_0 rfl (lv_at hl 1 rfl) ?_
  refine lv_istore_n (lv' := [(2, .int (nI o)), (0, .ref (ad 0 0)), (1, .int (nI o))]) hx hb d_G_replaced_1 rfl hl (by decide) rfl (fun ls hl => ?_)
  refine lv_iconst (v := 0) hx hb d_G_replaced_2 (by decide) ?_
  refine lv_istore_n (lv' := [(3, .int 0), (2, .int (nI o)), (0, .ref (ad 0 0)), (1, .int (nI o))]) hx hb d_G_replaced_3 rfl hl (by decide) rfl (fun ls hl => ?_)
  refine lv_iconst (v := 0) hx hb d_G_replaced_4 (by decide) ?_
  refine lv_istore (lv' := [(4, .int 0), (3, .int 0), (2, .int (nI o)), (0, .ref (ad 0 0)), (1, .int (nI o))]) hx hb d_G_replaced_5 hl (by decide) rfl (fun ls hl => ?_)
  exact key 12 0 o 0 _ _ rfl ho rfl (lv_sub hl [0, 1, 2, 3, 4] rfl)
