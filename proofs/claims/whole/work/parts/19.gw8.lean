def ga_isdef (cd : Nat → Option DT) (k : Int32) : Int32 := if k < 0 then 0 else if 6 ≤ k then 0 else if (cd k.toNatClampNeg).isSome then 1 else 0
theorem ga_ix {k : Int32} {n : Nat} (hn : n < 2 ^ 31) (h1 : ¬ k < 0) (h2 : ¬ nI n ≤ k) : ∃ j : Nat, j < n ∧ k = nI j := by
  rcases pk_ix k hn with h3 | h3 | h3
  · exact absurd h3 h1
  · exact absurd h3 h2
  · exact h3
theorem ga_isdef_1 {cd : Nat → Option DT} {k : Int32} (h : ¬ ga_isdef cd k = 0) : ∃ j d, j < 6 ∧ k = nI j ∧ cd j = some d := by
  unfold ga_isdef at h
  split at h
  · exact absurd rfl h
  · split at h
    · exact absurd rfl h
    · rename_i h1 h2
      obtain ⟨j, hj, hk⟩ := ga_ix (n := 6) (by decide) h1 h2
      have e : k.toNatClampNeg = j := by rw [hk]; exact nI_clamp (by omega)
      rw [e] at h
      cases hc : cd j with
      | none => rw [hc] at h; exact absurd rfl h
      | some d => exact ⟨j, d, hj, hk, hc⟩
def ga_above (cd : Nat → Option DT) (sp kd : Int32) : Int32 := if ga_isdef cd sp = 0 then 0 else match cd sp.toNatClampNeg with
  | none => 0
  | some d => if 2 < dd_kd d then 0 else if 2 < kd then 0 else if kd = 0 then (if dd_kd d = 0 then 1 else 0) else 1
def ga_dcl (cd : Nat → Option DT) : Nat → Int32 → Int32
  | 0, z => z
  | r + 1, z => ga_dcl cd r (if (cd (5 - r)).isSome then z + ((1 : Int32) <<< (nI (5 - r) &&& 31)) else z)
def ga_count (cd : Nat → Option DT) (mk : Nat) (x : ES) (q : List Int32) (k : Int32) : Int32 := if k = 0 then nI x.1.length else if k = 1 then nI q.length else if k = 2 then x.2.2.2 else if k = 3 then nI mk else if k = 4 then ga_dcl cd 6 0 else -1
def ga_object (mk : Nat) (td : Nat → TT) (o k : Int32) : Int32 := if ga_made mk o = 0 then -1 else if k = 0 then tt_so (td o.toNatClampNeg) else if k = 1 then tt_ow (td o.toNatClampNeg) else if k = 2 then (if tt_so (td o.toNatClampNeg) = 1 then nI (tt_tx (td o.toNatClampNeg)).length else nI (tt_n (td o.toNatClampNeg))) else -1
def ga_held (mk : Nat) (td : Nat → TT) (v : Int64) (ty : Int32) : Int32 := if v = -1 then 1 else if v < 0 then 0 else if lN mk ≤ v then 0 else if ty = 7 then 1 else if tt_so (td v.toInt32.toNatClampNeg) = 2 then 1 else 0
set_option maxHeartbeats 4000000 in
set_option maxRecDepth 100000 in
theorem k_G_isDefined {l : Launch} {D : va_G} {ca : Nat → ClassId} {kS : Nat → Nat} {kT : Nat} {ad : pw_A} {C : pw_C} {cd : Nat → Option DT} {mk : Nat} {td : Nat → TT} (hG : gw_at ca kS kT ad C cd mk td) (k : Int32) : gc_Con l y_G_isDefined c_G_isDefined ({ frames := 0, cells := 0, slots := 0, locals := 0 }) D ca (z9_Z kS kT) [.ref (ad 0 0), .int k] ad C (pw_pi (fun r ad' C' => (ad' = ad ∧ C' = C) ∧ r = ga_isdef cd k)) 0 0 := by
  have hZ := z9_ok kS kT
  have hG0 := hG
  obtain ⟨g00, g10, g20, hmk, hDD, hTT, hKK⟩ := hG
  refine pw_ofW (cc := b_G_isDefined) (maxL := 2) (ret := (some FieldType.boolean)) (by decide) rfl (Nat.le_of_ble_eq_true rfl) ?_
  intro p e s m args below meth c A ls hB hA hw hK hz hl
  obtain ⟨hx, hb, hr, hml, hts0, hlocks, hown, hnm⟩ := hB
  have hts := wd_hts hts0
  have hown : s.vm.findClass "GraphWriter" = some m.cls := hown
  have hl : lv_has ls 2 [(0, .ref (ad 0 0)), (1, .int k)] := hl
  have hz0 := hz
  obtain ⟨hz1, hz2, hz3, hk0, hk1, hk2, hk3, hk4, hk5, hk6, hk7, hao1, hao2, hnw⟩ := hz0
  refine lv_iload_n hx hb d_G_isDefined_0 rfl (lv_at hl 1 rfl) ?_
  refine lv_if_lt (tgt := 23) hx hb d_G_isDefined_1 (by decide) (fun c_1 => ?_) (fun c_1 => ?_)
  · skip
    refine lv_iconst (v := 0) hx hb d_G_isDefined_23 (by decide) ?_
    exact pw_zret hx hb hr hlocks hw rfl ⟨⟨rfl, rfl⟩, (if_pos c_1).symm⟩ d_G_isDefined_24
  · skip
    refine lv_iload_n hx hb d_G_isDefined_4 rfl (lv_at hl 1 rfl) ?_
    refine lv_bipush (v := 6) hx hb d_G_isDefined_5 (by decide) ?_
    refine lv_icmp_ge (tgt := 23) hx hb d_G_isDefined_7 (by decide) (fun c_2 => ?_) (fun c_2 => ?_)
    · skip
      refine lv_iconst (v := 0) hx hb d_G_isDefined_23 (by decide) ?_
      exact pw_zret hx hb hr hlocks hw rfl ⟨⟨rfl, rfl⟩, ((if_neg c_1).trans (if_pos c_2)).symm⟩ d_G_isDefined_24
    · skip
      refine lv_aload_n hx hb d_G_isDefined_10 rfl (lv_at hl 0 rfl) ?_
      refine pw_get (Cn := "GraphWriter") (T := F_G) (N := 4) hx hb hts in_G hown hK hw 0 0 rfl g00 rfl 0 (by decide) (hts _ wd_140) (fun _ h9 => h9) rfl d_G_isDefined_11 ?_
      refine lv_iload_n hx hb d_G_isDefined_14 rfl (lv_at hl 1 rfl) ?_
      obtain ⟨j, hj, hkj⟩ := ga_ix (n := 6) (by decide) c_1 c_2
      have e8 : k.toNatClampNeg = j := by rw [hkj]; exact nI_clamp (by omega)
      refine pw_aald hx hb hK hw 1 0 rfl 4 g10 rfl j hkj (by omega) (by omega) d_G_isDefined_15 ?_
      cases hcd : cd j with
      | none =>
        rw [gw_cn hcd]
        refine lv_ifnullN (tgt := 23) hx hb d_G_isDefined_16 (by decide) ?_
        refine lv_iconst (v := 0) hx hb d_G_isDefined_23 (by decide) ?_
        exact pw_zret hx hb hr hlocks hw rfl ⟨⟨rfl, rfl⟩, by unfold ga_isdef; rw [if_neg c_1, if_neg c_2, e8, hcd]; rfl⟩ d_G_isDefined_24
      | some d =>
        rw [gw_cl hcd]
        refine lv_ifnull hx hb d_G_isDefined_16 ?_
        refine lv_iconst (v := 1) hx hb d_G_isDefined_19 (by decide) ?_
        refine lv_goto (tgt := 24) hx hb d_G_isDefined_20 (by decide) ?_
        exact pw_zret hx hb hr hlocks hw rfl ⟨⟨rfl, rfl⟩, by unfold ga_isdef; rw [if_neg c_1, if_neg c_2, e8, hcd]; rfl⟩ d_G_isDefined_24
set_option maxHeartbeats 4000000 in
set_option maxRecDepth 100000 in
theorem k_G_definedClasses {l : Launch} {D : va_G} {ca : Nat → ClassId} {kS : Nat → Nat} {kT : Nat} {ad : pw_A} {C : pw_C} {cd : Nat → Option DT} {mk : Nat} {td : Nat → TT} (hG : gw_at ca kS kT ad C cd mk td) : gc_Con l y_G_definedClasses c_G_definedClasses ({ frames := 0, cells := 0, slots := 0, locals := 0 }) D ca (z9_Z kS kT) [.ref (ad 0 0)] ad C (pw_pi (fun r ad' C' => (ad' = ad ∧ C' = C) ∧ r = ga_dcl cd 6 0)) 0 0 := by
  have hZ := z9_ok kS kT
  have hG0 := hG
  obtain ⟨g00, g10, g20, hmk, hDD, hTT, hKK⟩ := hG
  refine pw_ofW (cc := b_G_definedClasses) (maxL := 3) (ret := (some FieldType.int)) (by decide) rfl (Nat.le_of_ble_eq_true rfl) ?_
  intro p e s m args below meth c A ls hB hA hw hK hz hl
  obtain ⟨hx, hb, hr, hml, hts0, hlocks, hown, hnm⟩ := hB
  have hts := wd_hts hts0
  have hown : s.vm.findClass "GraphWriter" = some m.cls := hown
  have hl : lv_has ls 3 [(0, .ref (ad 0 0))] := hl
  have hz0 := hz
  obtain ⟨hz1, hz2, hz3, hk0, hk1, hk2, hk3, hk4, hk5, hk6, hk7, hao1, hao2, hnw⟩ := hz0
  have key : ∀ (r : Nat) (z : Int32) (ls : Array Slot), r ≤ 6 → ga_dcl cd r z = ga_dcl cd 6 0 → lv_has ls 3 [(2, .int (nI (6 - r))), (1, .int z), (0, .ref (ad 0 0))] → W p l e ({ frames := 0, cells := 0, slots := 0, locals := 0 }) s m args below meth c s.heap [] 0 0 (MQ below (pw_Q D cls9 ad C (pw_pi (fun r ad' C' => (ad' = ad ∧ C' = C) ∧ r = ga_dcl cd 6 0)) A) args s 0 0 A) (F0 m 4 ls []) := by
    intro r
    induction r with
    | zero =>
      intro z ls hr9 hga hl
      refine lv_iload_n hx hb d_G_definedClasses_4 rfl (lv_at hl 0 rfl) ?_
      refine lv_bipush (v := 6) hx hb d_G_definedClasses_5 (by decide) ?_
      refine lv_icmp_ge (tgt := 31) hx hb d_G_definedClasses_7 (by decide) (fun c_1 => ?_) (fun c_1 => ?_)
      · skip
        refine lv_iload_n hx hb d_G_definedClasses_31 rfl (lv_at hl 1 rfl) ?_
        exact pw_iret hx hb hr hlocks hw ⟨⟨rfl, rfl⟩, hga⟩ d_G_definedClasses_32
      · exact absurd (by decide) c_1
    | succ r ih =>
      intro z ls hr9 hga hl
      rw [show 6 - (r + 1) = 5 - r by omega] at hl
      refine lv_iload_n hx hb d_G_definedClasses_4 rfl (lv_at hl 0 rfl) ?_
      refine lv_bipush (v := 6) hx hb d_G_definedClasses_5 (by decide) ?_
      refine lv_icmp_ge (tgt := 31) hx hb d_G_definedClasses_7 (by decide) (fun c_2 => ?_) (fun c_2 => ?_)
      · exact absurd c_2 (nI_ge (show 5 - r < 6 by omega) (by decide))
      · skip
        refine lv_aload_n hx hb d_G_definedClasses_10 rfl (lv_at hl 2 rfl) ?_
        refine pw_get (Cn := "GraphWriter") (T := F_G) (N := 4) hx hb hts in_G hown hK hw 0 0 rfl g00 rfl 0 (by decide) (hts _ wd_140) (fun _ h9 => h9) rfl d_G_definedClasses_11 ?_
        refine lv_iload_n hx hb d_G_definedClasses_14 rfl (lv_at hl 0 rfl) ?_
        refine pw_aald hx hb hK hw 1 0 rfl 4 g10 rfl (5 - r) rfl (by omega) (by omega) d_G_definedClasses_15 ?_
        cases hcd : cd (5 - r) with
        | none =>
          rw [gw_cn hcd]
          refine lv_ifnullN (tgt := 25) hx hb d_G_definedClasses_16 (by decide) ?_
          refine lv_iinc (v := (nI (5 - r)) + 1) (lv' := [(2, .int ((nI (5 - r)) + 1)), (1, .int z), (0, .ref (ad 0 0))]) hx hb d_G_definedClasses_25 hl (k := 0) rfl rfl (by decide) rfl (fun ls hl => ?_)
          refine lv_goto (tgt := 4) hx hb d_G_definedClasses_28 (by decide) ?_
          rw [nI_1, show 5 - r + 1 = 6 - r by omega] at hl
          exact ih _ _ (by omega) (by rw [← hga]; show _ = ga_dcl cd r _; rw [hcd]; rfl) (lv_sub hl [0, 1, 2] rfl)
        | some d =>
          rw [gw_cl hcd]
          refine lv_ifnull hx hb d_G_definedClasses_16 ?_
          refine lv_iload_n hx hb d_G_definedClasses_19 rfl (lv_at hl 1 rfl) ?_
          refine lv_iconst (v := 1) hx hb d_G_definedClasses_20 (by decide) ?_
          refine lv_iload_n hx hb d_G_definedClasses_21 rfl (lv_at hl 0 rfl) ?_
          refine lv_ishl hx hb d_G_definedClasses_22 ?_
          refine lv_iadd hx hb d_G_definedClasses_23 ?_
          refine lv_istore_n (lv' := [(1, .int (z + (1 <<< ((nI (5 - r)) &&& 31)))), (2, .int (nI (5 - r))), (0, .ref (ad 0 0))]) hx hb d_G_definedClasses_24 rfl hl (by decide) rfl (fun ls hl => ?_)
          refine lv_iinc (v := (nI (5 - r)) + 1) (lv' := [(2, .int ((nI (5 - r)) + 1)), (1, .int (z + (1 <<< ((nI (5 - r)) &&& 31)))), (0, .ref (ad 0 0))]) hx hb d_G_definedClasses_25 hl (k := 1) rfl rfl (by decide) rfl (fun ls hl => ?_)
          refine lv_goto (tgt := 4) hx hb d_G_definedClasses_28 (by decide) ?_
          rw [nI_1, show 5 - r + 1 = 6 - r by omega] at hl
          exact ih _ _ (by omega) (by rw [← hga]; show _ = ga_dcl cd r _; rw [hcd]; rfl) (lv_sub hl [0, 1, 2] rfl)
  refine lv_iconst (v := 0) hx hb d_G_definedClasses_0 (by decide) ?_
  refine lv_istore_n (lv' := [(1, .int 0), (0, .ref (ad 0 0))]) hx hb d_G_definedClasses_1 rfl hl (by decide) rfl (fun ls hl => ?_)
  refine lv_iconst (v := 0) hx hb d_G_definedClasses_2 (by decide) ?_
  refine lv_istore_n (lv' := [(2, .int 0), (1, .int 0), (0, .ref (ad 0 0))]) hx hb d_G_definedClasses_3 rfl hl (by decide) rfl (fun ls hl => ?_)
  exact key 6 0 _ (Nat.le_refl _) rfl hl
set_option maxHeartbeats 4000000 in
set_option maxRecDepth 100000 in
theorem k_G_mayStandAbove {l : Launch} {D : va_G} {ca : Nat → ClassId} {kS : Nat → Nat} {kT : Nat} {ad : pw_A} {C : pw_C} {cd : Nat → Option DT} {mk : Nat} {td : Nat → TT} (hG : gw_at ca kS kT ad C cd mk td) (sp kd : Int32) : gc_Con l y_G_mayStandAbove c_G_mayStandAbove ({ frames := 1, cells := 0, slots := 0, locals := 21 }) D ca (z9_Z kS kT) [.ref (ad 0 0), .int sp, .int kd] ad C (pw_pi (fun r ad' C' => (ad' = ad ∧ C' = C) ∧ r = ga_above cd sp kd)) 0 0 := by
  have hZ := z9_ok kS kT
  have hG0 := hG
  obtain ⟨g00, g10, g20, hmk, hDD, hTT, hKK⟩ := hG
  refine pw_ofW (cc := b_G_mayStandAbove) (maxL := 4) (ret := (some FieldType.boolean)) (by decide) rfl (Nat.le_of_ble_eq_true rfl) ?_
  intro p e s m args below meth c A ls hB hA hw hK hz hl
  obtain ⟨hx, hb, hr, hml, hts0, hlocks, hown, hnm⟩ := hB
  have hts := wd_hts hts0
  have hown : s.vm.findClass "GraphWriter" = some m.cls := hown
  have hl : lv_has ls 4 [(0, .ref (ad 0 0)), (1, .int sp), (2, .int kd)] := hl
  have hz0 := hz
  obtain ⟨hz1, hz2, hz3, hk0, hk1, hk2, hk3, hk4, hk5, hk6, hk7, hao1, hao2, hnw⟩ := hz0
  refine lv_aload_n hx hb d_G_mayStandAbove_0 rfl (lv_at hl 0 rfl) ?_
  refine lv_iload_n hx hb d_G_mayStandAbove_1 rfl (lv_at hl 1 rfl) ?_
  refine pw_calli (va_runV (As := [.int sp]) (rest := []) ⟨hx, hb, hml, hown, hts0⟩ (k_G_isDefined hG0 sp _) (cwV 1 hts0 (wd_V wd_164 wd_161 wd_163 wd_1 wd_53) rfl rfl rfl (by decide +kernel) ⟨Nat.le_of_ble_eq_true rfl, Nat.le_of_ble_eq_true rfl⟩) (pw_preV hZ hw hA hK hz rfl g00 rfl) rfl rfl hl.1 rfl (lv_room (Nat.le_of_ble_eq_true rfl)) d_G_mayStandAbove_2 ⟨Nat.le_of_ble_eq_true rfl, Nat.le_of_ble_eq_true rfl⟩) hw hA (fun r_3 ad_1 C_2 H locs hp hw => ?_)
  obtain ⟨⟨hae, hce⟩, hre⟩ := hp
  rw [hae, hce] at hw
  rw [hre]
  clear hae hce hre
  refine lv_if_ne (tgt := 10) hx hb d_G_mayStandAbove_5 (by decide) (fun c_4 => ?_) (fun c_4 => ?_)
  · skip
    refine lv_aload_n hx hb d_G_mayStandAbove_10 rfl (lv_at hl 0 rfl) ?_
    refine pw_get (Cn := "GraphWriter") (T := F_G) (N := 4) hx hb hts in_G hown hK hw 0 0 rfl g00 rfl 0 (by decide) (hts _ wd_140) (fun _ h9 => h9) rfl d_G_mayStandAbove_11 ?_
    refine lv_iload_n hx hb d_G_mayStandAbove_14 rfl (lv_at hl 1 rfl) ?_
    obtain ⟨j, d, hj, hkj, hcd⟩ := ga_isdef_1 c_4
    have e8 : sp.toNatClampNeg = j := by rw [hkj]; exact nI_clamp (by omega)
    refine pw_aald hx hb hK hw 1 0 rfl 4 g10 rfl j hkj (by omega) (by omega) d_G_mayStandAbove_15 ?_
    rw [gw_cl hcd]
    obtain ⟨q06, q10, q11, q12, q13, q14, qst⟩ := hDD j d hcd
    refine pw_get (Cn := "GraphWriter$Defined") (T := F_D) (N := 11) hx hb hts in_D hown hK hw 10 j rfl q10 rfl 1 (by decide) (hts _ wd_297) (fun _ h9 => h9) rfl d_G_mayStandAbove_16 ?_
    refine lv_istore_n (lv' := [(3, .int (dd_kd d)), (0, .ref (ad 0 0)), (1, .int sp), (2, .int kd)]) hx hb d_G_mayStandAbove_19 rfl hl (by decide) rfl (fun ls hl => ?_)
    refine lv_iload_n hx hb d_G_mayStandAbove_20 rfl (lv_at hl 0 rfl) ?_
    refine lv_iconst (v := 2) hx hb d_G_mayStandAbove_21 (by decide) ?_
    refine lv_icmp_gt (tgt := 30) hx hb d_G_mayStandAbove_22 (by decide) (fun c_5 => ?_) (fun c_5 => ?_)
    · skip
      refine lv_iconst (v := 0) hx hb d_G_mayStandAbove_30 (by decide) ?_
      have e9 : ga_above cd sp kd = 0 := by
        unfold ga_above; rw [if_neg c_4, e8]; simp only [hcd]
        rw [if_pos c_5]
      exact pw_zret hx hb hr hlocks hw rfl ⟨⟨rfl, rfl⟩, e9.symm⟩ d_G_mayStandAbove_31
    · skip
      refine lv_iload_n hx hb d_G_mayStandAbove_25 rfl (lv_at hl 3 rfl) ?_
      refine lv_iconst (v := 2) hx hb d_G_mayStandAbove_26 (by decide) ?_
      refine lv_icmp_le (tgt := 32) hx hb d_G_mayStandAbove_27 (by decide) (fun c_6 => ?_) (fun c_6 => ?_)
      · skip
        refine lv_iload_n hx hb d_G_mayStandAbove_32 rfl (lv_at hl 3 rfl) ?_
        refine lv_if_ne (tgt := 40) hx hb d_G_mayStandAbove_33 (by decide) (fun c_7 => ?_) (fun c_7 => ?_)
        · skip
          refine lv_iconst (v := 1) hx hb d_G_mayStandAbove_40 (by decide) ?_
          refine lv_goto (tgt := 45) hx hb d_G_mayStandAbove_41 (by decide) ?_
          have e9 : ga_above cd sp kd = 1 := by
            unfold ga_above; rw [if_neg c_4, e8]; simp only [hcd]
            rw [if_neg c_5, if_neg (Int32.not_lt.mpr c_6), if_neg c_7]
          exact pw_zret hx hb hr hlocks hw rfl ⟨⟨rfl, rfl⟩, e9.symm⟩ d_G_mayStandAbove_45
        · skip
          refine lv_iload_n hx hb d_G_mayStandAbove_36 rfl (lv_at hl 0 rfl) ?_
          refine lv_if_ne (tgt := 44) hx hb d_G_mayStandAbove_37 (by decide) (fun c_8 => ?_) (fun c_8 => ?_)
          · skip
            refine lv_iconst (v := 0) hx hb d_G_mayStandAbove_44 (by decide) ?_
            have e9 : ga_above cd sp kd = 0 := by
              unfold ga_above; rw [if_neg c_4, e8]; simp only [hcd]
              rw [if_neg c_5, if_neg (Int32.not_lt.mpr c_6), if_pos c_7, if_neg c_8]
            exact pw_zret hx hb hr hlocks hw rfl ⟨⟨rfl, rfl⟩, e9.symm⟩ d_G_mayStandAbove_45
          · skip
            refine lv_iconst (v := 1) hx hb d_G_mayStandAbove_40 (by decide) ?_
            refine lv_goto (tgt := 45) hx hb d_G_mayStandAbove_41 (by decide) ?_
            have e9 : ga_above cd sp kd = 1 := by
              unfold ga_above; rw [if_neg c_4, e8]; simp only [hcd]
              rw [if_neg c_5, if_neg (Int32.not_lt.mpr c_6), if_pos c_7, if_pos c_8]
            exact pw_zret hx hb hr hlocks hw rfl ⟨⟨rfl, rfl⟩, e9.symm⟩ d_G_mayStandAbove_45
      · skip
        refine lv_iconst (v := 0) hx hb d_G_mayStandAbove_30 (by decide) ?_
        have e9 : ga_above cd sp kd = 0 := by
          unfold ga_above; rw [if_neg c_4, e8]; simp only [hcd]
          rw [if_neg c_5, if_pos (Int32.not_le.mp c_6)]
        exact pw_zret hx hb hr hlocks hw rfl ⟨⟨rfl, rfl⟩, e9.symm⟩ d_G_mayStandAbove_31
  · skip
    refine lv_iconst (v := 0) hx hb d_G_mayStandAbove_8 (by decide) ?_
    exact pw_zret hx hb hr hlocks hw rfl ⟨⟨rfl, rfl⟩, (if_pos c_4).symm⟩ d_G_mayStandAbove_9
theorem ga_sel {k : Int32} (n : Nat) (hn : n < 2 ^ 31) : (k.toInt < 0 ∨ (n : Int) < k.toInt) ∨ ∃ j : Nat, j ≤ n ∧ k = nI j := by
  by_cases h : k.toInt < 0
  · exact Or.inl (Or.inl h)
  · by_cases h2 : (n : Int) < k.toInt
    · exact Or.inl (Or.inr h2)
    · refine Or.inr ⟨k.toInt.toNat, by omega, ?_⟩
      apply Int32.toInt_inj.mp
      rw [nI_toInt (by omega)]
      omega
theorem ga_selne {k : Int32} {n : Nat} (h : k.toInt < 0 ∨ (n : Int) < k.toInt) (j : Nat) (hj : j ≤ n) (hn : n < 2 ^ 31) : ¬ k = nI j := by
  rintro rfl
  rw [nI_toInt (by omega)] at h
  omega
set_option maxHeartbeats 4000000 in
set_option maxRecDepth 100000 in
theorem k_G_count {l : Launch} {D : va_G} {ca : Nat → ClassId} {kS : Nat → Nat} {kT : Nat} {ad : pw_A} {C : pw_C} {cd : Nat → Option DT} {mk : Nat} {td : Nat → TT} (hG : gw_at ca kS kT ad C cd mk td) {x : ES} {q : List Int32} {sn : SN} (hO : os_x ca ad C x q q.length sn) (k : Int32) : gc_Con l y_G_count c_G_count ({ frames := 1, cells := 0, slots := 0, locals := 22 }) D ca (z9_Z kS kT) [.ref (ad 0 0), .int k] ad C (pw_pi (fun r ad' C' => (ad' = ad ∧ C' = C) ∧ r = ga_count cd mk x q k)) 0 0 := by
  have hZ := z9_ok kS kT
  have hG0 := hG
  obtain ⟨g00, g10, g20, hmk, hDD, hTT, hKK⟩ := hG
  have hO0 := hO
  obtain ⟨by0, wt, h30, h40, h50, h60, h70, hlen, hby, hwn, hw0, hwt⟩ := hO
  refine pw_ofW (cc := b_G_count) (maxL := 2) (ret := (some FieldType.int)) (by decide) rfl (Nat.le_of_ble_eq_true rfl) ?_
  intro p e s m args below meth c A ls hB hA hw hK hz hl
  obtain ⟨hx, hb, hr, hml, hts0, hlocks, hown, hnm⟩ := hB
  have hts := wd_hts hts0
  have hown : s.vm.findClass "GraphWriter" = some m.cls := hown
  have hl : lv_has ls 2 [(0, .ref (ad 0 0)), (1, .int k)] := hl
  have hz0 := hz
  obtain ⟨hz1, hz2, hz3, hk0, hk1, hk2, hk3, hk4, hk5, hk6, hk7, hao1, hao2, hnw⟩ := hz0
  have hfr : os_fr C C := fun _ _ _ => rfl
  refine lv_iload_n hx hb d_G_count_0 rfl (lv_at hl 1 rfl) ?_
  rcases ga_sel (k := k) 4 (by decide) with hs | ⟨j, hj, rfl⟩
  · refine lv_tableOut (tgt := 70) hx hb d_G_count_1 hs (by decide) ?_
    refine lv_iconst (v := (-1)) hx hb d_G_count_70 (by decide) ?_
    exact pw_iret hx hb hr hlocks hw ⟨⟨rfl, rfl⟩, by unfold ga_count; rw [if_neg (show ¬ k = 0 from ga_selne hs 0 (by decide) (by decide)), if_neg (show ¬ k = 1 from ga_selne hs 1 (by decide) (by decide)), if_neg (show ¬ k = 2 from ga_selne hs 2 (by decide) (by decide)), if_neg (show ¬ k = 3 from ga_selne hs 3 (by decide) (by decide)), if_neg (show ¬ k = 4 from ga_selne hs 4 (by decide) (by decide))]⟩ d_G_count_71
  · match j, hj with
    | 0, _ =>
      refine lv_tableIn (off := 35) (tgt := 36) hx hb d_G_count_1 (by decide) (by decide) rfl (by decide) ?_
      refine lv_aload_n hx hb d_G_count_36 rfl (lv_at hl 0 rfl) ?_
      refine pw_get (Cn := "GraphWriter") (T := F_G) (N := 4) hx hb hts in_G hown hK hw 0 0 rfl g00 rfl 2 (by decide) (hts _ wd_142) (fun _ h9 => h9) rfl d_G_count_37 ?_
      refine pw_get (Cn := "GraphWriter$Out") (T := F_O) (N := 11) hx hb hts in_O hown hK hw 3 0 rfl h30 rfl 3 (by decide) (hts _ wd_92) (fun _ h9 => h9) rfl d_G_count_40 ?_
      exact pw_iret hx hb hr hlocks hw ⟨⟨rfl, rfl⟩, rfl⟩ d_G_count_43
    | 1, _ =>
      refine lv_tableIn (off := 43) (tgt := 44) hx hb d_G_count_1 (by decide) (by decide) rfl (by decide) ?_
      refine lv_aload_n hx hb d_G_count_44 rfl (lv_at hl 0 rfl) ?_
      refine pw_get (Cn := "GraphWriter") (T := F_G) (N := 4) hx hb hts in_G hown hK hw 0 0 rfl g00 rfl 2 (by decide) (hts _ wd_142) (fun _ h9 => h9) rfl d_G_count_45 ?_
      refine pw_get (Cn := "GraphWriter$Out") (T := F_O) (N := 11) hx hb hts in_O hown hK hw 3 0 rfl h30 rfl 4 (by decide) (hts _ wd_94) (fun _ h9 => h9) rfl d_G_count_48 ?_
      exact pw_iret hx hb hr hlocks hw ⟨⟨rfl, rfl⟩, rfl⟩ d_G_count_51
    | 2, _ =>
      refine lv_tableIn (off := 51) (tgt := 52) hx hb d_G_count_1 (by decide) (by decide) rfl (by decide) ?_
      refine lv_aload_n hx hb d_G_count_52 rfl (lv_at hl 0 rfl) ?_
      refine pw_get (Cn := "GraphWriter") (T := F_G) (N := 4) hx hb hts in_G hown hK hw 0 0 rfl g00 rfl 2 (by decide) (hts _ wd_142) (fun _ h9 => h9) rfl d_G_count_53 ?_
      refine pw_get (Cn := "GraphWriter$Out") (T := F_O) (N := 11) hx hb hts in_O hown hK hw 3 0 rfl h30 rfl 5 (by decide) (hts _ wd_96) (fun _ h9 => h9) rfl d_G_count_56 ?_
      exact pw_iret hx hb hr hlocks hw ⟨⟨rfl, rfl⟩, rfl⟩ d_G_count_59
    | 3, _ =>
      refine lv_tableIn (off := 59) (tgt := 60) hx hb d_G_count_1 (by decide) (by decide) rfl (by decide) ?_
      refine lv_aload_n hx hb d_G_count_60 rfl (lv_at hl 0 rfl) ?_
      refine pw_get (Cn := "GraphWriter") (T := F_G) (N := 4) hx hb hts in_G hown hK hw 0 0 rfl g00 rfl 3 (by decide) (hts _ wd_143) (fun _ h9 => h9) rfl d_G_count_61 ?_
      exact pw_iret hx hb hr hlocks hw ⟨⟨rfl, rfl⟩, rfl⟩ d_G_count_64
    | 4, _ =>
      refine lv_tableIn (off := 64) (tgt := 65) hx hb d_G_count_1 (by decide) (by decide) rfl (by decide) ?_
      refine lv_aload_n hx hb d_G_count_65 rfl (lv_at hl 0 rfl) ?_
      refine pw_calli (va_runV (As := []) (rest := []) ⟨hx, hb, hml, hown, hts0⟩ (k_G_definedClasses hG0 _) (cwV 0 hts0 (wd_V wd_732 wd_729 wd_731 wd_19 wd_53) rfl rfl rfl (by decide +kernel) ⟨Nat.le_of_ble_eq_true rfl, Nat.le_of_ble_eq_true rfl⟩) (pw_preV hZ hw hA hK hz rfl g00 rfl) rfl rfl hl.1 rfl (lv_room (Nat.le_of_ble_eq_true rfl)) d_G_count_66 ⟨Nat.le_of_ble_eq_true rfl, Nat.le_of_ble_eq_true rfl⟩) hw hA (fun r_3 ad_1 C_2 H locs hp hw => ?_)
      obtain ⟨⟨hae, hce⟩, hre⟩ := hp
      rw [hae, hce] at hw
      rw [hre]
      clear hae hce hre
      exact pw_iret hx hb hr hlocks hw ⟨⟨rfl, rfl⟩, rfl⟩ d_G_count_69
    | j + 5, h => exact absurd h (by omega)
