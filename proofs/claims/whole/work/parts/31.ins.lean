/-- the classes of a chain are used -/
def ga_use (cd : Nat → Option DT) (d0 : DT) : Nat → Nat → Option DT
  | 0 => cd
  | j + 1 => match ga_use cd d0 j (dd_cf d0 j).toNatClampNeg with
    | none => ga_use cd d0 j
    | some d => va_up (ga_use cd d0 j) (dd_cf d0 j).toNatClampNeg (some (dd_su d 1))
theorem dd_su_su (d : DT) (u v : Int32) : dd_su (dd_su d u) v = dd_su d v := rfl
theorem dd_su_id (d : DT) : dd_su d (dd_us d) = d := rfl
theorem ga_use_or (cd : Nat → Option DT) (d0 : DT) (k : Nat) : ∀ j, (cd k = none ∧ ga_use cd d0 j k = none) ∨ ∃ d u, cd k = some d ∧ ga_use cd d0 j k = some (dd_su d u) := by
  intro j
  induction j with
  | zero =>
    cases h : cd k with
    | none => exact Or.inl ⟨rfl, h⟩
    | some d => exact Or.inr ⟨d, dd_us d, rfl, h⟩
  | succ j ih =>
    cases hc : ga_use cd d0 j (dd_cf d0 j).toNatClampNeg with
    | none =>
      have e : ga_use cd d0 (j + 1) = ga_use cd d0 j := by show (match ga_use cd d0 j (dd_cf d0 j).toNatClampNeg with | none => ga_use cd d0 j | some d => va_up (ga_use cd d0 j) (dd_cf d0 j).toNatClampNeg (some (dd_su d 1))) = _; rw [hc]
      rw [e]; exact ih
    | some d =>
      have e : ga_use cd d0 (j + 1) = va_up (ga_use cd d0 j) (dd_cf d0 j).toNatClampNeg (some (dd_su d 1)) := by show (match ga_use cd d0 j (dd_cf d0 j).toNatClampNeg with | none => ga_use cd d0 j | some d => va_up (ga_use cd d0 j) (dd_cf d0 j).toNatClampNeg (some (dd_su d 1))) = _; rw [hc]
      rw [e]
      by_cases hk : k = (dd_cf d0 j).toNatClampNeg
      · rw [hk, va_up_self]
        rw [hk] at ih
        rcases ih with ⟨-, h2⟩ | ⟨d1, u, h1, h2⟩
        · rw [h2] at hc; exact absurd hc (by simp)
        · rw [h2] at hc
          obtain rfl := Option.some.inj hc
          exact Or.inr ⟨d1, 1, h1, rfl⟩
      · rw [va_up_ne _ _ hk]; exact ih
theorem ga_use_some {cd : Nat → Option DT} {k : Nat} {d : DT} (h : cd k = some d) (d0 : DT) (j : Nat) : ∃ u, ga_use cd d0 j k = some (dd_su d u) := by
  rcases ga_use_or cd d0 k j with ⟨h1, -⟩ | ⟨d1, u, h1, h2⟩
  · rw [h1] at h; exact absurd h (by simp)
  · rw [h1] at h; obtain rfl := Option.some.inj h; exact ⟨u, h2⟩
theorem ga_use_back {cd : Nat → Option DT} {k : Nat} {d : DT} {d0 : DT} {j : Nat} (h : ga_use cd d0 j k = some d) : ∃ d1 u, cd k = some d1 ∧ d = dd_su d1 u := by
  rcases ga_use_or cd d0 k j with ⟨-, h1⟩ | ⟨d1, u, h1, h2⟩
  · rw [h1] at h; exact absurd h (by simp)
  · rw [h2] at h; exact ⟨d1, u, h1, (Option.some.inj h).symm⟩
theorem ga_use_wf {cd : Nat → Option DT} (h : wf_d cd) (d0 : DT) (j : Nat) : wf_d (ga_use cd d0 j) := by
  intro k d hd
  obtain ⟨d1, u, h1, rfl⟩ := ga_use_back hd
  obtain ⟨q0, q1, q2, q3⟩ := h k d1 h1
  refine ⟨q0, q1, fun i hi => ?_, q3⟩
  obtain ⟨c, di, hc, he, hcd⟩ := q2 i hi
  obtain ⟨u2, h2⟩ := ga_use_some hcd d0 j
  exact ⟨c, _, hc, he, h2⟩
theorem ga_use_sum (cd : Nat → Option DT) (d0 : DT) (j : Nat) (d1 : DT) (u : Int32) : ∀ i, ga_sum (ga_use cd d0 j) (dd_su d1 u) i = ga_sum cd d1 i := by
  intro i
  induction i with
  | zero => rfl
  | succ i ih =>
    show ga_sum (ga_use cd d0 j) (dd_su d1 u) i + (match ga_use cd d0 j (dd_cf d1 i).toNatClampNeg with | none => 0 | some d => dd_fn d) = ga_sum cd d1 i + (match cd (dd_cf d1 i).toNatClampNeg with | none => 0 | some d => dd_fn d)
    rw [ih]
    rcases ga_use_or cd d0 (dd_cf d1 i).toNatClampNeg j with ⟨h1, h2⟩ | ⟨d, u, h1, h2⟩
    · rw [h1, h2]
    · rw [h1, h2]; rfl
theorem ga_use_sty (cd : Nat → Option DT) (d0 : DT) (j : Nat) (d1 : DT) (u : Int32) : ∀ i, ga_sty (ga_use cd d0 j) (dd_su d1 u) i = ga_sty cd d1 i := by
  intro i
  induction i with
  | zero => rfl
  | succ i ih =>
    show (match ga_use cd d0 j (dd_cf d1 i).toNatClampNeg with | none => ga_sty (ga_use cd d0 j) (dd_su d1 u) i | some d => va_cpy (dd_ty d) (ga_sty (ga_use cd d0 j) (dd_su d1 u) i) 0 (ga_sum (ga_use cd d0 j) (dd_su d1 u) i) (dd_fn d)) = (match cd (dd_cf d1 i).toNatClampNeg with | none => ga_sty cd d1 i | some d => va_cpy (dd_ty d) (ga_sty cd d1 i) 0 (ga_sum cd d1 i) (dd_fn d))
    rw [ih, ga_use_sum]
    rcases ga_use_or cd d0 (dd_cf d1 i).toNatClampNeg j with ⟨h1, h2⟩ | ⟨d, u, h1, h2⟩
    · rw [h1, h2]
    · rw [h1, h2]; rfl
theorem ga_use_s {cd : Nat → Option DT} {d0 d : DT} {j i : Nat} (hi : i < 6) (h1 : dd_cf d0 j = nI i) (h2 : ga_use cd d0 j i = some d) : ga_use cd d0 (j + 1) = va_up (ga_use cd d0 j) i (some (dd_su d 1)) := by
  have e : (dd_cf d0 j).toNatClampNeg = i := by rw [h1]; exact nI_clamp (by omega)
  show (match ga_use cd d0 j (dd_cf d0 j).toNatClampNeg with | none => ga_use cd d0 j | some d => va_up (ga_use cd d0 j) (dd_cf d0 j).toNatClampNeg (some (dd_su d 1))) = _
  rw [e, h2]
theorem gw_at.wide {ca : Nat → ClassId} {kS : Nat → Nat} {kT : Nat} {ad ad' : pw_A} {C C1 : pw_C} {cd : Nat → Option DT} {mk : Nat} {td : Nat → TT} (h : gw_at ca kS kT ad C cd mk td) (hf : ∀ x y, ¬ ((19 < x ∧ x < 25) ∧ y = mk) → C1 x y = C x y) (hA : ∀ x y, ¬ ((19 < x ∧ x < 25) ∧ y = mk) → ad' x y = ad x y) : gw_at ca kS kT ad' C1 cd mk td := by
  obtain ⟨g0, g1, g2, g3, g4, g5, g6, g7, g8⟩ := h
  have e1 : gw_cf ad' cd = gw_cf ad cd := by funext i; simp [gw_cf, hA 10 i (by omega)]
  have e2 : gw_tf ad' mk = gw_tf ad mk := by
    funext i
    by_cases h2 : i < mk
    · simp [gw_tf, h2, hA 20 i (by omega)]
    · simp [gw_tf, h2]
  refine ⟨by rw [hA 1 0 (by omega), hA 2 0 (by omega), hA 3 0 (by omega)]; exact (hf 0 0 (by omega)).trans g0, by rw [e1]; exact (hf 1 0 (by omega)).trans g1, by rw [e2]; exact (hf 2 0 (by omega)).trans g2, g3, fun k d hk => ?_, fun i hi => ?_, fun i hi => ?_, (hf 52 0 (by omega)).trans g7, (hA 52 0 (by omega)).trans g8⟩
  · obtain ⟨q0, q1, q2, q3, q4, q5, q6⟩ := g4 k d hk
    exact ⟨q0, by rw [hA 15 k (by omega), hA 11 k (by omega), hA 12 k (by omega), hA 13 k (by omega), hA 14 k (by omega)]; exact (hf 10 k (by omega)).trans q1, (hf 11 k (by omega)).trans q2, (hf 12 k (by omega)).trans q3, (hf 13 k (by omega)).trans q4, (hf 14 k (by omega)).trans q5, q6.ad (hf 15 k (by omega)) (hf 16 k (by omega)) (hA 16 k (by omega))⟩
  · obtain ⟨q1, q2, q3, q4, q5⟩ := g5 i hi
    have eta : tt_ta kS ad' i (td i) = tt_ta kS ad i (td i) := by unfold tt_ta; rw [hA 23 i (by omega)]
    exact ⟨by rw [eta, hA 21 i (by omega), hA 22 i (by omega)]; exact (hf 20 i (by omega)).trans q1, (hf 21 i (by omega)).trans q2, (hf 22 i (by omega)).trans q3, q4, fun z => (q5 z).ad (hf 23 i (by omega)) (hf 24 i (by omega)) (hA 24 i (by omega))⟩
  · exact ⟨(g6 i hi).1.ad (hf 50 i (by omega)) (hf 51 i (by omega)) (hA 51 i (by omega)), (hA 50 i (by omega)).trans (g6 i hi).2⟩
def ga_ins (cd : Nat → Option DT) (k : Int32) (d : DT) : TT := (0, k, ga_sum cd d (dd_cn d), ga_sty cd d (dd_cn d), tt_v0 (ga_sty cd d (dd_cn d)) (ga_sum cd d (dd_cn d)), [], -1, 0)
def ga_instance (cd : Nat → Option DT) (mk : Nat) (td : Nat → TT) (k : Int32) : Int32 × (Nat → Option DT) × Nat × (Nat → TT) := if ga_isdef cd k = 0 then (-1, cd, mk, td) else match cd k.toNatClampNeg with
  | none => (-1, cd, mk, td)
  | some d => if dd_kd d = 3 then (-1, cd, mk, td) else if 12 ≤ nI mk then (-2, cd, mk, td) else (nI mk, ga_use cd d (dd_cn d), mk + 1, va_up td mk (ga_ins cd k d))
/-- what the making of an instance leaves -/
abbrev gn_fr (cd : Nat → Option DT) (mk : Nat) (ad : pw_A) (C : pw_C) (ad' : pw_A) (C' : pw_C) : Prop := (∀ x y, ¬ x = 0 → ¬ x = 2 → ¬ (x = 10 ∧ (cd y).isSome) → ¬ ((19 < x ∧ x < 25) ∧ y = mk) → C' x y = C x y) ∧ ∀ x y, ¬ ((19 < x ∧ x < 25) ∧ y = mk) → ad' x y = ad x y
set_option maxHeartbeats 4000000 in
set_option maxRecDepth 100000 in
theorem k_G_instance {l : Launch} {D : va_G} {ca : Nat → ClassId} {kS : Nat → Nat} {kT : Nat} {ad : pw_A} {C : pw_C} {cd : Nat → Option DT} {mk : Nat} {td : Nat → TT} (hG : gw_at ca kS kT ad C cd mk td) (hnn : ∀ x, 19 < x → x < 25 → C x mk = none) (hwf : wf_d cd) (k : Int32) : gc_Con l y_G_instance c_G_instance ({ frames := 2, cells := 3, slots := 60, locals := 86 }) D ca (z9_Z kS kT) [.ref (ad 0 0), .int k] ad C (pw_pi (fun r ad' C' => (gw_at ca kS kT ad' C' (ga_instance cd mk td k).2.1 (ga_instance cd mk td k).2.2.1 (ga_instance cd mk td k).2.2.2 ∧ gn_fr cd mk ad C ad' C') ∧ r = (ga_instance cd mk td k).1)) 3 60 := by
  have hZ := z9_ok kS kT
  have hG0 := hG
  obtain ⟨g00, g10, g20, hmk, hDD, hTT, hKK⟩ := hG
  refine pw_ofW (cc := b_G_instance) (maxL := 4) (ret := (some FieldType.int)) (by decide) rfl (Nat.le_of_ble_eq_true rfl) ?_
  intro p e s m args below meth c A ls hB hA hw hK hz hl
  obtain ⟨hx, hb, hr, hml, hts0, hlocks, hown, hnm⟩ := hB
  have hts := wd_hts hts0
  have hown : s.vm.findClass "GraphWriter" = some m.cls := hown
  have hl : lv_has ls 4 [(0, .ref (ad 0 0)), (1, .int k)] := hl
  have hz0 := hz
  obtain ⟨hz1, hz2, hz3, hk0, hk1, hk2, hk3, hk4, hk5, hk6, hk7, hao1, hao2, hnw⟩ := hz0
  refine lv_aload_n hx hb d_G_instance_0 rfl (lv_at hl 0 rfl) ?_
  refine lv_iload_n hx hb d_G_instance_1 rfl (lv_at hl 1 rfl) ?_
  refine pw_calli (va_runV (As := [.int k]) (rest := []) ⟨hx, hb, hml, hown, hts0⟩ (k_G_isDefined hG0 k _) (cwV 1 hts0 (wd_V wd_164 wd_161 wd_163 wd_1 wd_53) rfl rfl rfl (by decide +kernel) ⟨(by (try dsimp only); omega), (by (try dsimp only); omega)⟩) (pw_preV hZ hw hA hK hz rfl g00 rfl) rfl rfl hl.1 rfl (lv_room (Nat.le_of_ble_eq_true rfl)) d_G_instance_2 ⟨(by (try dsimp only); omega), (by (try dsimp only); omega)⟩) hw hA (fun r_3 ad_1 C_2 H locs hp hw => ?_)
  obtain ⟨⟨hae, hce⟩, hre⟩ := hp
  rw [hae, hce] at hw
  rw [hre]
  clear hae hce hre
  refine lv_if_eq (tgt := 21) hx hb d_G_instance_5 (by decide) (fun c_4 => ?_) (fun c_4 => ?_)
  · skip
    refine lv_iconst (v := (-1)) hx hb d_G_instance_21 (by decide) ?_
    have e9 : ga_instance cd mk td k = (-1, cd, mk, td) := by exact if_pos c_4
    refine W.widen (k := 3) (n := 60) (by omega) (by omega) ?_
    exact pw_iret hx hb hr hlocks hw ⟨⟨by rw [e9]; exact hG0, fun _ _ _ _ _ _ => rfl, fun _ _ _ => rfl⟩, by rw [e9]⟩ d_G_instance_22
  · skip
    refine lv_aload_n hx hb d_G_instance_8 rfl (lv_at hl 0 rfl) ?_
    refine pw_get (Cn := "GraphWriter") (T := F_G) (N := 4) hx hb hts in_G hown hK hw 0 0 rfl g00 rfl 0 (by decide) (hts _ wd_140) (fun _ h9 => h9) rfl d_G_instance_9 ?_
    refine lv_iload_n hx hb d_G_instance_12 rfl (lv_at hl 1 rfl) ?_
    obtain ⟨j, d, hj, hkj, hcd⟩ := ga_isdef_1 c_4
    have e8 : k.toNatClampNeg = j := by rw [hkj]; exact nI_clamp (by omega)
    obtain ⟨q06, q10, q11, q12, q13, q14, qst⟩ := hDD j d hcd
    refine pw_aald hx hb hK hw 1 0 rfl 4 g10 rfl j hkj (by omega) (by omega) d_G_instance_13 ?_
    rw [gw_cl hcd]
    refine pw_get (Cn := "GraphWriter$Defined") (T := F_D) (N := 11) hx hb hts in_D hown hK hw 10 j rfl q10 rfl 1 (by decide) (hts _ wd_297) (fun _ h9 => h9) rfl d_G_instance_14 ?_
    refine lv_iconst (v := 3) hx hb d_G_instance_17 (by decide) ?_
    refine lv_icmp_ne (tgt := 23) hx hb d_G_instance_18 (by decide) (fun c_5 => ?_) (fun c_5 => ?_)
    · skip
      refine lv_aload_n hx hb d_G_instance_23 rfl (lv_at hl 0 rfl) ?_
      refine pw_get (Cn := "GraphWriter") (T := F_G) (N := 4) hx hb hts in_G hown hK hw 0 0 rfl g00 rfl 3 (by decide) (hts _ wd_143) (fun _ h9 => h9) rfl d_G_instance_24 ?_
      refine lv_bipush (v := 12) hx hb d_G_instance_27 (by decide) ?_
      refine lv_icmp_lt (tgt := 35) hx hb d_G_instance_29 (by decide) (fun c_6 => ?_) (fun c_6 => ?_)
      · skip
        refine lv_aload_n hx hb d_G_instance_35 rfl (lv_at hl 0 rfl) ?_
        refine pw_get (Cn := "GraphWriter") (T := F_G) (N := 4) hx hb hts in_G hown hK hw 0 0 rfl g00 rfl 0 (by decide) (hts _ wd_140) (fun _ h9 => h9) rfl d_G_instance_36 ?_
        refine lv_iload_n hx hb d_G_instance_39 rfl (lv_at hl 1 rfl) ?_
        refine pw_aald hx hb hK hw 1 0 rfl 4 g10 rfl j hkj (by omega) (by omega) d_G_instance_40 ?_
        rw [gw_cl hcd]
        refine pw_get (Cn := "GraphWriter$Defined") (T := F_D) (N := 11) hx hb hts in_D hown hK hw 10 j rfl q10 rfl 4 (by decide) (hts _ wd_303) (fun _ h9 => h9) rfl d_G_instance_41 ?_
        refine lv_astore_n (lv' := [(2, .ref (ad 11 j)), (0, .ref (ad 0 0)), (1, .int k)]) hx hb d_G_instance_44 rfl hl (by decide) rfl (fun ls hl => ?_)
        refine lv_iconst (v := 0) hx hb d_G_instance_45 (by decide) ?_
        refine lv_istore_n (lv' := [(3, .int 0), (2, .ref (ad 11 j)), (0, .ref (ad 0 0)), (1, .int k)]) hx hb d_G_instance_46 rfl hl (by decide) rfl (fun ls hl => ?_)
        obtain ⟨-, hcn, hch, -⟩ := hwf j d hcd
        have h24 := ga_sum_4 hwf d (dd_cn d)
        have hmk9 : mk < 12 := (nI_ltI (by omega) (by decide)).mp c_6
        have loop : ∀ (r : Nat) (C1 : pw_C) (H : Heap) (locs : List Loc) (ls : Array Slot), r ≤ dd_cn d → gw_at ca kS kT ad C1 (ga_use cd d (dd_cn d - r)) mk td → (∀ x y, ¬ (x = 10 ∧ (cd y).isSome) → C1 x y = C x y) → pw_H D cls9 A s.heap ad C ad C1 H locs → lv_has ls 4 [(3, .int (nI (dd_cn d - r))), (2, .ref (ad 11 j)), (0, .ref (ad 0 0)), (1, .int k)] → W p l e ({ frames := 2, cells := 3, slots := 60, locals := 86 }) s m args below meth c H locs 0 0 (MQ below (pw_Q D cls9 ad C (pw_pi (fun r ad' C' => (gw_at ca kS kT ad' C' (ga_instance cd mk td k).2.1 (ga_instance cd mk td k).2.2.1 (ga_instance cd mk td k).2.2.2 ∧ gn_fr cd mk ad C ad' C') ∧ r = (ga_instance cd mk td k).1)) A) args s 3 60 A) (F0 m 47 ls []) := by
          intro r
          induction r with
          | zero =>
            intro C1 H locs ls hr9 hG1 hf1 hw hl
            obtain ⟨lv9, hlv9⟩ : ∃ z, z = dd_cn d - 0 := ⟨_, rfl⟩
            rw [← hlv9] at hl hG1
            obtain ⟨cd1, hcd1⟩ : ∃ z, z = ga_use cd d lv9 := ⟨_, rfl⟩
            rw [← hcd1] at hG1
            have hG2 := hG1
            obtain ⟨g00, g10, g20, hmk, hDD, hTT, hKK⟩ := hG1
            obtain ⟨u9, hu9⟩ := ga_use_some hcd d lv9
            rw [← hcd1] at hu9
            obtain ⟨z06, z10, z11, z12, z13, z14, zst⟩ := hDD j _ hu9
            have z11 : C1 11 j = some (.inl (ca 0, dd_cn d, .inl (dd_cf d))) := z11
            have hfr : ∀ x y, ¬ x = 0 → ¬ x = 2 → ¬ ((19 < x ∧ x < 25) ∧ y = mk) → C1 x y = C1 x y := fun _ _ _ _ _ => rfl
            have n20 : C1 20 mk = none := (hf1 20 mk (by omega)).trans (hnn 20 (by decide) (by decide))
            have n21 : C1 21 mk = none := (hf1 21 mk (by omega)).trans (hnn 21 (by decide) (by decide))
            have n22 : C1 22 mk = none := (hf1 22 mk (by omega)).trans (hnn 22 (by decide) (by decide))
            refine lv_iload_n hx hb d_G_instance_47 rfl (lv_at hl 0 rfl) ?_
            refine lv_aload_n hx hb d_G_instance_48 rfl (lv_at hl 1 rfl) ?_
            refine pw_alen hx hb hK hw 11 j rfl 0 z11 rfl d_G_instance_49 ?_
            refine lv_icmp_ge (tgt := 71) hx hb d_G_instance_50 (by decide) (fun c_7 => ?_) (fun c_7 => ?_)
            · skip
              refine lv_aload_n hx hb d_G_instance_71 rfl (lv_at hl 2 rfl) ?_
              refine pw_new (ci := 3) (fs := [.int 0, .int 0, .null, .null, .null, .int 0, .int 0]) (Cn := "GraphWriter$Thing") (T := F_T) (N := 7) hx hb hts in_T ft_T to_T hown (hts _ wd_78) (hts _ wd_362) (hts _ wd_64) hK hw hA 20 mk (by decide) n20 rfl (fun j hj => by match j, hj with | 0, _ => rfl | 1, _ => rfl | 2, _ => rfl | 3, _ => rfl | 4, _ => rfl | 5, _ => rfl | 6, _ => rfl | j + 7, h => exact absurd h (by omega)) (by (try dsimp only); omega) (by (try dsimp only); omega) d_G_instance_72 (fun q_8 H hw => ?_)
              refine W.widen (k := 1) (n := 8) (by omega) (by omega) ?_
              obtain ⟨ad_9, had_9⟩ : ∃ z, z = pw_up ad 20 mk q_8 := ⟨_, rfl⟩
              rw [← had_9] at hw
              have hsad_9 : ad_9 20 mk = q_8 := by rw [had_9]; exact pw_up_self _ _ _ _
              have hadk : ∀ x9 y9, ¬ (x9 = 20 ∧ y9 = mk) → ad_9 x9 y9 = ad x9 y9 := fun x9 y9 h9 => by rw [had_9]; exact pw_up_ne _ _ h9
              have hw : pw_H D cls9 A s.heap ad C ad_9 (pw_up C1 20 mk (some (.inr (3, [.int 0, .int 0, .null, .null, .null, .int 0, .int 0])))) H _ := hw
              generalize hC_10 : pw_up C1 20 mk (some (.inr (3, [.int 0, .int 0, .null, .null, .null, .int 0, .int 0]))) = C_10 at hw
              have g00 : C_10 0 0 = some (.inr (0, [.ref (ad 1 0), .ref (ad 2 0), .ref (ad 3 0), .int (nI mk)])) := by rw [← hC_10]; exact (pw_up_ne _ _ (by omega)).trans g00
              have g10 : C_10 1 0 = some (.inl (ca 4, 6, .inr (.inr (.inr (.inr (gw_cf ad cd1)))))) := by rw [← hC_10]; exact (pw_up_ne _ _ (by omega)).trans g10
              have g20 : C_10 2 0 = some (.inl (ca 5, 12, .inr (.inr (.inr (.inr (gw_tf ad mk)))))) := by rw [← hC_10]; exact (pw_up_ne _ _ (by omega)).trans g20
              have z11 : C_10 11 j = some (.inl (ca 0, dd_cn d, .inl (dd_cf d))) := by rw [← hC_10]; exact (pw_up_ne _ _ (by omega)).trans z11
              have p20 : C_10 20 mk = some (.inr (3, [.int 0, .int 0, .null, .null, .null, .int 0, .int 0])) := by rw [← hC_10]; exact pw_up_self _ _ _ _
              have hfr : ∀ x y, ¬ x = 0 → ¬ x = 2 → ¬ ((19 < x ∧ x < 25) ∧ y = mk) → C_10 x y = C1 x y := fun x y h0 h1 h2 => by rw [← hC_10]; exact (pw_up_ne _ _ (by omega)).trans (hfr x y h0 h1 h2)
              have n21 : C_10 21 mk = none := by rw [← hC_10]; exact (pw_up_ne _ _ (by omega)).trans n21
              have n22 : C_10 22 mk = none := by rw [← hC_10]; exact (pw_up_ne _ _ (by omega)).trans n22
              refine lv_dup hx hb d_G_instance_75 rfl ?_
              refine lv_iconst (v := 0) hx hb d_G_instance_76 (by decide) ?_
              refine lv_iload_n hx hb d_G_instance_77 rfl (lv_at hl 3 rfl) ?_
              refine lv_aload_n hx hb d_G_instance_78 rfl (lv_at hl 2 rfl) ?_
              refine lv_aload_n hx hb d_G_instance_79 rfl (lv_at hl 1 rfl) ?_
              have hfr9 : ∀ x y, ¬ ((19 < x ∧ x < 25) ∧ y = mk) → C_10 x y = C1 x y := fun x y h => by rw [← hC_10]; exact pw_up_ne _ _ (by omega)
              rw [← hadk 0 0 (by omega), ← hadk 11 j (by omega)]
              refine pw_callr (va_runV (As := [.ref (ad_9 11 j)]) (rest := [.int k, .int 0, .ref q_8, .ref q_8, .ref (ad_9 0 0)]) ⟨hx, hb, hml, hown, hts0⟩ (k_G_slotTypes (ad := ad_9) (cd := cd1) (hG2.wide (fun x y h => hfr9 x y h) (fun x y h => hadk x y (by omega))) (by rw [hcd1]; exact ga_use_wf hwf d lv9) n21 hu9 _) (cwV 1 hts0 (wd_V wd_366 wd_363 wd_365 wd_5 wd_53) rfl rfl rfl (by decide +kernel) ⟨(by (try dsimp only); omega), (by (try dsimp only); omega)⟩) (pw_preV hZ hw hA hK hz rfl g00 rfl) rfl rfl hl.1 rfl (lv_room (Nat.le_of_ble_eq_true rfl)) d_G_instance_80 ⟨(by (try dsimp only); omega), (by (try dsimp only); omega)⟩) hw hA (fun r_13 ad_11 C_12 H locs hp hw => ?_)
              obtain ⟨hae, t21, hf9⟩ := hp
              rw [hae] at hw; clear hae
              refine W.widen (k := 2) (n := 32) (by omega) (by omega) ?_
              rw [hadk 0 0 (by omega)]
              have g00 : C_12 0 0 = some (.inr (0, [.ref (ad 1 0), .ref (ad 2 0), .ref (ad 3 0), .int (nI mk)])) := (hf9 0 0 (by omega)).trans g00
              have g10 : C_12 1 0 = some (.inl (ca 4, 6, .inr (.inr (.inr (.inr (gw_cf ad cd1)))))) := (hf9 1 0 (by omega)).trans g10
              have g20 : C_12 2 0 = some (.inl (ca 5, 12, .inr (.inr (.inr (.inr (gw_tf ad mk)))))) := (hf9 2 0 (by omega)).trans g20
              have z11 : C_12 11 j = some (.inl (ca 0, dd_cn d, .inl (dd_cf d))) := (hf9 11 j (by omega)).trans z11
              have p20 : C_12 20 mk = some (.inr (3, [.int 0, .int 0, .null, .null, .null, .int 0, .int 0])) := (hf9 20 mk (by omega)).trans p20
              have n22 : C_12 22 mk = none := (hf9 22 mk (by omega)).trans n22
              have hfr : ∀ x y, ¬ x = 0 → ¬ x = 2 → ¬ ((19 < x ∧ x < 25) ∧ y = mk) → C_12 x y = C1 x y := fun x y a b c => (hf9 x y (by omega)).trans (hfr x y a b c)
              obtain ⟨ad_14, had_14⟩ : ∃ z, z = pw_up ad_9 21 mk r_13 := ⟨_, rfl⟩
              rw [← had_14] at hw
              have hsad_14 : ad_14 21 mk = r_13 := by rw [had_14]; exact pw_up_self _ _ _ _
              have hadk : ∀ x9 y9, ¬ (x9 = 20 ∧ y9 = mk) → ¬ (x9 = 21 ∧ y9 = mk) → ad_14 x9 y9 = ad x9 y9 := fun x9 y9 e0 h9 => by rw [had_14]; exact (pw_up_ne _ _ h9).trans (hadk x9 y9 e0)
              have hq_q_8 : ad_14 20 mk = q_8 := by rw [had_14]; exact (pw_up_ne _ _ (by omega)).trans hsad_9
              have t21 := t21
              rw [hcd1, hlv9, Nat.sub_zero, show dd_cn (dd_su d u9) = dd_cn d from rfl, ga_use_sum, ga_use_sty] at t21
              have p21 : C_12 21 mk = some (.inl (ca 0, ga_sum cd d (dd_cn d), .inl (ga_sty cd d (dd_cn d)))) := t21
              refine va_ldcS (q := kS 6) (tx := "") hx hb hown hk6 d_G_instance_83 ?_
              rw [← hq_q_8, ← hsad_14]
              refine pw_callv (va_runI (As := [.int 0, .int k, .ref (ad_14 21 mk), .ref (kS 6)]) (rest := [.ref (ad_14 20 mk), .ref (ad 0 0)]) ⟨hx, hb, hml, hown, hts0⟩ (k_T_init (ad := ad_14) (ta := kS 6) p20 p21 n22 (by omega) 0 k _) (cwI 4 hts0 (wd_sub wd_371) rfl rfl rfl (hts _ wd_64) (hts _ wd_369) (hts _ wd_370) rfl (by decide +kernel) ⟨(by (try dsimp only); omega), (by (try dsimp only); omega)⟩) (pw_preS hZ hw hA hK hz) rfl rfl hl.1 rfl (lv_room (Nat.le_of_ble_eq_true rfl)) d_G_instance_85 ⟨(by (try dsimp only); omega), (by (try dsimp only); omega)⟩) hw hA (fun ad_15 C_16 H locs hp hw => ?_)
              refine W.widen (k := 3) (n := 60) (by omega) (by omega) ?_
              obtain ⟨q_17, hae, t20, t22, hf9⟩ := hp
              rw [hae] at hw; clear hae
              rw [hsad_14] at t20
              rw [hq_q_8]
              have g00 : C_16 0 0 = some (.inr (0, [.ref (ad 1 0), .ref (ad 2 0), .ref (ad 3 0), .int (nI mk)])) := (hf9 0 0 (by omega) (by omega)).trans g00
              have g10 : C_16 1 0 = some (.inl (ca 4, 6, .inr (.inr (.inr (.inr (gw_cf ad cd1)))))) := (hf9 1 0 (by omega) (by omega)).trans g10
              have g20 : C_16 2 0 = some (.inl (ca 5, 12, .inr (.inr (.inr (.inr (gw_tf ad mk)))))) := (hf9 2 0 (by omega) (by omega)).trans g20
              have z11 : C_16 11 j = some (.inl (ca 0, dd_cn d, .inl (dd_cf d))) := (hf9 11 j (by omega) (by omega)).trans z11
              have p21 : C_16 21 mk = some (.inl (ca 0, ga_sum cd d (dd_cn d), .inl (ga_sty cd d (dd_cn d)))) := (hf9 21 mk (by omega) (by omega)).trans p21
              have hfr : ∀ x y, ¬ x = 0 → ¬ x = 2 → ¬ ((19 < x ∧ x < 25) ∧ y = mk) → C_16 x y = C1 x y := fun x y a b c => (hf9 x y (by omega) (by omega)).trans (hfr x y a b c)
              obtain ⟨ad_18, had_18⟩ : ∃ z, z = pw_up ad_14 22 mk q_17 := ⟨_, rfl⟩
              rw [← had_18] at hw
              have hsad_18 : ad_18 22 mk = q_17 := by rw [had_18]; exact pw_up_self _ _ _ _
              have hadk : ∀ x9 y9, ¬ (x9 = 20 ∧ y9 = mk) → ¬ (x9 = 21 ∧ y9 = mk) → ¬ (x9 = 22 ∧ y9 = mk) → ad_18 x9 y9 = ad x9 y9 := fun x9 y9 e0 e1 h9 => by rw [had_18]; exact (pw_up_ne _ _ h9).trans (hadk x9 y9 e0 e1)
              have hq_q_8 : ad_18 20 mk = q_8 := by rw [had_18]; exact (pw_up_ne _ _ (by omega)).trans hq_q_8
              have hq_r_13 : ad_18 21 mk = r_13 := by rw [had_18]; exact (pw_up_ne _ _ (by omega)).trans hsad_14
              have p20 : C_16 20 mk = some (.inr (3, [.int 0, .int k, .ref r_13, .ref q_17, .ref (kS 6), .int (-1), .int 0])) := t20
              have p22 : C_16 22 mk = some (.inl (ca 1, ga_sum cd d (dd_cn d), .inr (.inl (tt_v0 (ga_sty cd d (dd_cn d)) (ga_sum cd d (dd_cn d)))))) := t22
              rw [← hq_q_8, ← hadk 0 0 (by omega) (by omega) (by omega)]
              refine pw_calli (va_runV (As := [.ref (ad_18 20 mk)]) (rest := []) ⟨hx, hb, hml, hown, hts0⟩ (k_G_keep (ad := ad_18) (b1 := ad 1 0) (b3 := ad 3 0) (by rw [hadk 2 0 (by omega) (by omega) (by omega)]; exact g00) g20 hmk9 p20 _) (cwV 1 hts0 (wd_V wd_406 wd_403 wd_405 wd_6 wd_53) rfl rfl rfl (by decide +kernel) ⟨(by (try dsimp only); omega), (by (try dsimp only); omega)⟩) (pw_preV hZ hw hA hK hz rfl g00 rfl) rfl rfl hl.1 rfl (lv_room (Nat.le_of_ble_eq_true rfl)) d_G_instance_88 ⟨(by (try dsimp only); omega), (by (try dsimp only); omega)⟩) hw hA (fun r_21 ad_19 C_20 H locs hp hw => ?_)
              obtain ⟨⟨hae, g00, g20, hf9⟩, hre⟩ := hp
              rw [hae] at hw; clear hae
              rw [hre]
              have g10 : C_20 1 0 = some (.inl (ca 4, 6, .inr (.inr (.inr (.inr (gw_cf ad cd1)))))) := (hf9 1 0 (by omega) (by omega)).trans g10
              have z11 : C_20 11 j = some (.inl (ca 0, dd_cn d, .inl (dd_cf d))) := (hf9 11 j (by omega) (by omega)).trans z11
              have p20 : C_20 20 mk = some (.inr (3, [.int 0, .int k, .ref r_13, .ref q_17, .ref (kS 6), .int (-1), .int 0])) := (hf9 20 mk (by omega) (by omega)).trans p20
              have p21 : C_20 21 mk = some (.inl (ca 0, ga_sum cd d (dd_cn d), .inl (ga_sty cd d (dd_cn d)))) := (hf9 21 mk (by omega) (by omega)).trans p21
              have p22 : C_20 22 mk = some (.inl (ca 1, ga_sum cd d (dd_cn d), .inr (.inl (tt_v0 (ga_sty cd d (dd_cn d)) (ga_sum cd d (dd_cn d)))))) := (hf9 22 mk (by omega) (by omega)).trans p22
              have hfr : ∀ x y, ¬ x = 0 → ¬ x = 2 → ¬ ((19 < x ∧ x < 25) ∧ y = mk) → C_20 x y = C1 x y := fun x y a b c => (hf9 x y (by omega) (by omega)).trans (hfr x y a b c)
              rw [hadk 2 0 (by omega) (by omega) (by omega)] at g00
              have e9 : ga_instance cd mk td k = (nI mk, ga_use cd d (dd_cn d), mk + 1, va_up td mk (ga_ins cd k d)) := by unfold ga_instance; rw [if_neg c_4, e8]; simp only [hcd]; rw [if_neg c_5, if_neg (Int32.not_le.mpr c_6)]
              have ecd : cd1 = ga_use cd d (dd_cn d) := by rw [hcd1, hlv9, Nat.sub_zero]
              refine pw_iret hx hb hr hlocks hw ⟨⟨?_, fun x y a b c e => (hfr x y a b e).trans (hf1 x y c), fun x y h => hadk x y (by omega) (by omega) (by omega)⟩, by rw [e9]⟩ d_G_instance_91
              rw [e9]
              show gw_at ca kS kT _ _ (ga_use cd d (dd_cn d)) (mk + 1) _
              rw [← ecd]
              refine hG2.more hmk9 ⟨hfr, fun x y h => hadk x y (by omega) (by omega) (by omega)⟩ g00 g20 ⟨?_, p21, p22, by show ga_sum cd d (dd_cn d) ≤ 24; omega, ?_⟩
              · rw [hq_r_13, hsad_18, show tt_ta kS ad_18 mk (ga_ins cd k d) = kS 6 from if_neg (by show ¬ ((0 : Int32) = 1 ∨ (0 : Int32) = 4); decide)]; exact p20
              · intro z; exact absurd z (by show ¬ ((0 : Int32) = 1 ∨ (0 : Int32) = 4); decide)
            · exact absurd (nI_le (by omega) (by omega)) c_7
          | succ r ih =>
            intro C1 H locs ls hr9 hG1 hf1 hw hl
            obtain ⟨lv9, hlv9⟩ : ∃ z, z = dd_cn d - (r + 1) := ⟨_, rfl⟩
            rw [← hlv9] at hl hG1
            obtain ⟨cd1, hcd1⟩ : ∃ z, z = ga_use cd d lv9 := ⟨_, rfl⟩
            rw [← hcd1] at hG1
            have hG2 := hG1
            obtain ⟨g00, g10, g20, hmk, hDD, hTT, hKK⟩ := hG1
            obtain ⟨u9, hu9⟩ := ga_use_some hcd d lv9
            rw [← hcd1] at hu9
            obtain ⟨z06, z10, z11, z12, z13, z14, zst⟩ := hDD j _ hu9
            have z11 : C1 11 j = some (.inl (ca 0, dd_cn d, .inl (dd_cf d))) := z11
            refine lv_iload_n hx hb d_G_instance_47 rfl (lv_at hl 0 rfl) ?_
            refine lv_aload_n hx hb d_G_instance_48 rfl (lv_at hl 1 rfl) ?_
            refine pw_alen hx hb hK hw 11 j rfl 0 z11 rfl d_G_instance_49 ?_
            refine lv_icmp_ge (tgt := 71) hx hb d_G_instance_50 (by decide) (fun c_22 => ?_) (fun c_22 => ?_)
            · exact absurd c_22 (nI_ge (by omega) (by omega))
            · skip
              refine lv_aload_n hx hb d_G_instance_53 rfl (lv_at hl 2 rfl) ?_
              refine pw_get (Cn := "GraphWriter") (T := F_G) (N := 4) hx hb hts in_G hown hK hw 0 0 rfl g00 rfl 0 (by decide) (hts _ wd_140) (fun _ h9 => h9) rfl d_G_instance_54 ?_
              refine lv_aload_n hx hb d_G_instance_57 rfl (lv_at hl 1 rfl) ?_
              refine lv_iload_n hx hb d_G_instance_58 rfl (lv_at hl 0 rfl) ?_
              refine pw_iald hx hb hK hw 11 j rfl 0 z11 rfl lv9 rfl (by omega) (by omega) d_G_instance_59 ?_
              obtain ⟨c9, d8, hc6, hcf, hcd8⟩ := hch lv9 (by omega)
              obtain ⟨u8, hu8⟩ := ga_use_some hcd8 d lv9
              have euse := ga_use_s hc6 hcf hu8
              rw [← hcd1] at hu8
              obtain ⟨d9, hd9⟩ : ∃ z, z = dd_su d8 u8 := ⟨_, rfl⟩
              rw [← hd9] at hu8 euse
              obtain ⟨q06, q10, q11, q12, q13, q14, qst⟩ := hDD c9 d9 hu8
              clear  z10 z11 z12 z13 z14 zst
              refine pw_aald hx hb hK hw 1 0 rfl 4 g10 rfl c9 hcf (by omega) (by omega) d_G_instance_60 ?_
              rw [gw_cl hu8]
              refine lv_iconst (v := 1) hx hb d_G_instance_61 (by decide) ?_
              refine pw_put (Cn := "GraphWriter$Defined") (T := F_D) (N := 11) (v := .int 1) (ty := .boolean) hx hb hts in_D ft_D to_D nm_D hown hK hw 10 c9 (by decide) rfl q10 rfl 10 (by decide) (hts _ wd_314) (fun _ h9 => h9) rfl (by decide +kernel) rfl rfl (Nat.le_of_ble_eq_true rfl) d_G_instance_62 (fun H locs hw => ?_)
              have hw : pw_H D cls9 A s.heap ad C ad (pw_up C1 10 c9 (some (.inr (2, [.int (nI c9), .int (dd_kd d9), .long (dd_id d9), .ref (ad 15 c9), .ref (ad 11 c9), .ref (ad 12 c9), .ref (ad 13 c9), .ref (ad 14 c9), .int (nI (dd_fn d9)), .int (nI (dd_sh d9)), .int 1])))) H _ := hw
              generalize hC_23 : pw_up C1 10 c9 (some (.inr (2, [.int (nI c9), .int (dd_kd d9), .long (dd_id d9), .ref (ad 15 c9), .ref (ad 11 c9), .ref (ad 12 c9), .ref (ad 13 c9), .ref (ad 14 c9), .int (nI (dd_fn d9)), .int (nI (dd_sh d9)), .int 1]))) = C_23 at hw
              have g10 : C_23 1 0 = some (.inl (ca 4, 6, .inr (.inr (.inr (.inr (gw_cf ad cd1)))))) := by rw [← hC_23]; exact (pw_up_ne _ _ (by omega)).trans g10
              have q10 : C_23 10 c9 = some (.inr (2, [.int (nI c9), .int (dd_kd d9), .long (dd_id d9), .ref (ad 15 c9), .ref (ad 11 c9), .ref (ad 12 c9), .ref (ad 13 c9), .ref (ad 14 c9), .int (nI (dd_fn d9)), .int (nI (dd_sh d9)), .int 1])) := by rw [← hC_23]; exact pw_up_self _ _ _ _
              refine lv_iinc (v := (nI lv9) + 1) (lv' := [(3, .int ((nI lv9) + 1)), (2, .ref (ad 11 j)), (0, .ref (ad 0 0)), (1, .int k)]) hx hb d_G_instance_65 hl (k := 0) rfl rfl (by decide) rfl (fun ls hl => ?_)
              refine lv_goto (tgt := 47) hx hb d_G_instance_68 (by decide) ?_
              rw [nI_1] at hl
              have hfd : dk_fr c9 C1 C_23 := fun x y h => by rw [← hC_23]; exact pw_up_ne _ _ (by omega)
              have hdn : dd_at ca ad C_23 c9 (dd_su d9 1) := ⟨q10, by rw [← hC_23]; exact (pw_up_ne _ _ (by omega)).trans q11, by rw [← hC_23]; exact (pw_up_ne _ _ (by omega)).trans q12, by rw [← hC_23]; exact (pw_up_ne _ _ (by omega)).trans q13, by rw [← hC_23]; exact (pw_up_ne _ _ (by omega)).trans q14, qst.ad (by rw [← hC_23]; exact pw_up_ne _ _ (by omega)) (by rw [← hC_23]; exact pw_up_ne _ _ (by omega)) rfl⟩
              have hG9 := hG2.klass hu8 hfd hdn
              rw [hcd1, ← euse] at hG9
              have el : dd_cn d - r = lv9 + 1 := by omega
              exact ih _ _ _ _ (by omega) (by rw [el]; exact hG9) (fun x y h => by rw [← hC_23]; exact (pw_up_ne _ _ (by rintro ⟨rfl, rfl⟩; exact h ⟨rfl, by rw [hcd8]; rfl⟩)).trans (hf1 x y h)) hw (by rw [el]; exact hl)
        exact loop (dd_cn d) _ _ _ _ (Nat.le_refl _) (by rw [Nat.sub_self]; exact hG0) (fun _ _ _ => rfl) hw (by rw [Nat.sub_self]; exact hl)
      · skip
        refine lv_bipush (v := (-2)) hx hb d_G_instance_32 (by decide) ?_
        have e9 : ga_instance cd mk td k = (-2, cd, mk, td) := by unfold ga_instance; rw [if_neg c_4, e8]; simp only [hcd]; rw [if_neg c_5, if_pos (Int32.not_lt.mp c_6)]
        refine W.widen (k := 3) (n := 60) (by omega) (by omega) ?_
        exact pw_iret hx hb hr hlocks hw ⟨⟨by rw [e9]; exact hG0, fun _ _ _ _ _ _ => rfl, fun _ _ _ => rfl⟩, by rw [e9]⟩ d_G_instance_34
    · skip
      refine lv_iconst (v := (-1)) hx hb d_G_instance_21 (by decide) ?_
      have e9 : ga_instance cd mk td k = (-1, cd, mk, td) := by unfold ga_instance; rw [if_neg c_4, e8]; simp only [hcd]; rw [if_pos c_5]
      refine W.widen (k := 3) (n := 60) (by omega) (by omega) ?_
      exact pw_iret hx hb hr hlocks hw ⟨⟨by rw [e9]; exact hG0, fun _ _ _ _ _ _ => rfl, fun _ _ _ => rfl⟩, by rw [e9]⟩ d_G_instance_22
