/-- what the making of an object leaves -/
abbrev gm_fr (mk : Nat) (ad : pw_A) (C : pw_C) (ad' : pw_A) (C' : pw_C) : Prop := (∀ x y, ¬ x = 0 → ¬ x = 2 → ¬ ((19 < x ∧ x < 25) ∧ y = mk) → C' x y = C x y) ∧ ∀ x y, ¬ ((19 < x ∧ x < 25) ∧ y = mk) → ad' x y = ad x y
theorem st_at.ad {ca : Nat → ClassId} {ad ad' : pw_A} {C C1 : pw_C} {u v u2 v2 : Nat} {t : List Int32} (h : st_at ca ad C u v u2 v2 t) (h1 : C1 u v = C u v) (h2 : C1 u2 v2 = C u2 v2) (h3 : ad' u2 v2 = ad u2 v2) : st_at ca ad' C1 u v u2 v2 t := by
  obtain ⟨f, g1, g2, q0, q1, q2⟩ := h
  exact ⟨f, g1, g2, by rw [h3]; exact h1.trans q0, h2.trans q1, q2⟩
theorem gw_at.more {ca : Nat → ClassId} {kS : Nat → Nat} {kT : Nat} {ad ad' : pw_A} {C C1 : pw_C} {cd : Nat → Option DT} {mk : Nat} {td : Nat → TT} (h : gw_at ca kS kT ad C cd mk td) (hmk : mk < 12) {t : TT} (hf : gm_fr mk ad C ad' C1) (h00 : C1 0 0 = some (.inr (0, [.ref (ad 1 0), .ref (ad 2 0), .ref (ad 3 0), .int (nI (mk + 1))]))) (h20 : C1 2 0 = some (.inl (ca 5, 12, .inr (.inr (.inr (.inr (va_up (gw_tf ad mk) mk (some (ad' 20 mk))))))))) (ht : tt_at ca kS ad' C1 mk t) : gw_at ca kS kT ad' C1 cd (mk + 1) (va_up td mk t) := by
  obtain ⟨g0, g1, g2, g3, g4, g5, g6, g7, g8⟩ := h
  obtain ⟨hf, hA⟩ := hf
  have e1 : gw_cf ad' cd = gw_cf ad cd := by funext i; simp [gw_cf, hA 10 i (by omega)]
  have e2 : va_up (gw_tf ad mk) mk (some (ad' 20 mk)) = gw_tf ad' (mk + 1) := by
    funext i
    by_cases hi : i = mk
    · subst hi; simp [va_up_self, gw_tf]
    · rw [va_up_ne _ _ hi]
      by_cases h2 : i < mk
      · simp [gw_tf, h2, show i < mk + 1 by omega, hA 20 i (by omega)]
      · simp [gw_tf, h2, show ¬ i < mk + 1 by omega]
  refine ⟨by rw [hA 1 0 (by omega), hA 2 0 (by omega), hA 3 0 (by omega)]; exact h00, by rw [e1]; exact (hf 1 0 (by omega) (by omega) (by omega)).trans g1, by rw [← e2]; exact h20, hmk, fun k d hk => ?_, fun i hi => ?_, fun i hi => ?_, (hf 52 0 (by omega) (by omega) (by omega)).trans g7, (hA 52 0 (by omega)).trans g8⟩
  · obtain ⟨q0, q1, q2, q3, q4, q5, q6⟩ := g4 k d hk
    exact ⟨q0, by rw [hA 15 k (by omega), hA 11 k (by omega), hA 12 k (by omega), hA 13 k (by omega), hA 14 k (by omega)]; exact (hf 10 k (by omega) (by omega) (by omega)).trans q1, (hf 11 k (by omega) (by omega) (by omega)).trans q2, (hf 12 k (by omega) (by omega) (by omega)).trans q3, (hf 13 k (by omega) (by omega) (by omega)).trans q4, (hf 14 k (by omega) (by omega) (by omega)).trans q5, q6.ad (hf 15 k (by omega) (by omega) (by omega)) (hf 16 k (by omega) (by omega) (by omega)) (hA 16 k (by omega))⟩
  · by_cases hij : i = mk
    · subst hij
      rw [va_up_self]
      exact ht
    · rw [va_up_ne _ _ hij]
      obtain ⟨q1, q2, q3, q4, q5⟩ := g5 i (by omega)
      have eta : tt_ta kS ad' i (td i) = tt_ta kS ad i (td i) := by unfold tt_ta; rw [hA 23 i (by omega)]
      exact ⟨by rw [eta, hA 21 i (by omega), hA 22 i (by omega)]; exact (hf 20 i (by omega) (by omega) (by omega)).trans q1, (hf 21 i (by omega) (by omega) (by omega)).trans q2, (hf 22 i (by omega) (by omega) (by omega)).trans q3, q4, fun z => (q5 z).ad (hf 23 i (by omega) (by omega) (by omega)) (hf 24 i (by omega) (by omega) (by omega)) (hA 24 i (by omega))⟩
  · exact ⟨(g6 i hi).1.ad (hf 50 i (by omega) (by omega) (by omega)) (hf 51 i (by omega) (by omega) (by omega)) (hA 51 i (by omega)), (hA 50 i (by omega)).trans (g6 i hi).2⟩
def ga_arr (n : Nat) (v so : Int32) : TT := (so, -1, n, fun j => if j < n then v else 0, tt_v0 (fun j => if j < n then v else 0) n, [], -1, 0)
def ga_array (mk : Nat) (td : Nat → TT) (rf len : Int32) : Int32 × Nat × (Nat → TT) := if len < 0 ∨ ¬ len ≤ (if rf = 0 then 6 else 4) then (-1, mk, td) else if 12 ≤ nI mk then (-2, mk, td) else (nI mk, mk + 1, va_up td mk (ga_arr len.toNatClampNeg (if rf = 0 then 2 else 7) (if rf = 0 then 2 else 3)))
set_option maxHeartbeats 4000000 in
set_option maxRecDepth 100000 in
theorem k_G_array {l : Launch} {D : va_G} {ca : Nat → ClassId} {kS : Nat → Nat} {kT : Nat} {ad : pw_A} {C : pw_C} {cd : Nat → Option DT} {mk : Nat} {td : Nat → TT} (hG : gw_at ca kS kT ad C cd mk td) (hnn : ∀ x, 19 < x → x < 25 → C x mk = none) (rf len : Int32) : gc_Con l y_G_array c_G_array ({ frames := 2, cells := 3, slots := 60, locals := 85 }) D ca (z9_Z kS kT) [.ref (ad 0 0), .int rf, .int len] ad C (pw_pi (fun r ad' C' => (gw_at ca kS kT ad' C' cd (ga_array mk td rf len).2.1 (ga_array mk td rf len).2.2 ∧ gm_fr mk ad C ad' C') ∧ r = (ga_array mk td rf len).1)) 3 60 := by
  have hZ := z9_ok kS kT
  have hG0 := hG
  obtain ⟨g00, g10, g20, hmk, hDD, hTT, hKK⟩ := hG
  refine pw_ofW (cc := b_G_array) (maxL := 4) (ret := (some FieldType.int)) (by decide) rfl (Nat.le_of_ble_eq_true rfl) ?_
  intro p e s m args below meth c A ls hB hA hw hK hz hl
  obtain ⟨hx, hb, hr, hml, hts0, hlocks, hown, hnm⟩ := hB
  have hts := wd_hts hts0
  have hown : s.vm.findClass "GraphWriter" = some m.cls := hown
  have hl : lv_has ls 4 [(0, .ref (ad 0 0)), (1, .int rf), (2, .int len)] := hl
  have hz0 := hz
  obtain ⟨hz1, hz2, hz3, hk0, hk1, hk2, hk3, hk4, hk5, hk6, hk7, hao1, hao2, hnw⟩ := hz0
  have n20 := hnn 20 (by decide) (by decide)
  have n21 := hnn 21 (by decide) (by decide)
  have n22 := hnn 22 (by decide) (by decide)
  have hfr : ∀ x y, ¬ x = 0 → ¬ x = 2 → ¬ ((19 < x ∧ x < 25) ∧ y = mk) → C x y = C x y := fun _ _ _ _ _ => rfl
  refine lv_iload_n hx hb d_G_array_0 rfl (lv_at hl 2 rfl) ?_
  refine lv_if_lt (tgt := 18) hx hb d_G_array_1 (by decide) (fun c_1 => ?_) (fun c_1 => ?_)
  · skip
    refine lv_iconst (v := (-1)) hx hb d_G_array_18 (by decide) ?_
    have e9 : ga_array mk td rf len = (-1, mk, td) := by exact if_pos (Or.inl c_1)
    refine W.widen (k := 3) (n := 60) (by omega) (by omega) ?_
    exact pw_iret hx hb hr hlocks hw ⟨⟨by rw [e9]; exact hG0, fun _ _ _ _ _ => rfl, fun _ _ _ => rfl⟩, by rw [e9]⟩ d_G_array_19
  · skip
    refine lv_iload_n hx hb d_G_array_4 rfl (lv_at hl 2 rfl) ?_
    refine lv_iload_n hx hb d_G_array_5 rfl (lv_at hl 1 rfl) ?_
    refine lv_if_eq (tgt := 13) hx hb d_G_array_6 (by decide) (fun c_2 => ?_) (fun c_2 => ?_)
    · skip
      refine lv_bipush (v := 6) hx hb d_G_array_13 (by decide) ?_
      refine lv_icmp_le (tgt := 20) hx hb d_G_array_15 (by decide) (fun c_3 => ?_) (fun c_3 => ?_)
      · skip
        have hlen : ¬ (len < 0 ∨ ¬ len ≤ (if rf = 0 then 6 else 4)) := by rintro (z | z); exact c_1 z; exact z (by rw [if_pos c_2]; exact c_3)
        refine lv_aload_n hx hb d_G_array_20 rfl (lv_at hl 0 rfl) ?_
        refine pw_get (Cn := "GraphWriter") (T := F_G) (N := 4) hx hb hts in_G hown hK hw 0 0 rfl g00 rfl 3 (by decide) (hts _ wd_143) (fun _ h9 => h9) rfl d_G_array_21 ?_
        refine lv_bipush (v := 12) hx hb d_G_array_24 (by decide) ?_
        refine lv_icmp_lt (tgt := 32) hx hb d_G_array_26 (by decide) (fun c_4 => ?_) (fun c_4 => ?_)
        · skip
          refine lv_iload_n hx hb d_G_array_32 rfl (lv_at hl 2 rfl) ?_
          obtain ⟨n9, hn9, hlen9⟩ : ∃ j : Nat, j ≤ 6 ∧ len = nI j := nI_of2 (M := 6) rfl c_1 c_3
          have e8 : len.toNatClampNeg = n9 := by rw [hlen9]; exact nI_clamp (by omega)
          have hmk9 : mk < 12 := (nI_ltI (by omega) (by decide)).mp c_4
          refine pw_newa (atype := .int) (ty := .int) (az := (n9, .inl (fun _ => 0))) hx hb (hts _ wd_127) rfl (fun t h => by cases h) hK hw hA 21 mk (by decide) n21 0 rfl (fun _ => rfl) hlen9 (by omega) (by show _ * 4 ≤ _; omega) (by (try dsimp only); omega) (by (try dsimp only); omega) d_G_array_33 (fun q_5 H hw => ?_)
          refine W.widen (k := 1) (n := 24) (by omega) (by omega) ?_
          obtain ⟨ad_6, had_6⟩ : ∃ z, z = pw_up ad 21 mk q_5 := ⟨_, rfl⟩
          rw [← had_6] at hw
          have hsad_6 : ad_6 21 mk = q_5 := by rw [had_6]; exact pw_up_self _ _ _ _
          have hadk : ∀ x y, ¬ (x = 21 ∧ y = mk) → ad_6 x y = ad x y := fun x y h9 => by rw [had_6]; exact pw_up_ne _ _ h9
          have hw : pw_H D cls9 A s.heap ad C ad_6 (pw_up C 21 mk (some (.inl (ca 0, n9, .inl (fun _ => 0))))) H _ := hw
          generalize hC_7 : pw_up C 21 mk (some (.inl (ca 0, n9, .inl (fun _ => 0)))) = C_7 at hw
          have g00 : C_7 0 0 = some (.inr (0, [.ref (ad 1 0), .ref (ad 2 0), .ref (ad 3 0), .int (nI mk)])) := by rw [← hC_7]; exact (pw_up_ne _ _ (by omega)).trans g00
          have g10 : C_7 1 0 = some (.inl (ca 4, 6, .inr (.inr (.inr (.inr (gw_cf ad cd)))))) := by rw [← hC_7]; exact (pw_up_ne _ _ (by omega)).trans g10
          have g20 : C_7 2 0 = some (.inl (ca 5, 12, .inr (.inr (.inr (.inr (gw_tf ad mk)))))) := by rw [← hC_7]; exact (pw_up_ne _ _ (by omega)).trans g20
          have p21 : C_7 21 mk = some (.inl (ca 0, n9, .inl (fun _ => 0))) := by rw [← hC_7]; exact pw_up_self _ _ _ _
          have hfr : ∀ x y, ¬ x = 0 → ¬ x = 2 → ¬ ((19 < x ∧ x < 25) ∧ y = mk) → C_7 x y = C x y := fun x y h0 h1 h2 => by rw [← hC_7]; exact (pw_up_ne _ _ (by omega)).trans (hfr x y h0 h1 h2)
          have n20 : C_7 20 mk = none := by rw [← hC_7]; exact (pw_up_ne _ _ (by omega)).trans n20
          have n22 : C_7 22 mk = none := by rw [← hC_7]; exact (pw_up_ne _ _ (by omega)).trans n22
          refine lv_astore_n (lv' := [(3, .ref q_5), (0, .ref (ad 0 0)), (1, .int rf), (2, .int len)]) hx hb d_G_array_35 rfl hl (by decide) rfl (fun ls hl => ?_)
          refine lv_aload_n hx hb d_G_array_36 rfl (lv_at hl 0 rfl) ?_
          refine lv_iload_n hx hb d_G_array_37 rfl (lv_at hl 2 rfl) ?_
          refine lv_if_eq (tgt := 46) hx hb d_G_array_38 (by decide) (fun c_8 => ?_) (fun c_8 => ?_)
          · skip
            refine lv_iconst (v := 2) hx hb d_G_array_46 (by decide) ?_
            rw [← hsad_6]
            refine pw_callv (va_runS (As := [.ref (ad_6 21 mk), .int 2]) (rest := []) ⟨hx, hb, hml, hown, hts0⟩ (k_JR_fill (ad := ad_6) (by decide) p21 (by omega) 2 _) (va_cwS 2 hts0 (wd_S wd_134 wd_536 wd_133 wd_55) rfl rfl rfl (by decide +kernel) ⟨Nat.le_of_ble_eq_true rfl, Nat.le_of_ble_eq_true rfl⟩) (pw_preS hZ hw hA hK hz) rfl rfl hl.1 rfl (lv_room (Nat.le_of_ble_eq_true rfl)) d_G_array_47 ⟨Nat.le_of_ble_eq_true rfl, Nat.le_of_ble_eq_true rfl⟩) hw hA (fun ad_9 C_10 H locs hp hw => ?_)
            obtain ⟨hae, hC9⟩ := hp
            rw [hae, hC9] at hw; clear hae
            have hw : pw_H D cls9 A s.heap ad C ad_6 (pw_up C_7 21 mk (some (.inl (ca 0, n9, .inl (fun j => if j < n9 then 2 else (fun _ => 0) j))))) H _ := hw
            generalize hC_12 : pw_up C_7 21 mk (some (.inl (ca 0, n9, .inl (fun j => if j < n9 then 2 else (fun _ => 0) j)))) = C_12 at hw
            have g00 : C_12 0 0 = some (.inr (0, [.ref (ad 1 0), .ref (ad 2 0), .ref (ad 3 0), .int (nI mk)])) := by rw [← hC_12]; exact (pw_up_ne _ _ (by omega)).trans g00
            have g10 : C_12 1 0 = some (.inl (ca 4, 6, .inr (.inr (.inr (.inr (gw_cf ad cd)))))) := by rw [← hC_12]; exact (pw_up_ne _ _ (by omega)).trans g10
            have g20 : C_12 2 0 = some (.inl (ca 5, 12, .inr (.inr (.inr (.inr (gw_tf ad mk)))))) := by rw [← hC_12]; exact (pw_up_ne _ _ (by omega)).trans g20
            have p21 : C_12 21 mk = some (.inl (ca 0, n9, .inl (fun j => if j < n9 then 2 else (fun _ => 0) j))) := by rw [← hC_12]; exact pw_up_self _ _ _ _
            have hfr : ∀ x y, ¬ x = 0 → ¬ x = 2 → ¬ ((19 < x ∧ x < 25) ∧ y = mk) → C_12 x y = C x y := fun x y h0 h1 h2 => by rw [← hC_12]; exact (pw_up_ne _ _ (by omega)).trans (hfr x y h0 h1 h2)
            have n20 : C_12 20 mk = none := by rw [← hC_12]; exact (pw_up_ne _ _ (by omega)).trans n20
            have n22 : C_12 22 mk = none := by rw [← hC_12]; exact (pw_up_ne _ _ (by omega)).trans n22
            have p21 : C_12 21 mk = some (.inl (ca 0, n9, .inl (fun j => if j < n9 then 2 else 0))) := p21
            refine lv_aload_n hx hb d_G_array_50 rfl (lv_at hl 1 rfl) ?_
            refine pw_new (ci := 3) (fs := [.int 0, .int 0, .null, .null, .null, .int 0, .int 0]) (Cn := "GraphWriter$Thing") (T := F_T) (N := 7) hx hb hts in_T ft_T to_T hown (hts _ wd_78) (hts _ wd_362) (hts _ wd_64) hK hw hA 20 mk (by decide) n20 rfl (fun j hj => by match j, hj with | 0, _ => rfl | 1, _ => rfl | 2, _ => rfl | 3, _ => rfl | 4, _ => rfl | 5, _ => rfl | 6, _ => rfl | j + 7, h => exact absurd h (by omega)) (by (try dsimp only); omega) (by (try dsimp only); omega) d_G_array_51 (fun q_13 H hw => ?_)
            refine W.widen (k := 2) (n := 31) (by omega) (by omega) ?_
            obtain ⟨ad_14, had_14⟩ : ∃ z, z = pw_up ad_6 20 mk q_13 := ⟨_, rfl⟩
            rw [← had_14] at hw
            have hsad_14 : ad_14 20 mk = q_13 := by rw [had_14]; exact pw_up_self _ _ _ _
            have hadk : ∀ x y, ¬ (x = 21 ∧ y = mk) → ¬ (x = 20 ∧ y = mk) → ad_14 x y = ad x y := fun x y e0 h9 => by rw [had_14]; exact (pw_up_ne _ _ h9).trans (hadk x y e0)
            have hq_q_5 : ad_14 21 mk = q_5 := by rw [had_14]; exact (pw_up_ne _ _ (by omega)).trans hsad_6
            have hw : pw_H D cls9 A s.heap ad C ad_14 (pw_up C_12 20 mk (some (.inr (3, [.int 0, .int 0, .null, .null, .null, .int 0, .int 0])))) H _ := hw
            generalize hC_15 : pw_up C_12 20 mk (some (.inr (3, [.int 0, .int 0, .null, .null, .null, .int 0, .int 0]))) = C_15 at hw
            have g00 : C_15 0 0 = some (.inr (0, [.ref (ad 1 0), .ref (ad 2 0), .ref (ad 3 0), .int (nI mk)])) := by rw [← hC_15]; exact (pw_up_ne _ _ (by omega)).trans g00
            have g10 : C_15 1 0 = some (.inl (ca 4, 6, .inr (.inr (.inr (.inr (gw_cf ad cd)))))) := by rw [← hC_15]; exact (pw_up_ne _ _ (by omega)).trans g10
            have g20 : C_15 2 0 = some (.inl (ca 5, 12, .inr (.inr (.inr (.inr (gw_tf ad mk)))))) := by rw [← hC_15]; exact (pw_up_ne _ _ (by omega)).trans g20
            have p21 : C_15 21 mk = some (.inl (ca 0, n9, .inl (fun j => if j < n9 then 2 else 0))) := by rw [← hC_15]; exact (pw_up_ne _ _ (by omega)).trans p21
            have p20 : C_15 20 mk = some (.inr (3, [.int 0, .int 0, .null, .null, .null, .int 0, .int 0])) := by rw [← hC_15]; exact pw_up_self _ _ _ _
            have hfr : ∀ x y, ¬ x = 0 → ¬ x = 2 → ¬ ((19 < x ∧ x < 25) ∧ y = mk) → C_15 x y = C x y := fun x y h0 h1 h2 => by rw [← hC_15]; exact (pw_up_ne _ _ (by omega)).trans (hfr x y h0 h1 h2)
            have n22 : C_15 22 mk = none := by rw [← hC_15]; exact (pw_up_ne _ _ (by omega)).trans n22
            refine lv_dup hx hb d_G_array_54 rfl ?_
            refine lv_iload_n hx hb d_G_array_55 rfl (lv_at hl 2 rfl) ?_
            refine lv_if_eq (tgt := 63) hx hb d_G_array_56 (by decide) (fun c_16 => ?_) (fun c_16 => ?_)
            · skip
              refine lv_iconst (v := 2) hx hb d_G_array_63 (by decide) ?_
              refine lv_iconst (v := (-1)) hx hb d_G_array_64 (by decide) ?_
              refine lv_aload_n hx hb d_G_array_65 rfl (lv_at hl 0 rfl) ?_
              refine va_ldcS (q := kS 6) (tx := "") hx hb hown hk6 d_G_array_66 ?_
              rw [← hsad_14, ← hq_q_5]
              refine pw_callv (va_runI (As := [.int 2, .int (-1), .ref (ad_14 21 mk), .ref (kS 6)]) (rest := [.ref (ad_14 20 mk), .ref (ad 0 0)]) ⟨hx, hb, hml, hown, hts0⟩ (k_T_init (ad := ad_14) p20 p21 n22 (by omega) 2 (-1) _) (cwI 4 hts0 (wd_sub wd_371) rfl rfl rfl (hts _ wd_64) (hts _ wd_369) (hts _ wd_370) rfl (by decide +kernel) ⟨(by (try dsimp only); omega), (by (try dsimp only); omega)⟩) (pw_preS hZ hw hA hK hz) rfl rfl hl.1 rfl (lv_room (Nat.le_of_ble_eq_true rfl)) d_G_array_68 ⟨(by (try dsimp only); omega), (by (try dsimp only); omega)⟩) hw hA (fun ad_17 C_18 H locs hp hw => ?_)
              refine W.widen (k := 3) (n := 60) (by omega) (by omega) ?_
              obtain ⟨q_19, hae, t20, t22, hf9⟩ := hp
              rw [hae] at hw; clear hae
              rw [hq_q_5] at t20
              rw [hsad_14]
              have g00 : C_18 0 0 = some (.inr (0, [.ref (ad 1 0), .ref (ad 2 0), .ref (ad 3 0), .int (nI mk)])) := (hf9 0 0 (by omega) (by omega)).trans g00
              have g10 : C_18 1 0 = some (.inl (ca 4, 6, .inr (.inr (.inr (.inr (gw_cf ad cd)))))) := (hf9 1 0 (by omega) (by omega)).trans g10
              have g20 : C_18 2 0 = some (.inl (ca 5, 12, .inr (.inr (.inr (.inr (gw_tf ad mk)))))) := (hf9 2 0 (by omega) (by omega)).trans g20
              have p21 : C_18 21 mk = some (.inl (ca 0, n9, .inl (fun j => if j < n9 then 2 else 0))) := (hf9 21 mk (by omega) (by omega)).trans p21
              have hfr : ∀ x y, ¬ x = 0 → ¬ x = 2 → ¬ ((19 < x ∧ x < 25) ∧ y = mk) → C_18 x y = C x y := fun x y a b c => (hf9 x y (by omega) (by omega)).trans (hfr x y a b c)
              obtain ⟨ad_20, had_20⟩ : ∃ z, z = pw_up ad_14 22 mk q_19 := ⟨_, rfl⟩
              rw [← had_20] at hw
              have hsad_20 : ad_20 22 mk = q_19 := by rw [had_20]; exact pw_up_self _ _ _ _
              have hadk : ∀ x y, ¬ (x = 21 ∧ y = mk) → ¬ (x = 20 ∧ y = mk) → ¬ (x = 22 ∧ y = mk) → ad_20 x y = ad x y := fun x y e0 e1 h9 => by rw [had_20]; exact (pw_up_ne _ _ h9).trans (hadk x y e0 e1)
              have hq_q_5 : ad_20 21 mk = q_5 := by rw [had_20]; exact (pw_up_ne _ _ (by omega)).trans hq_q_5
              have hq_q_13 : ad_20 20 mk = q_13 := by rw [had_20]; exact (pw_up_ne _ _ (by omega)).trans hsad_14
              have p20 : C_18 20 mk = some (.inr (3, [.int 2, .int (-1), .ref q_5, .ref q_19, .ref (kS 6), .int (-1), .int 0])) := t20
              have p22 : C_18 22 mk = some (.inl (ca 1, n9, .inr (.inl (tt_v0 (fun j => if j < n9 then 2 else 0) n9)))) := t22
              rw [← hq_q_13, ← hadk 0 0 (by omega) (by omega) (by omega)]
              refine pw_calli (va_runV (As := [.ref (ad_20 20 mk)]) (rest := []) ⟨hx, hb, hml, hown, hts0⟩ (k_G_keep (ad := ad_20) (b1 := ad 1 0) (b3 := ad 3 0) (by rw [hadk 2 0 (by omega) (by omega) (by omega)]; exact g00) g20 hmk9 p20 _) (cwV 1 hts0 (wd_V wd_406 wd_403 wd_405 wd_6 wd_53) rfl rfl rfl (by decide +kernel) ⟨(by (try dsimp only); omega), (by (try dsimp only); omega)⟩) (pw_preV hZ hw hA hK hz rfl g00 rfl) rfl rfl hl.1 rfl (lv_room (Nat.le_of_ble_eq_true rfl)) d_G_array_71 ⟨(by (try dsimp only); omega), (by (try dsimp only); omega)⟩) hw hA (fun r_23 ad_21 C_22 H locs hp hw => ?_)
              obtain ⟨⟨hae, g00, g20, hf9⟩, hre⟩ := hp
              rw [hae] at hw; clear hae
              rw [hre]
              have g10 : C_22 1 0 = some (.inl (ca 4, 6, .inr (.inr (.inr (.inr (gw_cf ad cd)))))) := (hf9 1 0 (by omega) (by omega)).trans g10
              have p21 : C_22 21 mk = some (.inl (ca 0, n9, .inl (fun j => if j < n9 then 2 else 0))) := (hf9 21 mk (by omega) (by omega)).trans p21
              have p20 : C_22 20 mk = some (.inr (3, [.int 2, .int (-1), .ref q_5, .ref q_19, .ref (kS 6), .int (-1), .int 0])) := (hf9 20 mk (by omega) (by omega)).trans p20
              have p22 : C_22 22 mk = some (.inl (ca 1, n9, .inr (.inl (tt_v0 (fun j => if j < n9 then 2 else 0) n9)))) := (hf9 22 mk (by omega) (by omega)).trans p22
              have hfr : ∀ x y, ¬ x = 0 → ¬ x = 2 → ¬ ((19 < x ∧ x < 25) ∧ y = mk) → C_22 x y = C x y := fun x y a b c => (hf9 x y (by omega) (by omega)).trans (hfr x y a b c)
              rw [hadk 2 0 (by omega) (by omega) (by omega)] at g00
              have e9 : ga_array mk td rf len = (nI mk, mk + 1, va_up td mk (ga_arr n9 2 2)) := by unfold ga_array; rw [if_neg hlen, if_neg (Int32.not_le.mpr c_4), e8, if_pos c_2, if_pos c_2]
              refine pw_iret hx hb hr hlocks hw ⟨⟨?_, hfr, fun x y h => hadk x y (by omega) (by omega) (by omega)⟩, by rw [e9]⟩ d_G_array_74
              rw [e9]
              refine hG0.more hmk9 ⟨hfr, fun x y h => hadk x y (by omega) (by omega) (by omega)⟩ g00 g20 ⟨?_, p21, p22, by show n9 ≤ 24; omega, fun z => absurd z (by show ¬ ((2 : Int32) = 1 ∨ (2 : Int32) = 4); decide)⟩
              rw [hq_q_5, hsad_20]; exact p20
            · exact absurd c_2 c_16
          · exact absurd c_2 c_8
        · skip
          refine lv_bipush (v := (-2)) hx hb d_G_array_29 (by decide) ?_
          have e9 : ga_array mk td rf len = (-2, mk, td) := by unfold ga_array; rw [if_neg hlen, if_pos (Int32.not_lt.mp c_4)]
          refine W.widen (k := 3) (n := 60) (by omega) (by omega) ?_
          exact pw_iret hx hb hr hlocks hw ⟨⟨by rw [e9]; exact hG0, fun _ _ _ _ _ => rfl, fun _ _ _ => rfl⟩, by rw [e9]⟩ d_G_array_31
      · skip
        refine lv_iconst (v := (-1)) hx hb d_G_array_18 (by decide) ?_
        have e9 : ga_array mk td rf len = (-1, mk, td) := by exact if_pos (Or.inr (by rw [if_pos c_2]; exact c_3))
        refine W.widen (k := 3) (n := 60) (by omega) (by omega) ?_
        exact pw_iret hx hb hr hlocks hw ⟨⟨by rw [e9]; exact hG0, fun _ _ _ _ _ => rfl, fun _ _ _ => rfl⟩, by rw [e9]⟩ d_G_array_19
    · skip
      refine lv_iconst (v := 4) hx hb d_G_array_9 (by decide) ?_
      refine lv_goto (tgt := 15) hx hb d_G_array_10 (by decide) ?_
      refine lv_icmp_le (tgt := 20) hx hb d_G_array_15 (by decide) (fun c_24 => ?_) (fun c_24 => ?_)
      · skip
        have hlen : ¬ (len < 0 ∨ ¬ len ≤ (if rf = 0 then 6 else 4)) := by rintro (z | z); exact c_1 z; exact z (by rw [if_neg c_2]; exact c_24)
        refine lv_aload_n hx hb d_G_array_20 rfl (lv_at hl 0 rfl) ?_
        refine pw_get (Cn := "GraphWriter") (T := F_G) (N := 4) hx hb hts in_G hown hK hw 0 0 rfl g00 rfl 3 (by decide) (hts _ wd_143) (fun _ h9 => h9) rfl d_G_array_21 ?_
        refine lv_bipush (v := 12) hx hb d_G_array_24 (by decide) ?_
        refine lv_icmp_lt (tgt := 32) hx hb d_G_array_26 (by decide) (fun c_25 => ?_) (fun c_25 => ?_)
        · skip
          refine lv_iload_n hx hb d_G_array_32 rfl (lv_at hl 2 rfl) ?_
          obtain ⟨n9, hn9, hlen9⟩ : ∃ j : Nat, j ≤ 4 ∧ len = nI j := nI_of2 (M := 4) rfl c_1 c_24
          have e8 : len.toNatClampNeg = n9 := by rw [hlen9]; exact nI_clamp (by omega)
          have hmk9 : mk < 12 := (nI_ltI (by omega) (by decide)).mp c_25
          refine pw_newa (atype := .int) (ty := .int) (az := (n9, .inl (fun _ => 0))) hx hb (hts _ wd_127) rfl (fun t h => by cases h) hK hw hA 21 mk (by decide) n21 0 rfl (fun _ => rfl) hlen9 (by omega) (by show _ * 4 ≤ _; omega) (by (try dsimp only); omega) (by (try dsimp only); omega) d_G_array_33 (fun q_26 H hw => ?_)
          refine W.widen (k := 1) (n := 24) (by omega) (by omega) ?_
          obtain ⟨ad_27, had_27⟩ : ∃ z, z = pw_up ad 21 mk q_26 := ⟨_, rfl⟩
          rw [← had_27] at hw
          have hsad_27 : ad_27 21 mk = q_26 := by rw [had_27]; exact pw_up_self _ _ _ _
          have hadk : ∀ x y, ¬ (x = 21 ∧ y = mk) → ad_27 x y = ad x y := fun x y h9 => by rw [had_27]; exact pw_up_ne _ _ h9
          have hw : pw_H D cls9 A s.heap ad C ad_27 (pw_up C 21 mk (some (.inl (ca 0, n9, .inl (fun _ => 0))))) H _ := hw
          generalize hC_28 : pw_up C 21 mk (some (.inl (ca 0, n9, .inl (fun _ => 0)))) = C_28 at hw
          have g00 : C_28 0 0 = some (.inr (0, [.ref (ad 1 0), .ref (ad 2 0), .ref (ad 3 0), .int (nI mk)])) := by rw [← hC_28]; exact (pw_up_ne _ _ (by omega)).trans g00
          have g10 : C_28 1 0 = some (.inl (ca 4, 6, .inr (.inr (.inr (.inr (gw_cf ad cd)))))) := by rw [← hC_28]; exact (pw_up_ne _ _ (by omega)).trans g10
          have g20 : C_28 2 0 = some (.inl (ca 5, 12, .inr (.inr (.inr (.inr (gw_tf ad mk)))))) := by rw [← hC_28]; exact (pw_up_ne _ _ (by omega)).trans g20
          have p21 : C_28 21 mk = some (.inl (ca 0, n9, .inl (fun _ => 0))) := by rw [← hC_28]; exact pw_up_self _ _ _ _
          have hfr : ∀ x y, ¬ x = 0 → ¬ x = 2 → ¬ ((19 < x ∧ x < 25) ∧ y = mk) → C_28 x y = C x y := fun x y h0 h1 h2 => by rw [← hC_28]; exact (pw_up_ne _ _ (by omega)).trans (hfr x y h0 h1 h2)
          have n20 : C_28 20 mk = none := by rw [← hC_28]; exact (pw_up_ne _ _ (by omega)).trans n20
          have n22 : C_28 22 mk = none := by rw [← hC_28]; exact (pw_up_ne _ _ (by omega)).trans n22
          refine lv_astore_n (lv' := [(3, .ref q_26), (0, .ref (ad 0 0)), (1, .int rf), (2, .int len)]) hx hb d_G_array_35 rfl hl (by decide) rfl (fun ls hl => ?_)
          refine lv_aload_n hx hb d_G_array_36 rfl (lv_at hl 0 rfl) ?_
          refine lv_iload_n hx hb d_G_array_37 rfl (lv_at hl 2 rfl) ?_
          refine lv_if_eq (tgt := 46) hx hb d_G_array_38 (by decide) (fun c_29 => ?_) (fun c_29 => ?_)
          · exact absurd c_29 c_2
          · skip
            refine lv_bipush (v := 7) hx hb d_G_array_41 (by decide) ?_
            refine lv_goto (tgt := 47) hx hb d_G_array_43 (by decide) ?_
            rw [← hsad_27]
            refine pw_callv (va_runS (As := [.ref (ad_27 21 mk), .int 7]) (rest := []) ⟨hx, hb, hml, hown, hts0⟩ (k_JR_fill (ad := ad_27) (by decide) p21 (by omega) 7 _) (va_cwS 2 hts0 (wd_S wd_134 wd_536 wd_133 wd_55) rfl rfl rfl (by decide +kernel) ⟨Nat.le_of_ble_eq_true rfl, Nat.le_of_ble_eq_true rfl⟩) (pw_preS hZ hw hA hK hz) rfl rfl hl.1 rfl (lv_room (Nat.le_of_ble_eq_true rfl)) d_G_array_47 ⟨Nat.le_of_ble_eq_true rfl, Nat.le_of_ble_eq_true rfl⟩) hw hA (fun ad_30 C_31 H locs hp hw => ?_)
            obtain ⟨hae, hC9⟩ := hp
            rw [hae, hC9] at hw; clear hae
            have hw : pw_H D cls9 A s.heap ad C ad_27 (pw_up C_28 21 mk (some (.inl (ca 0, n9, .inl (fun j => if j < n9 then 7 else (fun _ => 0) j))))) H _ := hw
            generalize hC_33 : pw_up C_28 21 mk (some (.inl (ca 0, n9, .inl (fun j => if j < n9 then 7 else (fun _ => 0) j)))) = C_33 at hw
            have g00 : C_33 0 0 = some (.inr (0, [.ref (ad 1 0), .ref (ad 2 0), .ref (ad 3 0), .int (nI mk)])) := by rw [← hC_33]; exact (pw_up_ne _ _ (by omega)).trans g00
            have g10 : C_33 1 0 = some (.inl (ca 4, 6, .inr (.inr (.inr (.inr (gw_cf ad cd)))))) := by rw [← hC_33]; exact (pw_up_ne _ _ (by omega)).trans g10
            have g20 : C_33 2 0 = some (.inl (ca 5, 12, .inr (.inr (.inr (.inr (gw_tf ad mk)))))) := by rw [← hC_33]; exact (pw_up_ne _ _ (by omega)).trans g20
            have p21 : C_33 21 mk = some (.inl (ca 0, n9, .inl (fun j => if j < n9 then 7 else (fun _ => 0) j))) := by rw [← hC_33]; exact pw_up_self _ _ _ _
            have hfr : ∀ x y, ¬ x = 0 → ¬ x = 2 → ¬ ((19 < x ∧ x < 25) ∧ y = mk) → C_33 x y = C x y := fun x y h0 h1 h2 => by rw [← hC_33]; exact (pw_up_ne _ _ (by omega)).trans (hfr x y h0 h1 h2)
            have n20 : C_33 20 mk = none := by rw [← hC_33]; exact (pw_up_ne _ _ (by omega)).trans n20
            have n22 : C_33 22 mk = none := by rw [← hC_33]; exact (pw_up_ne _ _ (by omega)).trans n22
            have p21 : C_33 21 mk = some (.inl (ca 0, n9, .inl (fun j => if j < n9 then 7 else 0))) := p21
            refine lv_aload_n hx hb d_G_array_50 rfl (lv_at hl 1 rfl) ?_
            refine pw_new (ci := 3) (fs := [.int 0, .int 0, .null, .null, .null, .int 0, .int 0]) (Cn := "GraphWriter$Thing") (T := F_T) (N := 7) hx hb hts in_T ft_T to_T hown (hts _ wd_78) (hts _ wd_362) (hts _ wd_64) hK hw hA 20 mk (by decide) n20 rfl (fun j hj => by match j, hj with | 0, _ => rfl | 1, _ => rfl | 2, _ => rfl | 3, _ => rfl | 4, _ => rfl | 5, _ => rfl | 6, _ => rfl | j + 7, h => exact absurd h (by omega)) (by (try dsimp only); omega) (by (try dsimp only); omega) d_G_array_51 (fun q_34 H hw => ?_)
            refine W.widen (k := 2) (n := 31) (by omega) (by omega) ?_
            obtain ⟨ad_35, had_35⟩ : ∃ z, z = pw_up ad_27 20 mk q_34 := ⟨_, rfl⟩
            rw [← had_35] at hw
            have hsad_35 : ad_35 20 mk = q_34 := by rw [had_35]; exact pw_up_self _ _ _ _
            have hadk : ∀ x y, ¬ (x = 21 ∧ y = mk) → ¬ (x = 20 ∧ y = mk) → ad_35 x y = ad x y := fun x y e0 h9 => by rw [had_35]; exact (pw_up_ne _ _ h9).trans (hadk x y e0)
            have hq_q_26 : ad_35 21 mk = q_26 := by rw [had_35]; exact (pw_up_ne _ _ (by omega)).trans hsad_27
            have hw : pw_H D cls9 A s.heap ad C ad_35 (pw_up C_33 20 mk (some (.inr (3, [.int 0, .int 0, .null, .null, .null, .int 0, .int 0])))) H _ := hw
            generalize hC_36 : pw_up C_33 20 mk (some (.inr (3, [.int 0, .int 0, .null, .null, .null, .int 0, .int 0]))) = C_36 at hw
            have g00 : C_36 0 0 = some (.inr (0, [.ref (ad 1 0), .ref (ad 2 0), .ref (ad 3 0), .int (nI mk)])) := by rw [← hC_36]; exact (pw_up_ne _ _ (by omega)).trans g00
            have g10 : C_36 1 0 = some (.inl (ca 4, 6, .inr (.inr (.inr (.inr (gw_cf ad cd)))))) := by rw [← hC_36]; exact (pw_up_ne _ _ (by omega)).trans g10
            have g20 : C_36 2 0 = some (.inl (ca 5, 12, .inr (.inr (.inr (.inr (gw_tf ad mk)))))) := by rw [← hC_36]; exact (pw_up_ne _ _ (by omega)).trans g20
            have p21 : C_36 21 mk = some (.inl (ca 0, n9, .inl (fun j => if j < n9 then 7 else 0))) := by rw [← hC_36]; exact (pw_up_ne _ _ (by omega)).trans p21
            have p20 : C_36 20 mk = some (.inr (3, [.int 0, .int 0, .null, .null, .null, .int 0, .int 0])) := by rw [← hC_36]; exact pw_up_self _ _ _ _
            have hfr : ∀ x y, ¬ x = 0 → ¬ x = 2 → ¬ ((19 < x ∧ x < 25) ∧ y = mk) → C_36 x y = C x y := fun x y h0 h1 h2 => by rw [← hC_36]; exact (pw_up_ne _ _ (by omega)).trans (hfr x y h0 h1 h2)
            have n22 : C_36 22 mk = none := by rw [← hC_36]; exact (pw_up_ne _ _ (by omega)).trans n22
            refine lv_dup hx hb d_G_array_54 rfl ?_
            refine lv_iload_n hx hb d_G_array_55 rfl (lv_at hl 2 rfl) ?_
            refine lv_if_eq (tgt := 63) hx hb d_G_array_56 (by decide) (fun c_37 => ?_) (fun c_37 => ?_)
            · exact absurd c_37 c_2
            · skip
              refine lv_iconst (v := 3) hx hb d_G_array_59 (by decide) ?_
              refine lv_goto (tgt := 64) hx hb d_G_array_60 (by decide) ?_
              refine lv_iconst (v := (-1)) hx hb d_G_array_64 (by decide) ?_
              refine lv_aload_n hx hb d_G_array_65 rfl (lv_at hl 0 rfl) ?_
              refine va_ldcS (q := kS 6) (tx := "") hx hb hown hk6 d_G_array_66 ?_
              rw [← hsad_35, ← hq_q_26]
              refine pw_callv (va_runI (As := [.int 3, .int (-1), .ref (ad_35 21 mk), .ref (kS 6)]) (rest := [.ref (ad_35 20 mk), .ref (ad 0 0)]) ⟨hx, hb, hml, hown, hts0⟩ (k_T_init (ad := ad_35) p20 p21 n22 (by omega) 3 (-1) _) (cwI 4 hts0 (wd_sub wd_371) rfl rfl rfl (hts _ wd_64) (hts _ wd_369) (hts _ wd_370) rfl (by decide +kernel) ⟨(by (try dsimp only); omega), (by (try dsimp only); omega)⟩) (pw_preS hZ hw hA hK hz) rfl rfl hl.1 rfl (lv_room (Nat.le_of_ble_eq_true rfl)) d_G_array_68 ⟨(by (try dsimp only); omega), (by (try dsimp only); omega)⟩) hw hA (fun ad_38 C_39 H locs hp hw => ?_)
              refine W.widen (k := 3) (n := 60) (by omega) (by omega) ?_
              obtain ⟨q_40, hae, t20, t22, hf9⟩ := hp
              rw [hae] at hw; clear hae
              rw [hq_q_26] at t20
              rw [hsad_35]
              have g00 : C_39 0 0 = some (.inr (0, [.ref (ad 1 0), .ref (ad 2 0), .ref (ad 3 0), .int (nI mk)])) := (hf9 0 0 (by omega) (by omega)).trans g00
              have g10 : C_39 1 0 = some (.inl (ca 4, 6, .inr (.inr (.inr (.inr (gw_cf ad cd)))))) := (hf9 1 0 (by omega) (by omega)).trans g10
              have g20 : C_39 2 0 = some (.inl (ca 5, 12, .inr (.inr (.inr (.inr (gw_tf ad mk)))))) := (hf9 2 0 (by omega) (by omega)).trans g20
              have p21 : C_39 21 mk = some (.inl (ca 0, n9, .inl (fun j => if j < n9 then 7 else 0))) := (hf9 21 mk (by omega) (by omega)).trans p21
              have hfr : ∀ x y, ¬ x = 0 → ¬ x = 2 → ¬ ((19 < x ∧ x < 25) ∧ y = mk) → C_39 x y = C x y := fun x y a b c => (hf9 x y (by omega) (by omega)).trans (hfr x y a b c)
              obtain ⟨ad_41, had_41⟩ : ∃ z, z = pw_up ad_35 22 mk q_40 := ⟨_, rfl⟩
              rw [← had_41] at hw
              have hsad_41 : ad_41 22 mk = q_40 := by rw [had_41]; exact pw_up_self _ _ _ _
              have hadk : ∀ x y, ¬ (x = 21 ∧ y = mk) → ¬ (x = 20 ∧ y = mk) → ¬ (x = 22 ∧ y = mk) → ad_41 x y = ad x y := fun x y e0 e1 h9 => by rw [had_41]; exact (pw_up_ne _ _ h9).trans (hadk x y e0 e1)
              have hq_q_26 : ad_41 21 mk = q_26 := by rw [had_41]; exact (pw_up_ne _ _ (by omega)).trans hq_q_26
              have hq_q_34 : ad_41 20 mk = q_34 := by rw [had_41]; exact (pw_up_ne _ _ (by omega)).trans hsad_35
              have p20 : C_39 20 mk = some (.inr (3, [.int 3, .int (-1), .ref q_26, .ref q_40, .ref (kS 6), .int (-1), .int 0])) := t20
              have p22 : C_39 22 mk = some (.inl (ca 1, n9, .inr (.inl (tt_v0 (fun j => if j < n9 then 7 else 0) n9)))) := t22
              rw [← hq_q_34, ← hadk 0 0 (by omega) (by omega) (by omega)]
              refine pw_calli (va_runV (As := [.ref (ad_41 20 mk)]) (rest := []) ⟨hx, hb, hml, hown, hts0⟩ (k_G_keep (ad := ad_41) (b1 := ad 1 0) (b3 := ad 3 0) (by rw [hadk 2 0 (by omega) (by omega) (by omega)]; exact g00) g20 hmk9 p20 _) (cwV 1 hts0 (wd_V wd_406 wd_403 wd_405 wd_6 wd_53) rfl rfl rfl (by decide +kernel) ⟨(by (try dsimp only); omega), (by (try dsimp only); omega)⟩) (pw_preV hZ hw hA hK hz rfl g00 rfl) rfl rfl hl.1 rfl (lv_room (Nat.le_of_ble_eq_true rfl)) d_G_array_71 ⟨(by (try dsimp only); omega), (by (try dsimp only); omega)⟩) hw hA (fun r_44 ad_42 C_43 H locs hp hw => ?_)
              obtain ⟨⟨hae, g00, g20, hf9⟩, hre⟩ := hp
              rw [hae] at hw; clear hae
              rw [hre]
              have g10 : C_43 1 0 = some (.inl (ca 4, 6, .inr (.inr (.inr (.inr (gw_cf ad cd)))))) := (hf9 1 0 (by omega) (by omega)).trans g10
              have p21 : C_43 21 mk = some (.inl (ca 0, n9, .inl (fun j => if j < n9 then 7 else 0))) := (hf9 21 mk (by omega) (by omega)).trans p21
              have p20 : C_43 20 mk = some (.inr (3, [.int 3, .int (-1), .ref q_26, .ref q_40, .ref (kS 6), .int (-1), .int 0])) := (hf9 20 mk (by omega) (by omega)).trans p20
              have p22 : C_43 22 mk = some (.inl (ca 1, n9, .inr (.inl (tt_v0 (fun j => if j < n9 then 7 else 0) n9)))) := (hf9 22 mk (by omega) (by omega)).trans p22
              have hfr : ∀ x y, ¬ x = 0 → ¬ x = 2 → ¬ ((19 < x ∧ x < 25) ∧ y = mk) → C_43 x y = C x y := fun x y a b c => (hf9 x y (by omega) (by omega)).trans (hfr x y a b c)
              rw [hadk 2 0 (by omega) (by omega) (by omega)] at g00
              have e9 : ga_array mk td rf len = (nI mk, mk + 1, va_up td mk (ga_arr n9 7 3)) := by unfold ga_array; rw [if_neg hlen, if_neg (Int32.not_le.mpr c_25), e8, if_neg c_2, if_neg c_2]
              refine pw_iret hx hb hr hlocks hw ⟨⟨?_, hfr, fun x y h => hadk x y (by omega) (by omega) (by omega)⟩, by rw [e9]⟩ d_G_array_74
              rw [e9]
              refine hG0.more hmk9 ⟨hfr, fun x y h => hadk x y (by omega) (by omega) (by omega)⟩ g00 g20 ⟨?_, p21, p22, by show n9 ≤ 24; omega, fun z => absurd z (by show ¬ ((3 : Int32) = 1 ∨ (3 : Int32) = 4); decide)⟩
              rw [hq_q_26, hsad_41]; exact p20
        · skip
          refine lv_bipush (v := (-2)) hx hb d_G_array_29 (by decide) ?_
          have e9 : ga_array mk td rf len = (-2, mk, td) := by unfold ga_array; rw [if_neg hlen, if_pos (Int32.not_lt.mp c_25)]
          refine W.widen (k := 3) (n := 60) (by omega) (by omega) ?_
          exact pw_iret hx hb hr hlocks hw ⟨⟨by rw [e9]; exact hG0, fun _ _ _ _ _ => rfl, fun _ _ _ => rfl⟩, by rw [e9]⟩ d_G_array_31
      · skip
        refine lv_iconst (v := (-1)) hx hb d_G_array_18 (by decide) ?_
        have e9 : ga_array mk td rf len = (-1, mk, td) := by exact if_pos (Or.inr (by rw [if_neg c_2]; exact c_24))
        refine W.widen (k := 3) (n := 60) (by omega) (by omega) ?_
        exact pw_iret hx hb hr hlocks hw ⟨⟨by rw [e9]; exact hG0, fun _ _ _ _ _ => rfl, fun _ _ _ => rfl⟩, by rw [e9]⟩ d_G_array_19
