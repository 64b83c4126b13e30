theorem gw_at.widek {ca : Nat → ClassId} {kS : Nat → Nat} {kT : Nat} {ad ad' : pw_A} {C C1 : pw_C} {cd : Nat → Option DT} {mk : Nat} {td : Nat → TT} (h : gw_at ca kS kT ad C cd mk td) {k0 : Nat} (hk0 : cd k0 = none) (hf : ∀ x y, ¬ ((9 < x ∧ x < 17) ∧ y = k0) → C1 x y = C x y) (hA : ∀ x y, ¬ ((9 < x ∧ x < 17) ∧ y = k0) → ad' x y = ad x y) : gw_at ca kS kT ad' C1 cd mk td := by
  obtain ⟨g0, g1, g2, g3, g4, g5, g6, g7, g8⟩ := h
  have e1 : gw_cf ad' cd = gw_cf ad cd := by
    funext i
    by_cases hi : i = k0
    · subst hi; simp [gw_cf, hk0]
    · simp [gw_cf, hA 10 i (by omega)]
  have e2 : gw_tf ad' mk = gw_tf ad mk := by funext i; simp [gw_tf, hA 20 i (by omega)]
  refine ⟨by rw [hA 1 0 (by omega), hA 2 0 (by omega), hA 3 0 (by omega)]; exact (hf 0 0 (by omega)).trans g0, by rw [e1]; exact (hf 1 0 (by omega)).trans g1, by rw [e2]; exact (hf 2 0 (by omega)).trans g2, g3, fun k d hk => ?_, fun i hi => ?_, fun i hi => ?_, (hf 52 0 (by omega)).trans g7, (hA 52 0 (by omega)).trans g8⟩
  · have hkk : ¬ k = k0 := by rintro rfl; rw [hk0] at hk; exact absurd hk (by simp)
    obtain ⟨q0, q1, q2, q3, q4, q5, q6⟩ := g4 k d hk
    exact ⟨q0, by rw [hA 15 k (by omega), hA 11 k (by omega), hA 12 k (by omega), hA 13 k (by omega), hA 14 k (by omega)]; exact (hf 10 k (by omega)).trans q1, (hf 11 k (by omega)).trans q2, (hf 12 k (by omega)).trans q3, (hf 13 k (by omega)).trans q4, (hf 14 k (by omega)).trans q5, q6.ad (hf 15 k (by omega)) (hf 16 k (by omega)) (hA 16 k (by omega))⟩
  · obtain ⟨q1, q2, q3, q4, q5⟩ := g5 i hi
    have eta : tt_ta kS ad' i (td i) = tt_ta kS ad i (td i) := by unfold tt_ta; rw [hA 23 i (by omega)]
    exact ⟨by rw [eta, hA 21 i (by omega), hA 22 i (by omega)]; exact (hf 20 i (by omega)).trans q1, (hf 21 i (by omega)).trans q2, (hf 22 i (by omega)).trans q3, q4, fun z => (q5 z).ad (hf 23 i (by omega)) (hf 24 i (by omega)) (hA 24 i (by omega))⟩
  · exact ⟨(g6 i hi).1.ad (hf 50 i (by omega)) (hf 51 i (by omega)) (hA 51 i (by omega)), (hA 50 i (by omega)).trans (g6 i hi).2⟩
theorem gw_at.newk {ca : Nat → ClassId} {kS : Nat → Nat} {kT : Nat} {ad ad' : pw_A} {C C1 : pw_C} {cd : Nat → Option DT} {mk : Nat} {td : Nat → TT} (h : gw_at ca kS kT ad C cd mk td) {k0 : Nat} (hk6 : k0 < 6) (hk0 : cd k0 = none) {d0 : DT} (hf : ∀ x y, ¬ x = 1 → ¬ ((9 < x ∧ x < 17) ∧ y = k0) → C1 x y = C x y) (hA : ∀ x y, ¬ ((9 < x ∧ x < 17) ∧ y = k0) → ad' x y = ad x y) (h10 : C1 1 0 = some (.inl (ca 4, 6, .inr (.inr (.inr (.inr (va_up (gw_cf ad cd) k0 (some (ad' 10 k0))))))))) (hd : dd_at ca ad' C1 k0 d0) : gw_at ca kS kT ad' C1 (va_up cd k0 (some d0)) mk td := by
  obtain ⟨g0, g1, g2, g3, g4, g5, g6, g7, g8⟩ := h
  have e1 : va_up (gw_cf ad cd) k0 (some (ad' 10 k0)) = gw_cf ad' (va_up cd k0 (some d0)) := by
    funext i
    by_cases hi : i = k0
    · subst hi; simp [gw_cf, va_up_self]
    · simp [gw_cf, va_up_ne _ _ hi, hA 10 i (by omega)]
  have e2 : gw_tf ad' mk = gw_tf ad mk := by funext i; simp [gw_tf, hA 20 i (by omega)]
  refine ⟨by rw [hA 1 0 (by omega), hA 2 0 (by omega), hA 3 0 (by omega)]; exact (hf 0 0 (by omega) (by omega)).trans g0, by rw [← e1]; exact h10, by rw [e2]; exact (hf 2 0 (by omega) (by omega)).trans g2, g3, fun k d hk => ?_, fun i hi => ?_, fun i hi => ?_, (hf 52 0 (by omega) (by omega)).trans g7, (hA 52 0 (by omega)).trans g8⟩
  · by_cases hkk : k = k0
    · subst hkk
      rw [va_up_self] at hk
      obtain rfl := Option.some.inj hk
      exact ⟨hk6, hd⟩
    · rw [va_up_ne _ _ hkk] at hk
      obtain ⟨q0, q1, q2, q3, q4, q5, q6⟩ := g4 k d hk
      exact ⟨q0, by rw [hA 15 k (by omega), hA 11 k (by omega), hA 12 k (by omega), hA 13 k (by omega), hA 14 k (by omega)]; exact (hf 10 k (by omega) (by omega)).trans q1, (hf 11 k (by omega) (by omega)).trans q2, (hf 12 k (by omega) (by omega)).trans q3, (hf 13 k (by omega) (by omega)).trans q4, (hf 14 k (by omega) (by omega)).trans q5, q6.ad (hf 15 k (by omega) (by omega)) (hf 16 k (by omega) (by omega)) (hA 16 k (by omega))⟩
  · obtain ⟨q1, q2, q3, q4, q5⟩ := g5 i hi
    have eta : tt_ta kS ad' i (td i) = tt_ta kS ad i (td i) := by unfold tt_ta; rw [hA 23 i (by omega)]
    exact ⟨by rw [eta, hA 21 i (by omega), hA 22 i (by omega)]; exact (hf 20 i (by omega) (by omega)).trans q1, (hf 21 i (by omega) (by omega)).trans q2, (hf 22 i (by omega) (by omega)).trans q3, q4, fun z => (q5 z).ad (hf 23 i (by omega) (by omega)) (hf 24 i (by omega) (by omega)) (hA 24 i (by omega))⟩
  · exact ⟨(g6 i hi).1.ad (hf 50 i (by omega) (by omega)) (hf 51 i (by omega) (by omega)) (hA 51 i (by omega)), (hA 50 i (by omega)).trans (g6 i hi).2⟩
def ga_kls (cd : Nat → Option DT) (k : Nat) (kd sp : Int32) (id : Int64) : DT := (kd, if kd = 3 then 0 else id, ga_chn cd sp, ga_chf cd k sp, fun _ => 0, fun _ => 0, fun _ => 0, 0, 0, 0)
def ga_define (cd : Nat → Option DT) (k kd sp : Int32) (id : Int64) : Int32 × (Nat → Option DT) := if k < 0 ∨ 6 ≤ k then (-1, cd) else match cd k.toNatClampNeg with
  | some _ => (-1, cd)
  | none => if kd < 0 ∨ ¬ kd ≤ 4 then (-1, cd) else if ¬ sp = -1 ∧ ga_above cd sp kd = 0 then (-1, cd) else (0, va_up cd k.toNatClampNeg (some (ga_kls cd k.toNatClampNeg kd sp id)))
abbrev gd_fr (k : Nat) (ad : pw_A) (C : pw_C) (ad' : pw_A) (C' : pw_C) : Prop := (∀ x y, ¬ x = 1 → ¬ ((9 < x ∧ x < 17) ∧ y = k) → C' x y = C x y) ∧ ∀ x y, ¬ ((9 < x ∧ x < 17) ∧ y = k) → ad' x y = ad x y
theorem ga_above_1 {cd : Nat → Option DT} {sp kd : Int32} (h : ¬ ga_above cd sp kd = 0) : ∃ j d, sp = nI j ∧ cd j = some d := by
  by_cases h1 : ga_isdef cd sp = 0
  · exact absurd (if_pos h1) h
  · obtain ⟨j, d, -, h2, h3⟩ := ga_isdef_1 h1
    exact ⟨j, d, h2, h3⟩
set_option maxHeartbeats 4000000 in
set_option maxRecDepth 100000 in
theorem k_G_define {l : Launch} {D : va_G} {ca : Nat → ClassId} {kS : Nat → Nat} {kT : Nat} {ad : pw_A} {C : pw_C} {cd : Nat → Option DT} {mk : Nat} {td : Nat → TT} (hG : gw_at ca kS kT ad C cd mk td) (hwf : wf_d cd) (hnk : ∀ k, k < 6 → cd k = none → ∀ x, 9 < x → x < 17 → C x k = none) (k kd sp : Int32) (id : Int64) : gc_Con l y_G_define c_G_define ({ frames := 6, cells := 7, slots := 64, locals := 177 }) D ca (z9_Z kS kT) [.ref (ad 0 0), .int k, .int kd, .int sp, .long id] ad C (pw_pi (fun r ad' C' => (gw_at ca kS kT ad' C' (ga_define cd k kd sp id).2 mk td ∧ gd_fr k.toNatClampNeg ad C ad' C' ∧ ((ga_define cd k kd sp id).2 = cd → ad' = ad ∧ C' = C)) ∧ r = (ga_define cd k kd sp id).1)) 7 64 := by
  have hZ := z9_ok kS kT
  have hG0 := hG
  obtain ⟨g00, g10, g20, hmk, hDD, hTT, hKK⟩ := hG
  refine pw_ofW (cc := b_G_define) (maxL := 6) (ret := (some FieldType.int)) (by decide) rfl (Nat.le_of_ble_eq_true rfl) ?_
  intro p e s m args below meth c A ls hB hA hw hK hz hl
  obtain ⟨hx, hb, hr, hml, hts0, hlocks, hown, hnm⟩ := hB
  have hts := wd_hts hts0
  have hown : s.vm.findClass "GraphWriter" = some m.cls := hown
  have hl : lv_has ls 6 [(0, .ref (ad 0 0)), (1, .int k), (2, .int kd), (3, .int sp), (4, .long id)] := hl
  have hz0 := hz
  obtain ⟨hz1, hz2, hz3, hk0, hk1, hk2, hk3, hk4, hk5, hk6, hk7, hao1, hao2, hnw⟩ := hz0
  refine lv_iload_n hx hb d_G_define_0 rfl (lv_at hl 1 rfl) ?_
  refine lv_if_lt (tgt := 19) hx hb d_G_define_1 (by decide) (fun c_1 => ?_) (fun c_1 => ?_)
  · skip
    refine lv_iconst (v := (-1)) hx hb d_G_define_19 (by decide) ?_
    have e9 : ga_define cd k kd sp id = (-1, cd) := by exact if_pos (Or.inl c_1)
    refine W.widen (k := 7) (n := 64) (by omega) (by omega) ?_
    exact pw_iret hx hb hr hlocks hw ⟨⟨by rw [e9]; exact hG0, ⟨fun _ _ _ _ => rfl, fun _ _ _ => rfl⟩, fun _ => ⟨rfl, rfl⟩⟩, by rw [e9]⟩ d_G_define_20
  · skip
    refine lv_iload_n hx hb d_G_define_4 rfl (lv_at hl 1 rfl) ?_
    refine lv_bipush (v := 6) hx hb d_G_define_5 (by decide) ?_
    refine lv_icmp_ge (tgt := 19) hx hb d_G_define_7 (by decide) (fun c_2 => ?_) (fun c_2 => ?_)
    · skip
      refine lv_iconst (v := (-1)) hx hb d_G_define_19 (by decide) ?_
      have e9 : ga_define cd k kd sp id = (-1, cd) := by exact if_pos (Or.inr c_2)
      refine W.widen (k := 7) (n := 64) (by omega) (by omega) ?_
      exact pw_iret hx hb hr hlocks hw ⟨⟨by rw [e9]; exact hG0, ⟨fun _ _ _ _ => rfl, fun _ _ _ => rfl⟩, fun _ => ⟨rfl, rfl⟩⟩, by rw [e9]⟩ d_G_define_20
    · skip
      refine lv_aload_n hx hb d_G_define_10 rfl (lv_at hl 0 rfl) ?_
      refine pw_get (Cn := "GraphWriter") (T := F_G) (N := 4) hx hb hts in_G hown hK hw 0 0 rfl g00 rfl 0 (by decide) (hts _ wd_140) (fun _ h9 => h9) rfl d_G_define_11 ?_
      refine lv_iload_n hx hb d_G_define_14 rfl (lv_at hl 1 rfl) ?_
      obtain ⟨j, hj, hkj⟩ : ∃ i : Nat, i < 6 ∧ k = nI i := by obtain ⟨i, hi, h9⟩ := nI_of c_1; exact ⟨i, (nI_ltI hi (by decide)).mp (h9 ▸ Int32.not_le.mp c_2), h9⟩
      have e8 : k.toNatClampNeg = j := by rw [hkj]; exact nI_clamp (by omega)
      have hb9 : ¬ (k < 0 ∨ 6 ≤ k) := by rintro (z | z); exact c_1 z; exact c_2 z
      refine pw_aald hx hb hK hw 1 0 rfl 4 g10 rfl j hkj (by omega) (by omega) d_G_define_15 ?_
      cases hcd : cd j with
      | none =>
        rw [gw_cn hcd]
        refine lv_ifnullN (tgt := 21) hx hb d_G_define_16 (by decide) ?_
        refine lv_iload_n hx hb d_G_define_21 rfl (lv_at hl 2 rfl) ?_
        refine lv_if_lt (tgt := 30) hx hb d_G_define_22 (by decide) (fun c_3 => ?_) (fun c_3 => ?_)
        · skip
          refine lv_iconst (v := (-1)) hx hb d_G_define_30 (by decide) ?_
          have e9 : ga_define cd k kd sp id = (-1, cd) := by unfold ga_define; rw [if_neg hb9, e8]; simp only [hcd]; rw [if_pos (Or.inl c_3)]
          refine W.widen (k := 7) (n := 64) (by omega) (by omega) ?_
          exact pw_iret hx hb hr hlocks hw ⟨⟨by rw [e9]; exact hG0, ⟨fun _ _ _ _ => rfl, fun _ _ _ => rfl⟩, fun _ => ⟨rfl, rfl⟩⟩, by rw [e9]⟩ d_G_define_31
        · skip
          refine lv_iload_n hx hb d_G_define_25 rfl (lv_at hl 2 rfl) ?_
          refine lv_iconst (v := 4) hx hb d_G_define_26 (by decide) ?_
          refine lv_icmp_le (tgt := 32) hx hb d_G_define_27 (by decide) (fun c_4 => ?_) (fun c_4 => ?_)
          · skip
            refine lv_iload_n hx hb d_G_define_32 rfl (lv_at hl 3 rfl) ?_
            refine lv_iconst (v := (-1)) hx hb d_G_define_33 (by decide) ?_
            refine lv_icmp_eq (tgt := 48) hx hb d_G_define_34 (by decide) (fun c_5 => ?_) (fun c_5 => ?_)
            · skip
              refine lv_aload_n hx hb d_G_define_48 rfl (lv_at hl 0 rfl) ?_
              refine pw_get (Cn := "GraphWriter") (T := F_G) (N := 4) hx hb hts in_G hown hK hw 0 0 rfl g00 rfl 0 (by decide) (hts _ wd_140) (fun _ h9 => h9) rfl d_G_define_49 ?_
              refine lv_iload_n hx hb d_G_define_52 rfl (lv_at hl 1 rfl) ?_
              rw [hkj]
              rw [hkj] at hl
              have hsp9 : sp = -1 ∨ ∃ j d, sp = nI j ∧ cd j = some d := Or.inl c_5
              have n10 := hnk j hj hcd 10 (by decide) (by decide)
              have n11 := hnk j hj hcd 11 (by decide) (by decide)
              have n12 := hnk j hj hcd 12 (by decide) (by decide)
              have n13 := hnk j hj hcd 13 (by decide) (by decide)
              have n14 := hnk j hj hcd 14 (by decide) (by decide)
              have n15 := hnk j hj hcd 15 (by decide) (by decide)
              have n16 := hnk j hj hcd 16 (by decide) (by decide)
              have hfr : ∀ x y, ¬ x = 1 → ¬ ((9 < x ∧ x < 17) ∧ y = j) → C x y = C x y := fun _ _ _ _ => rfl
              refine pw_new (ci := 2) (fs := [.int 0, .int 0, .long 0, .null, .null, .null, .null, .null, .int 0, .int 0, .int 0]) (Cn := "GraphWriter$Defined") (T := F_D) (N := 11) hx hb hts in_D ft_D to_D hown (hts _ wd_76) (hts _ wd_165) (hts _ wd_57) hK hw hA 10 j (by decide) n10 rfl (fun j hj => by match j, hj with | 0, _ => rfl | 1, _ => rfl | 2, _ => rfl | 3, _ => rfl | 4, _ => rfl | 5, _ => rfl | 6, _ => rfl | 7, _ => rfl | 8, _ => rfl | 9, _ => rfl | 10, _ => rfl | j + 11, h => exact absurd h (by omega)) (by (try dsimp only); omega) (by (try dsimp only); omega) d_G_define_53 (fun q_6 H hw => ?_)
              refine W.widen (k := 1) (n := 12) (by omega) (by omega) ?_
              obtain ⟨ad_7, had_7⟩ : ∃ z, z = pw_up ad 10 j q_6 := ⟨_, rfl⟩
              rw [← had_7] at hw
              have hsad_7 : ad_7 10 j = q_6 := by rw [had_7]; exact pw_up_self _ _ _ _
              have hadk : ∀ x9 y9, ¬ (x9 = 10 ∧ y9 = j) → ad_7 x9 y9 = ad x9 y9 := fun x9 y9 h9 => by rw [had_7]; exact pw_up_ne _ _ h9
              have hw : pw_H D cls9 A s.heap ad C ad_7 (pw_up C 10 j (some (.inr (2, [.int 0, .int 0, .long 0, .null, .null, .null, .null, .null, .int 0, .int 0, .int 0])))) H _ := hw
              generalize hC_8 : pw_up C 10 j (some (.inr (2, [.int 0, .int 0, .long 0, .null, .null, .null, .null, .null, .int 0, .int 0, .int 0]))) = C_8 at hw
              have g00 : C_8 0 0 = some (.inr (0, [.ref (ad 1 0), .ref (ad 2 0), .ref (ad 3 0), .int (nI mk)])) := by rw [← hC_8]; exact (pw_up_ne _ _ (by omega)).trans g00
              have g10 : C_8 1 0 = some (.inl (ca 4, 6, .inr (.inr (.inr (.inr (gw_cf ad cd)))))) := by rw [← hC_8]; exact (pw_up_ne _ _ (by omega)).trans g10
              have g20 : C_8 2 0 = some (.inl (ca 5, 12, .inr (.inr (.inr (.inr (gw_tf ad mk)))))) := by rw [← hC_8]; exact (pw_up_ne _ _ (by omega)).trans g20
              have p10 : C_8 10 j = some (.inr (2, [.int 0, .int 0, .long 0, .null, .null, .null, .null, .null, .int 0, .int 0, .int 0])) := by rw [← hC_8]; exact pw_up_self _ _ _ _
              have hfr : ∀ x y, ¬ x = 1 → ¬ ((9 < x ∧ x < 17) ∧ y = j) → C_8 x y = C x y := fun x y h0 h1 => by rw [← hC_8]; exact (pw_up_ne _ _ (by omega)).trans (hfr x y h0 h1)
              have n11 : C_8 11 j = none := by rw [← hC_8]; exact (pw_up_ne _ _ (by omega)).trans n11
              have n12 : C_8 12 j = none := by rw [← hC_8]; exact (pw_up_ne _ _ (by omega)).trans n12
              have n13 : C_8 13 j = none := by rw [← hC_8]; exact (pw_up_ne _ _ (by omega)).trans n13
              have n14 : C_8 14 j = none := by rw [← hC_8]; exact (pw_up_ne _ _ (by omega)).trans n14
              have n15 : C_8 15 j = none := by rw [← hC_8]; exact (pw_up_ne _ _ (by omega)).trans n15
              have n16 : C_8 16 j = none := by rw [← hC_8]; exact (pw_up_ne _ _ (by omega)).trans n16
              refine lv_dup hx hb d_G_define_56 rfl ?_
              refine lv_iload_n hx hb d_G_define_57 rfl (lv_at hl 1 rfl) ?_
              refine lv_iload_n hx hb d_G_define_58 rfl (lv_at hl 2 rfl) ?_
              refine lv_lload hx hb d_G_define_59 (lv_at hl 4 rfl) ?_
              refine lv_aload_n hx hb d_G_define_61 rfl (lv_at hl 0 rfl) ?_
              refine lv_iload_n hx hb d_G_define_62 rfl (lv_at hl 1 rfl) ?_
              refine lv_iload_n hx hb d_G_define_63 rfl (lv_at hl 3 rfl) ?_
              have hG1 : gw_at ca kS kT ad_7 C_8 cd mk td := hG0.widek hcd (fun x y h => by rw [← hC_8]; exact pw_up_ne _ _ (by omega)) (fun x y h => hadk x y (by omega))
              rw [← hadk 0 0 (by omega)]
              refine pw_callr (va_runV (As := [.int (nI j), .int sp]) (rest := [.long id, .int kd, .int (nI j), .ref q_6, .ref q_6, .int (nI j), .ref (ad 1 0)]) ⟨hx, hb, hml, hown, hts0⟩ (k_G_chainTo (ad := ad_7) hG1 hwf n11 hsp9 _) (cwV 2 hts0 (wd_V wd_169 wd_166 wd_168 wd_2 wd_53) rfl rfl rfl (by decide +kernel) ⟨(by (try dsimp only); omega), (by (try dsimp only); omega)⟩) (pw_preV hZ hw hA hK hz rfl g00 rfl) rfl rfl hl.1 rfl (lv_room (Nat.le_of_ble_eq_true rfl)) d_G_define_64 ⟨(by (try dsimp only); omega), (by (try dsimp only); omega)⟩) hw hA (fun r_11 ad_9 C_10 H locs hp hw => ?_)
              obtain ⟨hae, hce⟩ := hp
              rw [hae, hce] at hw; clear hae hce
              refine W.widen (k := 2) (n := 20) (by omega) (by omega) ?_
              obtain ⟨ad_12, had_12⟩ : ∃ z, z = pw_up ad_7 11 j r_11 := ⟨_, rfl⟩
              rw [← had_12] at hw
              have hsad_12 : ad_12 11 j = r_11 := by rw [had_12]; exact pw_up_self _ _ _ _
              have hadk : ∀ x9 y9, ¬ (x9 = 10 ∧ y9 = j) → ¬ (x9 = 11 ∧ y9 = j) → ad_12 x9 y9 = ad x9 y9 := fun x9 y9 e0 h9 => by rw [had_12]; exact (pw_up_ne _ _ h9).trans (hadk x9 y9 e0)
              have hq_q_6 : ad_12 10 j = q_6 := by rw [had_12]; exact (pw_up_ne _ _ (by omega)).trans hsad_7
              have hw : pw_H D cls9 A s.heap ad C ad_12 (pw_up C_8 11 j (some (.inl (ca 0, ga_chn cd sp, .inl (ga_chf cd j sp))))) H _ := hw
              generalize hC_13 : pw_up C_8 11 j (some (.inl (ca 0, ga_chn cd sp, .inl (ga_chf cd j sp)))) = C_13 at hw
              have g00 : C_13 0 0 = some (.inr (0, [.ref (ad 1 0), .ref (ad 2 0), .ref (ad 3 0), .int (nI mk)])) := by rw [← hC_13]; exact (pw_up_ne _ _ (by omega)).trans g00
              have g10 : C_13 1 0 = some (.inl (ca 4, 6, .inr (.inr (.inr (.inr (gw_cf ad cd)))))) := by rw [← hC_13]; exact (pw_up_ne _ _ (by omega)).trans g10
              have g20 : C_13 2 0 = some (.inl (ca 5, 12, .inr (.inr (.inr (.inr (gw_tf ad mk)))))) := by rw [← hC_13]; exact (pw_up_ne _ _ (by omega)).trans g20
              have p10 : C_13 10 j = some (.inr (2, [.int 0, .int 0, .long 0, .null, .null, .null, .null, .null, .int 0, .int 0, .int 0])) := by rw [← hC_13]; exact (pw_up_ne _ _ (by omega)).trans p10
              have p11 : C_13 11 j = some (.inl (ca 0, ga_chn cd sp, .inl (ga_chf cd j sp))) := by rw [← hC_13]; exact pw_up_self _ _ _ _
              have hfr : ∀ x y, ¬ x = 1 → ¬ ((9 < x ∧ x < 17) ∧ y = j) → C_13 x y = C x y := fun x y h0 h1 => by rw [← hC_13]; exact (pw_up_ne _ _ (by omega)).trans (hfr x y h0 h1)
              have n12 : C_13 12 j = none := by rw [← hC_13]; exact (pw_up_ne _ _ (by omega)).trans n12
              have n13 : C_13 13 j = none := by rw [← hC_13]; exact (pw_up_ne _ _ (by omega)).trans n13
              have n14 : C_13 14 j = none := by rw [← hC_13]; exact (pw_up_ne _ _ (by omega)).trans n14
              have n15 : C_13 15 j = none := by rw [← hC_13]; exact (pw_up_ne _ _ (by omega)).trans n15
              have n16 : C_13 16 j = none := by rw [← hC_13]; exact (pw_up_ne _ _ (by omega)).trans n16
              rw [← hq_q_6, ← hsad_12]
              obtain ⟨hst0, hka⟩ := hKK.1 7 (by decide)
              refine pw_callv (va_runI (As := [.int (nI j), .int kd, .long id, .ref (ad_12 11 j)]) (rest := [.ref (ad_12 10 j), .int (nI j), .ref (ad 1 0)]) ⟨hx, hb, hml, hown, hts0⟩ (k_D_init (ad := ad_12) hj p10 (hst0.ad (hfr 50 7 (by omega) (by omega)) (hfr 51 7 (by omega) (by omega)) (hadk 51 7 (by omega) (by omega))) ((hadk 50 7 (by omega) (by omega)).trans hka) n12 n13 n14 n15 n16 kd id _) (cwI 4 hts0 (wd_sub wd_188) rfl rfl rfl (hts _ wd_57) (hts _ wd_186) (hts _ wd_187) rfl (by decide +kernel) ⟨(by (try dsimp only); omega), (by (try dsimp only); omega)⟩) (pw_preS hZ hw hA hK hz) rfl rfl hl.1 rfl (lv_room (Nat.le_of_ble_eq_true rfl)) d_G_define_67 ⟨(by (try dsimp only); omega), (by (try dsimp only); omega)⟩) hw hA (fun ad_14 C_15 H locs hp hw => ?_)
              refine W.widen (k := 7) (n := 64) (by omega) (by omega) ?_
              obtain ⟨p10, p12, p13, p14, pst, hf9, hA9⟩ := hp
              have hq10 : ad_14 10 j = q_6 := (hA9 10 j (by omega)).trans hq_q_6
              have hq11 : ad_14 11 j = r_11 := (hA9 11 j (by omega)).trans hsad_12
              rw [hq_q_6]
              have hadk9 : ∀ x y, ¬ ((9 < x ∧ x < 17) ∧ y = j) → ad_14 x y = ad x y := fun x y h => (hA9 x y (by omega)).trans (hadk x y (by omega) (by omega))
              have hfr : ∀ x y, ¬ x = 1 → ¬ ((9 < x ∧ x < 17) ∧ y = j) → C_15 x y = C x y := fun x y a b => (hf9 x y (by omega)).trans (hfr x y a b)
              rw [← hA9 11 j (by omega)] at p10
              have p11 : C_15 11 j = some (.inl (ca 0, ga_chn cd sp, .inl (ga_chf cd j sp))) := (hf9 11 j (by omega)).trans p11
              have g10 : C_15 1 0 = some (.inl (ca 4, 6, .inr (.inr (.inr (.inr (gw_cf ad cd)))))) := (hf9 1 0 (by omega)).trans g10
              refine pw_aast (ci := 2) (r := ("GraphWriter$Defined", F_D, 11)) hx hb hK hw 1 0 (hadk9 1 0 (by omega)) 4 g10 rfl 10 j hq10 p10 rfl (by decide) (by decide) j rfl (by omega) (by omega) d_G_define_70 (fun H locs hw => ?_)
              have hw : pw_H D cls9 A s.heap ad C ad_14 (pw_up C_15 1 0 (some (.inl (ca 4, 6, .inr (.inr (.inr (.inr (va_up (gw_cf ad cd) j (some q_6))))))))) H _ := hw
              generalize hC_16 : pw_up C_15 1 0 (some (.inl (ca 4, 6, .inr (.inr (.inr (.inr (va_up (gw_cf ad cd) j (some q_6)))))))) = C_16 at hw
              have p10 : C_16 10 j = some (.inr (2, [.int (nI j), .int kd, .long (if kd = 3 then 0 else id), .ref (ad_14 15 j), .ref (ad_14 11 j), .ref (ad_14 12 j), .ref (ad_14 13 j), .ref (ad_14 14 j), .int 0, .int 0, .int 0])) := by rw [← hC_16]; exact (pw_up_ne _ _ (by omega)).trans p10
              have g10 : C_16 1 0 = some (.inl (ca 4, 6, .inr (.inr (.inr (.inr (va_up (gw_cf ad cd) j (some q_6))))))) := by rw [← hC_16]; exact pw_up_self _ _ _ _
              have hfr : ∀ x y, ¬ x = 1 → ¬ ((9 < x ∧ x < 17) ∧ y = j) → C_16 x y = C x y := fun x y h0 h1 => by rw [← hC_16]; exact (pw_up_ne _ _ (by omega)).trans (hfr x y h0 h1)
              rw [← hq10] at g10
              have p11 := (show C_16 11 j = C_15 11 j by rw [← hC_16]; exact pw_up_ne _ _ (by omega)).trans p11
              have p12 := (show C_16 12 j = C_15 12 j by rw [← hC_16]; exact pw_up_ne _ _ (by omega)).trans p12
              have p13 := (show C_16 13 j = C_15 13 j by rw [← hC_16]; exact pw_up_ne _ _ (by omega)).trans p13
              have p14 := (show C_16 14 j = C_15 14 j by rw [← hC_16]; exact pw_up_ne _ _ (by omega)).trans p14
              have pst := pst.ad (ad' := ad_14) (show C_16 15 j = C_15 15 j by rw [← hC_16]; exact pw_up_ne _ _ (by omega)) (show C_16 16 j = C_15 16 j by rw [← hC_16]; exact pw_up_ne _ _ (by omega)) rfl
              refine lv_iconst (v := 0) hx hb d_G_define_71 (by decide) ?_
              have e9 : ga_define cd k kd sp id = (0, va_up cd j (some (ga_kls cd j kd sp id))) := by unfold ga_define; rw [if_neg hb9, e8]; simp only [hcd]; rw [if_neg (by rintro (z | z); exact c_3 z; exact z c_4), if_neg (fun z => z.1 c_5)]
              rw [hkj] at e9
              have e8b : (nI j).toNatClampNeg = j := nI_clamp (by omega)
              refine pw_iret hx hb hr hlocks hw ⟨⟨?_, by rw [e8b]; exact ⟨hfr, fun x y h => hadk9 x y h⟩, fun z => ?_⟩, by rw [e9]⟩ d_G_define_72
              · rw [e9]; exact hG0.newk hj hcd hfr hadk9 g10 ⟨p10, p11, p12, p13, p14, pst⟩
              · rw [e9] at z; exfalso; have := congrFun z j; rw [show (0, va_up cd j (some (ga_kls cd j kd sp id))).2 = va_up cd j (some (ga_kls cd j kd sp id)) from rfl, va_up_self, hcd] at this; exact absurd this (by simp)
            · skip
              refine lv_aload_n hx hb d_G_define_37 rfl (lv_at hl 0 rfl) ?_
              refine lv_iload_n hx hb d_G_define_38 rfl (lv_at hl 3 rfl) ?_
              refine lv_iload_n hx hb d_G_define_39 rfl (lv_at hl 2 rfl) ?_
              refine pw_calli (va_runV (As := [.int sp, .int kd]) (rest := []) ⟨hx, hb, hml, hown, hts0⟩ (k_G_mayStandAbove hG0 sp kd _) (cwV 2 hts0 (wd_V wd_160 wd_157 wd_159 wd_0 wd_53) rfl rfl rfl (by decide +kernel) ⟨(by (try dsimp only); omega), (by (try dsimp only); omega)⟩) (pw_preV hZ hw hA hK hz rfl g00 rfl) rfl rfl hl.1 rfl (lv_room (Nat.le_of_ble_eq_true rfl)) d_G_define_40 ⟨(by (try dsimp only); omega), (by (try dsimp only); omega)⟩) hw hA (fun r_19 ad_17 C_18 H locs hp hw => ?_)
              obtain ⟨⟨hae, hce⟩, hre⟩ := hp
              rw [hae, hce] at hw
              rw [hre]
              clear hae hce hre
              refine lv_if_ne (tgt := 48) hx hb d_G_define_43 (by decide) (fun c_20 => ?_) (fun c_20 => ?_)
              · skip
                refine lv_aload_n hx hb d_G_define_48 rfl (lv_at hl 0 rfl) ?_
                refine pw_get (Cn := "GraphWriter") (T := F_G) (N := 4) hx hb hts in_G hown hK hw 0 0 rfl g00 rfl 0 (by decide) (hts _ wd_140) (fun _ h9 => h9) rfl d_G_define_49 ?_
                refine lv_iload_n hx hb d_G_define_52 rfl (lv_at hl 1 rfl) ?_
                rw [hkj]
                rw [hkj] at hl
                have hsp9 : sp = -1 ∨ ∃ j d, sp = nI j ∧ cd j = some d := Or.inr (ga_above_1 c_20)
                have n10 := hnk j hj hcd 10 (by decide) (by decide)
                have n11 := hnk j hj hcd 11 (by decide) (by decide)
                have n12 := hnk j hj hcd 12 (by decide) (by decide)
                have n13 := hnk j hj hcd 13 (by decide) (by decide)
                have n14 := hnk j hj hcd 14 (by decide) (by decide)
                have n15 := hnk j hj hcd 15 (by decide) (by decide)
                have n16 := hnk j hj hcd 16 (by decide) (by decide)
                have hfr : ∀ x y, ¬ x = 1 → ¬ ((9 < x ∧ x < 17) ∧ y = j) → C x y = C x y := fun _ _ _ _ => rfl
                refine pw_new (ci := 2) (fs := [.int 0, .int 0, .long 0, .null, .null, .null, .null, .null, .int 0, .int 0, .int 0]) (Cn := "GraphWriter$Defined") (T := F_D) (N := 11) hx hb hts in_D ft_D to_D hown (hts _ wd_76) (hts _ wd_165) (hts _ wd_57) hK hw hA 10 j (by decide) n10 rfl (fun j hj => by match j, hj with | 0, _ => rfl | 1, _ => rfl | 2, _ => rfl | 3, _ => rfl | 4, _ => rfl | 5, _ => rfl | 6, _ => rfl | 7, _ => rfl | 8, _ => rfl | 9, _ => rfl | 10, _ => rfl | j + 11, h => exact absurd h (by omega)) (by (try dsimp only); omega) (by (try dsimp only); omega) d_G_define_53 (fun q_21 H hw => ?_)
                refine W.widen (k := 1) (n := 12) (by omega) (by omega) ?_
                obtain ⟨ad_22, had_22⟩ : ∃ z, z = pw_up ad 10 j q_21 := ⟨_, rfl⟩
                rw [← had_22] at hw
                have hsad_22 : ad_22 10 j = q_21 := by rw [had_22]; exact pw_up_self _ _ _ _
                have hadk : ∀ x9 y9, ¬ (x9 = 10 ∧ y9 = j) → ad_22 x9 y9 = ad x9 y9 := fun x9 y9 h9 => by rw [had_22]; exact pw_up_ne _ _ h9
                have hw : pw_H D cls9 A s.heap ad C ad_22 (pw_up C 10 j (some (.inr (2, [.int 0, .int 0, .long 0, .null, .null, .null, .null, .null, .int 0, .int 0, .int 0])))) H _ := hw
                generalize hC_23 : pw_up C 10 j (some (.inr (2, [.int 0, .int 0, .long 0, .null, .null, .null, .null, .null, .int 0, .int 0, .int 0]))) = C_23 at hw
                have g00 : C_23 0 0 = some (.inr (0, [.ref (ad 1 0), .ref (ad 2 0), .ref (ad 3 0), .int (nI mk)])) := by rw [← hC_23]; exact (pw_up_ne _ _ (by omega)).trans g00
                have g10 : C_23 1 0 = some (.inl (ca 4, 6, .inr (.inr (.inr (.inr (gw_cf ad cd)))))) := by rw [← hC_23]; exact (pw_up_ne _ _ (by omega)).trans g10
                have g20 : C_23 2 0 = some (.inl (ca 5, 12, .inr (.inr (.inr (.inr (gw_tf ad mk)))))) := by rw [← hC_23]; exact (pw_up_ne _ _ (by omega)).trans g20
                have p10 : C_23 10 j = some (.inr (2, [.int 0, .int 0, .long 0, .null, .null, .null, .null, .null, .int 0, .int 0, .int 0])) := by rw [← hC_23]; exact pw_up_self _ _ _ _
                have hfr : ∀ x y, ¬ x = 1 → ¬ ((9 < x ∧ x < 17) ∧ y = j) → C_23 x y = C x y := fun x y h0 h1 => by rw [← hC_23]; exact (pw_up_ne _ _ (by omega)).trans (hfr x y h0 h1)
                have n11 : C_23 11 j = none := by rw [← hC_23]; exact (pw_up_ne _ _ (by omega)).trans n11
                have n12 : C_23 12 j = none := by rw [← hC_23]; exact (pw_up_ne _ _ (by omega)).trans n12
                have n13 : C_23 13 j = none := by rw [← hC_23]; exact (pw_up_ne _ _ (by omega)).trans n13
                have n14 : C_23 14 j = none := by rw [← hC_23]; exact (pw_up_ne _ _ (by omega)).trans n14
                have n15 : C_23 15 j = none := by rw [← hC_23]; exact (pw_up_ne _ _ (by omega)).trans n15
                have n16 : C_23 16 j = none := by rw [← hC_23]; exact (pw_up_ne _ _ (by omega)).trans n16
                refine lv_dup hx hb d_G_define_56 rfl ?_
                refine lv_iload_n hx hb d_G_define_57 rfl (lv_at hl 1 rfl) ?_
                refine lv_iload_n hx hb d_G_define_58 rfl (lv_at hl 2 rfl) ?_
                refine lv_lload hx hb d_G_define_59 (lv_at hl 4 rfl) ?_
                refine lv_aload_n hx hb d_G_define_61 rfl (lv_at hl 0 rfl) ?_
                refine lv_iload_n hx hb d_G_define_62 rfl (lv_at hl 1 rfl) ?_
                refine lv_iload_n hx hb d_G_define_63 rfl (lv_at hl 3 rfl) ?_
                have hG1 : gw_at ca kS kT ad_22 C_23 cd mk td := hG0.widek hcd (fun x y h => by rw [← hC_23]; exact pw_up_ne _ _ (by omega)) (fun x y h => hadk x y (by omega))
                rw [← hadk 0 0 (by omega)]
                refine pw_callr (va_runV (As := [.int (nI j), .int sp]) (rest := [.long id, .int kd, .int (nI j), .ref q_21, .ref q_21, .int (nI j), .ref (ad 1 0)]) ⟨hx, hb, hml, hown, hts0⟩ (k_G_chainTo (ad := ad_22) hG1 hwf n11 hsp9 _) (cwV 2 hts0 (wd_V wd_169 wd_166 wd_168 wd_2 wd_53) rfl rfl rfl (by decide +kernel) ⟨(by (try dsimp only); omega), (by (try dsimp only); omega)⟩) (pw_preV hZ hw hA hK hz rfl g00 rfl) rfl rfl hl.1 rfl (lv_room (Nat.le_of_ble_eq_true rfl)) d_G_define_64 ⟨(by (try dsimp only); omega), (by (try dsimp only); omega)⟩) hw hA (fun r_26 ad_24 C_25 H locs hp hw => ?_)
                obtain ⟨hae, hce⟩ := hp
                rw [hae, hce] at hw; clear hae hce
                refine W.widen (k := 2) (n := 20) (by omega) (by omega) ?_
                obtain ⟨ad_27, had_27⟩ : ∃ z, z = pw_up ad_22 11 j r_26 := ⟨_, rfl⟩
                rw [← had_27] at hw
                have hsad_27 : ad_27 11 j = r_26 := by rw [had_27]; exact pw_up_self _ _ _ _
                have hadk : ∀ x9 y9, ¬ (x9 = 10 ∧ y9 = j) → ¬ (x9 = 11 ∧ y9 = j) → ad_27 x9 y9 = ad x9 y9 := fun x9 y9 e0 h9 => by rw [had_27]; exact (pw_up_ne _ _ h9).trans (hadk x9 y9 e0)
                have hq_q_21 : ad_27 10 j = q_21 := by rw [had_27]; exact (pw_up_ne _ _ (by omega)).trans hsad_22
                have hw : pw_H D cls9 A s.heap ad C ad_27 (pw_up C_23 11 j (some (.inl (ca 0, ga_chn cd sp, .inl (ga_chf cd j sp))))) H _ := hw
                generalize hC_28 : pw_up C_23 11 j (some (.inl (ca 0, ga_chn cd sp, .inl (ga_chf cd j sp)))) = C_28 at hw
                have g00 : C_28 0 0 = some (.inr (0, [.ref (ad 1 0), .ref (ad 2 0), .ref (ad 3 0), .int (nI mk)])) := by rw [← hC_28]; exact (pw_up_ne _ _ (by omega)).trans g00
                have g10 : C_28 1 0 = some (.inl (ca 4, 6, .inr (.inr (.inr (.inr (gw_cf ad cd)))))) := by rw [← hC_28]; exact (pw_up_ne _ _ (by omega)).trans g10
                have g20 : C_28 2 0 = some (.inl (ca 5, 12, .inr (.inr (.inr (.inr (gw_tf ad mk)))))) := by rw [← hC_28]; exact (pw_up_ne _ _ (by omega)).trans g20
                have p10 : C_28 10 j = some (.inr (2, [.int 0, .int 0, .long 0, .null, .null, .null, .null, .null, .int 0, .int 0, .int 0])) := by rw [← hC_28]; exact (pw_up_ne _ _ (by omega)).trans p10
                have p11 : C_28 11 j = some (.inl (ca 0, ga_chn cd sp, .inl (ga_chf cd j sp))) := by rw [← hC_28]; exact pw_up_self _ _ _ _
                have hfr : ∀ x y, ¬ x = 1 → ¬ ((9 < x ∧ x < 17) ∧ y = j) → C_28 x y = C x y := fun x y h0 h1 => by rw [← hC_28]; exact (pw_up_ne _ _ (by omega)).trans (hfr x y h0 h1)
                have n12 : C_28 12 j = none := by rw [← hC_28]; exact (pw_up_ne _ _ (by omega)).trans n12
                have n13 : C_28 13 j = none := by rw [← hC_28]; exact (pw_up_ne _ _ (by omega)).trans n13
                have n14 : C_28 14 j = none := by rw [← hC_28]; exact (pw_up_ne _ _ (by omega)).trans n14
                have n15 : C_28 15 j = none := by rw [← hC_28]; exact (pw_up_ne _ _ (by omega)).trans n15
                have n16 : C_28 16 j = none := by rw [← hC_28]; exact (pw_up_ne _ _ (by omega)).trans n16
                rw [← hq_q_21, ← hsad_27]
                obtain ⟨hst0, hka⟩ := hKK.1 7 (by decide)
                refine pw_callv (va_runI (As := [.int (nI j), .int kd, .long id, .ref (ad_27 11 j)]) (rest := [.ref (ad_27 10 j), .int (nI j), .ref (ad 1 0)]) ⟨hx, hb, hml, hown, hts0⟩ (k_D_init (ad := ad_27) hj p10 (hst0.ad (hfr 50 7 (by omega) (by omega)) (hfr 51 7 (by omega) (by omega)) (hadk 51 7 (by omega) (by omega))) ((hadk 50 7 (by omega) (by omega)).trans hka) n12 n13 n14 n15 n16 kd id _) (cwI 4 hts0 (wd_sub wd_188) rfl rfl rfl (hts _ wd_57) (hts _ wd_186) (hts _ wd_187) rfl (by decide +kernel) ⟨(by (try dsimp only); omega), (by (try dsimp only); omega)⟩) (pw_preS hZ hw hA hK hz) rfl rfl hl.1 rfl (lv_room (Nat.le_of_ble_eq_true rfl)) d_G_define_67 ⟨(by (try dsimp only); omega), (by (try dsimp only); omega)⟩) hw hA (fun ad_29 C_30 H locs hp hw => ?_)
                refine W.widen (k := 7) (n := 64) (by omega) (by omega) ?_
                obtain ⟨p10, p12, p13, p14, pst, hf9, hA9⟩ := hp
                have hq10 : ad_29 10 j = q_21 := (hA9 10 j (by omega)).trans hq_q_21
                have hq11 : ad_29 11 j = r_26 := (hA9 11 j (by omega)).trans hsad_27
                rw [hq_q_21]
                have hadk9 : ∀ x y, ¬ ((9 < x ∧ x < 17) ∧ y = j) → ad_29 x y = ad x y := fun x y h => (hA9 x y (by omega)).trans (hadk x y (by omega) (by omega))
                have hfr : ∀ x y, ¬ x = 1 → ¬ ((9 < x ∧ x < 17) ∧ y = j) → C_30 x y = C x y := fun x y a b => (hf9 x y (by omega)).trans (hfr x y a b)
                rw [← hA9 11 j (by omega)] at p10
                have p11 : C_30 11 j = some (.inl (ca 0, ga_chn cd sp, .inl (ga_chf cd j sp))) := (hf9 11 j (by omega)).trans p11
                have g10 : C_30 1 0 = some (.inl (ca 4, 6, .inr (.inr (.inr (.inr (gw_cf ad cd)))))) := (hf9 1 0 (by omega)).trans g10
                refine pw_aast (ci := 2) (r := ("GraphWriter$Defined", F_D, 11)) hx hb hK hw 1 0 (hadk9 1 0 (by omega)) 4 g10 rfl 10 j hq10 p10 rfl (by decide) (by decide) j rfl (by omega) (by omega) d_G_define_70 (fun H locs hw => ?_)
                have hw : pw_H D cls9 A s.heap ad C ad_29 (pw_up C_30 1 0 (some (.inl (ca 4, 6, .inr (.inr (.inr (.inr (va_up (gw_cf ad cd) j (some q_21))))))))) H _ := hw
                generalize hC_31 : pw_up C_30 1 0 (some (.inl (ca 4, 6, .inr (.inr (.inr (.inr (va_up (gw_cf ad cd) j (some q_21)))))))) = C_31 at hw
                have p10 : C_31 10 j = some (.inr (2, [.int (nI j), .int kd, .long (if kd = 3 then 0 else id), .ref (ad_29 15 j), .ref (ad_29 11 j), .ref (ad_29 12 j), .ref (ad_29 13 j), .ref (ad_29 14 j), .int 0, .int 0, .int 0])) := by rw [← hC_31]; exact (pw_up_ne _ _ (by omega)).trans p10
                have g10 : C_31 1 0 = some (.inl (ca 4, 6, .inr (.inr (.inr (.inr (va_up (gw_cf ad cd) j (some q_21))))))) := by rw [← hC_31]; exact pw_up_self _ _ _ _
                have hfr : ∀ x y, ¬ x = 1 → ¬ ((9 < x ∧ x < 17) ∧ y = j) → C_31 x y = C x y := fun x y h0 h1 => by rw [← hC_31]; exact (pw_up_ne _ _ (by omega)).trans (hfr x y h0 h1)
                rw [← hq10] at g10
                have p11 := (show C_31 11 j = C_30 11 j by rw [← hC_31]; exact pw_up_ne _ _ (by omega)).trans p11
                have p12 := (show C_31 12 j = C_30 12 j by rw [← hC_31]; exact pw_up_ne _ _ (by omega)).trans p12
                have p13 := (show C_31 13 j = C_30 13 j by rw [← hC_31]; exact pw_up_ne _ _ (by omega)).trans p13
                have p14 := (show C_31 14 j = C_30 14 j by rw [← hC_31]; exact pw_up_ne _ _ (by omega)).trans p14
                have pst := pst.ad (ad' := ad_29) (show C_31 15 j = C_30 15 j by rw [← hC_31]; exact pw_up_ne _ _ (by omega)) (show C_31 16 j = C_30 16 j by rw [← hC_31]; exact pw_up_ne _ _ (by omega)) rfl
                refine lv_iconst (v := 0) hx hb d_G_define_71 (by decide) ?_
                have e9 : ga_define cd k kd sp id = (0, va_up cd j (some (ga_kls cd j kd sp id))) := by unfold ga_define; rw [if_neg hb9, e8]; simp only [hcd]; rw [if_neg (by rintro (z | z); exact c_3 z; exact z c_4), if_neg (fun z => c_20 z.2)]
                rw [hkj] at e9
                have e8b : (nI j).toNatClampNeg = j := nI_clamp (by omega)
                refine pw_iret hx hb hr hlocks hw ⟨⟨?_, by rw [e8b]; exact ⟨hfr, fun x y h => hadk9 x y h⟩, fun z => ?_⟩, by rw [e9]⟩ d_G_define_72
                · rw [e9]; exact hG0.newk hj hcd hfr hadk9 g10 ⟨p10, p11, p12, p13, p14, pst⟩
                · rw [e9] at z; exfalso; have := congrFun z j; rw [show (0, va_up cd j (some (ga_kls cd j kd sp id))).2 = va_up cd j (some (ga_kls cd j kd sp id)) from rfl, va_up_self, hcd] at this; exact absurd this (by simp)
              · skip
                refine lv_iconst (v := (-1)) hx hb d_G_define_46 (by decide) ?_
                have e9 : ga_define cd k kd sp id = (-1, cd) := by unfold ga_define; rw [if_neg hb9, e8]; simp only [hcd]; rw [if_neg (by rintro (z | z); exact c_3 z; exact z c_4), if_pos ⟨c_5, c_20⟩]
                refine W.widen (k := 7) (n := 64) (by omega) (by omega) ?_
                exact pw_iret hx hb hr hlocks hw ⟨⟨by rw [e9]; exact hG0, ⟨fun _ _ _ _ => rfl, fun _ _ _ => rfl⟩, fun _ => ⟨rfl, rfl⟩⟩, by rw [e9]⟩ d_G_define_47
          · skip
            refine lv_iconst (v := (-1)) hx hb d_G_define_30 (by decide) ?_
            have e9 : ga_define cd k kd sp id = (-1, cd) := by unfold ga_define; rw [if_neg hb9, e8]; simp only [hcd]; rw [if_pos (Or.inr c_4)]
            refine W.widen (k := 7) (n := 64) (by omega) (by omega) ?_
            exact pw_iret hx hb hr hlocks hw ⟨⟨by rw [e9]; exact hG0, ⟨fun _ _ _ _ => rfl, fun _ _ _ => rfl⟩, fun _ => ⟨rfl, rfl⟩⟩, by rw [e9]⟩ d_G_define_31
      | some d =>
        rw [gw_cl hcd]
        refine lv_ifnull hx hb d_G_define_16 ?_
        refine lv_iconst (v := (-1)) hx hb d_G_define_19 (by decide) ?_
        have e9 : ga_define cd k kd sp id = (-1, cd) := by unfold ga_define; rw [if_neg hb9, e8]; simp only [hcd]
        refine W.widen (k := 7) (n := 64) (by omega) (by omega) ?_
        exact pw_iret hx hb hr hlocks hw ⟨⟨by rw [e9]; exact hG0, ⟨fun _ _ _ _ => rfl, fun _ _ _ => rfl⟩, fun _ => ⟨rfl, rfl⟩⟩, by rw [e9]⟩ d_G_define_20
