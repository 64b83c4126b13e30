theorem ga_repl_lt {td : Nat → TT} {mk : Nat} (h : ∀ i, i < mk → wf_g mk (tt_rp (td i))) : ∀ (n o : Nat) (z : Int32), o < mk → mk ≤ 2 ^ 31 → ga_repl td n o z < mk := by
  intro n
  induction n with
  | zero => intro o z ho _; exact ho
  | succ n ih =>
    intro o z ho hm
    unfold ga_repl
    split
    · exact ho
    · split
      · rename_i h1 h2
        rcases h o ho with h3 | ⟨j, hj, h3⟩
        · exact absurd h3 h1
        · rw [h3, nI_clamp (by omega)]; exact ih j _ hj hm
      · exact ho
set_option maxHeartbeats 4000000 in
set_option maxRecDepth 100000 in
theorem k_G_writeObject {l : Launch} {D : va_G} {ca : Nat → ClassId} {kS : Nat → Nat} {kT : Nat} {cd : Nat → Option DT} {mk : Nat} {td : Nat → TT} (hwf : wf_d cd) (hwT : wf_t cd mk td) : ∀ n, n ≤ 13 → gi_obj l D ca kS kT cd mk td n := by
  intro n
  induction n with
  | zero =>
    intro hn ad C x w0 wn sn hG hO g u hg
    have hZ := z9_ok kS kT
    have hG0 := hG
    obtain ⟨g00, g10, g20, hmk, hDD, hTT, hKK⟩ := hG
    have hO0 := hO
    obtain ⟨by0, wt, h30, h40, h50, h60, h70, hlen, hby, hwn, hw0, hwt⟩ := hO
    refine pw_ofW (cc := b_G_writeObject) (maxL := 5) (ret := none) (by decide) rfl (Nat.le_of_ble_eq_true rfl) ?_
    intro p e s m args below meth c A ls hB hA hw hK hz hl
    obtain ⟨hx, hb, hr, hml, hts0, hlocks, hown, hnm⟩ := hB
    have hts := wd_hts hts0
    have hown : s.vm.findClass "GraphWriter" = some m.cls := hown
    have hl : lv_has ls 5 [(0, .ref (ad 0 0)), (1, .int g), (2, .int u), (3, .int (nI (13 - 0)))] := hl
    have hz0 := hz
    obtain ⟨hz1, hz2, hz3, hk0, hk1, hk2, hk3, hk4, hk5, hk6, hk7, hao1, hao2, hnw⟩ := hz0
    have hfr : os_fr C C := fun _ _ _ => rfl
    refine lv_aload_n hx hb d_G_writeObject_0 rfl (lv_at hl 0 rfl) ?_
    refine pw_get (Cn := "GraphWriter") (T := F_G) (N := 4) hx hb hts in_G hown hK hw 0 0 rfl g00 rfl 2 (by decide) (hts _ wd_142) (fun _ h9 => h9) rfl d_G_writeObject_1 ?_
    refine pw_get (Cn := "GraphWriter$Out") (T := F_O) (N := 11) hx hb hts in_O hown hK hw 3 0 rfl h30 rfl 6 (by decide) (hts _ wd_98) (fun _ h9 => h9) rfl d_G_writeObject_4 ?_
    refine lv_if_eq (tgt := 11) hx hb d_G_writeObject_7 (by decide) (fun c_1 => ?_) (fun c_1 => ?_)
    · skip
      refine lv_iload_n hx hb d_G_writeObject_11 rfl (lv_at hl 1 rfl) ?_
      refine lv_iconst (v := (-1)) hx hb d_G_writeObject_12 (by decide) ?_
      refine lv_icmp_ne (tgt := 28) hx hb d_G_writeObject_13 (by decide) (fun c_2 => ?_) (fun c_2 => ?_)
      · skip
        refine lv_iload_n hx hb d_G_writeObject_28 rfl (lv_at hl 3 rfl) ?_
        refine lv_bipush (v := 12) hx hb d_G_writeObject_29 (by decide) ?_
        refine lv_icmp_le (tgt := 44) hx hb d_G_writeObject_31 (by decide) (fun c_3 => ?_) (fun c_3 => ?_)
        · exact absurd c_3 (by decide)
        · skip
          refine lv_aload_n hx hb d_G_writeObject_34 rfl (lv_at hl 0 rfl) ?_
          refine pw_get (Cn := "GraphWriter") (T := F_G) (N := 4) hx hb hts in_G hown hK hw 0 0 rfl g00 rfl 2 (by decide) (hts _ wd_142) (fun _ h9 => h9) rfl d_G_writeObject_35 ?_
          refine lv_bipush (v := (-2)) hx hb d_G_writeObject_38 (by decide) ?_
          refine pw_put (Cn := "GraphWriter$Out") (T := F_O) (N := 11) (v := .int (-2)) (ty := .int) hx hb hts in_O ft_O to_O nm_O hown hK hw 3 0 (by decide) rfl h30 rfl 6 (by decide) (hts _ wd_98) (fun _ h9 => h9) rfl (by decide +kernel) rfl rfl (Nat.le_of_ble_eq_true rfl) d_G_writeObject_40 (fun H locs hw => ?_)
          have hw : pw_H D cls9 A s.heap ad C ad (pw_up C 3 0 (some (.inr (1, [.ref (ad 4 0), .ref (ad 5 0), .ref (ad 6 0), .int (nI x.1.length), .int (nI wn), .int x.2.2.2, .int (-2), .ref (ad 7 0), .int sn.2.1, .int sn.2.2.1, .int sn.2.2.2])))) H locs := hw
          generalize hC_4 : pw_up C 3 0 (some (.inr (1, [.ref (ad 4 0), .ref (ad 5 0), .ref (ad 6 0), .int (nI x.1.length), .int (nI wn), .int x.2.2.2, .int (-2), .ref (ad 7 0), .int sn.2.1, .int sn.2.2.1, .int sn.2.2.2]))) = C_4 at hw
          have g00 : C_4 0 0 = some (.inr (0, [.ref (ad 1 0), .ref (ad 2 0), .ref (ad 3 0), .int (nI mk)])) := by rw [← hC_4]; exact (pw_up_ne _ _ (by decide)).trans g00
          have g10 : C_4 1 0 = some (.inl (ca 4, 6, .inr (.inr (.inr (.inr (gw_cf ad cd)))))) := by rw [← hC_4]; exact (pw_up_ne _ _ (by decide)).trans g10
          have g20 : C_4 2 0 = some (.inl (ca 5, 12, .inr (.inr (.inr (.inr (gw_tf ad mk)))))) := by rw [← hC_4]; exact (pw_up_ne _ _ (by decide)).trans g20
          have h40 : C_4 4 0 = some (.inl (ca 2, 1400, .inl by0)) := by rw [← hC_4]; exact (pw_up_ne _ _ (by decide)).trans h40
          have h50 : C_4 5 0 = some (.inl (ca 2, 255, .inl wt)) := by rw [← hC_4]; exact (pw_up_ne _ _ (by decide)).trans h50
          have h60 : C_4 6 0 = some (.inl (ca 0, 35, .inl x.2.2.1)) := by rw [← hC_4]; exact (pw_up_ne _ _ (by decide)).trans h60
          have h70 : C_4 7 0 = some (.inl (ca 0, 35, .inl sn.1)) := by rw [← hC_4]; exact (pw_up_ne _ _ (by decide)).trans h70
          have h30 : C_4 3 0 = some (.inr (1, [.ref (ad 4 0), .ref (ad 5 0), .ref (ad 6 0), .int (nI x.1.length), .int (nI wn), .int x.2.2.2, .int (-2), .ref (ad 7 0), .int sn.2.1, .int sn.2.2.1, .int sn.2.2.2])) := by rw [← hC_4]; exact pw_up_self _ _ _ _
          have hfr : ∀ x y, (x < 3 ∨ 7 < x) → C_4 x y = C x y := fun x y h => by rw [← hC_4]; exact (pw_up_ne _ _ (by omega)).trans (hfr x y h)
          have e9 : ga_obj cd td 0 x g u = es_oc x (-2) := (if_pos c_1).trans (if_neg c_2)
          refine pw_vret hx hb hr hlocks hw ⟨rfl, ?_, hfr⟩ d_G_writeObject_43
          rw [e9]; exact ⟨by0, wt, h30, h40, h50, h60, h70, hlen, hby, hwn, hw0, hwt⟩
      · skip
        refine lv_aload_n hx hb d_G_writeObject_16 rfl (lv_at hl 0 rfl) ?_
        refine pw_get (Cn := "GraphWriter") (T := F_G) (N := 4) hx hb hts in_G hown hK hw 0 0 rfl g00 rfl 2 (by decide) (hts _ wd_142) (fun _ h9 => h9) rfl d_G_writeObject_17 ?_
        refine lv_ldc2 (v := 112) hx hb hown (hts _ wd_600) d_G_writeObject_20 ?_
        refine lv_iconst (v := 1) hx hb d_G_writeObject_23 (by decide) ?_
        refine pw_callv (va_runV (As := [.long 112, .int 1]) (rest := []) ⟨hx, hb, hml, hown, hts0⟩ (k_O_put hO0 112 (w := 1) (by decide) _) (cwV 2 hts0 (wd_V wd_139 wd_136 wd_137 wd_138 wd_54) rfl rfl rfl (by decide +kernel) ⟨(by (try dsimp only); omega), (by (try dsimp only); omega)⟩) (pw_preV hZ hw hA hK hz rfl h30 rfl) rfl rfl hl.1 rfl (lv_room (Nat.le_of_ble_eq_true rfl)) d_G_writeObject_24 ⟨(by (try dsimp only); omega), (by (try dsimp only); omega)⟩) hw hA (fun ad_5 C_6 H locs hp hw => ?_)
        obtain ⟨hae, hO, hf1⟩ := hp
        rw [hae] at hw; clear hae
        have hfr : os_fr C C_6 := fun x y h => (hf1 x y h).trans (hfr x y h)
        obtain ⟨x_8, hx_8⟩ : ∃ z, z = es_put x 112 1 := ⟨_, rfl⟩
        rw [← hx_8] at hO
        have hO0 := hO
        obtain ⟨by0, wt, h30, h40, h50, h60, h70, hlen, hby, hwn, hw0, hwt⟩ := hO
        have hG := hG0.fr hf1
        have hG0 := hG
        obtain ⟨g00, g10, g20, hmk, hDD, hTT, hKK⟩ := hG
        have e9 : ga_obj cd td 0 x g u = x_8 := by rw [hx_8]; exact (if_pos c_1).trans (if_pos c_2)
        refine pw_vret hx hb hr hlocks hw ⟨rfl, ?_, hfr⟩ d_G_writeObject_27
        first | (rw [e9]; exact hO0) | (rw [← hgj, e9]; exact hO0)
    · skip
      have e9 : ga_obj cd td 0 x g u = x := if_neg c_1
      refine pw_vret hx hb hr hlocks hw ⟨rfl, ?_, hfr⟩ d_G_writeObject_10
      rw [e9]; exact hO0
  | succ n ih =>
    intro hn ad C x w0 wn sn hG hO g u hg
    have IH : gi_obj l D ca kS kT cd mk td n := fun {ad C x w0 wn sn} => ih (by omega)
    have hZ := z9_ok kS kT
    have hG0 := hG
    obtain ⟨g00, g10, g20, hmk, hDD, hTT, hKK⟩ := hG
    have hO0 := hO
    obtain ⟨by0, wt, h30, h40, h50, h60, h70, hlen, hby, hwn, hw0, hwt⟩ := hO
    refine pw_ofW (cc := b_G_writeObject) (maxL := 5) (ret := none) (by decide) rfl (Nat.le_of_ble_eq_true rfl) ?_
    intro p e s m args below meth c A ls hB hA hw hK hz hl
    obtain ⟨hx, hb, hr, hml, hts0, hlocks, hown, hnm⟩ := hB
    have hts := wd_hts hts0
    have hown : s.vm.findClass "GraphWriter" = some m.cls := hown
    have hl : lv_has ls 5 [(0, .ref (ad 0 0)), (1, .int g), (2, .int u), (3, .int (nI (13 - (n + 1))))] := hl
    have hz0 := hz
    obtain ⟨hz1, hz2, hz3, hk0, hk1, hk2, hk3, hk4, hk5, hk6, hk7, hao1, hao2, hnw⟩ := hz0
    have hfr : os_fr C C := fun _ _ _ => rfl
    rw [show 13 - (n + 1) = 12 - n by omega] at hl
    refine lv_aload_n hx hb d_G_writeObject_0 rfl (lv_at hl 0 rfl) ?_
    refine pw_get (Cn := "GraphWriter") (T := F_G) (N := 4) hx hb hts in_G hown hK hw 0 0 rfl g00 rfl 2 (by decide) (hts _ wd_142) (fun _ h9 => h9) rfl d_G_writeObject_1 ?_
    refine pw_get (Cn := "GraphWriter$Out") (T := F_O) (N := 11) hx hb hts in_O hown hK hw 3 0 rfl h30 rfl 6 (by decide) (hts _ wd_98) (fun _ h9 => h9) rfl d_G_writeObject_4 ?_
    refine lv_if_eq (tgt := 11) hx hb d_G_writeObject_7 (by decide) (fun c_1 => ?_) (fun c_1 => ?_)
    · skip
      refine lv_iload_n hx hb d_G_writeObject_11 rfl (lv_at hl 1 rfl) ?_
      refine lv_iconst (v := (-1)) hx hb d_G_writeObject_12 (by decide) ?_
      refine lv_icmp_ne (tgt := 28) hx hb d_G_writeObject_13 (by decide) (fun c_2 => ?_) (fun c_2 => ?_)
      · skip
        refine lv_iload_n hx hb d_G_writeObject_28 rfl (lv_at hl 3 rfl) ?_
        refine lv_bipush (v := 12) hx hb d_G_writeObject_29 (by decide) ?_
        refine lv_icmp_le (tgt := 44) hx hb d_G_writeObject_31 (by decide) (fun c_3 => ?_) (fun c_3 => ?_)
        · skip
          refine lv_aload_n hx hb d_G_writeObject_44 rfl (lv_at hl 0 rfl) ?_
          refine lv_iload_n hx hb d_G_writeObject_45 rfl (lv_at hl 1 rfl) ?_
          obtain ⟨j, hj, hgj⟩ : ∃ j, j < mk ∧ g = nI j := by
            rcases hg with h9 | h9
            · exact absurd h9 c_2
            · exact h9
          have ho : ga_repl td 12 j 0 < mk := ga_repl_lt (fun i hi => (hwT i hi).1) 12 j 0 hj (by omega)
          have eo : ga_repl td 12 g.toNatClampNeg 0 = ga_repl td 12 j 0 := by rw [hgj, nI_clamp (by omega)]
          obtain ⟨o, hoe⟩ : ∃ q, q = ga_repl td 12 j 0 := ⟨_, rfl⟩
          rw [hgj]
          refine pw_calli (va_runV (As := [.int (nI j)]) (rest := []) ⟨hx, hb, hml, hown, hts0⟩ (k_G_replaced hG0 hj (fun i hi => (hwT i hi).1) _) (cwV 1 hts0 (wd_V wd_604 wd_601 wd_603 wd_11 wd_53) rfl rfl rfl (by decide +kernel) ⟨(by (try dsimp only); omega), (by (try dsimp only); omega)⟩) (pw_preV hZ hw hA hK hz rfl g00 rfl) rfl rfl hl.1 rfl (lv_room (Nat.le_of_ble_eq_true rfl)) d_G_writeObject_46 ⟨(by (try dsimp only); omega), (by (try dsimp only); omega)⟩) hw hA (fun r_6 ad_4 C_5 H locs hp hw => ?_)
          obtain ⟨⟨hae, hce⟩, hre⟩ := hp
          rw [hae, hce] at hw
          rw [hre]
          clear hae hce hre
          rw [← hoe] at ho eo ⊢
          refine lv_istore (lv' := [(4, .int (nI o)), (0, .ref (ad 0 0)), (1, .int g), (2, .int u), (3, .int (nI (12 - n)))]) hx hb d_G_writeObject_49 hl (by decide) rfl (fun ls hl => ?_)
          refine lv_iload_n hx hb d_G_writeObject_51 rfl (lv_at hl 3 rfl) ?_
          refine lv_if_ne (tgt := 68) hx hb d_G_writeObject_52 (by decide) (fun c_7 => ?_) (fun c_7 => ?_)
          · skip
            refine lv_aload_n hx hb d_G_writeObject_68 rfl (lv_at hl 1 rfl) ?_
            refine pw_get (Cn := "GraphWriter") (T := F_G) (N := 4) hx hb hts in_G hown hK hw 0 0 rfl g00 rfl 1 (by decide) (hts _ wd_141) (fun _ h9 => h9) rfl d_G_writeObject_69 ?_
            refine lv_iload hx hb d_G_writeObject_72 (lv_at hl 0 rfl) ?_
            obtain ⟨p20, p21, p22, pn, pt⟩ := hTT o ho
            refine pw_aald hx hb hK hw 2 0 rfl 5 g20 rfl o rfl (by omega) (by omega) d_G_writeObject_74 ?_
            rw [gw_th ho]
            refine pw_get (Cn := "GraphWriter$Thing") (T := F_T) (N := 7) hx hb hts in_T hown hK hw 20 o rfl p20 rfl 0 (by decide) (hts _ wd_375) (fun _ h9 => h9) rfl d_G_writeObject_75 ?_
            rcases (hwT o ho).2.1 with h9 | h9 | h9 | h9 | h9
            · skip
              refine lv_tableOut (tgt := 158) hx hb d_G_writeObject_78 (by rw [h9]; decide) (by decide) ?_
              refine lv_aload_n hx hb d_G_writeObject_158 rfl (lv_at hl 1 rfl) ?_
              refine lv_iload hx hb d_G_writeObject_159 (lv_at hl 0 rfl) ?_
              refine lv_iload_n hx hb d_G_writeObject_161 rfl (lv_at hl 4 rfl) ?_
              refine pw_callv (va_runV (As := [.int (nI o), .int (nI (12 - n))]) (rest := []) ⟨hx, hb, hml, hown, hts0⟩ (k_G_writeInstance hG0 hO0 (by omega) IH hwf hwT ho h9 _) (cwV 2 hts0 (wd_V wd_687 wd_684 wd_686 wd_16 wd_53) rfl rfl rfl (by decide +kernel) ⟨(by (try dsimp only); omega), (by (try dsimp only); omega)⟩) (pw_preV hZ hw hA hK hz rfl g00 rfl) rfl rfl hl.1 rfl (lv_room (Nat.le_of_ble_eq_true rfl)) d_G_writeObject_162 ⟨(by (try dsimp only); omega), (by (try dsimp only); omega)⟩) hw hA (fun ad_8 C_9 H locs hp hw => ?_)
              obtain ⟨hae, hO, hf1⟩ := hp
              rw [hae] at hw; clear hae
              have hfr : os_fr C C_9 := fun x y h => (hf1 x y h).trans (hfr x y h)
              obtain ⟨x_11, hx_11⟩ : ∃ z, z = ga_instn (fun x g => ga_obj cd td n x g 0) cd x o (td o) := ⟨_, rfl⟩
              rw [← hx_11] at hO
              have hO0 := hO
              obtain ⟨by0, wt, h30, h40, h50, h60, h70, hlen, hby, hwn, hw0, hwt⟩ := hO
              have hG := hG0.fr hf1
              have hG0 := hG
              obtain ⟨g00, g10, g20, hmk, hDD, hTT, hKK⟩ := hG
              obtain ⟨p20, p21, p22, pn, pt⟩ := hTT o ho
              have e8 : ga_sw (fun x g => ga_obj cd td n x g 0) cd td x o = x_11 := by unfold ga_sw; rw [if_neg (by rw [h9]; decide), if_neg (by rw [h9]; decide), if_neg (by rw [h9]; decide), if_neg (by rw [h9]; decide), ← hx_11]
              have e9 : ga_obj cd td (n + 1) x g u = x_11 := by refine (if_pos c_1).trans ((if_neg c_2).trans ?_); rw [eo]; unfold ga_body; rw [if_neg c_7]; exact e8
              refine pw_vret hx hb hr hlocks hw ⟨rfl, ?_, hfr⟩ d_G_writeObject_165
              first | (rw [e9]; exact hO0) | (rw [← hgj, e9]; exact hO0)
            · skip
              refine lv_tableIn (off := 30) (tgt := 108) hx hb d_G_writeObject_78 (by rw [h9]; decide) (by rw [h9]; decide) (by rw [h9]; rfl) (by decide) ?_
              refine lv_aload_n hx hb d_G_writeObject_108 rfl (lv_at hl 1 rfl) ?_
              refine pw_get (Cn := "GraphWriter") (T := F_G) (N := 4) hx hb hts in_G hown hK hw 0 0 rfl g00 rfl 2 (by decide) (hts _ wd_142) (fun _ h9 => h9) rfl d_G_writeObject_109 ?_
              refine lv_iload hx hb d_G_writeObject_112 (lv_at hl 0 rfl) ?_
              refine lv_aload_n hx hb d_G_writeObject_114 rfl (lv_at hl 1 rfl) ?_
              refine pw_get (Cn := "GraphWriter") (T := F_G) (N := 4) hx hb hts in_G hown hK hw 0 0 rfl g00 rfl 1 (by decide) (hts _ wd_141) (fun _ h9 => h9) rfl d_G_writeObject_115 ?_
              refine lv_iload hx hb d_G_writeObject_118 (lv_at hl 0 rfl) ?_
              refine pw_aald hx hb hK hw 2 0 rfl 5 g20 rfl o rfl (by omega) (by omega) d_G_writeObject_120 ?_
              rw [gw_th ho]
              refine pw_get (Cn := "GraphWriter$Thing") (T := F_T) (N := 7) hx hb hts in_T hown hK hw 20 o rfl p20 rfl 4 (by decide) (hts _ wd_383) (fun _ h9 => h9) rfl d_G_writeObject_121 ?_
              rw [show tt_ta kS ad o (td o) = ad 23 o from if_pos (Or.inl h9)]
              refine pw_callv (va_runV (As := [.int (nI o), .ref (ad 23 o)]) (rest := []) ⟨hx, hb, hml, hown, hts0⟩ (k_O_putText hO0 (pt (Or.inl h9)) (by decide) (by decide) (k := o) (by omega) _) (cwV 2 hts0 (wd_V wd_614 wd_611 wd_612 wd_613 wd_54) rfl rfl rfl (by decide +kernel) ⟨(by (try dsimp only); omega), (by (try dsimp only); omega)⟩) (pw_preV hZ hw hA hK hz rfl h30 rfl) rfl rfl hl.1 rfl (lv_room (Nat.le_of_ble_eq_true rfl)) d_G_writeObject_124 ⟨(by (try dsimp only); omega), (by (try dsimp only); omega)⟩) hw hA (fun ad_12 C_13 H locs hp hw => ?_)
              obtain ⟨hae, hO, hf1⟩ := hp
              rw [hae] at hw; clear hae
              have hfr : os_fr C C_13 := fun x y h => (hf1 x y h).trans (hfr x y h)
              obtain ⟨x_15, hx_15⟩ : ∃ z, z = es_text x o (tt_tx (td o)) := ⟨_, rfl⟩
              rw [← hx_15] at hO
              have hO0 := hO
              obtain ⟨by0, wt, h30, h40, h50, h60, h70, hlen, hby, hwn, hw0, hwt⟩ := hO
              have hG := hG0.fr hf1
              have hG0 := hG
              obtain ⟨g00, g10, g20, hmk, hDD, hTT, hKK⟩ := hG
              obtain ⟨p20, p21, p22, pn, pt⟩ := hTT o ho
              refine lv_goto (tgt := 165) hx hb d_G_writeObject_127 (by decide) ?_
              have e8 : ga_sw (fun x g => ga_obj cd td n x g 0) cd td x o = x_15 := by unfold ga_sw; rw [if_pos h9, ← hx_15]
              have e9 : ga_obj cd td (n + 1) x g u = x_15 := by refine (if_pos c_1).trans ((if_neg c_2).trans ?_); rw [eo]; unfold ga_body; rw [if_neg c_7]; exact e8
              refine pw_vret hx hb hr hlocks hw ⟨rfl, ?_, hfr⟩ d_G_writeObject_165
              first | (rw [e9]; exact hO0) | (rw [← hgj, e9]; exact hO0)
            · skip
              refine lv_tableIn (off := 52) (tgt := 130) hx hb d_G_writeObject_78 (by rw [h9]; decide) (by rw [h9]; decide) (by rw [h9]; rfl) (by decide) ?_
              refine lv_aload_n hx hb d_G_writeObject_130 rfl (lv_at hl 1 rfl) ?_
              refine lv_iload hx hb d_G_writeObject_131 (lv_at hl 0 rfl) ?_
              refine pw_callv (va_runV (As := [.int (nI o)]) (rest := []) ⟨hx, hb, hml, hown, hts0⟩ (k_G_writeInts hG0 hO0 ho _) (cwV 1 hts0 (wd_V wd_639 wd_636 wd_638 wd_12 wd_53) rfl rfl rfl (by decide +kernel) ⟨(by (try dsimp only); omega), (by (try dsimp only); omega)⟩) (pw_preV hZ hw hA hK hz rfl g00 rfl) rfl rfl hl.1 rfl (lv_room (Nat.le_of_ble_eq_true rfl)) d_G_writeObject_133 ⟨(by (try dsimp only); omega), (by (try dsimp only); omega)⟩) hw hA (fun ad_16 C_17 H locs hp hw => ?_)
              obtain ⟨hae, hO, hf1⟩ := hp
              rw [hae] at hw; clear hae
              have hfr : os_fr C C_17 := fun x y h => (hf1 x y h).trans (hfr x y h)
              obtain ⟨x_19, hx_19⟩ : ∃ z, z = ga_ints x o (td o) := ⟨_, rfl⟩
              rw [← hx_19] at hO
              have hO0 := hO
              obtain ⟨by0, wt, h30, h40, h50, h60, h70, hlen, hby, hwn, hw0, hwt⟩ := hO
              have hG := hG0.fr hf1
              have hG0 := hG
              obtain ⟨g00, g10, g20, hmk, hDD, hTT, hKK⟩ := hG
              obtain ⟨p20, p21, p22, pn, pt⟩ := hTT o ho
              refine lv_goto (tgt := 165) hx hb d_G_writeObject_136 (by decide) ?_
              have e8 : ga_sw (fun x g => ga_obj cd td n x g 0) cd td x o = x_19 := by unfold ga_sw; rw [if_neg (by rw [h9]; decide), if_pos h9, ← hx_19]
              have e9 : ga_obj cd td (n + 1) x g u = x_19 := by refine (if_pos c_1).trans ((if_neg c_2).trans ?_); rw [eo]; unfold ga_body; rw [if_neg c_7]; exact e8
              refine pw_vret hx hb hr hlocks hw ⟨rfl, ?_, hfr⟩ d_G_writeObject_165
              first | (rw [e9]; exact hO0) | (rw [← hgj, e9]; exact hO0)
            · skip
              refine lv_tableIn (off := 61) (tgt := 139) hx hb d_G_writeObject_78 (by rw [h9]; decide) (by rw [h9]; decide) (by rw [h9]; rfl) (by decide) ?_
              refine lv_aload_n hx hb d_G_writeObject_139 rfl (lv_at hl 1 rfl) ?_
              refine lv_iload hx hb d_G_writeObject_140 (lv_at hl 0 rfl) ?_
              refine lv_iload_n hx hb d_G_writeObject_142 rfl (lv_at hl 4 rfl) ?_
              refine pw_callv (va_runV (As := [.int (nI o), .int (nI (12 - n))]) (rest := []) ⟨hx, hb, hml, hown, hts0⟩ (k_G_writeRefs hG0 hO0 (by omega) IH hwT ho h9 _) (cwV 2 hts0 (wd_V wd_659 wd_656 wd_658 wd_13 wd_53) rfl rfl rfl (by decide +kernel) ⟨(by (try dsimp only); omega), (by (try dsimp only); omega)⟩) (pw_preV hZ hw hA hK hz rfl g00 rfl) rfl rfl hl.1 rfl (lv_room (Nat.le_of_ble_eq_true rfl)) d_G_writeObject_143 ⟨(by (try dsimp only); omega), (by (try dsimp only); omega)⟩) hw hA (fun ad_20 C_21 H locs hp hw => ?_)
              obtain ⟨hae, hO, hf1⟩ := hp
              rw [hae] at hw; clear hae
              have hfr : os_fr C C_21 := fun x y h => (hf1 x y h).trans (hfr x y h)
              obtain ⟨x_23, hx_23⟩ : ∃ z, z = ga_refs (fun x g => ga_obj cd td n x g 0) x o (td o) := ⟨_, rfl⟩
              rw [← hx_23] at hO
              have hO0 := hO
              obtain ⟨by0, wt, h30, h40, h50, h60, h70, hlen, hby, hwn, hw0, hwt⟩ := hO
              have hG := hG0.fr hf1
              have hG0 := hG
              obtain ⟨g00, g10, g20, hmk, hDD, hTT, hKK⟩ := hG
              obtain ⟨p20, p21, p22, pn, pt⟩ := hTT o ho
              refine lv_goto (tgt := 165) hx hb d_G_writeObject_146 (by decide) ?_
              have e8 : ga_sw (fun x g => ga_obj cd td n x g 0) cd td x o = x_23 := by unfold ga_sw; rw [if_neg (by rw [h9]; decide), if_neg (by rw [h9]; decide), if_pos h9, ← hx_23]
              have e9 : ga_obj cd td (n + 1) x g u = x_23 := by refine (if_pos c_1).trans ((if_neg c_2).trans ?_); rw [eo]; unfold ga_body; rw [if_neg c_7]; exact e8
              refine pw_vret hx hb hr hlocks hw ⟨rfl, ?_, hfr⟩ d_G_writeObject_165
              first | (rw [e9]; exact hO0) | (rw [← hgj, e9]; exact hO0)
            · skip
              refine lv_tableIn (off := 71) (tgt := 149) hx hb d_G_writeObject_78 (by rw [h9]; decide) (by rw [h9]; decide) (by rw [h9]; rfl) (by decide) ?_
              refine lv_aload_n hx hb d_G_writeObject_149 rfl (lv_at hl 1 rfl) ?_
              refine lv_iload hx hb d_G_writeObject_150 (lv_at hl 0 rfl) ?_
              refine pw_callv (va_runV (As := [.int (nI o)]) (rest := []) ⟨hx, hb, hml, hown, hts0⟩ (k_G_writeConstant hG0 hO0 hwf hwT ho h9 _) (cwV 1 hts0 (wd_V wd_665 wd_662 wd_664 wd_14 wd_53) rfl rfl rfl (by decide +kernel) ⟨(by (try dsimp only); omega), (by (try dsimp only); omega)⟩) (pw_preV hZ hw hA hK hz rfl g00 rfl) rfl rfl hl.1 rfl (lv_room (Nat.le_of_ble_eq_true rfl)) d_G_writeObject_152 ⟨(by (try dsimp only); omega), (by (try dsimp only); omega)⟩) hw hA (fun ad_24 C_25 H locs hp hw => ?_)
              obtain ⟨hae, hO, hf1⟩ := hp
              rw [hae] at hw; clear hae
              have hfr : os_fr C C_25 := fun x y h => (hf1 x y h).trans (hfr x y h)
              obtain ⟨x_27, hx_27⟩ : ∃ z, z = ga_const cd x o (td o) := ⟨_, rfl⟩
              rw [← hx_27] at hO
              have hO0 := hO
              obtain ⟨by0, wt, h30, h40, h50, h60, h70, hlen, hby, hwn, hw0, hwt⟩ := hO
              have hG := hG0.fr hf1
              have hG0 := hG
              obtain ⟨g00, g10, g20, hmk, hDD, hTT, hKK⟩ := hG
              obtain ⟨p20, p21, p22, pn, pt⟩ := hTT o ho
              refine lv_goto (tgt := 165) hx hb d_G_writeObject_155 (by decide) ?_
              have e8 : ga_sw (fun x g => ga_obj cd td n x g 0) cd td x o = x_27 := by unfold ga_sw; rw [if_neg (by rw [h9]; decide), if_neg (by rw [h9]; decide), if_neg (by rw [h9]; decide), if_pos h9, ← hx_27]
              have e9 : ga_obj cd td (n + 1) x g u = x_27 := by refine (if_pos c_1).trans ((if_neg c_2).trans ?_); rw [eo]; unfold ga_body; rw [if_neg c_7]; exact e8
              refine pw_vret hx hb hr hlocks hw ⟨rfl, ?_, hfr⟩ d_G_writeObject_165
              first | (rw [e9]; exact hO0) | (rw [← hgj, e9]; exact hO0)
          · skip
            refine lv_aload_n hx hb d_G_writeObject_55 rfl (lv_at hl 1 rfl) ?_
            refine pw_get (Cn := "GraphWriter") (T := F_G) (N := 4) hx hb hts in_G hown hK hw 0 0 rfl g00 rfl 2 (by decide) (hts _ wd_142) (fun _ h9 => h9) rfl d_G_writeObject_56 ?_
            refine lv_iload hx hb d_G_writeObject_59 (lv_at hl 0 rfl) ?_
            refine pw_calli (va_runV (As := [.int (nI o)]) (rest := []) ⟨hx, hb, hml, hown, hts0⟩ (k_O_putReference hZ hO0 (k := o) (by omega) _) (cwV 1 hts0 (wd_V wd_608 wd_605 wd_606 wd_607 wd_54) rfl rfl rfl (by decide +kernel) ⟨(by (try dsimp only); omega), (by (try dsimp only); omega)⟩) (pw_preV hZ hw hA hK hz rfl h30 rfl) rfl rfl hl.1 rfl (lv_room (Nat.le_of_ble_eq_true rfl)) d_G_writeObject_61 ⟨(by (try dsimp only); omega), (by (try dsimp only); omega)⟩) hw hA (fun r_30 ad_28 C_29 H locs hp hw => ?_)
            obtain ⟨⟨hae, hO, hf1⟩, hre⟩ := hp
            rw [hae] at hw; clear hae
            have hfr : os_fr C C_29 := fun x y h => (hf1 x y h).trans (hfr x y h)
            rw [hre]; clear hre r_30
            obtain ⟨x_31, hx_31⟩ : ∃ z, z = (es_ref x o).1 := ⟨_, rfl⟩
            rw [← hx_31] at hO
            have hO0 := hO
            obtain ⟨by0, wt, h30, h40, h50, h60, h70, hlen, hby, hwn, hw0, hwt⟩ := hO
            have hG := hG0.fr hf1
            have hG0 := hG
            obtain ⟨g00, g10, g20, hmk, hDD, hTT, hKK⟩ := hG
            refine lv_if_eq (tgt := 68) hx hb d_G_writeObject_64 (by decide) (fun c_32 => ?_) (fun c_32 => ?_)
            · skip
              refine lv_aload_n hx hb d_G_writeObject_68 rfl (lv_at hl 1 rfl) ?_
              refine pw_get (Cn := "GraphWriter") (T := F_G) (N := 4) hx hb hts in_G hown hK hw 0 0 rfl g00 rfl 1 (by decide) (hts _ wd_141) (fun _ h9 => h9) rfl d_G_writeObject_69 ?_
              refine lv_iload hx hb d_G_writeObject_72 (lv_at hl 0 rfl) ?_
              obtain ⟨p20, p21, p22, pn, pt⟩ := hTT o ho
              refine pw_aald hx hb hK hw 2 0 rfl 5 g20 rfl o rfl (by omega) (by omega) d_G_writeObject_74 ?_
              rw [gw_th ho]
              refine pw_get (Cn := "GraphWriter$Thing") (T := F_T) (N := 7) hx hb hts in_T hown hK hw 20 o rfl p20 rfl 0 (by decide) (hts _ wd_375) (fun _ h9 => h9) rfl d_G_writeObject_75 ?_
              rcases (hwT o ho).2.1 with h9 | h9 | h9 | h9 | h9
              · skip
                refine lv_tableOut (tgt := 158) hx hb d_G_writeObject_78 (by rw [h9]; decide) (by decide) ?_
                refine lv_aload_n hx hb d_G_writeObject_158 rfl (lv_at hl 1 rfl) ?_
                refine lv_iload hx hb d_G_writeObject_159 (lv_at hl 0 rfl) ?_
                refine lv_iload_n hx hb d_G_writeObject_161 rfl (lv_at hl 4 rfl) ?_
                refine pw_callv (va_runV (As := [.int (nI o), .int (nI (12 - n))]) (rest := []) ⟨hx, hb, hml, hown, hts0⟩ (k_G_writeInstance hG0 hO0 (by omega) IH hwf hwT ho h9 _) (cwV 2 hts0 (wd_V wd_687 wd_684 wd_686 wd_16 wd_53) rfl rfl rfl (by decide +kernel) ⟨(by (try dsimp only); omega), (by (try dsimp only); omega)⟩) (pw_preV hZ hw hA hK hz rfl g00 rfl) rfl rfl hl.1 rfl (lv_room (Nat.le_of_ble_eq_true rfl)) d_G_writeObject_162 ⟨(by (try dsimp only); omega), (by (try dsimp only); omega)⟩) hw hA (fun ad_33 C_34 H locs hp hw => ?_)
                obtain ⟨hae, hO, hf1⟩ := hp
                rw [hae] at hw; clear hae
                have hfr : os_fr C C_34 := fun x y h => (hf1 x y h).trans (hfr x y h)
                obtain ⟨x_36, hx_36⟩ : ∃ z, z = ga_instn (fun x g => ga_obj cd td n x g 0) cd x_31 o (td o) := ⟨_, rfl⟩
                rw [← hx_36] at hO
                have hO0 := hO
                obtain ⟨by0, wt, h30, h40, h50, h60, h70, hlen, hby, hwn, hw0, hwt⟩ := hO
                have hG := hG0.fr hf1
                have hG0 := hG
                obtain ⟨g00, g10, g20, hmk, hDD, hTT, hKK⟩ := hG
                obtain ⟨p20, p21, p22, pn, pt⟩ := hTT o ho
                have e8 : ga_sw (fun x g => ga_obj cd td n x g 0) cd td x_31 o = x_36 := by unfold ga_sw; rw [if_neg (by rw [h9]; decide), if_neg (by rw [h9]; decide), if_neg (by rw [h9]; decide), if_neg (by rw [h9]; decide), ← hx_36]
                have e9 : ga_obj cd td (n + 1) x g u = x_36 := by refine (if_pos c_1).trans ((if_neg c_2).trans ?_); rw [eo]; unfold ga_body; rw [if_pos c_7, if_pos c_32, ← hx_31]; exact e8
                refine pw_vret hx hb hr hlocks hw ⟨rfl, ?_, hfr⟩ d_G_writeObject_165
                first | (rw [e9]; exact hO0) | (rw [← hgj, e9]; exact hO0)
              · skip
                refine lv_tableIn (off := 30) (tgt := 108) hx hb d_G_writeObject_78 (by rw [h9]; decide) (by rw [h9]; decide) (by rw [h9]; rfl) (by decide) ?_
                refine lv_aload_n hx hb d_G_writeObject_108 rfl (lv_at hl 1 rfl) ?_
                refine pw_get (Cn := "GraphWriter") (T := F_G) (N := 4) hx hb hts in_G hown hK hw 0 0 rfl g00 rfl 2 (by decide) (hts _ wd_142) (fun _ h9 => h9) rfl d_G_writeObject_109 ?_
                refine lv_iload hx hb d_G_writeObject_112 (lv_at hl 0 rfl) ?_
                refine lv_aload_n hx hb d_G_writeObject_114 rfl (lv_at hl 1 rfl) ?_
                refine pw_get (Cn := "GraphWriter") (T := F_G) (N := 4) hx hb hts in_G hown hK hw 0 0 rfl g00 rfl 1 (by decide) (hts _ wd_141) (fun _ h9 => h9) rfl d_G_writeObject_115 ?_
                refine lv_iload hx hb d_G_writeObject_118 (lv_at hl 0 rfl) ?_
                refine pw_aald hx hb hK hw 2 0 rfl 5 g20 rfl o rfl (by omega) (by omega) d_G_writeObject_120 ?_
                rw [gw_th ho]
                refine pw_get (Cn := "GraphWriter$Thing") (T := F_T) (N := 7) hx hb hts in_T hown hK hw 20 o rfl p20 rfl 4 (by decide) (hts _ wd_383) (fun _ h9 => h9) rfl d_G_writeObject_121 ?_
                rw [show tt_ta kS ad o (td o) = ad 23 o from if_pos (Or.inl h9)]
                refine pw_callv (va_runV (As := [.int (nI o), .ref (ad 23 o)]) (rest := []) ⟨hx, hb, hml, hown, hts0⟩ (k_O_putText hO0 (pt (Or.inl h9)) (by decide) (by decide) (k := o) (by omega) _) (cwV 2 hts0 (wd_V wd_614 wd_611 wd_612 wd_613 wd_54) rfl rfl rfl (by decide +kernel) ⟨(by (try dsimp only); omega), (by (try dsimp only); omega)⟩) (pw_preV hZ hw hA hK hz rfl h30 rfl) rfl rfl hl.1 rfl (lv_room (Nat.le_of_ble_eq_true rfl)) d_G_writeObject_124 ⟨(by (try dsimp only); omega), (by (try dsimp only); omega)⟩) hw hA (fun ad_37 C_38 H locs hp hw => ?_)
                obtain ⟨hae, hO, hf1⟩ := hp
                rw [hae] at hw; clear hae
                have hfr : os_fr C C_38 := fun x y h => (hf1 x y h).trans (hfr x y h)
                obtain ⟨x_40, hx_40⟩ : ∃ z, z = es_text x_31 o (tt_tx (td o)) := ⟨_, rfl⟩
                rw [← hx_40] at hO
                have hO0 := hO
                obtain ⟨by0, wt, h30, h40, h50, h60, h70, hlen, hby, hwn, hw0, hwt⟩ := hO
                have hG := hG0.fr hf1
                have hG0 := hG
                obtain ⟨g00, g10, g20, hmk, hDD, hTT, hKK⟩ := hG
                obtain ⟨p20, p21, p22, pn, pt⟩ := hTT o ho
                refine lv_goto (tgt := 165) hx hb d_G_writeObject_127 (by decide) ?_
                have e8 : ga_sw (fun x g => ga_obj cd td n x g 0) cd td x_31 o = x_40 := by unfold ga_sw; rw [if_pos h9, ← hx_40]
                have e9 : ga_obj cd td (n + 1) x g u = x_40 := by refine (if_pos c_1).trans ((if_neg c_2).trans ?_); rw [eo]; unfold ga_body; rw [if_pos c_7, if_pos c_32, ← hx_31]; exact e8
                refine pw_vret hx hb hr hlocks hw ⟨rfl, ?_, hfr⟩ d_G_writeObject_165
                first | (rw [e9]; exact hO0) | (rw [← hgj, e9]; exact hO0)
              · skip
                refine lv_tableIn (off := 52) (tgt := 130) hx hb d_G_writeObject_78 (by rw [h9]; decide) (by rw [h9]; decide) (by rw [h9]; rfl) (by decide) ?_
                refine lv_aload_n hx hb d_G_writeObject_130 rfl (lv_at hl 1 rfl) ?_
                refine lv_iload hx hb d_G_writeObject_131 (lv_at hl 0 rfl) ?_
                refine pw_callv (va_runV (As := [.int (nI o)]) (rest := []) ⟨hx, hb, hml, hown, hts0⟩ (k_G_writeInts hG0 hO0 ho _) (cwV 1 hts0 (wd_V wd_639 wd_636 wd_638 wd_12 wd_53) rfl rfl rfl (by decide +kernel) ⟨(by (try dsimp only); omega), (by (try dsimp only); omega)⟩) (pw_preV hZ hw hA hK hz rfl g00 rfl) rfl rfl hl.1 rfl (lv_room (Nat.le_of_ble_eq_true rfl)) d_G_writeObject_133 ⟨(by (try dsimp only); omega), (by (try dsimp only); omega)⟩) hw hA (fun ad_41 C_42 H locs hp hw => ?_)
                obtain ⟨hae, hO, hf1⟩ := hp
                rw [hae] at hw; clear hae
                have hfr : os_fr C C_42 := fun x y h => (hf1 x y h).trans (hfr x y h)
                obtain ⟨x_44, hx_44⟩ : ∃ z, z = ga_ints x_31 o (td o) := ⟨_, rfl⟩
                rw [← hx_44] at hO
                have hO0 := hO
                obtain ⟨by0, wt, h30, h40, h50, h60, h70, hlen, hby, hwn, hw0, hwt⟩ := hO
                have hG := hG0.fr hf1
                have hG0 := hG
                obtain ⟨g00, g10, g20, hmk, hDD, hTT, hKK⟩ := hG
                obtain ⟨p20, p21, p22, pn, pt⟩ := hTT o ho
                refine lv_goto (tgt := 165) hx hb d_G_writeObject_136 (by decide) ?_
                have e8 : ga_sw (fun x g => ga_obj cd td n x g 0) cd td x_31 o = x_44 := by unfold ga_sw; rw [if_neg (by rw [h9]; decide), if_pos h9, ← hx_44]
                have e9 : ga_obj cd td (n + 1) x g u = x_44 := by refine (if_pos c_1).trans ((if_neg c_2).trans ?_); rw [eo]; unfold ga_body; rw [if_pos c_7, if_pos c_32, ← hx_31]; exact e8
                refine pw_vret hx hb hr hlocks hw ⟨rfl, ?_, hfr⟩ d_G_writeObject_165
                first | (rw [e9]; exact hO0) | (rw [← hgj, e9]; exact hO0)
              · skip
                refine lv_tableIn (off := 61) (tgt := 139) hx hb d_G_writeObject_78 (by rw [h9]; decide) (by rw [h9]; decide) (by rw [h9]; rfl) (by decide) ?_
                refine lv_aload_n hx hb d_G_writeObject_139 rfl (lv_at hl 1 rfl) ?_
                refine lv_iload hx hb d_G_writeObject_140 (lv_at hl 0 rfl) ?_
                refine lv_iload_n hx hb d_G_writeObject_142 rfl (lv_at hl 4 rfl) ?_
                refine pw_callv (va_runV (As := [.int (nI o), .int (nI (12 - n))]) (rest := []) ⟨hx, hb, hml, hown, hts0⟩ (k_G_writeRefs hG0 hO0 (by omega) IH hwT ho h9 _) (cwV 2 hts0 (wd_V wd_659 wd_656 wd_658 wd_13 wd_53) rfl rfl rfl (by decide +kernel) ⟨(by (try dsimp only); omega), (by (try dsimp only); omega)⟩) (pw_preV hZ hw hA hK hz rfl g00 rfl) rfl rfl hl.1 rfl (lv_room (Nat.le_of_ble_eq_true rfl)) d_G_writeObject_143 ⟨(by (try dsimp only); omega), (by (try dsimp only); omega)⟩) hw hA (fun ad_45 C_46 H locs hp hw => ?_)
                obtain ⟨hae, hO, hf1⟩ := hp
                rw [hae] at hw; clear hae
                have hfr : os_fr C C_46 := fun x y h => (hf1 x y h).trans (hfr x y h)
                obtain ⟨x_48, hx_48⟩ : ∃ z, z = ga_refs (fun x g => ga_obj cd td n x g 0) x_31 o (td o) := ⟨_, rfl⟩
                rw [← hx_48] at hO
                have hO0 := hO
                obtain ⟨by0, wt, h30, h40, h50, h60, h70, hlen, hby, hwn, hw0, hwt⟩ := hO
                have hG := hG0.fr hf1
                have hG0 := hG
                obtain ⟨g00, g10, g20, hmk, hDD, hTT, hKK⟩ := hG
                obtain ⟨p20, p21, p22, pn, pt⟩ := hTT o ho
                refine lv_goto (tgt := 165) hx hb d_G_writeObject_146 (by decide) ?_
                have e8 : ga_sw (fun x g => ga_obj cd td n x g 0) cd td x_31 o = x_48 := by unfold ga_sw; rw [if_neg (by rw [h9]; decide), if_neg (by rw [h9]; decide), if_pos h9, ← hx_48]
                have e9 : ga_obj cd td (n + 1) x g u = x_48 := by refine (if_pos c_1).trans ((if_neg c_2).trans ?_); rw [eo]; unfold ga_body; rw [if_pos c_7, if_pos c_32, ← hx_31]; exact e8
                refine pw_vret hx hb hr hlocks hw ⟨rfl, ?_, hfr⟩ d_G_writeObject_165
                first | (rw [e9]; exact hO0) | (rw [← hgj, e9]; exact hO0)
              · skip
                refine lv_tableIn (off := 71) (tgt := 149) hx hb d_G_writeObject_78 (by rw [h9]; decide) (by rw [h9]; decide) (by rw [h9]; rfl) (by decide) ?_
                refine lv_aload_n hx hb d_G_writeObject_149 rfl (lv_at hl 1 rfl) ?_
                refine lv_iload hx hb d_G_writeObject_150 (lv_at hl 0 rfl) ?_
                refine pw_callv (va_runV (As := [.int (nI o)]) (rest := []) ⟨hx, hb, hml, hown, hts0⟩ (k_G_writeConstant hG0 hO0 hwf hwT ho h9 _) (cwV 1 hts0 (wd_V wd_665 wd_662 wd_664 wd_14 wd_53) rfl rfl rfl (by decide +kernel) ⟨(by (try dsimp only); omega), (by (try dsimp only); omega)⟩) (pw_preV hZ hw hA hK hz rfl g00 rfl) rfl rfl hl.1 rfl (lv_room (Nat.le_of_ble_eq_true rfl)) d_G_writeObject_152 ⟨(by (try dsimp only); omega), (by (try dsimp only); omega)⟩) hw hA (fun ad_49 C_50 H locs hp hw => ?_)
                obtain ⟨hae, hO, hf1⟩ := hp
                rw [hae] at hw; clear hae
                have hfr : os_fr C C_50 := fun x y h => (hf1 x y h).trans (hfr x y h)
                obtain ⟨x_52, hx_52⟩ : ∃ z, z = ga_const cd x_31 o (td o) := ⟨_, rfl⟩
                rw [← hx_52] at hO
                have hO0 := hO
                obtain ⟨by0, wt, h30, h40, h50, h60, h70, hlen, hby, hwn, hw0, hwt⟩ := hO
                have hG := hG0.fr hf1
                have hG0 := hG
                obtain ⟨g00, g10, g20, hmk, hDD, hTT, hKK⟩ := hG
                obtain ⟨p20, p21, p22, pn, pt⟩ := hTT o ho
                refine lv_goto (tgt := 165) hx hb d_G_writeObject_155 (by decide) ?_
                have e8 : ga_sw (fun x g => ga_obj cd td n x g 0) cd td x_31 o = x_52 := by unfold ga_sw; rw [if_neg (by rw [h9]; decide), if_neg (by rw [h9]; decide), if_neg (by rw [h9]; decide), if_pos h9, ← hx_52]
                have e9 : ga_obj cd td (n + 1) x g u = x_52 := by refine (if_pos c_1).trans ((if_neg c_2).trans ?_); rw [eo]; unfold ga_body; rw [if_pos c_7, if_pos c_32, ← hx_31]; exact e8
                refine pw_vret hx hb hr hlocks hw ⟨rfl, ?_, hfr⟩ d_G_writeObject_165
                first | (rw [e9]; exact hO0) | (rw [← hgj, e9]; exact hO0)
            · skip
              have e9 : ga_obj cd td (n + 1) x g u = x_31 := by rw [hx_31]; refine (if_pos c_1).trans ((if_neg c_2).trans ?_); rw [eo]; unfold ga_body; rw [if_pos c_7, if_neg c_32]
              refine pw_vret hx hb hr hlocks hw ⟨rfl, ?_, hfr⟩ d_G_writeObject_67
              first | (rw [e9]; exact hO0) | (rw [← hgj, e9]; exact hO0)
        · exact absurd (nI_le (show 12 - n ≤ 12 by omega) (by decide)) c_3
      · skip
        refine lv_aload_n hx hb d_G_writeObject_16 rfl (lv_at hl 0 rfl) ?_
        refine pw_get (Cn := "GraphWriter") (T := F_G) (N := 4) hx hb hts in_G hown hK hw 0 0 rfl g00 rfl 2 (by decide) (hts _ wd_142) (fun _ h9 => h9) rfl d_G_writeObject_17 ?_
        refine lv_ldc2 (v := 112) hx hb hown (hts _ wd_600) d_G_writeObject_20 ?_
        refine lv_iconst (v := 1) hx hb d_G_writeObject_23 (by decide) ?_
        refine pw_callv (va_runV (As := [.long 112, .int 1]) (rest := []) ⟨hx, hb, hml, hown, hts0⟩ (k_O_put hO0 112 (w := 1) (by decide) _) (cwV 2 hts0 (wd_V wd_139 wd_136 wd_137 wd_138 wd_54) rfl rfl rfl (by decide +kernel) ⟨(by (try dsimp only); omega), (by (try dsimp only); omega)⟩) (pw_preV hZ hw hA hK hz rfl h30 rfl) rfl rfl hl.1 rfl (lv_room (Nat.le_of_ble_eq_true rfl)) d_G_writeObject_24 ⟨(by (try dsimp only); omega), (by (try dsimp only); omega)⟩) hw hA (fun ad_53 C_54 H locs hp hw => ?_)
        obtain ⟨hae, hO, hf1⟩ := hp
        rw [hae] at hw; clear hae
        have hfr : os_fr C C_54 := fun x y h => (hf1 x y h).trans (hfr x y h)
        obtain ⟨x_56, hx_56⟩ : ∃ z, z = es_put x 112 1 := ⟨_, rfl⟩
        rw [← hx_56] at hO
        have hO0 := hO
        obtain ⟨by0, wt, h30, h40, h50, h60, h70, hlen, hby, hwn, hw0, hwt⟩ := hO
        have hG := hG0.fr hf1
        have hG0 := hG
        obtain ⟨g00, g10, g20, hmk, hDD, hTT, hKK⟩ := hG
        have e9 : ga_obj cd td (n + 1) x g u = x_56 := by rw [hx_56]; exact (if_pos c_1).trans (if_pos c_2)
        refine pw_vret hx hb hr hlocks hw ⟨rfl, ?_, hfr⟩ d_G_writeObject_27
        first | (rw [e9]; exact hO0) | (rw [← hgj, e9]; exact hO0)
    · skip
      have e9 : ga_obj cd td (n + 1) x g u = x := if_neg c_1
      refine pw_vret hx hb hr hlocks hw ⟨rfl, ?_, hfr⟩ d_G_writeObject_10
      rw [e9]; exact hO0
