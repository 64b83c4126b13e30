def ga_const (cd : Nat → Option DT) (x : ES) (o : Nat) (t : TT) : ES := match cd (tt_ow t).toNatClampNeg with
  | none => x
  | some d => ga_tt (es_give (ga_descr cd d (es_put x 126 1)) o) (12 + o) (tt_tx t)
def ga_rrec (rc : ES → Int32 → ES) (t : TT) : Nat → ES → ES
  | 0, x => x
  | r + 1, x => ga_rrec rc t r (rc x (tt_va t (tt_n t - 1 - r)).toInt32)
def ga_refs (rc : ES → Int32 → ES) (x : ES) (o : Nat) (t : TT) : ES := ga_rrec rc t (tt_n t) (es_put (es_give (ga_top (es_put x 117 1) 31 (z9_tx 2) (-8012369246846506644) 2) o) (nI (tt_n t)).toInt64 4)
def ga_part (rc : ES → Int32 → ES) (t : TT) (d : DT) (fi : Nat) (x : ES) (i : Nat) : ES :=
  if dd_ty d (dd_or d i).toNatClampNeg < 6 then es_put x (if dd_ty d (dd_or d i).toNatClampNeg = 5 then tt_va t (fi + (dd_or d i).toNatClampNeg) &&& 1 else tt_va t (fi + (dd_or d i).toNatClampNeg)) (gw_wd (dd_ty d (dd_or d i).toNatClampNeg).toNatClampNeg).toNatClampNeg
  else rc x (tt_va t (fi + (dd_or d i).toNatClampNeg)).toInt32
def ga_prec (rc : ES → Int32 → ES) (t : TT) (d : DT) (fi : Nat) : Nat → ES → ES
  | 0, x => x
  | r + 1, x => ga_prec rc t d fi r (ga_part rc t d fi x (dd_sh d - 1 - r))
def ga_cust (k : Nat) (t : TT) (d : DT) (x : ES) : ES := if dd_kd d = 2 then es_put (es_put (es_put (es_put x 119 1) 4 1) (tt_ex t + nI k).toInt64 4) 120 1 else x
def ga_parts (rc : ES → Int32 → ES) (k : Nat) (t : TT) (d : DT) (fi : Nat) (x : ES) : ES := ga_cust k t d (ga_prec rc t d fi (dd_sh d) x)
def ga_irun (rc : ES → Int32 → ES) (cd : Nat → Option DT) (t : TT) (d0 : DT) : Nat → ES → Nat → ES
  | 0, x, _ => x
  | r + 1, x, fi => match cd (dd_cf d0 (dd_cn d0 - 1 - r)).toNatClampNeg with
    | none => x
    | some d => ga_irun rc cd t d0 r (if dd_kd d = 0 then x else ga_parts rc (dd_cf d0 (dd_cn d0 - 1 - r)).toNatClampNeg t d fi x) (fi + dd_fn d)
def ga_instn (rc : ES → Int32 → ES) (cd : Nat → Option DT) (x : ES) (o : Nat) (t : TT) : ES := match cd (tt_ow t).toNatClampNeg with
  | none => x
  | some d0 => if dd_kd d0 = 0 then es_abort x [nI (65 + (tt_ow t).toNatClampNeg)] else ga_irun rc cd t d0 (dd_cn d0) (es_give (ga_descr cd d0 (es_put x 115 1)) o) 0
def ga_sw (rc : ES → Int32 → ES) (cd : Nat → Option DT) (td : Nat → TT) (x : ES) (o : Nat) : ES :=
  if tt_so (td o) = 1 then es_text x o (tt_tx (td o)) else if tt_so (td o) = 2 then ga_ints x o (td o) else if tt_so (td o) = 3 then ga_refs rc x o (td o) else if tt_so (td o) = 4 then ga_const cd x o (td o) else ga_instn rc cd x o (td o)
def ga_body (rc : ES → Int32 → ES) (cd : Nat → Option DT) (td : Nat → TT) (x : ES) (o : Nat) (u : Int32) : ES :=
  if u = 0 then (if (es_ref x o).2 = 0 then ga_sw rc cd td (es_ref x o).1 o else (es_ref x o).1) else ga_sw rc cd td x o
def ga_obj (cd : Nat → Option DT) (td : Nat → TT) : Nat → ES → Int32 → Int32 → ES
  | 0, x, g, _ => if x.2.1 = 0 then (if g = -1 then es_put x 112 1 else es_oc x (-2)) else x
  | n + 1, x, g, u => if x.2.1 = 0 then (if g = -1 then es_put x 112 1 else ga_body (fun x g => ga_obj cd td n x g 0) cd td x (ga_repl td 12 g.toNatClampNeg 0) u) else x
def ga_sum (cd : Nat → Option DT) (d0 : DT) : Nat → Nat
  | 0 => 0
  | j + 1 => ga_sum cd d0 j + (match cd (dd_cf d0 j).toNatClampNeg with | none => 0 | some d => dd_fn d)
def wf_v (mk : Nat) (v : Int64) : Prop := v = -1 ∨ ∃ j, j < mk ∧ v = lN j
def wf_g (mk : Nat) (g : Int32) : Prop := g = -1 ∨ ∃ j, j < mk ∧ g = nI j
theorem wf_v.g {mk : Nat} {v : Int64} (h : wf_v mk v) : wf_g mk v.toInt32 := by
  rcases h with rfl | ⟨j, hj, rfl⟩
  · exact Or.inl rfl
  · exact Or.inr ⟨j, hj, lN_i j⟩
/-- what holds of the objects at all times -/
def wf_t (cd : Nat → Option DT) (mk : Nat) (td : Nat → TT) : Prop := ∀ i, i < mk → wf_g mk (tt_rp (td i)) ∧ (tt_so (td i) = 0 ∨ tt_so (td i) = 1 ∨ tt_so (td i) = 2 ∨ tt_so (td i) = 3 ∨ tt_so (td i) = 4) ∧
  ((tt_so (td i) = 0 ∨ tt_so (td i) = 4) → ∃ k d, k < 6 ∧ tt_ow (td i) = nI k ∧ cd k = some d) ∧ (tt_so (td i) = 3 → ∀ q, q < tt_n (td i) → wf_v mk (tt_va (td i) q)) ∧
  (tt_so (td i) = 0 → ∀ k d, tt_ow (td i) = nI k → cd k = some d → ga_sum cd d (dd_cn d) = tt_n (td i) ∧ ∀ j c e f, j < dd_cn d → dd_cf d j = nI c → cd c = some e → f < dd_fn e → ¬ dd_ty e f < 6 → wf_v mk (tt_va (td i) (ga_sum cd d j + f)))
abbrev gr_O (n : Nat) : Room := { frames := 10 + 4 * n, cells := 0, slots := 0, locals := 300 + 100 * n }
abbrev gr_P (n : Nat) : Room := { frames := 11 + 4 * n, cells := 0, slots := 0, locals := 330 + 100 * n }
abbrev gr_I (n : Nat) : Room := { frames := 12 + 4 * n, cells := 0, slots := 0, locals := 365 + 100 * n }
abbrev gp_O (ca : Nat → ClassId) (ad : pw_A) (C : pw_C) (w0 : List Int32) (wn : Nat) (sn : SN) (x : ES) : Option Value → pw_A → pw_C → Prop := pw_pv (fun ad' C' => ad' = ad ∧ os_x ca ad C' x w0 wn sn ∧ os_fr C C')
def gi_obj (l : Launch) (D : va_G) (ca : Nat → ClassId) (kS : Nat → Nat) (kT : Nat) (cd : Nat → Option DT) (mk : Nat) (td : Nat → TT) (n : Nat) : Prop :=
  ∀ {ad : pw_A} {C : pw_C} {x : ES} {w0 : List Int32} {wn : Nat} {sn : SN}, gw_at ca kS kT ad C cd mk td → os_x ca ad C x w0 wn sn → ∀ (g u : Int32), wf_g mk g →
    gc_Con l y_G_writeObject c_G_writeObject (gr_O n) D ca (z9_Z kS kT) [.ref (ad 0 0), .int g, .int u, .int (nI (13 - n))] ad C (gp_O ca ad C w0 wn sn (ga_obj cd td n x g u)) 0 0
set_option maxHeartbeats 4000000 in
set_option maxRecDepth 100000 in
theorem k_G_writeConstant {l : Launch} {D : va_G} {ca : Nat → ClassId} {kS : Nat → Nat} {kT : Nat} {ad : pw_A} {C : pw_C} {cd : Nat → Option DT} {mk : Nat} {td : Nat → TT} (hG : gw_at ca kS kT ad C cd mk td) {x : ES} {w0 : List Int32} {wn : Nat} {sn : SN} (hO : os_x ca ad C x w0 wn sn) (hwf : wf_d cd) (hwT : wf_t cd mk td) {o : Nat} (ho : o < mk) (hso : tt_so (td o) = 4) : gc_Con l y_G_writeConstant c_G_writeConstant ({ frames := 7, cells := 0, slots := 0, locals := 158 }) D ca (z9_Z kS kT) [.ref (ad 0 0), .int (nI o)] ad C (gp_O ca ad C w0 wn sn (ga_const cd x o (td o))) 0 0 := by
  have hZ := z9_ok kS kT
  have hG0 := hG
  obtain ⟨g00, g10, g20, hmk, hDD, hTT, hKK⟩ := hG
  have hO0 := hO
  obtain ⟨by0, wt, h30, h40, h50, h60, h70, hlen, hby, hwn, hw0, hwt⟩ := hO
  refine pw_ofW (cc := b_G_writeConstant) (maxL := 3) (ret := none) (by decide) rfl (Nat.le_of_ble_eq_true rfl) ?_
  intro p e s m args below meth c A ls hB hA hw hK hz hl
  obtain ⟨hx, hb, hr, hml, hts0, hlocks, hown, hnm⟩ := hB
  have hts := wd_hts hts0
  have hown : s.vm.findClass "GraphWriter" = some m.cls := hown
  have hl : lv_has ls 3 [(0, .ref (ad 0 0)), (1, .int (nI o))] := hl
  have hz0 := hz
  obtain ⟨hz1, hz2, hz3, hk0, hk1, hk2, hk3, hk4, hk5, hk6, hk7, hao1, hao2, hnw⟩ := hz0
  have hfr : os_fr C C := fun _ _ _ => rfl
  obtain ⟨k9, d9, hk96, how, hcd9⟩ := (hwT o ho).2.2.1 (Or.inr hso)
  have eow : (tt_ow (td o)).toNatClampNeg = k9 := by rw [how]; exact nI_clamp (by omega)
  have eta : tt_ta kS ad o (td o) = ad 23 o := if_pos (Or.inr hso)
  obtain ⟨p20, p21, p22, pn, pt⟩ := hTT o ho
  refine lv_aload_n hx hb d_G_writeConstant_0 rfl (lv_at hl 0 rfl) ?_
  refine pw_get (Cn := "GraphWriter") (T := F_G) (N := 4) hx hb hts in_G hown hK hw 0 0 rfl g00 rfl 1 (by decide) (hts _ wd_141) (fun _ h9 => h9) rfl d_G_writeConstant_1 ?_
  refine lv_iload_n hx hb d_G_writeConstant_4 rfl (lv_at hl 1 rfl) ?_
  refine pw_aald hx hb hK hw 2 0 rfl 5 g20 rfl o rfl (by omega) (by omega) d_G_writeConstant_5 ?_
  rw [gw_th ho]
  refine lv_astore_n (lv' := [(2, .ref (ad 20 o)), (0, .ref (ad 0 0)), (1, .int (nI o))]) hx hb d_G_writeConstant_6 rfl hl (by decide) rfl (fun ls hl => ?_)
  refine lv_aload_n hx hb d_G_writeConstant_7 rfl (lv_at hl 1 rfl) ?_
  refine pw_get (Cn := "GraphWriter") (T := F_G) (N := 4) hx hb hts in_G hown hK hw 0 0 rfl g00 rfl 2 (by decide) (hts _ wd_142) (fun _ h9 => h9) rfl d_G_writeConstant_8 ?_
  refine lv_ldc2 (v := 126) hx hb hown (hts _ wd_666) d_G_writeConstant_11 ?_
  refine lv_iconst (v := 1) hx hb d_G_writeConstant_14 (by decide) ?_
  refine pw_callv (va_runV (As := [.long 126, .int 1]) (rest := []) ⟨hx, hb, hml, hown, hts0⟩ (k_O_put hO0 126 (w := 1) (by decide) _) (cwV 2 hts0 (wd_V wd_139 wd_136 wd_137 wd_138 wd_54) rfl rfl rfl (by decide +kernel) ⟨Nat.le_of_ble_eq_true rfl, Nat.le_of_ble_eq_true rfl⟩) (pw_preV hZ hw hA hK hz rfl h30 rfl) rfl rfl hl.1 rfl (lv_room (Nat.le_of_ble_eq_true rfl)) d_G_writeConstant_15 ⟨Nat.le_of_ble_eq_true rfl, Nat.le_of_ble_eq_true rfl⟩) hw hA (fun ad_1 C_2 H locs hp hw => ?_)
  obtain ⟨hae, hO, hf1⟩ := hp
  rw [hae] at hw; clear hae
  have hfr : os_fr C C_2 := fun x y h => (hf1 x y h).trans (hfr x y h)
  obtain ⟨x_4, hx_4⟩ : ∃ z, z = es_put x 126 1 := ⟨_, rfl⟩
  rw [← hx_4] at hO
  have hO0 := hO
  obtain ⟨by0, wt, h30, h40, h50, h60, h70, hlen, hby, hwn, hw0, hwt⟩ := hO
  have hG := hG0.fr hf1
  have hG0 := hG
  obtain ⟨g00, g10, g20, hmk, hDD, hTT, hKK⟩ := hG
  obtain ⟨p20, p21, p22, pn, pt⟩ := hTT o ho
  refine lv_aload_n hx hb d_G_writeConstant_18 rfl (lv_at hl 1 rfl) ?_
  refine lv_aload_n hx hb d_G_writeConstant_19 rfl (lv_at hl 1 rfl) ?_
  refine pw_get (Cn := "GraphWriter") (T := F_G) (N := 4) hx hb hts in_G hown hK hw 0 0 rfl g00 rfl 0 (by decide) (hts _ wd_140) (fun _ h9 => h9) rfl d_G_writeConstant_20 ?_
  refine lv_aload_n hx hb d_G_writeConstant_23 rfl (lv_at hl 0 rfl) ?_
  refine pw_get (Cn := "GraphWriter$Thing") (T := F_T) (N := 7) hx hb hts in_T hown hK hw 20 o rfl p20 rfl 1 (by decide) (hts _ wd_377) (fun _ h9 => h9) rfl d_G_writeConstant_24 ?_
  refine pw_aald hx hb hK hw 1 0 rfl 4 g10 rfl k9 how (by omega) (by omega) d_G_writeConstant_27 ?_
  rw [gw_cl hcd9]
  refine pw_callv (va_runV (As := [.ref (ad 10 k9)]) (rest := []) ⟨hx, hb, hml, hown, hts0⟩ (k_G_writeDescriptor hG0 hO0 hwf hcd9 _) (cwV 1 hts0 (wd_V wd_670 wd_667 wd_669 wd_15 wd_53) rfl rfl rfl (by decide +kernel) ⟨Nat.le_of_ble_eq_true rfl, Nat.le_of_ble_eq_true rfl⟩) (pw_preV hZ hw hA hK hz rfl g00 rfl) rfl rfl hl.1 rfl (lv_room (Nat.le_of_ble_eq_true rfl)) d_G_writeConstant_28 ⟨Nat.le_of_ble_eq_true rfl, Nat.le_of_ble_eq_true rfl⟩) hw hA (fun ad_5 C_6 H locs hp hw => ?_)
  obtain ⟨hae, hO, hf1⟩ := hp
  rw [hae] at hw; clear hae
  have hfr : os_fr C C_6 := fun x y h => (hf1 x y h).trans (hfr x y h)
  obtain ⟨x_8, hx_8⟩ : ∃ z, z = ga_descr cd d9 x_4 := ⟨_, rfl⟩
  rw [← hx_8] at hO
  have hO0 := hO
  obtain ⟨by0, wt, h30, h40, h50, h60, h70, hlen, hby, hwn, hw0, hwt⟩ := hO
  have hG := hG0.fr hf1
  have hG0 := hG
  obtain ⟨g00, g10, g20, hmk, hDD, hTT, hKK⟩ := hG
  obtain ⟨p20, p21, p22, pn, pt⟩ := hTT o ho
  refine lv_aload_n hx hb d_G_writeConstant_31 rfl (lv_at hl 1 rfl) ?_
  refine pw_get (Cn := "GraphWriter") (T := F_G) (N := 4) hx hb hts in_G hown hK hw 0 0 rfl g00 rfl 2 (by decide) (hts _ wd_142) (fun _ h9 => h9) rfl d_G_writeConstant_32 ?_
  refine lv_iload_n hx hb d_G_writeConstant_35 rfl (lv_at hl 2 rfl) ?_
  refine pw_callv (va_runV (As := [.int (nI o)]) (rest := []) ⟨hx, hb, hml, hown, hts0⟩ (k_O_giveHandle hZ hO0 (k := o) (by omega) _) (cwV 1 hts0 (wd_V wd_619 wd_655 wd_617 wd_618 wd_54) rfl rfl rfl (by decide +kernel) ⟨Nat.le_of_ble_eq_true rfl, Nat.le_of_ble_eq_true rfl⟩) (pw_preV hZ hw hA hK hz rfl h30 rfl) rfl rfl hl.1 rfl (lv_room (Nat.le_of_ble_eq_true rfl)) d_G_writeConstant_36 ⟨Nat.le_of_ble_eq_true rfl, Nat.le_of_ble_eq_true rfl⟩) hw hA (fun ad_9 C_10 H locs hp hw => ?_)
  obtain ⟨hae, hO, hf1⟩ := hp
  rw [hae] at hw; clear hae
  have hfr : os_fr C C_10 := fun x y h => (hf1 x y h).trans (hfr x y h)
  obtain ⟨x_12, hx_12⟩ : ∃ z, z = es_give x_8 o := ⟨_, rfl⟩
  rw [← hx_12] at hO
  have hO0 := hO
  obtain ⟨by0, wt, h30, h40, h50, h60, h70, hlen, hby, hwn, hw0, hwt⟩ := hO
  have hG := hG0.fr hf1
  have hG0 := hG
  obtain ⟨g00, g10, g20, hmk, hDD, hTT, hKK⟩ := hG
  obtain ⟨p20, p21, p22, pn, pt⟩ := hTT o ho
  refine lv_aload_n hx hb d_G_writeConstant_39 rfl (lv_at hl 1 rfl) ?_
  refine pw_get (Cn := "GraphWriter") (T := F_G) (N := 4) hx hb hts in_G hown hK hw 0 0 rfl g00 rfl 2 (by decide) (hts _ wd_142) (fun _ h9 => h9) rfl d_G_writeConstant_40 ?_
  refine lv_bipush (v := 12) hx hb d_G_writeConstant_43 (by decide) ?_
  refine lv_iload_n hx hb d_G_writeConstant_45 rfl (lv_at hl 2 rfl) ?_
  refine lv_iadd hx hb d_G_writeConstant_46 ?_
  rw [show (12 : Int32) = nI 12 from rfl, nI_add]
  refine pw_calli (va_runV (As := [.int (nI (12 + o))]) (rest := []) ⟨hx, hb, hml, hown, hts0⟩ (k_O_putReference hZ hO0 (k := 12 + o) (by omega) _) (cwV 1 hts0 (wd_V wd_608 wd_605 wd_606 wd_607 wd_54) rfl rfl rfl (by decide +kernel) ⟨Nat.le_of_ble_eq_true rfl, Nat.le_of_ble_eq_true rfl⟩) (pw_preV hZ hw hA hK hz rfl h30 rfl) rfl rfl hl.1 rfl (lv_room (Nat.le_of_ble_eq_true rfl)) d_G_writeConstant_47 ⟨Nat.le_of_ble_eq_true rfl, Nat.le_of_ble_eq_true rfl⟩) hw hA (fun r_15 ad_13 C_14 H locs hp hw => ?_)
  obtain ⟨⟨hae, hO, hf1⟩, hre⟩ := hp
  rw [hae] at hw; clear hae
  have hfr : os_fr C C_14 := fun x y h => (hf1 x y h).trans (hfr x y h)
  rw [hre]; clear hre r_15
  obtain ⟨x_16, hx_16⟩ : ∃ z, z = (es_ref x_12 (12 + o)).1 := ⟨_, rfl⟩
  rw [← hx_16] at hO
  have hO0 := hO
  obtain ⟨by0, wt, h30, h40, h50, h60, h70, hlen, hby, hwn, hw0, hwt⟩ := hO
  have hG := hG0.fr hf1
  have hG0 := hG
  obtain ⟨g00, g10, g20, hmk, hDD, hTT, hKK⟩ := hG
  obtain ⟨p20, p21, p22, pn, pt⟩ := hTT o ho
  refine lv_if_ne (tgt := 68) hx hb d_G_writeConstant_50 (by decide) (fun c_17 => ?_) (fun c_17 => ?_)
  · skip
    have e9 : ga_const cd x o (td o) = x_16 := by
      unfold ga_const; rw [eow]; simp only [hcd9]; unfold ga_tt
      rw [← hx_4, ← hx_8, ← hx_12, if_neg (by exact c_17), ← hx_16]
    refine pw_vret hx hb hr hlocks hw ⟨rfl, ?_, hfr⟩ d_G_writeConstant_68
    rw [e9]; exact hO0
  · skip
    refine lv_aload_n hx hb d_G_writeConstant_53 rfl (lv_at hl 1 rfl) ?_
    refine pw_get (Cn := "GraphWriter") (T := F_G) (N := 4) hx hb hts in_G hown hK hw 0 0 rfl g00 rfl 2 (by decide) (hts _ wd_142) (fun _ h9 => h9) rfl d_G_writeConstant_54 ?_
    refine lv_bipush (v := 12) hx hb d_G_writeConstant_57 (by decide) ?_
    refine lv_iload_n hx hb d_G_writeConstant_59 rfl (lv_at hl 2 rfl) ?_
    refine lv_iadd hx hb d_G_writeConstant_60 ?_
    rw [show (12 : Int32) = nI 12 from rfl, nI_add]
    refine lv_aload_n hx hb d_G_writeConstant_61 rfl (lv_at hl 0 rfl) ?_
    refine pw_get (Cn := "GraphWriter$Thing") (T := F_T) (N := 7) hx hb hts in_T hown hK hw 20 o rfl p20 rfl 4 (by decide) (hts _ wd_383) (fun _ h9 => h9) rfl d_G_writeConstant_62 ?_
    rw [eta]
    refine pw_callv (va_runV (As := [.int (nI (12 + o)), .ref (ad 23 o)]) (rest := []) ⟨hx, hb, hml, hown, hts0⟩ (k_O_putText hO0 (pt (Or.inr hso)) (by decide) (by decide) (k := 12 + o) (by omega) _) (cwV 2 hts0 (wd_V wd_614 wd_611 wd_612 wd_613 wd_54) rfl rfl rfl (by decide +kernel) ⟨Nat.le_of_ble_eq_true rfl, Nat.le_of_ble_eq_true rfl⟩) (pw_preV hZ hw hA hK hz rfl h30 rfl) rfl rfl hl.1 rfl (lv_room (Nat.le_of_ble_eq_true rfl)) d_G_writeConstant_65 ⟨Nat.le_of_ble_eq_true rfl, Nat.le_of_ble_eq_true rfl⟩) hw hA (fun ad_18 C_19 H locs hp hw => ?_)
    obtain ⟨hae, hO, hf1⟩ := hp
    rw [hae] at hw; clear hae
    have hfr : os_fr C C_19 := fun x y h => (hf1 x y h).trans (hfr x y h)
    obtain ⟨x_21, hx_21⟩ : ∃ z, z = es_text x_16 (12 + o) (tt_tx (td o)) := ⟨_, rfl⟩
    rw [← hx_21] at hO
    have hO0 := hO
    obtain ⟨by0, wt, h30, h40, h50, h60, h70, hlen, hby, hwn, hw0, hwt⟩ := hO
    have hG := hG0.fr hf1
    have hG0 := hG
    obtain ⟨g00, g10, g20, hmk, hDD, hTT, hKK⟩ := hG
    obtain ⟨p20, p21, p22, pn, pt⟩ := hTT o ho
    have e9 : ga_const cd x o (td o) = x_21 := by
      unfold ga_const; rw [eow]; simp only [hcd9]; unfold ga_tt
      rw [← hx_4, ← hx_8, ← hx_12, if_pos (by exact c_17), ← hx_16, ← hx_21]
    refine pw_vret hx hb hr hlocks hw ⟨rfl, ?_, hfr⟩ d_G_writeConstant_68
    rw [e9]; exact hO0
set_option maxHeartbeats 4000000 in
set_option maxRecDepth 100000 in
theorem k_G_writeRefs {l : Launch} {D : va_G} {ca : Nat → ClassId} {kS : Nat → Nat} {kT : Nat} {ad : pw_A} {C : pw_C} {cd : Nat → Option DT} {mk : Nat} {td : Nat → TT} (hG : gw_at ca kS kT ad C cd mk td) {x : ES} {w0 : List Int32} {wn : Nat} {sn : SN} (hO : os_x ca ad C x w0 wn sn) {n : Nat} (hn9 : n ≤ 12) (IH : gi_obj l D ca kS kT cd mk td n) (hwT : wf_t cd mk td) {o : Nat} (ho : o < mk) (hso : tt_so (td o) = 3) : gc_Con l y_G_writeRefs c_G_writeRefs (gr_P n) D ca (z9_Z kS kT) [.ref (ad 0 0), .int (nI o), .int (nI (12 - n))] ad C (gp_O ca ad C w0 wn sn (ga_refs (fun x g => ga_obj cd td n x g 0) x o (td o))) 0 0 := by
  have hZ := z9_ok kS kT
  have hG0 := hG
  obtain ⟨g00, g10, g20, hmk, hDD, hTT, hKK⟩ := hG
  have hO0 := hO
  obtain ⟨by0, wt, h30, h40, h50, h60, h70, hlen, hby, hwn, hw0, hwt⟩ := hO
  refine pw_ofW (cc := b_G_writeRefs) (maxL := 5) (ret := none) (by decide) rfl (Nat.le_of_ble_eq_true rfl) ?_
  intro p e s m args below meth c A ls hB hA hw hK hz hl
  obtain ⟨hx, hb, hr, hml, hts0, hlocks, hown, hnm⟩ := hB
  have hts := wd_hts hts0
  have hown : s.vm.findClass "GraphWriter" = some m.cls := hown
  have hl : lv_has ls 5 [(0, .ref (ad 0 0)), (1, .int (nI o)), (2, .int (nI (12 - n)))] := hl
  have hz0 := hz
  obtain ⟨hz1, hz2, hz3, hk0, hk1, hk2, hk3, hk4, hk5, hk6, hk7, hao1, hao2, hnw⟩ := hz0
  have hfr : os_fr C C := fun _ _ _ => rfl
  obtain ⟨p20, p21, p22, pn, pt⟩ := hTT o ho
  have loop : ∀ (r : Nat) (x1 : ES) (C1 : pw_C) (H : Heap) (locs : List Loc) (ls : Array Slot), r ≤ tt_n (td o) → ga_rrec (fun x g => ga_obj cd td n x g 0) (td o) r x1 = ga_refs (fun x g => ga_obj cd td n x g 0) x o (td o) → os_x ca ad C1 x1 w0 wn sn → gw_at ca kS kT ad C1 cd mk td → os_fr C C1 → pw_H D cls9 A s.heap ad C ad C1 H locs → lv_has ls 5 [(4, .int (nI (tt_n (td o) - r))), (3, .ref (ad 22 o)), (0, .ref (ad 0 0)), (1, .int (nI o)), (2, .int (nI (12 - n)))] → W p l e (gr_P n) s m args below meth c H locs 0 0 (MQ below (pw_Q D cls9 ad C (gp_O ca ad C w0 wn sn (ga_refs (fun x g => ga_obj cd td n x g 0) x o (td o))) A) args s 0 0 A) (F0 m 70 ls []) := by
    intro r
    induction r with
    | zero =>
      intro x1 C1 H locs ls hr9 hga hO hG hfr hw hl
      have hO0 := hO
      obtain ⟨by0, wt, h30, h40, h50, h60, h70, hlen, hby, hwn, hw0, hwt⟩ := hO
      have hG0 := hG
      obtain ⟨g00, g10, g20, hmk, hDD, hTT, hKK⟩ := hG
      obtain ⟨p20, p21, p22, pn, pt⟩ := hTT o ho
      refine lv_iload hx hb d_G_writeRefs_70 (lv_at hl 0 rfl) ?_
      refine lv_aload_n hx hb d_G_writeRefs_72 rfl (lv_at hl 1 rfl) ?_
      refine pw_alen hx hb hK hw 22 o rfl 1 p22 rfl d_G_writeRefs_73 ?_
      refine lv_icmp_ge (tgt := 96) hx hb d_G_writeRefs_74 (by decide) (fun c_1 => ?_) (fun c_1 => ?_)
      · skip
        have e9 : ga_refs (fun x g => ga_obj cd td n x g 0) x o (td o) = x1 := by rw [← hga]; rfl
        refine pw_vret hx hb hr hlocks hw ⟨rfl, ?_, hfr⟩ d_G_writeRefs_96
        rw [e9]; exact hO0
      · exact absurd (nI_le (by omega) (by omega)) c_1
    | succ r ih =>
      intro x1 C1 H locs ls hr9 hga hO hG hfr hw hl
      have hO0 := hO
      obtain ⟨by0, wt, h30, h40, h50, h60, h70, hlen, hby, hwn, hw0, hwt⟩ := hO
      have hG0 := hG
      obtain ⟨g00, g10, g20, hmk, hDD, hTT, hKK⟩ := hG
      obtain ⟨p20, p21, p22, pn, pt⟩ := hTT o ho
      refine lv_iload hx hb d_G_writeRefs_70 (lv_at hl 0 rfl) ?_
      refine lv_aload_n hx hb d_G_writeRefs_72 rfl (lv_at hl 1 rfl) ?_
      refine pw_alen hx hb hK hw 22 o rfl 1 p22 rfl d_G_writeRefs_73 ?_
      refine lv_icmp_ge (tgt := 96) hx hb d_G_writeRefs_74 (by decide) (fun c_2 => ?_) (fun c_2 => ?_)
      · exact absurd c_2 (nI_ge (by omega) (by omega))
      · skip
        refine lv_aload_n hx hb d_G_writeRefs_77 rfl (lv_at hl 2 rfl) ?_
        refine lv_aload_n hx hb d_G_writeRefs_78 rfl (lv_at hl 1 rfl) ?_
        refine lv_iload hx hb d_G_writeRefs_79 (lv_at hl 0 rfl) ?_
        refine pw_lald hx hb hK hw 22 o rfl 1 p22 rfl (tt_n (td o) - (r + 1)) rfl (by omega) (by omega) d_G_writeRefs_81 ?_
        refine lv_l2i hx hb d_G_writeRefs_82 rfl ?_
        refine lv_iconst (v := 0) hx hb d_G_writeRefs_83 (by decide) ?_
        refine lv_iload_n hx hb d_G_writeRefs_84 rfl (lv_at hl 4 rfl) ?_
        refine lv_iconst (v := 1) hx hb d_G_writeRefs_85 (by decide) ?_
        refine lv_iadd hx hb d_G_writeRefs_86 ?_
        rw [nI_1, show 12 - n + 1 = 13 - n by omega]
        refine pw_callv (va_runV (As := [.int ((tt_va (td o) (tt_n (td o) - (r + 1))).toInt32), .int 0, .int (nI (13 - n))]) (rest := []) ⟨hx, hb, hml, hown, hts0⟩ (IH hG0 hO0 ((tt_va (td o) (tt_n (td o) - (r + 1))).toInt32) 0 ((hwT o ho).2.2.2.1 hso _ (by omega)).g _) (cwV 3 hts0 (wd_V wd_599 wd_596 wd_598 wd_10 wd_53) rfl rfl rfl (by decide +kernel) ⟨(by (try dsimp only); omega), (by (try dsimp only); omega)⟩) (pw_preV hZ hw hA hK hz rfl g00 rfl) rfl rfl hl.1 rfl (lv_room (Nat.le_of_ble_eq_true rfl)) d_G_writeRefs_87 ⟨(by (try dsimp only); omega), (by (try dsimp only); omega)⟩) hw hA (fun ad_3 C_4 H locs hp hw => ?_)
        obtain ⟨hae, hO, hf1⟩ := hp
        rw [hae] at hw; clear hae
        have hfr : os_fr C C_4 := fun x y h => (hf1 x y h).trans (hfr x y h)
        obtain ⟨x_6, hx_6⟩ : ∃ z, z = ga_obj cd td n x1 ((tt_va (td o) (tt_n (td o) - (r + 1))).toInt32) 0 := ⟨_, rfl⟩
        rw [← hx_6] at hO
        have hO0 := hO
        obtain ⟨by0, wt, h30, h40, h50, h60, h70, hlen, hby, hwn, hw0, hwt⟩ := hO
        have hG := hG0.fr hf1
        have hG0 := hG
        obtain ⟨g00, g10, g20, hmk, hDD, hTT, hKK⟩ := hG
        obtain ⟨p20, p21, p22, pn, pt⟩ := hTT o ho
        refine lv_iinc (v := (nI (tt_n (td o) - (r + 1))) + 1) (lv' := [(4, .int ((nI (tt_n (td o) - (r + 1))) + 1)), (3, .ref (ad 22 o)), (0, .ref (ad 0 0)), (1, .int (nI o)), (2, .int (nI (12 - n)))]) hx hb d_G_writeRefs_90 hl (k := 0) rfl rfl (by decide) rfl (fun ls hl => ?_)
        refine lv_goto (tgt := 70) hx hb d_G_writeRefs_93 (by decide) ?_
        rw [nI_1, show tt_n (td o) - (r + 1) + 1 = tt_n (td o) - r by omega] at hl
        exact ih _ _ _ _ _ (by omega) (by rw [← hga, hx_6]; show _ = ga_rrec _ (td o) r _; rw [show tt_n (td o) - 1 - r = tt_n (td o) - (r + 1) by omega]) hO0 hG0 hfr hw hl
  refine lv_aload_n hx hb d_G_writeRefs_0 rfl (lv_at hl 0 rfl) ?_
  refine pw_get (Cn := "GraphWriter") (T := F_G) (N := 4) hx hb hts in_G hown hK hw 0 0 rfl g00 rfl 1 (by decide) (hts _ wd_141) (fun _ h9 => h9) rfl d_G_writeRefs_1 ?_
  refine lv_iload_n hx hb d_G_writeRefs_4 rfl (lv_at hl 1 rfl) ?_
  refine pw_aald hx hb hK hw 2 0 rfl 5 g20 rfl o rfl (by omega) (by omega) d_G_writeRefs_5 ?_
  rw [gw_th ho]
  refine pw_get (Cn := "GraphWriter$Thing") (T := F_T) (N := 7) hx hb hts in_T hown hK hw 20 o rfl p20 rfl 3 (by decide) (hts _ wd_381) (fun _ h9 => h9) rfl d_G_writeRefs_6 ?_
  refine lv_astore_n (lv' := [(3, .ref (ad 22 o)), (0, .ref (ad 0 0)), (1, .int (nI o)), (2, .int (nI (12 - n)))]) hx hb d_G_writeRefs_9 rfl hl (by decide) rfl (fun ls hl => ?_)
  refine lv_aload_n hx hb d_G_writeRefs_10 rfl (lv_at hl 1 rfl) ?_
  refine pw_get (Cn := "GraphWriter") (T := F_G) (N := 4) hx hb hts in_G hown hK hw 0 0 rfl g00 rfl 2 (by decide) (hts _ wd_142) (fun _ h9 => h9) rfl d_G_writeRefs_11 ?_
  refine lv_ldc2 (v := 117) hx hb hown (hts _ wd_640) d_G_writeRefs_14 ?_
  refine lv_iconst (v := 1) hx hb d_G_writeRefs_17 (by decide) ?_
  refine pw_callv (va_runV (As := [.long 117, .int 1]) (rest := []) ⟨hx, hb, hml, hown, hts0⟩ (k_O_put hO0 117 (w := 1) (by decide) _) (cwV 2 hts0 (wd_V wd_139 wd_136 wd_137 wd_138 wd_54) rfl rfl rfl (by decide +kernel) ⟨(by (try dsimp only); omega), (by (try dsimp only); omega)⟩) (pw_preV hZ hw hA hK hz rfl h30 rfl) rfl rfl hl.1 rfl (lv_room (Nat.le_of_ble_eq_true rfl)) d_G_writeRefs_18 ⟨(by (try dsimp only); omega), (by (try dsimp only); omega)⟩) hw hA (fun ad_7 C_8 H locs hp hw => ?_)
  obtain ⟨hae, hO, hf1⟩ := hp
  rw [hae] at hw; clear hae
  have hfr : os_fr C C_8 := fun x y h => (hf1 x y h).trans (hfr x y h)
  obtain ⟨x_10, hx_10⟩ : ∃ z, z = es_put x 117 1 := ⟨_, rfl⟩
  rw [← hx_10] at hO
  have hO0 := hO
  obtain ⟨by0, wt, h30, h40, h50, h60, h70, hlen, hby, hwn, hw0, hwt⟩ := hO
  have hG := hG0.fr hf1
  have hG0 := hG
  obtain ⟨g00, g10, g20, hmk, hDD, hTT, hKK⟩ := hG
  obtain ⟨p20, p21, p22, pn, pt⟩ := hTT o ho
  refine lv_aload_n hx hb d_G_writeRefs_21 rfl (lv_at hl 1 rfl) ?_
  refine pw_get (Cn := "GraphWriter") (T := F_G) (N := 4) hx hb hts in_G hown hK hw 0 0 rfl g00 rfl 2 (by decide) (hts _ wd_142) (fun _ h9 => h9) rfl d_G_writeRefs_22 ?_
  refine lv_bipush (v := 31) hx hb d_G_writeRefs_25 (by decide) ?_
  refine pw_ldcwS (q := ad 50 2) (tx := "[Ljava.lang.Object;") hx hb hown (by rw [(hKK.1 2 (by decide)).2]; exact hk2) d_G_writeRefs_27 ?_
  refine lv_ldc2 (v := (-8012369246846506644)) hx hb hown (hts _ wd_661) d_G_writeRefs_30 ?_
  refine lv_iconst (v := 2) hx hb d_G_writeRefs_33 (by decide) ?_
  refine lv_iconst (v := 0) hx hb d_G_writeRefs_34 (by decide) ?_
  refine pw_calli (va_runV (As := [.int 31, .ref (ad 50 2), .long (-8012369246846506644), .int 2, .int 0]) (rest := []) ⟨hx, hb, hml, hown, hts0⟩ (k_O_openDescriptor hO0 (hKK.1 2 (by decide)).1 (by decide) (by decide) (k := 31) (by decide) (-8012369246846506644) 2 0 _) (cwV 5 hts0 (wd_V wd_646 wd_643 wd_644 wd_645 wd_54) rfl rfl rfl (by decide +kernel) ⟨(by (try dsimp only); omega), (by (try dsimp only); omega)⟩) (pw_preV hZ hw hA hK hz rfl h30 rfl) rfl rfl hl.1 rfl (lv_room (Nat.le_of_ble_eq_true rfl)) d_G_writeRefs_35 ⟨(by (try dsimp only); omega), (by (try dsimp only); omega)⟩) hw hA (fun r_13 ad_11 C_12 H locs hp hw => ?_)
  obtain ⟨⟨hae, hO, hf1⟩, hre⟩ := hp
  rw [hae] at hw; clear hae
  have hfr : os_fr C C_12 := fun x y h => (hf1 x y h).trans (hfr x y h)
  rw [hre]; clear hre r_13
  obtain ⟨x_14, hx_14⟩ : ∃ z, z = (es_desc x_10 31 (z9_tx 2) (-8012369246846506644) 2 0).1 := ⟨_, rfl⟩
  rw [← hx_14] at hO
  have hO0 := hO
  obtain ⟨by0, wt, h30, h40, h50, h60, h70, hlen, hby, hwn, hw0, hwt⟩ := hO
  have hG := hG0.fr hf1
  have hG0 := hG
  obtain ⟨g00, g10, g20, hmk, hDD, hTT, hKK⟩ := hG
  obtain ⟨p20, p21, p22, pn, pt⟩ := hTT o ho
  refine lv_if_eq (tgt := 48) hx hb d_G_writeRefs_38 (by decide) (fun c_15 => ?_) (fun c_15 => ?_)
  · skip
    refine lv_aload_n hx hb d_G_writeRefs_48 rfl (lv_at hl 1 rfl) ?_
    refine pw_get (Cn := "GraphWriter") (T := F_G) (N := 4) hx hb hts in_G hown hK hw 0 0 rfl g00 rfl 2 (by decide) (hts _ wd_142) (fun _ h9 => h9) rfl d_G_writeRefs_49 ?_
    refine lv_iload_n hx hb d_G_writeRefs_52 rfl (lv_at hl 2 rfl) ?_
    refine pw_callv (va_runV (As := [.int (nI o)]) (rest := []) ⟨hx, hb, hml, hown, hts0⟩ (k_O_giveHandle hZ hO0 (k := o) (by omega) _) (cwV 1 hts0 (wd_V wd_619 wd_655 wd_617 wd_618 wd_54) rfl rfl rfl (by decide +kernel) ⟨(by (try dsimp only); omega), (by (try dsimp only); omega)⟩) (pw_preV hZ hw hA hK hz rfl h30 rfl) rfl rfl hl.1 rfl (lv_room (Nat.le_of_ble_eq_true rfl)) d_G_writeRefs_53 ⟨(by (try dsimp only); omega), (by (try dsimp only); omega)⟩) hw hA (fun ad_16 C_17 H locs hp hw => ?_)
    obtain ⟨hae, hO, hf1⟩ := hp
    rw [hae] at hw; clear hae
    have hfr : os_fr C C_17 := fun x y h => (hf1 x y h).trans (hfr x y h)
    obtain ⟨x_19, hx_19⟩ : ∃ z, z = es_give x_14 o := ⟨_, rfl⟩
    rw [← hx_19] at hO
    have hO0 := hO
    obtain ⟨by0, wt, h30, h40, h50, h60, h70, hlen, hby, hwn, hw0, hwt⟩ := hO
    have hG := hG0.fr hf1
    have hG0 := hG
    obtain ⟨g00, g10, g20, hmk, hDD, hTT, hKK⟩ := hG
    obtain ⟨p20, p21, p22, pn, pt⟩ := hTT o ho
    refine lv_aload_n hx hb d_G_writeRefs_56 rfl (lv_at hl 1 rfl) ?_
    refine pw_get (Cn := "GraphWriter") (T := F_G) (N := 4) hx hb hts in_G hown hK hw 0 0 rfl g00 rfl 2 (by decide) (hts _ wd_142) (fun _ h9 => h9) rfl d_G_writeRefs_57 ?_
    refine lv_aload_n hx hb d_G_writeRefs_60 rfl (lv_at hl 0 rfl) ?_
    refine pw_alen hx hb hK hw 22 o rfl 1 p22 rfl d_G_writeRefs_61 ?_
    refine lv_i2l hx hb d_G_writeRefs_62 rfl ?_
    refine lv_iconst (v := 4) hx hb d_G_writeRefs_63 (by decide) ?_
    refine pw_callv (va_runV (As := [.long ((nI (tt_n (td o))).toInt64), .int 4]) (rest := []) ⟨hx, hb, hml, hown, hts0⟩ (k_O_put hO0 ((nI (tt_n (td o))).toInt64) (w := 4) (by decide) _) (cwV 2 hts0 (wd_V wd_139 wd_136 wd_137 wd_138 wd_54) rfl rfl rfl (by decide +kernel) ⟨(by (try dsimp only); omega), (by (try dsimp only); omega)⟩) (pw_preV hZ hw hA hK hz rfl h30 rfl) rfl rfl hl.1 rfl (lv_room (Nat.le_of_ble_eq_true rfl)) d_G_writeRefs_64 ⟨(by (try dsimp only); omega), (by (try dsimp only); omega)⟩) hw hA (fun ad_20 C_21 H locs hp hw => ?_)
    obtain ⟨hae, hO, hf1⟩ := hp
    rw [hae] at hw; clear hae
    have hfr : os_fr C C_21 := fun x y h => (hf1 x y h).trans (hfr x y h)
    obtain ⟨x_23, hx_23⟩ : ∃ z, z = es_put x_19 ((nI (tt_n (td o))).toInt64) 4 := ⟨_, rfl⟩
    rw [← hx_23] at hO
    have hO0 := hO
    obtain ⟨by0, wt, h30, h40, h50, h60, h70, hlen, hby, hwn, hw0, hwt⟩ := hO
    have hG := hG0.fr hf1
    have hG0 := hG
    obtain ⟨g00, g10, g20, hmk, hDD, hTT, hKK⟩ := hG
    obtain ⟨p20, p21, p22, pn, pt⟩ := hTT o ho
    refine lv_iconst (v := 0) hx hb d_G_writeRefs_67 (by decide) ?_
    refine lv_istore (lv' := [(4, .int 0), (3, .ref (ad 22 o)), (0, .ref (ad 0 0)), (1, .int (nI o)), (2, .int (nI (12 - n)))]) hx hb d_G_writeRefs_68 hl (by decide) rfl (fun ls hl => ?_)
    have e5 : ga_refs (fun x g => ga_obj cd td n x g 0) x o (td o) = ga_rrec (fun x g => ga_obj cd td n x g 0) (td o) (tt_n (td o)) x_23 := by rw [hx_23, hx_19, hx_14, hx_10]; unfold ga_refs ga_top; rw [if_pos (by rw [← hx_10]; exact c_15)]
    exact loop (tt_n (td o)) x_23 _ _ _ _ (Nat.le_refl _) e5.symm hO0 hG0 hfr hw (by rw [Nat.sub_self]; exact (lv_sub hl [0, 1, 2, 3, 4] rfl))
  · skip
    refine lv_aload_n hx hb d_G_writeRefs_41 rfl (lv_at hl 1 rfl) ?_
    refine pw_get (Cn := "GraphWriter") (T := F_G) (N := 4) hx hb hts in_G hown hK hw 0 0 rfl g00 rfl 2 (by decide) (hts _ wd_142) (fun _ h9 => h9) rfl d_G_writeRefs_42 ?_
    refine pw_callv (va_runV (As := []) (rest := []) ⟨hx, hb, hml, hown, hts0⟩ (k_O_closeTopDescriptor hZ hO0 _) (cwV 0 hts0 (wd_V wd_652 wd_649 wd_650 wd_651 wd_54) rfl rfl rfl (by decide +kernel) ⟨(by (try dsimp only); omega), (by (try dsimp only); omega)⟩) (pw_preV hZ hw hA hK hz rfl h30 rfl) rfl rfl hl.1 rfl (lv_room (Nat.le_of_ble_eq_true rfl)) d_G_writeRefs_45 ⟨(by (try dsimp only); omega), (by (try dsimp only); omega)⟩) hw hA (fun ad_24 C_25 H locs hp hw => ?_)
    obtain ⟨hae, hO, hf1⟩ := hp
    rw [hae] at hw; clear hae
    have hfr : os_fr C C_25 := fun x y h => (hf1 x y h).trans (hfr x y h)
    obtain ⟨x_27, hx_27⟩ : ∃ z, z = es_close x_14 := ⟨_, rfl⟩
    rw [← hx_27] at hO
    have hO0 := hO
    obtain ⟨by0, wt, h30, h40, h50, h60, h70, hlen, hby, hwn, hw0, hwt⟩ := hO
    have hG := hG0.fr hf1
    have hG0 := hG
    obtain ⟨g00, g10, g20, hmk, hDD, hTT, hKK⟩ := hG
    obtain ⟨p20, p21, p22, pn, pt⟩ := hTT o ho
    refine lv_aload_n hx hb d_G_writeRefs_48 rfl (lv_at hl 1 rfl) ?_
    refine pw_get (Cn := "GraphWriter") (T := F_G) (N := 4) hx hb hts in_G hown hK hw 0 0 rfl g00 rfl 2 (by decide) (hts _ wd_142) (fun _ h9 => h9) rfl d_G_writeRefs_49 ?_
    refine lv_iload_n hx hb d_G_writeRefs_52 rfl (lv_at hl 2 rfl) ?_
    refine pw_callv (va_runV (As := [.int (nI o)]) (rest := []) ⟨hx, hb, hml, hown, hts0⟩ (k_O_giveHandle hZ hO0 (k := o) (by omega) _) (cwV 1 hts0 (wd_V wd_619 wd_655 wd_617 wd_618 wd_54) rfl rfl rfl (by decide +kernel) ⟨(by (try dsimp only); omega), (by (try dsimp only); omega)⟩) (pw_preV hZ hw hA hK hz rfl h30 rfl) rfl rfl hl.1 rfl (lv_room (Nat.le_of_ble_eq_true rfl)) d_G_writeRefs_53 ⟨(by (try dsimp only); omega), (by (try dsimp only); omega)⟩) hw hA (fun ad_28 C_29 H locs hp hw => ?_)
    obtain ⟨hae, hO, hf1⟩ := hp
    rw [hae] at hw; clear hae
    have hfr : os_fr C C_29 := fun x y h => (hf1 x y h).trans (hfr x y h)
    obtain ⟨x_31, hx_31⟩ : ∃ z, z = es_give x_27 o := ⟨_, rfl⟩
    rw [← hx_31] at hO
    have hO0 := hO
    obtain ⟨by0, wt, h30, h40, h50, h60, h70, hlen, hby, hwn, hw0, hwt⟩ := hO
    have hG := hG0.fr hf1
    have hG0 := hG
    obtain ⟨g00, g10, g20, hmk, hDD, hTT, hKK⟩ := hG
    obtain ⟨p20, p21, p22, pn, pt⟩ := hTT o ho
    refine lv_aload_n hx hb d_G_writeRefs_56 rfl (lv_at hl 1 rfl) ?_
    refine pw_get (Cn := "GraphWriter") (T := F_G) (N := 4) hx hb hts in_G hown hK hw 0 0 rfl g00 rfl 2 (by decide) (hts _ wd_142) (fun _ h9 => h9) rfl d_G_writeRefs_57 ?_
    refine lv_aload_n hx hb d_G_writeRefs_60 rfl (lv_at hl 0 rfl) ?_
    refine pw_alen hx hb hK hw 22 o rfl 1 p22 rfl d_G_writeRefs_61 ?_
    refine lv_i2l hx hb d_G_writeRefs_62 rfl ?_
    refine lv_iconst (v := 4) hx hb d_G_writeRefs_63 (by decide) ?_
    refine pw_callv (va_runV (As := [.long ((nI (tt_n (td o))).toInt64), .int 4]) (rest := []) ⟨hx, hb, hml, hown, hts0⟩ (k_O_put hO0 ((nI (tt_n (td o))).toInt64) (w := 4) (by decide) _) (cwV 2 hts0 (wd_V wd_139 wd_136 wd_137 wd_138 wd_54) rfl rfl rfl (by decide +kernel) ⟨(by (try dsimp only); omega), (by (try dsimp only); omega)⟩) (pw_preV hZ hw hA hK hz rfl h30 rfl) rfl rfl hl.1 rfl (lv_room (Nat.le_of_ble_eq_true rfl)) d_G_writeRefs_64 ⟨(by (try dsimp only); omega), (by (try dsimp only); omega)⟩) hw hA (fun ad_32 C_33 H locs hp hw => ?_)
    obtain ⟨hae, hO, hf1⟩ := hp
    rw [hae] at hw; clear hae
    have hfr : os_fr C C_33 := fun x y h => (hf1 x y h).trans (hfr x y h)
    obtain ⟨x_35, hx_35⟩ : ∃ z, z = es_put x_31 ((nI (tt_n (td o))).toInt64) 4 := ⟨_, rfl⟩
    rw [← hx_35] at hO
    have hO0 := hO
    obtain ⟨by0, wt, h30, h40, h50, h60, h70, hlen, hby, hwn, hw0, hwt⟩ := hO
    have hG := hG0.fr hf1
    have hG0 := hG
    obtain ⟨g00, g10, g20, hmk, hDD, hTT, hKK⟩ := hG
    obtain ⟨p20, p21, p22, pn, pt⟩ := hTT o ho
    refine lv_iconst (v := 0) hx hb d_G_writeRefs_67 (by decide) ?_
    refine lv_istore (lv' := [(4, .int 0), (3, .ref (ad 22 o)), (0, .ref (ad 0 0)), (1, .int (nI o)), (2, .int (nI (12 - n)))]) hx hb d_G_writeRefs_68 hl (by decide) rfl (fun ls hl => ?_)
    have e5 : ga_refs (fun x g => ga_obj cd td n x g 0) x o (td o) = ga_rrec (fun x g => ga_obj cd td n x g 0) (td o) (tt_n (td o)) x_35 := by rw [hx_35, hx_31, hx_27, hx_14, hx_10]; unfold ga_refs ga_top; rw [if_neg (by rw [← hx_10]; exact c_15)]
    exact loop (tt_n (td o)) x_35 _ _ _ _ (Nat.le_refl _) e5.symm hO0 hG0 hfr hw (by rw [Nat.sub_self]; exact (lv_sub hl [0, 1, 2, 3, 4] rfl))
