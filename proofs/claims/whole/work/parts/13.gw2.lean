section PWL
variable {p : Program} {l : Launch} {e : Env} {R : Room} {s : State} {m : MethodId} {args : Array Value} {below : List Frame} {meth : Method} {c : Code} {T : State} {H : Heap} {locs : List Loc} {cells slots : Nat} {Q : State → Prop} {cc : ByteArray} {pc : Nat} {ls : Array Slot} {rest : List Value}
theorem pw_ldcw0 (X : Stand p l e R s m args below meth c T locs cells slots) (hexec : p.tables.exec = Jvm.exec) {own text : String} {index : Nat} {a : Addr} (hown : s.vm.findClass own = some m.cls)
    (hconst : (Cond.stringRef own index text).before #[] s = true) (hev : (Term.string own index).eval #[] s none [] s = some (.ref a)) {g : JFrame} (hg : g.method = m) (hdg : decode c.code g.pc = .ok (.ldc_w index, 3)) :
    ∀ target, Steps p.tables e below (T.setTop { g with pc := g.pc + 3, stack := .ref a :: g.stack }) target → Steps p.tables e below (T.setTop g) target := by
  obtain ⟨k, cf, i, a', hk, hcf, hcp, -, hr, hev'⟩ := Cond.stringRef_spec hown hconst
  cases hev.symm.trans hev'
  obtain ⟨k', hk', he⟩ := X.warmed.alike.2.2 _ _ hk
  have hr' : k'.resolved[index]? = some (some (.string a)) := by
    rcases X.warmed.entry hk hk' index with h | ⟨h, -⟩
    · rw [h]; exact hr
    · rw [hr] at h; cases h
  intro target hrest
  subst hg
  jvm_step X.here [hexec, hdg, ldc_w.wp_string (e := e) (s := T) (f := g) X.here.top hk' (by rw [he]; exact hcf) hcp hr']
  exact hrest
theorem pw_ldcwS (hexec : p.tables.exec = Jvm.exec) (hb : c.code = cc) {own tx : String} {index q : Nat} (hown : s.vm.findClass own = some m.cls) (hZ : vk_R own index tx q s) (hdg : decode cc pc = .ok (.ldc_w index, 3))
    (k : W p l e R s m args below meth c H locs cells slots Q (F0 m (pc + 3) ls (.ref q :: rest))) : W p l e R s m args below meth c H locs cells slots Q (F0 m pc ls rest) := by
  intro T hT X
  obtain ⟨t, a1, b1⟩ := k T hT X
  exact ⟨t, pw_ldcw0 X hexec hown (text := tx) (a := q) hZ.1 hZ.2 (g := F0 m pc ls rest) rfl (by rw [hb]; exact hdg) t a1, b1⟩
end PWL
/-- a descriptor with none above -/
def ga_top (x : ES) (k : Nat) (t : List Int32) (i : Int64) (fl : Int32) : ES := if (es_desc x k t i fl 0).2 = 0 then (es_desc x k t i fl 0).1 else es_close (es_desc x k t i fl 0).1
def ga_irec (t : TT) : Nat → ES → ES
  | 0, x => x
  | r + 1, x => ga_irec t r (es_put x (tt_va t (tt_n t - 1 - r)) 4)
def ga_ints (x : ES) (o : Nat) (t : TT) : ES := ga_irec t (tt_n t) (es_put (es_give (ga_top (es_put x 117 1) 30 (z9_tx 1) 5600894804908749477 2) o) (nI (tt_n t)).toInt64 4)
def ga_fl (d : DT) : Int32 := if dd_kd d = 3 then 18 else if dd_kd d = 2 then 3 else 2
def ga_tt (x : ES) (k : Nat) (t : List Int32) : ES := if (es_ref x k).2 = 0 then es_text (es_ref x k).1 k t else (es_ref x k).1
def ga_tyt (x : ES) (ty : Int32) : ES := if ty = 6 then ga_tt x 33 (z9_tx 1) else if ty = 7 then ga_tt x 34 (z9_tx 4) else x
def ga_fent (d : DT) (x : ES) (i : Nat) : ES := ga_tyt (es_sign (es_put x ((z9_tx 3).getD (dd_ty d (dd_or d i).toNatClampNeg).toNatClampNeg 0).toInt64 1) ((z9_tx 0).getD (dd_nm d (dd_or d i).toNatClampNeg).toNatClampNeg 0)) (dd_ty d (dd_or d i).toNatClampNeg)
def ga_frec (d : DT) : Nat → ES → ES
  | 0, x => x
  | r + 1, x => ga_frec d r (ga_fent d x (dd_sh d - 1 - r))
def ga_dch (cd : Nat → Option DT) (d0 : DT) : Nat → ES → ES × Bool
  | 0, x => (x, false)
  | n + 1, x => match cd (dd_cf d0 n).toNatClampNeg with
    | none => (x, false)
    | some d => if dd_kd d = 0 then (x, false) else if (es_desc x (24 + (dd_cf d0 n).toNatClampNeg) [nI (65 + (dd_cf d0 n).toNatClampNeg)] (dd_id d) (ga_fl d) (nI (dd_sh d))).2 = 0 then ((es_desc x (24 + (dd_cf d0 n).toNatClampNeg) [nI (65 + (dd_cf d0 n).toNatClampNeg)] (dd_id d) (ga_fl d) (nI (dd_sh d))).1, true)
      else ga_dch cd d0 n (es_put (ga_frec d (dd_sh d) (es_desc x (24 + (dd_cf d0 n).toNatClampNeg) [nI (65 + (dd_cf d0 n).toNatClampNeg)] (dd_id d) (ga_fl d) (nI (dd_sh d))).1) 120 1)
def ga_dfin (d0 : DT) (r : ES × Bool) : ES := if r.2 = true then r.1 else if dd_kd d0 = 3 then ga_top r.1 32 (z9_tx 5) 0 18 else es_put r.1 112 1
def ga_descr (cd : Nat → Option DT) (d0 : DT) (x : ES) : ES := ga_dfin d0 (ga_dch cd d0 (dd_cn d0) x)
/-- what holds of the classes at all times -/
def wf_d (cd : Nat → Option DT) : Prop := ∀ k d, cd k = some d → k < 6 ∧ dd_cn d ≤ 6 ∧ (∀ j, j < dd_cn d → ∃ i di, i < 6 ∧ dd_cf d j = nI i ∧ cd i = some di) ∧ dd_fn d ≤ 4 ∧ dd_sh d ≤ 4 ∧ (∀ i, i < dd_sh d → ∃ f, f < dd_fn d ∧ dd_or d i = nI f) ∧ (∀ f, f < 4 → ∃ n, n < 26 ∧ dd_nm d f = nI n) ∧ ∀ f, f < 4 → ∃ t, t < 8 ∧ dd_ty d f = nI t
set_option maxHeartbeats 4000000 in
set_option maxRecDepth 100000 in
theorem k_D_flags {l : Launch} {D : va_G} {ca : Nat → ClassId} {Z : (Nat → Prop) → State → Prop} {ad : pw_A} {C : pw_C} {k : Nat} {d : DT} (hd : dd_at ca ad C k d) : gc_Con l y_D_flags c_D_flags ({ frames := 0, cells := 0, slots := 0, locals := 0 }) D ca Z [.ref (ad 10 k)] ad C (pw_pi (fun r ad' C' => (ad' = ad ∧ C' = C) ∧ r = ga_fl d)) 0 0 := by
  obtain ⟨q10, q11, q12, q13, q14, qst⟩ := hd
  refine pw_ofW (cc := b_D_flags) (maxL := 1) (ret := (some FieldType.int)) (by decide) rfl (Nat.le_of_ble_eq_true rfl) ?_
  intro p e s m args below meth c A ls hB hA hw hK hz hl
  obtain ⟨hx, hb, hr, hml, hts0, hlocks, hown, hnm⟩ := hB
  have hts := wd_hts hts0
  have hown : s.vm.findClass "GraphWriter$Defined" = some m.cls := hown
  have hl : lv_has ls 1 [(0, .ref (ad 10 k))] := hl
  refine lv_aload_n hx hb d_D_flags_0 rfl (lv_at hl 0 rfl) ?_
  refine pw_get (Cn := "GraphWriter$Defined") (T := F_D) (N := 11) hx hb hts in_D hown hK hw 10 k rfl q10 rfl 1 (by decide) (hts _ wd_296) (fun _ h9 => h9) rfl d_D_flags_1 ?_
  refine lv_iconst (v := 3) hx hb d_D_flags_4 (by decide) ?_
  refine lv_icmp_ne (tgt := 11) hx hb d_D_flags_5 (by decide) (fun c_1 => ?_) (fun c_1 => ?_)
  · skip
    refine lv_aload_n hx hb d_D_flags_11 rfl (lv_at hl 0 rfl) ?_
    refine pw_get (Cn := "GraphWriter$Defined") (T := F_D) (N := 11) hx hb hts in_D hown hK hw 10 k rfl q10 rfl 1 (by decide) (hts _ wd_296) (fun _ h9 => h9) rfl d_D_flags_12 ?_
    refine lv_iconst (v := 2) hx hb d_D_flags_15 (by decide) ?_
    refine lv_icmp_ne (tgt := 23) hx hb d_D_flags_16 (by decide) (fun c_2 => ?_) (fun c_2 => ?_)
    · skip
      refine lv_iconst (v := 2) hx hb d_D_flags_23 (by decide) ?_
      exact pw_iret hx hb hr hlocks hw ⟨⟨rfl, rfl⟩, Eq.symm ((if_neg (by first | assumption | exact c_1)).trans (if_neg (by first | assumption | exact c_2)))⟩ d_D_flags_24
    · skip
      refine lv_iconst (v := 3) hx hb d_D_flags_19 (by decide) ?_
      refine lv_goto (tgt := 24) hx hb d_D_flags_20 (by decide) ?_
      exact pw_iret hx hb hr hlocks hw ⟨⟨rfl, rfl⟩, Eq.symm ((if_neg (by first | assumption | exact c_1)).trans (if_pos (by first | assumption | exact c_2)))⟩ d_D_flags_24
  · skip
    refine lv_bipush (v := 18) hx hb d_D_flags_8 (by decide) ?_
    exact pw_iret hx hb hr hlocks hw ⟨⟨rfl, rfl⟩, Eq.symm (if_pos (by first | assumption | exact c_1))⟩ d_D_flags_10
set_option maxHeartbeats 4000000 in
set_option maxRecDepth 100000 in
theorem k_G_writeInts {l : Launch} {D : va_G} {ca : Nat → ClassId} {kS : Nat → Nat} {kT : Nat} {ad : pw_A} {C : pw_C} {cd : Nat → Option DT} {mk : Nat} {td : Nat → TT} (hG : gw_at ca kS kT ad C cd mk td) {x : ES} {w0 : List Int32} {wn : Nat} {sn : SN} (hO : os_x ca ad C x w0 wn sn) {o : Nat} (ho : o < mk) : gc_Con l y_G_writeInts c_G_writeInts ({ frames := 6, cells := 0, slots := 0, locals := 133 }) D ca (z9_Z kS kT) [.ref (ad 0 0), .int (nI o)] ad C (pw_pv (fun ad' C' => ad' = ad ∧ os_x ca ad C' (ga_ints x o (td o)) w0 wn sn ∧ os_fr C C')) 0 0 := by
  have hZ := z9_ok kS kT
  have hG0 := hG
  obtain ⟨g00, g10, g20, hmk, hDD, hTT, hKK⟩ := hG
  have hO0 := hO
  obtain ⟨by0, wt, h30, h40, h50, h60, h70, hlen, hby, hwn, hw0, hwt⟩ := hO
  refine pw_ofW (cc := b_G_writeInts) (maxL := 4) (ret := none) (by decide) rfl (Nat.le_of_ble_eq_true rfl) ?_
  intro p e s m args below meth c A ls hB hA hw hK hz hl
  obtain ⟨hx, hb, hr, hml, hts0, hlocks, hown, hnm⟩ := hB
  have hts := wd_hts hts0
  have hown : s.vm.findClass "GraphWriter" = some m.cls := hown
  have hl : lv_has ls 4 [(0, .ref (ad 0 0)), (1, .int (nI o))] := hl
  have hz0 := hz
  obtain ⟨hz1, hz2, hz3, hk0, hk1, hk2, hk3, hk4, hk5, hk6, hk7, hao1, hao2, hnw⟩ := hz0
  have hfr : os_fr C C := fun _ _ _ => rfl
  obtain ⟨p20, p21, p22, pn, pt⟩ := hTT o ho
  have loop : ∀ (r : Nat) (x1 : ES) (C1 : pw_C) (H : Heap) (locs : List Loc) (ls : Array Slot), r ≤ tt_n (td o) → ga_irec (td o) r x1 = ga_ints x o (td o) → os_x ca ad C1 x1 w0 wn sn → gw_at ca kS kT ad C1 cd mk td → os_fr C C1 → pw_H D cls9 A s.heap ad C ad C1 H locs → lv_has ls 4 [(3, .int (nI (tt_n (td o) - r))), (2, .ref (ad 22 o)), (0, .ref (ad 0 0)), (1, .int (nI o))] → W p l e ({ frames := 6, cells := 0, slots := 0, locals := 133 }) s m args below meth c H locs 0 0 (MQ below (pw_Q D cls9 ad C (pw_pv (fun ad' C' => ad' = ad ∧ os_x ca ad C' (ga_ints x o (td o)) w0 wn sn ∧ os_fr C C')) A) args s 0 0 A) (F0 m 68 ls []) := by
    intro r
    induction r with
    | zero =>
      intro x1 C1 H locs ls hr9 hga hO hG hfr hw hl
      have hO0 := hO
      obtain ⟨by0, wt, h30, h40, h50, h60, h70, hlen, hby, hwn, hw0, hwt⟩ := hO
      have hG0 := hG
      obtain ⟨g00, g10, g20, hmk, hDD, hTT, hKK⟩ := hG
      obtain ⟨p20, p21, p22, pn, pt⟩ := hTT o ho
      refine lv_iload_n hx hb d_G_writeInts_68 rfl (lv_at hl 0 rfl) ?_
      refine lv_aload_n hx hb d_G_writeInts_69 rfl (lv_at hl 1 rfl) ?_
      refine pw_alen hx hb hK hw 22 o rfl 1 p22 rfl d_G_writeInts_70 ?_
      refine lv_icmp_ge (tgt := 91) hx hb d_G_writeInts_71 (by decide) (fun c_1 => ?_) (fun c_1 => ?_)
      · skip
        have e9 : ga_ints x o (td o) = x1 := by rw [← hga]; rfl
        refine pw_vret hx hb hr hlocks hw ⟨rfl, ?_, hfr⟩ d_G_writeInts_91
        rw [e9]; exact hO0
      · exact absurd (nI_le (by omega) (by omega)) c_1
    | succ r ih =>
      intro x1 C1 H locs ls hr9 hga hO hG hfr hw hl
      have hO0 := hO
      obtain ⟨by0, wt, h30, h40, h50, h60, h70, hlen, hby, hwn, hw0, hwt⟩ := hO
      have hG0 := hG
      obtain ⟨g00, g10, g20, hmk, hDD, hTT, hKK⟩ := hG
      obtain ⟨p20, p21, p22, pn, pt⟩ := hTT o ho
      refine lv_iload_n hx hb d_G_writeInts_68 rfl (lv_at hl 0 rfl) ?_
      refine lv_aload_n hx hb d_G_writeInts_69 rfl (lv_at hl 1 rfl) ?_
      refine pw_alen hx hb hK hw 22 o rfl 1 p22 rfl d_G_writeInts_70 ?_
      refine lv_icmp_ge (tgt := 91) hx hb d_G_writeInts_71 (by decide) (fun c_2 => ?_) (fun c_2 => ?_)
      · exact absurd c_2 (nI_ge (by omega) (by omega))
      · skip
        refine lv_aload_n hx hb d_G_writeInts_74 rfl (lv_at hl 2 rfl) ?_
        refine pw_get (Cn := "GraphWriter") (T := F_G) (N := 4) hx hb hts in_G hown hK hw 0 0 rfl g00 rfl 2 (by decide) (hts _ wd_142) (fun _ h9 => h9) rfl d_G_writeInts_75 ?_
        refine lv_aload_n hx hb d_G_writeInts_78 rfl (lv_at hl 1 rfl) ?_
        refine lv_iload_n hx hb d_G_writeInts_79 rfl (lv_at hl 0 rfl) ?_
        refine pw_lald hx hb hK hw 22 o rfl 1 p22 rfl (tt_n (td o) - (r + 1)) rfl (by omega) (by omega) d_G_writeInts_80 ?_
        refine lv_iconst (v := 4) hx hb d_G_writeInts_81 (by decide) ?_
        refine pw_callv (va_runV (As := [.long (tt_va (td o) (tt_n (td o) - (r + 1))), .int 4]) (rest := []) ⟨hx, hb, hml, hown, hts0⟩ (k_O_put hO0 (tt_va (td o) (tt_n (td o) - (r + 1))) (w := 4) (by decide) _) (cwV 2 hts0 (wd_V wd_139 wd_136 wd_137 wd_138 wd_54) rfl rfl rfl (by decide +kernel) ⟨Nat.le_of_ble_eq_true rfl, Nat.le_of_ble_eq_true rfl⟩) (pw_preV hZ hw hA hK hz rfl h30 rfl) rfl rfl hl.1 rfl (lv_room (Nat.le_of_ble_eq_true rfl)) d_G_writeInts_82 ⟨Nat.le_of_ble_eq_true rfl, Nat.le_of_ble_eq_true rfl⟩) hw hA (fun ad_3 C_4 H locs hp hw => ?_)
        obtain ⟨hae, hO, hf1⟩ := hp
        rw [hae] at hw; clear hae
        have hfr : os_fr C C_4 := fun x y h => (hf1 x y h).trans (hfr x y h)
        obtain ⟨x_6, hx_6⟩ : ∃ z, z = es_put x1 (tt_va (td o) (tt_n (td o) - (r + 1))) 4 := ⟨_, rfl⟩
        rw [← hx_6] at hO
        have hO0 := hO
        obtain ⟨by0, wt, h30, h40, h50, h60, h70, hlen, hby, hwn, hw0, hwt⟩ := hO
        have hG := hG0.fr hf1
        have hG0 := hG
        obtain ⟨g00, g10, g20, hmk, hDD, hTT, hKK⟩ := hG
        obtain ⟨p20, p21, p22, pn, pt⟩ := hTT o ho
        refine lv_iinc (v := (nI (tt_n (td o) - (r + 1))) + 1) (lv' := [(3, .int ((nI (tt_n (td o) - (r + 1))) + 1)), (2, .ref (ad 22 o)), (0, .ref (ad 0 0)), (1, .int (nI o))]) hx hb d_G_writeInts_85 hl (k := 0) rfl rfl (by decide) rfl (fun ls hl => ?_)
        refine lv_goto (tgt := 68) hx hb d_G_writeInts_88 (by decide) ?_
        rw [nI_1, show tt_n (td o) - (r + 1) + 1 = tt_n (td o) - r by omega] at hl
        exact ih _ _ _ _ _ (by omega) (by rw [← hga, hx_6]; show _ = ga_irec (td o) r _; rw [show tt_n (td o) - 1 - r = tt_n (td o) - (r + 1) by omega]) hO0 hG0 hfr hw hl
  refine lv_aload_n hx hb d_G_writeInts_0 rfl (lv_at hl 0 rfl) ?_
  refine pw_get (Cn := "GraphWriter") (T := F_G) (N := 4) hx hb hts in_G hown hK hw 0 0 rfl g00 rfl 1 (by decide) (hts _ wd_141) (fun _ h9 => h9) rfl d_G_writeInts_1 ?_
  refine lv_iload_n hx hb d_G_writeInts_4 rfl (lv_at hl 1 rfl) ?_
  refine pw_aald hx hb hK hw 2 0 rfl 5 g20 rfl o rfl (by omega) (by omega) d_G_writeInts_5 ?_
  rw [gw_th ho]
  refine pw_get (Cn := "GraphWriter$Thing") (T := F_T) (N := 7) hx hb hts in_T hown hK hw 20 o rfl p20 rfl 3 (by decide) (hts _ wd_381) (fun _ h9 => h9) rfl d_G_writeInts_6 ?_
  refine lv_astore_n (lv' := [(2, .ref (ad 22 o)), (0, .ref (ad 0 0)), (1, .int (nI o))]) hx hb d_G_writeInts_9 rfl hl (by decide) rfl (fun ls hl => ?_)
  refine lv_aload_n hx hb d_G_writeInts_10 rfl (lv_at hl 1 rfl) ?_
  refine pw_get (Cn := "GraphWriter") (T := F_G) (N := 4) hx hb hts in_G hown hK hw 0 0 rfl g00 rfl 2 (by decide) (hts _ wd_142) (fun _ h9 => h9) rfl d_G_writeInts_11 ?_
  refine lv_ldc2 (v := 117) hx hb hown (hts _ wd_640) d_G_writeInts_14 ?_
  refine lv_iconst (v := 1) hx hb d_G_writeInts_17 (by decide) ?_
  refine pw_callv (va_runV (As := [.long 117, .int 1]) (rest := []) ⟨hx, hb, hml, hown, hts0⟩ (k_O_put hO0 117 (w := 1) (by decide) _) (cwV 2 hts0 (wd_V wd_139 wd_136 wd_137 wd_138 wd_54) rfl rfl rfl (by decide +kernel) ⟨Nat.le_of_ble_eq_true rfl, Nat.le_of_ble_eq_true rfl⟩) (pw_preV hZ hw hA hK hz rfl h30 rfl) rfl rfl hl.1 rfl (lv_room (Nat.le_of_ble_eq_true rfl)) d_G_writeInts_18 ⟨Nat.le_of_ble_eq_true rfl, Nat.le_of_ble_eq_true rfl⟩) hw hA (fun ad_7 C_8 H locs hp hw => ?_)
  obtain ⟨hae, hO, hf1⟩ := hp
  rw [hae] at hw; clear hae
  have hfr : os_fr C C_8 := fun x y h => (hf1 x y h).trans (hfr x y h)
  obtain ⟨x_10, hx_10⟩ : ∃ z, z = es_put x 117 1 := ⟨_, rfl⟩
  rw [← hx_10] at hO
  have hO0 := hO
  obtain ⟨by0, wt, h30, h40, h50, h60, h70, hlen, hby, hwn, hw0, hwt⟩ := hO
  have hG := hG0.fr hf1
  have hG0 := hG
  obtain ⟨g00, g10, g20, hmk, hDD, hTT, hKK⟩ := hG
  obtain ⟨p20, p21, p22, pn, pt⟩ := hTT o ho
  refine lv_aload_n hx hb d_G_writeInts_21 rfl (lv_at hl 1 rfl) ?_
  refine pw_get (Cn := "GraphWriter") (T := F_G) (N := 4) hx hb hts in_G hown hK hw 0 0 rfl g00 rfl 2 (by decide) (hts _ wd_142) (fun _ h9 => h9) rfl d_G_writeInts_22 ?_
  refine lv_bipush (v := 30) hx hb d_G_writeInts_25 (by decide) ?_
  refine va_ldcS (q := ad 50 1) (tx := "[I") hx hb hown (by rw [(hKK.1 1 (by decide)).2]; exact hk1) d_G_writeInts_27 ?_
  refine lv_ldc2 (v := 5600894804908749477) hx hb hown (hts _ wd_642) d_G_writeInts_29 ?_
  refine lv_iconst (v := 2) hx hb d_G_writeInts_32 (by decide) ?_
  refine lv_iconst (v := 0) hx hb d_G_writeInts_33 (by decide) ?_
  refine pw_calli (va_runV (As := [.int 30, .ref (ad 50 1), .long 5600894804908749477, .int 2, .int 0]) (rest := []) ⟨hx, hb, hml, hown, hts0⟩ (k_O_openDescriptor hO0 (hKK.1 1 (by decide)).1 (by decide) (by decide) (k := 30) (by decide) 5600894804908749477 2 0 _) (cwV 5 hts0 (wd_V wd_646 wd_643 wd_644 wd_645 wd_54) rfl rfl rfl (by decide +kernel) ⟨Nat.le_of_ble_eq_true rfl, Nat.le_of_ble_eq_true rfl⟩) (pw_preV hZ hw hA hK hz rfl h30 rfl) rfl rfl hl.1 rfl (lv_room (Nat.le_of_ble_eq_true rfl)) d_G_writeInts_34 ⟨Nat.le_of_ble_eq_true rfl, Nat.le_of_ble_eq_true rfl⟩) hw hA (fun r_13 ad_11 C_12 H locs hp hw => ?_)
  obtain ⟨⟨hae, hO, hf1⟩, hre⟩ := hp
  rw [hae] at hw; clear hae
  have hfr : os_fr C C_12 := fun x y h => (hf1 x y h).trans (hfr x y h)
  rw [hre]; clear hre r_13
  obtain ⟨x_14, hx_14⟩ : ∃ z, z = (es_desc x_10 30 (z9_tx 1) 5600894804908749477 2 0).1 := ⟨_, rfl⟩
  rw [← hx_14] at hO
  have hO0 := hO
  obtain ⟨by0, wt, h30, h40, h50, h60, h70, hlen, hby, hwn, hw0, hwt⟩ := hO
  have hG := hG0.fr hf1
  have hG0 := hG
  obtain ⟨g00, g10, g20, hmk, hDD, hTT, hKK⟩ := hG
  obtain ⟨p20, p21, p22, pn, pt⟩ := hTT o ho
  refine lv_if_eq (tgt := 47) hx hb d_G_writeInts_37 (by decide) (fun c_15 => ?_) (fun c_15 => ?_)
  · skip
    refine lv_aload_n hx hb d_G_writeInts_47 rfl (lv_at hl 1 rfl) ?_
    refine pw_get (Cn := "GraphWriter") (T := F_G) (N := 4) hx hb hts in_G hown hK hw 0 0 rfl g00 rfl 2 (by decide) (hts _ wd_142) (fun _ h9 => h9) rfl d_G_writeInts_48 ?_
    refine lv_iload_n hx hb d_G_writeInts_51 rfl (lv_at hl 2 rfl) ?_
    refine pw_callv (va_runV (As := [.int (nI o)]) (rest := []) ⟨hx, hb, hml, hown, hts0⟩ (k_O_giveHandle hZ hO0 (k := o) (by omega) _) (cwV 1 hts0 (wd_V wd_619 wd_655 wd_617 wd_618 wd_54) rfl rfl rfl (by decide +kernel) ⟨Nat.le_of_ble_eq_true rfl, Nat.le_of_ble_eq_true rfl⟩) (pw_preV hZ hw hA hK hz rfl h30 rfl) rfl rfl hl.1 rfl (lv_room (Nat.le_of_ble_eq_true rfl)) d_G_writeInts_52 ⟨Nat.le_of_ble_eq_true rfl, Nat.le_of_ble_eq_true rfl⟩) hw hA (fun ad_16 C_17 H locs hp hw => ?_)
    obtain ⟨hae, hO, hf1⟩ := hp
    rw [hae] at hw; clear hae
    have hfr : os_fr C C_17 := fun x y h => (hf1 x y h).trans (hfr x y h)
    obtain ⟨x_19, hx_19⟩ : ∃ z, z = es_give x_14 o := ⟨_, rfl⟩
    rw [← hx_19] at hO
    have hO0 := hO
    obtain ⟨by0, wt, h30, h40, h50, h60, h70, hlen, hby, hwn, hw0, hwt⟩ := hO
    have hG := hG0.fr hf1
    have hG0 := hG
    obtain ⟨g00, g10, g20, hmk, hDD, hTT, hKK⟩ := hG
    obtain ⟨p20, p21, p22, pn, pt⟩ := hTT o ho
    refine lv_aload_n hx hb d_G_writeInts_55 rfl (lv_at hl 1 rfl) ?_
    refine pw_get (Cn := "GraphWriter") (T := F_G) (N := 4) hx hb hts in_G hown hK hw 0 0 rfl g00 rfl 2 (by decide) (hts _ wd_142) (fun _ h9 => h9) rfl d_G_writeInts_56 ?_
    refine lv_aload_n hx hb d_G_writeInts_59 rfl (lv_at hl 0 rfl) ?_
    refine pw_alen hx hb hK hw 22 o rfl 1 p22 rfl d_G_writeInts_60 ?_
    refine lv_i2l hx hb d_G_writeInts_61 rfl ?_
    refine lv_iconst (v := 4) hx hb d_G_writeInts_62 (by decide) ?_
    refine pw_callv (va_runV (As := [.long ((nI (tt_n (td o))).toInt64), .int 4]) (rest := []) ⟨hx, hb, hml, hown, hts0⟩ (k_O_put hO0 ((nI (tt_n (td o))).toInt64) (w := 4) (by decide) _) (cwV 2 hts0 (wd_V wd_139 wd_136 wd_137 wd_138 wd_54) rfl rfl rfl (by decide +kernel) ⟨Nat.le_of_ble_eq_true rfl, Nat.le_of_ble_eq_true rfl⟩) (pw_preV hZ hw hA hK hz rfl h30 rfl) rfl rfl hl.1 rfl (lv_room (Nat.le_of_ble_eq_true rfl)) d_G_writeInts_63 ⟨Nat.le_of_ble_eq_true rfl, Nat.le_of_ble_eq_true rfl⟩) hw hA (fun ad_20 C_21 H locs hp hw => ?_)
    obtain ⟨hae, hO, hf1⟩ := hp
    rw [hae] at hw; clear hae
    have hfr : os_fr C C_21 := fun x y h => (hf1 x y h).trans (hfr x y h)
    obtain ⟨x_23, hx_23⟩ : ∃ z, z = es_put x_19 ((nI (tt_n (td o))).toInt64) 4 := ⟨_, rfl⟩
    rw [← hx_23] at hO
    have hO0 := hO
    obtain ⟨by0, wt, h30, h40, h50, h60, h70, hlen, hby, hwn, hw0, hwt⟩ := hO
    have hG := hG0.fr hf1
    have hG0 := hG
    obtain ⟨g00, g10, g20, hmk, hDD, hTT, hKK⟩ := hG
    obtain ⟨p20, p21, p22, pn, pt⟩ := hTT o ho
    refine lv_iconst (v := 0) hx hb d_G_writeInts_66 (by decide) ?_
    refine lv_istore_n (lv' := [(3, .int 0), (2, .ref (ad 22 o)), (0, .ref (ad 0 0)), (1, .int (nI o))]) hx hb d_G_writeInts_67 rfl hl (by decide) rfl (fun ls hl => ?_)
    have e5 : ga_ints x o (td o) = ga_irec (td o) (tt_n (td o)) x_23 := by rw [hx_23, hx_19, hx_14, hx_10]; unfold ga_ints ga_top; rw [if_pos (by rw [← hx_10]; exact c_15)]
    exact loop (tt_n (td o)) x_23 _ _ _ _ (Nat.le_refl _) e5.symm hO0 hG0 hfr hw (by rw [Nat.sub_self]; exact (lv_sub hl [0, 1, 2, 3] rfl))
  · skip
    refine lv_aload_n hx hb d_G_writeInts_40 rfl (lv_at hl 1 rfl) ?_
    refine pw_get (Cn := "GraphWriter") (T := F_G) (N := 4) hx hb hts in_G hown hK hw 0 0 rfl g00 rfl 2 (by decide) (hts _ wd_142) (fun _ h9 => h9) rfl d_G_writeInts_41 ?_
    refine pw_callv (va_runV (As := []) (rest := []) ⟨hx, hb, hml, hown, hts0⟩ (k_O_closeTopDescriptor hZ hO0 _) (cwV 0 hts0 (wd_V wd_652 wd_649 wd_650 wd_651 wd_54) rfl rfl rfl (by decide +kernel) ⟨Nat.le_of_ble_eq_true rfl, Nat.le_of_ble_eq_true rfl⟩) (pw_preV hZ hw hA hK hz rfl h30 rfl) rfl rfl hl.1 rfl (lv_room (Nat.le_of_ble_eq_true rfl)) d_G_writeInts_44 ⟨Nat.le_of_ble_eq_true rfl, Nat.le_of_ble_eq_true rfl⟩) hw hA (fun ad_24 C_25 H locs hp hw => ?_)
    obtain ⟨hae, hO, hf1⟩ := hp
    rw [hae] at hw; clear hae
    have hfr : os_fr C C_25 := fun x y h => (hf1 x y h).trans (hfr x y h)
    obtain ⟨x_27, hx_27⟩ : ∃ z, z = es_close x_14 := ⟨_, rfl⟩
    rw [← hx_27] at hO
    have hO0 := hO
    obtain ⟨by0, wt, h30, h40, h50, h60, h70, hlen, hby, hwn, hw0, hwt⟩ := hO
    have hG := hG0.fr hf1
    have hG0 := hG
    obtain ⟨g00, g10, g20, hmk, hDD, hTT, hKK⟩ := hG
    obtain ⟨p20, p21, p22, pn, pt⟩ := hTT o ho
    refine lv_aload_n hx hb d_G_writeInts_47 rfl (lv_at hl 1 rfl) ?_
    refine pw_get (Cn := "GraphWriter") (T := F_G) (N := 4) hx hb hts in_G hown hK hw 0 0 rfl g00 rfl 2 (by decide) (hts _ wd_142) (fun _ h9 => h9) rfl d_G_writeInts_48 ?_
    refine lv_iload_n hx hb d_G_writeInts_51 rfl (lv_at hl 2 rfl) ?_
    refine pw_callv (va_runV (As := [.int (nI o)]) (rest := []) ⟨hx, hb, hml, hown, hts0⟩ (k_O_giveHandle hZ hO0 (k := o) (by omega) _) (cwV 1 hts0 (wd_V wd_619 wd_655 wd_617 wd_618 wd_54) rfl rfl rfl (by decide +kernel) ⟨Nat.le_of_ble_eq_true rfl, Nat.le_of_ble_eq_true rfl⟩) (pw_preV hZ hw hA hK hz rfl h30 rfl) rfl rfl hl.1 rfl (lv_room (Nat.le_of_ble_eq_true rfl)) d_G_writeInts_52 ⟨Nat.le_of_ble_eq_true rfl, Nat.le_of_ble_eq_true rfl⟩) hw hA (fun ad_28 C_29 H locs hp hw => ?_)
    obtain ⟨hae, hO, hf1⟩ := hp
    rw [hae] at hw; clear hae
    have hfr : os_fr C C_29 := fun x y h => (hf1 x y h).trans (hfr x y h)
    obtain ⟨x_31, hx_31⟩ : ∃ z, z = es_give x_27 o := ⟨_, rfl⟩
    rw [← hx_31] at hO
    have hO0 := hO
    obtain ⟨by0, wt, h30, h40, h50, h60, h70, hlen, hby, hwn, hw0, hwt⟩ := hO
    have hG := hG0.fr hf1
    have hG0 := hG
    obtain ⟨g00, g10, g20, hmk, hDD, hTT, hKK⟩ := hG
    obtain ⟨p20, p21, p22, pn, pt⟩ := hTT o ho
    refine lv_aload_n hx hb d_G_writeInts_55 rfl (lv_at hl 1 rfl) ?_
    refine pw_get (Cn := "GraphWriter") (T := F_G) (N := 4) hx hb hts in_G hown hK hw 0 0 rfl g00 rfl 2 (by decide) (hts _ wd_142) (fun _ h9 => h9) rfl d_G_writeInts_56 ?_
    refine lv_aload_n hx hb d_G_writeInts_59 rfl (lv_at hl 0 rfl) ?_
    refine pw_alen hx hb hK hw 22 o rfl 1 p22 rfl d_G_writeInts_60 ?_
    refine lv_i2l hx hb d_G_writeInts_61 rfl ?_
    refine lv_iconst (v := 4) hx hb d_G_writeInts_62 (by decide) ?_
    refine pw_callv (va_runV (As := [.long ((nI (tt_n (td o))).toInt64), .int 4]) (rest := []) ⟨hx, hb, hml, hown, hts0⟩ (k_O_put hO0 ((nI (tt_n (td o))).toInt64) (w := 4) (by decide) _) (cwV 2 hts0 (wd_V wd_139 wd_136 wd_137 wd_138 wd_54) rfl rfl rfl (by decide +kernel) ⟨Nat.le_of_ble_eq_true rfl, Nat.le_of_ble_eq_true rfl⟩) (pw_preV hZ hw hA hK hz rfl h30 rfl) rfl rfl hl.1 rfl (lv_room (Nat.le_of_ble_eq_true rfl)) d_G_writeInts_63 ⟨Nat.le_of_ble_eq_true rfl, Nat.le_of_ble_eq_true rfl⟩) hw hA (fun ad_32 C_33 H locs hp hw => ?_)
    obtain ⟨hae, hO, hf1⟩ := hp
    rw [hae] at hw; clear hae
    have hfr : os_fr C C_33 := fun x y h => (hf1 x y h).trans (hfr x y h)
    obtain ⟨x_35, hx_35⟩ : ∃ z, z = es_put x_31 ((nI (tt_n (td o))).toInt64) 4 := ⟨_, rfl⟩
    rw [← hx_35] at hO
    have hO0 := hO
    obtain ⟨by0, wt, h30, h40, h50, h60, h70, hlen, hby, hwn, hw0, hwt⟩ := hO
    have hG := hG0.fr hf1
    have hG0 := hG
    obtain ⟨g00, g10, g20, hmk, hDD, hTT, hKK⟩ := hG
    obtain ⟨p20, p21, p22, pn, pt⟩ := hTT o ho
    refine lv_iconst (v := 0) hx hb d_G_writeInts_66 (by decide) ?_
    refine lv_istore_n (lv' := [(3, .int 0), (2, .ref (ad 22 o)), (0, .ref (ad 0 0)), (1, .int (nI o))]) hx hb d_G_writeInts_67 rfl hl (by decide) rfl (fun ls hl => ?_)
    have e5 : ga_ints x o (td o) = ga_irec (td o) (tt_n (td o)) x_35 := by rw [hx_35, hx_31, hx_27, hx_14, hx_10]; unfold ga_ints ga_top; rw [if_neg (by rw [← hx_10]; exact c_15)]
    exact loop (tt_n (td o)) x_35 _ _ _ _ (Nat.le_refl _) e5.symm hO0 hG0 hfr hw (by rw [Nat.sub_self]; exact (lv_sub hl [0, 1, 2, 3] rfl))
