/-! the stream only grows -/
def es_le (x y : ES) : Prop := x.1 <+: y.1
theorem es_le.rfl {x : ES} : es_le x x := List.prefix_rfl
theorem es_le.trans {x y z : ES} (h : es_le x y) (h2 : es_le y z) : es_le x z := List.IsPrefix.trans h h2
theorem es_le_put (x : ES) (n : Int64) (w : Nat) : es_le x (es_put x n w) := by
  unfold es_put es_le
  split
  · split
    · exact List.prefix_rfl
    · exact List.prefix_append _ _
  · exact List.prefix_rfl
theorem es_le_fold (l : List Int32) : ∀ x : ES, es_le x (l.foldl (fun x c => es_put x c.toInt64 1) x) := by
  induction l with
  | nil => intro x; exact es_le.rfl
  | cons a l ih => intro x; exact (es_le_put x _ _).trans (ih _)
theorem es_le_give (x : ES) (k : Nat) : es_le x (es_give x k) := es_le.rfl
theorem es_le_oc (x : ES) (o : Int32) : es_le x (es_oc x o) := es_le.rfl
theorem es_le_ref (x : ES) (k : Nat) : es_le x (es_ref x k).1 := by
  unfold es_ref
  split
  · exact es_le.rfl
  · exact (es_le_put _ _ _).trans (es_le_put _ _ _)
theorem es_le_utf (x : ES) (t : List Int32) : es_le x (es_utf x t) := (es_le_put _ _ _).trans (es_le_fold t _)
theorem es_le_text (x : ES) (k : Nat) (t : List Int32) : es_le x (es_text x k t) := (es_le_put _ _ _).trans ((es_le_give _ _).trans (es_le_utf _ _))
theorem es_le_sign (x : ES) (c : Int32) : es_le x (es_sign x c) := (es_le_put _ _ _).trans (es_le_put _ _ _)
theorem es_le_close (x : ES) : es_le x (es_close x) := (es_le_put _ _ _).trans (es_le_put _ _ _)
theorem es_le_desc (x : ES) (k : Nat) (t : List Int32) (i : Int64) (fl fd : Int32) : es_le x (es_desc x k t i fl fd).1 := by
  unfold es_desc
  split
  · exact ((((es_le_ref x k).trans (es_le_put _ _ _)).trans (es_le_utf _ _)).trans (es_le_put _ _ _)).trans ((es_le_give _ _).trans ((es_le_put _ _ _).trans (es_le_put _ _ _)))
  · exact es_le_ref x k
theorem es_le_abort (x : ES) (t : List Int32) : es_le x (es_abort x t) := by
  have h : es_le x (es_put (es_utf (es_put (es_put (es_put x 123 1) 121 1) 116 1) t) 121 1) := ((((es_le_put _ _ _).trans (es_le_put _ _ _)).trans (es_le_put _ _ _)).trans (es_le_utf _ _)).trans (es_le_put _ _ _)
  unfold es_abort
  dsimp only
  split
  · exact h.trans (es_le_oc _ _)
  · exact h
theorem es_le_top (x : ES) (k : Nat) (t : List Int32) (i : Int64) (fl : Int32) : es_le x (ga_top x k t i fl) := by
  unfold ga_top
  split
  · exact es_le_desc _ _ _ _ _ _
  · exact (es_le_desc _ _ _ _ _ _).trans (es_le_close _)
theorem es_le_irec (t : TT) : ∀ (r : Nat) (x : ES), es_le x (ga_irec t r x) := by
  intro r
  induction r with
  | zero => intro x; exact es_le.rfl
  | succ r ih => intro x; exact (es_le_put _ _ _).trans (ih _)
theorem es_le_ints (x : ES) (o : Nat) (t : TT) : es_le x (ga_ints x o t) := (((es_le_put _ _ _).trans (es_le_top _ _ _ _ _)).trans (es_le_give _ _)).trans ((es_le_put _ _ _).trans (es_le_irec _ _ _))
theorem es_le_tt (x : ES) (k : Nat) (t : List Int32) : es_le x (ga_tt x k t) := by
  unfold ga_tt
  split
  · exact (es_le_ref x k).trans (es_le_text _ _ _)
  · exact es_le_ref x k
theorem es_le_tyt (x : ES) (ty : Int32) : es_le x (ga_tyt x ty) := by
  unfold ga_tyt
  split
  · exact es_le_tt _ _ _
  · split
    · exact es_le_tt _ _ _
    · exact es_le.rfl
theorem es_le_frec (d : DT) : ∀ (r : Nat) (x : ES), es_le x (ga_frec d r x) := by
  intro r
  induction r with
  | zero => intro x; exact es_le.rfl
  | succ r ih => intro x; exact (((es_le_put _ _ _).trans (es_le_sign _ _)).trans (es_le_tyt _ _)).trans (ih _)
theorem es_le_dch (cd : Nat → Option DT) (d0 : DT) : ∀ (n : Nat) (x : ES), es_le x (ga_dch cd d0 n x).1 := by
  intro n
  induction n with
  | zero => intro x; exact es_le.rfl
  | succ n ih =>
    intro x
    unfold ga_dch
    split
    · exact es_le.rfl
    · split
      · exact es_le.rfl
      · split
        · exact es_le_desc _ _ _ _ _ _
        · exact (((es_le_desc _ _ _ _ _ _).trans (es_le_frec _ _ _)).trans (es_le_put _ _ _)).trans (ih _)
theorem es_le_descr (cd : Nat → Option DT) (d0 : DT) (x : ES) : es_le x (ga_descr cd d0 x) := by
  unfold ga_descr ga_dfin
  have h := es_le_dch cd d0 (dd_cn d0) x
  split
  · exact h
  · split
    · exact h.trans (es_le_top _ _ _ _ _)
    · exact h.trans (es_le_put _ _ _)
theorem es_le_const (cd : Nat → Option DT) (x : ES) (o : Nat) (t : TT) : es_le x (ga_const cd x o t) := by
  unfold ga_const
  split
  · exact es_le.rfl
  · exact (((es_le_put _ _ _).trans (es_le_descr _ _ _)).trans (es_le_give _ _)).trans (es_le_tt _ _ _)
theorem es_le_rrec {rc : ES → Int32 → ES} (h : ∀ x g, es_le x (rc x g)) (t : TT) : ∀ (r : Nat) (x : ES), es_le x (ga_rrec rc t r x) := by
  intro r
  induction r with
  | zero => intro x; exact es_le.rfl
  | succ r ih => intro x; exact (h _ _).trans (ih _)
theorem es_le_refs {rc : ES → Int32 → ES} (h : ∀ x g, es_le x (rc x g)) (x : ES) (o : Nat) (t : TT) : es_le x (ga_refs rc x o t) := (((es_le_put _ _ _).trans (es_le_top _ _ _ _ _)).trans (es_le_give _ _)).trans ((es_le_put _ _ _).trans (es_le_rrec h _ _ _))
theorem es_le_part {rc : ES → Int32 → ES} (h : ∀ x g, es_le x (rc x g)) (t : TT) (d : DT) (fi : Nat) (x : ES) (i : Nat) : es_le x (ga_part rc t d fi x i) := by
  unfold ga_part
  split
  · exact es_le_put _ _ _
  · exact h _ _
theorem es_le_prec {rc : ES → Int32 → ES} (h : ∀ x g, es_le x (rc x g)) (t : TT) (d : DT) (fi : Nat) : ∀ (r : Nat) (x : ES), es_le x (ga_prec rc t d fi r x) := by
  intro r
  induction r with
  | zero => intro x; exact es_le.rfl
  | succ r ih => intro x; exact (es_le_part h _ _ _ _ _).trans (ih _)
theorem es_le_parts {rc : ES → Int32 → ES} (h : ∀ x g, es_le x (rc x g)) (k : Nat) (t : TT) (d : DT) (fi : Nat) (x : ES) : es_le x (ga_parts rc k t d fi x) := by
  have h1 := es_le_prec h t d fi (dd_sh d) x
  unfold ga_parts ga_cust
  split
  · exact h1.trans ((es_le_put _ _ _).trans ((es_le_put _ _ _).trans ((es_le_put _ _ _).trans (es_le_put _ _ _))))
  · exact h1
theorem es_le_irun {rc : ES → Int32 → ES} (h : ∀ x g, es_le x (rc x g)) (cd : Nat → Option DT) (t : TT) (d0 : DT) : ∀ (r : Nat) (x : ES) (fi : Nat), es_le x (ga_irun rc cd t d0 r x fi) := by
  intro r
  induction r with
  | zero => intro x fi; exact es_le.rfl
  | succ r ih =>
    intro x fi
    unfold ga_irun
    split
    · exact es_le.rfl
    · refine es_le.trans ?_ (ih _ _)
      split
      · exact es_le.rfl
      · exact es_le_parts h _ _ _ _ _
theorem es_le_instn {rc : ES → Int32 → ES} (h : ∀ x g, es_le x (rc x g)) (cd : Nat → Option DT) (x : ES) (o : Nat) (t : TT) : es_le x (ga_instn rc cd x o t) := by
  unfold ga_instn
  split
  · exact es_le.rfl
  · split
    · exact es_le_abort _ _
    · exact (((es_le_put _ _ _).trans (es_le_descr _ _ _)).trans (es_le_give _ _)).trans (es_le_irun h _ _ _ _ _ _)
theorem es_le_sw {rc : ES → Int32 → ES} (h : ∀ x g, es_le x (rc x g)) (cd : Nat → Option DT) (td : Nat → TT) (x : ES) (o : Nat) : es_le x (ga_sw rc cd td x o) := by
  unfold ga_sw
  split
  · exact es_le_text _ _ _
  · split
    · exact es_le_ints _ _ _
    · split
      · exact es_le_refs h _ _ _
      · split
        · exact es_le_const _ _ _ _
        · exact es_le_instn h _ _ _ _
theorem es_le_obj (cd : Nat → Option DT) (td : Nat → TT) : ∀ (n : Nat) (x : ES) (g u : Int32), es_le x (ga_obj cd td n x g u) := by
  intro n
  induction n with
  | zero =>
    intro x g u
    unfold ga_obj
    split
    · split
      · exact es_le_put _ _ _
      · exact es_le_oc _ _
    · exact es_le.rfl
  | succ n ih =>
    intro x g u
    unfold ga_obj
    split
    · split
      · exact es_le_put _ _ _
      · unfold ga_body
        split
        · split
          · exact (es_le_ref _ _).trans (es_le_sw (fun x g => ih x g 0) _ _ _ _)
          · exact es_le_ref _ _
        · exact es_le_sw (fun x g => ih x g 0) _ _ _ _
    · exact es_le.rfl
theorem es_le_flush (x : ES) (q : List Int32) : es_le x (es_flush x q) := by
  unfold es_flush
  split
  · exact es_le.rfl
  · exact ((es_le_put _ _ _).trans (es_le_put _ _ _)).trans (es_le_fold _ _)
theorem es_le.len {x y : ES} (h : es_le x y) : x.1.length ≤ y.1.length := List.IsPrefix.length_le h
/-- what the calls of the face do: the answer, the stream, what waits, the state before -/
def ga_settle (y : ES) (l0 : Nat) (q : List Int32) (sn : SN) : Int32 × ES × List Int32 × SN := (es_ans y, es_set y l0 sn, if y.2.1 = -2 then q else [], sn)
def ga_write (cd : Nat → Option DT) (mk : Nat) (td : Nat → TT) (x : ES) (q : List Int32) (sn : SN) (o u : Int32) : Int32 × ES × List Int32 × SN :=
  if ¬ o = -1 ∧ ga_made mk o = 0 then (-1, x, q, sn) else ga_settle (ga_obj cd td 13 (es_flush x q) o u) x.1.length q (es_snap x q.length sn)
def ga_reset (x : ES) (q : List Int32) (sn : SN) : Int32 × ES × List Int32 × SN := ga_settle (es_forget (es_put (es_flush x q) 121 1)) x.1.length q (es_snap x q.length sn)
def ga_data (x : ES) (q : List Int32) (sn : SN) (n : Int64) (k : Int32) : Int32 × ES × List Int32 × SN :=
  if k < 1 ∨ 8 < k then (-1, x, q, sn) else if x.1.length + q.length + k.toNatClampNeg + (if 255 ≤ q.length + k.toNatClampNeg then 2 else 0) ≤ 1400 then (nI (es_wait n k.toNatClampNeg k.toNatClampNeg x q).2.length, (es_wait n k.toNatClampNeg k.toNatClampNeg x q).1, (es_wait n k.toNatClampNeg k.toNatClampNeg x q).2, sn) else (-2, x, q, sn)
def ga_byte (x : ES) (o : Int32) : Int32 := if o < 0 then -1 else if o < nI x.1.length then x.1.getD o.toNatClampNeg 0 &&& 255 else -1
def ga_handle (mk : Nat) (x : ES) (o : Int32) : Int32 := if ga_made mk o = 0 then -1 else x.2.2.1 o.toNatClampNeg
set_option maxHeartbeats 4000000 in
set_option maxRecDepth 100000 in
theorem k_G_write {l : Launch} {D : va_G} {ca : Nat → ClassId} {kS : Nat → Nat} {kT : Nat} {ad : pw_A} {C : pw_C} {cd : Nat → Option DT} {mk : Nat} {td : Nat → TT} (hG : gw_at ca kS kT ad C cd mk td) {x : ES} {q : List Int32} {sn : SN} (hO : os_x ca ad C x q q.length sn) (hwf : wf_d cd) (hwT : wf_t cd mk td) (o u : Int32) : gc_Con l y_G_write c_G_write ({ frames := 63, cells := 0, slots := 0, locals := 1624 }) D ca (z9_Z kS kT) [.ref (ad 0 0), .int o, .int u] ad C (pw_pi (fun r ad' C' => (ad' = ad ∧ os_x ca ad C' (ga_write cd mk td x q sn o u).2.1 (ga_write cd mk td x q sn o u).2.2.1 (ga_write cd mk td x q sn o u).2.2.1.length (ga_write cd mk td x q sn o u).2.2.2 ∧ os_fr C C') ∧ r = (ga_write cd mk td x q sn o u).1)) 0 0 := by
  have hZ := z9_ok kS kT
  have hG0 := hG
  obtain ⟨g00, g10, g20, hmk, hDD, hTT, hKK⟩ := hG
  have hO0 := hO
  obtain ⟨by0, wt, h30, h40, h50, h60, h70, hlen, hby, hwn, hw0, hwt⟩ := hO
  refine pw_ofW (cc := b_G_write) (maxL := 3) (ret := (some FieldType.int)) (by decide) rfl (Nat.le_of_ble_eq_true rfl) ?_
  intro p e s m args below meth c A ls hB hA hw hK hz hl
  obtain ⟨hx, hb, hr, hml, hts0, hlocks, hown, hnm⟩ := hB
  have hts := wd_hts hts0
  have hown : s.vm.findClass "GraphWriter" = some m.cls := hown
  have hl : lv_has ls 3 [(0, .ref (ad 0 0)), (1, .int o), (2, .int u)] := hl
  have hz0 := hz
  obtain ⟨hz1, hz2, hz3, hk0, hk1, hk2, hk3, hk4, hk5, hk6, hk7, hao1, hao2, hnw⟩ := hz0
  have hfr : os_fr C C := fun _ _ _ => rfl
  refine lv_iload_n hx hb d_G_write_0 rfl (lv_at hl 1 rfl) ?_
  refine lv_iconst (v := (-1)) hx hb d_G_write_1 (by decide) ?_
  refine lv_icmp_eq (tgt := 15) hx hb d_G_write_2 (by decide) (fun c_1 => ?_) (fun c_1 => ?_)
  · skip
    refine lv_aload_n hx hb d_G_write_15 rfl (lv_at hl 0 rfl) ?_
    refine pw_get (Cn := "GraphWriter") (T := F_G) (N := 4) hx hb hts in_G hown hK hw 0 0 rfl g00 rfl 2 (by decide) (hts _ wd_142) (fun _ h9 => h9) rfl d_G_write_16 ?_
    refine pw_callv (va_runV (As := []) (rest := []) ⟨hx, hb, hml, hown, hts0⟩ (k_O_begin hZ hO0 _) (cwV 0 hts0 (wd_V wd_593 wd_590 wd_591 wd_592 wd_54) rfl rfl rfl (by decide +kernel) ⟨Nat.le_of_ble_eq_true rfl, Nat.le_of_ble_eq_true rfl⟩) (pw_preV hZ hw hA hK hz rfl h30 rfl) rfl rfl hl.1 rfl (lv_room (Nat.le_of_ble_eq_true rfl)) d_G_write_19 ⟨Nat.le_of_ble_eq_true rfl, Nat.le_of_ble_eq_true rfl⟩) hw hA (fun ad_2 C_3 H locs hp hw => ?_)
    obtain ⟨hae, hO, hf1⟩ := hp
    rw [hae] at hw; clear hae
    have hfr : os_fr C C_3 := fun x y h => (hf1 x y h).trans (hfr x y h)
    have hO0 := hO
    obtain ⟨by0, wt, h30, h40, h50, h60, h70, hlen, hby, hwn, hw0, hwt⟩ := hO
    have hG := hG0.fr hf1
    have hG0 := hG
    obtain ⟨g00, g10, g20, hmk, hDD, hTT, hKK⟩ := hG
    refine lv_aload_n hx hb d_G_write_22 rfl (lv_at hl 0 rfl) ?_
    refine pw_get (Cn := "GraphWriter") (T := F_G) (N := 4) hx hb hts in_G hown hK hw 0 0 rfl g00 rfl 2 (by decide) (hts _ wd_142) (fun _ h9 => h9) rfl d_G_write_23 ?_
    refine pw_callv (va_runV (As := []) (rest := []) ⟨hx, hb, hml, hown, hts0⟩ (k_O_flush hZ hO0 _) (cwV 0 hts0 (wd_V wd_583 wd_595 wd_581 wd_582 wd_54) rfl rfl rfl (by decide +kernel) ⟨Nat.le_of_ble_eq_true rfl, Nat.le_of_ble_eq_true rfl⟩) (pw_preV hZ hw hA hK hz rfl h30 rfl) rfl rfl hl.1 rfl (lv_room (Nat.le_of_ble_eq_true rfl)) d_G_write_26 ⟨Nat.le_of_ble_eq_true rfl, Nat.le_of_ble_eq_true rfl⟩) hw hA (fun ad_5 C_6 H locs hp hw => ?_)
    obtain ⟨hae, hO, hf1⟩ := hp
    rw [hae] at hw; clear hae
    have hfr : os_fr C C_6 := fun x y h => (hf1 x y h).trans (hfr x y h)
    obtain ⟨x_8, hx_8⟩ : ∃ z, z = es_flush x (q.take q.length) := ⟨_, rfl⟩
    rw [← hx_8] at hO
    have hO0 := hO
    obtain ⟨by0, wt, h30, h40, h50, h60, h70, hlen, hby, hwn, hw0, hwt⟩ := hO
    have hG := hG0.fr hf1
    have hG0 := hG
    obtain ⟨g00, g10, g20, hmk, hDD, hTT, hKK⟩ := hG
    refine lv_aload_n hx hb d_G_write_29 rfl (lv_at hl 0 rfl) ?_
    refine lv_iload_n hx hb d_G_write_30 rfl (lv_at hl 1 rfl) ?_
    refine lv_iload_n hx hb d_G_write_31 rfl (lv_at hl 2 rfl) ?_
    refine lv_iconst (v := 0) hx hb d_G_write_32 (by decide) ?_
    have hgo : wf_g mk o := by
      exact Or.inl c_1
    refine pw_callv (va_runV (As := [.int o, .int u, .int 0]) (rest := []) ⟨hx, hb, hml, hown, hts0⟩ (k_G_writeObject hwf hwT 13 (by decide) hG0 hO0 o u hgo _) (cwV 3 hts0 (wd_V wd_599 wd_596 wd_598 wd_10 wd_53) rfl rfl rfl (by decide +kernel) ⟨Nat.le_of_ble_eq_true rfl, Nat.le_of_ble_eq_true rfl⟩) (pw_preV hZ hw hA hK hz rfl g00 rfl) rfl rfl hl.1 rfl (lv_room (Nat.le_of_ble_eq_true rfl)) d_G_write_33 ⟨Nat.le_of_ble_eq_true rfl, Nat.le_of_ble_eq_true rfl⟩) hw hA (fun ad_9 C_10 H locs hp hw => ?_)
    obtain ⟨hae, hO, hf1⟩ := hp
    rw [hae] at hw; clear hae
    have hfr : os_fr C C_10 := fun x y h => (hf1 x y h).trans (hfr x y h)
    obtain ⟨x_12, hx_12⟩ : ∃ z, z = ga_obj cd td 13 x_8 o u := ⟨_, rfl⟩
    rw [← hx_12] at hO
    have hO0 := hO
    obtain ⟨by0, wt, h30, h40, h50, h60, h70, hlen, hby, hwn, hw0, hwt⟩ := hO
    have hG := hG0.fr hf1
    have hG0 := hG
    obtain ⟨g00, g10, g20, hmk, hDD, hTT, hKK⟩ := hG
    refine lv_aload_n hx hb d_G_write_36 rfl (lv_at hl 0 rfl) ?_
    refine pw_get (Cn := "GraphWriter") (T := F_G) (N := 4) hx hb hts in_G hown hK hw 0 0 rfl g00 rfl 2 (by decide) (hts _ wd_142) (fun _ h9 => h9) rfl d_G_write_37 ?_
    have hxl : x.1.length ≤ x_12.1.length := by
      rw [hx_12, hx_8]; exact es_le.len ((es_le_flush _ _).trans (es_le_obj _ _ _ _ _ _))
    refine pw_calli (va_runV (As := []) (rest := []) ⟨hx, hb, hml, hown, hts0⟩ (k_O_settle hZ hO0 (l0 := x.1.length) (wz := q.length) rfl rfl hxl (Nat.le_refl _) _) (cwV 0 hts0 (wd_V wd_706 wd_703 wd_704 wd_705 wd_54) rfl rfl rfl (by decide +kernel) ⟨Nat.le_of_ble_eq_true rfl, Nat.le_of_ble_eq_true rfl⟩) (pw_preV hZ hw hA hK hz rfl h30 rfl) rfl rfl hl.1 rfl (lv_room (Nat.le_of_ble_eq_true rfl)) d_G_write_40 ⟨Nat.le_of_ble_eq_true rfl, Nat.le_of_ble_eq_true rfl⟩) hw hA (fun r_15 ad_13 C_14 H locs hp hw => ?_)
    obtain ⟨⟨hae, hO, hf1⟩, hre⟩ := hp
    rw [hae] at hw; clear hae
    have hfr : os_fr C C_14 := fun x y h => (hf1 x y h).trans (hfr x y h)
    rw [hre]
    have hO := os_cut hO
    have eq9 : q.take (if x_12.2.1 = -2 then q.length else 0) = (if x_12.2.1 = -2 then q else []) := by split <;> simp
    have el9 : (if x_12.2.1 = -2 then q.length else 0) = (if x_12.2.1 = -2 then q else []).length := by split <;> rfl
    rw [eq9, el9] at hO
    have e8 : x_12 = ga_obj cd td 13 (es_flush x q) o u := by rw [hx_12, hx_8, List.take_length]
    have e9 : ga_write cd mk td x q sn o u = ga_settle x_12 x.1.length q (es_snap x q.length sn) := by rw [e8]; exact if_neg (fun z => z.1 c_1)
    exact pw_iret hx hb hr hlocks hw ⟨⟨rfl, by rw [e9]; exact hO, hfr⟩, by rw [e9]; rfl⟩ d_G_write_43
  · skip
    refine lv_aload_n hx hb d_G_write_5 rfl (lv_at hl 0 rfl) ?_
    refine lv_iload_n hx hb d_G_write_6 rfl (lv_at hl 1 rfl) ?_
    refine pw_calli (va_runV (As := [.int o]) (rest := []) ⟨hx, hb, hml, hown, hts0⟩ (k_G_isMade hG0 o _) (cwV 1 hts0 (wd_V wd_550 wd_547 wd_549 wd_7 wd_53) rfl rfl rfl (by decide +kernel) ⟨Nat.le_of_ble_eq_true rfl, Nat.le_of_ble_eq_true rfl⟩) (pw_preV hZ hw hA hK hz rfl g00 rfl) rfl rfl hl.1 rfl (lv_room (Nat.le_of_ble_eq_true rfl)) d_G_write_7 ⟨Nat.le_of_ble_eq_true rfl, Nat.le_of_ble_eq_true rfl⟩) hw hA (fun r_18 ad_16 C_17 H locs hp hw => ?_)
    obtain ⟨⟨hae, hce⟩, hre⟩ := hp
    rw [hae, hce] at hw
    rw [hre]
    clear hae hce hre
    refine lv_if_ne (tgt := 15) hx hb d_G_write_10 (by decide) (fun c_19 => ?_) (fun c_19 => ?_)
    · skip
      refine lv_aload_n hx hb d_G_write_15 rfl (lv_at hl 0 rfl) ?_
      refine pw_get (Cn := "GraphWriter") (T := F_G) (N := 4) hx hb hts in_G hown hK hw 0 0 rfl g00 rfl 2 (by decide) (hts _ wd_142) (fun _ h9 => h9) rfl d_G_write_16 ?_
      refine pw_callv (va_runV (As := []) (rest := []) ⟨hx, hb, hml, hown, hts0⟩ (k_O_begin hZ hO0 _) (cwV 0 hts0 (wd_V wd_593 wd_590 wd_591 wd_592 wd_54) rfl rfl rfl (by decide +kernel) ⟨Nat.le_of_ble_eq_true rfl, Nat.le_of_ble_eq_true rfl⟩) (pw_preV hZ hw hA hK hz rfl h30 rfl) rfl rfl hl.1 rfl (lv_room (Nat.le_of_ble_eq_true rfl)) d_G_write_19 ⟨Nat.le_of_ble_eq_true rfl, Nat.le_of_ble_eq_true rfl⟩) hw hA (fun ad_20 C_21 H locs hp hw => ?_)
      obtain ⟨hae, hO, hf1⟩ := hp
      rw [hae] at hw; clear hae
      have hfr : os_fr C C_21 := fun x y h => (hf1 x y h).trans (hfr x y h)
      have hO0 := hO
      obtain ⟨by0, wt, h30, h40, h50, h60, h70, hlen, hby, hwn, hw0, hwt⟩ := hO
      have hG := hG0.fr hf1
      have hG0 := hG
      obtain ⟨g00, g10, g20, hmk, hDD, hTT, hKK⟩ := hG
      refine lv_aload_n hx hb d_G_write_22 rfl (lv_at hl 0 rfl) ?_
      refine pw_get (Cn := "GraphWriter") (T := F_G) (N := 4) hx hb hts in_G hown hK hw 0 0 rfl g00 rfl 2 (by decide) (hts _ wd_142) (fun _ h9 => h9) rfl d_G_write_23 ?_
      refine pw_callv (va_runV (As := []) (rest := []) ⟨hx, hb, hml, hown, hts0⟩ (k_O_flush hZ hO0 _) (cwV 0 hts0 (wd_V wd_583 wd_595 wd_581 wd_582 wd_54) rfl rfl rfl (by decide +kernel) ⟨Nat.le_of_ble_eq_true rfl, Nat.le_of_ble_eq_true rfl⟩) (pw_preV hZ hw hA hK hz rfl h30 rfl) rfl rfl hl.1 rfl (lv_room (Nat.le_of_ble_eq_true rfl)) d_G_write_26 ⟨Nat.le_of_ble_eq_true rfl, Nat.le_of_ble_eq_true rfl⟩) hw hA (fun ad_23 C_24 H locs hp hw => ?_)
      obtain ⟨hae, hO, hf1⟩ := hp
      rw [hae] at hw; clear hae
      have hfr : os_fr C C_24 := fun x y h => (hf1 x y h).trans (hfr x y h)
      obtain ⟨x_26, hx_26⟩ : ∃ z, z = es_flush x (q.take q.length) := ⟨_, rfl⟩
      rw [← hx_26] at hO
      have hO0 := hO
      obtain ⟨by0, wt, h30, h40, h50, h60, h70, hlen, hby, hwn, hw0, hwt⟩ := hO
      have hG := hG0.fr hf1
      have hG0 := hG
      obtain ⟨g00, g10, g20, hmk, hDD, hTT, hKK⟩ := hG
      refine lv_aload_n hx hb d_G_write_29 rfl (lv_at hl 0 rfl) ?_
      refine lv_iload_n hx hb d_G_write_30 rfl (lv_at hl 1 rfl) ?_
      refine lv_iload_n hx hb d_G_write_31 rfl (lv_at hl 2 rfl) ?_
      refine lv_iconst (v := 0) hx hb d_G_write_32 (by decide) ?_
      have hgo : wf_g mk o := by
        obtain ⟨j, hj, hoj⟩ := ga_made_1 hmk c_19
        exact Or.inr ⟨j, hj, hoj⟩
      refine pw_callv (va_runV (As := [.int o, .int u, .int 0]) (rest := []) ⟨hx, hb, hml, hown, hts0⟩ (k_G_writeObject hwf hwT 13 (by decide) hG0 hO0 o u hgo _) (cwV 3 hts0 (wd_V wd_599 wd_596 wd_598 wd_10 wd_53) rfl rfl rfl (by decide +kernel) ⟨Nat.le_of_ble_eq_true rfl, Nat.le_of_ble_eq_true rfl⟩) (pw_preV hZ hw hA hK hz rfl g00 rfl) rfl rfl hl.1 rfl (lv_room (Nat.le_of_ble_eq_true rfl)) d_G_write_33 ⟨Nat.le_of_ble_eq_true rfl, Nat.le_of_ble_eq_true rfl⟩) hw hA (fun ad_27 C_28 H locs hp hw => ?_)
      obtain ⟨hae, hO, hf1⟩ := hp
      rw [hae] at hw; clear hae
      have hfr : os_fr C C_28 := fun x y h => (hf1 x y h).trans (hfr x y h)
      obtain ⟨x_30, hx_30⟩ : ∃ z, z = ga_obj cd td 13 x_26 o u := ⟨_, rfl⟩
      rw [← hx_30] at hO
      have hO0 := hO
      obtain ⟨by0, wt, h30, h40, h50, h60, h70, hlen, hby, hwn, hw0, hwt⟩ := hO
      have hG := hG0.fr hf1
      have hG0 := hG
      obtain ⟨g00, g10, g20, hmk, hDD, hTT, hKK⟩ := hG
      refine lv_aload_n hx hb d_G_write_36 rfl (lv_at hl 0 rfl) ?_
      refine pw_get (Cn := "GraphWriter") (T := F_G) (N := 4) hx hb hts in_G hown hK hw 0 0 rfl g00 rfl 2 (by decide) (hts _ wd_142) (fun _ h9 => h9) rfl d_G_write_37 ?_
      have hxl : x.1.length ≤ x_30.1.length := by
        rw [hx_30, hx_26]; exact es_le.len ((es_le_flush _ _).trans (es_le_obj _ _ _ _ _ _))
      refine pw_calli (va_runV (As := []) (rest := []) ⟨hx, hb, hml, hown, hts0⟩ (k_O_settle hZ hO0 (l0 := x.1.length) (wz := q.length) rfl rfl hxl (Nat.le_refl _) _) (cwV 0 hts0 (wd_V wd_706 wd_703 wd_704 wd_705 wd_54) rfl rfl rfl (by decide +kernel) ⟨Nat.le_of_ble_eq_true rfl, Nat.le_of_ble_eq_true rfl⟩) (pw_preV hZ hw hA hK hz rfl h30 rfl) rfl rfl hl.1 rfl (lv_room (Nat.le_of_ble_eq_true rfl)) d_G_write_40 ⟨Nat.le_of_ble_eq_true rfl, Nat.le_of_ble_eq_true rfl⟩) hw hA (fun r_33 ad_31 C_32 H locs hp hw => ?_)
      obtain ⟨⟨hae, hO, hf1⟩, hre⟩ := hp
      rw [hae] at hw; clear hae
      have hfr : os_fr C C_32 := fun x y h => (hf1 x y h).trans (hfr x y h)
      rw [hre]
      have hO := os_cut hO
      have eq9 : q.take (if x_30.2.1 = -2 then q.length else 0) = (if x_30.2.1 = -2 then q else []) := by split <;> simp
      have el9 : (if x_30.2.1 = -2 then q.length else 0) = (if x_30.2.1 = -2 then q else []).length := by split <;> rfl
      rw [eq9, el9] at hO
      have e8 : x_30 = ga_obj cd td 13 (es_flush x q) o u := by rw [hx_30, hx_26, List.take_length]
      have e9 : ga_write cd mk td x q sn o u = ga_settle x_30 x.1.length q (es_snap x q.length sn) := by rw [e8]; exact if_neg (fun z => c_19 z.2)
      exact pw_iret hx hb hr hlocks hw ⟨⟨rfl, by rw [e9]; exact hO, hfr⟩, by rw [e9]; rfl⟩ d_G_write_43
    · skip
      refine lv_iconst (v := (-1)) hx hb d_G_write_13 (by decide) ?_
      have e9 : ga_write cd mk td x q sn o u = (-1, x, q, sn) := if_pos ⟨c_1, c_19⟩
      exact pw_iret hx hb hr hlocks hw ⟨⟨rfl, by rw [e9]; exact hO0, hfr⟩, by rw [e9]⟩ d_G_write_14
set_option maxHeartbeats 4000000 in
set_option maxRecDepth 100000 in
theorem k_G_reset {l : Launch} {D : va_G} {ca : Nat → ClassId} {kS : Nat → Nat} {kT : Nat} {ad : pw_A} {C : pw_C} {cd : Nat → Option DT} {mk : Nat} {td : Nat → TT} (hG : gw_at ca kS kT ad C cd mk td) {x : ES} {q : List Int32} {sn : SN} (hO : os_x ca ad C x q q.length sn) : gc_Con l y_G_reset c_G_reset ({ frames := 3, cells := 0, slots := 0, locals := 101 }) D ca (z9_Z kS kT) [.ref (ad 0 0)] ad C (pw_pi (fun r ad' C' => (ad' = ad ∧ os_x ca ad C' (ga_reset x q sn).2.1 (ga_reset x q sn).2.2.1 (ga_reset x q sn).2.2.1.length (ga_reset x q sn).2.2.2 ∧ os_fr C C') ∧ r = (ga_reset x q sn).1)) 0 0 := by
  have hZ := z9_ok kS kT
  have hG0 := hG
  obtain ⟨g00, g10, g20, hmk, hDD, hTT, hKK⟩ := hG
  have hO0 := hO
  obtain ⟨by0, wt, h30, h40, h50, h60, h70, hlen, hby, hwn, hw0, hwt⟩ := hO
  refine pw_ofW (cc := b_G_reset) (maxL := 1) (ret := (some FieldType.int)) (by decide) rfl (Nat.le_of_ble_eq_true rfl) ?_
  intro p e s m args below meth c A ls hB hA hw hK hz hl
  obtain ⟨hx, hb, hr, hml, hts0, hlocks, hown, hnm⟩ := hB
  have hts := wd_hts hts0
  have hown : s.vm.findClass "GraphWriter" = some m.cls := hown
  have hl : lv_has ls 1 [(0, .ref (ad 0 0))] := hl
  have hz0 := hz
  obtain ⟨hz1, hz2, hz3, hk0, hk1, hk2, hk3, hk4, hk5, hk6, hk7, hao1, hao2, hnw⟩ := hz0
  have hfr : os_fr C C := fun _ _ _ => rfl
  refine lv_aload_n hx hb d_G_reset_0 rfl (lv_at hl 0 rfl) ?_
  refine pw_get (Cn := "GraphWriter") (T := F_G) (N := 4) hx hb hts in_G hown hK hw 0 0 rfl g00 rfl 2 (by decide) (hts _ wd_142) (fun _ h9 => h9) rfl d_G_reset_1 ?_
  refine pw_callv (va_runV (As := []) (rest := []) ⟨hx, hb, hml, hown, hts0⟩ (k_O_begin hZ hO0 _) (cwV 0 hts0 (wd_V wd_593 wd_590 wd_591 wd_592 wd_54) rfl rfl rfl (by decide +kernel) ⟨Nat.le_of_ble_eq_true rfl, Nat.le_of_ble_eq_true rfl⟩) (pw_preV hZ hw hA hK hz rfl h30 rfl) rfl rfl hl.1 rfl (lv_room (Nat.le_of_ble_eq_true rfl)) d_G_reset_4 ⟨Nat.le_of_ble_eq_true rfl, Nat.le_of_ble_eq_true rfl⟩) hw hA (fun ad_1 C_2 H locs hp hw => ?_)
  obtain ⟨hae, hO, hf1⟩ := hp
  rw [hae] at hw; clear hae
  have hfr : os_fr C C_2 := fun x y h => (hf1 x y h).trans (hfr x y h)
  have hO0 := hO
  obtain ⟨by0, wt, h30, h40, h50, h60, h70, hlen, hby, hwn, hw0, hwt⟩ := hO
  have hG := hG0.fr hf1
  have hG0 := hG
  obtain ⟨g00, g10, g20, hmk, hDD, hTT, hKK⟩ := hG
  refine lv_aload_n hx hb d_G_reset_7 rfl (lv_at hl 0 rfl) ?_
  refine pw_get (Cn := "GraphWriter") (T := F_G) (N := 4) hx hb hts in_G hown hK hw 0 0 rfl g00 rfl 2 (by decide) (hts _ wd_142) (fun _ h9 => h9) rfl d_G_reset_8 ?_
  refine pw_callv (va_runV (As := []) (rest := []) ⟨hx, hb, hml, hown, hts0⟩ (k_O_flush hZ hO0 _) (cwV 0 hts0 (wd_V wd_583 wd_595 wd_581 wd_582 wd_54) rfl rfl rfl (by decide +kernel) ⟨Nat.le_of_ble_eq_true rfl, Nat.le_of_ble_eq_true rfl⟩) (pw_preV hZ hw hA hK hz rfl h30 rfl) rfl rfl hl.1 rfl (lv_room (Nat.le_of_ble_eq_true rfl)) d_G_reset_11 ⟨Nat.le_of_ble_eq_true rfl, Nat.le_of_ble_eq_true rfl⟩) hw hA (fun ad_4 C_5 H locs hp hw => ?_)
  obtain ⟨hae, hO, hf1⟩ := hp
  rw [hae] at hw; clear hae
  have hfr : os_fr C C_5 := fun x y h => (hf1 x y h).trans (hfr x y h)
  obtain ⟨x_7, hx_7⟩ : ∃ z, z = es_flush x (q.take q.length) := ⟨_, rfl⟩
  rw [← hx_7] at hO
  have hO0 := hO
  obtain ⟨by0, wt, h30, h40, h50, h60, h70, hlen, hby, hwn, hw0, hwt⟩ := hO
  have hG := hG0.fr hf1
  have hG0 := hG
  obtain ⟨g00, g10, g20, hmk, hDD, hTT, hKK⟩ := hG
  refine lv_aload_n hx hb d_G_reset_14 rfl (lv_at hl 0 rfl) ?_
  refine pw_get (Cn := "GraphWriter") (T := F_G) (N := 4) hx hb hts in_G hown hK hw 0 0 rfl g00 rfl 2 (by decide) (hts _ wd_142) (fun _ h9 => h9) rfl d_G_reset_15 ?_
  refine lv_ldc2 (v := 121) hx hb hown (hts _ wd_716) d_G_reset_18 ?_
  refine lv_iconst (v := 1) hx hb d_G_reset_21 (by decide) ?_
  refine pw_callv (va_runV (As := [.long 121, .int 1]) (rest := []) ⟨hx, hb, hml, hown, hts0⟩ (k_O_put hO0 121 (w := 1) (by decide) _) (cwV 2 hts0 (wd_V wd_139 wd_136 wd_137 wd_138 wd_54) rfl rfl rfl (by decide +kernel) ⟨Nat.le_of_ble_eq_true rfl, Nat.le_of_ble_eq_true rfl⟩) (pw_preV hZ hw hA hK hz rfl h30 rfl) rfl rfl hl.1 rfl (lv_room (Nat.le_of_ble_eq_true rfl)) d_G_reset_22 ⟨Nat.le_of_ble_eq_true rfl, Nat.le_of_ble_eq_true rfl⟩) hw hA (fun ad_8 C_9 H locs hp hw => ?_)
  obtain ⟨hae, hO, hf1⟩ := hp
  rw [hae] at hw; clear hae
  have hfr : os_fr C C_9 := fun x y h => (hf1 x y h).trans (hfr x y h)
  obtain ⟨x_11, hx_11⟩ : ∃ z, z = es_put x_7 121 1 := ⟨_, rfl⟩
  rw [← hx_11] at hO
  have hO0 := hO
  obtain ⟨by0, wt, h30, h40, h50, h60, h70, hlen, hby, hwn, hw0, hwt⟩ := hO
  have hG := hG0.fr hf1
  have hG0 := hG
  obtain ⟨g00, g10, g20, hmk, hDD, hTT, hKK⟩ := hG
  refine lv_aload_n hx hb d_G_reset_25 rfl (lv_at hl 0 rfl) ?_
  refine pw_get (Cn := "GraphWriter") (T := F_G) (N := 4) hx hb hts in_G hown hK hw 0 0 rfl g00 rfl 2 (by decide) (hts _ wd_142) (fun _ h9 => h9) rfl d_G_reset_26 ?_
  refine pw_callv (va_runV (As := []) (rest := []) ⟨hx, hb, hml, hown, hts0⟩ (k_O_forgetHandles hZ hO0 _) (cwV 0 hts0 (wd_V wd_131 wd_128 wd_129 wd_130 wd_54) rfl rfl rfl (by decide +kernel) ⟨Nat.le_of_ble_eq_true rfl, Nat.le_of_ble_eq_true rfl⟩) (pw_preV hZ hw hA hK hz rfl h30 rfl) rfl rfl hl.1 rfl (lv_room (Nat.le_of_ble_eq_true rfl)) d_G_reset_29 ⟨Nat.le_of_ble_eq_true rfl, Nat.le_of_ble_eq_true rfl⟩) hw hA (fun ad_12 C_13 H locs hp hw => ?_)
  obtain ⟨hae, hO, hf1⟩ := hp
  rw [hae] at hw; clear hae
  have hfr : os_fr C C_13 := fun x y h => (hf1 x y h).trans (hfr x y h)
  obtain ⟨x_15, hx_15⟩ : ∃ z, z = es_forget x_11 := ⟨_, rfl⟩
  rw [← hx_15] at hO
  have hO0 := hO
  obtain ⟨by0, wt, h30, h40, h50, h60, h70, hlen, hby, hwn, hw0, hwt⟩ := hO
  have hG := hG0.fr hf1
  have hG0 := hG
  obtain ⟨g00, g10, g20, hmk, hDD, hTT, hKK⟩ := hG
  refine lv_aload_n hx hb d_G_reset_32 rfl (lv_at hl 0 rfl) ?_
  refine pw_get (Cn := "GraphWriter") (T := F_G) (N := 4) hx hb hts in_G hown hK hw 0 0 rfl g00 rfl 2 (by decide) (hts _ wd_142) (fun _ h9 => h9) rfl d_G_reset_33 ?_
  have hxl : x.1.length ≤ x_15.1.length := by
    rw [hx_15, hx_11, hx_7]; exact es_le.len ((es_le_flush _ _).trans (es_le_put _ _ _))
  refine pw_calli (va_runV (As := []) (rest := []) ⟨hx, hb, hml, hown, hts0⟩ (k_O_settle hZ hO0 (l0 := x.1.length) (wz := q.length) rfl rfl hxl (Nat.le_refl _) _) (cwV 0 hts0 (wd_V wd_706 wd_703 wd_704 wd_705 wd_54) rfl rfl rfl (by decide +kernel) ⟨Nat.le_of_ble_eq_true rfl, Nat.le_of_ble_eq_true rfl⟩) (pw_preV hZ hw hA hK hz rfl h30 rfl) rfl rfl hl.1 rfl (lv_room (Nat.le_of_ble_eq_true rfl)) d_G_reset_36 ⟨Nat.le_of_ble_eq_true rfl, Nat.le_of_ble_eq_true rfl⟩) hw hA (fun r_18 ad_16 C_17 H locs hp hw => ?_)
  obtain ⟨⟨hae, hO, hf1⟩, hre⟩ := hp
  rw [hae] at hw; clear hae
  have hfr : os_fr C C_17 := fun x y h => (hf1 x y h).trans (hfr x y h)
  rw [hre]
  have hO := os_cut hO
  have eq9 : q.take (if x_15.2.1 = -2 then q.length else 0) = (if x_15.2.1 = -2 then q else []) := by split <;> simp
  have el9 : (if x_15.2.1 = -2 then q.length else 0) = (if x_15.2.1 = -2 then q else []).length := by split <;> rfl
  rw [eq9, el9] at hO
  have e8 : x_15 = es_forget (es_put (es_flush x q) 121 1) := by rw [hx_15, hx_11, hx_7, List.take_length]
  have e9 : ga_reset x q sn = ga_settle x_15 x.1.length q (es_snap x q.length sn) := by rw [e8]; rfl
  exact pw_iret hx hb hr hlocks hw ⟨⟨rfl, by rw [e9]; exact hO, hfr⟩, by rw [e9]; rfl⟩ d_G_reset_39
set_option maxHeartbeats 4000000 in
set_option maxRecDepth 100000 in
theorem k_G_data {l : Launch} {D : va_G} {ca : Nat → ClassId} {kS : Nat → Nat} {kT : Nat} {ad : pw_A} {C : pw_C} {cd : Nat → Option DT} {mk : Nat} {td : Nat → TT} (hG : gw_at ca kS kT ad C cd mk td) {x : ES} {q : List Int32} {sn : SN} (hO : os_x ca ad C x q q.length sn) (hq5 : q.length < 255) (n : Int64) (k : Int32) : gc_Con l y_G_data c_G_data ({ frames := 3, cells := 0, slots := 0, locals := 69 }) D ca (z9_Z kS kT) [.ref (ad 0 0), .long n, .int k] ad C (pw_pi (fun r ad' C' => (ad' = ad ∧ os_x ca ad C' (ga_data x q sn n k).2.1 (ga_data x q sn n k).2.2.1 (ga_data x q sn n k).2.2.1.length (ga_data x q sn n k).2.2.2 ∧ os_fr C C') ∧ r = (ga_data x q sn n k).1)) 0 0 := by
  have hZ := z9_ok kS kT
  have hG0 := hG
  obtain ⟨g00, g10, g20, hmk, hDD, hTT, hKK⟩ := hG
  have hO0 := hO
  obtain ⟨by0, wt, h30, h40, h50, h60, h70, hlen, hby, hwn, hw0, hwt⟩ := hO
  refine pw_ofW (cc := b_G_data) (maxL := 4) (ret := (some FieldType.int)) (by decide) rfl (Nat.le_of_ble_eq_true rfl) ?_
  intro p e s m args below meth c A ls hB hA hw hK hz hl
  obtain ⟨hx, hb, hr, hml, hts0, hlocks, hown, hnm⟩ := hB
  have hts := wd_hts hts0
  have hown : s.vm.findClass "GraphWriter" = some m.cls := hown
  have hl : lv_has ls 4 [(0, .ref (ad 0 0)), (1, .long n), (3, .int k)] := hl
  have hz0 := hz
  obtain ⟨hz1, hz2, hz3, hk0, hk1, hk2, hk3, hk4, hk5, hk6, hk7, hao1, hao2, hnw⟩ := hz0
  have hfr : os_fr C C := fun _ _ _ => rfl
  refine lv_iload_n hx hb d_G_data_0 rfl (lv_at hl 2 rfl) ?_
  refine lv_iconst (v := 1) hx hb d_G_data_1 (by decide) ?_
  refine lv_icmp_lt (tgt := 11) hx hb d_G_data_2 (by decide) (fun c_1 => ?_) (fun c_1 => ?_)
  · skip
    refine lv_iconst (v := (-1)) hx hb d_G_data_11 (by decide) ?_
    have e9 : ga_data x q sn n k = (-1, x, q, sn) := if_pos (Or.inl c_1)
    exact pw_iret hx hb hr hlocks hw ⟨⟨rfl, by rw [e9]; exact hO0, hfr⟩, by rw [e9]⟩ d_G_data_12
  · skip
    refine lv_iload_n hx hb d_G_data_5 rfl (lv_at hl 2 rfl) ?_
    refine lv_bipush (v := 8) hx hb d_G_data_6 (by decide) ?_
    refine lv_icmp_le (tgt := 13) hx hb d_G_data_8 (by decide) (fun c_2 => ?_) (fun c_2 => ?_)
    · skip
      refine lv_aload_n hx hb d_G_data_13 rfl (lv_at hl 0 rfl) ?_
      refine pw_get (Cn := "GraphWriter") (T := F_G) (N := 4) hx hb hts in_G hown hK hw 0 0 rfl g00 rfl 2 (by decide) (hts _ wd_142) (fun _ h9 => h9) rfl d_G_data_14 ?_
      refine lv_iload_n hx hb d_G_data_17 rfl (lv_at hl 2 rfl) ?_
      obtain ⟨j, hj8, hkj⟩ : ∃ j : Nat, j ≤ 8 ∧ k = nI j := nI_of2 (M := 8) rfl (fun z => absurd (Int32.lt_trans z (by decide)) c_1) c_2
      have ekj : k.toNatClampNeg = j := by rw [hkj]; exact nI_clamp (by omega)
      have hnk : ¬ (k < 1 ∨ 8 < k) := by rintro (z | z); exact c_1 z; exact absurd z (Int32.not_lt.mpr c_2)
      rw [hkj]
      refine pw_calli (va_runV (As := [.int (nI j)]) (rest := []) ⟨hx, hb, hml, hown, hts0⟩ (k_O_hasRoomToWait hZ hO0 (k := j) hj8 _) (cwV 1 hts0 (wd_V wd_575 wd_572 wd_573 wd_574 wd_54) rfl rfl rfl (by decide +kernel) ⟨Nat.le_of_ble_eq_true rfl, Nat.le_of_ble_eq_true rfl⟩) (pw_preV hZ hw hA hK hz rfl h30 rfl) rfl rfl hl.1 rfl (lv_room (Nat.le_of_ble_eq_true rfl)) d_G_data_18 ⟨Nat.le_of_ble_eq_true rfl, Nat.le_of_ble_eq_true rfl⟩) hw hA (fun r_5 ad_3 C_4 H locs hp hw => ?_)
      obtain ⟨⟨hae, hce⟩, hre⟩ := hp
      rw [hae, hce] at hw
      rw [hre]
      clear hae hce hre
      rw [← hkj]
      refine lv_if_ne (tgt := 27) hx hb d_G_data_21 (by decide) (fun c_6 => ?_) (fun c_6 => ?_)
      · skip
        refine lv_aload_n hx hb d_G_data_27 rfl (lv_at hl 0 rfl) ?_
        refine pw_get (Cn := "GraphWriter") (T := F_G) (N := 4) hx hb hts in_G hown hK hw 0 0 rfl g00 rfl 2 (by decide) (hts _ wd_142) (fun _ h9 => h9) rfl d_G_data_28 ?_
        refine lv_lload_n hx hb d_G_data_31 rfl (lv_at hl 1 rfl) ?_
        refine lv_iload_n hx hb d_G_data_32 rfl (lv_at hl 2 rfl) ?_
        rw [hkj]
        refine pw_callv (va_runV (As := [.long n, .int (nI j)]) (rest := []) ⟨hx, hb, hml, hown, hts0⟩ (k_O_letWait hZ hO0 n hj8 rfl hq5 _) (cwV 2 hts0 (wd_V wd_579 wd_576 wd_577 wd_578 wd_54) rfl rfl rfl (by decide +kernel) ⟨Nat.le_of_ble_eq_true rfl, Nat.le_of_ble_eq_true rfl⟩) (pw_preV hZ hw hA hK hz rfl h30 rfl) rfl rfl hl.1 rfl (lv_room (Nat.le_of_ble_eq_true rfl)) d_G_data_33 ⟨Nat.le_of_ble_eq_true rfl, Nat.le_of_ble_eq_true rfl⟩) hw hA (fun ad_7 C_8 H locs hp hw => ?_)
        obtain ⟨hae, hO, hf1⟩ := hp
        rw [hae] at hw; clear hae
        have hfr : os_fr C C_8 := fun x y h => (hf1 x y h).trans (hfr x y h)
        obtain ⟨y, hy⟩ : ∃ z, z = es_wait n j j x q := ⟨_, rfl⟩
        rw [← hy] at hO
        have hO0 := hO
        obtain ⟨by0, wt, h30, h40, h50, h60, h70, hlen, hby, hwn, hw0, hwt⟩ := hO
        have hG := hG0.fr hf1
        have hG0 := hG
        obtain ⟨g00, g10, g20, hmk, hDD, hTT, hKK⟩ := hG
        refine lv_aload_n hx hb d_G_data_36 rfl (lv_at hl 0 rfl) ?_
        refine pw_get (Cn := "GraphWriter") (T := F_G) (N := 4) hx hb hts in_G hown hK hw 0 0 rfl g00 rfl 2 (by decide) (hts _ wd_142) (fun _ h9 => h9) rfl d_G_data_37 ?_
        refine pw_get (Cn := "GraphWriter$Out") (T := F_O) (N := 11) hx hb hts in_O hown hK hw 3 0 rfl h30 rfl 4 (by decide) (hts _ wd_94) (fun _ h9 => h9) rfl d_G_data_40 ?_
        have e9 : ga_data x q sn n k = (nI y.2.length, y.1, y.2, sn) := by unfold ga_data; rw [if_neg hnk, ekj, hy]; exact if_pos (by by_cases z : x.1.length + q.length + j + (if 255 ≤ q.length + j then 2 else 0) ≤ 1400; exact z; exact absurd (if_neg z) c_6)
        exact pw_iret hx hb hr hlocks hw ⟨⟨rfl, by first | (rw [e9]; exact hO0) | (rw [← hkj, e9]; exact hO0), hfr⟩, by first | rw [e9] | rw [← hkj, e9]⟩ d_G_data_43
      · skip
        refine lv_bipush (v := (-2)) hx hb d_G_data_24 (by decide) ?_
        have e9 : ga_data x q sn n k = (-2, x, q, sn) := by unfold ga_data; rw [if_neg hnk, ekj]; exact if_neg (fun z => absurd (c_6) (by rw [if_pos z]; decide))
        exact pw_iret hx hb hr hlocks hw ⟨⟨rfl, by first | (rw [e9]; exact hO0) | (rw [← hkj, e9]; exact hO0), hfr⟩, by first | rw [e9] | rw [← hkj, e9]⟩ d_G_data_26
    · skip
      refine lv_iconst (v := (-1)) hx hb d_G_data_11 (by decide) ?_
      have e9 : ga_data x q sn n k = (-1, x, q, sn) := if_pos (Or.inr (Int32.not_le.mp c_2))
      exact pw_iret hx hb hr hlocks hw ⟨⟨rfl, by rw [e9]; exact hO0, hfr⟩, by rw [e9]⟩ d_G_data_12
set_option maxHeartbeats 4000000 in
set_option maxRecDepth 100000 in
theorem k_G_byteAt {l : Launch} {D : va_G} {ca : Nat → ClassId} {kS : Nat → Nat} {kT : Nat} {ad : pw_A} {C : pw_C} {cd : Nat → Option DT} {mk : Nat} {td : Nat → TT} (hG : gw_at ca kS kT ad C cd mk td) {x : ES} {q : List Int32} {sn : SN} (hO : os_x ca ad C x q q.length sn) (o : Int32) : gc_Con l y_G_byteAt c_G_byteAt ({ frames := 0, cells := 0, slots := 0, locals := 0 }) D ca (z9_Z kS kT) [.ref (ad 0 0), .int o] ad C (pw_pi (fun r ad' C' => (ad' = ad ∧ C' = C) ∧ r = ga_byte x o)) 0 0 := by
  have hZ := z9_ok kS kT
  have hG0 := hG
  obtain ⟨g00, g10, g20, hmk, hDD, hTT, hKK⟩ := hG
  have hO0 := hO
  obtain ⟨by0, wt, h30, h40, h50, h60, h70, hlen, hby, hwn, hw0, hwt⟩ := hO
  refine pw_ofW (cc := b_G_byteAt) (maxL := 2) (ret := (some FieldType.int)) (by decide) rfl (Nat.le_of_ble_eq_true rfl) ?_
  intro p e s m args below meth c A ls hB hA hw hK hz hl
  obtain ⟨hx, hb, hr, hml, hts0, hlocks, hown, hnm⟩ := hB
  have hts := wd_hts hts0
  have hown : s.vm.findClass "GraphWriter" = some m.cls := hown
  have hl : lv_has ls 2 [(0, .ref (ad 0 0)), (1, .int o)] := hl
  have hz0 := hz
  obtain ⟨hz1, hz2, hz3, hk0, hk1, hk2, hk3, hk4, hk5, hk6, hk7, hao1, hao2, hnw⟩ := hz0
  have hfr : os_fr C C := fun _ _ _ => rfl
  refine lv_iload_n hx hb d_G_byteAt_0 rfl (lv_at hl 1 rfl) ?_
  refine lv_if_lt (tgt := 15) hx hb d_G_byteAt_1 (by decide) (fun c_1 => ?_) (fun c_1 => ?_)
  · skip
    refine lv_iconst (v := (-1)) hx hb d_G_byteAt_15 (by decide) ?_
    exact pw_iret hx hb hr hlocks hw ⟨⟨rfl, rfl⟩, (if_pos c_1).symm⟩ d_G_byteAt_16
  · skip
    refine lv_iload_n hx hb d_G_byteAt_4 rfl (lv_at hl 1 rfl) ?_
    refine lv_aload_n hx hb d_G_byteAt_5 rfl (lv_at hl 0 rfl) ?_
    refine pw_get (Cn := "GraphWriter") (T := F_G) (N := 4) hx hb hts in_G hown hK hw 0 0 rfl g00 rfl 2 (by decide) (hts _ wd_142) (fun _ h9 => h9) rfl d_G_byteAt_6 ?_
    refine pw_get (Cn := "GraphWriter$Out") (T := F_O) (N := 11) hx hb hts in_O hown hK hw 3 0 rfl h30 rfl 3 (by decide) (hts _ wd_92) (fun _ h9 => h9) rfl d_G_byteAt_9 ?_
    refine lv_icmp_lt (tgt := 17) hx hb d_G_byteAt_12 (by decide) (fun c_2 => ?_) (fun c_2 => ?_)
    · skip
      refine lv_aload_n hx hb d_G_byteAt_17 rfl (lv_at hl 0 rfl) ?_
      refine pw_get (Cn := "GraphWriter") (T := F_G) (N := 4) hx hb hts in_G hown hK hw 0 0 rfl g00 rfl 2 (by decide) (hts _ wd_142) (fun _ h9 => h9) rfl d_G_byteAt_18 ?_
      refine pw_get (Cn := "GraphWriter$Out") (T := F_O) (N := 11) hx hb hts in_O hown hK hw 3 0 rfl h30 rfl 0 (by decide) (hts _ wd_87) (fun _ h9 => h9) rfl d_G_byteAt_21 ?_
      refine lv_iload_n hx hb d_G_byteAt_24 rfl (lv_at hl 1 rfl) ?_
      obtain ⟨j, hj, hoj⟩ : ∃ j : Nat, j < x.1.length ∧ o = nI j := by
        rcases pk_ix o (n := x.1.length) (by omega) with h3 | h3 | h3
        · exact absurd h3 c_1
        · exact absurd c_2 (Int32.not_lt.mpr h3)
        · exact h3
      refine pw_bald hx hb hK hw 4 0 rfl 2 h40 rfl j hoj (by omega) (by omega) d_G_byteAt_25 ?_
      refine lv_sipush (v := 255) hx hb d_G_byteAt_26 (by decide) ?_
      refine lv_iand hx hb d_G_byteAt_29 ?_
      have e8 : o.toNatClampNeg = j := by rw [hoj]; exact nI_clamp (by omega)
      exact pw_iret hx hb hr hlocks hw ⟨⟨rfl, rfl⟩, by unfold ga_byte; rw [if_neg c_1, if_pos c_2, e8, hby j hj]⟩ d_G_byteAt_30
    · skip
      refine lv_iconst (v := (-1)) hx hb d_G_byteAt_15 (by decide) ?_
      exact pw_iret hx hb hr hlocks hw ⟨⟨rfl, rfl⟩, ((if_neg c_1).trans (if_neg c_2)).symm⟩ d_G_byteAt_16
set_option maxHeartbeats 4000000 in
set_option maxRecDepth 100000 in
theorem k_G_handle {l : Launch} {D : va_G} {ca : Nat → ClassId} {kS : Nat → Nat} {kT : Nat} {ad : pw_A} {C : pw_C} {cd : Nat → Option DT} {mk : Nat} {td : Nat → TT} (hG : gw_at ca kS kT ad C cd mk td) {x : ES} {q : List Int32} {sn : SN} (hO : os_x ca ad C x q q.length sn) (o : Int32) : gc_Con l y_G_handle c_G_handle ({ frames := 1, cells := 0, slots := 0, locals := 21 }) D ca (z9_Z kS kT) [.ref (ad 0 0), .int o] ad C (pw_pi (fun r ad' C' => (ad' = ad ∧ C' = C) ∧ r = ga_handle mk x o)) 0 0 := by
  have hZ := z9_ok kS kT
  have hG0 := hG
  obtain ⟨g00, g10, g20, hmk, hDD, hTT, hKK⟩ := hG
  have hO0 := hO
  obtain ⟨by0, wt, h30, h40, h50, h60, h70, hlen, hby, hwn, hw0, hwt⟩ := hO
  refine pw_ofW (cc := b_G_handle) (maxL := 2) (ret := (some FieldType.int)) (by decide) rfl (Nat.le_of_ble_eq_true rfl) ?_
  intro p e s m args below meth c A ls hB hA hw hK hz hl
  obtain ⟨hx, hb, hr, hml, hts0, hlocks, hown, hnm⟩ := hB
  have hts := wd_hts hts0
  have hown : s.vm.findClass "GraphWriter" = some m.cls := hown
  have hl : lv_has ls 2 [(0, .ref (ad 0 0)), (1, .int o)] := hl
  have hz0 := hz
  obtain ⟨hz1, hz2, hz3, hk0, hk1, hk2, hk3, hk4, hk5, hk6, hk7, hao1, hao2, hnw⟩ := hz0
  have hfr : os_fr C C := fun _ _ _ => rfl
  refine lv_aload_n hx hb d_G_handle_0 rfl (lv_at hl 0 rfl) ?_
  refine lv_iload_n hx hb d_G_handle_1 rfl (lv_at hl 1 rfl) ?_
  refine pw_calli (va_runV (As := [.int o]) (rest := []) ⟨hx, hb, hml, hown, hts0⟩ (k_G_isMade hG0 o _) (cwV 1 hts0 (wd_V wd_550 wd_547 wd_549 wd_7 wd_53) rfl rfl rfl (by decide +kernel) ⟨Nat.le_of_ble_eq_true rfl, Nat.le_of_ble_eq_true rfl⟩) (pw_preV hZ hw hA hK hz rfl g00 rfl) rfl rfl hl.1 rfl (lv_room (Nat.le_of_ble_eq_true rfl)) d_G_handle_2 ⟨Nat.le_of_ble_eq_true rfl, Nat.le_of_ble_eq_true rfl⟩) hw hA (fun r_3 ad_1 C_2 H locs hp hw => ?_)
  obtain ⟨⟨hae, hce⟩, hre⟩ := hp
  rw [hae, hce] at hw
  rw [hre]
  clear hae hce hre
  refine lv_if_eq (tgt := 21) hx hb d_G_handle_5 (by decide) (fun c_4 => ?_) (fun c_4 => ?_)
  · skip
    refine lv_iconst (v := (-1)) hx hb d_G_handle_21 (by decide) ?_
    exact pw_iret hx hb hr hlocks hw ⟨⟨rfl, rfl⟩, (if_pos c_4).symm⟩ d_G_handle_22
  · skip
    refine lv_aload_n hx hb d_G_handle_8 rfl (lv_at hl 0 rfl) ?_
    refine pw_get (Cn := "GraphWriter") (T := F_G) (N := 4) hx hb hts in_G hown hK hw 0 0 rfl g00 rfl 2 (by decide) (hts _ wd_142) (fun _ h9 => h9) rfl d_G_handle_9 ?_
    refine pw_get (Cn := "GraphWriter$Out") (T := F_O) (N := 11) hx hb hts in_O hown hK hw 3 0 rfl h30 rfl 2 (by decide) (hts _ wd_90) (fun _ h9 => h9) rfl d_G_handle_12 ?_
    refine lv_iload_n hx hb d_G_handle_15 rfl (lv_at hl 1 rfl) ?_
    obtain ⟨j, hj, hoj⟩ := ga_made_1 hmk c_4
    have e8 : o.toNatClampNeg = j := by rw [hoj]; exact nI_clamp (by omega)
    refine pw_iald hx hb hK hw 6 0 rfl 0 h60 rfl j hoj (by omega) (by omega) d_G_handle_16 ?_
    refine lv_iconst (v := (-1)) hx hb d_G_handle_17 (by decide) ?_
    refine lv_icmp_ne (tgt := 23) hx hb d_G_handle_18 (by decide) (fun c_5 => ?_) (fun c_5 => ?_)
    · skip
      refine lv_aload_n hx hb d_G_handle_23 rfl (lv_at hl 0 rfl) ?_
      refine pw_get (Cn := "GraphWriter") (T := F_G) (N := 4) hx hb hts in_G hown hK hw 0 0 rfl g00 rfl 2 (by decide) (hts _ wd_142) (fun _ h9 => h9) rfl d_G_handle_24 ?_
      refine pw_get (Cn := "GraphWriter$Out") (T := F_O) (N := 11) hx hb hts in_O hown hK hw 3 0 rfl h30 rfl 2 (by decide) (hts _ wd_90) (fun _ h9 => h9) rfl d_G_handle_27 ?_
      refine lv_iload_n hx hb d_G_handle_30 rfl (lv_at hl 1 rfl) ?_
      refine pw_iald hx hb hK hw 6 0 rfl 0 h60 rfl j hoj (by omega) (by omega) d_G_handle_31 ?_
      exact pw_iret hx hb hr hlocks hw ⟨⟨rfl, rfl⟩, by unfold ga_handle; rw [if_neg c_4, e8]⟩ d_G_handle_32
    · skip
      refine lv_iconst (v := (-1)) hx hb d_G_handle_21 (by decide) ?_
      exact pw_iret hx hb hr hlocks hw ⟨⟨rfl, rfl⟩, by unfold ga_handle; rw [if_neg c_4, e8]; exact (c_5).symm⟩ d_G_handle_22
