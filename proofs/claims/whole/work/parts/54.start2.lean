set_option maxHeartbeats 4000000 in
set_option maxRecDepth 100000 in
theorem whole_start {p : Program} {e : Env} {s : State} {m : MethodId} {below : List Frame} {meth : Method} {c : Code} (l : Launch) {b L : Nat} {xs : Nat → Int32} (hL : L ≤ 3072) (C0 : lw_At p s m meth c b L xs) : W p l e room_1 s m #[Value.ref b] below meth c s.heap [] 0 0 (lw_Z below #[Value.ref b] s) (entryFrame m ([Value.ref b] : List Value).toArray 4) := by
  obtain ⟨D, ca, kS, kT, A, ad, C, hE, hAf, hKS, hno, hw⟩ := lw_world hL C0
  clear hL
  have hE0 := hE
  obtain ⟨hx, hb, hr, hml, hown, hts0, hX, hbl, hbA, hA, hlocks, hL, hK, hz⟩ := hE
  have hts := wd_hts hts0
  have hZ := z9_ok kS kT
  obtain ⟨r0, hM0, hRC, hRO, hRX⟩ := r_init
  have hl := lv_entry ([.ref b]) (n := 4) (Nat.le_of_ble_eq_true rfl)
  rw [lg_entry_eq]
  generalize (lg_sl ([.ref b]) ++ List.replicate (4 - (lg_sl ([.ref b])).length) Slot.unset).toArray = ls at hl ⊢
  have hl : lv_has ls 4 [(0, .ref b)] := hl
  show W p l e ({ frames := 2048, cells := 600000, slots := 7302250, locals := 84000 }) s m #[Value.ref b] below meth c s.heap [] 0 0 (lw_Z below #[Value.ref b] s) (F0 m 0 ls [])
  refine pw_new (ci := 0) (fs := [.null, .null, .null, .int 0]) (Cn := "GraphWriter") (T := F_G) (N := 4) hx hb hts in_G ft_G to_G hown (hts _ wd_68) (hts _ wd_69) (hts _ wd_53) hK hw hA 0 0 (by decide) (hno 0 0 (by decide)) rfl (fun j hj => by match j, hj with | 0, _ => rfl | 1, _ => rfl | 2, _ => rfl | 3, _ => rfl | j + 4, h => exact absurd h (by omega)) (by (try dsimp only); omega) (by (try dsimp only); omega) d_L_law_0 (fun q_1 H hw => ?_)
  refine W.widen (k := 1) (n := 4) (by omega) (by omega) ?_
  obtain ⟨ad_2, had_2⟩ : ∃ z, z = pw_up ad 0 0 q_1 := ⟨_, rfl⟩
  rw [← had_2] at hw
  have hsad_2 : ad_2 0 0 = q_1 := by rw [had_2]; exact pw_up_self _ _ _ _
  have hadk : ∀ x9 y9, ¬ (x9 = 0 ∧ y9 = 0) → ad_2 x9 y9 = ad x9 y9 := fun x9 y9 h9 => by rw [had_2]; exact pw_up_ne _ _ h9
  have hw : pw_H D cls9 A s.heap ad C ad_2 (pw_up C 0 0 (some (.inr (0, [.null, .null, .null, .int 0])))) H _ := hw
  generalize hC_3 : pw_up C 0 0 (some (.inr (0, [.null, .null, .null, .int 0]))) = C_3 at hw
  have g00 : C_3 0 0 = some (.inr (0, [.null, .null, .null, .int 0])) := by rw [← hC_3]; exact pw_up_self _ _ _ _
  have hno1 : ∀ x y, x < 50 → ¬ (x = 0 ∧ y = 0) → C_3 x y = none := fun x y h5 h => by rw [← hC_3]; exact (pw_up_ne _ _ h).trans (hno x y h5)
  refine lv_dup hx hb d_L_law_3 rfl ?_
  rw [← hsad_2]
  refine pw_callv (va_runI (As := []) (rest := [.ref (ad_2 0 0)]) ⟨hx, hb, hml, hown, hts0⟩ (k_G_init (hKS.mv hw.2.2.2) g00 (fun x h1 h2 => hno1 x 0 (by omega) (by omega)) _) (cwI 0 hts0 (wd_sub wd_72) rfl rfl rfl (hts _ wd_53) (hts _ wd_70) (hts _ wd_71) rfl (by decide +kernel) ⟨(by (try dsimp only); omega), (by (try dsimp only); omega)⟩) (pw_preS hZ hw hA hK hz) rfl rfl hl.1 rfl (lv_room (Nat.le_of_ble_eq_true rfl)) d_L_law_4 ⟨(by (try dsimp only); omega), (by (try dsimp only); omega)⟩) hw hA (fun ad_4 C_5 H locs hp hw => ?_)
  refine W.widen (k := 8) (n := 1764) (by omega) (by omega) ?_
  obtain ⟨hA1, hG, hO, hF⟩ := hp
  rw [← hA1 0 0 (by omega)]
  refine lv_astore_n (lv' := [(1, .ref (ad_4 0 0)), (0, .ref b)]) hx hb d_L_law_7 rfl hl (by decide) rfl (fun ls hl => ?_)
  have hno2 : ∀ x y, 7 < x → x < 50 → C_5 x y = none := fun x y h1 h2 => (hF x y h1).trans (hno1 x y h2 (by omega))
  refine pw_new (ci := 4) (fs := [.null, .null, .null, .null, .null, .null, .null, .null, .null, .null, .null, .null, .null, .null, .null, .int 0, .null, .int 0, .null, .int 0, .null, .int 0, .null, .null, .null, .int 0, .null, .null, .int 0, .int 0, .int 0]) (Cn := "GraphWriterModel") (T := F_M) (N := 31) hx hb hts in_M ft_M to_M hown (hts _ wd_738) (hts _ wd_739) (hts _ wd_56) hK hw hA 30 0 (by decide) (hno2 30 0 (by decide) (by decide)) rfl (fun j hj => by match j, hj with | 0, _ => rfl | 1, _ => rfl | 2, _ => rfl | 3, _ => rfl | 4, _ => rfl | 5, _ => rfl | 6, _ => rfl | 7, _ => rfl | 8, _ => rfl | 9, _ => rfl | 10, _ => rfl | 11, _ => rfl | 12, _ => rfl | 13, _ => rfl | 14, _ => rfl | 15, _ => rfl | 16, _ => rfl | 17, _ => rfl | 18, _ => rfl | 19, _ => rfl | 20, _ => rfl | 21, _ => rfl | 22, _ => rfl | 23, _ => rfl | 24, _ => rfl | 25, _ => rfl | 26, _ => rfl | 27, _ => rfl | 28, _ => rfl | 29, _ => rfl | 30, _ => rfl | j + 31, h => exact absurd h (by omega)) (by (try dsimp only); omega) (by (try dsimp only); omega) d_L_law_8 (fun q_m H hw => ?_)
  refine W.widen (k := 9) (n := 1800) (by omega) (by omega) ?_
  obtain ⟨a3, ha3⟩ : ∃ z, z = pw_up ad_4 30 0 q_m := ⟨_, rfl⟩
  rw [← ha3] at hw
  have hs3 : a3 30 0 = q_m := by rw [ha3]; exact pw_up_self _ _ _ _
  have hw : pw_H D cls9 A s.heap ad C a3 (pw_up C_5 30 0 (some (.inr (4, [.null, .null, .null, .null, .null, .null, .null, .null, .null, .null, .null, .null, .null, .null, .null, .int 0, .null, .int 0, .null, .int 0, .null, .int 0, .null, .null, .null, .int 0, .null, .null, .int 0, .int 0, .int 0])))) H _ := hw
  generalize hC3 : pw_up C_5 30 0 (some (.inr (4, [.null, .null, .null, .null, .null, .null, .null, .null, .null, .null, .null, .null, .null, .null, .null, .int 0, .null, .int 0, .null, .int 0, .null, .int 0, .null, .null, .null, .int 0, .null, .null, .int 0, .int 0, .int 0]))) = C3 at hw
  have g30 : C3 30 0 = some (.inr (4, [.null, .null, .null, .null, .null, .null, .null, .null, .null, .null, .null, .null, .null, .null, .null, .int 0, .null, .int 0, .null, .int 0, .null, .int 0, .null, .null, .null, .int 0, .null, .null, .int 0, .int 0, .int 0])) := by rw [← hC3]; exact pw_up_self _ _ _ _
  have hC3n : ∀ x y, ¬ (x = 30 ∧ y = 0) → C3 x y = C_5 x y := fun x y h => by rw [← hC3]; exact pw_up_ne _ _ h
  have ha3n : ∀ x y, ¬ (x = 30 ∧ y = 0) → a3 x y = ad_4 x y := fun x y h => by rw [ha3]; exact pw_up_ne _ _ h
  refine lv_dup hx hb d_L_law_11 rfl ?_
  rw [← hs3]
  refine pw_callv (va_runI (As := []) (rest := [.ref (a3 30 0)]) ⟨hx, hb, hml, hown, hts0⟩ (k_M_init g30 (fun k hk => (hC3n 31 k (by omega)).trans (hno2 31 k (by decide) (by decide))) hM0 _) (cwI 0 hts0 (wd_sub wd_742) rfl rfl rfl (hts _ wd_56) (hts _ wd_740) (hts _ wd_741) rfl (by decide +kernel) ⟨(by (try dsimp only); omega), (by (try dsimp only); omega)⟩) (pw_preS hZ hw hA hK hz) rfl rfl hl.1 rfl (lv_room (Nat.le_of_ble_eq_true rfl)) d_L_law_12 ⟨(by (try dsimp only); omega), (by (try dsimp only); omega)⟩) hw hA (fun ad_6 C_7 H locs hp hw => ?_)
  refine W.widen (k := 32) (n := 7264) (by omega) (by omega) ?_
  obtain ⟨hA4, hR, hF4⟩ := hp
  rw [← hA4 30 0 (by omega)]
  refine lv_astore_n (lv' := [(2, .ref (ad_6 30 0)), (1, .ref (ad_4 0 0)), (0, .ref b)]) hx hb d_L_law_15 rfl hl (by decide) rfl (fun ls hl => ?_)
  have hAA : ∀ x y, ¬ (x = 30 ∨ x = 31) → ad_6 x y = ad_4 x y := fun x y h => (hA4 x y (by omega)).trans (ha3n x y (by omega))
  have hCC : ∀ x y, ¬ (x = 30 ∨ x = 31) → C_7 x y = C_5 x y := fun x y h => (hF4 x y h).trans (hC3n x y (by omega))
  have hG := hG.z hCC hAA
  have hO := hO.mv2 (fun x y h => hCC x y (by omega)) (fun x y h => hAA x y (by omega))
  refine lv_iconst (v := 0) hx hb d_L_law_16 (by decide) ?_
  refine lv_istore_n (lv' := [(3, .int 0), (2, .ref (ad_6 30 0)), (1, .ref (ad_4 0 0)), (0, .ref b)]) hx hb d_L_law_17 rfl hl (by decide) rfl (fun ls hl => ?_)
  have h00 : ad_6 0 0 = ad_4 0 0 := hAA 0 0 (by omega)
  have hl : lv_has ls 4 [(3, .int (nI 0)), (2, .ref (ad_6 30 0)), (1, .ref (ad_6 0 0)), (0, .ref b)] := by rw [h00]; exact hl
  exact law_loop hE0 hAf 513 0 ad_6 C_7 H locs ls _ _ (by omega) (by omega) ⟨_, _, _, _, _, _, r0, hG, hO, hR, GI.zero _, hRC, hRO _, hRX⟩ hw hl (by omega) (by omega)
-- ===== YOUR PART ENDS =====
set_option maxHeartbeats 4000000 in
theorem lw_walk (l : Launch) (b : Addr) (xs : List Int32) : MetFree l x (headSpec (Jvm.Cond.code x code maxLocals ret :: tables_1) room_1) (lw_P b xs) (fun _ _ _ _ _ => True) lw_Q := by
  refine MetFree.of_bodyS (code := code) (maxLocals := maxLocals) (ret := ret) (by decide) ?_ ?_
  · intro args s m h hn
    obtain ⟨meth, c, h1, h2, h3, h4, h5, h6, -, -⟩ := Cond.code_spec hn (atoms_spec (ws := Jvm.Cond.code x code maxLocals ret :: tables_1) h _ List.mem_cons_self)
    exact ⟨meth, c, h1, h2, h3, h4, h5, h6⟩
  · intro p e s m args below meth c s₁ B hml0 hP _
    obtain ⟨rfl, hx, hbd, hgv⟩ := hP
    obtain ⟨scr, harrAt, hlist, hof, hsmall⟩ := hx
    obtain ⟨hcb, hkn, -, -⟩ := State.arrayAt?_spec harrAt
    have hown : s.vm.findClass R_law = some m.cls := findClass_of_methodNamed B.named
    have hts0 : ∀ c ∈ (Jvm.Cond.code x code maxLocals ret :: tables_1), c.before #[Value.ref b] s = true := atoms_spec (ws := Jvm.Cond.code x code maxLocals ret :: tables_1) B.pre
    have hts : ∀ w ∈ lw_tbl, w.before #[Value.ref b] s = true := k2_hts_sels lw_privs (fun w hw => hts0 w (List.mem_cons_of_mem _ hw)) lw_privs_ok
    have hml : c.maxLocals = 4 := B.maxLocals_eq (hts0 _ List.mem_cons_self)
    have X₀ : Stand p l e room_1 s m #[Value.ref b] below meth c s₁ [] 0 0 := Stand.of_body B
    have hh0 : s₁.heap = s.heap := by rw [B.state]; rfl
    have hsz : scr.slots.size = xs.length := by rw [← Array.length_toList, hlist, List.length_map]
    have hval : ∀ j : Nat, j < xs.length → scr.slots[j]? = some (.int (xs.getD j 0)) := fun j hj => by
      rw [← Array.getElem?_toList, hlist]
      simp [hj]
    have hbl : b < s.heap.size := (Array.getElem?_eq_some_iff.mp hcb).1
    have hX : va_X b xs.length (fun j => xs.getD j 0) s s.heap := ⟨scr, hcb, hof, hkn, hsz, hval⟩
    have K : W p l e room_1 s m #[Value.ref b] below meth c s₁.heap [] 0 0 (lw_Z below #[Value.ref b] s) (entryFrame m ([Value.ref b] : List Value).toArray 4) := by
      rw [hh0]
      exact whole_start l hbd ⟨B.exec, B.bytes, B.returns, hml, hown, hts, hX, hbl, B.notSynchronized, hgv⟩
    obtain ⟨t, a1, o, b1, b2, b3⟩ := K s₁ rfl X₀
    exact ⟨t, o, a1, b1, b2, b3⟩
theorem lw_pre_spec {args : Array Value} {s : State} (h : (Jvm.Cond.and given_1 narrow_1).before args s = true) (hr : rest_1_c.before args s = true) : ∃ (b : Addr) (xs : List Int32), lw_P b xs args s := by
  have hs := flat_of_before _ h
  have hq := flat_of_before _ hr
  have hc : (Cond.count 1).before args s = true := hs _ (by decide +kernel)
  have harr : (Cond.arrayOf (.arg 0) .int).before args s = true := hs _ (by decide +kernel)
  have hle : (Cond.le (.length (.arg 0)) (.int 3072)).before args s = true := hs _ (by decide +kernel)
  have hlen : (Cond.isInt (.length (.arg 0))).before args s = true := hq _ (by decide +kernel)
  have hall : (Cond.all (.arg 0) (.isInt (.elem (.arg 0) (.index 0)))).before args s = true := hq _ (by decide +kernel)
  obtain ⟨b, xs, hb, hx⟩ := State.ints_of_pre rfl harr hlen hall
  have hsm : xs.length < 2 ^ 31 := hx.choose_spec.2.2.2
  have hev : (Term.length (.arg 0)).eval args s none [] s = some (.int xs.length.toInt32) := hx.length_eval hb
  have hv := Cond.le_ints hev (show (Term.int 3072).eval args s none [] s = some (.int 3072) from rfl)
  have hd : xs.length.toInt32 ≤ 3072 := by
    simpa [Cond.before, Cond.holds, hv] using hle
  have hN : xs.length ≤ 3072 := (Int32.ofNat_le_ofNat hsm (by decide)).mp (show Int32.ofNat xs.length ≤ Int32.ofNat 3072 from hd)
  exact ⟨b, xs, Cond.one_arg hc (show args[0]? = some (.ref b) from hb), hx, hN, h⟩
theorem lw_comes (l : Launch) : Comes l x (Jvm.Cond.code x code maxLocals ret :: tables_1) room_1 (fun tb e args s => Calls_1 tb e args s ∧ rest_1 tb e args s ∧ Pre_1 tb e args s)
    (fun _ _ args s o t => lw_Q args s o t) := by
  intro p e ha hc hk s m args below hf hfit hheap happ hpre
  obtain ⟨b, xs, hP⟩ := lw_pre_spec hpre.2.2 hpre.2.1
  obtain ⟨k, o, h1, h2, h3, hQ⟩ := lw_walk l b xs p e ha hc hk s m args below hf ((Spec.applies_iff_loose hf).mp happ).1 hP trivial
  exact ⟨k, o, h1, h2, h3, hQ⟩
theorem lw_frame {s t : State} {o : Outcome} {args : Array Value} (h : Framed s o t [] 600000 7302250) :
    Framed s o t (fieldLocs frame_1_writes args s ++ arrayLocs frame_1_arrays args s ++ staticLocs frame_1_statics s) 600000 7302250 := h
theorem lw_limb (L : Cond) (hL : ∀ (args : Array Value) (s t : State), L.after args s (.returned (some (.int 1))) t = true) :
    ArmFor flags0 classFile x code maxLocals ret World_1 tables_1 room_1 Calls_1 rest_1 Pre_1
      (fun tb e a s o t => postC L tb e a s o t ∧ Framed s o t (fieldLocs frame_1_writes a s ++ arrayLocs frame_1_arrays a s ++ staticLocs frame_1_statics s) 600000 7302250) := by
  intro l _ _ _ p e ha hc hk s m args below hf hfit hheap happ hpre
  obtain ⟨k, o, h1, h2, h3, rfl, hF⟩ := lw_comes l p e ha hc hk s m args below hf hfit hheap happ hpre
  exact ⟨k, _, h1, h2, h3, hL args s _, lw_frame hF⟩
theorem i_vc : Claimed_1_1 ∧ Claimed_1_2 := ⟨lw_limb limb_1_1 (fun args s t => by simp [limb_1_1, Cond.after, Cond.holds, Cond.value]), lw_limb limb_1_2 (fun args s t => Cond.after_iff.mpr (by
  first | (rw [show limb_1_2 = Cond.eq .result (.int 1) from rfl, Cond.eq_ints (x := 1) (y := 1) rfl rfl]; simp; done) | (simp [limb_1_2, Cond.value, Term.eval]; done)))⟩
