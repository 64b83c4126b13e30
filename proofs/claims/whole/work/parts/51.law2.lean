/-! THE CLAIM OUT OF ONE WALK OF THE LAW'S BODY. Your part is whole_start (and what it stands on); all else here is the same for every law, but numbers. -/
def R_law : String := "GraphWriterLaw"
def lw_P (b : Addr) (xs : List Int32) (args : Array Value) (s : State) : Prop := args = #[.ref b] ∧ s.IntsAt b xs ∧ xs.length ≤ 3072 ∧ (Jvm.Cond.and given_1 narrow_1).before args s = true
def lw_Q (_ : Array Value) (s : State) (o : Outcome) (t : State) : Prop := o = .returned (some (.int 1)) ∧ Framed s o t [] 600000 7302250
def lw_Z (below : List Frame) (a : Array Value) (s : State) : State → Prop := fun t => ∃ o, t.status = .running ∧ Ended t below o ∧ lw_Q a s o t
/-- the law's own end, with 1 on the stack, nothing written that was there before, its room as the claim has it -/
theorem lw_ret {p : Program} {l : Launch} {e : Env} {s : State} {m : MethodId} {below : List Frame} {meth : Method} {c : Code} {b : Nat} (hx : p.tables.exec = Jvm.exec) (hb : c.code = code) (hr : meth.sig.returnType = ret) (hlocks : meth.locks = false) {pc : Nat} {H : Heap} {ls : Array Slot} (hdg : decode code pc = .ok (.ireturn, 1)) : W p l e room_1 s m #[Value.ref b] below meth c H [] 600000 7302250 (lw_Z below #[Value.ref b] s) (F0 m pc ls [.int 1]) := by
  intro T hT X
  obtain ⟨fs, hret, hrun, hended, hW, hframe⟩ := X.leave (v := some (.int 1)) (hlocks := hlocks) (fun h => by rw [hr] at h; cases h)
  have hmeth' : T.vm.method? m = some meth := X.method'
  refine ⟨T.setFrames fs, ?_, .returned (some (.int 1)), hrun, hended, rfl, ⟨_, rfl⟩, hW, hframe⟩
  jvm_step X.here [X.here.top, hx, hb, hdg, hmeth', hr, ret, narrow_b1]
  (try refine ⟨rfl, ?_⟩); (try refine ⟨rfl, ?_⟩)
  first | (intro acts; rw [hret _ acts rfl rfl rfl]) | rw [hret _ _ rfl rfl rfl]
  exact Steps.refl _
/-- what holds at the law's entry: the machine, the code, the tables' words (any of lw_tbl by 'hts w (by decide +kernel)'), the script of L ints xs at the cell b, what the Statement gives of the start (any of its parts by flat_of_before) -/
def lw_At (p : Program) (s : State) (m : MethodId) (meth : Method) (c : Code) (b L : Nat) (xs : Nat → Int32) : Prop :=
  p.tables.exec = Jvm.exec ∧ c.code = code ∧ meth.sig.returnType = ret ∧ c.maxLocals = 4 ∧ s.vm.findClass R_law = some m.cls ∧ (∀ w ∈ lw_tbl, w.before #[Value.ref b] s = true) ∧ va_X b L xs s s.heap ∧ b < s.heap.size ∧ meth.locks = false ∧ (Jvm.Cond.and given_1 narrow_1).before #[Value.ref b] s = true
theorem lw_cmp {i L : Nat} (hi : i ≤ 4000) (hL : L ≤ 3072) : (Int32.ofNat L - 6 < nI i) ↔ L < i + 6 := by
  rcases Nat.lt_or_ge L 6 with h | h
  · have h1 : ∀ L, L < 6 → Int32.ofNat L - 6 < 0 := by decide +kernel
    exact ⟨fun _ => by omega, fun _ => Int32.lt_of_lt_of_le (h1 L h) (nI_pos' (by omega))⟩
  · have e : Int32.ofNat L - 6 = nI (L - 6) := by
      have e1 : Int32.ofNat L = nI (L - 6) + 6 := by
        show nI L = nI (L - 6) + nI 6
        rw [nI_add, Nat.sub_add_cancel h]
      rw [e1]; exact Int32.add_sub_cancel _ _
    rw [e, nI_ltI (by omega) (by omega)]
    omega
set_option maxHeartbeats 4000000 in
set_option maxRecDepth 100000 in
theorem law_loop {p : Program} {l : Launch} {e : Env} {s : State} {m : MethodId} {below : List Frame} {meth : Method} {c : Code} {b L : Nat} {xs : Nat → Int32} {D : va_G} {ca : Nat → ClassId} {kS : Nat → Nat} {kT : Nat} {A : Nat → Prop} {a0 : pw_A} {c0 : pw_C} (hE : lw_E p s m meth c b L xs D ca kS kT A) (hAf : ∀ q, A q → s.heap.size ≤ q) : ∀ (n i : Nat) (ad : pw_A) (C : pw_C) (H : Heap) (locs : List Loc) (ls : Array Slot) (cells slots : Nat), L < i + 6 * n → i ≤ 4000 → lw_I ca kS kT ad C → pw_H D cls9 A s.heap a0 c0 ad C H locs → lv_has ls 4 [(3, .int (nI i)), (2, .ref (ad 30 0)), (1, .ref (ad 0 0)), (0, .ref b)] → cells + 7 * n ≤ 600000 → slots + 90 * n ≤ 7302250 → W p l e ({ frames := 2048, cells := 600000, slots := 7302250, locals := 84000 }) s m #[Value.ref b] below meth c H locs cells slots (lw_Z below #[Value.ref b] s) (F0 m 18 ls []) := by
  have hE0 := hE
  obtain ⟨hx, hb, hr, hml, hown, hts0, hX, hbl, hbA, hA, hlocks, hL, hK, hz⟩ := hE
  intro n
  induction n with
  | zero =>
    intro i ad C H locs ls cells slots hin hi hI hw hl hc hs
    refine lv_iload_n hx hb d_L_law_18 rfl (lv_at hl 0 rfl) ?_
    refine lv_aload_n hx hb d_L_law_19 rfl (lv_at hl 3 rfl) ?_
    refine va_slen hx hb hX hbl hbA hw.2.2.1 d_L_law_20 ?_
    refine lv_bipush (v := 6) hx hb d_L_law_21 (by decide) ?_
    refine lv_isub hx hb d_L_law_23 ?_
    refine lv_icmp_gt (tgt := 794) hx hb d_L_law_24 (by decide) (fun c9 => ?_) (fun c9 => ?_)
    · refine lv_iconst (v := 1) hx hb d_L_law_794 (by decide) ?_
      refine va_forget (fun q hq => hAf _ (hw.2.2.1.2.2 q hq)) ?_
      refine W.widen (k := 600000) (n := 7302250) (by omega) (by omega) ?_
      exact lw_ret hx hb hr hlocks d_L_law_795
    · exact absurd ((lw_cmp hi hL).mpr (by omega)) c9
  | succ n ih =>
    intro i ad C H locs ls cells slots hin hi hI hw hl hc hs
    refine lv_iload_n hx hb d_L_law_18 rfl (lv_at hl 0 rfl) ?_
    refine lv_aload_n hx hb d_L_law_19 rfl (lv_at hl 3 rfl) ?_
    refine va_slen hx hb hX hbl hbA hw.2.2.1 d_L_law_20 ?_
    refine lv_bipush (v := 6) hx hb d_L_law_21 (by decide) ?_
    refine lv_isub hx hb d_L_law_23 ?_
    refine lv_icmp_gt (tgt := 794) hx hb d_L_law_24 (by decide) (fun c9 => ?_) (fun c9 => ?_)
    · refine lv_iconst (v := 1) hx hb d_L_law_794 (by decide) ?_
      refine va_forget (fun q hq => hAf _ (hw.2.2.1.2.2 q hq)) ?_
      refine W.widen (k := 600000) (n := 7302250) (by omega) (by omega) ?_
      exact lw_ret hx hb hr hlocks d_L_law_795
    · have hi6 : i + 6 ≤ L := by
        have := mt (lw_cmp hi hL).mpr c9
        omega
      have tail : ∀ (ad' : pw_A) (C' : pw_C) (H' : Heap) (locs' : List Loc), lw_I ca kS kT ad' C' → ad' 0 0 = ad 0 0 → ad' 30 0 = ad 30 0 → pw_H D cls9 A s.heap a0 c0 ad' C' H' locs' → W p l e ({ frames := 2048, cells := 600000, slots := 7302250, locals := 84000 }) s m #[Value.ref b] below meth c H' locs' (cells + 7) (slots + 90) (lw_Z below #[Value.ref b] s) (F0 m 788 ls []) := by
        intro ad' C' H' locs' hI' h0 h30 hw'
        have hl' : lv_has ls 4 [(3, .int (nI i)), (2, .ref (ad' 30 0)), (1, .ref (ad' 0 0)), (0, .ref b)] := by rw [h0, h30]; exact hl
        refine lv_iinc (v := nI (i + 6)) (lv' := [(3, .int (nI (i + 6))), (2, .ref (ad' 30 0)), (1, .ref (ad' 0 0)), (0, .ref b)]) hx hb d_L_law_788 hl' (k := 0) rfl (nI_add i 6) (by decide) rfl (fun ls hl => ?_)
        refine lv_goto (tgt := 18) hx hb d_L_law_791 (by decide) ?_
        exact ih (i + 6) ad' C' H' locs' ls (cells + 7) (slots + 90) (by omega) (by omega) hI' hw' hl (by omega) (by omega)
      refine lv_aload_n hx hb d_L_law_27 rfl (lv_at hl 3 rfl) ?_
      refine lv_iload_n hx hb d_L_law_28 rfl (lv_at hl 0 rfl) ?_
      refine va_sld hx hb hX hbl hbA hw.2.2.1 (pw_in (show i < L by omega) (by omega)) d_L_law_29 ?_
      refine lv_bipush (v := 15) hx hb d_L_law_30 (by decide) ?_
      refine lv_iand hx hb d_L_law_32 ?_
      obtain ⟨j, hj, ej⟩ := pk_andE (xs (nI i).toNatClampNeg) (m := 15) 4 (by decide)
      rw [ej]
      match j, hj with
      | 0, _ =>
        refine lv_tableIn (off := 79) (tgt := 112) hx hb d_L_law_33 (by decide) (by decide) (by decide) (by decide) ?_
        exact lc_define hE0 hi6 hI hw hl (by omega) (by omega) tail
      | 1, _ =>
        refine lv_tableIn (off := 162) (tgt := 195) hx hb d_L_law_33 (by decide) (by decide) (by decide) (by decide) ?_
        exact lc_field hE0 hi6 hI hw hl (by omega) (by omega) tail
      | 2, _ =>
        refine lv_tableIn (off := 231) (tgt := 264) hx hb d_L_law_33 (by decide) (by decide) (by decide) (by decide) ?_
        exact lc_instance hE0 hi6 hI hw hl (by omega) (by omega) tail
      | 3, _ =>
        refine lv_tableIn (off := 254) (tgt := 287) hx hb d_L_law_33 (by decide) (by decide) (by decide) (by decide) ?_
        exact lc_text hE0 hi6 hI hw hl (by omega) (by omega) tail
      | 4, _ =>
        refine lv_tableIn (off := 307) (tgt := 340) hx hb d_L_law_33 (by decide) (by decide) (by decide) (by decide) ?_
        exact lc_array hE0 hi6 hI hw hl (by omega) (by omega) tail
      | 5, _ =>
        refine lv_tableIn (off := 356) (tgt := 389) hx hb d_L_law_33 (by decide) (by decide) (by decide) (by decide) ?_
        exact lc_constant hE0 hi6 hI hw hl (by omega) (by omega) tail
      | 6, _ =>
        refine lv_tableIn (off := 389) (tgt := 422) hx hb d_L_law_33 (by decide) (by decide) (by decide) (by decide) ?_
        exact lc_set hE0 hi6 hI hw hl (by omega) (by omega) tail
      | 7, _ =>
        refine lv_tableIn (off := 462) (tgt := 495) hx hb d_L_law_33 (by decide) (by decide) (by decide) (by decide) ?_
        exact lc_replace hE0 hi6 hI hw hl (by omega) (by omega) tail
      | 8, _ =>
        refine lv_tableIn (off := 495) (tgt := 528) hx hb d_L_law_33 (by decide) (by decide) (by decide) (by decide) ?_
        exact lc_extra hE0 hi6 hI hw hl (by omega) (by omega) tail
      | 9, _ =>
        refine lv_tableIn (off := 528) (tgt := 561) hx hb d_L_law_33 (by decide) (by decide) (by decide) (by decide) ?_
        exact lc_data hE0 hi6 hI hw hl (by omega) (by omega) tail
      | 10, _ =>
        refine lv_tableIn (off := 591) (tgt := 624) hx hb d_L_law_33 (by decide) (by decide) (by decide) (by decide) ?_
        exact lc_write hE0 hi6 hI hw hl (by omega) (by omega) tail
      | 11, _ =>
        refine lv_tableIn (off := 640) (tgt := 673) hx hb d_L_law_33 (by decide) (by decide) (by decide) (by decide) ?_
        exact lc_reset hE0 hi6 hI hw hl (by omega) (by omega) tail
      | 12, _ =>
        refine lv_tableIn (off := 653) (tgt := 686) hx hb d_L_law_33 (by decide) (by decide) (by decide) (by decide) ?_
        exact lc_byteAt hE0 hi6 hI hw hl (by omega) (by omega) tail
      | 13, _ =>
        refine lv_tableIn (off := 676) (tgt := 709) hx hb d_L_law_33 (by decide) (by decide) (by decide) (by decide) ?_
        exact lc_handle hE0 hi6 hI hw hl (by omega) (by omega) tail
      | 14, _ =>
        refine lv_tableIn (off := 699) (tgt := 732) hx hb d_L_law_33 (by decide) (by decide) (by decide) (by decide) ?_
        exact lc_count hE0 hi6 hI hw hl (by omega) (by omega) tail
      | 15, _ =>
        refine lv_tableIn (off := 722) (tgt := 755) hx hb d_L_law_33 (by decide) (by decide) (by decide) (by decide) ?_
        exact lc_object hE0 hi6 hI hw hl (by omega) (by omega) tail
      | j + 16, h => exact absurd h (by omega)
