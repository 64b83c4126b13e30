/-! how the reference's fields stand to the class's -/
abbrev RC (cd : Nat → Option DT) (r : RS) : Prop :=
  (∀ k, k < 6 → cd k = none → r.defined k = 0 ∧ r.fields k = 0) ∧
  (∀ k d, cd k = some d → r.defined k = 1 ∧ r.kind k = dd_kd d ∧ (dd_kd d = 3 → dd_id d = 0) ∧ (¬ dd_kd d = 3 → r.id k = dd_id d) ∧ r.fields k = nI (dd_fn d) ∧ r.above k = (if dd_cn d = 1 then -1 else dd_cf d (dd_cn d - 2))) ∧
  (∀ k d f, cd k = some d → f < dd_fn d → r.fName (4 * k + f) = dd_nm d f ∧ r.fType (4 * k + f) = dd_ty d f ∧ (r.fSkip (4 * k + f) = 0 ↔ ∃ i, i < dd_sh d ∧ dd_or d i = nI f))
theorem RC.no {cd : Nat → Option DT} {r : RS} (h : RC cd r) : ∀ k, k < 6 → cd k = none → r.defined k = 0 ∧ r.fields k = 0 := h.1
theorem RC.so {cd : Nat → Option DT} {r : RS} (h : RC cd r) : ∀ k d, cd k = some d → r.defined k = 1 ∧ r.kind k = dd_kd d ∧ (dd_kd d = 3 → dd_id d = 0) ∧ (¬ dd_kd d = 3 → r.id k = dd_id d) ∧ r.fields k = nI (dd_fn d) ∧ r.above k = (if dd_cn d = 1 then -1 else dd_cf d (dd_cn d - 2)) := h.2.1
theorem RC.fi {cd : Nat → Option DT} {r : RS} (h : RC cd r) : ∀ k d f, cd k = some d → f < dd_fn d → r.fName (4 * k + f) = dd_nm d f ∧ r.fType (4 * k + f) = dd_ty d f ∧ (r.fSkip (4 * k + f) = 0 ↔ ∃ i, i < dd_sh d ∧ dd_or d i = nI f) := h.2.2
abbrev RO (mk : Nat) (td : Nat → TT) (r : RS) : Prop :=
  (r.objects = nI mk) ∧
  (∀ i, i < mk → r.sort i = tt_so (td i) ∧ (tt_so (td i) = 0 ∨ tt_so (td i) = 4 → r.classOf i = tt_ow (td i)) ∧ r.standIn i = tt_rp (td i) ∧ r.extras i = tt_ex (td i) ∧ r.size i = (if tt_so (td i) = 1 then nI (tt_tx (td i)).length else nI (tt_n (td i)))) ∧
  (∀ i q, i < mk → ¬ tt_so (td i) = 1 → q < tt_n (td i) → r.value (24 * i + q) = tt_va (td i) q) ∧
  (∀ i q, i < mk → tt_so (td i) = 1 → q < (tt_tx (td i)).length → r.value (24 * i + q) = ((tt_tx (td i)).getD q 0).toInt64) ∧
  (∀ i, i < mk → tt_so (td i) = 4 → ∃ n, n < 26 ∧ r.nameOf i = nI n ∧ tt_tx (td i) = [nI (97 + n)])
theorem RO.ob {mk : Nat} {td : Nat → TT} {r : RS} (h : RO mk td r) : r.objects = nI mk := h.1
theorem RO.o {mk : Nat} {td : Nat → TT} {r : RS} (h : RO mk td r) : ∀ i, i < mk → r.sort i = tt_so (td i) ∧ (tt_so (td i) = 0 ∨ tt_so (td i) = 4 → r.classOf i = tt_ow (td i)) ∧ r.standIn i = tt_rp (td i) ∧ r.extras i = tt_ex (td i) ∧ r.size i = (if tt_so (td i) = 1 then nI (tt_tx (td i)).length else nI (tt_n (td i))) := h.2.1
theorem RO.va {mk : Nat} {td : Nat → TT} {r : RS} (h : RO mk td r) : ∀ i q, i < mk → ¬ tt_so (td i) = 1 → q < tt_n (td i) → r.value (24 * i + q) = tt_va (td i) q := h.2.2.1
theorem RO.tx {mk : Nat} {td : Nat → TT} {r : RS} (h : RO mk td r) : ∀ i q, i < mk → tt_so (td i) = 1 → q < (tt_tx (td i)).length → r.value (24 * i + q) = ((tt_tx (td i)).getD q 0).toInt64 := h.2.2.2.1
theorem RO.nm {mk : Nat} {td : Nat → TT} {r : RS} (h : RO mk td r) : ∀ i, i < mk → tt_so (td i) = 4 → ∃ n, n < 26 ∧ r.nameOf i = nI n ∧ tt_tx (td i) = [nI (97 + n)] := h.2.2.2.2
def hk (k : Nat) : Nat := if k < 12 then k else if k < 24 then k + 8 else k + 16
abbrev RH (la : Nat → Int32) (gv : Int32) (r : RS) : Prop :=
  (∀ k, k < 35 → r.handles (hk k) = la k) ∧
  (r.given = gv)
theorem RH.hd {la : Nat → Int32} {gv : Int32} {r : RS} (h : RH la gv r) : ∀ k, k < 35 → r.handles (hk k) = la k := h.1
theorem RH.gv {la : Nat → Int32} {gv : Int32} {r : RS} (h : RH la gv r) : r.given = gv := h.2
abbrev RT (bs : List Int32) (q : List Int32) (r : RS) : Prop :=
  (r.length = nI bs.length) ∧
  (∀ i, i < bs.length → r.stream i = bs.getD i 0 &&& 255) ∧
  (r.waits = nI q.length) ∧
  (∀ i, i < q.length → r.waiting i = q.getD i 0 &&& 255)
theorem RT.ln {bs : List Int32} {q : List Int32} {r : RS} (h : RT bs q r) : r.length = nI bs.length := h.1
theorem RT.st {bs : List Int32} {q : List Int32} {r : RS} (h : RT bs q r) : ∀ i, i < bs.length → r.stream i = bs.getD i 0 &&& 255 := h.2.1
theorem RT.wn {bs : List Int32} {q : List Int32} {r : RS} (h : RT bs q r) : r.waits = nI q.length := h.2.2.1
theorem RT.wt {bs : List Int32} {q : List Int32} {r : RS} (h : RT bs q r) : ∀ i, i < q.length → r.waiting i = q.getD i 0 &&& 255 := h.2.2.2
theorem n10 : ¬ (1 : Int32) = 0 := by decide
theorem m_out_1 {a b : Int32} {r : RS} (h : a < 0 ∨ ¬ a < b) : m_out a b r = some (1, r) := by
  unfold m_out
  by_cases h0 : a < 0
  · rw [if_pos h0]
  · rw [if_neg h0]
    rcases h with h | h
    · exact absurd h h0
    · rw [if_neg h]
theorem m_out_0 {a b : Int32} {r : RS} (h0 : ¬ a < 0) (h1 : a < b) : m_out a b r = some (0, r) := by
  unfold m_out
  rw [if_neg h0, if_pos h1]
theorem m_noClass_0 {cd : Nat → Option DT} {r : RS} (h : RC cd r) {k : Int32} (hd : ¬ ga_isdef cd k = 0) : m_noClass k r = some (0, r) := by
  obtain ⟨j, d, hj, e, ec, hc⟩ := ga_isdef_some hd
  unfold m_noClass
  rw [m_out_0 (by rw [e]; exact nI_pos (by omega)) (by rw [e]; exact nI_lt (b := 6) hj (by decide)), Option.bind_some, if_pos rfl, rd_ok e hj (by decide), Option.bind_some]
  rw [if_neg (by show ¬ r.defined j = 0; rw [(h.so j d hc).1]; decide)]
theorem ga_isdef_0 {cd : Nat → Option DT} {k : Int32} (h : ga_isdef cd k = 0) : (k < 0 ∨ ¬ k < 6) ∨ ∃ j, j < 6 ∧ k = nI j ∧ k.toNatClampNeg = j ∧ cd j = none := by
  by_cases h0 : k < 0
  · exact Or.inl (Or.inl h0)
  by_cases h1 : k < 6
  · obtain ⟨j, hj, e, ec⟩ := ix_i (x := k) (n := 6) (by decide) h0 (Int32.not_le.mpr h1)
    refine Or.inr ⟨j, hj, e, ec, ?_⟩
    unfold ga_isdef at h
    rw [if_neg h0, if_neg (Int32.not_le.mpr h1), ec] at h
    rcases hc : cd j with _ | d
    · rfl
    · rw [hc] at h; exact absurd h n10
  · exact Or.inl (Or.inr h1)
theorem m_noClass_1 {cd : Nat → Option DT} {r : RS} (h : RC cd r) {k : Int32} (hd : ga_isdef cd k = 0) : m_noClass k r = some (1, r) := by
  unfold m_noClass
  rcases ga_isdef_0 hd with h0 | ⟨j, hj, e, ec, hc⟩
  · rw [m_out_1 h0, Option.bind_some, if_neg n10]
  · rw [m_out_0 (by rw [e]; exact nI_pos (by omega)) (by rw [e]; exact nI_lt (b := 6) hj (by decide)), Option.bind_some, if_pos rfl, rd_ok e hj (by decide), Option.bind_some]
    rw [if_pos (show r.defined j = 0 from (h.no j hj hc).1)]
theorem ga_made_0 {mk : Nat} {o : Int32} (h : ga_made mk o = 0) : o < 0 ∨ ¬ o < nI mk := by
  unfold ga_made at h
  by_cases h0 : o < 0
  · exact Or.inl h0
  rw [if_neg h0] at h
  by_cases h1 : nI mk ≤ o
  · exact Or.inr (Int32.not_lt.mpr h1)
  · rw [if_neg h1] at h; exact absurd h (by decide)
theorem made_out {mk : Nat} {o : Int32} {r : RS} (hb : r.objects = nI mk) (hm : mk < 2 ^ 31) : (ga_made mk o = 0 ∧ m_out o r.objects r = some (1, r)) ∨ ∃ j, j < mk ∧ o = nI j ∧ o.toNatClampNeg = j ∧ ¬ ga_made mk o = 0 ∧ m_out o r.objects r = some (0, r) := by
  by_cases h : ga_made mk o = 0
  · exact Or.inl ⟨h, by rw [hb]; exact m_out_1 (ga_made_0 h)⟩
  · obtain ⟨j, hj, e, ec⟩ := ga_made_some hm h
    exact Or.inr ⟨j, hj, e, ec, h, by rw [hb, e]; exact m_out_0 (nI_pos (by omega)) (nI_lt hj hm)⟩
theorem r_byteAt {bs q : List Int32} {r : RS} (h : RT bs q r) (hl : bs.length ≤ 1400) (oc : Int32) (la : Nat → Int32) (hn : Int32) (o : Int32) : m_byteAt o r = some (ga_byte (bs, oc, la, hn) o, r) := by
  unfold m_byteAt ga_byte
  by_cases h0 : o < 0
  · rw [m_out_1 (Or.inl h0), Option.bind_some, if_neg n10, if_pos h0]
  rw [if_neg h0]
  by_cases h1 : o < nI bs.length
  · obtain ⟨j, hj, e, ec⟩ := ix_i (x := o) (n := bs.length) (by omega) h0 (Int32.not_le.mpr h1)
    rw [if_pos h1, m_out_0 h0 (by rw [h.ln]; exact h1), Option.bind_some, if_pos rfl, rd_ok e (show j < 1700 by omega) (by decide), Option.bind_some, ec]
    show some (r.stream j, r) = _
    rw [h.st j hj]
  · rw [if_neg h1, m_out_1 (Or.inr (by rw [h.ln]; exact h1)), Option.bind_some, if_neg n10]
theorem hk_lt : ∀ k, k < 35 → hk k < 51 := by decide +kernel
theorem r_handle {mk : Nat} {la : Nat → Int32} {gv : Int32} {r : RS} (hb : r.objects = nI mk) (h : RH la gv r) (hm : mk ≤ 12) (bs : List Int32) (oc : Int32) (o : Int32) : m_handle o r = some (ga_handle mk (bs, oc, la, gv) o, r) := by
  unfold m_handle ga_handle
  rcases made_out (o := o) hb (by omega) with ⟨h0, h1⟩ | ⟨j, hj, e, ec, h0, h1⟩
  · rw [h1, Option.bind_some, if_neg n10, if_pos h0]
  · rw [h1, Option.bind_some, if_pos rfl, rd_ok e (show j < 51 by omega) (by decide), Option.bind_some, if_neg h0, ec]
    have := h.hd j (by omega)
    rw [show hk j = j from if_pos (by omega)] at this
    show some (r.handles j, r) = _
    rw [this]
theorem r_object {cd : Nat → Option DT} {mk : Nat} {td : Nat → TT} {r : RS} (hG : GI cd mk td) (h : RO mk td r) (o k : Int32) : m_object o k r = some (ga_object mk td o k, r) := by
  have hm := hG.mk12
  unfold m_object ga_object
  rcases made_out (o := o) h.ob (by omega) with ⟨h0, h1⟩ | ⟨j, hj, e, ec, h0, h1⟩
  · rw [h1, Option.bind_some, if_neg n10, if_pos h0]
  · obtain ⟨o1, o2, o3, o4, o5⟩ := h.o j hj
    rw [h1, Option.bind_some, if_pos rfl, if_neg h0, ec]
    by_cases k0 : k = 0
    · subst k0
      rw [m_out_0 (by decide) (by decide), Option.bind_some, if_pos rfl, if_pos rfl, rd_ok e (show j < 20 by omega) (by decide), Option.bind_some, if_pos rfl]
      show some (r.sort j, r) = _; rw [o1]
    by_cases k2 : k = 2
    · subst k2
      rw [m_out_0 (by decide) (by decide), Option.bind_some, if_pos rfl, if_neg (by decide), if_pos rfl, rd_ok e (show j < 20 by omega) (by decide), Option.bind_some]
      show some (r.size j, r) = some ((if tt_so (td j) = 1 then nI (tt_tx (td j)).length else nI (tt_n (td j))), r); rw [o5]
    by_cases k1 : k = 1
    · subst k1
      rw [m_out_0 (by decide) (by decide), Option.bind_some, if_pos rfl, if_neg (by decide), if_neg (by decide), rd_ok e (show j < 20 by omega) (by decide), Option.bind_some]
      show (if r.sort j = 0 then _ else _) = some (tt_ow (td j), r)
      by_cases s0 : tt_so (td j) = 0
      · rw [if_pos (o1.trans s0), rd_ok e (show j < 20 by omega) (by decide), Option.bind_some]
        show some (r.classOf j, r) = _; rw [o2 (Or.inl s0)]
      · rw [if_neg (fun z => s0 (o1.symm.trans z)), rd_ok e (show j < 20 by omega) (by decide), Option.bind_some]
        show (if r.sort j = 4 then _ else _) = _
        by_cases s4 : tt_so (td j) = 4
        · rw [if_pos (o1.trans s4), Option.bind_some]
          show some (r.classOf j, r) = _; rw [o2 (Or.inr s4)]
        · rw [if_neg (fun z => s4 (o1.symm.trans z)), hG.ow j hj (fun z => z.elim s0 s4)]
    · rw [if_neg k0, if_neg k1, if_neg k2, m_out_1, Option.bind_some, if_neg n10]
      by_cases z0 : k < 0
      · exact Or.inl z0
      · refine Or.inr (fun z3 => ?_)
        obtain ⟨i, hi, e3, -⟩ := ix_i (x := k) (n := 3) (by decide) z0 (Int32.not_le.mpr z3)
        rcases (show i = 0 ∨ i = 1 ∨ i = 2 by omega) with q | q | q <;> rw [q] at e3
        · exact k0 e3
        · exact k1 e3
        · exact k2 e3
theorem r_noInst {mk : Nat} {td : Nat → TT} {r : RS} (h : RO mk td r) (hm : mk ≤ 12) (o : Int32) : (ga_inst mk td o = 0 ∧ m_noInstance o r = some (1, r)) ∨ ∃ j, j < mk ∧ o = nI j ∧ o.toNatClampNeg = j ∧ tt_so (td j) = 0 ∧ ¬ ga_inst mk td o = 0 ∧ m_noInstance o r = some (0, r) := by
  unfold m_noInstance ga_inst
  rcases made_out (o := o) h.ob (by omega) with ⟨h0, h1⟩ | ⟨j, hj, e, ec, h0, h1⟩
  · exact Or.inl ⟨by rw [if_pos h0], by rw [h1, Option.bind_some, if_neg n10]⟩
  · obtain ⟨o1, -⟩ := h.o j hj
    rw [h1, Option.bind_some, if_pos rfl, rd_ok e (show j < 20 by omega) (by decide), Option.bind_some, if_neg h0, ec]
    show (_ ∧ (if r.sort j = 0 then _ else _) = _) ∨ ∃ i, i < mk ∧ o = nI i ∧ _ ∧ _ ∧ _ ∧ (if r.sort j = 0 then _ else _) = _
    by_cases s0 : tt_so (td j) = 0
    · refine Or.inr ⟨j, hj, e, rfl, s0, ?_, ?_⟩
      · rw [if_pos s0]; decide
      · rw [if_pos (o1.trans s0)]
    · exact Or.inl ⟨if_neg s0, if_neg (fun z => s0 (o1.symm.trans z))⟩
theorem r_extra {mk : Nat} {td : Nat → TT} {r : RS} (h : RO mk td r) (hm : mk ≤ 12) (o v : Int32) : ∃ g, m_extra o v r = some ((ga_extra mk td o v).1, r.s_extras g) ∧ RO mk (ga_extra mk td o v).2 (r.s_extras g) := by
  unfold m_extra ga_extra
  rcases r_noInst h hm o with ⟨h0, h1⟩ | ⟨j, hj, e, ec, s0, h0, h1⟩
  · refine ⟨r.extras, ?_, ?_⟩
    · rw [h1, Option.bind_some, if_neg n10, if_pos h0]
      show _ = some ((-1 : Int32), (va_up r.1 _ (r.1 _), r.2.1, r.2.2)); rw [va_up_id]
    · rw [if_pos h0]
      show RO mk td (va_up r.1 _ (r.1 _), r.2.1, r.2.2); rw [va_up_id]; exact h
  · refine ⟨upd r.extras j v, ?_, ?_⟩
    · rw [h1, Option.bind_some, if_pos rfl, wr_ok e (show j < 20 by omega) (by decide), Option.bind_some, if_neg h0]
    · rw [if_neg h0, ec]
      show RO mk (va_up td j (tt_sex (td j) v)) (r.s_extras (upd r.extras j v))
      refine ⟨h.ob, fun i hi => ?_, fun i q hi => ?_, fun i q hi => ?_, fun i hi => ?_⟩
      · show _ ∧ _ ∧ _ ∧ upd r.extras j v i = _ ∧ _
        by_cases hij : i = j
        · subst hij; rw [va_up_self, pk_us]
          obtain ⟨a, b, c, -, f⟩ := h.o i hi
          exact ⟨a, b, c, rfl, f⟩
        · rw [show va_up td j (tt_sex (td j) v) i = td i from va_up_ne _ _ hij, pk_un hij]; exact h.o i hi
      · by_cases hij : i = j
        · subst hij; rw [va_up_self]; exact h.va i q hi
        · rw [show va_up td j (tt_sex (td j) v) i = td i from va_up_ne _ _ hij]; exact h.va i q hi
      · by_cases hij : i = j
        · subst hij; rw [va_up_self]; exact h.tx i q hi
        · rw [show va_up td j (tt_sex (td j) v) i = td i from va_up_ne _ _ hij]; exact h.tx i q hi
      · by_cases hij : i = j
        · subst hij; rw [va_up_self]; exact h.nm i hi
        · rw [show va_up td j (tt_sex (td j) v) i = td i from va_up_ne _ _ hij]; exact h.nm i hi
theorem i_m1 {p : Int32} (h1 : p < 0) (h2 : ¬ p < -1) : p = -1 := by
  apply Int32.toInt_inj.mp
  have a := Int32.lt_iff_toInt_lt.mp h1
  have b := mt Int32.lt_iff_toInt_lt.mpr h2
  have e0 : (0 : Int32).toInt = 0 := by decide
  have e1 : (-1 : Int32).toInt = -1 := by decide
  rw [e0] at a; rw [e1] at b ⊢; omega
theorem RO.td {mk : Nat} {td td' : Nat → TT} {r r' : RS} (h : RO mk td r) (e : r'.objects = r.objects) (ho : ∀ i, i < mk → r'.sort i = r.sort i ∧ r'.classOf i = r.classOf i ∧ r'.size i = r.size i ∧ r'.nameOf i = r.nameOf i) (ht : ∀ i, i < mk → tt_so (td' i) = tt_so (td i) ∧ tt_ow (td' i) = tt_ow (td i) ∧ tt_n (td' i) = tt_n (td i) ∧ tt_tx (td' i) = tt_tx (td i) ∧ r'.standIn i = tt_rp (td' i) ∧ r'.extras i = tt_ex (td' i) ∧ (∀ q, ¬ tt_so (td i) = 1 → q < tt_n (td i) → r'.value (24 * i + q) = tt_va (td' i) q) ∧ ∀ q, tt_so (td i) = 1 → q < (tt_tx (td i)).length → r'.value (24 * i + q) = r.value (24 * i + q)) : RO mk td' r' := by
  refine ⟨e.trans h.ob, fun i hi => ?_, fun i q hi => ?_, fun i q hi => ?_, fun i hi => ?_⟩
  · obtain ⟨a, b, c, -, f⟩ := h.o i hi
    obtain ⟨p1, p2, p3, p4⟩ := ho i hi
    obtain ⟨t1, t2, t3, t4, t5, t6, -⟩ := ht i hi
    rw [t1, t2, t3, t4, p1, p2, p3]; exact ⟨a, b, t5, t6, f⟩
  · obtain ⟨t1, t2, t3, t4, t5, t6, t7, -⟩ := ht i hi
    rw [t1, t3]; exact t7 q
  · obtain ⟨t1, t2, t3, t4, t5, t6, t7, t8⟩ := ht i hi
    rw [t1, t4]; intro h1 h2; rw [t8 q h1 h2]; exact h.tx i q hi h1 h2
  · obtain ⟨t1, t2, t3, t4, -⟩ := ht i hi
    rw [t1, t4, (ho i hi).2.2.2]; exact h.nm i hi
theorem r_replace {mk : Nat} {td : Nat → TT} {r : RS} (h : RO mk td r) (hm : mk ≤ 12) (o p : Int32) : ∃ g, m_replace o p r = some ((ga_replace mk td o p).1, r.s_standIn g) ∧ RO mk (ga_replace mk td o p).2 (r.s_standIn g) := by
  have hid : r = r.s_standIn r.standIn := by
    show r = (va_up r.1 _ (r.1 _), r.2.1, r.2.2); rw [va_up_id]
  unfold m_replace ga_replace
  rcases r_noInst h hm o with ⟨h0, h1⟩ | ⟨j, hj, e, ec, s0, h0, h1⟩
  · refine ⟨r.standIn, ?_, ?_⟩
    · rw [h1, Option.bind_some, if_neg n10, if_pos (Or.inl h0), ← hid]
    · rw [if_pos (Or.inl h0), ← hid]; exact h
  rw [h1, Option.bind_some, if_pos rfl]
  by_cases hpo : p = o
  · refine ⟨r.standIn, ?_, ?_⟩
    · rw [if_pos (Or.inr hpo), ← hid]
      show (if p < -1 then _ else if r.objects ≤ p then _ else if p = o then _ else _) = _
      by_cases a : p < -1
      · rw [if_pos a]
      rw [if_neg a]
      by_cases b : r.objects ≤ p
      · rw [if_pos b]
      rw [if_neg b, if_pos hpo]
    · rw [if_pos (Or.inr hpo), ← hid]; exact h
  rw [if_neg (show ¬ (ga_inst mk td o = 0 ∨ p = o) from fun z => z.elim h0 hpo)]
  by_cases hb : ¬ p = -1 ∧ ga_made mk p = 0
  · refine ⟨r.standIn, ?_, ?_⟩
    · rw [if_pos hb, ← hid]
      show (if p < -1 then _ else if r.objects ≤ p then _ else _) = _
      by_cases a : p < -1
      · rw [if_pos a]
      rw [if_neg a]
      rcases ga_made_0 hb.2 with z | z
      · exact absurd (show p = -1 from i_m1 z a) hb.1
      · rw [if_pos (by rw [h.ob]; exact Int32.not_lt.mp z)]
    · rw [if_pos hb, ← hid]; exact h
  · refine ⟨upd r.standIn j p, ?_, ?_⟩
    · rw [if_neg hb]
      show (if p < -1 then _ else if r.objects ≤ p then _ else if p = o then _ else Option.bind (wr r.standIn 20 o p) _) = _
      have hp : ¬ p < -1 ∧ ¬ r.objects ≤ p := by
        by_cases z : p = -1
        · rw [z, h.ob]; exact ⟨by decide, fun z2 => absurd (Int32.le_trans (nI_pos' (n := mk) (by omega)) z2) (by decide)⟩
        · obtain ⟨i, hi, e2, -⟩ := ga_made_some (mk := mk) (o := p) (by omega) (fun z2 => hb ⟨z, z2⟩)
          rw [e2, h.ob]
          exact ⟨fun z2 => nI_pos (n := i) (by omega) (Int32.lt_trans z2 (by decide)), nI_ge hi (by omega)⟩
      rw [if_neg hp.1, if_neg hp.2, if_neg hpo, wr_ok e (show j < 20 by omega) (by decide), Option.bind_some]
    · rw [if_neg hb, ec]
      refine h.td rfl (fun i hi => ⟨rfl, rfl, rfl, rfl⟩) (fun i hi => ?_)
      show tt_so (va_up td j (tt_srp (td j) p) i) = _ ∧ tt_ow (va_up td j (tt_srp (td j) p) i) = _ ∧ tt_n (va_up td j (tt_srp (td j) p) i) = _ ∧ tt_tx (va_up td j (tt_srp (td j) p) i) = _ ∧ upd r.standIn j p i = tt_rp (va_up td j (tt_srp (td j) p) i) ∧ r.extras i = tt_ex (va_up td j (tt_srp (td j) p) i) ∧ (∀ q, _ → _ → r.value (24 * i + q) = tt_va (va_up td j (tt_srp (td j) p) i) q) ∧ ∀ q, _ → _ → r.value _ = r.value _
      obtain ⟨a, b, c, d, f⟩ := h.o i hi
      by_cases hij : i = j
      · subst hij; rw [va_up_self, pk_us]
        exact ⟨rfl, rfl, rfl, rfl, rfl, d, fun q => h.va i q hi, fun _ _ _ => rfl⟩
      · rw [va_up_ne _ _ hij, pk_un hij]
        exact ⟨rfl, rfl, rfl, rfl, c, d, fun q => h.va i q hi, fun _ _ _ => rfl⟩
