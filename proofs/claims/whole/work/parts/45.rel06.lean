/-! define -/
theorem nar1 : vp_nar .boolean 1 = 1 := by decide +kernel
theorem nar0 : vp_nar .boolean 0 = 0 := by decide +kernel
/-- what a class's change leaves of the rest -/
abbrev RJ (r r' : RS) : Prop :=
  (r'.objects = r.objects ∧ r'.sort = r.sort ∧ r'.classOf = r.classOf ∧ r'.nameOf = r.nameOf ∧ r'.size = r.size ∧ r'.value = r.value ∧ r'.standIn = r.standIn ∧ r'.extras = r.extras) ∧
  (r'.stream = r.stream ∧ r'.length = r.length ∧ r'.waiting = r.waiting ∧ r'.waits = r.waits ∧ r'.handles = r.handles ∧ r'.given = r.given)
theorem RJ.o0 {r r' : RS} (h : RJ r r') : r'.objects = r.objects ∧ r'.sort = r.sort ∧ r'.classOf = r.classOf ∧ r'.nameOf = r.nameOf ∧ r'.size = r.size ∧ r'.value = r.value ∧ r'.standIn = r.standIn ∧ r'.extras = r.extras := h.1
theorem RJ.c1 {r r' : RS} (h : RJ r r') : r'.stream = r.stream ∧ r'.length = r.length ∧ r'.waiting = r.waiting ∧ r'.waits = r.waits ∧ r'.handles = r.handles ∧ r'.given = r.given := h.2
theorem RJ.rfl9 (r : RS) : RJ r r := ⟨⟨rfl, rfl, rfl, rfl, rfl, rfl, rfl, rfl⟩, ⟨rfl, rfl, rfl, rfl, rfl, rfl⟩⟩
theorem RO.keep {mk : Nat} {td : Nat → TT} {r r' : RS} (h : RO mk td r) (k : RJ r r') : RO mk td r' := by
  obtain ⟨⟨a1, a2, a3, a4, a5, a6, a7, a8⟩, -⟩ := k
  refine ⟨?_, ?_, ?_, ?_, ?_⟩
  · rw [a1]; exact h.ob
  · rw [a2, a3, a7, a8, a5]; exact h.o
  · rw [a6]; exact h.va
  · rw [a6]; exact h.tx
  · rw [a4]; exact h.nm
theorem RT.keep2 {bs q : List Int32} {r r' : RS} (h : RT bs q r) (k : RJ r r') : RT bs q r' := by
  obtain ⟨-, ⟨a1, a2, a3, a4, a5, a6⟩⟩ := k
  refine ⟨?_, ?_, ?_, ?_⟩
  · rw [a2]; exact h.ln
  · rw [a1]; exact h.st
  · rw [a4]; exact h.wn
  · rw [a3]; exact h.wt
theorem RH.keep2 {la : Nat → Int32} {gv : Int32} {r r' : RS} (h : RH la gv r) (k : RJ r r') : RH la gv r' := by
  obtain ⟨-, ⟨a1, a2, a3, a4, a5, a6⟩⟩ := k
  refine ⟨?_, ?_⟩
  · rw [a5]; exact h.hd
  · rw [a6]; exact h.gv
theorem RC.new {cd : Nat → Option DT} {r : RS} (hD : GD cd) (h : RC cd r) {j : Nat} (hj : j < 6) (hno : cd j = none) (kd sp : Int32) (id : Int64) (hsp : sp = -1 ∨ ∃ p dp, p < 6 ∧ sp = nI p ∧ sp.toNatClampNeg = p ∧ cd p = some dp) : RC (va_up cd j (some (ga_kls cd j kd sp id))) ((((r.s_defined (upd r.defined j (vp_nar .boolean 1))).s_kind (upd r.kind j kd)).s_above (upd r.above j sp)).s_id (vp_updL r.id j id)) := by
  refine ⟨fun k hk hn => ?_, fun k d hk => ?_, fun k d f hk hf => ?_⟩
  · have hkj : ¬ k = j := fun z => by rw [z, va_up_self] at hn; exact absurd hn (by simp)
    rw [va_up_ne _ _ hkj] at hn
    obtain ⟨a, b⟩ := h.no k hk hn
    exact ⟨(pk_un hkj).trans a, b⟩
  · rcases va_up_cases hk with ⟨rfl, rfl⟩ | ⟨hkj, hk⟩
    · refine ⟨pk_us.trans nar1, pk_us, fun z => if_pos z, fun z => ?_, ?_, ?_⟩
      · show vp_updL r.id k id k = (if kd = 3 then 0 else id)
        have z2 : ¬ kd = 3 := z
        rw [uL_s, if_neg z2]
      · show r.fields k = nI 0
        rw [(h.no k hj hno).2]; rfl
      · show upd r.above k sp k = (if ga_chn cd sp = 1 then -1 else ga_chf cd k sp (ga_chn cd sp - 2))
        rw [pk_us]
        rcases hsp with e | ⟨p, dp, hp, e, ec, hdp⟩
        · rw [if_pos (show ga_chn cd sp = 1 from if_pos e)]; exact e
        · obtain ⟨c1, c2, -⟩ := hD.ch p dp hdp
          have hn1 : ¬ sp = -1 := by rw [e]; exact nI_ne1 (by omega)
          have e1 : ga_chn cd sp = dd_cn dp + 1 := by unfold ga_chn; rw [if_neg hn1, ec, hdp]
          have e2 : ga_chf cd k sp = upd (va_cpy (dd_cf dp) (fun _ => 0) 0 0 (dd_cn dp)) (dd_cn dp) (nI k) := by unfold ga_chf; rw [if_neg hn1, ec, hdp]
          rw [e1, if_neg (by omega), e2, pk_un (by omega), cpy_lo _ _ _ _ (by omega), show dd_cn dp + 1 - 2 = dd_cn dp - 1 by omega, c2, e]
    · obtain ⟨a1, a2, a3, a4, a5, a6⟩ := h.so k d hk
      exact ⟨(pk_un hkj).trans a1, (pk_un hkj).trans a2, a3, fun z => (uL_n hkj).trans (a4 z), a5, (pk_un hkj).trans a6⟩
  · rcases va_up_cases hk with ⟨rfl, rfl⟩ | ⟨hkj, hk⟩
    · exact absurd (show f < 0 from hf) (Nat.not_lt_zero _)
    · exact h.fi k d f hk hf
theorem i_le4 {x : Int32} (h : x < 5) : x ≤ 4 := by
  rw [Int32.le_iff_toInt_le]
  have a := Int32.lt_iff_toInt_lt.mp h
  have e5 : (5 : Int32).toInt = 5 := by decide
  have e4 : (4 : Int32).toInt = 4 := by decide
  rw [e5] at a; rw [e4]; omega
theorem r_define {cd : Nat → Option DT} {r : RS} (hD : GD cd) (h : RC cd r) (k kd sp : Int32) (id : Int64) : ∃ r', m_define k kd sp id r = some ((ga_define cd k kd sp id).1, r') ∧ RC (ga_define cd k kd sp id).2 r' ∧ RJ r r' := by
  unfold m_define ga_define
  by_cases hk : k < 0 ∨ ¬ k < 6
  · rw [m_out_1 hk, Option.bind_some, if_neg n10, if_pos (show k < 0 ∨ 6 ≤ k from hk.imp (fun z => z) (fun z => Int32.not_lt.mp z))]
    exact ⟨r, rfl, h, RJ.rfl9 r⟩
  have hk0 : ¬ k < 0 := fun z => hk (Or.inl z)
  have hk6 : k < 6 := by
    by_cases z : k < 6
    · exact z
    · exact absurd (Or.inr z) hk
  obtain ⟨j, hj, e, ec⟩ := ix_i (x := k) (n := 6) (by decide) hk0 (Int32.not_le.mpr hk6)
  rw [m_out_0 hk0 hk6, Option.bind_some, if_pos rfl, if_neg (show ¬ (k < 0 ∨ 6 ≤ k) from fun z => z.elim hk0 (fun z => Int32.not_le.mpr hk6 z)), ec]
  -- a class that is there is refused, whatever the rest
  rcases hc : cd j with _ | d
  · -- no class yet
    simp only []
    obtain ⟨n1, n2⟩ := h.no j hj hc
    by_cases hkd : kd < 0 ∨ ¬ kd < 5
    · have : kd < 0 ∨ ¬ kd ≤ 4 := hkd.imp (fun z => z) (fun z z2 => z (Int32.lt_of_le_of_lt z2 (by decide)))
      rw [m_out_1 hkd, Option.bind_some, if_neg n10, if_pos this]
      exact ⟨r, rfl, h, RJ.rfl9 r⟩
    have hd0 : ¬ kd < 0 := fun z => hkd (Or.inl z)
    have hd5 : kd < 5 := by
      by_cases z : kd < 5
      · exact z
      · exact absurd (Or.inr z) hkd
    have hd4 : ¬ (kd < 0 ∨ ¬ kd ≤ 4) := fun z => z.elim hd0 (fun z => z (i_le4 hd5))
    rw [m_out_0 hd0 hd5, Option.bind_some, if_pos rfl, if_neg hd4]
    by_cases s1 : sp < -1
    · have hne : ¬ sp = -1 := fun z => absurd s1 (by rw [z]; decide)
      have hab : ga_above cd sp kd = 0 := by
        unfold ga_above ga_isdef
        rw [if_pos (show (if sp < 0 then (0 : Int32) else _) = 0 from if_pos (Int32.lt_trans s1 (by decide)))]
      rw [if_pos s1, if_pos ⟨hne, hab⟩]
      exact ⟨r, rfl, h, RJ.rfl9 r⟩
    rw [if_neg s1]
    by_cases s0 : sp < 0
    · have e1 : sp = -1 := i_m1 s0 s1
      rw [if_pos s0, rd_ok e hj (by decide), Option.bind_some]
      show ∃ r', (if r.defined j = 0 then _ else _) = _ ∧ _
      rw [if_pos n1, if_pos s0, wrz_ok e hj (by decide), Option.bind_some, wr_ok e hj (by decide), Option.bind_some, wr_ok e hj (by decide), Option.bind_some, wrl_ok e hj (by decide), Option.bind_some, if_neg (show ¬ (¬ sp = -1 ∧ ga_above cd sp kd = 0) from fun z => z.1 e1)]
      exact ⟨_, rfl, RC.new hD h hj hc kd sp id (Or.inl e1), ⟨rfl, rfl, rfl, rfl, rfl, rfl, rfl, rfl⟩, ⟨rfl, rfl, rfl, rfl, rfl, rfl⟩⟩
    rw [if_neg s0]
    have hne : ¬ sp = -1 := fun z => s0 (by rw [z]; decide)
    by_cases hi : ga_isdef cd sp = 0
    · have hab : ga_above cd sp kd = 0 := by unfold ga_above; rw [if_pos hi]
      rw [m_noClass_1 h hi, Option.bind_some, if_neg n10, if_pos ⟨hne, hab⟩]
      exact ⟨r, rfl, h, RJ.rfl9 r⟩
    obtain ⟨p, dp, hp, ep, epc, hdp⟩ := ga_isdef_some hi
    obtain ⟨-, q2, -⟩ := h.so p dp hdp
    rw [m_noClass_0 h hi, Option.bind_some, if_pos rfl, rd_ok e hj (by decide), Option.bind_some]
    show ∃ r', (if r.defined j = 0 then _ else _) = _ ∧ _
    rw [if_pos n1, if_neg s0]
    have hab : ga_above cd sp kd = (if 2 < dd_kd dp then 0 else if 2 < kd then 0 else if kd = 0 then (if dd_kd dp = 0 then 1 else 0) else 1) := by
      unfold ga_above; rw [if_neg hi, epc, hdp]
    by_cases t1 : 2 < kd
    · have : ga_above cd sp kd = 0 := by
        rw [hab]
        by_cases z : 2 < dd_kd dp
        · rw [if_pos z]
        · rw [if_neg z, if_pos t1]
      rw [if_pos t1, if_pos ⟨hne, this⟩]
      exact ⟨r, rfl, h, RJ.rfl9 r⟩
    rw [if_neg t1, rd_ok ep hp (by decide), Option.bind_some]
    show ∃ r', (if 2 < r.kind p then _ else if kd = 0 then Option.bind (some (r.kind p)) _ else _) = _ ∧ _
    rw [q2]
    by_cases t2 : 2 < dd_kd dp
    · have : ga_above cd sp kd = 0 := by rw [hab, if_pos t2]
      rw [if_pos t2, if_pos ⟨hne, this⟩]
      exact ⟨r, rfl, h, RJ.rfl9 r⟩
    rw [if_neg t2]
    rw [if_neg t2, if_neg t1] at hab
    by_cases t3 : kd = 0
    · rw [if_pos t3, Option.bind_some]
      rw [if_pos t3] at hab
      by_cases t4 : dd_kd dp = 0
      · rw [if_pos t4] at hab
        rw [if_pos t4, wrz_ok e hj (by decide), Option.bind_some, wr_ok e hj (by decide), Option.bind_some, wr_ok e hj (by decide), Option.bind_some, wrl_ok e hj (by decide), Option.bind_some, if_neg (show ¬ (¬ sp = -1 ∧ ga_above cd sp kd = 0) from fun z => n10 (hab.symm.trans z.2))]
        exact ⟨_, rfl, RC.new hD h hj hc kd sp id (Or.inr ⟨p, dp, hp, ep, epc, hdp⟩), ⟨rfl, rfl, rfl, rfl, rfl, rfl, rfl, rfl⟩, ⟨rfl, rfl, rfl, rfl, rfl, rfl⟩⟩
      · rw [if_neg t4] at hab
        rw [if_neg t4, if_pos ⟨hne, hab⟩]
        exact ⟨r, rfl, h, RJ.rfl9 r⟩
    · rw [if_neg t3] at hab
      rw [if_neg t3, wrz_ok e hj (by decide), Option.bind_some, wr_ok e hj (by decide), Option.bind_some, wr_ok e hj (by decide), Option.bind_some, wrl_ok e hj (by decide), Option.bind_some, if_neg (show ¬ (¬ sp = -1 ∧ ga_above cd sp kd = 0) from fun z => n10 (hab.symm.trans z.2))]
      exact ⟨_, rfl, RC.new hD h hj hc kd sp id (Or.inr ⟨p, dp, hp, ep, epc, hdp⟩), ⟨rfl, rfl, rfl, rfl, rfl, rfl, rfl, rfl⟩, ⟨rfl, rfl, rfl, rfl, rfl, rfl⟩⟩
  · simp only []
    obtain ⟨a1, -⟩ := h.so j d hc
    have hd1 : ¬ r.defined j = 0 := by rw [a1]; decide
    refine ⟨r, ?_, h, RJ.rfl9 r⟩
    by_cases hkd : kd < 0 ∨ ¬ kd < 5
    · rw [m_out_1 hkd, Option.bind_some, if_neg n10]
    have hd0 : ¬ kd < 0 := fun z => hkd (Or.inl z)
    have hd5 : kd < 5 := by
      by_cases z : kd < 5
      · exact z
      · exact absurd (Or.inr z) hkd
    rw [m_out_0 hd0 hd5, Option.bind_some, if_pos rfl]
    by_cases s1 : sp < -1
    · rw [if_pos s1]
    rw [if_neg s1]
    by_cases s0 : sp < 0
    · rw [if_pos s0, rd_ok e hj (by decide), Option.bind_some]
      show (if r.defined j = 0 then _ else _) = _
      rw [if_neg hd1]
    rw [if_neg s0]
    by_cases hi : ga_isdef cd sp = 0
    · rw [m_noClass_1 h hi, Option.bind_some, if_neg n10]
    rw [m_noClass_0 h hi, Option.bind_some, if_pos rfl, rd_ok e hj (by decide), Option.bind_some]
    show (if r.defined j = 0 then _ else _) = _
    rw [if_neg hd1]
