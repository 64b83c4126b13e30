/-! the start; what the calls leave -/
theorem EX.cg {s : Nat} {x : ES} {r r' : RS} (h : EX s x r) (c : r'.stream = r.stream ∧ r'.length = r.length ∧ r'.waiting = r.waiting ∧ r'.waits = r.waits ∧ r'.handles = r.handles ∧ r'.given = r.given) : EX s x r' := by
  obtain ⟨a1, a2, a3, a4, a5, a6⟩ := c
  refine ⟨h.oc, h.le, ?_, ?_, ⟨?_, ?_⟩, h.hn, h.la⟩
  · rw [a2]; exact h.ln
  · rw [a1]; exact h.st
  · rw [a5]; exact h.rh.hd
  · rw [a6]; exact h.rh.gv
theorem RX.cg {x : ES} {q : List Int32} {r r' : RS} (h : RX x q r) (c : r'.stream = r.stream ∧ r'.length = r.length ∧ r'.waiting = r.waiting ∧ r'.waits = r.waits ∧ r'.handles = r.handles ∧ r'.given = r.given) : RX x q r' := by
  refine ⟨h.ex.cg c, ⟨?_, ?_, h.rw.q5⟩, h.q5⟩
  · rw [c.2.2.2.1]; exact h.rw.wn
  · rw [c.2.2.1]; exact h.rw.wt
theorem in_by : es_bytes 44269 2 ++ es_bytes 5 2 = es_bytes 2901213189 4 := by decide +kernel
theorem in_x : es_put (es_forget es_z) 2901213189 4 = (es_bytes 2901213189 4, 0, (fun j => if j < 35 then -1 else 0), 0) := by
  unfold es_put
  rw [if_pos (show (es_forget es_z).2.1 = 0 from rfl), if_neg (show ¬ 1400 < (es_forget es_z).1.length + 4 by decide)]; rfl
theorem r_init : ∃ r, m_init0 = some r ∧ RC (fun _ => none) r ∧ (∀ td, RO 0 td r) ∧ RX (es_put (es_forget es_z) 2901213189 4) [] r := by
  obtain ⟨s', e, -, e2⟩ := (EmR.seq (EmR.app 44269 (w := 2) (by decide)) (EmR.app 5 (w := 2) (by decide))) r_z 0 rfl (by decide)
  rw [in_by] at e e2
  obtain ⟨r1, hr1⟩ : ∃ r1, r1 = ((r_z.s_stream s').s_length (nI (min (0 + (es_bytes 2901213189 4).length) 1650))) := ⟨_, rfl⟩
  rw [← hr1] at e
  obtain ⟨g, n1, n2⟩ := r_noHandles r1
  have hl : (es_bytes 2901213189 4).length = 4 := by decide +kernel
  refine ⟨(r1.s_handles g).s_given 0, ?_, ?_, fun td => ?_, ?_⟩
  · show Option.bind (m_append 44269 (nI 2) r_z) (fun y => Option.bind (m_append 5 (nI 2) y) (fun z => m_noHandles z)) = _
    have e' : Option.bind (m_append 44269 (nI 2) r_z) (m_append 5 (nI 2)) = some r1 := e
    rw [← ob_as, e', Option.bind_some]; exact n1
  · rw [hr1]
    exact ⟨fun k _ _ => ⟨rfl, rfl⟩, fun k d h => (nomatch h), fun k d f h => (nomatch h)⟩
  · rw [hr1]
    exact ⟨rfl, fun i hi => absurd hi (Nat.not_lt_zero _), fun i q hi => absurd hi (Nat.not_lt_zero _), fun i q hi => absurd hi (Nat.not_lt_zero _), fun i hi => absurd hi (Nat.not_lt_zero _)⟩
  · rw [in_x]
    refine ⟨⟨rfl, by rw [hl]; decide, ?_, fun i hi => ?_, ⟨fun k hk9 => ?_, rfl⟩, ⟨0, rfl, Nat.zero_le _⟩, fun k hk9 => Or.inl (if_pos hk9)⟩, RW.nil (by rw [hr1]; rfl), by decide⟩
    · rw [hr1]; show nI (min (0 + (es_bytes 2901213189 4).length) 1650) = nI (es_bytes 2901213189 4).length
      rw [hl]; rfl
    · have hi' : i < (es_bytes 2901213189 4).length := hi
      have := e2 i hi' (by rw [hl] at hi'; omega)
      rw [Nat.zero_add] at this
      rw [hr1]; exact this
    · show g (hk k) = (if k < 35 then -1 else 0)
      rw [if_pos hk9]; exact n2 _ (hk_lt k hk9)
