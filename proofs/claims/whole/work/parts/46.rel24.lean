/-! what is remembered, what waits -/
theorem rem_26 {K : Int32 → RS → Option RS} : ∀ (p n : Nat) (r : RS), p ≤ 51 → p < n → ∃ g, m_remember_26 K n (nI (51 - p)) r = K 51 (r.s_oldHandles g) ∧ (∀ i, i < 51 - p → g i = r.oldHandles i) ∧ ∀ i, 51 - p ≤ i → i < 51 → g i = r.handles i := by
  intro p
  induction p with
  | zero =>
    intro n r _ hn
    obtain ⟨n, rfl⟩ : ∃ m, n = m + 1 := ⟨n - 1, by omega⟩
    refine ⟨r.oldHandles, ?_, fun _ _ => rfl, fun i h1 h2 => by omega⟩
    rw [m_remember_26, if_pos (by decide)]
    show K 51 r = K 51 (va_up r.1 _ (r.1 _), r.2.1, r.2.2)
    rw [va_up_id]
  | succ p ih =>
    intro n r hp hn
    obtain ⟨n, rfl⟩ : ∃ m, n = m + 1 := ⟨n - 1, by omega⟩
    rw [m_remember_26, if_neg (show ¬ (51 : Int32) ≤ nI (51 - (p + 1)) from nI_ge (b := 51) (by omega) (by decide)), rd_ok rfl (show 51 - (p + 1) < 51 by omega) (by decide), Option.bind_some, wr_ok rfl (show 51 - (p + 1) < 51 by omega) (by decide), Option.bind_some, nI_1, show 51 - (p + 1) + 1 = 51 - p by omega]
    obtain ⟨g, a, b, c⟩ := ih n (r.s_oldHandles (upd r.oldHandles (51 - (p + 1)) (r.handles (51 - (p + 1))))) (by omega) (by omega)
    refine ⟨g, ?_, fun i hi => ?_, fun i h1 h2 => ?_⟩
    · rw [a]
      show K 51 (va_up (va_up r.1 _ _) _ g, r.2.1, r.2.2) = _
      rw [va_up_2]
    · rw [b i (by omega)]; exact pk_un (by omega)
    · by_cases hi : i = 51 - (p + 1)
      · rw [b i (by omega), hi]; exact pk_us
      · exact c i (by omega) h2
abbrev rmb (r : RS) (g : Nat → Int32) : RS := (((r.s_oldLength r.length).s_oldWaits r.waits).s_oldGiven r.given).s_oldHandles g
theorem r_remember (r : RS) : ∃ g, m_remember r = some (rmb r g) ∧ ∀ i, i < 51 → g i = r.handles i := by
  obtain ⟨g, a, -, c⟩ := rem_26 (K := fun z1_7 r_15 => some r_15) 51 60 (((r.s_oldLength r.length).s_oldWaits r.waits).s_oldGiven r.given) (by decide) (by decide)
  rw [show nI (51 - 51) = 0 from rfl] at a
  exact ⟨g, a, fun i hi => c i (by omega) hi⟩
theorem tl_43 {K : Int32 → RS → Option (Int32 × RS)} : ∀ (p n : Nat) (r : RS), p ≤ 51 → p < n → ∃ g, m_tooLong_43 K n (nI (51 - p)) r = K 51 (r.s_handles g) ∧ (∀ i, i < 51 - p → g i = r.handles i) ∧ ∀ i, 51 - p ≤ i → i < 51 → g i = r.oldHandles i := by
  intro p
  induction p with
  | zero =>
    intro n r _ hn
    obtain ⟨n, rfl⟩ : ∃ m, n = m + 1 := ⟨n - 1, by omega⟩
    refine ⟨r.handles, ?_, fun _ _ => rfl, fun i h1 h2 => by omega⟩
    rw [m_tooLong_43, if_pos (by decide)]
    show K 51 r = K 51 (va_up r.1 _ (r.1 _), r.2.1, r.2.2)
    rw [va_up_id]
  | succ p ih =>
    intro n r hp hn
    obtain ⟨n, rfl⟩ : ∃ m, n = m + 1 := ⟨n - 1, by omega⟩
    rw [m_tooLong_43, if_neg (show ¬ (51 : Int32) ≤ nI (51 - (p + 1)) from nI_ge (b := 51) (by omega) (by decide)), rd_ok rfl (show 51 - (p + 1) < 51 by omega) (by decide), Option.bind_some, wr_ok rfl (show 51 - (p + 1) < 51 by omega) (by decide), Option.bind_some, nI_1, show 51 - (p + 1) + 1 = 51 - p by omega]
    obtain ⟨g, a, b, c⟩ := ih n (r.s_handles (upd r.handles (51 - (p + 1)) (r.oldHandles (51 - (p + 1))))) (by omega) (by omega)
    refine ⟨g, ?_, fun i hi => ?_, fun i h1 h2 => ?_⟩
    · rw [a]
      show K 51 (va_up (va_up r.1 _ _) _ g, r.2.1, r.2.2) = _
      rw [va_up_2]
    · rw [b i (by omega)]; exact pk_un (by omega)
    · by_cases hi : i = 51 - (p + 1)
      · rw [b i (by omega), hi]; exact pk_us
      · exact c i (by omega) h2
abbrev bck (r : RS) (g : Nat → Int32) : RS := (((r.s_length r.oldLength).s_waits r.oldWaits).s_given r.oldGiven).s_handles g
theorem r_tooLong1 {r : RS} {L : Nat} (hL : r.length = nI L) (h1 : 1400 < L) (h2 : L ≤ 1650) (hw : r.waits = 0) : ∃ g, m_tooLong r = some (1, bck r g) ∧ ∀ i, i < 51 → g i = r.oldHandles i := by
  obtain ⟨g, a, -, c⟩ := tl_43 (K := fun z1_8 r_16 => some (1, r_16)) 51 60 (((r.s_length r.oldLength).s_waits r.oldWaits).s_given r.oldGiven) (by decide) (by decide)
  rw [show nI (51 - 51) = 0 from rfl] at a
  refine ⟨g, ?_, fun i hi => c i (by omega) hi⟩
  unfold m_tooLong
  rw [if_pos (by rw [hL, hw, Int32.add_zero]; exact nI_lt (a := 1400) h1 (by omega))]
  exact a
theorem r_tooLong0 {r : RS} {L : Nat} (hL : r.length = nI L) (h1 : L ≤ 1400) (hw : r.waits = 0) : m_tooLong r = some (0, r) := by
  unfold m_tooLong
  rw [if_neg (by rw [hL, hw, Int32.add_zero]; exact nI_nlt h1 (by decide))]
/-- what waits -/
abbrev RW (q : List Int32) (r : RS) : Prop :=
  (r.waits = nI q.length) ∧
  (∀ i, i < q.length → r.waiting i = q.getD i 0 &&& 255) ∧
  (q.length ≤ 255)
theorem RW.wn {q : List Int32} {r : RS} (h : RW q r) : r.waits = nI q.length := h.1
theorem RW.wt {q : List Int32} {r : RS} (h : RW q r) : ∀ i, i < q.length → r.waiting i = q.getD i 0 &&& 255 := h.2.1
theorem RW.q5 {q : List Int32} {r : RS} (h : RW q r) : q.length ≤ 255 := h.2.2
theorem by_low (b : Int32) : es_bytes (b &&& 255).toInt64 1 = es_bytes b.toInt64 1 := by
  show [es_by (b &&& 255).toInt64 1 0] = [es_by b.toInt64 1 0]
  congr 1
  unfold es_by
  have hs : ((nI (8 * (1 - 1 - 0))).toInt64.toUInt64 &&& Int64.toUInt64 63) = 0 := by decide +kernel
  rw [hs]
  have h0 : ∀ v : UInt64, v >>> 0 = v := fun v => by
    apply UInt64.toNat_inj.mp
    rw [UInt64.toNat_shiftRight]; simp
  rw [h0, h0]
  have h1 : ∀ v : Int64, v.toUInt64.toInt64 = v := fun v => rfl
  rw [h1, h1, Int32.toInt32_toInt64, Int32.toInt32_toInt64]
  apply Int32.toBitVec_inj.mp
  apply BitVec.eq_of_getLsbD_eq
  intro i hi
  simp only [Int8.toBitVec_toInt32, Int32.toBitVec_toInt8, Int32.toBitVec_and]
  have key : ∀ j, j < 8 → (BitVec.signExtend 8 (b.toBitVec &&& (255 : Int32).toBitVec)).getLsbD j = (BitVec.signExtend 8 b.toBitVec).getLsbD j := by
    intro j hj
    have h255 : ∀ j, j < 8 → (255 : Int32).toBitVec.getLsbD j = true := by decide +kernel
    rw [BitVec.getLsbD_signExtend, BitVec.getLsbD_signExtend, BitVec.getLsbD_and, h255 j hj, Bool.and_true]
    have a1 : j < 32 := by omega
    simp [a1]
  have e : BitVec.signExtend 8 (b.toBitVec &&& (255 : Int32).toBitVec) = BitVec.signExtend 8 b.toBitVec := BitVec.eq_of_getLsbD_eq (fun j hj => key j hj)
  rw [e]
def Pw (cd : Nat → Option DT) (mk : Nat) (td : Nat → TT) (q : List Int32) (r : RS) : Prop := Pq cd mk td r ∧ RW q r
theorem stabW (cd : Nat → Option DT) (mk : Nat) (td : Nat → TT) (q : List Int32) : stab (False, Pw cd mk td q) := fun r r' k h => by
  obtain ⟨w1, w2, -⟩ := k.1.w0
  exact ⟨⟨k.1.rc h.1.1, k.1.ro h.1.2⟩, by rw [w2]; exact h.2.wn, by rw [w1]; exact h.2.wt, h.2.q5⟩
theorem EmC.put1 (b : Int32) : EmC (fun x => es_put x b.toInt64 1) (es_bytes (b &&& 255).toInt64 1) := by rw [by_low]; exact EmC.put _ _
def fl_l : Nat → Int32 → RS → Option RS
  | 0, _, _ => none
  | n + 1, a, r => if r.waits ≤ a then some r else Option.bind (rd r.waiting 256 a) (fun v => Option.bind (m_append v.toInt64 1 r) (fun y => fl_l n (a + 1) y))
theorem fl_1 : ∀ (n : Nat) (a : Int32) (r : RS), m_flush_28 (fun z1_12 r_21 => some (RS.s_waits r_21 0)) n a r = Option.bind (fl_l n a r) (fun y => some (y.s_waits 0)) := by
  intro n
  induction n with
  | zero => intro a r; rfl
  | succ n ih =>
    intro a r
    rw [m_flush_28, fl_l]
    by_cases h : r.waits ≤ a
    · rw [if_pos h, if_pos h]; rfl
    · rw [if_neg h, if_neg h, ob_as]
      refine congrArg _ (funext fun v => ?_)
      rw [ob_as]
      refine congrArg _ (funext fun y => ?_)
      exact ih _ _
theorem sim_fll {cd : Nat → Option DT} {mk : Nat} {td : Nat → TT} {q : List Int32} (s : Nat) : ∀ (t : List Int32) (p n : Nat), p + t.length = q.length → (∀ i, i < t.length → q.getD (p + i) 0 = t.getD i 0) → t.length < n → Sim (False, Pw cd mk td q) s s (fun x => t.foldl (fun x c => es_put x c.toInt64 1) x) (fun r => fl_l n (nI p) r) := by
  have hP := stabW cd mk td q
  intro t
  induction t with
  | nil =>
    intro p n hp _ hn
    obtain ⟨n, rfl⟩ : ∃ m, n = m + 1 := ⟨n - 1, by omega⟩
    refine (Sim.id _ s).congr (fun x => rfl) (fun r hr => ?_)
    show fl_l (n + 1) (nI p) r = some r
    rw [fl_l, if_pos (by rw [hr.2.wn, ← hp]; exact Int32.le_refl _)]
  | cons c t ih =>
    intro p n hp hi hn
    obtain ⟨n, rfl⟩ : ∃ m, n = m + 1 := ⟨n - 1, by have := List.length_cons (a := c) (as := t); omega⟩
    rw [List.length_cons] at hp hn
    have k1 := ih (p + 1) n (by omega) (fun i h => by
      have := hi (i + 1) (by rw [List.length_cons]; omega)
      rw [show p + 1 + i = p + (i + 1) by omega, this]; rfl) (by omega)
    have k2 := em1 hP s (EmC.put1 c) (a9 (c &&& 255).toInt64 (w := 1) (w9 := 1) (by decide) rfl) rfl (by omega) k1
    refine k2.congr (fun x => rfl) (fun r hr => ?_)
    show fl_l (n + 1) (nI p) r = _
    have hc := hi 0 (by rw [List.length_cons]; omega)
    rw [Nat.add_zero] at hc
    have h5 := hr.2.q5
    rw [fl_l, if_neg (by rw [hr.2.wn]; exact nI_ge (by omega) (by omega)), rd_ok rfl (show p < 256 by omega) (by decide), Option.bind_some, hr.2.wt p (by omega), hc, nI_1]; rfl
theorem r_flush {cd : Nat → Option DT} {mk : Nat} {td : Nat → TT} {q : List Int32} {x : ES} {r : RS} (hq : Pq cd mk td r) (hW : RW q r) (hE : SE x r) : ∃ r', m_flush r = some (r'.s_waits 0) ∧ KP r r' ∧ SE (es_flush x q) r' := by
  have hP := stabW cd mk td q
  unfold m_flush es_flush
  by_cases h0 : q = []
  · have e0 : r.waits = 0 := by rw [hW.wn, h0]; rfl
    rw [if_pos e0, if_pos h0]
    refine ⟨r, ?_, KP.rfl9 r, hE⟩
    show some r = some (r.1, r.2.1, va_up r.2.2 _ 0)
    have : va_up r.2.2 19 0 = r.2.2 := by
      have e1 : r.2.2 19 = 0 := e0
      rw [← e1]; exact va_up_id _ _
    exact congrArg some (by show r = (r.1, r.2.1, va_up r.2.2 19 0); rw [this])
  · have hl : 0 < q.length := List.length_pos_iff.mpr h0
    have h5 := hW.q5
    rw [if_neg (by rw [hW.wn]; exact fun z => absurd ((nI_eq (b := 0) (by omega) (by decide)).mp z) (by omega)), if_neg h0]
    have k1 := sim_fll (cd := cd) (mk := mk) (td := td) (q := q) 0 q 0 300 (by omega) (fun i _ => by rw [Nat.zero_add]) (by omega)
    have k2 := ap1 hP 0 (nI q.length).toInt64 1 (w9 := 1) (by decide) rfl (by omega) k1
    have k3 := ap1 hP 0 119 1 (w9 := 1) (by decide) rfl (by omega) k2
    obtain ⟨r', a, b, c⟩ := k3.st ⟨hq, hW⟩ hE
    refine ⟨r', ?_, b.1, c⟩
    have key : Option.bind (m_append 119 1 r) (fun y_3 => Option.bind (m_append y_3.waits.toInt64 1 y_3) (fun y_8 => m_flush_28 (fun z1_12 r_21 => some (RS.s_waits r_21 0)) 300 0 y_8)) = Option.bind (Option.bind (m_append 119 1 r) (fun y => Option.bind (m_append (nI q.length).toInt64 1 y) (fun y => fl_l 300 (nI 0) y))) (fun y => some (y.s_waits 0)) := by
      rw [ob_as]
      -- the number of waiting bytes is what it was
      have hL : ∃ L, r.length = nI L ∧ L ≤ 1650 := by
        rcases hE with hE | ⟨-, L, h1, h2, h3⟩
        · exact ⟨_, hE.ln, by have := hE.le; omega⟩
        · exact ⟨L, h3, h2⟩
      obtain ⟨L, l1, l2⟩ := hL
      obtain ⟨s', e1, -⟩ := app_ok (r := r) 119 (w := 1) (by decide) l1 l2
      have e1' : m_append 119 1 r = some ((r.s_stream s').s_length (nI (min (L + 1) 1650))) := e1
      rw [e1', Option.bind_some, Option.bind_some]
      have ew : RS.waits ((r.s_stream s').s_length (nI (min (L + 1) 1650))) = nI q.length := hW.wn
      rw [ew, ob_as]
      refine congrArg _ (funext fun y => ?_)
      exact fl_1 _ _ _
    rw [key]
    have a2 : Option.bind (m_append 119 1 r) (fun y => Option.bind (m_append (nI q.length).toInt64 1 y) (fun y => fl_l 300 (nI 0) y)) = some r' := a
    rw [a2, Option.bind_some]
