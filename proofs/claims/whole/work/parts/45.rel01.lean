theorem va_up_id {α : Type} (f : Nat → α) (k : Nat) : va_up f k (f k) = f := by
  funext j
  by_cases h : j = k
  · rw [h, va_up_self]
  · rw [va_up_ne _ _ h]
theorem va_up_2 {α : Type} (f : Nat → α) (k : Nat) (a b : α) : va_up (va_up f k a) k b = va_up f k b := by
  funext j
  by_cases h : j = k
  · rw [h, va_up_self, va_up_self]
  · rw [va_up_ne _ _ h, va_up_ne _ _ h, va_up_ne _ _ h]
theorem RS.two_stream (r : RS) (a c : Nat → Int32) (b d : Int32) : (((r.s_stream a).s_length b).s_stream c).s_length d = (r.s_stream c).s_length d := by
  show (va_up (va_up r.1 _ a) _ c, r.2.1, va_up (va_up r.2.2 _ b) _ d) = _
  rw [va_up_2, va_up_2]
theorem RS.self_stream (r : RS) : (r.s_stream r.stream).s_length r.length = r := by
  show (va_up r.1 _ (r.1 _), r.2.1, va_up r.2.2 _ (r.2.2 _)) = r
  rw [va_up_id, va_up_id]
theorem by_eq1 (v : Int64) (s : Int64) (s2 : UInt64) (k : Nat) (h1 : (s.toBitVec.smod 64).toNat = k) (h2 : s2.toNat % 64 = k) (hk : k ≤ 56) : ((v >>> s).toInt32 &&& 255) = (((v.toUInt64 >>> s2).toInt64).toInt32.toInt8.toInt32) &&& 255 := by
  apply Int32.toBitVec_inj.mp
  apply BitVec.eq_of_getLsbD_eq
  intro i hi
  have h1' : (s.toBitVec.smod 64#64).toNat = k := h1
  simp only [Int64.toBitVec_shiftRight, Int32.toBitVec_and, Int64.toBitVec_toInt32, Int32.toBitVec_toInt8, Int8.toBitVec_toInt32]
  simp
  rw [h1', h2]
  by_cases h8 : i < 8
  · simp [BitVec.getLsbD_signExtend, BitVec.getLsbD_sshiftRight, BitVec.getLsbD_ushiftRight]
    have a1 : i < 64 := by omega
    have a2 : k + i < 64 := by omega
    simp [hi, h8, a1, a2]
    have a3 : ¬ 64 ≤ i := by omega
    simp [a3]
  · have : (255#32).getLsbD i = false := by
      have : ∀ i, i < 32 → ¬ i < 8 → (255#32).getLsbD i = false := by decide
      exact this i hi h8
    rw [this]; simp
theorem by_eq (v : Int64) : ∀ k, k < 8 → ((v >>> ((8 * nI k).toInt64 &&& 63)).toInt32 &&& 255) = (((v.toUInt64 >>> ((nI (8 * k)).toInt64.toUInt64 &&& Int64.toUInt64 63)).toInt64).toInt32.toInt8.toInt32) &&& 255 := by
  intro k hk
  have h : ∀ k, k < 8 → (((8 * nI k).toInt64 &&& 63).toBitVec.smod 64).toNat = 8 * k ∧ ((nI (8 * k)).toInt64.toUInt64 &&& Int64.toUInt64 63).toNat % 64 = 8 * k := by decide +kernel
  exact by_eq1 v _ _ (8 * k) (h k hk).1 (h k hk).2 (by omega)
theorem rd_ok {α : Type} {f : Nat → α} {n j : Nat} {i : Int32} (hi : i = nI j) (hj : j < n) (hn : n < 2 ^ 31) : rd f n i = some (f j) := by
  unfold rd
  rw [if_pos ⟨by rw [hi]; exact nI_pos' (by omega), by rw [hi]; exact nI_lt hj hn⟩, hi, nI_clamp (by omega)]
theorem wr_ok {f : Nat → Int32} {n j : Nat} {i v : Int32} (hi : i = nI j) (hj : j < n) (hn : n < 2 ^ 31) : wr f n i v = some (upd f j v) := by
  unfold wr
  rw [if_pos ⟨by rw [hi]; exact nI_pos' (by omega), by rw [hi]; exact nI_lt hj hn⟩, hi, nI_clamp (by omega)]
theorem wrz_ok {f : Nat → Int32} {n j : Nat} {i v : Int32} (hi : i = nI j) (hj : j < n) (hn : n < 2 ^ 31) : wrz f n i v = some (upd f j (vp_nar .boolean v)) := by
  unfold wrz
  rw [if_pos ⟨by rw [hi]; exact nI_pos' (by omega), by rw [hi]; exact nI_lt hj hn⟩, hi, nI_clamp (by omega)]
theorem wrl_ok {f : Nat → Int64} {n j : Nat} {i : Int32} {v : Int64} (hi : i = nI j) (hj : j < n) (hn : n < 2 ^ 31) : wrl f n i v = some (vp_updL f j v) := by
  unfold wrl
  rw [if_pos ⟨by rw [hi]; exact nI_pos' (by omega), by rw [hi]; exact nI_lt hj hn⟩, hi, nI_clamp (by omega)]
theorem nI_m1 (n : Nat) : nI n + (-1) = nI n - 1 := (Int32.sub_eq_add_neg _ _).symm
theorem app_5 {K : Int32 → Int64 → Int32 → RS → Option RS} {v : Int64} {l3 : Int32} : ∀ (p n : Nat) (r : RS) (L : Nat), p < n → p ≤ 8 → r.length = nI L → L ≤ 1650 → ∃ s', m_append_5 K n (nI p - 1) v l3 r = K (-1) v l3 ((r.s_stream s').s_length (nI (min (L + p) 1650))) ∧ (∀ i, i < L → s' i = r.stream i) ∧ ∀ j, j < p → L + j < 1650 → s' (L + j) = es_by v p j &&& 255 := by
  intro p
  induction p with
  | zero =>
    intro n r L hn _ hL hL2
    obtain ⟨n, rfl⟩ : ∃ m, n = m + 1 := ⟨n - 1, by omega⟩
    refine ⟨r.stream, ?_, fun _ _ => rfl, fun j hj => absurd hj (Nat.not_lt_zero _)⟩
    rw [m_append_5, if_pos (by decide)]
    rw [show min (L + 0) 1650 = L by omega, ← hL, RS.self_stream]; rfl
  | succ p ih =>
    intro n r L hn hp hL hL2
    obtain ⟨n, rfl⟩ : ∃ m, n = m + 1 := ⟨n - 1, by omega⟩
    rw [nI_pred, m_append_5, if_neg (nI_pos (by omega))]
    by_cases hf : L = 1650
    · have h1 : (1650 : Int32) ≤ r.length := by rw [hL, hf]; decide
      rw [if_pos h1, nI_m1]
      obtain ⟨s', a, b, c⟩ := ih n r L (by omega) (by omega) hL hL2
      refine ⟨s', ?_, b, fun j hj h9 => by omega⟩
      rw [a, show min (L + (p + 1)) 1650 = min (L + p) 1650 by omega]
    · have h1 : ¬ (1650 : Int32) ≤ r.length := by rw [hL]; exact nI_ge (b := 1650) (by omega) (by decide)
      rw [if_neg h1, wr_ok hL (show L < 1700 by omega) (by decide), Option.bind_some, nI_m1]
      obtain ⟨s', a, b, c⟩ := ih n ((r.s_stream (upd r.stream L (((v >>> ((8 * nI p).toInt64 &&& 63)).toInt32) &&& 255))).s_length (r.length + 1)) (L + 1) (by omega) (by omega) (by show r.length + 1 = _; rw [hL, nI_1]) (by omega)
      refine ⟨s', ?_, fun i hi => ?_, fun j hj h9 => ?_⟩
      · rw [a, show min (L + 1 + p) 1650 = min (L + (p + 1)) 1650 by omega, RS.two_stream]
      · rw [b i (by omega)]; exact pk_un (by omega)
      · by_cases hj0 : j = 0
        · subst hj0
          rw [Nat.add_zero, b L (by omega)]
          show upd r.stream L (((v >>> ((8 * nI p).toInt64 &&& 63)).toInt32) &&& 255) L = _
          rw [pk_us, by_eq v p (by omega)]
          unfold es_by
          rw [show p + 1 - 1 - 0 = p by omega]
        · have := c (j - 1) (by omega) (by omega)
          rw [show L + 1 + (j - 1) = L + j by omega] at this
          rw [this]
          unfold es_by
          rw [show p - 1 - (j - 1) = p + 1 - 1 - j by omega]
/-- append, in closed form -/
theorem app_ok {r : RS} {L w : Nat} (v : Int64) (hw : w ≤ 8) (hL : r.length = nI L) (hL2 : L ≤ 1650) : ∃ s', m_append v (nI w) r = some ((r.s_stream s').s_length (nI (min (L + w) 1650))) ∧ (∀ i, i < L → s' i = r.stream i) ∧ ∀ j, j < w → L + j < 1650 → s' (L + j) = es_by v w j &&& 255 := by
  unfold m_append
  exact app_5 w 60 r L (by omega) hw hL hL2
