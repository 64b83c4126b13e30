/-! texts -/
def byt (v : Int64) (k : Nat) : Nat := v.toBitVec.toNat / 2 ^ (8 * k) % 256
theorem byt_bit (v : Int64) (k i : Nat) : (byt v k).testBit i = (decide (i < 8) && v.toBitVec.getLsbD (8 * k + i)) := by
  unfold byt
  rw [show (256 : Nat) = 2 ^ 8 by decide, Nat.testBit_mod_two_pow, Nat.testBit_div_two_pow, BitVec.getLsbD]
  rw [Nat.add_comm]
theorem cB1 (v : Int64) (s : Int64) (k : Nat) (h1 : (s.toBitVec.smod 64).toNat = 8 * k) (hk : k < 8) : ((v >>> s).toInt32 &&& 255) = nI (byt v k) := by
  apply Int32.toBitVec_inj.mp
  apply BitVec.eq_of_getLsbD_eq
  intro i hi
  have h1' : (s.toBitVec.smod 64#64).toNat = 8 * k := h1
  have e2 : (nI (byt v k)).toBitVec = BitVec.ofNat 32 (byt v k) := rfl
  rw [e2, BitVec.getLsbD_ofNat, byt_bit]
  simp only [Int64.toBitVec_shiftRight, Int32.toBitVec_and, Int64.toBitVec_toInt32]
  simp
  rw [h1']
  by_cases h8 : i < 8
  · have h255 : (255#32).getLsbD i = true := by
      have : ∀ i, i < 8 → (255#32).getLsbD i = true := by decide
      exact this i h8
    have a1 : i < 64 := by omega
    have a2 : 8 * k + i < 64 := by omega
    have a3 : ¬ 64 ≤ i := by omega
    rw [h255, BitVec.getLsbD_signExtend, BitVec.getLsbD_sshiftRight]
    simp [hi, h8, a1, a2, a3]
  · have : (255#32).getLsbD i = false := by
      have : ∀ i, i < 32 → ¬ i < 8 → (255#32).getLsbD i = false := by decide
      exact this i hi h8
    rw [this]; simp [h8]
theorem cB (v : Int64) (k : Nat) (hk : k < 8) : ((v >>> ((8 * nI k).toInt64 &&& 63)).toInt32 &&& 255) = nI (byt v k) := by
  have h : ∀ k, k < 8 → (((8 * nI k).toInt64 &&& 63).toBitVec.smod 64).toNat = 8 * k := by decide +kernel
  exact cB1 v _ k (h k hk) hk
theorem byt_lt (v : Int64) (k : Nat) : byt v k < 256 := Nat.mod_lt _ (by decide)
theorem sgB (v : Int64) (k : Nat) (hk : k < 8) : sg_c v (nI (8 * k)) = nI (byt v k % 128) := by
  have h : ∀ k, k < 8 → ((nI (8 * k)).toInt64.toUInt64 &&& Int64.toUInt64 63).toNat = 8 * k := by decide +kernel
  obtain ⟨s, hs⟩ : ∃ s, s = ((nI (8 * k)).toInt64.toUInt64 &&& Int64.toUInt64 63) := ⟨_, rfl⟩
  have hs2 : s.toNat = 8 * k := by rw [hs]; exact h k hk
  have e1 : ((v.toUInt64 >>> s).toInt64 &&& 127) = Int64.ofNat (byt v k % 128) := by
    show (⟨(v.toUInt64 >>> s) &&& 127⟩ : Int64) = ⟨UInt64.ofNat (byt v k % 128)⟩
    have e2 : ((v.toUInt64 >>> s) &&& 127).toNat = byt v k % 128 := by
      rw [UInt64.toNat_and, UInt64.toNat_shiftRight, hs2, Nat.mod_eq_of_lt (show 8 * k < 64 by omega), Nat.shiftRight_eq_div_pow]
      show v.toBitVec.toNat / 2 ^ (8 * k) &&& 127 = _
      rw [show (127 : Nat) = 2 ^ 7 - 1 by decide, Nat.and_two_pow_sub_one_eq_mod]
      unfold byt
      rw [show (2 : Nat) ^ 7 = 128 by decide, Nat.mod_mod_of_dvd _ (by decide)]
    rw [← e2, UInt64.ofNat_toNat]
  unfold sg_c
  rw [← hs, e1]
  exact sg_k _ (Nat.mod_lt _ (by decide))
theorem mask_ok (v : Int64) : lg_cmp (v &&& (-9187201950435737472)) 0 = 0 ↔ ∀ k, k < 8 → byt v k < 128 := by
  have e0 : lg_cmp (v &&& (-9187201950435737472)) 0 = 0 ↔ v &&& (-9187201950435737472) = 0 := by
    unfold lg_cmp
    by_cases h : v &&& (-9187201950435737472) > 0
    · rw [if_pos h]
      exact ⟨fun z => absurd z n10, fun z => by rw [z] at h; exact absurd h (by decide)⟩
    · rw [if_neg h]
      by_cases h2 : v &&& (-9187201950435737472) = 0
      · rw [if_pos h2]; exact ⟨fun _ => h2, fun _ => rfl⟩
      · rw [if_neg h2]; exact ⟨fun z => absurd z (by decide), fun z => absurd z h2⟩
  have hb : ∀ k, byt v k < 128 ↔ v.toBitVec.getLsbD (8 * k + 7) = false := by
    intro k
    have h1 := byt_bit v k 7
    rw [show decide (7 < 8) = true by decide, Bool.true_and, Nat.testBit_eq_decide_div_mod_eq] at h1
    have h2 := byt_lt v k
    rw [← h1]
    refine ⟨fun z => ?_, fun z => ?_⟩
    · rw [decide_eq_false_iff_not]; omega
    · rw [decide_eq_false_iff_not] at z; omega
  rw [e0]
  refine ⟨fun z k hk => (hb k).mpr ?_, fun z => ?_⟩
  · have h1 : (v &&& (-9187201950435737472)).toBitVec.getLsbD (8 * k + 7) = false := by rw [z]; simp
    rw [Int64.toBitVec_and, BitVec.getLsbD_and] at h1
    have h2 : ∀ k, k < 8 → (-9187201950435737472 : Int64).toBitVec.getLsbD (8 * k + 7) = true := by decide +kernel
    rw [h2 k hk, Bool.and_true] at h1
    exact h1
  · apply Int64.toBitVec_inj.mp
    apply BitVec.eq_of_getLsbD_eq
    intro i hi
    rw [Int64.toBitVec_and, BitVec.getLsbD_and]
    have h3 : ∀ i, i < 64 → (-9187201950435737472 : Int64).toBitVec.getLsbD i = decide (i % 8 = 7) := by decide +kernel
    rw [h3 i hi]
    by_cases h7 : i % 8 = 7
    · have := (hb (i / 8)).mp (z (i / 8) (by omega))
      rw [show 8 * (i / 8) + 7 = i by omega] at this
      rw [this]; simp
    · rw [decide_eq_false h7]; simp
/-- the signs: the bytes that are not zero -/
def bl (v : Int64) : Nat → List Int32
  | 0 => []
  | p + 1 => if byt v p = 0 then bl v p else nI (byt v p) :: bl v p
theorem bl_len (v : Int64) : ∀ p, (bl v p).length ≤ p := by
  intro p
  induction p with
  | zero => exact Nat.le_refl _
  | succ p ih =>
    show (if byt v p = 0 then bl v p else nI (byt v p) :: bl v p).length ≤ p + 1
    by_cases h : byt v p = 0
    · rw [if_pos h]; omega
    · rw [if_neg h, List.length_cons]; omega
theorem sg_sh : ∀ p, p < 8 → nI (8 * (p + 1)) - 8 = nI (8 * p) := by decide +kernel
theorem sg_bl (v : Int64) (h : ∀ k, k < 8 → byt v k < 128) : ∀ (p : Nat) (t : List Int32), p ≤ 8 → sg_r v p t = t ++ bl v p := by
  intro p
  induction p with
  | zero => intro t _; show t = t ++ []; rw [List.append_nil]
  | succ p ih =>
    intro t hp
    have e : sg_c v (nI (8 * (p + 1)) - 8) = nI (byt v p) := by rw [sg_sh p (by omega), sgB v p (by omega), Nat.mod_eq_of_lt (h p (by omega))]
    have hlt := byt_lt v p
    show (if sg_c v (nI (8 * (p + 1)) - 8) = 0 then sg_r v p t else sg_r v p (t ++ [sg_c v (nI (8 * (p + 1)) - 8)])) = t ++ (if byt v p = 0 then bl v p else nI (byt v p) :: bl v p)
    rw [e]
    by_cases h0 : byt v p = 0
    · rw [if_pos h0, if_pos (by rw [h0]; rfl)]; exact ih t (by omega)
    · rw [if_neg h0, if_neg (show ¬ nI (byt v p) = 0 from fun z => h0 ((nI_eq (b := 0) (by omega) (by decide)).mp z)), ih _ (by omega), List.append_assoc]; rfl
theorem text_6 {K : Int32 → Int32 → Int64 → RS → Option (Int32 × RS)} {v : Int64} {r : RS} : ∀ (p n cnt : Nat), p ≤ 8 → p < n → ((∀ k, k < p → byt v k < 128) → m_text_6 K n (nI p - 1) (nI cnt) v r = K (-1) (nI (cnt + (bl v p).length)) v r) ∧ (¬ (∀ k, k < p → byt v k < 128) → m_text_6 K n (nI p - 1) (nI cnt) v r = some (-1, r)) := by
  intro p
  induction p with
  | zero =>
    intro n cnt _ hn
    obtain ⟨n, rfl⟩ : ∃ m, n = m + 1 := ⟨n - 1, by omega⟩
    refine ⟨fun _ => ?_, fun z => absurd (fun k hk => absurd hk (Nat.not_lt_zero _)) z⟩
    rw [m_text_6, if_pos (by decide)]; rfl
  | succ p ih =>
    intro n cnt hp hn
    obtain ⟨n, rfl⟩ : ∃ m, n = m + 1 := ⟨n - 1, by omega⟩
    have hlt := byt_lt v p
    rw [nI_pred, m_text_6, if_neg (nI_pos (by omega)), cB v p (by omega), nI_m1]
    by_cases hb : byt v p < 128
    · rw [if_pos (show nI (byt v p) ≤ 127 from nI_le (b := 127) (by omega) (by decide))]
      have spl : (∀ k, k < p + 1 → byt v k < 128) ↔ ∀ k, k < p → byt v k < 128 := by
        refine ⟨fun z k hk => z k (by omega), fun z k hk => ?_⟩
        by_cases hkp : k = p
        · rw [hkp]; exact hb
        · exact z k (by omega)
      rw [spl]
      show _ ∧ _
      by_cases h0 : byt v p = 0
      · have eb : bl v (p + 1) = bl v p := if_pos h0
        rw [if_pos (by rw [h0]; decide), eb]
        exact ih n cnt (by omega) (by omega)
      · have eb : bl v (p + 1) = nI (byt v p) :: bl v p := if_neg h0
        rw [if_neg (show ¬ nI (byt v p) ≤ 0 from nI_ge (b := byt v p) (a := 0) (by omega) (by omega)), nI_1, eb, List.length_cons, show cnt + ((bl v p).length + 1) = cnt + 1 + (bl v p).length by omega]
        exact ih n (cnt + 1) (by omega) (by omega)
    · rw [if_neg (show ¬ nI (byt v p) ≤ 127 from nI_ge (a := 127) (by omega) (by omega))]
      exact ⟨fun z => absurd (z p (by omega)) hb, fun _ => rfl⟩
theorem text_70 {K : Int32 → Int32 → Int32 → Int64 → RS → Option (Int32 × RS)} {v : Int64} {mk : Nat} (hmk : mk < 12) : ∀ (p n cnt : Nat) (r : RS), p ≤ 8 → p < n → cnt + p ≤ 8 → ∃ g, m_text_70 K n (nI p - 1) (nI cnt) (nI mk) v r = K (-1) (nI (cnt + (bl v p).length)) (nI mk) v (r.s_value g) ∧ (∀ i, i < 24 * mk + cnt ∨ 24 * mk + 24 ≤ i → g i = r.value i) ∧ ∀ q, q < (bl v p).length → g (24 * mk + cnt + q) = ((bl v p).getD q 0).toInt64 := by
  intro p
  induction p with
  | zero =>
    intro n cnt r _ hn _
    obtain ⟨n, rfl⟩ : ∃ m, n = m + 1 := ⟨n - 1, by omega⟩
    refine ⟨r.value, ?_, fun _ _ => rfl, fun q hq => absurd hq (Nat.not_lt_zero _)⟩
    rw [m_text_70, if_pos (by decide), RS.self_value]; rfl
  | succ p ih =>
    intro n cnt r hp hn hc
    obtain ⟨n, rfl⟩ : ∃ m, n = m + 1 := ⟨n - 1, by omega⟩
    have hlt := byt_lt v p
    have hbl := bl_len v p
    rw [nI_pred, m_text_70, if_neg (nI_pos (by omega)), cB v p (by omega), nI_m1]
    by_cases h0 : byt v p = 0
    · have eb : bl v (p + 1) = bl v p := if_pos h0
      rw [if_pos (by rw [h0]; decide), eb]
      exact ih n cnt r (by omega) (by omega) (by omega)
    · have eb : bl v (p + 1) = nI (byt v p) :: bl v p := if_neg h0
      rw [if_neg (show ¬ nI (byt v p) ≤ 0 from nI_ge (b := byt v p) (a := 0) (by omega) (by omega)), wrl_ok (i24 rfl rfl) (show 24 * mk + cnt < 480 by omega) (by decide), Option.bind_some, nI_1, eb]
      obtain ⟨g, a, b, c⟩ := ih n (cnt + 1) (r.s_value (vp_updL r.value (24 * mk + cnt) (nI (byt v p)).toInt64)) (by omega) (by omega) (by omega)
      refine ⟨g, ?_, fun i hi => ?_, fun q hq => ?_⟩
      · rw [a, RS.two_value, List.length_cons, show cnt + ((bl v p).length + 1) = cnt + 1 + (bl v p).length by omega]
      · rw [b i (by omega)]; exact uL_n (by omega)
      · rw [List.length_cons] at hq
        cases q with
        | zero =>
          rw [Nat.add_zero, b _ (by omega)]
          show vp_updL r.value (24 * mk + cnt) (nI (byt v p)).toInt64 (24 * mk + cnt) = _
          rw [uL_s]; rfl
        | succ q =>
          have := c q (by omega)
          rw [show 24 * mk + (cnt + 1) + q = 24 * mk + cnt + (q + 1) by omega] at this
          rw [this]; rfl
theorem r_text {cd : Nat → Option DT} {mk : Nat} {td : Nat → TT} {r : RS} (hG : GI cd mk td) (h : RO mk td r) (v : Int64) : ∃ r', m_text v r = some ((ga_text mk td v).1, r') ∧ RO (ga_text mk td v).2.1 (ga_text mk td v).2.2 r' ∧ RK r r' := by
  have hm := hG.mk12
  unfold ga_text m_text
  obtain ⟨t1, t2⟩ := text_6 (K := fun z4_1 z3_1 z1_1 r_5 => Option.bind (m_begin 1 z3_1 r_5) (fun y_7 => if (0 : Int32) ≤ y_7.1 then (m_text_70 (fun z5_13 z3_13 z4_13 z1_13 r_20 => some (z4_13, r_20)) 60 7 0 y_7.1 z1_1 y_7.2) else (some ((-2), y_7.2)))) (v := v) (r := r) 8 60 0 (by decide) (by decide)
  rw [show nI 8 - 1 = 7 from by decide, show nI 0 = 0 from rfl] at t1 t2
  rw [Nat.zero_add] at t1
  by_cases hb : ∀ k, k < 8 → byt v k < 128
  · rw [t1 hb, if_neg (show ¬ ¬ lg_cmp (v &&& (-9187201950435737472)) 0 = 0 from fun z => z ((mask_ok v).mpr hb))]
    have hbl := bl_len v 8
    by_cases hf : 12 ≤ nI mk
    · rw [if_pos hf, begin_full h.ob hm hf, Option.bind_some, if_neg nm2]; exact ⟨r, rfl, h, RK.rfl9 r⟩
    rw [if_neg hf]
    have hmk := mk12f hm hf
    obtain ⟨g, a, b, c⟩ := begin_ok h.ob hmk 1 (nI (bl v 8).length)
    rw [a, Option.bind_some, if_pos (nI_pos' (by omega))]
    obtain ⟨g2, a2, b2, c2⟩ := text_70 (K := fun z5_13 z3_13 z4_13 z1_13 r_20 => some (z4_13, r_20)) (v := v) hmk 8 60 0 (bg r mk 1 (nI (bl v 8).length) g) (by decide) (by decide) (by decide)
    rw [show nI 8 - 1 = 7 from by decide, show nI 0 = 0 from rfl] at a2
    show ∃ r', m_text_70 (fun z5_13 z3_13 z4_13 z1_13 r_20 => some (z4_13, r_20)) 60 7 0 (nI mk) v (bg r mk 1 (nI (bl v 8).length) g) = _ ∧ _
    rw [a2]
    refine ⟨_, rfl, ?_, ⟨rfl, rfl, rfl, rfl, rfl, rfl, rfl, rfl⟩, ⟨rfl, rfl, rfl, rfl, rfl, rfl⟩⟩
    have et : sg_t v = bl v 8 := sg_bl v hb 8 [] (by decide)
    refine h.push hG.n24 rfl (fun i hi => ⟨pk_un (by omega), rfl, pk_un (by omega), pk_un (by omega), pk_un (by omega), rfl, fun q hq => (b2 _ (Or.inl (by omega))).trans (b _ (by omega))⟩) pk_us (fun z => z.elim (fun z => absurd (show (1 : Int32) = 0 from z) (by decide)) (fun z => absurd (show (1 : Int32) = 4 from z) (by decide))) pk_us pk_us ?_ (fun q z => absurd rfl z) (fun q _ hq => ?_) (fun z => absurd (show (1 : Int32) = 4 from z) (by decide))
    · show upd r.size mk (nI (bl v 8).length) mk = nI (sg_t v).length
      rw [pk_us, et]
    · show g2 (24 * mk + q) = ((sg_t v).getD q 0).toInt64
      have hq2 : q < (sg_t v).length := hq
      rw [et] at hq2 ⊢
      have := c2 q hq2
      rw [Nat.add_zero] at this; exact this
  · rw [t2 hb, if_pos (show ¬ lg_cmp (v &&& (-9187201950435737472)) 0 = 0 from fun z => hb ((mask_ok v).mp z))]
    exact ⟨r, rfl, h, RK.rfl9 r⟩
