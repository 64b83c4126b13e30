/-! replacements -/
theorem bit_i (z : Int32) (i : Nat) (hi : i < 31) : ((z >>> (nI i &&& 31)) &&& 1) = (if z.toBitVec.getLsbD i then 1 else 0) := by
  have hs : ∀ i, i < 31 → ((nI i &&& 31).toBitVec.smod 32).toNat = i := by decide +kernel
  have h1 : ((nI i &&& 31).toBitVec.smod 32#32).toNat = i := hs i hi
  apply Int32.toBitVec_inj.mp
  apply BitVec.eq_of_getLsbD_eq
  intro j hj
  rw [Int32.toBitVec_and, Int32.toBitVec_shiftRight, BitVec.getLsbD_and]
  show ((z.toBitVec.sshiftRight' ((nI i &&& 31).toBitVec.smod 32#32)).getLsbD j && _) = _
  rw [show z.toBitVec.sshiftRight' ((nI i &&& 31).toBitVec.smod 32#32) = z.toBitVec.sshiftRight i by show z.toBitVec.sshiftRight _ = _; rw [h1]]
  rw [BitVec.getLsbD_sshiftRight]
  by_cases h0 : j = 0
  · subst h0
    have a1 : i + 0 < 32 := by omega
    by_cases hb : z.toBitVec.getLsbD i = true
    · rw [hb]; simp [hb]; omega
    · rw [Bool.not_eq_true] at hb; rw [hb]; simp [hb]; intro h9; omega
  · have h1b : (1 : Int32).toBitVec.getLsbD j = false := by
      have : ∀ j, j < 32 → ¬ j = 0 → (1 : Int32).toBitVec.getLsbD j = false := by decide +kernel
      exact this j hj h0
    have h0b : (0 : Int32).toBitVec.getLsbD j = false := by
      have : ∀ j, j < 32 → (0 : Int32).toBitVec.getLsbD j = false := by decide +kernel
      exact this j hj
    rw [h1b, Bool.and_false]
    by_cases hb : z.toBitVec.getLsbD i = true
    · rw [hb, if_pos rfl, h1b]
    · rw [Bool.not_eq_true] at hb; rw [hb, if_neg (by decide), h0b]
theorem bit_or (z : Int32) (o i : Nat) (ho : o < 31) (hi : i < 31) : (z ||| ((1 : Int32) <<< (nI o &&& 31))).toBitVec.getLsbD i = (z.toBitVec.getLsbD i || decide (i = o)) := by
  have h : ∀ o, o < 31 → ∀ i, i < 31 → ((1 : Int32) <<< (nI o &&& 31)).toBitVec.getLsbD i = decide (i = o) := by decide +kernel
  rw [Int32.toBitVec_or, BitVec.getLsbD_or, h o ho i hi]
def bcnt (z : Int32) : Nat → Nat
  | 0 => 0
  | n + 1 => bcnt z n + (if z.toBitVec.getLsbD n then 1 else 0)
theorem bcnt_full (z : Int32) : ∀ n, n ≤ bcnt z n → ∀ i, i < n → z.toBitVec.getLsbD i = true := by
  have le : ∀ n, bcnt z n ≤ n := by
    intro n
    induction n with
    | zero => exact Nat.le_refl _
    | succ n ih => unfold bcnt; split <;> omega
  intro n
  induction n with
  | zero => intro _ i hi; omega
  | succ n ih =>
    intro h i hi
    unfold bcnt at h
    have := le n
    by_cases hb : z.toBitVec.getLsbD n = true
    · rw [if_pos hb] at h
      by_cases hin : i = n
      · rw [hin]; exact hb
      · exact ih (by omega) i (by omega)
    · rw [if_neg hb] at h; omega
theorem bcnt_or (z : Int32) (o : Nat) (ho : o < 12) (hno : z.toBitVec.getLsbD o = false) : ∀ n, n ≤ 12 → bcnt (z ||| ((1 : Int32) <<< (nI o &&& 31))) n = bcnt z n + (if o < n then 1 else 0) := by
  intro n
  induction n with
  | zero => intro _; rfl
  | succ n ih =>
    intro hn
    unfold bcnt
    rw [ih (by omega), bit_or z o n (by omega) (by omega)]
    by_cases h : n = o
    · subst h
      rw [hno, if_neg (show ¬ n < n by omega), if_pos (show n < n + 1 by omega)]
      simp
    · rw [decide_eq_false h, Bool.or_false]
      by_cases h2 : o < n
      · rw [if_pos h2, if_pos (show o < n + 1 by omega)]; omega
      · rw [if_neg h2, if_neg (show ¬ o < n + 1 by omega)]; omega
theorem stand_9 {cd : Nat → Option DT} {mk : Nat} {td : Nat → TT} (hG : GI cd mk td) {r : RS} (hO : RO mk td r) {l1 : Int32} : ∀ (n i fuel o : Nat) (z : Int32), o < mk → z.toBitVec.getLsbD o = false → 12 ≤ n + bcnt z 12 → i + n ≤ 19 → n < fuel → m_standing_9 (fun z4_1 z3_1 z2_1 z1_1 r_12 => some (z3_1, r_12)) fuel (nI i) (nI o) (z ||| ((1 : Int32) <<< (nI o &&& 31))) l1 r = some (nI (ga_repl td n o z), r) := by
  have hm := hG.mk12
  intro n
  induction n with
  | zero =>
    intro i fuel o z ho hz hc _ _
    have := bcnt_full z 12 (by omega) o (by omega)
    rw [hz] at this; exact absurd this (by decide)
  | succ n ih =>
    intro i fuel o z ho hz hc hi hf
    obtain ⟨fuel, rfl⟩ : ∃ m, fuel = m + 1 := ⟨fuel - 1, by omega⟩
    obtain ⟨o1, -, o3, -⟩ := hO.o o ho
    rw [m_standing_9, if_neg (show ¬ (20 : Int32) ≤ nI i from nI_ge (b := 20) (by omega) (by decide)), rd_ok rfl (show o < 20 by omega) (by decide), Option.bind_some, o1]
    have er : ga_repl td (n + 1) o z = if tt_rp (td o) = -1 then o else if ((z ||| ((1 : Int32) <<< (nI o &&& 31))) >>> (tt_rp (td o) &&& 31)) &&& 1 = 0 then ga_repl td n (tt_rp (td o)).toNatClampNeg (z ||| ((1 : Int32) <<< (nI o &&& 31))) else o := rfl
    rw [er]
    by_cases s0 : tt_so (td o) = 0
    · rw [if_pos s0, rd_ok rfl (show o < 20 by omega) (by decide), Option.bind_some, o3]
      rcases (hG.wt o ho).1 with h1 | ⟨p, hp, h1⟩
      · rw [h1, if_pos (by decide), if_pos rfl]
      · have hn1 : ¬ tt_rp (td o) = -1 := by rw [h1]; exact nI_ne1 (by omega)
        rw [if_neg hn1, h1, if_neg (nI_pos (by omega)), bit_i _ p (by omega), nI_clamp (by omega)]
        by_cases hb : (z ||| ((1 : Int32) <<< (nI o &&& 31))).toBitVec.getLsbD p = true
        · rw [if_pos hb, if_pos rfl, if_neg n10]
        · rw [if_neg hb, if_neg (by decide), if_pos rfl, nI_1]
          have hb2 : (z ||| ((1 : Int32) <<< (nI o &&& 31))).toBitVec.getLsbD p = false := by rw [Bool.not_eq_true] at hb; exact hb
          exact ih (i + 1) fuel p _ hp hb2 (by rw [bcnt_or z o (by omega) hz 12 (by decide), if_pos (by omega)]; omega) (by omega) (by omega)
    · rw [if_neg s0, hG.rp o ho s0, if_pos rfl]
theorem r_standing {cd : Nat → Option DT} {mk : Nat} {td : Nat → TT} (hG : GI cd mk td) {r : RS} (hO : RO mk td r) {o : Nat} (ho : o < mk) : m_standing (nI o) r = some (nI (ga_repl td 12 o 0), r) := by
  unfold m_standing
  have hz : (0 : Int32).toBitVec.getLsbD o = false := by simp
  have := stand_9 hG hO (l1 := nI o) 12 0 60 o 0 ho hz (by omega) (by decide) (by decide)
  rw [show (0 : Int32) ||| ((1 : Int32) <<< (nI o &&& 31)) = (1 : Int32) <<< (nI o &&& 31) by rw [Int32.zero_or]] at this
  exact this
