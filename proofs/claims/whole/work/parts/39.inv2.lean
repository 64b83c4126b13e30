/-! what holds of classes and objects at all times -/
def inch (cd : Nat → Option DT) (t : TT) (k : Nat) : Prop := tt_so t = 0 ∧ ∃ c dc j, c < 6 ∧ tt_ow t = nI c ∧ cd c = some dc ∧ j < dd_cn dc ∧ dd_cf dc j = nI k
abbrev GI (cd : Nat → Option DT) (mk : Nat) (td : Nat → TT) : Prop :=
  (GD cd) ∧
  (wf_t cd mk td) ∧
  (mk ≤ 12) ∧
  (∀ i, i < mk → ¬ (tt_so (td i) = 0 ∨ tt_so (td i) = 4) → tt_ow (td i) = -1) ∧
  (∀ k d, cd k = some d → (dd_us d = 0 ∨ dd_us d = 1) ∧ (dd_us d = 1 ↔ ∃ i, i < mk ∧ inch cd (td i) k)) ∧
  (∀ i, i < mk → ∀ k d, tt_ow (td i) = nI k → k < 6 → cd k = some d → (tt_so (td i) = 0 → ¬ dd_kd d = 3) ∧ (tt_so (td i) = 4 → dd_kd d = 3)) ∧
  (∀ i, i < mk → (tt_so (td i) = 4 → ∃ n, n < 26 ∧ tt_tx (td i) = [nI (97 + n)]) ∧ (tt_so (td i) = 1 → (tt_tx (td i)).length ≤ 8 ∧ ∀ c ∈ tt_tx (td i), ∃ k : Nat, 0 < k ∧ k < 128 ∧ c = nI k) ∧ (tt_so (td i) = 1 ∨ tt_so (td i) = 4 → tt_n (td i) = 0)) ∧
  (∀ i, i < mk → (tt_so (td i) = 2 → tt_n (td i) ≤ 6 ∧ ∀ q, q < tt_n (td i) → tt_ty (td i) q = 2) ∧ (tt_so (td i) = 3 → tt_n (td i) ≤ 4 ∧ ∀ q, q < tt_n (td i) → tt_ty (td i) q = 7) ∧ tt_n (td i) ≤ 24 ∧ (tt_so (td i) = 0 → ∀ k d, tt_ow (td i) = nI k → cd k = some d → ∀ j c e f, j < dd_cn d → dd_cf d j = nI c → c < 6 → cd c = some e → f < dd_fn e → tt_ty (td i) (ga_sum cd d j + f) = dd_ty e f)) ∧
  (∀ i, i < mk → ¬ tt_so (td i) = 0 → tt_rp (td i) = -1)
theorem GI.gd {cd : Nat → Option DT} {mk : Nat} {td : Nat → TT} (h : GI cd mk td) : GD cd := h.1
theorem GI.wt {cd : Nat → Option DT} {mk : Nat} {td : Nat → TT} (h : GI cd mk td) : wf_t cd mk td := h.2.1
theorem GI.mk12 {cd : Nat → Option DT} {mk : Nat} {td : Nat → TT} (h : GI cd mk td) : mk ≤ 12 := h.2.2.1
theorem GI.ow {cd : Nat → Option DT} {mk : Nat} {td : Nat → TT} (h : GI cd mk td) : ∀ i, i < mk → ¬ (tt_so (td i) = 0 ∨ tt_so (td i) = 4) → tt_ow (td i) = -1 := h.2.2.2.1
theorem GI.us {cd : Nat → Option DT} {mk : Nat} {td : Nat → TT} (h : GI cd mk td) : ∀ k d, cd k = some d → (dd_us d = 0 ∨ dd_us d = 1) ∧ (dd_us d = 1 ↔ ∃ i, i < mk ∧ inch cd (td i) k) := h.2.2.2.2.1
theorem GI.k3 {cd : Nat → Option DT} {mk : Nat} {td : Nat → TT} (h : GI cd mk td) : ∀ i, i < mk → ∀ k d, tt_ow (td i) = nI k → k < 6 → cd k = some d → (tt_so (td i) = 0 → ¬ dd_kd d = 3) ∧ (tt_so (td i) = 4 → dd_kd d = 3) := h.2.2.2.2.2.1
theorem GI.tx {cd : Nat → Option DT} {mk : Nat} {td : Nat → TT} (h : GI cd mk td) : ∀ i, i < mk → (tt_so (td i) = 4 → ∃ n, n < 26 ∧ tt_tx (td i) = [nI (97 + n)]) ∧ (tt_so (td i) = 1 → (tt_tx (td i)).length ≤ 8 ∧ ∀ c ∈ tt_tx (td i), ∃ k : Nat, 0 < k ∧ k < 128 ∧ c = nI k) ∧ (tt_so (td i) = 1 ∨ tt_so (td i) = 4 → tt_n (td i) = 0) := h.2.2.2.2.2.2.1
theorem GI.ty {cd : Nat → Option DT} {mk : Nat} {td : Nat → TT} (h : GI cd mk td) : ∀ i, i < mk → (tt_so (td i) = 2 → tt_n (td i) ≤ 6 ∧ ∀ q, q < tt_n (td i) → tt_ty (td i) q = 2) ∧ (tt_so (td i) = 3 → tt_n (td i) ≤ 4 ∧ ∀ q, q < tt_n (td i) → tt_ty (td i) q = 7) ∧ tt_n (td i) ≤ 24 ∧ (tt_so (td i) = 0 → ∀ k d, tt_ow (td i) = nI k → cd k = some d → ∀ j c e f, j < dd_cn d → dd_cf d j = nI c → c < 6 → cd c = some e → f < dd_fn e → tt_ty (td i) (ga_sum cd d j + f) = dd_ty e f) := h.2.2.2.2.2.2.2.1
theorem GI.rp {cd : Nat → Option DT} {mk : Nat} {td : Nat → TT} (h : GI cd mk td) : ∀ i, i < mk → ¬ tt_so (td i) = 0 → tt_rp (td i) = -1 := h.2.2.2.2.2.2.2.2
theorem GI.zero (td : Nat → TT) : GI (fun _ => none) 0 td := ⟨GD.zero, fun _ h => absurd h (Nat.not_lt_zero _), by decide, fun _ h => absurd h (Nat.not_lt_zero _), fun _ _ h => absurd h (by simp), fun _ h => absurd h (Nat.not_lt_zero _), fun _ h => absurd h (Nat.not_lt_zero _), fun _ h => absurd h (Nat.not_lt_zero _), fun _ h => absurd h (Nat.not_lt_zero _)⟩
theorem wf_g.mono {a b : Nat} {g : Int32} (h : wf_g a g) (hab : a ≤ b) : wf_g b g := by
  rcases h with h | ⟨j, hj, e⟩
  · exact Or.inl h
  · exact Or.inr ⟨j, by omega, e⟩
theorem wf_v.mono {a b : Nat} {g : Int64} (h : wf_v a g) (hab : a ≤ b) : wf_v b g := by
  rcases h with h | ⟨j, hj, e⟩
  · exact Or.inl h
  · exact Or.inr ⟨j, by omega, e⟩
/-- sums see the classes of the chain alone -/
theorem sum_same {cd cd' : Nat → Option DT} {d : DT} : ∀ n, (∀ j, j < n → ∃ q z z', q < 6 ∧ dd_cf d j = nI q ∧ cd q = some z ∧ cd' q = some z' ∧ dd_fn z' = dd_fn z) → ga_sum cd' d n = ga_sum cd d n := by
  intro n
  induction n with
  | zero => intro _; rfl
  | succ n ih =>
    intro h
    obtain ⟨q, z, z', hq, e, h1, h2, h3⟩ := h n (by omega)
    have ec : (dd_cf d n).toNatClampNeg = q := by rw [e]; exact nI_clamp (by omega)
    show ga_sum cd' d n + (match cd' (dd_cf d n).toNatClampNeg with | none => 0 | some d => dd_fn d) = ga_sum cd d n + (match cd (dd_cf d n).toNatClampNeg with | none => 0 | some d => dd_fn d)
    rw [ih (fun j hj => h j (by omega)), ec, h1, h2]
    show ga_sum cd d n + dd_fn z' = ga_sum cd d n + dd_fn z
    rw [h3]
/-- the classes change, but none that an object has -/
theorem GI.classes {cd cd' : Nat → Option DT} {mk : Nat} {td : Nat → TT} (h : GI cd mk td) (hD : GD cd') (hs : ∀ k d, cd k = some d → (∃ d', cd' k = some d' ∧ dd_us d' = dd_us d ∧ dd_kd d' = dd_kd d ∧ dd_cn d' = dd_cn d ∧ dd_cf d' = dd_cf d ∧ (d' = d ∨ dd_us d = 0))) (hn : ∀ k d, cd k = none → cd' k = some d → dd_us d = 0) : GI cd' mk td := by
  have back : ∀ k d', cd' k = some d' → (∃ d, cd k = some d) → ∃ d, cd k = some d ∧ dd_us d' = dd_us d ∧ dd_kd d' = dd_kd d ∧ dd_cn d' = dd_cn d ∧ dd_cf d' = dd_cf d ∧ (d' = d ∨ dd_us d = 0) := by
    intro k d' hk ⟨d, hd⟩
    obtain ⟨d2, a, b⟩ := hs k d hd
    have : d2 = d' := Option.some.inj (a.symm.trans hk)
    subst this
    exact ⟨d, hd, b⟩
  -- an object's chain stands as it was
  have inst : ∀ i, i < mk → tt_so (td i) = 0 → ∀ k d', tt_ow (td i) = nI k → k < 6 → cd' k = some d' → cd k = some d' ∧ ∀ j c, j < dd_cn d' → dd_cf d' j = nI c → c < 6 → ∃ e, cd c = some e ∧ cd' c = some e := by
    intro i hi h0 k d' hk hk6 hd'
    obtain ⟨k2, d, hk26, hk2, hd⟩ := (h.wt i hi).2.2.1 (Or.inl h0)
    have ek : k = k2 := (nI_eq (by omega) (by omega)).mp (hk.symm.trans hk2)
    subst ek
    have chain : ∀ j c, j < dd_cn d → dd_cf d j = nI c → c < 6 → ∃ e, cd c = some e ∧ cd' c = some e := by
      intro j c hj hc hc6
      obtain ⟨c2, e, hc26, hc2, he⟩ := (h.gd.wd k d hd).2.2.1 j hj
      have ec : c = c2 := (nI_eq (by omega) (by omega)).mp (hc.symm.trans hc2)
      subst ec
      have hu : dd_us e = 1 := (h.us c e he).2.mpr ⟨i, hi, h0, k, d, j, hk6, hk, hd, hj, hc⟩
      obtain ⟨e', a, -, -, -, -, b⟩ := hs c e he
      rcases b with b | b
      · exact ⟨e, he, by rw [a, b]⟩
      · rw [b] at hu; exact absurd hu (by decide)
    obtain ⟨c1, c2, -⟩ := h.gd.ch k d hd
    obtain ⟨e, a, b⟩ := chain (dd_cn d - 1) k (by omega) c2 hk6
    have e1 : e = d := Option.some.inj (a.symm.trans hd)
    have e2 : e = d' := Option.some.inj (b.symm.trans hd')
    subst e1; subst e2
    exact ⟨a, chain⟩
  have sums : ∀ i, i < mk → tt_so (td i) = 0 → ∀ k d', tt_ow (td i) = nI k → k < 6 → cd' k = some d' → ∀ n, n ≤ dd_cn d' → ga_sum cd' d' n = ga_sum cd d' n := by
    intro i hi h0 k d' hk hk6 hd' n hn
    refine sum_same n (fun j hj => ?_)
    obtain ⟨a, b⟩ := inst i hi h0 k d' hk hk6 hd'
    obtain ⟨c, e, hc6, hc, he⟩ := (h.gd.wd k d' a).2.2.1 j (by omega)
    obtain ⟨e', a2, b2⟩ := b j c (by omega) hc hc6
    exact ⟨c, e', e', hc6, hc, a2, b2, rfl⟩
  have k6 : ∀ k d, cd' k = some d → k < 6 := fun k d hk => (hD.wd k d hk).1
  refine ⟨hD, fun i hi => ?_, h.mk12, h.ow, fun k d' hk => ?_, fun i hi k d' hk hk6 hd' => ?_, h.tx, fun i hi => ?_, h.rp⟩
  · obtain ⟨w1, w2, w3, w4, w5⟩ := h.wt i hi
    refine ⟨w1, w2, fun hs9 => ?_, w4, fun h0 k d' hk hd' => ?_⟩
    · obtain ⟨k, d, a, b, c⟩ := w3 hs9
      obtain ⟨d', c', -⟩ := hs k d c
      exact ⟨k, d', a, b, c'⟩
    · have hk6 := k6 k d' hd'
      obtain ⟨a, b⟩ := inst i hi h0 k d' hk hk6 hd'
      obtain ⟨s1, s2⟩ := w5 h0 k d' hk a
      refine ⟨by rw [sums i hi h0 k d' hk hk6 hd' _ (Nat.le_refl _)]; exact s1, fun j c e f hj hc he hf h6 => ?_⟩
      obtain ⟨e', a2, b2⟩ := b j c hj hc (k6 c e he)
      have : e' = e := Option.some.inj (b2.symm.trans he)
      subst this
      rw [sums i hi h0 k d' hk hk6 hd' j (by omega)]
      exact s2 j c e' f hj hc a2 hf h6
  · rcases hc : cd k with _ | d
    · have hu := hn k d' hc hk
      refine ⟨Or.inl hu, fun z => absurd (hu.symm.trans z) (by decide), fun ⟨i, hi, h0, c, dc, j, hc6, hcw, hdc, hj, hcj⟩ => ?_⟩
      obtain ⟨a, b⟩ := inst i hi h0 c dc hcw hc6 hdc
      obtain ⟨e, a2, -⟩ := b j k hj hcj (k6 k d' hk)
      rw [hc] at a2; exact absurd a2 (by simp)
    · obtain ⟨d2, a, hu, -⟩ := hs k d hc
      have : d2 = d' := Option.some.inj (a.symm.trans hk)
      subst this
      obtain ⟨u1, u2⟩ := h.us k d hc
      rw [hu]
      refine ⟨u1, u2.trans ⟨fun ⟨i, hi, h0, c, dc, j, hc6, hcw, hdc, hj, hcj⟩ => ?_, fun ⟨i, hi, h0, c, dc, j, hc6, hcw, hdc, hj, hcj⟩ => ?_⟩⟩
      · obtain ⟨dc', a1, -, -, a2, a3, -⟩ := hs c dc hdc
        exact ⟨i, hi, h0, c, dc', j, hc6, hcw, a1, by rw [a2]; exact hj, by rw [a3]; exact hcj⟩
      · obtain ⟨a, -⟩ := inst i hi h0 c dc hcw hc6 hdc
        exact ⟨i, hi, h0, c, dc, j, hc6, hcw, a, hj, hcj⟩
  · by_cases hso : tt_so (td i) = 0 ∨ tt_so (td i) = 4
    · obtain ⟨k2, d, hk26, hk2, hd⟩ := (h.wt i hi).2.2.1 hso
      have ek : k = k2 := (nI_eq (by omega) (by omega)).mp (hk.symm.trans hk2)
      subst ek
      obtain ⟨d2, a, -, b, -⟩ := hs k d hd
      have : d2 = d' := Option.some.inj (a.symm.trans hd')
      subst this
      rw [b]; exact h.k3 i hi k d hk hk6 hd
    · exact ⟨fun z => absurd (Or.inl z) hso, fun z => absurd (Or.inr z) hso⟩
  · obtain ⟨y1, y2, y3, y4⟩ := h.ty i hi
    refine ⟨y1, y2, y3, fun h0 k d' hk hd' j c e f hj hc hc6 he hf => ?_⟩
    have hk6 := k6 k d' hd'
    obtain ⟨a, b⟩ := inst i hi h0 k d' hk hk6 hd'
    obtain ⟨e', a2, b2⟩ := b j c hj hc hc6
    have : e' = e := Option.some.inj (b2.symm.trans he)
    subst this
    rw [sums i hi h0 k d' hk hk6 hd' j (by omega)]
    exact y4 h0 k d' hk a j c e' f hj hc hc6 a2 hf
theorem GI.define {cd : Nat → Option DT} {mk : Nat} {td : Nat → TT} (h : GI cd mk td) (k kd sp : Int32) (id : Int64) : GI (ga_define cd k kd sp id).2 mk td := by
  have hD := h.gd.define k kd sp id
  have hcase : (ga_define cd k kd sp id).2 = cd ∨ ∃ j, cd j = none ∧ (ga_define cd k kd sp id).2 = va_up cd j (some (ga_kls cd j kd sp id)) := by
    unfold ga_define
    by_cases h0 : k < 0 ∨ 6 ≤ k
    · rw [if_pos h0]; exact Or.inl rfl
    rw [if_neg h0]
    rcases hc : cd k.toNatClampNeg with _ | d
    · simp only []
      by_cases h1 : kd < 0 ∨ ¬ kd ≤ 4
      · rw [if_pos h1]; exact Or.inl rfl
      rw [if_neg h1]
      by_cases h2 : ¬ sp = -1 ∧ ga_above cd sp kd = 0
      · rw [if_pos h2]; exact Or.inl rfl
      rw [if_neg h2]; exact Or.inr ⟨_, hc, rfl⟩
    · exact Or.inl rfl
  rcases hcase with e | ⟨j, hj, e⟩
  · rw [e]; exact h
  · rw [e] at hD ⊢
    refine h.classes hD (fun q d hq => ⟨d, ?_, rfl, rfl, rfl, rfl, Or.inl rfl⟩) (fun q d hq hq' => ?_)
    · rw [va_up_ne _ _ (fun z => by rw [z, hj] at hq; exact absurd hq (by simp))]; exact hq
    · rcases va_up_cases hq' with ⟨-, rfl⟩ | ⟨-, h9⟩
      · rfl
      · rw [hq] at h9; exact absurd h9 (by simp)
theorem GI.field {cd : Nat → Option DT} {mk : Nat} {td : Nat → TT} (h : GI cd mk td) (k n t tr : Int32) : GI (ga_field cd k n t tr).2 mk td := by
  have hD := h.gd.field k n t tr
  rcases ga_field_some (k := k) (n := n) (t := t) (tr := tr) h.gd with e | ⟨j, d, n9, t9, hj, e, hc, hn9, en, ht9, et, hfn, hu, -, hnew, e9⟩
  · rw [e]; exact h
  · rw [e9] at hD ⊢
    have ea : dd_us (ga_add d (nI n9) (nI t9) tr) = dd_us d ∧ dd_kd (ga_add d (nI n9) (nI t9) tr) = dd_kd d ∧ dd_cn (ga_add d (nI n9) (nI t9) tr) = dd_cn d ∧ dd_cf (ga_add d (nI n9) (nI t9) tr) = dd_cf d := by
      unfold ga_add
      split <;> exact ⟨rfl, rfl, rfl, rfl⟩
    refine h.classes hD (fun q z hq => ?_) (fun q z hq hq' => ?_)
    · by_cases hqj : q = j
      · subst hqj
        have : z = d := Option.some.inj (hq.symm.trans hc)
        subst this
        exact ⟨_, va_up_self _ _ _, ea.1, ea.2.1, ea.2.2.1, ea.2.2.2, Or.inr hu⟩
      · exact ⟨z, by show va_up cd j _ q = some z; rw [va_up_ne _ _ hqj]; exact hq, rfl, rfl, rfl, rfl, Or.inl rfl⟩
    · rcases va_up_cases hq' with ⟨rfl, rfl⟩ | ⟨-, h9⟩
      · rw [hc] at hq; exact absurd hq (by simp)
      · rw [hq] at h9; exact absurd h9 (by simp)
theorem va_td {td : Nat → TT} {mk : Nat} {t : TT} {i : Nat} (hi : i < mk) : va_up td mk t i = td i := va_up_ne _ _ (by omega)
/-- an object more that has no class of its own -/
theorem GI.push {cd : Nat → Option DT} {mk : Nat} {td : Nat → TT} (h : GI cd mk td) (hmk : mk < 12) {t : TT} (hrp : tt_rp t = -1) (hs : tt_so t = 1 ∨ tt_so t = 2 ∨ tt_so t = 3 ∨ tt_so t = 4) (h4 : tt_so t = 4 → ∃ k d, k < 6 ∧ tt_ow t = nI k ∧ cd k = some d ∧ dd_kd d = 3) (how : ¬ tt_so t = 4 → tt_ow t = -1) (h3 : tt_so t = 3 → ∀ q, q < tt_n t → wf_v mk (tt_va t q))
    (htx : (tt_so t = 4 → ∃ n, n < 26 ∧ tt_tx t = [nI (97 + n)]) ∧ (tt_so t = 1 → (tt_tx t).length ≤ 8 ∧ ∀ c ∈ tt_tx t, ∃ k : Nat, 0 < k ∧ k < 128 ∧ c = nI k) ∧ (tt_so t = 1 ∨ tt_so t = 4 → tt_n t = 0)) (hty : (tt_so t = 2 → tt_n t ≤ 6 ∧ ∀ q, q < tt_n t → tt_ty t q = 2) ∧ (tt_so t = 3 → tt_n t ≤ 4 ∧ ∀ q, q < tt_n t → tt_ty t q = 7) ∧ tt_n t ≤ 24) : GI cd (mk + 1) (va_up td mk t) := by
  have hn0 : ¬ tt_so t = 0 := by
    rcases hs with z | z | z | z <;> rw [z] <;> decide
  have sp : ∀ i, i < mk + 1 → i < mk ∨ i = mk := fun i hi => by omega
  refine ⟨h.gd, fun i hi => ?_, by omega, fun i hi => ?_, fun k d hk => ?_, fun i hi => ?_, fun i hi => ?_, fun i hi => ?_, fun i hi => ?_⟩
  · rcases sp i hi with q | q
    · rw [va_td q]
      obtain ⟨w1, w2, w3, w4, w5⟩ := h.wt i q
      exact ⟨w1.mono (by omega), w2, w3, fun z j hj => (w4 z j hj).mono (by omega), fun z k d hk hd => ⟨(w5 z k d hk hd).1, fun j c e f a1 a2 a3 a4 a5 => ((w5 z k d hk hd).2 j c e f a1 a2 a3 a4 a5).mono (by omega)⟩⟩
    · subst q; rw [va_up_self]
      refine ⟨Or.inl hrp, Or.inr hs, fun z => ?_, fun z j hj => (h3 z j hj).mono (by omega), fun z => absurd z hn0⟩
      rcases z with z | z
      · exact absurd z hn0
      · obtain ⟨k, d, a, b, c, -⟩ := h4 z; exact ⟨k, d, a, b, c⟩
  · rcases sp i hi with q | q
    · rw [va_td q]; exact h.ow i q
    · subst q; rw [va_up_self]; exact fun z => how (fun z4 => z (Or.inr z4))
  · refine ⟨(h.us k d hk).1, (h.us k d hk).2.trans ⟨fun ⟨i, hi, z⟩ => ⟨i, by omega, by rw [va_td hi]; exact z⟩, fun ⟨i, hi, z⟩ => ?_⟩⟩
    rcases sp i hi with q | q
    · rw [va_td q] at z; exact ⟨i, q, z⟩
    · subst q; rw [va_up_self] at z; exact absurd z.1 hn0
  · rcases sp i hi with q | q
    · rw [va_td q]; exact h.k3 i q
    · subst q; rw [va_up_self]
      intro k d hk hk6 hd
      refine ⟨fun z => absurd z hn0, fun z => ?_⟩
      obtain ⟨k2, d2, a, b, c, e⟩ := h4 z
      have ek : k = k2 := (nI_eq (by omega) (by omega)).mp (hk.symm.trans b)
      subst ek
      have : d = d2 := Option.some.inj (hd.symm.trans c)
      subst this; exact e
  · rcases sp i hi with q | q
    · rw [va_td q]; exact h.tx i q
    · subst q; rw [va_up_self]; exact htx
  · rcases sp i hi with q | q
    · rw [va_td q]; exact h.ty i q
    · subst q; rw [va_up_self]; exact ⟨hty.1, hty.2.1, hty.2.2, fun z => absurd z hn0⟩
  · rcases sp i hi with q | q
    · rw [va_td q]; exact h.rp i q
    · subst q; rw [va_up_self]; exact fun _ => hrp
/-- an object is put anew that keeps its sort, its class, its types, its text -/
theorem GI.obj {cd : Nat → Option DT} {mk : Nat} {td : Nat → TT} (h : GI cd mk td) {o : Nat} (ho : o < mk) {t : TT} (e1 : tt_so t = tt_so (td o)) (e2 : tt_ow t = tt_ow (td o)) (e3 : tt_n t = tt_n (td o)) (e4 : tt_ty t = tt_ty (td o)) (e5 : tt_tx t = tt_tx (td o)) (hrp : wf_g mk (tt_rp t)) (hrp2 : ¬ tt_so t = 0 → tt_rp t = -1) (hva : ∀ q, q < tt_n t → (¬ tt_ty t q < 6 → wf_v mk (tt_va (td o) q)) → ¬ tt_ty t q < 6 → wf_v mk (tt_va t q)) : GI cd mk (va_up td o t) := by
  have hne : ∀ i, ¬ i = o → va_up td o t i = td i := fun i hi => va_up_ne _ _ hi
  have same : ∀ i, tt_so (va_up td o t i) = tt_so (td i) ∧ tt_ow (va_up td o t i) = tt_ow (td i) ∧ tt_n (va_up td o t i) = tt_n (td i) ∧ tt_ty (va_up td o t i) = tt_ty (td i) ∧ tt_tx (va_up td o t i) = tt_tx (td i) := by
    intro i
    by_cases hi : i = o
    · subst hi; rw [va_up_self]; exact ⟨e1, e2, e3, e4, e5⟩
    · rw [hne i hi]; exact ⟨rfl, rfl, rfl, rfl, rfl⟩
  refine ⟨h.gd, fun i hi => ?_, h.mk12, fun i hi => ?_, fun k d hk => ?_, fun i hi => ?_, fun i hi => ?_, fun i hi => ?_, fun i hi => ?_⟩
  · by_cases hio : i = o
    · subst hio
      rw [va_up_self]
      obtain ⟨w1, w2, w3, w4, w5⟩ := h.wt i ho
      refine ⟨hrp, by rw [e1]; exact w2, by rw [e1, e2]; exact w3, fun z q hq => ?_, fun z k d hk hd => ?_⟩
      · rw [e1] at z
        have hq2 : q < tt_n (td i) := by rw [← e3]; exact hq
        have ht7 := ((h.ty i ho).2.1 z).2 q hq2
        exact hva q hq (fun _ => w4 z q hq2) (by rw [e4, ht7]; decide)
      · rw [e1] at z; rw [e2] at hk; rw [e3]
        obtain ⟨s1, s2⟩ := w5 z k d hk hd
        refine ⟨s1, fun j c e f a1 a2 a3 a4 a5 => ?_⟩
        have c6 := (h.gd.wd c e a3).1
        have hidx : ga_sum cd d j + f < tt_n (td i) := by
          have m1 : ∀ a b, a ≤ b → ga_sum cd d a ≤ ga_sum cd d b := by
            intro a b hab
            induction b with
            | zero => have : a = 0 := by omega
                      rw [this]; exact Nat.le_refl _
            | succ b ih =>
              by_cases hab2 : a = b + 1
              · rw [hab2]; exact Nat.le_refl _
              · exact Nat.le_trans (ih (by omega)) (Nat.le_add_right _ _)
          have m2 : ga_sum cd d (j + 1) = ga_sum cd d j + dd_fn e := by
            show ga_sum cd d j + (match cd (dd_cf d j).toNatClampNeg with | none => 0 | some d => dd_fn d) = _
            rw [a2, nI_clamp (by omega), a3]
          have := m1 (j + 1) (dd_cn d) (by omega)
          omega
        have hty := (h.ty i ho).2.2.2 z k d hk hd j c e f a1 a2 c6 a3 a4
        exact hva _ (by rw [e3]; exact hidx) (fun _ => s2 j c e f a1 a2 a3 a4 a5) (by rw [e4, hty]; exact a5)
    · rw [hne i hio]; exact h.wt i hi
  · obtain ⟨q1, q2, -⟩ := same i
    rw [q1, q2]; exact h.ow i hi
  · refine ⟨(h.us k d hk).1, (h.us k d hk).2.trans ⟨fun ⟨i, hi, z1, z2⟩ => ⟨i, hi, ?_⟩, fun ⟨i, hi, z⟩ => ⟨i, hi, ?_⟩⟩⟩
    · obtain ⟨q1, q2, -⟩ := same i
      unfold inch; rw [q1, q2]; exact ⟨z1, z2⟩
    · obtain ⟨q1, q2, -⟩ := same i
      unfold inch at z; rw [q1, q2] at z; exact z
  · obtain ⟨q1, q2, -⟩ := same i
    rw [q1, q2]; exact h.k3 i hi
  · obtain ⟨q1, q2, q3, q4, q5⟩ := same i
    rw [q1, q5, q3]; exact h.tx i hi
  · obtain ⟨q1, q2, q3, q4, q5⟩ := same i
    rw [q1, q3, q4, q2]; exact h.ty i hi
  · by_cases hio : i = o
    · subst hio; rw [va_up_self]; exact hrp2
    · rw [hne i hio]; exact h.rp i hi
theorem ga_made_some {mk : Nat} {o : Int32} (hm : mk < 2 ^ 31) (h : ¬ ga_made mk o = 0) : ∃ j, j < mk ∧ o = nI j ∧ o.toNatClampNeg = j := by
  unfold ga_made at h
  by_cases h0 : o < 0
  · rw [if_pos h0] at h; exact absurd rfl h
  rw [if_neg h0] at h
  by_cases h1 : nI mk ≤ o
  · rw [if_pos h1] at h; exact absurd rfl h
  obtain ⟨j, hj, e, ec⟩ := ix_i hm h0 h1
  exact ⟨j, hj, e, ec⟩
theorem GI.extra {cd : Nat → Option DT} {mk : Nat} {td : Nat → TT} (h : GI cd mk td) (o v : Int32) : GI cd mk (ga_extra mk td o v).2 := by
  unfold ga_extra
  by_cases h0 : ga_inst mk td o = 0
  · rw [if_pos h0]; exact h
  rw [if_neg h0]
  obtain ⟨j, hj, e, ec⟩ := ga_made_some (mk := mk) (o := o) (by have := h.mk12; omega) (fun z => h0 (by unfold ga_inst; rw [if_pos z]))
  rw [ec]
  exact h.obj hj rfl rfl rfl rfl rfl (h.wt j hj).1 (h.rp j hj) (fun q _ z hq => z hq)
theorem GI.replace {cd : Nat → Option DT} {mk : Nat} {td : Nat → TT} (h : GI cd mk td) (o p : Int32) : GI cd mk (ga_replace mk td o p).2 := by
  have hm := h.mk12
  unfold ga_replace
  by_cases h0 : ga_inst mk td o = 0 ∨ p = o
  · rw [if_pos h0]; exact h
  rw [if_neg h0]
  by_cases h1 : ¬ p = -1 ∧ ga_made mk p = 0
  · rw [if_pos h1]; exact h
  rw [if_neg h1]
  obtain ⟨j, hj, e, ec⟩ := ga_made_some (mk := mk) (o := o) (by omega) (fun z => h0 (Or.inl (by unfold ga_inst; rw [if_pos z])))
  rw [ec]
  have hs0 : tt_so (td j) = 0 := by
    by_cases z : tt_so (td j) = 0
    · exact z
    · exact absurd (Or.inl (show ga_inst mk td o = 0 by unfold ga_inst; split; rfl; rw [ec, if_neg z])) h0
  refine h.obj hj rfl rfl rfl rfl rfl ?_ (fun z => absurd hs0 z) (fun q _ z hq => z hq)
  show wf_g mk p
  by_cases h2 : p = -1
  · exact Or.inl h2
  · obtain ⟨i, hi, e2, -⟩ := ga_made_some (mk := mk) (o := p) (by omega) (fun z => h1 ⟨h2, z⟩)
    exact Or.inr ⟨i, hi, e2⟩
theorem ga_held_some {mk : Nat} {td : Nat → TT} {v : Int64} {ty : Int32} (hm : mk < 2 ^ 31) (h : ¬ ga_held mk td v ty = 0) : wf_v mk v := by
  unfold ga_held at h
  by_cases h0 : v = -1
  · exact Or.inl h0
  rw [if_neg h0] at h
  by_cases h1 : v < 0
  · rw [if_pos h1] at h; exact absurd rfl h
  rw [if_neg h1] at h
  by_cases h2 : lN mk ≤ v
  · rw [if_pos h2] at h; exact absurd rfl h
  obtain ⟨j, hj, e⟩ := ga_lix hm h1 (Int64.not_le.mp h2)
  exact Or.inr ⟨j, hj, e⟩
theorem GI.set {cd : Nat → Option DT} {mk : Nat} {td : Nat → TT} (h : GI cd mk td) (o k : Int32) (v : Int64) : GI cd mk (ga_set mk td o k v).2 := by
  have hm := h.mk12
  unfold ga_set
  by_cases h0 : ga_made mk o = 0
  · rw [if_pos h0]; exact h
  rw [if_neg h0]
  obtain ⟨j, hj, e, ec⟩ := ga_made_some (mk := mk) (o := o) (by omega) h0
  rw [ec]
  by_cases h1 : k < 0 ∨ nI (tt_n (td j)) ≤ k
  · rw [if_pos h1]; exact h
  rw [if_neg h1]
  by_cases h2 : ¬ tt_ty (td j) k.toNatClampNeg < 6 ∧ ga_held mk td v (tt_ty (td j) k.toNatClampNeg) = 0
  · rw [if_pos h2]; exact h
  rw [if_neg h2]
  refine h.obj hj rfl rfl rfl rfl rfl (h.wt j hj).1 (h.rp j hj) (fun q _ z hq => ?_)
  show wf_v mk (vp_updL (tt_va (td j)) k.toNatClampNeg v q)
  unfold vp_updL
  by_cases hqk : q = k.toNatClampNeg
  · rw [if_pos hqk]
    exact ga_held_some (by omega) (fun z9 => h2 ⟨by rw [← hqk]; exact hq, z9⟩)
  · rw [if_neg hqk]; exact z hq
theorem tt_v0_1 {ty : Nat → Int32} {n q : Nat} (hq : q < n) (h : ¬ ty q < 6) : tt_v0 ty n q = -1 := if_pos ⟨hq, h⟩
theorem GI.array {cd : Nat → Option DT} {mk : Nat} {td : Nat → TT} (h : GI cd mk td) (rf len : Int32) : GI cd (ga_array mk td rf len).2.1 (ga_array mk td rf len).2.2 := by
  have hm := h.mk12
  unfold ga_array
  by_cases h0 : len < 0 ∨ ¬ len ≤ (if rf = 0 then 6 else 4)
  · rw [if_pos h0]; exact h
  rw [if_neg h0]
  by_cases h1 : 12 ≤ nI mk
  · rw [if_pos h1]; exact h
  rw [if_neg h1]
  have hmk : mk < 12 := by
    by_cases h9 : mk < 12
    · exact h9
    · exact absurd (nI_le (a := 12) (by omega) (by omega)) h1
  have hl0 : ¬ len < 0 := fun z => h0 (Or.inl z)
  by_cases hr : rf = 0
  · rw [if_pos hr, if_pos hr]
    have hl : len ≤ 6 := by
      by_cases h9 : len ≤ 6
      · exact h9
      · exact absurd (Or.inr (by rw [if_pos hr]; exact h9)) h0
    obtain ⟨n, hn, e, ec⟩ := ix_i (x := len) (n := 7) (by decide) hl0 (fun z => absurd (Int32.le_trans z hl) (by decide))
    rw [ec]
    refine h.push hmk rfl (Or.inr (Or.inl rfl)) (fun z => absurd (show (2 : Int32) = _ from z) (by decide)) (fun _ => rfl) (fun z => absurd (show (2 : Int32) = _ from z) (by decide)) ⟨fun z => absurd (show (2 : Int32) = _ from z) (by decide), fun z => absurd (show (2 : Int32) = _ from z) (by decide), fun z => z.elim (fun z => absurd (show (2 : Int32) = 1 from z) (by decide)) (fun z => absurd (show (2 : Int32) = 4 from z) (by decide))⟩ ⟨fun _ => ⟨by show n ≤ 6; omega, fun q hq => if_pos hq⟩, fun z => absurd (show (2 : Int32) = _ from z) (by decide), by show n ≤ 24; omega⟩
  · rw [if_neg hr, if_neg hr]
    have hl : len ≤ 4 := by
      by_cases h9 : len ≤ 4
      · exact h9
      · exact absurd (Or.inr (by rw [if_neg hr]; exact h9)) h0
    obtain ⟨n, hn, e, ec⟩ := ix_i (x := len) (n := 5) (by decide) hl0 (fun z => absurd (Int32.le_trans z hl) (by decide))
    rw [ec]
    refine h.push hmk rfl (Or.inr (Or.inr (Or.inl rfl))) (fun z => absurd (show (3 : Int32) = _ from z) (by decide)) (fun _ => rfl) (fun _ q hq => Or.inl (show tt_v0 (fun j => if j < n then (7 : Int32) else 0) n q = -1 from tt_v0_1 (show q < n from hq) (by show ¬ (if q < n then (7 : Int32) else 0) < 6; rw [if_pos (show q < n from hq)]; decide))) ⟨fun z => absurd (show (3 : Int32) = _ from z) (by decide), fun z => absurd (show (3 : Int32) = _ from z) (by decide), fun z => z.elim (fun z => absurd (show (3 : Int32) = 1 from z) (by decide)) (fun z => absurd (show (3 : Int32) = 4 from z) (by decide))⟩ ⟨fun z => absurd (show (3 : Int32) = _ from z) (by decide), fun _ => ⟨by show n ≤ 4; omega, fun q hq => if_pos hq⟩, by show n ≤ 24; omega⟩
theorem sg_r_ok (v : Int64) : ∀ (r : Nat) (t : List Int32), t.length + r ≤ 8 → (∀ c ∈ t, ∃ k : Nat, 0 < k ∧ k < 128 ∧ c = nI k) → (sg_r v r t).length ≤ 8 ∧ ∀ c ∈ sg_r v r t, ∃ k : Nat, 0 < k ∧ k < 128 ∧ c = nI k := by
  intro r
  induction r with
  | zero => intro t ht hc; exact ⟨ht, hc⟩
  | succ r ih =>
    intro t ht hc
    show (if sg_c v (nI (8 * (r + 1)) - 8) = 0 then sg_r v r t else sg_r v r (t ++ [sg_c v (nI (8 * (r + 1)) - 8)])).length ≤ 8 ∧ ∀ c ∈ (if sg_c v (nI (8 * (r + 1)) - 8) = 0 then sg_r v r t else sg_r v r (t ++ [sg_c v (nI (8 * (r + 1)) - 8)])), ∃ k : Nat, 0 < k ∧ k < 128 ∧ c = nI k
    by_cases h0 : sg_c v (nI (8 * (r + 1)) - 8) = 0
    · rw [if_pos h0]; exact ih t (by omega) hc
    · rw [if_neg h0]
      refine ih _ (by rw [List.length_append, List.length_singleton]; omega) (fun c hm => ?_)
      rcases List.mem_append.mp hm with hm | hm
      · exact hc c hm
      · rw [List.mem_singleton] at hm
        obtain ⟨k, hk, e⟩ := sg_lt v (nI (8 * (r + 1)) - 8)
        refine ⟨k, ?_, hk, by rw [hm]; exact e⟩
        by_cases hk0 : k = 0
        · rw [e, hk0] at h0; exact absurd rfl h0
        · omega
theorem GI.text {cd : Nat → Option DT} {mk : Nat} {td : Nat → TT} (h : GI cd mk td) (sv : Int64) : GI cd (ga_text mk td sv).2.1 (ga_text mk td sv).2.2 := by
  have hm := h.mk12
  unfold ga_text
  by_cases h0 : ¬ lg_cmp (sv &&& (-9187201950435737472)) 0 = 0
  · rw [if_pos h0]; exact h
  rw [if_neg h0]
  by_cases h1 : 12 ≤ nI mk
  · rw [if_pos h1]; exact h
  rw [if_neg h1]
  have hmk : mk < 12 := by
    by_cases h9 : mk < 12
    · exact h9
    · exact absurd (nI_le (a := 12) (by omega) (by omega)) h1
  exact h.push hmk rfl (Or.inl rfl) (fun z => absurd (show (1 : Int32) = _ from z) (by decide)) (fun _ => rfl) (fun z => absurd (show (1 : Int32) = _ from z) (by decide)) ⟨fun z => absurd (show (1 : Int32) = _ from z) (by decide), fun _ => sg_r_ok sv 8 [] (by decide) (fun c hc => absurd hc (by simp)), fun _ => rfl⟩ ⟨fun z => absurd (show (1 : Int32) = _ from z) (by decide), fun z => absurd (show (1 : Int32) = _ from z) (by decide), by show 0 ≤ 24; omega⟩
theorem z9_ab : ∀ n, n < 26 → (z9_tx 0).getD n 0 = nI (97 + n) := by decide +kernel
theorem GI.constant {cd : Nat → Option DT} {mk : Nat} {td : Nat → TT} (h : GI cd mk td) (k n : Int32) : GI cd (ga_constant cd mk td k n).2.1 (ga_constant cd mk td k n).2.2 := by
  have hm := h.mk12
  unfold ga_constant
  by_cases h0 : ga_isdef cd k = 0 ∨ n < 0 ∨ ¬ n < 26
  · rw [if_pos h0]; exact h
  rw [if_neg h0]
  obtain ⟨j, d, hj, e, ec, hc⟩ := ga_isdef_some (fun z => h0 (Or.inl z))
  obtain ⟨n9, hn9, en, enc⟩ := ix_i (x := n) (n := 26) (by decide) (fun z => h0 (Or.inr (Or.inl z))) (fun z => h0 (Or.inr (Or.inr (Int32.not_lt.mpr z))))
  rw [ec, hc]
  simp only []
  by_cases h3 : ¬ dd_kd d = 3
  · rw [if_pos h3]; exact h
  rw [if_neg h3]
  by_cases h1 : 12 ≤ nI mk
  · rw [if_pos h1]; exact h
  rw [if_neg h1]
  have hmk : mk < 12 := by
    by_cases h9 : mk < 12
    · exact h9
    · exact absurd (nI_le (a := 12) (by omega) (by omega)) h1
  have hk3 : dd_kd d = 3 := by
    by_cases h9 : dd_kd d = 3
    · exact h9
    · exact absurd h9 h3
  exact h.push hmk rfl (Or.inr (Or.inr (Or.inr rfl))) (fun _ => ⟨j, d, hj, e, hc, hk3⟩) (fun z => absurd rfl z) (fun z => absurd z (show ¬ (4 : Int32) = 3 by decide)) ⟨fun _ => ⟨n9, hn9, by show [(z9_tx 0).getD n.toNatClampNeg 0] = _; rw [enc, z9_ab n9 hn9]⟩, fun z => absurd z (show ¬ (4 : Int32) = 1 by decide), fun _ => rfl⟩ ⟨fun z => absurd z (show ¬ (4 : Int32) = 2 by decide), fun z => absurd z (show ¬ (4 : Int32) = 3 by decide), by show 0 ≤ 24; omega⟩
/-- whom the making of an object marks -/
theorem use_at {cd : Nat → Option DT} {d0 : DT} (hch : ∀ q, q < dd_cn d0 → ∃ i di, i < 6 ∧ dd_cf d0 q = nI i ∧ cd i = some di) : ∀ j, j ≤ dd_cn d0 → ∀ i d, i < 6 → cd i = some d → ((∃ q, q < j ∧ dd_cf d0 q = nI i) → ga_use cd d0 j i = some (dd_su d 1)) ∧ (¬ (∃ q, q < j ∧ dd_cf d0 q = nI i) → ga_use cd d0 j i = some d) := by
  intro j
  induction j with
  | zero => intro _ i d _ h; exact ⟨fun ⟨q, hq, _⟩ => absurd hq (Nat.not_lt_zero _), fun _ => h⟩
  | succ j ih =>
    intro hj i d hi6 hid
    obtain ⟨c, e, hc6, hce, hcd⟩ := hch j (by omega)
    have ec : (dd_cf d0 j).toNatClampNeg = c := by rw [hce]; exact nI_clamp (by omega)
    obtain ⟨u1, u2⟩ := ih (by omega) c e hc6 hcd
    obtain ⟨e', he', hu⟩ : ∃ e', ga_use cd d0 j c = some e' ∧ dd_su e' 1 = dd_su e 1 := by
      by_cases hx : ∃ q, q < j ∧ dd_cf d0 q = nI c
      · exact ⟨_, u1 hx, rfl⟩
      · exact ⟨_, u2 hx, rfl⟩
    have es : ga_use cd d0 (j + 1) = va_up (ga_use cd d0 j) c (some (dd_su e 1)) := by
      show (match ga_use cd d0 j (dd_cf d0 j).toNatClampNeg with | none => ga_use cd d0 j | some d => va_up (ga_use cd d0 j) (dd_cf d0 j).toNatClampNeg (some (dd_su d 1))) = _
      rw [ec, he', ← hu]
    rw [es]
    by_cases hic : i = c
    · subst hic
      have : e = d := Option.some.inj (hcd.symm.trans hid)
      subst this
      rw [va_up_self]
      exact ⟨fun _ => rfl, fun z => absurd ⟨j, by omega, hce⟩ z⟩
    · rw [va_up_ne _ _ hic]
      obtain ⟨v1, v2⟩ := ih (by omega) i d hi6 hid
      refine ⟨fun ⟨q, hq, hqe⟩ => v1 ⟨q, ?_, hqe⟩, fun z => v2 (fun ⟨q, hq, hqe⟩ => z ⟨q, by omega, hqe⟩)⟩
      by_cases hqj : q = j
      · rw [hqj, hce] at hqe; exact absurd ((nI_eq (by omega) (by omega)).mp hqe).symm hic
      · omega
theorem sum_mono (cd : Nat → Option DT) (d : DT) {a b : Nat} (hab : a ≤ b) : ga_sum cd d a ≤ ga_sum cd d b := by
  induction b with
  | zero =>
    have : a = 0 := by omega
    rw [this]; exact Nat.le_refl _
  | succ b ih =>
    by_cases hab2 : a = b + 1
    · rw [hab2]; exact Nat.le_refl _
    · exact Nat.le_trans (ih (by omega)) (Nat.le_add_right _ _)
theorem sum_s {cd : Nat → Option DT} {d e : DT} {j c : Nat} (hc6 : c < 6) (h1 : dd_cf d j = nI c) (h2 : cd c = some e) : ga_sum cd d (j + 1) = ga_sum cd d j + dd_fn e := by
  show ga_sum cd d j + (match cd (dd_cf d j).toNatClampNeg with | none => 0 | some d => dd_fn d) = _
  rw [h1, nI_clamp (by omega), h2]
/-- the types of an object's slots -/
theorem sty_at {cd : Nat → Option DT} {d : DT} (hch : ∀ q, q < dd_cn d → ∃ i di, i < 6 ∧ dd_cf d q = nI i ∧ cd i = some di) : ∀ n, n ≤ dd_cn d → ∀ j c e f, j < n → dd_cf d j = nI c → c < 6 → cd c = some e → f < dd_fn e → ga_sty cd d n (ga_sum cd d j + f) = dd_ty e f := by
  intro n
  induction n with
  | zero => intro _ j c e f hj; exact absurd hj (Nat.not_lt_zero _)
  | succ n ih =>
    intro hn j c e f hj hc hc6 he hf
    obtain ⟨c2, e2, hc26, hce2, hcd2⟩ := hch n (by omega)
    have ec : (dd_cf d n).toNatClampNeg = c2 := by rw [hce2]; exact nI_clamp (by omega)
    have es : ga_sty cd d (n + 1) = va_cpy (dd_ty e2) (ga_sty cd d n) 0 (ga_sum cd d n) (dd_fn e2) := by
      show (match cd (dd_cf d n).toNatClampNeg with | none => ga_sty cd d n | some d' => va_cpy (dd_ty d') (ga_sty cd d n) 0 (ga_sum cd d n) (dd_fn d')) = _
      rw [ec, hcd2]
    rw [es]
    by_cases hjn : j = n
    · subst hjn
      have : c2 = c := (nI_eq (by omega) (by omega)).mp (hce2.symm.trans hc)
      subst this
      have : e2 = e := Option.some.inj (hcd2.symm.trans he)
      subst this
      unfold va_cpy
      rw [if_pos (by omega), show 0 + (ga_sum cd d j + f - ga_sum cd d j) = f by omega]
    · have h1 := sum_s hc6 hc he
      have h2 := sum_mono cd d (show j + 1 ≤ n by omega)
      unfold va_cpy
      rw [if_neg (by omega)]
      exact ih (by omega) j c e f (by omega) hc hc6 he hf
theorem GI.inst {cd : Nat → Option DT} {mk : Nat} {td : Nat → TT} (h : GI cd mk td) (k : Int32) : GI (ga_instance cd mk td k).2.1 (ga_instance cd mk td k).2.2.1 (ga_instance cd mk td k).2.2.2 := by
  have hm := h.mk12
  unfold ga_instance
  by_cases h0 : ga_isdef cd k = 0
  · rw [if_pos h0]; exact h
  rw [if_neg h0]
  obtain ⟨c, d, hc6, e, ec, hc⟩ := ga_isdef_some h0
  rw [ec, hc]
  simp only []
  by_cases h3 : dd_kd d = 3
  · rw [if_pos h3]; exact h
  rw [if_neg h3]
  by_cases h1 : 12 ≤ nI mk
  · rw [if_pos h1]; exact h
  rw [if_neg h1]
  have hmk : mk < 12 := by
    by_cases h9 : mk < 12
    · exact h9
    · exact absurd (nI_le (a := 12) (by omega) (by omega)) h1
  obtain ⟨w1, w2, w3, w4, -⟩ := h.gd.wd c d hc
  obtain ⟨c1, c2, -⟩ := h.gd.ch c d hc
  have hD := h.gd.use d (dd_cn d)
  have hat := use_at w3 (dd_cn d) (Nat.le_refl _)
  have hor := fun q => ga_use_or cd d q (dd_cn d)
  have hsum := fun d1 u n => ga_use_sum cd d (dd_cn d) d1 u n
  generalize ga_use cd d (dd_cn d) = cd' at *
  -- back and forth
  have fwd : ∀ q z, cd q = some z → ∃ u, cd' q = some (dd_su z u) := by
    intro q z hq
    rcases hor q with ⟨a, -⟩ | ⟨z2, u, a, b⟩
    · rw [hq] at a; exact absurd a (by simp)
    · have : z2 = z := Option.some.inj (a.symm.trans hq)
      subst this; exact ⟨u, b⟩
  have bwd : ∀ q z, cd' q = some z → ∃ y u, cd q = some y ∧ z = dd_su y u := by
    intro q z hq
    rcases hor q with ⟨-, a⟩ | ⟨z2, u, a, b⟩
    · rw [hq] at a; exact absurd a (by simp)
    · exact ⟨z2, u, a, Option.some.inj (hq.symm.trans b)⟩
  have sp : ∀ i, i < mk + 1 → i < mk ∨ i = mk := fun i hi => by omega
  have hnew : tt_ow (ga_ins cd k d) = nI c := e
  show GI cd' (mk + 1) (va_up td mk (ga_ins cd k d))
  refine ⟨hD, fun i hi => ?_, by omega, fun i hi => ?_, fun q z hq => ?_, fun i hi => ?_, fun i hi => ?_, fun i hi => ?_, fun i hi => ?_⟩
  · rcases sp i hi with q | q
    · rw [va_td q]
      obtain ⟨v1, v2, v3, v4, v5⟩ := h.wt i q
      refine ⟨v1.mono (by omega), v2, fun z => ?_, fun z j hj => (v4 z j hj).mono (by omega), fun z k2 d2 hk2 hd2 => ?_⟩
      · obtain ⟨k2, d2, a1, a2, a3⟩ := v3 z
        obtain ⟨u, a4⟩ := fwd k2 d2 a3
        exact ⟨k2, _, a1, a2, a4⟩
      · obtain ⟨y, u, hy, rfl⟩ := bwd k2 d2 hd2
        obtain ⟨s1, s2⟩ := v5 z k2 y hk2 hy
        refine ⟨by rw [show dd_cn (dd_su y u) = dd_cn y from rfl, hsum]; exact s1, fun j c' e' f b1 b2 b3 b4 b5 => ?_⟩
        obtain ⟨y2, u2, hy2, rfl⟩ := bwd c' e' b3
        rw [hsum]
        exact (s2 j c' y2 f b1 b2 hy2 b4 b5).mono (by omega)
    · subst q; rw [va_up_self]
      refine ⟨Or.inl rfl, Or.inl rfl, fun _ => ?_, fun z => absurd (show (0 : Int32) = 3 from z) (by decide), fun _ k2 d2 hk2 hd2 => ?_⟩
      · obtain ⟨u, a4⟩ := fwd c d hc
        exact ⟨c, _, hc6, hnew, a4⟩
      · have hk26 := (hD.wd k2 d2 hd2).1
        have ek : k2 = c := (nI_eq (by omega) (by omega)).mp (hk2.symm.trans hnew)
        subst ek
        obtain ⟨y, u, hy, rfl⟩ := bwd k2 d2 hd2
        have : y = d := Option.some.inj (hy.symm.trans hc)
        subst this
        refine ⟨by rw [show dd_cn (dd_su y u) = dd_cn y from rfl, hsum]; rfl, fun j c' e' f b1 b2 b3 b4 b5 => ?_⟩
        obtain ⟨y2, u2, hy2, rfl⟩ := bwd c' e' b3
        have hc'6 := (h.gd.wd c' y2 hy2).1
        rw [hsum]
        have m1 := sum_s (d := y) hc'6 b2 hy2
        have m2 := sum_mono cd y (show j + 1 ≤ dd_cn y from b1)
        have b4' : f < dd_fn y2 := b4
        refine Or.inl (tt_v0_1 (by omega) ?_)
        rw [sty_at w3 (dd_cn y) (Nat.le_refl _) j c' y2 f b1 b2 hc'6 hy2 b4]; exact b5
  · rcases sp i hi with q | q
    · rw [va_td q]; exact h.ow i q
    · subst q; rw [va_up_self]; exact fun z => absurd (Or.inl rfl) z
  · obtain ⟨y, u, hy, rfl⟩ := bwd q z hq
    have hq6 := (h.gd.wd q y hy).1
    obtain ⟨a1, a2⟩ := hat q y hq6 hy
    have old : (∃ i, i < mk ∧ inch cd (td i) q) → ∃ i, i < mk + 1 ∧ inch cd' (va_up td mk (ga_ins cd k d) i) q := by
      rintro ⟨i, hi, z0, c', dc, j, b1, b2, b3, b4, b5⟩
      obtain ⟨u2, b6⟩ := fwd c' dc b3
      exact ⟨i, by omega, by rw [va_td hi]; exact ⟨z0, c', _, j, b1, b2, b6, b4, b5⟩⟩
    by_cases hx : ∃ j, j < dd_cn d ∧ dd_cf d j = nI q
    · have : dd_su y u = dd_su y 1 := Option.some.inj (hq.symm.trans (a1 hx))
      rw [this]
      refine ⟨Or.inr rfl, fun _ => ?_, fun _ => rfl⟩
      obtain ⟨j, hj, hje⟩ := hx
      obtain ⟨u2, b6⟩ := fwd c d hc
      exact ⟨mk, by omega, by rw [va_up_self]; exact ⟨rfl, c, _, j, hc6, hnew, b6, hj, hje⟩⟩
    · have : dd_su y u = y := Option.some.inj (hq.symm.trans (a2 hx))
      rw [this]
      refine ⟨(h.us q y hy).1, fun z => old ((h.us q y hy).2.mp z), fun ⟨i, hi, z⟩ => (h.us q y hy).2.mpr ?_⟩
      rcases sp i hi with r | r
      · rw [va_td r] at z
        obtain ⟨z0, c', dc, j, b1, b2, b3, b4, b5⟩ := z
        obtain ⟨y2, u2, b6, rfl⟩ := bwd c' dc b3
        exact ⟨i, r, z0, c', y2, j, b1, b2, b6, b4, b5⟩
      · subst r; rw [va_up_self] at z
        obtain ⟨-, c', dc, j, b1, b2, b3, b4, b5⟩ := z
        have ek : c' = c := (nI_eq (by omega) (by omega)).mp (b2.symm.trans hnew)
        subst ek
        obtain ⟨y2, u2, b6, rfl⟩ := bwd c' dc b3
        have : y2 = d := Option.some.inj (b6.symm.trans hc)
        subst this
        exact absurd ⟨j, b4, b5⟩ hx
  · intro k2 d2 hk2 hk26 hd2
    obtain ⟨y, u, hy, rfl⟩ := bwd k2 d2 hd2
    rcases sp i hi with q | q
    · rw [va_td q] at hk2 ⊢; exact h.k3 i q k2 y hk2 hk26 hy
    · subst q; rw [va_up_self] at hk2 ⊢
      have ek : k2 = c := (nI_eq (by omega) (by omega)).mp (hk2.symm.trans hnew)
      subst ek
      have : y = d := Option.some.inj (hy.symm.trans hc)
      subst this
      exact ⟨fun _ => h3, fun z => absurd (show (0 : Int32) = 4 from z) (by decide)⟩
  · rcases sp i hi with q | q
    · rw [va_td q]; exact h.tx i q
    · subst q; rw [va_up_self]
      exact ⟨fun z => absurd (show (0 : Int32) = 4 from z) (by decide), fun z => absurd (show (0 : Int32) = 1 from z) (by decide), fun z => z.elim (fun z => absurd (show (0 : Int32) = 1 from z) (by decide)) (fun z => absurd (show (0 : Int32) = 4 from z) (by decide))⟩
  · rcases sp i hi with q | q
    · rw [va_td q]
      obtain ⟨y1, y2, y3, y4⟩ := h.ty i q
      refine ⟨y1, y2, y3, fun z k2 d2 hk2 hd2 j c' e' f b1 b2 b3 b4 b5 => ?_⟩
      obtain ⟨y, u, hy, rfl⟩ := bwd k2 d2 hd2
      obtain ⟨y5, u2, hy5, rfl⟩ := bwd c' e' b4
      rw [hsum]; exact y4 z k2 y hk2 hy j c' y5 f b1 b2 b3 hy5 b5
    · subst q; rw [va_up_self]
      refine ⟨fun z => absurd (show (0 : Int32) = 2 from z) (by decide), fun z => absurd (show (0 : Int32) = 3 from z) (by decide), ?_, fun _ k2 d2 hk2 hd2 j c' e' f b1 b2 b3 b4 b5 => ?_⟩
      · show ga_sum cd d (dd_cn d) ≤ 24
        have := ga_sum_4 h.gd.wd d (dd_cn d); omega
      · have hk26 := (hD.wd k2 d2 hd2).1
        have ek : k2 = c := (nI_eq (by omega) (by omega)).mp (hk2.symm.trans hnew)
        subst ek
        obtain ⟨y, u, hy, rfl⟩ := bwd k2 d2 hd2
        have : y = d := Option.some.inj (hy.symm.trans hc)
        subst this
        obtain ⟨y5, u2, hy5, rfl⟩ := bwd c' e' b4
        rw [hsum]
        exact sty_at w3 (dd_cn y) (Nat.le_refl _) j c' y5 f b1 b2 b3 hy5 b5
  · rcases sp i hi with q | q
    · rw [va_td q]; exact h.rp i q
    · subst q; rw [va_up_self]; exact fun _ => rfl
