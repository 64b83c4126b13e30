/-! what holds of the classes at all times -/
def dn_n (cd : Nat → Option DT) : Nat → Nat
  | 0 => 0
  | n + 1 => dn_n cd n + (if (cd n).isSome then 1 else 0)
theorem dn_le (cd : Nat → Option DT) : ∀ n, dn_n cd n ≤ n := by
  intro n
  induction n with
  | zero => exact Nat.le_refl _
  | succ n ih => unfold dn_n; split <;> omega
theorem dn_up {cd : Nat → Option DT} {k : Nat} {d : DT} (h : cd k = none) : ∀ n, dn_n (va_up cd k (some d)) n = dn_n cd n + (if k < n then 1 else 0) := by
  intro n
  induction n with
  | zero => rfl
  | succ n ih =>
    unfold dn_n
    rw [ih]
    by_cases hk : n = k
    · subst hk
      rw [va_up_self, h]
      simp
    · rw [va_up_ne _ _ hk]
      by_cases h1 : k < n
      · rw [if_pos h1, if_pos (show k < n + 1 by omega)]; omega
      · rw [if_neg h1, if_neg (show ¬ k < n + 1 by omega)]; omega
theorem dn_set {cd : Nat → Option DT} {k : Nat} {d e : DT} (h : cd k = some e) : ∀ n, dn_n (va_up cd k (some d)) n = dn_n cd n := by
  intro n
  induction n with
  | zero => rfl
  | succ n ih =>
    unfold dn_n
    rw [ih]
    by_cases hk : n = k
    · subst hk
      rw [va_up_self, h]; rfl
    · rw [va_up_ne _ _ hk]
def rk (d : DT) (f : Nat) : Nat := (if 6 ≤ dd_ty d f then 26 else 0) + (dd_nm d f).toNatClampNeg
/-- the way up: each class's chain begins with its superclass's -/
def chn (cd : Nat → Option DT) (k : Nat) (d : DT) : Prop := 1 ≤ dd_cn d ∧ dd_cf d (dd_cn d - 1) = nI k ∧ ∀ j, j < dd_cn d → ∃ p dp, p < 6 ∧ dd_cf d j = nI p ∧ cd p = some dp ∧ dd_cn dp = j + 1 ∧ ∀ i, i ≤ j → dd_cf dp i = dd_cf d i
abbrev GD (cd : Nat → Option DT) : Prop :=
  (wf_d cd) ∧
  (∀ k d, cd k = some d → dd_sh d ≤ dd_fn d) ∧
  (∀ k d, cd k = some d → dd_cn d ≤ dn_n cd 6) ∧
  (∀ k d, cd k = some d → chn cd k d) ∧
  (∀ k d, cd k = some d → ∀ i j, i < j → j < dd_sh d → rk d (dd_or d i).toNatClampNeg < rk d (dd_or d j).toNatClampNeg) ∧
  (∀ k d, cd k = some d → ∀ f g, f < dd_fn d → g < dd_fn d → dd_nm d f = dd_nm d g → f = g) ∧
  (∀ k d, cd k = some d → ∃ j, j < 5 ∧ dd_kd d = nI j) ∧
  (∀ k d p dp j, cd k = some d → j + 1 < dd_cn d → dd_cf d j = nI p → p < 6 → cd p = some dp → (dd_kd dp ≤ 2 ∧ dd_kd d ≤ 2) ∧ (dd_kd d = 0 → dd_kd dp = 0)) ∧
  (∀ k d, cd k = some d → dd_kd d = 3 → dd_fn d = 0 ∧ dd_id d = 0)
theorem GD.wd {cd : Nat → Option DT} (h : GD cd) : wf_d cd := h.1
theorem GD.sf {cd : Nat → Option DT} (h : GD cd) : ∀ k d, cd k = some d → dd_sh d ≤ dd_fn d := h.2.1
theorem GD.cn {cd : Nat → Option DT} (h : GD cd) : ∀ k d, cd k = some d → dd_cn d ≤ dn_n cd 6 := h.2.2.1
theorem GD.ch {cd : Nat → Option DT} (h : GD cd) : ∀ k d, cd k = some d → chn cd k d := h.2.2.2.1
theorem GD.sr {cd : Nat → Option DT} (h : GD cd) : ∀ k d, cd k = some d → ∀ i j, i < j → j < dd_sh d → rk d (dd_or d i).toNatClampNeg < rk d (dd_or d j).toNatClampNeg := h.2.2.2.2.1
theorem GD.nm {cd : Nat → Option DT} (h : GD cd) : ∀ k d, cd k = some d → ∀ f g, f < dd_fn d → g < dd_fn d → dd_nm d f = dd_nm d g → f = g := h.2.2.2.2.2.1
theorem GD.kd {cd : Nat → Option DT} (h : GD cd) : ∀ k d, cd k = some d → ∃ j, j < 5 ∧ dd_kd d = nI j := h.2.2.2.2.2.2.1
theorem GD.kk {cd : Nat → Option DT} (h : GD cd) : ∀ k d p dp j, cd k = some d → j + 1 < dd_cn d → dd_cf d j = nI p → p < 6 → cd p = some dp → (dd_kd dp ≤ 2 ∧ dd_kd d ≤ 2) ∧ (dd_kd d = 0 → dd_kd dp = 0) := h.2.2.2.2.2.2.2.1
theorem GD.e3 {cd : Nat → Option DT} (h : GD cd) : ∀ k d, cd k = some d → dd_kd d = 3 → dd_fn d = 0 ∧ dd_id d = 0 := h.2.2.2.2.2.2.2.2
theorem GD.zero : GD (fun _ => none) := ⟨fun _ _ h => absurd h (by simp), fun _ _ h => absurd h (by simp), fun _ _ h => absurd h (by simp), fun _ _ h => absurd h (by simp), fun _ _ h => absurd h (by simp), fun _ _ h => absurd h (by simp), fun _ _ h => absurd h (by simp), fun _ _ _ _ _ h => absurd h (by simp), fun _ _ h => absurd h (by simp)⟩
theorem va_up_cases {cd : Nat → Option DT} {k q : Nat} {e d : DT} (h : va_up cd k (some e) q = some d) : (q = k ∧ d = e) ∨ (¬ q = k ∧ cd q = some d) := by
  by_cases hq : q = k
  · subst hq; rw [va_up_self] at h; exact Or.inl ⟨rfl, (Option.some.inj h).symm⟩
  · rw [va_up_ne _ _ hq] at h; exact Or.inr ⟨hq, h⟩
/-- a class is put anew that keeps its chain and its kind -/
theorem GD.put {cd : Nat → Option DT} (h : GD cd) {k : Nat} {d e : DT} (hd : cd k = some d) (hcn : dd_cn e = dd_cn d) (hcf : dd_cf e = dd_cf d) (hkd : dd_kd e = dd_kd d) (hfn : dd_fn e ≤ 4) (hsf : dd_sh e ≤ dd_fn e) (hor : ∀ i, i < dd_sh e → ∃ f, f < dd_fn e ∧ dd_or e i = nI f) (hnm : ∀ f, f < 4 → ∃ n, n < 26 ∧ dd_nm e f = nI n) (hty : ∀ f, f < 4 → ∃ t, t < 8 ∧ dd_ty e f = nI t) (hsr : ∀ i j, i < j → j < dd_sh e → rk e (dd_or e i).toNatClampNeg < rk e (dd_or e j).toNatClampNeg) (hdi : ∀ f g, f < dd_fn e → g < dd_fn e → dd_nm e f = dd_nm e g → f = g) (he3 : dd_kd e = 3 → dd_fn e = 0 ∧ dd_id e = 0) : GD (va_up cd k (some e)) := by
  have hk6 := (h.wd k d hd).1
  refine ⟨?_, ?_, ?_, ?_, ?_, ?_, ?_, ?_, ?_⟩
  · intro q z hq
    have hdef : ∀ i di, cd i = some di → ∃ di', va_up cd k (some e) i = some di' := by
      intro i di hi
      by_cases hik : i = k
      · subst hik; exact ⟨e, va_up_self _ _ _⟩
      · exact ⟨di, by rw [va_up_ne _ _ hik]; exact hi⟩
    rcases va_up_cases hq with ⟨rfl, rfl⟩ | ⟨hqk, hq⟩
    · obtain ⟨w1, w2, w3, -⟩ := h.wd _ d hd
      refine ⟨w1, by rw [hcn]; exact w2, fun j hj => ?_, hfn, by omega, hor, hnm, hty⟩
      obtain ⟨i, di, a, b, c⟩ := w3 j (by rw [← hcn]; exact hj)
      obtain ⟨di', c'⟩ := hdef i di c
      exact ⟨i, di', a, by rw [hcf]; exact b, c'⟩
    · obtain ⟨w1, w2, w3, w4⟩ := h.wd q z hq
      refine ⟨w1, w2, fun j hj => ?_, w4⟩
      obtain ⟨i, di, a, b, c⟩ := w3 j hj
      obtain ⟨di', c'⟩ := hdef i di c
      exact ⟨i, di', a, b, c'⟩
  · intro q z hq
    rcases va_up_cases hq with ⟨rfl, rfl⟩ | ⟨-, hq⟩
    · exact hsf
    · exact h.sf q z hq
  · intro q z hq
    rw [dn_set hd]
    rcases va_up_cases hq with ⟨rfl, rfl⟩ | ⟨-, hq⟩
    · rw [hcn]; exact h.cn _ d hd
    · exact h.cn q z hq
  · have key : ∀ q z, cd q = some z → ∀ j, j < dd_cn z → ∃ p dp, p < 6 ∧ dd_cf z j = nI p ∧ va_up cd k (some e) p = some dp ∧ dd_cn dp = j + 1 ∧ ∀ i, i ≤ j → dd_cf dp i = dd_cf z i := by
      intro q z hq j hj
      obtain ⟨p, dp, a, b, c, f, g⟩ := (h.ch q z hq).2.2 j hj
      by_cases hpk : p = k
      · subst hpk
        have : dp = d := Option.some.inj (c.symm.trans hd)
        subst this
        exact ⟨p, e, a, b, va_up_self _ _ _, by rw [hcn]; exact f, fun i hi => by rw [hcf]; exact g i hi⟩
      · exact ⟨p, dp, a, b, by rw [va_up_ne _ _ hpk]; exact c, f, g⟩
    intro q z hq
    rcases va_up_cases hq with ⟨rfl, rfl⟩ | ⟨hqk, hq⟩
    · obtain ⟨c1, c2, -⟩ := h.ch _ d hd
      refine ⟨by rw [hcn]; exact c1, by rw [hcn, hcf]; exact c2, fun j hj => ?_⟩
      rw [hcn] at hj
      rw [hcf]
      exact key _ d hd j hj
    · obtain ⟨c1, c2, -⟩ := h.ch q z hq
      exact ⟨c1, c2, key q z hq⟩
  · intro q z hq
    rcases va_up_cases hq with ⟨rfl, rfl⟩ | ⟨-, hq⟩
    · exact hsr
    · exact h.sr q z hq
  · intro q z hq
    rcases va_up_cases hq with ⟨rfl, rfl⟩ | ⟨-, hq⟩
    · exact hdi
    · exact h.nm q z hq
  · intro q z hq
    rcases va_up_cases hq with ⟨rfl, rfl⟩ | ⟨-, hq⟩
    · rw [hkd]; exact h.kd _ d hd
    · exact h.kd q z hq
  · have hback : ∀ p dp, va_up cd k (some e) p = some dp → ∃ dp', cd p = some dp' ∧ dd_kd dp = dd_kd dp' := by
      intro p dp hp
      rcases va_up_cases hp with ⟨rfl, rfl⟩ | ⟨-, hp⟩
      · exact ⟨d, hd, hkd⟩
      · exact ⟨dp, hp, rfl⟩
    intro q z p dp j hq hj hp hp6 hdp
    obtain ⟨dp', hdp', ek⟩ := hback p dp hdp
    rw [ek]
    rcases va_up_cases hq with ⟨rfl, rfl⟩ | ⟨-, hq⟩
    · rw [hkd]; exact h.kk _ d p dp' j hd (by rw [← hcn]; exact hj) (by rw [← hcf]; exact hp) hp6 hdp'
    · exact h.kk q z p dp' j hq hj hp hp6 hdp'
  · intro q z hq
    rcases va_up_cases hq with ⟨rfl, rfl⟩ | ⟨-, hq⟩
    · exact he3
    · exact h.e3 q z hq
theorem GD.used {cd : Nat → Option DT} (h : GD cd) {k : Nat} {d : DT} (hd : cd k = some d) (u : Int32) : GD (va_up cd k (some (dd_su d u))) := by
  obtain ⟨-, -, -, w4, w5, w6, w7, w8⟩ := h.wd k d hd
  exact h.put hd rfl rfl rfl w4 (h.sf k d hd) w6 w7 w8 (h.sr k d hd) (h.nm k d hd) (h.e3 k d hd)
theorem GD.use {cd : Nat → Option DT} (h : GD cd) (d0 : DT) : ∀ j, GD (ga_use cd d0 j) := by
  intro j
  induction j with
  | zero => exact h
  | succ j ih =>
    show GD (match ga_use cd d0 j (dd_cf d0 j).toNatClampNeg with | none => ga_use cd d0 j | some d => va_up (ga_use cd d0 j) (dd_cf d0 j).toNatClampNeg (some (dd_su d 1)))
    rcases hq : ga_use cd d0 j (dd_cf d0 j).toNatClampNeg with _ | d
    · exact ih
    · exact ih.used hq 1
/-- a field's place -/
theorem pio_spec (d : DT) (f : Nat) : ∀ (p : Nat) (o : Nat → Int32), ∃ s, s ≤ p ∧ (∀ i, i < s → ga_pio d f p o i = o i) ∧ ga_pio d f p o s = nI f ∧ (∀ i, s < i → i ≤ p → ga_pio d f p o i = o (i - 1)) ∧ (∀ i, p < i → ga_pio d f p o i = o i) ∧ (s = 0 ∨ ga_rank d (o (s - 1)).toNatClampNeg ≤ ga_rank d f) ∧ ∀ i, s ≤ i → i < p → ga_rank d f < ga_rank d (o i).toNatClampNeg := by
  intro p
  induction p with
  | zero =>
    intro o
    exact ⟨0, Nat.le_refl _, fun i hi => absurd hi (Nat.not_lt_zero _), pk_us, fun i h1 h2 => by omega, fun i hi => pk_un (by omega), Or.inl rfl, fun i _ hi => absurd hi (Nat.not_lt_zero _)⟩
  | succ p ih =>
    intro o
    by_cases hr : ga_rank d (o p).toNatClampNeg ≤ ga_rank d f
    · have e : ga_pio d f (p + 1) o = upd o (p + 1) (nI f) := if_pos hr
      rw [e]
      exact ⟨p + 1, Nat.le_refl _, fun i hi => pk_un (by omega), pk_us, fun i h1 h2 => by omega, fun i hi => pk_un (by omega), Or.inr hr, fun i h1 h2 => by omega⟩
    · have e : ga_pio d f (p + 1) o = ga_pio d f p (upd o (p + 1) (o p)) := if_neg hr
      rw [e]
      obtain ⟨s, hs, a, b, c, g, m, n⟩ := ih (upd o (p + 1) (o p))
      refine ⟨s, by omega, fun i hi => by rw [a i hi, pk_un (by omega)], b, fun i h1 h2 => ?_, fun i hi => by rw [g i (by omega), pk_un (by omega)], ?_, fun i h1 h2 => ?_⟩
      · by_cases hip : i = p + 1
        · subst hip; rw [g _ (by omega), pk_us]; rfl
        · rw [c i h1 (by omega), pk_un (by omega)]
      · rcases m with m | m
        · exact Or.inl m
        · by_cases hs0 : s = 0
          · exact Or.inl hs0
          · rw [pk_un (by omega)] at m; exact Or.inr m
      · by_cases hip : i = p
        · subst hip; exact Int32.not_le.mp hr
        · have := n i h1 (by omega)
          rwa [pk_un (by omega)] at this
theorem rk_ok {d : DT} {f n : Nat} (hn : n < 26) (h : dd_nm d f = nI n) : ga_rank d f = nI (rk d f) ∧ rk d f < 52 := by
  unfold ga_rank rk
  rw [h, nI_clamp (by omega)]
  by_cases h6 : 6 ≤ dd_ty d f
  · rw [if_pos h6, if_pos h6]; exact ⟨nI_add 26 n, by omega⟩
  · rw [if_neg h6, if_neg h6, Nat.zero_add]; exact ⟨rfl, by omega⟩
theorem GD.new {cd : Nat → Option DT} (h : GD cd) {k : Nat} (hk : k < 6) (hno : cd k = none) {e : DT} (hfn : dd_fn e = 0) (hsh : dd_sh e = 0) (hnm : ∀ f, dd_nm e f = 0) (hty : ∀ f, dd_ty e f = 0) (hkd : ∃ j, j < 5 ∧ dd_kd e = nI j) (hid3 : dd_kd e = 3 → dd_id e = 0) (hkk : ∀ p dp j, j + 1 < dd_cn e → dd_cf e j = nI p → p < 6 → cd p = some dp → (dd_kd dp ≤ 2 ∧ dd_kd e ≤ 2) ∧ (dd_kd e = 0 → dd_kd dp = 0)) (hcn : dd_cn e ≤ dn_n cd 6 + 1) (hc1 : 1 ≤ dd_cn e) (hla : dd_cf e (dd_cn e - 1) = nI k) (hpre : ∀ j, j + 1 < dd_cn e → ∃ p dp, p < 6 ∧ dd_cf e j = nI p ∧ cd p = some dp ∧ dd_cn dp = j + 1 ∧ ∀ i, i ≤ j → dd_cf dp i = dd_cf e i) : GD (va_up cd k (some e)) := by
  have hdn := dn_up (d := e) hno 6
  rw [if_pos hk] at hdn
  have hd6 := dn_le (va_up cd k (some e)) 6
  have hdef : ∀ i di, cd i = some di → va_up cd k (some e) i = some di := by
    intro i di hi
    have : i ≠ k := fun z => by rw [z, hno] at hi; exact absurd hi (by simp)
    rw [va_up_ne _ _ this]; exact hi
  have key : ∀ j, j < dd_cn e → ∃ p dp, p < 6 ∧ dd_cf e j = nI p ∧ va_up cd k (some e) p = some dp ∧ dd_cn dp = j + 1 ∧ ∀ i, i ≤ j → dd_cf dp i = dd_cf e i := by
    intro j hj
    by_cases hj2 : j + 1 < dd_cn e
    · obtain ⟨p, dp, a, b, c, f, g⟩ := hpre j hj2
      exact ⟨p, dp, a, b, hdef p dp c, f, g⟩
    · have ej : j = dd_cn e - 1 := by omega
      exact ⟨k, e, hk, by rw [ej]; exact hla, va_up_self _ _ _, by omega, fun _ _ => rfl⟩
  refine ⟨?_, ?_, ?_, ?_, ?_, ?_, ?_, ?_, ?_⟩
  · intro q z hq
    rcases va_up_cases hq with ⟨rfl, rfl⟩ | ⟨hqk, hq⟩
    · refine ⟨hk, by omega, fun j hj => ?_, by omega, by omega, fun i hi => by omega, fun f _ => ⟨0, by decide, hnm f⟩, fun f _ => ⟨0, by decide, hty f⟩⟩
      obtain ⟨p, dp, a, b, c, -⟩ := key j hj
      exact ⟨p, dp, a, b, c⟩
    · obtain ⟨w1, w2, w3, w4⟩ := h.wd q z hq
      refine ⟨w1, w2, fun j hj => ?_, w4⟩
      obtain ⟨i, di, a, b, c⟩ := w3 j hj
      exact ⟨i, di, a, b, hdef i di c⟩
  · intro q z hq
    rcases va_up_cases hq with ⟨rfl, rfl⟩ | ⟨-, hq⟩
    · omega
    · exact h.sf q z hq
  · intro q z hq
    rcases va_up_cases hq with ⟨rfl, rfl⟩ | ⟨-, hq⟩
    · omega
    · have := h.cn q z hq; omega
  · intro q z hq
    rcases va_up_cases hq with ⟨rfl, rfl⟩ | ⟨hqk, hq⟩
    · exact ⟨hc1, hla, key⟩
    · obtain ⟨c1, c2, c3⟩ := h.ch q z hq
      refine ⟨c1, c2, fun j hj => ?_⟩
      obtain ⟨p, dp, a, b, c, f, g⟩ := c3 j hj
      exact ⟨p, dp, a, b, hdef p dp c, f, g⟩
  · intro q z hq
    rcases va_up_cases hq with ⟨rfl, rfl⟩ | ⟨-, hq⟩
    · intro i j _ hj; omega
    · exact h.sr q z hq
  · intro q z hq
    rcases va_up_cases hq with ⟨rfl, rfl⟩ | ⟨-, hq⟩
    · intro f g hf; omega
    · exact h.nm q z hq
  · intro q z hq
    rcases va_up_cases hq with ⟨rfl, rfl⟩ | ⟨-, hq⟩
    · exact hkd
    · exact h.kd q z hq
  · intro q z p dp j hq hj hp hp6 hdp
    have hd2 : ∀ (z : DT), j + 1 < dd_cn z → dd_cf z j = nI p → (∃ p' dp', p' < 6 ∧ dd_cf z j = nI p' ∧ cd p' = some dp') → cd p = some dp := by
      intro z _ h2 ⟨p', dp', a, b, c⟩
      have : p = p' := (nI_eq (by omega) (by omega)).mp (h2.symm.trans b)
      subst this
      have := hdef p dp' c
      rw [this] at hdp
      rw [c]; exact hdp
    rcases va_up_cases hq with ⟨rfl, rfl⟩ | ⟨-, hq⟩
    · refine hkk p dp j hj hp hp6 (hd2 z hj hp ?_)
      obtain ⟨p', dp', a, b, c, -⟩ := hpre j hj
      exact ⟨p', dp', a, b, c⟩
    · refine h.kk q z p dp j hq hj hp hp6 (hd2 z hj hp ?_)
      obtain ⟨p', dp', a, b, c, -⟩ := (h.ch q z hq).2.2 j (by omega)
      exact ⟨p', dp', a, b, c⟩
  · intro q z hq
    rcases va_up_cases hq with ⟨rfl, rfl⟩ | ⟨-, hq⟩
    · intro z9; exact ⟨hfn, hid3 z9⟩
    · exact h.e3 q z hq
theorem cpy_lo (f g : Nat → Int32) (n i : Nat) (hi : i < n) : va_cpy f g 0 0 n i = f i := by
  simp [va_cpy, hi]
theorem ix_i {x : Int32} {n : Nat} (hn : n < 2 ^ 31) (h0 : ¬ x < 0) (h1 : ¬ nI n ≤ x) : ∃ j, j < n ∧ x = nI j ∧ x.toNatClampNeg = j := by
  obtain ⟨j, hj, rfl⟩ := nI_of h0
  have : j < n := (nI_ltI hj hn).mp (Int32.not_le.mp h1)
  exact ⟨j, this, rfl, nI_clamp hj⟩
theorem ga_isdef_some {cd : Nat → Option DT} {k : Int32} (h : ¬ ga_isdef cd k = 0) : ∃ j d, j < 6 ∧ k = nI j ∧ k.toNatClampNeg = j ∧ cd j = some d := by
  unfold ga_isdef at h
  by_cases h0 : k < 0
  · rw [if_pos h0] at h; exact absurd rfl h
  rw [if_neg h0] at h
  by_cases h1 : 6 ≤ k
  · rw [if_pos h1] at h; exact absurd rfl h
  rw [if_neg h1] at h
  obtain ⟨j, hj, e, ec⟩ := ix_i (n := 6) (by decide) h0 h1
  rw [ec] at h
  rcases hc : cd j with _ | d
  · rw [hc] at h; exact absurd rfl h
  · exact ⟨j, d, hj, e, ec, hc⟩
/-- define's superclass: none, or a class -/
theorem ga_above_some {cd : Nat → Option DT} {sp kd : Int32} (h : ¬ ga_above cd sp kd = 0) : ∃ j d, j < 6 ∧ sp = nI j ∧ sp.toNatClampNeg = j ∧ cd j = some d ∧ (dd_kd d ≤ 2 ∧ kd ≤ 2) ∧ (kd = 0 → dd_kd d = 0) := by
  unfold ga_above at h
  by_cases h0 : ga_isdef cd sp = 0
  · rw [if_pos h0] at h; exact absurd rfl h
  rw [if_neg h0] at h
  obtain ⟨j, d, hj, e1, e2, hc⟩ := ga_isdef_some h0
  rw [e2, hc] at h
  simp only [] at h
  by_cases h1 : 2 < dd_kd d
  · rw [if_pos h1] at h; exact absurd rfl h
  rw [if_neg h1] at h
  by_cases h2 : 2 < kd
  · rw [if_pos h2] at h; exact absurd rfl h
  rw [if_neg h2] at h
  refine ⟨j, d, hj, e1, e2, hc, ⟨Int32.not_lt.mp h1, Int32.not_lt.mp h2⟩, fun z => ?_⟩
  rw [if_pos z] at h
  by_cases h3 : dd_kd d = 0
  · exact h3
  · rw [if_neg h3] at h; exact absurd rfl h
theorem GD.kls {cd : Nat → Option DT} (h : GD cd) {k : Nat} (hk : k < 6) (hno : cd k = none) {kd sp : Int32} {id : Int64} (hkd : ∃ j, j < 5 ∧ kd = nI j) (hsp : sp = -1 ∨ ∃ p dp, p < 6 ∧ sp = nI p ∧ sp.toNatClampNeg = p ∧ cd p = some dp ∧ (dd_kd dp ≤ 2 ∧ kd ≤ 2) ∧ (kd = 0 → dd_kd dp = 0)) : GD (va_up cd k (some (ga_kls cd k kd sp id))) := by
  rcases hsp with rfl | ⟨p, dp, hp, rfl, ep, hdp, hpk⟩
  · refine h.new hk hno rfl rfl (fun _ => rfl) (fun _ => rfl) hkd (fun z => if_pos z) (fun p dp j hj => absurd (show j + 1 < 1 from hj) (by omega)) ?_ (Nat.le_refl 1) ?_ (fun j hj => ?_)
    · show ga_chn cd (-1) ≤ _; rw [show ga_chn cd (-1) = 1 from if_pos rfl]; omega
    · show ga_chf cd k (-1) (ga_chn cd (-1) - 1) = nI k
      rw [show ga_chn cd (-1) = 1 from if_pos rfl, show ga_chf cd k (-1) = upd (fun _ => 0) 0 (nI k) from if_pos rfl]
      exact pk_us
    · have : j + 1 < ga_chn cd (-1) := hj
      rw [show ga_chn cd (-1) = 1 from if_pos rfl] at this; omega
  · have e1 : ga_chn cd (nI p) = dd_cn dp + 1 := by
      unfold ga_chn; rw [if_neg (nI_ne1 (by omega)), ep, hdp]
    have e2 : ga_chf cd k (nI p) = upd (va_cpy (dd_cf dp) (fun _ => 0) 0 0 (dd_cn dp)) (dd_cn dp) (nI k) := by
      unfold ga_chf; rw [if_neg (nI_ne1 (by omega)), ep, hdp]
    obtain ⟨c1, c2, c3⟩ := h.ch p dp hdp
    refine h.new hk hno rfl rfl (fun _ => rfl) (fun _ => rfl) hkd (fun z => if_pos z) (fun p2 dp2 j hj hc2 hp6 hdp2 => ?_) ?_ ?_ ?_ (fun j hj => ?_)
    · have hj2 : j + 1 < ga_chn cd (nI p) := hj
      rw [e1] at hj2
      have hc3 : ga_chf cd k (nI p) j = nI p2 := hc2
      rw [e2, pk_un (by omega), cpy_lo _ _ _ _ (by omega)] at hc3
      by_cases hjl : j + 1 < dd_cn dp
      · have := h.kk p dp p2 dp2 j hdp hjl hc3 hp6 hdp2
        exact ⟨⟨this.1.1, hpk.1.2⟩, fun z => this.2 (hpk.2 z)⟩
      · have ej : j = dd_cn dp - 1 := by omega
        rw [ej, c2] at hc3
        have : p = p2 := (nI_eq (by omega) (by omega)).mp hc3
        subst this
        have : dp = dp2 := Option.some.inj (hdp.symm.trans hdp2)
        subst this
        exact hpk
    · show ga_chn cd (nI p) ≤ _; rw [e1]; have := h.cn p dp hdp; omega
    · show 1 ≤ ga_chn cd (nI p); rw [e1]; omega
    · show ga_chf cd k (nI p) (ga_chn cd (nI p) - 1) = nI k
      rw [e1, e2, Nat.add_sub_cancel]; exact pk_us
    · have hj2 : j + 1 < ga_chn cd (nI p) := hj
      rw [e1] at hj2
      show ∃ q dq, q < 6 ∧ ga_chf cd k (nI p) j = nI q ∧ cd q = some dq ∧ dd_cn dq = j + 1 ∧ ∀ i, i ≤ j → dd_cf dq i = ga_chf cd k (nI p) i
      rw [e2]
      obtain ⟨q, dq, a, b, c, f, g⟩ := c3 j (by omega)
      refine ⟨q, dq, a, by rw [pk_un (by omega), cpy_lo _ _ _ _ (by omega)]; exact b, c, f, fun i hi => by rw [pk_un (by omega), cpy_lo _ _ _ _ (by omega)]; exact g i hi⟩
theorem GD.define {cd : Nat → Option DT} (h : GD cd) (k kd sp : Int32) (id : Int64) : GD (ga_define cd k kd sp id).2 := by
  unfold ga_define
  by_cases h0 : k < 0 ∨ 6 ≤ k
  · rw [if_pos h0]; exact h
  rw [if_neg h0]
  obtain ⟨j, hj, e, ec⟩ := ix_i (x := k) (n := 6) (by decide) (fun z => h0 (Or.inl z)) (fun z => h0 (Or.inr z))
  rw [ec]
  rcases hc : cd j with _ | d
  · simp only []
    by_cases h1 : kd < 0 ∨ ¬ kd ≤ 4
    · rw [if_pos h1]; exact h
    rw [if_neg h1]
    by_cases h2 : ¬ sp = -1 ∧ ga_above cd sp kd = 0
    · rw [if_pos h2]; exact h
    rw [if_neg h2]
    refine h.kls hj hc ?_ ?_
    · obtain ⟨i, hi, e9, -⟩ := ix_i (x := kd) (n := 5) (by decide) (fun z => h1 (Or.inl z)) (fun z => h1 (Or.inr (fun z2 => absurd (Int32.le_trans z z2) (by decide))))
      exact ⟨i, hi, e9⟩
    · by_cases h3 : sp = -1
      · exact Or.inl h3
      · exact Or.inr (ga_above_some (fun z => h2 ⟨h3, z⟩))
  · exact h
/-! a field more -/
theorem hasr_0 {d : DT} {n : Int32} : ∀ r, r ≤ dd_fn d → ga_hasr d n r = 0 → ∀ f, dd_fn d - r ≤ f → f < dd_fn d → ¬ dd_nm d f = n := by
  intro r
  induction r with
  | zero => intro _ _ f h1 h2; omega
  | succ r ih =>
    intro hr h0 f h1 h2
    by_cases hn : dd_nm d (dd_fn d - 1 - r) = n
    · have : ga_hasr d n (r + 1) = 1 := if_pos hn
      rw [this] at h0; exact absurd h0 (by decide)
    · have e : ga_hasr d n (r + 1) = ga_hasr d n r := if_neg hn
      rw [e] at h0
      by_cases hf : f = dd_fn d - 1 - r
      · rw [hf]; exact hn
      · exact ih (by omega) h0 f (by omega) h2
theorem rk_old {d : DT} {n t : Int32} {f : Nat} (hf : f < dd_fn d) : rk (dd_sn d (upd (dd_nm d) (dd_fn d) n) (upd (dd_ty d) (dd_fn d) t)) f = rk d f := by
  show (if 6 ≤ upd (dd_ty d) (dd_fn d) t f then 26 else 0) + (upd (dd_nm d) (dd_fn d) n f).toNatClampNeg = _
  rw [pk_un (by omega), pk_un (by omega)]; rfl
theorem rk_inj {d : DT} {f g : Nat} (hf : ∃ n, n < 26 ∧ dd_nm d f = nI n) (hg : ∃ n, n < 26 ∧ dd_nm d g = nI n) (h : rk d f = rk d g) : dd_nm d f = dd_nm d g := by
  obtain ⟨a, ha, ea⟩ := hf
  obtain ⟨b, hb, eb⟩ := hg
  unfold rk at h
  rw [ea, eb, nI_clamp (by omega), nI_clamp (by omega)] at h
  have : a = b := by
    by_cases h1 : 6 ≤ dd_ty d f <;> by_cases h2 : 6 ≤ dd_ty d g
    · rw [if_pos h1, if_pos h2] at h; omega
    · rw [if_pos h1, if_neg h2] at h; omega
    · rw [if_neg h1, if_pos h2] at h; omega
    · rw [if_neg h1, if_neg h2] at h; omega
  rw [ea, eb, this]
theorem GD.add {cd : Nat → Option DT} (h : GD cd) {k : Nat} {d : DT} (hd : cd k = some d) {n9 t9 : Nat} (hn : n9 < 26) (ht : t9 < 8) (hfn : dd_fn d < 4) (hnew : ∀ f, f < dd_fn d → ¬ dd_nm d f = nI n9) (hk3 : ¬ dd_kd d = 3) (tr : Int32) : GD (va_up cd k (some (ga_add d (nI n9) (nI t9) tr))) := by
  obtain ⟨-, -, -, w4, w5, w6, w7, w8⟩ := h.wd k d hd
  have hsf := h.sf k d hd
  have hsr := h.sr k d hd
  have hdi := h.nm k d hd
  have hnm : ∀ f, f < 4 → ∃ n, n < 26 ∧ upd (dd_nm d) (dd_fn d) (nI n9) f = nI n := by
    intro f hf
    by_cases hff : f = dd_fn d
    · rw [hff, pk_us]; exact ⟨n9, hn, rfl⟩
    · rw [pk_un hff]; exact w7 f hf
  have hty : ∀ f, f < 4 → ∃ t, t < 8 ∧ upd (dd_ty d) (dd_fn d) (nI t9) f = nI t := by
    intro f hf
    by_cases hff : f = dd_fn d
    · rw [hff, pk_us]; exact ⟨t9, ht, rfl⟩
    · rw [pk_un hff]; exact w8 f hf
  have hdd : ∀ f g, f < dd_fn d + 1 → g < dd_fn d + 1 → upd (dd_nm d) (dd_fn d) (nI n9) f = upd (dd_nm d) (dd_fn d) (nI n9) g → f = g := by
    intro f g hf hg he
    by_cases hff : f = dd_fn d
    · by_cases hgg : g = dd_fn d
      · omega
      · rw [hff, pk_us, pk_un hgg] at he; exact absurd he.symm (hnew g (by omega))
    · by_cases hgg : g = dd_fn d
      · rw [hgg, pk_us, pk_un hff] at he; exact absurd he (hnew f (by omega))
      · rw [pk_un hff, pk_un hgg] at he; exact hdi f g (by omega) (by omega) he
  have hcl : ∀ i, i < dd_sh d → ∃ f, f < dd_fn d ∧ dd_or d i = nI f ∧ (dd_or d i).toNatClampNeg = f := by
    intro i hi
    obtain ⟨f, hf, e⟩ := w6 i hi
    exact ⟨f, hf, e, by rw [e]; exact nI_clamp (by omega)⟩
  by_cases htr : tr = 0
  · have e1 : ga_add d (nI n9) (nI t9) tr = dd_sf (ga_put (dd_sn d (upd (dd_nm d) (dd_fn d) (nI n9)) (upd (dd_ty d) (dd_fn d) (nI t9))) (dd_fn d)) (dd_fn d + 1) := by unfold ga_add; rw [if_pos htr]
    rw [e1]
    obtain ⟨d1, hd1⟩ : ∃ d1, d1 = dd_sn d (upd (dd_nm d) (dd_fn d) (nI n9)) (upd (dd_ty d) (dd_fn d) (nI t9)) := ⟨_, rfl⟩
    have hrk : ∀ f, f < dd_fn d → rk d1 f = rk d f := fun f hf => by rw [hd1]; exact rk_old hf
    have hrn : ∀ f, f < 4 → ga_rank d1 f = nI (rk d1 f) ∧ rk d1 f < 52 := by
      intro f hf
      obtain ⟨n, h1, h2⟩ := hnm f hf
      exact rk_ok h1 (by rw [hd1]; exact h2)
    have hne : ∀ f, f < dd_fn d → ¬ rk d1 f = rk d1 (dd_fn d) := by
      intro f hf he
      have e9 := rk_inj (d := d1) (f := f) (g := dd_fn d) (by rw [hd1]; exact hnm f (by omega)) (by rw [hd1]; exact hnm _ hfn) he
      rw [hd1] at e9
      exact absurd (hdd f (dd_fn d) (by omega) (by omega) e9) (by omega)
    have hs1 : dd_sh d1 = dd_sh d := by rw [hd1]; rfl
    have ho1 : dd_or d1 = dd_or d := by rw [hd1]; rfl
    have hm1 : dd_nm d1 = upd (dd_nm d) (dd_fn d) (nI n9) := by rw [hd1]; rfl
    have ht1 : dd_ty d1 = upd (dd_ty d) (dd_fn d) (nI t9) := by rw [hd1]; rfl
    have hc1 : dd_cn d1 = dd_cn d ∧ dd_cf d1 = dd_cf d ∧ dd_kd d1 = dd_kd d := by rw [hd1]; exact ⟨rfl, rfl, rfl⟩
    rw [← hd1]
    obtain ⟨s, hs, a, b, c, g, m, n⟩ := pio_spec d1 (dd_fn d) (dd_sh d) (dd_or d)
    obtain ⟨o', ho'⟩ : ∃ o', o' = ga_pio d1 (dd_fn d) (dd_sh d) (dd_or d) := ⟨_, rfl⟩
    rw [← ho'] at a b c g
    have hlow : ∀ i, i < s → rk d1 (dd_or d i).toNatClampNeg < rk d1 (dd_fn d) := by
      intro i hi
      rcases m with m | m
      · omega
      obtain ⟨f, hf, -, ef⟩ := hcl (s - 1) (by omega)
      rw [ef, (hrn f (by omega)).1, (hrn _ hfn).1] at m
      have l1 := (nI_leI (by have := (hrn f (by omega)).2; omega) (by have := (hrn _ hfn).2; omega)).mp m
      have l2 := hne f hf
      obtain ⟨f', hf', -, ef'⟩ := hcl i (by omega)
      rw [ef']
      by_cases hi2 : i = s - 1
      · have e9 : f' = f := by rw [← ef', ← ef, hi2]
        rw [e9]; omega
      · have := hsr i (s - 1) (by omega) (by omega)
        rw [ef, ef', ← hrk f hf, ← hrk f' hf'] at this
        omega
    have hhigh : ∀ i, s ≤ i → i < dd_sh d → rk d1 (dd_fn d) < rk d1 (dd_or d i).toNatClampNeg := by
      intro i h1 h2
      have := n i h1 h2
      obtain ⟨f, hf, -, ef⟩ := hcl i h2
      rw [ef, (hrn f (by omega)).1, (hrn _ hfn).1] at this
      rw [ef]
      exact (nI_ltI (by have := (hrn _ hfn).2; omega) (by have := (hrn f (by omega)).2; omega)).mp this
    have hold : ∀ i j, i < j → j < dd_sh d → rk d1 (dd_or d i).toNatClampNeg < rk d1 (dd_or d j).toNatClampNeg := by
      intro i j h1 h2
      obtain ⟨f, hf, -, ef⟩ := hcl i (by omega)
      obtain ⟨f', hf', -, ef'⟩ := hcl j h2
      have := hsr i j h1 h2
      rw [ef, ef'] at this ⊢
      rw [hrk f hf, hrk f' hf']; exact this
    have bc : (o' s).toNatClampNeg = dd_fn d := by rw [b]; exact nI_clamp (by omega)
    refine h.put hd hc1.1 hc1.2.1 hc1.2.2 (show dd_fn d + 1 ≤ 4 by omega) (show dd_sh d1 + 1 ≤ dd_fn d + 1 by rw [hs1]; omega) (fun i hi => ?_) (fun f hf => ?_) (fun f hf => ?_) (fun i j hij hj => ?_) (fun f f' hf hf' he => ?_) (fun z => absurd (hc1.2.2.symm.trans z) hk3)
    · have hi2 : i < dd_sh d + 1 := by have : i < dd_sh d1 + 1 := hi; rw [hs1] at this; exact this
      show ∃ f, f < dd_fn d + 1 ∧ ga_pio d1 (dd_fn d) (dd_sh d1) (dd_or d1) i = nI f
      rw [hs1, ho1, ← ho']
      rcases Nat.lt_trichotomy i s with q | q | q
      · rw [a i q]; obtain ⟨f, hf, e, -⟩ := hcl i (by omega); exact ⟨f, by omega, e⟩
      · rw [q, b]; exact ⟨_, by omega, rfl⟩
      · rw [c i q (by omega)]; obtain ⟨f, hf, e, -⟩ := hcl (i - 1) (by omega); exact ⟨f, by omega, e⟩
    · show ∃ n, n < 26 ∧ dd_nm d1 f = nI n; rw [hm1]; exact hnm f hf
    · show ∃ t, t < 8 ∧ dd_ty d1 f = nI t; rw [ht1]; exact hty f hf
    · have hj2 : j < dd_sh d + 1 := by have : j < dd_sh d1 + 1 := hj; rw [hs1] at this; exact this
      show rk d1 (ga_pio d1 (dd_fn d) (dd_sh d1) (dd_or d1) i).toNatClampNeg < rk d1 (ga_pio d1 (dd_fn d) (dd_sh d1) (dd_or d1) j).toNatClampNeg
      rw [hs1, ho1, ← ho']
      rcases Nat.lt_trichotomy j s with q | q | q
      · rw [a i (by omega), a j q]; exact hold i j hij (by omega)
      · rw [q, bc, a i (by omega)]; exact hlow i (by omega)
      · rw [c j q (by omega)]
        rcases Nat.lt_trichotomy i s with q2 | q2 | q2
        · rw [a i q2]; exact hold i (j - 1) (by omega) (by omega)
        · rw [q2, bc]; exact hhigh (j - 1) (by omega) (by omega)
        · rw [c i q2 (by omega)]; exact hold (i - 1) (j - 1) (by omega) (by omega)
    · have he2 : dd_nm d1 f = dd_nm d1 f' := he
      rw [hm1] at he2; exact hdd f f' hf hf' he2
  · have e1 : ga_add d (nI n9) (nI t9) tr = dd_sf (dd_sn d (upd (dd_nm d) (dd_fn d) (nI n9)) (upd (dd_ty d) (dd_fn d) (nI t9))) (dd_fn d + 1) := by unfold ga_add; rw [if_neg htr]
    rw [e1]
    refine h.put hd rfl rfl rfl (show dd_fn d + 1 ≤ 4 by omega) (show dd_sh d ≤ dd_fn d + 1 by omega) (fun i hi => ?_) hnm hty (fun i j hij hj => ?_) hdd (fun z => absurd z hk3)
    · obtain ⟨f, hf, e⟩ := w6 i hi
      exact ⟨f, show f < dd_fn d + 1 by omega, e⟩
    · have hj2 : j < dd_sh d := hj
      obtain ⟨f, hf, -, ef⟩ := hcl i (by omega)
      obtain ⟨f', hf', -, ef'⟩ := hcl j hj2
      have := hsr i j hij hj2
      show rk (dd_sn d (upd (dd_nm d) (dd_fn d) (nI n9)) (upd (dd_ty d) (dd_fn d) (nI t9))) (dd_or d i).toNatClampNeg < rk (dd_sn d (upd (dd_nm d) (dd_fn d) (nI n9)) (upd (dd_ty d) (dd_fn d) (nI t9))) (dd_or d j).toNatClampNeg
      rw [ef, ef'] at this ⊢
      rw [rk_old hf, rk_old hf']; exact this
theorem ga_field_some {cd : Nat → Option DT} {k n t tr : Int32} (h : GD cd) : (ga_field cd k n t tr).2 = cd ∨ ∃ j d n9 t9, j < 6 ∧ k = nI j ∧ cd j = some d ∧ n9 < 26 ∧ n = nI n9 ∧ t9 < 8 ∧ t = nI t9 ∧ dd_fn d < 4 ∧ dd_us d = 0 ∧ ¬ dd_kd d = 3 ∧ (∀ f, f < dd_fn d → ¬ dd_nm d f = nI n9) ∧ (ga_field cd k n t tr) = (nI (dd_fn d + 1), va_up cd j (some (ga_add d (nI n9) (nI t9) tr))) := by
  unfold ga_field
  by_cases h0 : ga_isdef cd k = 0 ∨ n < 0 ∨ 26 ≤ n ∨ t < 0 ∨ 7 < t
  · rw [if_pos h0]; exact Or.inl rfl
  rw [if_neg h0]
  obtain ⟨j, d, hj, e, ec, hc⟩ := ga_isdef_some (fun z => h0 (Or.inl z))
  obtain ⟨n9, hn9, en, -⟩ := ix_i (x := n) (n := 26) (by decide) (fun z => h0 (Or.inr (Or.inl z))) (fun z => h0 (Or.inr (Or.inr (Or.inl z))))
  obtain ⟨t9, ht9, et, -⟩ := ix_i (x := t) (n := 8) (by decide) (fun z => h0 (Or.inr (Or.inr (Or.inr (Or.inl z))))) (fun z => h0 (Or.inr (Or.inr (Or.inr (Or.inr (Int32.lt_of_lt_of_le (by decide) z))))))
  rw [ec, hc]
  simp only []
  by_cases h1 : dd_kd d = 3 ∨ ¬ dd_us d = 0
  · rw [if_pos h1]; exact Or.inl rfl
  rw [if_neg h1]
  by_cases h2 : 4 ≤ nI (dd_fn d) ∨ ¬ ga_hasr d n (dd_fn d) = 0
  · rw [if_pos h2]; exact Or.inl rfl
  rw [if_neg h2]
  have hf4 : dd_fn d ≤ 4 := (h.wd j d hc).2.2.2.1
  have hfn : dd_fn d < 4 := by
    by_cases h4 : 4 ≤ dd_fn d
    · exact absurd (nI_le h4 (by omega)) (fun z => h2 (Or.inl z))
    · omega
  have hr0 : ga_hasr d n (dd_fn d) = 0 := by
    by_cases h9 : ga_hasr d n (dd_fn d) = 0
    · exact h9
    · exact absurd (Or.inr h9) h2
  have hu0 : dd_us d = 0 := by
    by_cases h9 : dd_us d = 0
    · exact h9
    · exact absurd (Or.inr h9) h1
  refine Or.inr ⟨j, d, n9, t9, hj, e, hc, hn9, en, ht9, et, hfn, hu0, fun z => h1 (Or.inl z), fun f hf => ?_, ?_⟩
  · rw [← en]; exact hasr_0 _ (Nat.le_refl _) hr0 f (by omega) hf
  · rw [en, et]
theorem GD.field {cd : Nat → Option DT} (h : GD cd) (k n t tr : Int32) : GD (ga_field cd k n t tr).2 := by
  rcases ga_field_some (k := k) (n := n) (t := t) (tr := tr) h with e | ⟨j, d, n9, t9, hj, e, hc, hn9, en, ht9, et, hfn, -, hk3, hnew, e9⟩
  · rw [e]; exact h
  · rw [e9]; exact h.add hc hn9 ht9 hfn hnew hk3 tr
