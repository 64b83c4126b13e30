/-! THE START -/
def lw_tm (i : Nat) : Term := match i with
  | 0 => .string "GraphWriter" 102
  | 1 => .string "GraphWriter" 244
  | 2 => .string "GraphWriter" 257
  | 3 => .string "GraphWriter" 305
  | 4 => .string "GraphWriter" 318
  | 5 => .string "GraphWriter" 320
  | 6 => .string "GraphWriter" 81
  | _ => .string "GraphWriter$Defined" 32
def lw_len : List Nat := [26, 2, 19, 8, 18, 14, 0, 6]
def lw_byt : List (List Int32) := [z9_tx 0, z9_tx 1, z9_tx 2, z9_tx 3, z9_tx 4, z9_tx 5, z9_tx 6, z9_tx 7]
theorem lw_lb : ∀ i, i < 8 → lw_byt.getD i [] = z9_tx i ∧ lw_len.getD i 0 = (z9_tx i).length := by decide +kernel
theorem lw_ln : ∀ i, i < 8 → lw_len.getD i 0 < 2 ^ 31 := by decide +kernel
theorem lw_w1 : ∀ i, i < 8 → Cond.exactly (lw_tm i) "java/lang/String" ∈ flatC (Jvm.Cond.and given_1 narrow_1) := by decide +kernel
theorem lw_w2 : ∀ i, i < 8 → Cond.eq (.field (lw_tm i) "java/lang/String" "coder" "B") (.int 0) ∈ flatC (Jvm.Cond.and given_1 narrow_1) := by decide +kernel
theorem lw_w3 : ∀ i, i < 8 → Cond.arrayOf (.field (lw_tm i) "java/lang/String" "value" "[B") .byte ∈ flatC (Jvm.Cond.and given_1 narrow_1) := by decide +kernel
theorem lw_w4 : ∀ i, i < 8 → Cond.eq (.length (.field (lw_tm i) "java/lang/String" "value" "[B")) (.int (Int32.ofNat (lw_len.getD i 0))) ∈ flatC (Jvm.Cond.and given_1 narrow_1) := by decide +kernel
theorem lw_w5 : ∀ i, i < 8 → ∀ j, j < lw_len.getD i 0 → Cond.eq (.elem (.field (lw_tm i) "java/lang/String" "value" "[B") (.int (Int32.ofNat j))) (.int ((lw_byt.getD i []).getD j 0)) ∈ flatC (Jvm.Cond.and given_1 narrow_1) := by decide +kernel
theorem lw_w6 : ∀ i, i < 8 → ∀ j, j < 8 → i ≠ j → (Cond.not (Cond.eq (lw_tm i) (lw_tm j)) ∈ flatC (Jvm.Cond.and given_1 narrow_1) ∨ Cond.not (Cond.eq (lw_tm j) (lw_tm i)) ∈ flatC (Jvm.Cond.and given_1 narrow_1)) := by decide +kernel
theorem lw_w7 : ∀ j, j < 6 → Cond.eq (.elem (.static "GraphWriter" "TYPE_WIDTHS" "[I") (.int (Int32.ofNat j))) (.int (gw_wd j)) ∈ flatC (Jvm.Cond.and given_1 narrow_1) := by decide +kernel
theorem lw_w8 : Cond.arrayOf (.static "GraphWriter" "TYPE_WIDTHS" "[I") .int ∈ flatC (Jvm.Cond.and given_1 narrow_1) ∧ Cond.eq (.length (.static "GraphWriter" "TYPE_WIDTHS" "[I")) (.int (Int32.ofNat 6)) ∈ flatC (Jvm.Cond.and given_1 narrow_1) ∧ Cond.eq (.static "java/lang/String" "COMPACT_STRINGS" "Z") (.int 1) ∈ flatC (Jvm.Cond.and given_1 narrow_1) ∧ Cond.isRef (.static "jdk/internal/util/Preconditions" "SIOOBE_FORMATTER" "Ljava/util/function/BiFunction;") ∈ flatC (Jvm.Cond.and given_1 narrow_1) := by decide +kernel
theorem lw_ch : ∀ i, i < 8 → (z9_tx i).length < 2 ^ 15 ∧ ∀ j, j < (z9_tx i).length → ((z9_tx i).getD j 0).toNatClampNeg < 128 ∧ (z9_tx i).getD j 0 = nI ((z9_tx i).getD j 0).toNatClampNeg := by decide +kernel
theorem ArrOfT.one {s : State} {c : ClassId} {t t9 : FieldType} (h : ArrOfT s c t) (h9 : ArrOfT s c t9) : t = t9 := by
  obtain ⟨-, k, a1, c1, a2⟩ := h 0 (fun _ => .null)
  obtain ⟨-, k9, b1, c9, b2⟩ := h9 0 (fun _ => .null)
  have e : k = k9 := Option.some.inj (a1.symm.trans b1)
  subst e
  have := a2.symm.trans b2
  cases this
  rfl
theorem lw_arr {args : Array Value} {s : State} {ty : FieldType} (hn : ∀ t, ty ≠ .object t) (h : (Cond.arrayClass ty).before args s = true) : ∃ c, ArrOfT s c ty ∧ va_RA s c ty := by
  obtain ⟨c, k, comp, h1, h2, h3⟩ := Cond.arrayClass_spec h
  refine ⟨c, fun N z => ⟨(fun k h => by cases h), k, h2, comp, h3⟩, ?_⟩
  cases ty with
  | object t => exact absurd rfl (hn t)
  | _ => exact h1
theorem lw_arq {s : State} {n : String} (h : va_AO n s) : ∃ c, ArrOfT s c (.object n) ∧ va_RA s c (.object n) := by
  obtain ⟨comp, c, k, h1, -, h3, h4, h5⟩ := Cond.arrayOver_spec h
  exact ⟨c, fun N z => ⟨(fun k h => by cases h), k, h3, comp, h4⟩, k, comp, h3, h4, h1, h5⟩
theorem gw_ks.mv {ca : Nat → ClassId} {kS : Nat → Nat} {kT : Nat} {ad ad1 : pw_A} {C C1 : pw_C} (h : gw_ks ca kS kT ad C) (hr : ∀ x y, ¬ x < 50 → C1 x y = C x y ∧ ad1 x y = ad x y) : gw_ks ca kS kT ad1 C1 := by
  obtain ⟨h1, h2, h3⟩ := h
  refine ⟨fun i hi => ⟨?_, (hr 50 i (by decide)).2.trans (h1 i hi).2⟩, (hr 52 0 (by decide)).1.trans h2, (hr 52 0 (by decide)).2.trans h3⟩
  obtain ⟨f, g1, g2, q1, q2, q3⟩ := (h1 i hi).1
  exact ⟨f, g1, g2, by rw [(hr 51 i (by decide)).2]; exact (hr 50 i (by decide)).1.trans q1, (hr 51 i (by decide)).1.trans q2, q3⟩
theorem gw_cf0 (ad : pw_A) : gw_cf ad (fun _ => none) = fun _ => none := by funext k; rfl
theorem gw_tf0 (ad : pw_A) : gw_tf ad 0 = fun _ => none := by funext k; simp [gw_tf]
theorem gw_at.z {ca : Nat → ClassId} {kS : Nat → Nat} {kT : Nat} {ad ad1 : pw_A} {C C1 : pw_C} {td : Nat → TT} (h : gw_at ca kS kT ad C (fun _ => none) 0 td) (hC : ∀ x y, ¬ (x = 30 ∨ x = 31) → C1 x y = C x y) (hA : ∀ x y, ¬ (x = 30 ∨ x = 31) → ad1 x y = ad x y) : gw_at ca kS kT ad1 C1 (fun _ => none) 0 td := by
  obtain ⟨h0, h1, h2, h3, h4, h5, h6⟩ := h
  rw [gw_cf0] at h1
  rw [gw_tf0] at h2
  refine ⟨?_, ?_, ?_, h3, fun k d hk => (nomatch hk), fun i hi => absurd hi (Nat.not_lt_zero _), h6.mv (fun x y h => ⟨hC x y (by omega), hA x y (by omega)⟩)⟩
  · rw [hA 1 0 (by omega), hA 2 0 (by omega), hA 3 0 (by omega)]
    exact (hC 0 0 (by omega)).trans h0
  · rw [gw_cf0]; exact (hC 1 0 (by omega)).trans h1
  · rw [gw_tf0]; exact (hC 2 0 (by omega)).trans h2
def lw_C (ca : Nat → ClassId) (aV : Nat → Nat) : pw_C := fun x y => if x = 50 ∧ y < 8 then some (.inr (5, [.ref (aV y), .int 0, .null, .null])) else if x = 51 ∧ y < 8 then some (.inl (ca 2, (z9_tx y).length, .inl (fun j => (z9_tx y).getD j 0))) else if x = 52 ∧ y = 0 then some (.inl (ca 0, 6, .inl gw_wd)) else none
def lw_ad (aK aV : Nat → Nat) (kT : Nat) : pw_A := fun x y => if x = 50 then aK y else if x = 51 then aV y else kT
theorem lw_C_some {ca : Nat → ClassId} {aV : Nat → Nat} {x y : Nat} {e : va_E} (h : lw_C ca aV x y = some e) : (x = 50 ∧ y < 8 ∧ e = .inr (5, [.ref (aV y), .int 0, .null, .null])) ∨ (x = 51 ∧ y < 8 ∧ e = .inl (ca 2, (z9_tx y).length, .inl (fun j => (z9_tx y).getD j 0))) ∨ (x = 52 ∧ y = 0 ∧ e = .inl (ca 0, 6, .inl gw_wd)) := by
  unfold lw_C at h
  by_cases h1 : x = 50 ∧ y < 8
  · rw [if_pos h1] at h
    exact Or.inl ⟨h1.1, h1.2, (Option.some.inj h).symm⟩
  · rw [if_neg h1] at h
    by_cases h2 : x = 51 ∧ y < 8
    · rw [if_pos h2] at h
      exact Or.inr (Or.inl ⟨h2.1, h2.2, (Option.some.inj h).symm⟩)
    · rw [if_neg h2] at h
      by_cases h3 : x = 52 ∧ y = 0
      · rw [if_pos h3] at h
        exact Or.inr (Or.inr ⟨h3.1, h3.2, (Option.some.inj h).symm⟩)
      · rw [if_neg h3] at h
        cases h
theorem lw_C_none {ca : Nat → ClassId} {aV : Nat → Nat} {x : Nat} (y : Nat) (h : x < 50) : lw_C ca aV x y = none := by
  unfold lw_C
  rw [if_neg (by omega), if_neg (by omega), if_neg (by omega)]
theorem lw_ks (ca : Nat → ClassId) (aK aV : Nat → Nat) (kT : Nat) : gw_ks ca aK kT (lw_ad aK aV kT) (lw_C ca aV) := by
  refine ⟨fun i hi => ⟨⟨fun j => (z9_tx i).getD j 0, .null, .null, ?_, ?_, fun _ _ => rfl, (lw_ch i hi).1, fun j hj => ⟨_, (lw_ch i hi).2 j hj⟩⟩, if_pos rfl⟩, ?_, ?_⟩
  · unfold lw_C
    rw [if_pos ⟨rfl, hi⟩]; rfl
  · unfold lw_C
    rw [if_neg (by omega), if_pos ⟨rfl, hi⟩]
  · unfold lw_C
    rw [if_neg (by omega), if_neg (by omega), if_pos ⟨rfl, rfl⟩]
  · unfold lw_ad
    rw [if_neg (by omega), if_neg (by omega)]
/-- the classes of the arrays that are only read, and their names' classes -/
def lw_D (dC : Nat → ClassId) (ca : Nat → ClassId) (aV : Nat → Nat) (kT : Nat) (H : Heap) : Nat → ClassId := fun k => if k < 1000 then dC k else if k < 1008 then ((H[aV (k - 1000)]?).map Cell.cls).getD 0 else if k = 1008 then ((H[kT]?).map Cell.cls).getD 0 else if k % 1000 = 8 then ca 0 else ca 2
theorem lw_rk {s : State} {dC ca : Nat → ClassId} {aV : Nat → Nat} {kT : Nat} (h2 : ArrOfT s (ca 2) .byte) (h0 : ArrOfT s (ca 0) .int) (hV : ∀ i, i < 8 → ∃ cell, s.heap[aV i]? = some cell ∧ s.isArrayOf cell .byte) (hT : ∃ cell, s.heap[kT]? = some cell ∧ s.isArrayOf cell .int) (k : Nat) (ty : FieldType) (h : ArrOfT s (lw_D dC ca aV kT s.heap (2000 + k)) ty) : ArrOfT s (lw_D dC ca aV kT s.heap (1000 + k)) ty := by
  have key : ∀ (c : ClassId) (cell : Cell) (t : FieldType), cell.cls = c → s.isArrayOf cell t → ArrOfT s c t := fun c cell t e hc N z => by
    obtain ⟨-, kk, a1, comp, a2⟩ := hc
    exact ⟨(fun k h => by cases h), kk, by show s.vm.classes[c]? = some kk; rw [← e]; exact a1, comp, a2⟩
  by_cases hk : k < 8
  · have e2 : lw_D dC ca aV kT s.heap (2000 + k) = ca 2 := by unfold lw_D; rw [if_neg (by omega), if_neg (by omega), if_neg (by omega), if_neg (by omega)]
    rw [e2] at h
    have := h.one h2
    subst this
    obtain ⟨cell, g1, g2⟩ := hV k hk
    refine key _ cell _ ?_ g2
    unfold lw_D
    rw [if_neg (by omega), if_pos (by omega), show 1000 + k - 1000 = k by omega, g1]
    rfl
  · by_cases hk8 : k = 8
    · subst hk8
      have e2 : lw_D dC ca aV kT s.heap (2000 + 8) = ca 0 := by unfold lw_D; rw [if_neg (by omega), if_neg (by omega), if_neg (by omega), if_pos (by omega)]
      rw [e2] at h
      have := h.one h0
      subst this
      obtain ⟨cell, g1, g2⟩ := hT
      refine key _ cell _ ?_ g2
      unfold lw_D
      rw [if_neg (by omega), if_neg (by omega), if_pos (by omega), g1]
      rfl
    · have e1 : ∀ j, 1008 < j → lw_D dC ca aV kT s.heap j = if j % 1000 = 8 then ca 0 else ca 2 := fun j hj => by
        unfold lw_D
        rw [if_neg (by omega), if_neg (by omega), if_neg (by omega)]
      have e2 : lw_D dC ca aV kT s.heap (1000 + k) = lw_D dC ca aV kT s.heap (2000 + k) := by
        rw [e1 _ (by omega), e1 _ (by omega), show (2000 + k) % 1000 = (1000 + k) % 1000 by omega]
      rw [e2]; exact h
