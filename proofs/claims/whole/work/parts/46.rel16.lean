/-! texts, named constants, arrays of numbers -/
theorem nI_sh {a b : Nat} : nI a + nI b = nI (a + b) := nI_add a b
theorem hk_o : ∀ o, o < 12 → nI o = nI (hk o) := by decide +kernel
theorem hk_n : ∀ o, o < 12 → (20 : Int32) + nI o = nI (hk (12 + o)) := by decide +kernel
theorem sim_const {cd : Nat → Option DT} {mk : Nat} {td : Nat → TT} (hG : GI cd mk td) {o : Nat} (ho : o < mk) (s4 : tt_so (td o) = 4) (s : Nat) : Sim (False, Pq cd mk td) s s (fun x => ga_const cd x o (td o)) (m_writeConstant (nI o)) := by
  have hP := stab0 False cd mk td
  have hm := hG.mk12
  obtain ⟨k, d, k6, hkw, hkd⟩ := (hG.wt o ho).2.2.1 (Or.inr s4)
  obtain ⟨n, hn, etx⟩ := (hG.tx o ho).1 s4
  have rcl : ∀ r, Pq cd mk td r → rd r.classOf 20 (nI o) = some (nI k) := fun r hr => by rw [rd_ok rfl (show o < 20 by omega) (by decide), (hr.2.o o ho).2.1 (Or.inr s4), hkw]
  have rnm : ∀ r, Pq cd mk td r → rd r.nameOf 20 (nI o) = some (nI n) := fun r hr => by
    obtain ⟨n2, hn2, e1, e2⟩ := hr.2.nm o ho s4
    rw [rd_ok rfl (show o < 20 by omega) (by decide), e1]
    rw [etx] at e2
    have : nI (97 + n) = nI (97 + n2) := by injection e2
    have := (nI_eq (by omega) (by omega)).mp this
    rw [show n2 = n by omega]
  have k1 := lt1 hP (97 + nI n) (Sim.id (False, Pq cd mk td) s)
  have k2 := Sim.rd (R := fun y => rd y.nameOf 20 (nI o)) (v0 := nI n) (K := fun v y => Option.bind (m_letter (97 + v) y) (fun z => some z)) rnm k1
  have k3 := gv1 hP (12 + o) (h9 := 20 + nI o) (by omega) (hk_n o (by omega)) k2
  have k4 := ap1 hP s 116 1 (w9 := 1) (by decide) rfl (by omega) k3
  have k5 := sim_ref2 (12 + o) (h9 := 20 + nI o) (by omega) (hk_n o (by omega)) k4 (Nat.le_refl _)
  have k6' := gv1 hP o (h9 := nI o) (by omega) (hk_o o (by omega)) k5
  have k7 := Sim.seq hP (sim_descr (mk := mk) (td := td) hG.gd hkd (s + 1)) k6'
  have k8 := Sim.rd (R := fun y => rd y.classOf 20 (nI o)) (v0 := nI k) (K := fun v y => Option.bind (m_descriptor v y) _) rcl k7
  have k9 := ap1 hP s 126 1 (w9 := 1) (by decide) rfl (by omega) k8
  refine k9.congr (fun x => ?_) (fun r _ => by unfold m_writeConstant; rfl)
  show ga_const cd x o (td o) = _
  unfold ga_const
  rw [hkw, nI_clamp (by omega), hkd]
  simp only []
  rw [ga_tt_eq, etx, es_utf1, show (97 : Int32) = nI 97 from rfl, nI_add]
def tx_l (o : Int32) : Nat → Int32 → RS → Option RS
  | 0, _, _ => none
  | n + 1, q, r => Option.bind (rd r.size 20 o) (fun v => if v ≤ q then some r else Option.bind (rd r.value 480 ((24 * o) + q)) (fun v => Option.bind (m_append v 1 r) (fun y => tx_l o n (q + 1) y)))
theorem tx_1 (o l1 l2 : Int32) : ∀ (n : Nat) (q : Int32) (r : RS), m_writeObject_86 (fun _ _ _ _ r => some (1, r)) n q o l1 l2 r = Option.bind (tx_l o n q r) (fun y => some (1, y)) := by
  intro n
  induction n with
  | zero => intro q r; rfl
  | succ n ih =>
    intro q r
    rw [m_writeObject_86, tx_l, ob_as]
    congr 1; funext v
    by_cases h : v ≤ q
    · rw [if_pos h, if_pos h]; rfl
    · rw [if_neg h, if_neg h, ob_as]
      congr 1; funext v
      rw [ob_as]
      congr 1; funext y
      exact ih _ _
theorem tx_2 (o l1 l2 : Int32) : ∀ (n : Nat) (q : Int32) (r : RS), m_writeObject_86' (fun _ _ _ _ r => some (1, r)) n q o l1 l2 r = Option.bind (tx_l o n q r) (fun y => some (1, y)) := by
  intro n
  induction n with
  | zero => intro q r; rfl
  | succ n ih =>
    intro q r
    rw [m_writeObject_86', tx_l, ob_as]
    congr 1; funext v
    by_cases h : v ≤ q
    · rw [if_pos h, if_pos h]; rfl
    · rw [if_neg h, if_neg h, ob_as]
      congr 1; funext v
      rw [ob_as]
      congr 1; funext y
      exact ih _ _
theorem sim_txl {cd : Nat → Option DT} {mk : Nat} {td : Nat → TT} (hG : GI cd mk td) {o : Nat} (ho : o < mk) (s1 : tt_so (td o) = 1) (s : Nat) : ∀ (t : List Int32) (p n : Nat), p + t.length = (tt_tx (td o)).length → (∀ i, i < t.length → (tt_tx (td o)).getD (p + i) 0 = t.getD i 0) → t.length < n → Sim (False, Pq cd mk td) s s (fun x => t.foldl (fun x c => es_put x c.toInt64 1) x) (fun r => tx_l (nI o) n (nI p) r) := by
  have hP := stab0 False cd mk td
  have hm := hG.mk12
  have hl := ((hG.tx o ho).2.1 s1).1
  have rsz : ∀ r, Pq cd mk td r → rd r.size 20 (nI o) = some (nI (tt_tx (td o)).length) := fun r hr => by rw [rd_ok rfl (show o < 20 by omega) (by decide), (hr.2.o o ho).2.2.2.2, if_pos s1]
  intro t
  induction t with
  | nil =>
    intro p n hp _ hn
    obtain ⟨n, rfl⟩ : ∃ m, n = m + 1 := ⟨n - 1, by omega⟩
    refine (Sim.id _ s).congr (fun x => rfl) (fun r hr => ?_)
    show tx_l (nI o) (n + 1) (nI p) r = some r
    rw [tx_l, rsz r hr, Option.bind_some, if_pos (by rw [← hp]; exact Int32.le_refl _)]
  | cons c t ih =>
    intro p n hp hi hn
    obtain ⟨n, rfl⟩ : ∃ m, n = m + 1 := ⟨n - 1, by have := List.length_cons (a := c) (as := t); omega⟩
    rw [List.length_cons] at hp hn
    have k1 := ih (p + 1) n (by omega) (fun i h => by
      have := hi (i + 1) (by rw [List.length_cons]; omega)
      rw [show p + 1 + i = p + (i + 1) by omega, this]; rfl) (by omega)
    have k2 := ap1 hP s c.toInt64 1 (w9 := 1) (by decide) rfl (by omega) k1
    refine k2.congr (fun x => rfl) (fun r hr => ?_)
    show tx_l (nI o) (n + 1) (nI p) r = _
    have hc := hi 0 (by rw [List.length_cons]; omega)
    rw [tx_l, rsz r hr, Option.bind_some, if_neg (nI_ge (by omega) (by omega)), rd_ok (i24 rfl rfl) (show 24 * o + p < 480 by omega) (by decide), Option.bind_some, hr.2.tx o p ho s1 (by omega), nI_1]
    rw [Nat.add_zero] at hc
    rw [hc]; rfl
theorem sim_text {cd : Nat → Option DT} {mk : Nat} {td : Nat → TT} (hG : GI cd mk td) {o : Nat} (ho : o < mk) (s1 : tt_so (td o) = 1) (s : Nat) : Sim (False, Pq cd mk td) s s (fun x => es_text x o (tt_tx (td o))) (fun r => Option.bind (m_append 116 1 r) (fun y => Option.bind (m_give (nI o) y) (fun z => Option.bind (rd z.size 20 (nI o)) (fun v => Option.bind (m_append v.toInt64 2 z) (fun u => tx_l (nI o) 60 0 u))))) := by
  have hP := stab0 False cd mk td
  have hm := hG.mk12
  have hl := ((hG.tx o ho).2.1 s1).1
  have rsz : ∀ r, Pq cd mk td r → rd r.size 20 (nI o) = some (nI (tt_tx (td o)).length) := fun r hr => by rw [rd_ok rfl (show o < 20 by omega) (by decide), (hr.2.o o ho).2.2.2.2, if_pos s1]
  have k1 := sim_txl hG ho s1 s (tt_tx (td o)) 0 60 (by omega) (fun i _ => by rw [Nat.zero_add]) (by omega)
  have k2 := ap1 hP s (nI (tt_tx (td o)).length).toInt64 2 (w9 := 2) (by decide) rfl (by omega) k1
  have k3 := Sim.rd (R := fun z => rd z.size 20 (nI o)) (v0 := nI (tt_tx (td o)).length) (K := fun v z => Option.bind (m_append v.toInt64 2 z) (fun u => tx_l (nI o) 60 (nI 0) u)) rsz k2
  have k4 := gv1 hP o (h9 := nI o) (by omega) (hk_o o (by omega)) k3
  have k5 := ap1 hP s 116 1 (w9 := 1) (by decide) rfl (by omega) k4
  exact k5.congr (fun x => rfl) (fun r _ => rfl)
theorem sim_intl {cd : Nat → Option DT} {mk : Nat} {td : Nat → TT} (hG : GI cd mk td) {o : Nat} (ho : o < mk) (s2 : tt_so (td o) = 2) (s : Nat) : ∀ (p n : Nat), p ≤ tt_n (td o) → p < n → Sim (False, Pq cd mk td) s s (fun x => ga_irec (td o) p x) (fun r => m_writeArray_48 (fun z3_26 z2_26 z1_26 r_38 => Option.bind (rd r_38.size 20 z1_26) (fun v_42 => m_writeArray_93 (fun z3_43 z2_43 z1_43 r_53 => some r_53) 60 (v_42 - 1) z2_26 z1_26 r_38)) n (nI (tt_n (td o) - p)) 0 (nI o) r) := by
  have hP := stab0 False cd mk td
  have hm := hG.mk12
  have hl := ((hG.ty o ho).1 s2).1
  have rsz : ∀ r, Pq cd mk td r → rd r.size 20 (nI o) = some (nI (tt_n (td o))) := fun r hr => by rw [rd_ok rfl (show o < 20 by omega) (by decide), (hr.2.o o ho).2.2.2.2, if_neg (by rw [s2]; decide)]
  intro p
  induction p with
  | zero =>
    intro n _ hn
    obtain ⟨n, rfl⟩ : ∃ m, n = m + 1 := ⟨n - 1, by omega⟩
    refine (Sim.id _ s).congr (fun x => rfl) (fun r hr => ?_)
    show m_writeArray_48 _ (n + 1) (nI (tt_n (td o) - 0)) 0 (nI o) r = some r
    rw [m_writeArray_48, if_pos rfl, rsz r hr, Option.bind_some, Nat.sub_zero, if_pos (Int32.le_refl _), Option.bind_some, show (60 : Nat) = 59 + 1 from rfl, m_writeArray_93, if_pos rfl]
  | succ p ih =>
    intro n hp hn
    obtain ⟨n, rfl⟩ : ∃ m, n = m + 1 := ⟨n - 1, by omega⟩
    have k1 := ih n (by omega) (by omega)
    have k2 := ap1 hP s (tt_va (td o) (tt_n (td o) - 1 - p)) 4 (w9 := 4) (by decide) rfl (by omega) k1
    refine k2.congr (fun x => rfl) (fun r hr => ?_)
    show m_writeArray_48 _ (n + 1) (nI (tt_n (td o) - (p + 1))) 0 (nI o) r = _
    rw [m_writeArray_48, if_pos rfl, rsz r hr, Option.bind_some, if_neg (nI_ge (by omega) (by omega)), rd_ok (i24 rfl rfl) (show 24 * o + (tt_n (td o) - (p + 1)) < 480 by omega) (by decide), Option.bind_some, hr.2.va o _ ho (by rw [s2]; decide) (by omega), nI_1, show tt_n (td o) - (p + 1) + 1 = tt_n (td o) - p by omega, show tt_n (td o) - (p + 1) = tt_n (td o) - 1 - p by omega]
theorem sim_ints {cd : Nat → Option DT} {mk : Nat} {td : Nat → TT} (hG : GI cd mk td) {o : Nat} (ho : o < mk) (s2 : tt_so (td o) = 2) (s : Nat) : Sim (False, Pq cd mk td) s s (fun x => ga_ints x o (td o)) (m_writeArray (nI o)) := by
  have hP := stab0 False cd mk td
  have hm := hG.mk12
  have hl := ((hG.ty o ho).1 s2).1
  have rsz : ∀ r, Pq cd mk td r → rd r.size 20 (nI o) = some (nI (tt_n (td o))) := fun r hr => by rw [rd_ok rfl (show o < 20 by omega) (by decide), (hr.2.o o ho).2.2.2.2, if_neg (by rw [s2]; decide)]
  have rso : ∀ r, Pq cd mk td r → rd r.sort 20 (nI o) = some 2 := fun r hr => by rw [rd_ok rfl (show o < 20 by omega) (by decide), (hr.2.o o ho).1, s2]
  have k1 := sim_intl hG ho s2 s (tt_n (td o)) 60 (Nat.le_refl _) (by omega)
  rw [Nat.sub_self] at k1
  have k2 := ap1 hP s (nI (tt_n (td o))).toInt64 4 (w9 := 4) (by decide) rfl (by omega) k1
  have k3 := Sim.rd (R := fun z => rd z.size 20 (nI o)) (v0 := nI (tt_n (td o))) (K := fun v z => Option.bind (m_append v.toInt64 4 z) _) rsz k2
  have k4 := gv1 hP o (h9 := nI o) (by omega) (hk_o o (by omega)) k3
  have k5 := Sim.seq hP (sim_arrd0 hP (s + 1)) k4
  have k6 := ap1 hP s 117 1 (w9 := 1) (by decide) rfl (by omega) k5
  refine k6.congr (fun x => rfl) (fun r hr => ?_)
  show m_writeArray (nI o) r = _
  unfold m_writeArray
  rw [rso r hr, Option.bind_some, if_neg (by decide)]; rfl
