/-! the loop of the writing -/
theorem es_put_n {x : ES} (h : ¬ x.2.1 = 0) (n : Int64) (w : Nat) : es_put x n w = x := by unfold es_put; rw [if_neg h]
theorem stx_n {cd : Nat → Option DT} {td : Nat → TT} {x : ES} (h : ¬ x.2.1 = 0) (i : IT) : stx cd td x i = x ∧ stk cd td x i = [] := by
  rcases i with g | ⟨v, w⟩ | m
  · constructor
    · show gk_x cd td x g 0 = x; unfold gk_x; rw [if_neg h]
    · show gk_k cd td x g 0 = []; unfold gk_k; rw [if_neg h]
  · exact ⟨es_put_n h _ _, rfl⟩
  · constructor
    · show es_put (es_put (es_put (es_put x 119 1) 4 1) m.toInt64 4) 120 1 = x
      rw [es_put_n h, es_put_n h, es_put_n h, es_put_n h]
    · rfl
theorem rn_s {cd : Nat → Option DT} {td : Nat → TT} (n : Nat) (x : ES) (i : IT) (st : List IT) : rn_f cd td (n + 1) x (i :: st) = rn_f cd td n (stx cd td x i) (stk cd td x i ++ st) := by
  rcases i with g | ⟨v, w⟩ | m <;> rfl
theorem rn_oc {cd : Nat → Option DT} {td : Nat → TT} : ∀ (n : Nat) (x : ES) (st : List IT) (y : ES), rn_f cd td n x st = some y → ¬ x.2.1 = 0 → y = x := by
  intro n
  induction n with
  | zero => intro x st y h; exact absurd h (by simp [rn_f])
  | succ n ih =>
    intro x st y h hx
    cases st with
    | nil => exact (Option.some.inj h).symm
    | cons i st =>
      rw [rn_s] at h
      obtain ⟨a, b⟩ := stx_n (cd := cd) (td := td) hx i
      rw [a, b] at h
      exact ih x _ y h hx
def phi (x : ES) (st : List IT) : Nat := st.length + 37 * fr_n x.2.2.1 12
theorem gk_len {cd : Nat → Option DT} {mk : Nat} {td : Nat → TT} (hG : GI cd mk td) {o : Nat} (ho : o < mk) : (gk_sw cd td o).length ≤ 36 := by
  unfold gk_sw
  by_cases s1 : tt_so (td o) = 1
  · rw [if_pos s1]; exact Nat.zero_le _
  rw [if_neg s1]
  by_cases s2 : tt_so (td o) = 2
  · rw [if_pos s2]; exact Nat.zero_le _
  rw [if_neg s2]
  by_cases s3 : tt_so (td o) = 3
  · rw [if_pos s3]
    have hlen : ∀ q, (gk_rrec (td o) q).length = q := by
      intro q; induction q with
      | zero => rfl
      | succ q ih => show (gk_rrec (td o) q).length + 1 = q + 1; rw [ih]
    rw [hlen]
    have := (hG.ty o ho).2.2.1
    omega
  rw [if_neg s3]
  by_cases s4 : tt_so (td o) = 4
  · rw [if_pos s4]; exact Nat.zero_le _
  rw [if_neg s4]
  have s0 : tt_so (td o) = 0 := by
    rcases (hG.wt o ho).2.1 with z | z | z | z | z
    · exact z
    · exact absurd z s1
    · exact absurd z s2
    · exact absurd z s3
    · exact absurd z s4
  obtain ⟨k, d, k6, hkw, hkd⟩ := (hG.wt o ho).2.2.1 (Or.inl s0)
  rw [hkw, nI_clamp (by omega), hkd]
  simp only []
  by_cases h0 : dd_kd d = 0
  · rw [if_pos h0]; exact Nat.zero_le _
  rw [if_neg h0]
  have := irun_len hG.gd (t := td o) hkd (dd_cn d) (Nat.le_refl _)
  rw [Nat.sub_self] at this
  have h6 := (hG.gd.wd k d hkd).2.1
  have h7 : (gk_irun cd (td o) d (dd_cn d) 0).length ≤ 5 * dd_cn d := this
  omega
theorem gk_klen {cd : Nat → Option DT} {mk : Nat} {td : Nat → TT} (hG : GI cd mk td) {x : ES} {g u : Int32} (hg : wf_g mk g) : (gk_k cd td x g u).length ≤ 36 := by
  have hm := hG.mk12
  unfold gk_k
  by_cases h0 : x.2.1 = 0
  · rw [if_pos h0]
    by_cases h1 : g = -1
    · rw [if_pos h1]; exact Nat.zero_le _
    rw [if_neg h1]
    rcases hg with h | ⟨j, hj, rfl⟩
    · exact absurd h h1
    have ho : ga_repl td 12 (nI j).toNatClampNeg 0 < mk := ga_repl_lt (fun i hi => (hG.wt i hi).1) _ _ _ (by rw [nI_clamp (by omega)]; exact hj) (by omega)
    unfold gk_ch
    by_cases hu : u = 0
    · rw [if_pos hu]
      by_cases hr : (es_ref x (ga_repl td 12 (nI j).toNatClampNeg 0)).2 = 0
      · rw [if_pos hr]; exact gk_len hG ho
      · rw [if_neg hr]; exact Nat.zero_le _
    · rw [if_neg hu]; exact gk_len hG ho
  · rw [if_neg h0]; exact Nat.zero_le _
theorem EX.dq {s : Nat} {x : ES} {r : RS} (h : EX s x r) : Dq x := fun _ => ⟨by obtain ⟨h9, a, b⟩ := h.hn; exact ⟨h9, a, by omega⟩, h.le⟩
theorem phi_dec {cd : Nat → Option DT} {mk : Nat} {td : Nat → TT} (hG : GI cd mk td) {x : ES} (hD : Dq x) {i : IT} (hi : okI mk i) {st : List IT} (h0 : (stx cd td x i).2.1 = 0) : phi (stx cd td x i) (stk cd td x i ++ st) + 1 ≤ phi x (i :: st) := by
  have hm := hG.mk12
  unfold phi
  rw [List.length_append, List.length_cons]
  rcases i with g | ⟨v, w⟩ | m
  · have e1 : stx cd td x (.inl g) = gk_x cd td x g 0 := rfl
    have e2 : stk cd td x (.inl g) = gk_k cd td x g 0 := rfl
    rw [e1] at h0 ⊢; rw [e2]
    have hmono := fr_mono (hD.la (eh_gkx cd td x g 0) h0) 12
    by_cases hk : gk_k cd td x g 0 = []
    · rw [hk]; show 0 + st.length + _ + 1 ≤ _; omega
    · have h1 := (gk_fr hG.wt hm hi hD hk h0).1 rfl
      have h2 := gk_klen hG (x := x) (u := 0) hi
      omega
  · show 0 + st.length + 37 * fr_n (es_put x v w).2.2.1 12 + 1 ≤ _
    rw [es_put_la]; omega
  · show 0 + st.length + 37 * fr_n (es_put (es_put (es_put (es_put x 119 1) 4 1) m.toInt64 4) 120 1).2.2.1 12 + 1 ≤ _
    rw [es_put_la, es_put_la, es_put_la, es_put_la]; omega
def FIN (y : ES) (w : Int32) (r' : RS) : Prop := (w = 1 ∧ EX 0 y r') ∨ (y.2.1 = -2 ∧ FR r') ∨ (w = 0 ∧ AB y r')
theorem loop_full {K : Int32 → Int32 → Int32 → RS → Option (Int32 × RS)} {l1 l2 w : Int32} {r : RS} (h : FR r) (n : Nat) : m_write_35 K (n + 1) w l1 l2 r = K w l1 l2 r := by
  obtain ⟨L, a, b, c⟩ := h
  rw [m_write_35]
  by_cases z : r.left ≤ 0
  · rw [if_pos z]
  · rw [if_neg z, if_pos (by rw [c]; exact nI_lt (a := 1400) a (by omega))]
theorem loop_ab {K : Int32 → Int32 → Int32 → RS → Option (Int32 × RS)} {l1 l2 w : Int32} {x : ES} {r : RS} (h : AB x r) (n : Nat) : m_write_35 K (n + 1) w l1 l2 r = K w l1 l2 r := by
  rw [m_write_35, if_pos (by rw [h.lf]; decide)]
theorem r_loop {cd : Nat → Option DT} {mk : Nat} {td : Nat → TT} (hG : GI cd mk td) {K : Int32 → Int32 → Int32 → RS → Option (Int32 × RS)} {l1 l2 : Int32} : ∀ (n : Nat) (x : ES) (st : List IT) (r : RS) (fuel : Nat) (y : ES), rn_f cd td n x st = some y → (∀ i ∈ st, okI mk i) → phi x st ≤ 860 → phi x st + 2 ≤ fuel → Pq cd mk td r → EX 0 x r → STK cd mk td r st → ∃ w r', m_write_35 K fuel 1 l1 l2 r = K w l1 l2 r' ∧ KZ r r' ∧ FIN y w r' := by
  have hm := hG.mk12
  intro n
  induction n with
  | zero => intro x st r fuel y h; exact absurd h (by simp [rn_f])
  | succ n ih =>
    intro x st r fuel y h hok hphi hfuel hq hE hS
    obtain ⟨fuel, rfl⟩ : ∃ m, fuel = m + 1 + 1 := ⟨fuel - 2, by omega⟩
    cases st with
    | nil =>
      have e : x = y := Option.some.inj h
      subst e
      refine ⟨1, r, ?_, KZ.rfl9 r, Or.inl ⟨rfl, hE⟩⟩
      rw [m_write_35, if_pos (by rw [hS.lf]; decide)]
    | cons i st =>
      rw [rn_s] at h
      have hi := hok i List.mem_cons_self
      have hphi2 : st.length + 1 ≤ phi x (i :: st) := Nat.le_add_right _ _
      obtain ⟨b, r1, a1, a2, a3, a4⟩ := r_one hG hi (show st.length + 36 ≤ 900 by omega) hq hE hS
      have hq1 := a2.pq hq
      have hl0 : ¬ r.left ≤ 0 := by rw [hS.lf, List.length_cons]; exact nI_ge (a := 0) (by omega) (by omega)
      have hl1 : ¬ (1400 : Int32) < r.length := by rw [hE.ln]; exact nI_nlt (by have := hE.le; omega) (by decide)
      rw [m_write_35, if_neg hl0, if_neg hl1, a1, Option.bind_some]
      rcases a4 with ⟨hb, e1, e2⟩ | ⟨e1, e2⟩ | ⟨hb, e1⟩
      · rw [hb]
        show ∃ w r', (if (1 : Int32) = 0 then _ else if (1 : Int32) = 0 then _ else m_write_35 K (fuel + 1) 1 l1 l2 r1) = _ ∧ _
        rw [if_neg n10, if_neg n10]
        have hdec := phi_dec hG hE.dq hi (st := st) e1.oc
        obtain ⟨w, r', c1, c2, c3⟩ := ih _ _ r1 (fuel + 1) y h (fun j hj => by
          rcases List.mem_append.mp hj with hj | hj
          · rcases i with g | ⟨v, w⟩ | m
            · exact okI_k hG.gd.wd hG.wt hm hi j hj
            · exact absurd hj (by simp [stk])
            · exact absurd hj (by simp [stk])
          · exact hok j (List.mem_cons_of_mem _ hj)) (by omega) (by omega) hq1 e1 e2
        exact ⟨w, r', c1, a2.trans c2, c3⟩
      · have hy : y = stx cd td x i := rn_oc n _ _ y h (by rw [e1]; decide)
        have hfin : ∀ w, ∃ w' r', m_write_35 K (fuel + 1) w l1 l2 r1 = K w' l1 l2 r' ∧ KZ r r' ∧ FIN y w' r' := fun w => ⟨w, r1, loop_full e2 fuel, a2, Or.inr (Or.inl ⟨by rw [hy]; exact e1, e2⟩)⟩
        show ∃ w r', (if b = 0 then m_write_35 K (fuel + 1) 0 l1 l2 r1 else if (1 : Int32) = 0 then m_write_35 K (fuel + 1) 0 l1 l2 r1 else m_write_35 K (fuel + 1) 1 l1 l2 r1) = _ ∧ _
        by_cases hb : b = 0
        · rw [if_pos hb]; exact hfin 0
        · rw [if_neg hb, if_neg n10]; exact hfin 1
      · have hy : y = stx cd td x i := rn_oc n _ _ y h (by rw [e1.oc]; decide)
        show ∃ w r', (if b = 0 then m_write_35 K (fuel + 1) 0 l1 l2 r1 else _) = _ ∧ _
        rw [if_pos hb]
        exact ⟨0, r1, loop_ab e1 fuel, a2, Or.inr (Or.inr ⟨rfl, by rw [hy]; exact e1⟩)⟩
