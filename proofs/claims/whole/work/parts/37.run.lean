/-! handles only grow -/
def eh_le (x y : ES) : Prop := (¬ x.2.1 = 0 → y.2.1 = x.2.1) ∧ (y.2.1 = 0 → ∀ h : Nat, x.2.2.2 = nI h → h ≤ x.1.length → x.1.length ≤ 1400 → ∃ h' : Nat, y.2.2.2 = nI h' ∧ h' + x.1.length ≤ h + y.1.length ∧ y.1.length ≤ 1400 ∧ ∀ k, ¬ x.2.2.1 k = -1 → ¬ y.2.2.1 k = -1)
theorem eh_le.rfl {x : ES} : eh_le x x := ⟨fun _ => Eq.refl _, fun _ h e _ l => ⟨h, e, Nat.le_refl _, l, fun _ z => z⟩⟩
theorem eh_le.trans {x y z : ES} (a : eh_le x y) (b : eh_le y z) : eh_le x z := by
  refine ⟨fun h => (b.1 (by rw [a.1 h]; exact h)).trans (a.1 h), fun hz h e hl l => ?_⟩
  have hy : y.2.1 = 0 := by
    by_cases hy : y.2.1 = 0
    · exact hy
    · exact absurd ((b.1 hy).symm.trans hz) hy
  obtain ⟨h1, e1, l1, m1, k1⟩ := a.2 hy h e hl l
  obtain ⟨h2, e2, l2, m2, k2⟩ := b.2 hz h1 e1 (by omega) m1
  exact ⟨h2, e2, by omega, m2, fun k q => k2 k (k1 k q)⟩
theorem eh_le_put (x : ES) (n : Int64) (w : Nat) : eh_le x (es_put x n w) := by
  unfold es_put
  split
  · rename_i h0
    split
    · exact ⟨fun h => absurd h0 h, fun h => absurd h (show ¬ (-2 : Int32) = 0 by decide)⟩
    · rename_i h1
      refine ⟨fun h => absurd h0 h, fun _ h e hl l => ⟨h, e, ?_, ?_, fun _ z => z⟩⟩
      · show h + x.1.length ≤ h + (x.1 ++ es_bytes n w).length
        rw [List.length_append]; omega
      · show (x.1 ++ es_bytes n w).length ≤ 1400
        rw [List.length_append, es_bytes_len]; omega
  · exact eh_le.rfl
theorem nI_ne1 {h : Nat} (hh : h < 2 ^ 31) : ¬ nI h = -1 := fun e => nI_pos hh (by rw [e]; decide)
/-- a byte, then a handle -/
theorem eh_pg {x z : ES} {n : Int64} (a : eh_le (es_put x n 1) z) (k : Nat) : eh_le x (es_give z k) := by
  refine ⟨fun h => ?_, fun hz h e hl l => ?_⟩
  · have := (eh_le_put x n 1).1 h
    exact (a.1 (by rw [this]; exact h)).trans this
  · have hz0 : z.2.1 = 0 := hz
    have hp : (es_put x n 1).2.1 = 0 := by
      by_cases hy : (es_put x n 1).2.1 = 0
      · exact hy
      · exact absurd ((a.1 hy).symm.trans hz0) hy
    have hx : x.2.1 = 0 := by
      by_cases hy : x.2.1 = 0
      · exact hy
      · exact absurd (((eh_le_put x n 1).1 hy).symm.trans hp) hy
    have hlen : (es_put x n 1).1.length = x.1.length + 1 ∧ (es_put x n 1).2.2 = x.2.2 := by
      unfold es_put at hp ⊢
      rw [if_pos hx] at hp ⊢
      by_cases h1 : 1400 < x.1.length + 1
      · rw [if_pos h1] at hp; exact absurd hp (show ¬ (-2 : Int32) = 0 by decide)
      · rw [if_neg h1]; exact ⟨by show (x.1 ++ es_bytes n 1).length = _; rw [List.length_append, es_bytes_len], Eq.refl _⟩
    obtain ⟨h1, e1, l1, m1, k1⟩ := (eh_le_put x n 1).2 hp h e hl l
    obtain ⟨h2, e2, l2, m2, k2⟩ := a.2 hz0 h (by rw [hlen.2]; exact e) (by omega) m1
    refine ⟨h2 + 1, ?_, ?_, m2, fun q hq => ?_⟩
    · show z.2.2.2 + 1 = _; rw [e2, nI_1]
    · show h2 + 1 + x.1.length ≤ h + z.1.length; omega
    · show ¬ upd z.2.2.1 k z.2.2.2 q = -1
      by_cases hqk : q = k
      · rw [hqk, pk_us, e2]; exact nI_ne1 (by omega)
      · rw [pk_un hqk]; exact k2 q (by rw [hlen.2]; exact hq)
theorem eh_le_oc2 (x : ES) (h0 : x.2.1 = 0) (o : Int32) (ho : ¬ o = 0) : eh_le x (es_oc x o) := ⟨fun h => absurd h0 h, fun h => absurd h ho⟩
theorem eh_le_fold (l : List Int32) : ∀ x : ES, eh_le x (l.foldl (fun x c => es_put x c.toInt64 1) x) := by
  induction l with
  | nil => intro x; exact eh_le.rfl
  | cons a l ih => intro x; exact (eh_le_put x _ _).trans (ih _)
theorem eh_le_ref (x : ES) (k : Nat) : eh_le x (es_ref x k).1 := by
  unfold es_ref
  split
  · exact eh_le.rfl
  · exact (eh_le_put _ _ _).trans (eh_le_put _ _ _)
theorem eh_le_utf (x : ES) (t : List Int32) : eh_le x (es_utf x t) := (eh_le_put _ _ _).trans (eh_le_fold t _)
theorem eh_le_text (x : ES) (k : Nat) (t : List Int32) : eh_le x (es_text x k t) := (eh_pg eh_le.rfl k).trans (eh_le_utf _ _)
theorem eh_le_sign (x : ES) (c : Int32) : eh_le x (es_sign x c) := (eh_le_put _ _ _).trans (eh_le_put _ _ _)
theorem eh_le_close (x : ES) : eh_le x (es_close x) := (eh_le_put _ _ _).trans (eh_le_put _ _ _)
theorem eh_le_desc (x : ES) (k : Nat) (t : List Int32) (i : Int64) (fl fd : Int32) : eh_le x (es_desc x k t i fl fd).1 := by
  unfold es_desc
  split
  · exact ((eh_le_ref x k).trans (eh_pg ((eh_le_utf _ _).trans (eh_le_put _ _ _)) k)).trans ((eh_le_put _ _ _).trans (eh_le_put _ _ _))
  · exact eh_le_ref x k
theorem eh_le_abort (x : ES) (t : List Int32) : eh_le x (es_abort x t) := by
  have h : eh_le x (es_put (es_utf (es_put (es_put (es_put x 123 1) 121 1) 116 1) t) 121 1) := ((((eh_le_put _ _ _).trans (eh_le_put _ _ _)).trans (eh_le_put _ _ _)).trans (eh_le_utf _ _)).trans (eh_le_put _ _ _)
  unfold es_abort
  dsimp only
  split
  · rename_i h9; exact h.trans (eh_le_oc2 _ h9 _ (by decide))
  · exact h
theorem eh_le_top (x : ES) (k : Nat) (t : List Int32) (i : Int64) (fl : Int32) : eh_le x (ga_top x k t i fl) := by
  unfold ga_top
  split
  · exact eh_le_desc _ _ _ _ _ _
  · exact (eh_le_desc _ _ _ _ _ _).trans (eh_le_close _)
theorem eh_le_irec (t : TT) : ∀ (r : Nat) (x : ES), eh_le x (ga_irec t r x) := by
  intro r
  induction r with
  | zero => intro x; exact eh_le.rfl
  | succ r ih => intro x; exact (eh_le_put _ _ _).trans (ih _)
theorem eh_le_ints (x : ES) (o : Nat) (t : TT) : eh_le x (ga_ints x o t) := (eh_pg (eh_le_top _ _ _ _ _) o).trans ((eh_le_put _ _ _).trans (eh_le_irec _ _ _))
theorem eh_le_tt (x : ES) (k : Nat) (t : List Int32) : eh_le x (ga_tt x k t) := by
  unfold ga_tt
  split
  · exact (eh_le_ref x k).trans (eh_le_text _ _ _)
  · exact eh_le_ref x k
theorem eh_le_tyt (x : ES) (ty : Int32) : eh_le x (ga_tyt x ty) := by
  unfold ga_tyt
  split
  · exact eh_le_tt _ _ _
  · split
    · exact eh_le_tt _ _ _
    · exact eh_le.rfl
theorem eh_le_frec (d : DT) : ∀ (r : Nat) (x : ES), eh_le x (ga_frec d r x) := by
  intro r
  induction r with
  | zero => intro x; exact eh_le.rfl
  | succ r ih => intro x; exact (((eh_le_put _ _ _).trans (eh_le_sign _ _)).trans (eh_le_tyt _ _)).trans (ih _)
theorem eh_le_dch (cd : Nat → Option DT) (d0 : DT) : ∀ (n : Nat) (x : ES), eh_le x (ga_dch cd d0 n x).1 := by
  intro n
  induction n with
  | zero => intro x; exact eh_le.rfl
  | succ n ih =>
    intro x
    unfold ga_dch
    split
    · exact eh_le.rfl
    · split
      · exact eh_le.rfl
      · split
        · exact eh_le_desc _ _ _ _ _ _
        · exact (((eh_le_desc _ _ _ _ _ _).trans (eh_le_frec _ _ _)).trans (eh_le_put _ _ _)).trans (ih _)
theorem eh_le_descr (cd : Nat → Option DT) (d0 : DT) (x : ES) : eh_le x (ga_descr cd d0 x) := by
  unfold ga_descr ga_dfin
  have h := eh_le_dch cd d0 (dd_cn d0) x
  split
  · exact h
  · split
    · exact h.trans (eh_le_top _ _ _ _ _)
    · exact h.trans (eh_le_put _ _ _)
theorem eh_le_const (cd : Nat → Option DT) (x : ES) (o : Nat) (t : TT) : eh_le x (ga_const cd x o t) := by
  unfold ga_const
  split
  · exact eh_le.rfl
  · exact (eh_pg (eh_le_descr _ _ _) o).trans (eh_le_tt _ _ _)
theorem eh_le_rrec {rc : ES → Int32 → ES} (h : ∀ x g, eh_le x (rc x g)) (t : TT) : ∀ (r : Nat) (x : ES), eh_le x (ga_rrec rc t r x) := by
  intro r
  induction r with
  | zero => intro x; exact eh_le.rfl
  | succ r ih => intro x; exact (h _ _).trans (ih _)
theorem eh_le_refs {rc : ES → Int32 → ES} (h : ∀ x g, eh_le x (rc x g)) (x : ES) (o : Nat) (t : TT) : eh_le x (ga_refs rc x o t) := (eh_pg (eh_le_top _ _ _ _ _) o).trans ((eh_le_put _ _ _).trans (eh_le_rrec h _ _ _))
theorem eh_le_part {rc : ES → Int32 → ES} (h : ∀ x g, eh_le x (rc x g)) (t : TT) (d : DT) (fi : Nat) (x : ES) (i : Nat) : eh_le x (ga_part rc t d fi x i) := by
  unfold ga_part
  split
  · exact eh_le_put _ _ _
  · exact h _ _
theorem eh_le_prec {rc : ES → Int32 → ES} (h : ∀ x g, eh_le x (rc x g)) (t : TT) (d : DT) (fi : Nat) : ∀ (r : Nat) (x : ES), eh_le x (ga_prec rc t d fi r x) := by
  intro r
  induction r with
  | zero => intro x; exact eh_le.rfl
  | succ r ih => intro x; exact (eh_le_part h _ _ _ _ _).trans (ih _)
theorem eh_le_parts {rc : ES → Int32 → ES} (h : ∀ x g, eh_le x (rc x g)) (k : Nat) (t : TT) (d : DT) (fi : Nat) (x : ES) : eh_le x (ga_parts rc k t d fi x) := by
  have h1 := eh_le_prec h t d fi (dd_sh d) x
  unfold ga_parts ga_cust
  split
  · exact h1.trans ((eh_le_put _ _ _).trans ((eh_le_put _ _ _).trans ((eh_le_put _ _ _).trans (eh_le_put _ _ _))))
  · exact h1
theorem eh_le_irun {rc : ES → Int32 → ES} (h : ∀ x g, eh_le x (rc x g)) (cd : Nat → Option DT) (t : TT) (d0 : DT) : ∀ (r : Nat) (x : ES) (fi : Nat), eh_le x (ga_irun rc cd t d0 r x fi) := by
  intro r
  induction r with
  | zero => intro x fi; exact eh_le.rfl
  | succ r ih =>
    intro x fi
    unfold ga_irun
    split
    · exact eh_le.rfl
    · refine eh_le.trans ?_ (ih _ _)
      split
      · exact eh_le.rfl
      · exact eh_le_parts h _ _ _ _ _
theorem eh_le_instn {rc : ES → Int32 → ES} (h : ∀ x g, eh_le x (rc x g)) (cd : Nat → Option DT) (x : ES) (o : Nat) (t : TT) : eh_le x (ga_instn rc cd x o t) := by
  unfold ga_instn
  split
  · exact eh_le.rfl
  · split
    · exact eh_le_abort _ _
    · exact (eh_pg (eh_le_descr _ _ _) o).trans (eh_le_irun h _ _ _ _ _ _)
theorem eh_le_sw {rc : ES → Int32 → ES} (h : ∀ x g, eh_le x (rc x g)) (cd : Nat → Option DT) (td : Nat → TT) (x : ES) (o : Nat) : eh_le x (ga_sw rc cd td x o) := by
  unfold ga_sw
  split
  · exact eh_le_text _ _ _
  · split
    · exact eh_le_ints _ _ _
    · split
      · exact eh_le_refs h _ _ _
      · split
        · exact eh_le_const _ _ _ _
        · exact eh_le_instn h _ _ _ _
theorem eh_le_obj (cd : Nat → Option DT) (td : Nat → TT) : ∀ (n : Nat) (x : ES) (g u : Int32), eh_le x (ga_obj cd td n x g u) := by
  intro n
  induction n with
  | zero =>
    intro x g u
    unfold ga_obj
    split
    · rename_i h9
      split
      · exact eh_le_put _ _ _
      · exact eh_le_oc2 _ h9 _ (by decide)
    · exact eh_le.rfl
  | succ n ih =>
    intro x g u
    unfold ga_obj
    split
    · split
      · exact eh_le_put _ _ _
      · unfold ga_body
        split
        · split
          · exact (eh_le_ref _ _).trans (eh_le_sw (fun x g => ih x g 0) _ _ _ _)
          · exact eh_le_ref _ _
        · exact eh_le_sw (fun x g => ih x g 0) _ _ _ _
    · exact eh_le.rfl
/-! the worklist -/
abbrev IT : Type := Sum Int32 (Sum (Int64 × Nat) Int32)
abbrev IT.ob (g : Int32) : IT := .inl g
abbrev IT.pr (v : Int64) (w : Nat) : IT := .inr (.inl (v, w))
abbrev IT.ex (n : Int32) : IT := .inr (.inr n)
def gk_ap (rc : ES → Int32 → ES) (x : ES) : IT → ES
  | .inl g => rc x g
  | .inr (.inl z) => es_put x z.1 z.2
  | .inr (.inr n) => es_put (es_put (es_put (es_put x 119 1) 4 1) n.toInt64 4) 120 1
def gk_rrec (t : TT) : Nat → List IT
  | 0 => []
  | r + 1 => IT.ob (tt_va t (tt_n t - 1 - r)).toInt32 :: gk_rrec t r
def gk_part (t : TT) (d : DT) (fi i : Nat) : IT :=
  if dd_ty d (dd_or d i).toNatClampNeg < 6 then IT.pr (if dd_ty d (dd_or d i).toNatClampNeg = 5 then tt_va t (fi + (dd_or d i).toNatClampNeg) &&& 1 else tt_va t (fi + (dd_or d i).toNatClampNeg)) (gw_wd (dd_ty d (dd_or d i).toNatClampNeg).toNatClampNeg).toNatClampNeg
  else IT.ob (tt_va t (fi + (dd_or d i).toNatClampNeg)).toInt32
def gk_prec (t : TT) (d : DT) (fi : Nat) : Nat → List IT
  | 0 => []
  | r + 1 => gk_part t d fi (dd_sh d - 1 - r) :: gk_prec t d fi r
def gk_parts (k : Nat) (t : TT) (d : DT) (fi : Nat) : List IT := gk_prec t d fi (dd_sh d) ++ (if dd_kd d = 2 then [IT.ex (tt_ex t + nI k)] else [])
def gk_irun (cd : Nat → Option DT) (t : TT) (d0 : DT) : Nat → Nat → List IT
  | 0, _ => []
  | r + 1, fi => match cd (dd_cf d0 (dd_cn d0 - 1 - r)).toNatClampNeg with
    | none => []
    | some d => (if dd_kd d = 0 then [] else gk_parts (dd_cf d0 (dd_cn d0 - 1 - r)).toNatClampNeg t d fi) ++ gk_irun cd t d0 r (fi + dd_fn d)
def gk_sw (cd : Nat → Option DT) (td : Nat → TT) (o : Nat) : List IT :=
  if tt_so (td o) = 1 then [] else if tt_so (td o) = 2 then [] else if tt_so (td o) = 3 then gk_rrec (td o) (tt_n (td o)) else if tt_so (td o) = 4 then [] else match cd (tt_ow (td o)).toNatClampNeg with
  | none => []
  | some d0 => if dd_kd d0 = 0 then [] else gk_irun cd (td o) d0 (dd_cn d0) 0
def gh_sw (cd : Nat → Option DT) (td : Nat → TT) (x : ES) (o : Nat) : ES :=
  if tt_so (td o) = 1 then es_text x o (tt_tx (td o)) else if tt_so (td o) = 2 then ga_ints x o (td o) else if tt_so (td o) = 3 then es_put (es_give (ga_top (es_put x 117 1) 31 (z9_tx 2) (-8012369246846506644) 2) o) (nI (tt_n (td o))).toInt64 4 else if tt_so (td o) = 4 then ga_const cd x o (td o) else match cd (tt_ow (td o)).toNatClampNeg with
  | none => x
  | some d0 => if dd_kd d0 = 0 then es_abort x [nI (65 + (tt_ow (td o)).toNatClampNeg)] else es_give (ga_descr cd d0 (es_put x 115 1)) o
theorem gk_rrec_ok (rc : ES → Int32 → ES) (t : TT) : ∀ (r : Nat) (x : ES), ga_rrec rc t r x = (gk_rrec t r).foldl (gk_ap rc) x := by
  intro r
  induction r with
  | zero => intro x; rfl
  | succ r ih => intro x; exact ih _
theorem gk_part_ok (rc : ES → Int32 → ES) (t : TT) (d : DT) (fi i : Nat) (x : ES) : ga_part rc t d fi x i = gk_ap rc x (gk_part t d fi i) := by
  unfold ga_part gk_part
  split <;> rfl
theorem gk_prec_ok (rc : ES → Int32 → ES) (t : TT) (d : DT) (fi : Nat) : ∀ (r : Nat) (x : ES), ga_prec rc t d fi r x = (gk_prec t d fi r).foldl (gk_ap rc) x := by
  intro r
  induction r with
  | zero => intro x; rfl
  | succ r ih => intro x; show ga_prec rc t d fi r (ga_part rc t d fi x _) = (gk_prec t d fi r).foldl (gk_ap rc) (gk_ap rc x _); rw [ih, gk_part_ok]
theorem gk_parts_ok (rc : ES → Int32 → ES) (k : Nat) (t : TT) (d : DT) (fi : Nat) (x : ES) : ga_parts rc k t d fi x = (gk_parts k t d fi).foldl (gk_ap rc) x := by
  unfold ga_parts gk_parts ga_cust
  rw [List.foldl_append, gk_prec_ok]
  by_cases h : dd_kd d = 2
  · rw [if_pos h, if_pos h]; simp only [List.foldl, gk_ap]
  · rw [if_neg h, if_neg h]; simp only [List.foldl]
theorem gk_irun_ok (rc : ES → Int32 → ES) (cd : Nat → Option DT) (t : TT) (d0 : DT) : ∀ (r : Nat) (x : ES) (fi : Nat), ga_irun rc cd t d0 r x fi = (gk_irun cd t d0 r fi).foldl (gk_ap rc) x := by
  intro r
  induction r with
  | zero => intro x fi; rfl
  | succ r ih =>
    intro x fi
    unfold ga_irun gk_irun
    rcases hcd : cd (dd_cf d0 (dd_cn d0 - 1 - r)).toNatClampNeg with _ | d
    · simp only [List.foldl]
    · simp only []
      rw [List.foldl_append, ih]
      by_cases h : dd_kd d = 0
      · rw [if_pos h, if_pos h]; simp only [List.foldl]
      · rw [if_neg h, if_neg h, gk_parts_ok]
theorem gk_sw_ok (rc : ES → Int32 → ES) (cd : Nat → Option DT) (td : Nat → TT) (x : ES) (o : Nat) : ga_sw rc cd td x o = (gk_sw cd td o).foldl (gk_ap rc) (gh_sw cd td x o) := by
  unfold ga_sw gk_sw gh_sw
  by_cases h1 : tt_so (td o) = 1
  · rw [if_pos h1, if_pos h1, if_pos h1]; rfl
  rw [if_neg h1, if_neg h1, if_neg h1]
  by_cases h2 : tt_so (td o) = 2
  · rw [if_pos h2, if_pos h2, if_pos h2]; rfl
  rw [if_neg h2, if_neg h2, if_neg h2]
  by_cases h3 : tt_so (td o) = 3
  · rw [if_pos h3, if_pos h3, if_pos h3]; exact gk_rrec_ok _ _ _ _
  rw [if_neg h3, if_neg h3, if_neg h3]
  by_cases h4 : tt_so (td o) = 4
  · rw [if_pos h4, if_pos h4, if_pos h4]; rfl
  rw [if_neg h4, if_neg h4, if_neg h4]
  unfold ga_instn
  rcases hcd : cd (tt_ow (td o)).toNatClampNeg with _ | d0
  · simp only [List.foldl]
  · simp only []
    by_cases h : dd_kd d0 = 0
    · rw [if_pos h, if_pos h, if_pos h]; simp only [List.foldl]
    · rw [if_neg h, if_neg h, if_neg h]; exact gk_irun_ok _ _ _ _ _ _ _
def gk_hd (cd : Nat → Option DT) (td : Nat → TT) (x : ES) (o : Nat) (u : Int32) : ES := if u = 0 then (if (es_ref x o).2 = 0 then gh_sw cd td (es_ref x o).1 o else (es_ref x o).1) else gh_sw cd td x o
def gk_ch (cd : Nat → Option DT) (td : Nat → TT) (x : ES) (o : Nat) (u : Int32) : List IT := if u = 0 then (if (es_ref x o).2 = 0 then gk_sw cd td o else []) else gk_sw cd td o
def gk_x (cd : Nat → Option DT) (td : Nat → TT) (x : ES) (g u : Int32) : ES := if x.2.1 = 0 then (if g = -1 then es_put x 112 1 else gk_hd cd td x (ga_repl td 12 g.toNatClampNeg 0) u) else x
def gk_k (cd : Nat → Option DT) (td : Nat → TT) (x : ES) (g u : Int32) : List IT := if x.2.1 = 0 then (if g = -1 then [] else gk_ch cd td x (ga_repl td 12 g.toNatClampNeg 0) u) else []
theorem ga_obj_s (cd : Nat → Option DT) (td : Nat → TT) (n : Nat) (x : ES) (g u : Int32) : ga_obj cd td (n + 1) x g u = if x.2.1 = 0 then (if g = -1 then es_put x 112 1 else ga_body (fun x g => ga_obj cd td n x g 0) cd td x (ga_repl td 12 g.toNatClampNeg 0) u) else x := rfl
theorem gk_obj_ok (cd : Nat → Option DT) (td : Nat → TT) (n : Nat) (x : ES) (g u : Int32) : ga_obj cd td (n + 1) x g u = (gk_k cd td x g u).foldl (gk_ap (fun x g => ga_obj cd td n x g 0)) (gk_x cd td x g u) := by
  rw [ga_obj_s]
  generalize (fun x g => ga_obj cd td n x g 0) = rc
  unfold gk_x gk_k
  by_cases h0 : x.2.1 = 0
  · rw [if_pos h0, if_pos h0, if_pos h0]
    by_cases hg : g = -1
    · rw [if_pos hg, if_pos hg, if_pos hg]; rfl
    rw [if_neg hg, if_neg hg, if_neg hg]
    unfold ga_body gk_hd gk_ch
    by_cases hu : u = 0
    · rw [if_pos hu, if_pos hu, if_pos hu]
      by_cases hr : (es_ref x (ga_repl td 12 g.toNatClampNeg 0)).2 = 0
      · rw [if_pos hr, if_pos hr, if_pos hr]; exact gk_sw_ok _ _ _ _ _
      · rw [if_neg hr, if_neg hr, if_neg hr]; rfl
    · rw [if_neg hu, if_neg hu, if_neg hu]; exact gk_sw_ok _ _ _ _ _
  · rw [if_neg h0, if_neg h0, if_neg h0]; rfl
/-- how many objects have no handle -/
def fr_n (la : Nat → Int32) : Nat → Nat
  | 0 => 0
  | n + 1 => fr_n la n + (if la n = -1 then 1 else 0)
theorem fr_le (la : Nat → Int32) : ∀ n, fr_n la n ≤ n := by
  intro n
  induction n with
  | zero => exact Nat.le_refl _
  | succ n ih => unfold fr_n; split <;> omega
theorem fr_mono {la lb : Nat → Int32} (h : ∀ k, ¬ la k = -1 → ¬ lb k = -1) : ∀ n, fr_n lb n ≤ fr_n la n := by
  intro n
  induction n with
  | zero => exact Nat.le_refl _
  | succ n ih =>
    unfold fr_n
    by_cases h1 : la n = -1
    · rw [if_pos h1]; split <;> omega
    · rw [if_neg h1, if_neg (h n h1)]; omega
theorem fr_lt {la lb : Nat → Int32} (h : ∀ k, ¬ la k = -1 → ¬ lb k = -1) {o : Nat} (ho : la o = -1) (ho2 : ¬ lb o = -1) : ∀ n, o < n → fr_n lb n < fr_n la n := by
  intro n
  induction n with
  | zero => intro h9; omega
  | succ n ih =>
    intro h9
    unfold fr_n
    by_cases hon : o = n
    · subst hon
      rw [if_pos ho, if_neg ho2]
      have := fr_mono h o
      omega
    · have := ih (by omega)
      by_cases h1 : la n = -1
      · rw [if_pos h1]; split <;> omega
      · rw [if_neg h1, if_neg (h n h1)]; omega
def rn_f (cd : Nat → Option DT) (td : Nat → TT) : Nat → ES → List IT → Option ES
  | 0, _, _ => none
  | _ + 1, x, [] => some x
  | n + 1, x, .inl g :: st => rn_f cd td n (gk_x cd td x g 0) (gk_k cd td x g 0 ++ st)
  | n + 1, x, .inr (.inl z) :: st => rn_f cd td n (es_put x z.1 z.2) st
  | n + 1, x, .inr (.inr m) :: st => rn_f cd td n (es_put (es_put (es_put (es_put x 119 1) 4 1) m.toInt64 4) 120 1) st
def Rn (cd : Nat → Option DT) (td : Nat → TT) (x : ES) (st : List IT) (y : ES) : Prop := ∃ n, rn_f cd td n x st = some y
theorem Rn.nil {cd : Nat → Option DT} {td : Nat → TT} (x : ES) : Rn cd td x [] x := ⟨1, rfl⟩
theorem Rn.ob {cd : Nat → Option DT} {td : Nat → TT} {x y : ES} {g : Int32} {st : List IT} (h : Rn cd td (gk_x cd td x g 0) (gk_k cd td x g 0 ++ st) y) : Rn cd td x (IT.ob g :: st) y := by
  obtain ⟨n, h⟩ := h; exact ⟨n + 1, h⟩
theorem Rn.pr {cd : Nat → Option DT} {td : Nat → TT} {x y : ES} {v : Int64} {w : Nat} {st : List IT} (h : Rn cd td (es_put x v w) st y) : Rn cd td x (IT.pr v w :: st) y := by
  obtain ⟨n, h⟩ := h; exact ⟨n + 1, h⟩
theorem Rn.ex {cd : Nat → Option DT} {td : Nat → TT} {x y : ES} {n : Int32} {st : List IT} (h : Rn cd td (es_put (es_put (es_put (es_put x 119 1) 4 1) n.toInt64 4) 120 1) st y) : Rn cd td x (IT.ex n :: st) y := by
  obtain ⟨m, h⟩ := h; exact ⟨m + 1, h⟩
theorem eh_gh (cd : Nat → Option DT) (td : Nat → TT) (x : ES) (o : Nat) : eh_le x (gh_sw cd td x o) := by
  unfold gh_sw
  split
  · exact eh_le_text _ _ _
  · split
    · exact eh_le_ints _ _ _
    · split
      · exact (eh_pg (eh_le_top _ _ _ _ _) o).trans (eh_le_put _ _ _)
      · split
        · exact eh_le_const _ _ _ _
        · split
          · exact eh_le.rfl
          · split
            · exact eh_le_abort _ _
            · exact eh_pg (eh_le_descr _ _ _) o
theorem eh_gkx (cd : Nat → Option DT) (td : Nat → TT) (x : ES) (g u : Int32) : eh_le x (gk_x cd td x g u) := by
  unfold gk_x
  split
  · split
    · exact eh_le_put _ _ _
    · unfold gk_hd
      split
      · split
        · exact (eh_le_ref _ _).trans (eh_gh _ _ _ _)
        · exact eh_le_ref _ _
      · exact eh_gh _ _ _ _
  · exact eh_le.rfl
theorem es_put_la (x : ES) (n : Int64) (w : Nat) : (es_put x n w).2.2 = x.2.2 := by
  unfold es_put
  split
  · split <;> rfl
  · rfl
theorem es_put_oc {x : ES} {n : Int64} {w : Nat} (h : (es_put x n w).2.1 = 0) : x.2.1 = 0 := by
  by_cases hx : x.2.1 = 0
  · exact hx
  · exact absurd (((eh_le_put x n w).1 hx).symm.trans h) hx
def Dq (x : ES) : Prop := x.2.1 = 0 → (∃ h : Nat, x.2.2.2 = nI h ∧ h ≤ x.1.length) ∧ x.1.length ≤ 1400
theorem Dq.le {x y : ES} (h : Dq x) (l : eh_le x y) : Dq y := by
  intro hy
  have hx : x.2.1 = 0 := by
    by_cases hx : x.2.1 = 0
    · exact hx
    · exact absurd ((l.1 hx).symm.trans hy) hx
  obtain ⟨⟨h0, e0, l0⟩, m0⟩ := h hx
  obtain ⟨h1, e1, l1, m1, -⟩ := l.2 hy h0 e0 l0 m0
  exact ⟨⟨h1, e1, by omega⟩, m1⟩
theorem Dq.la {x y : ES} (h : Dq x) (l : eh_le x y) (hy : y.2.1 = 0) : ∀ k, ¬ x.2.2.1 k = -1 → ¬ y.2.2.1 k = -1 := by
  have hx : x.2.1 = 0 := by
    by_cases hx : x.2.1 = 0
    · exact hx
    · exact absurd ((l.1 hx).symm.trans hy) hx
  obtain ⟨⟨h0, e0, l0⟩, m0⟩ := h hx
  obtain ⟨h1, e1, l1, m1, k1⟩ := l.2 hy h0 e0 l0 m0
  exact k1
/-- what was given a handle has one -/
theorem Dq.give {x z : ES} {n : Int64} (h : Dq x) (l : eh_le (es_put x n 1) z) (o : Nat) (hz : (es_give z o).2.1 = 0) : ¬ (es_give z o).2.2.1 o = -1 := by
  obtain ⟨⟨h1, e1, l1⟩, m1⟩ := (h.le ((eh_le_put x n 1).trans l)) hz
  show ¬ upd z.2.2.1 o z.2.2.2 o = -1
  rw [pk_us, e1]; exact nI_ne1 (by omega)
theorem gh_own {cd : Nat → Option DT} {td : Nat → TT} {x : ES} {o : Nat} (hD : Dq x) (hk : ¬ gk_sw cd td o = []) (h0 : (gh_sw cd td x o).2.1 = 0) : ¬ (gh_sw cd td x o).2.2.1 o = -1 := by
  unfold gk_sw at hk
  unfold gh_sw at h0 ⊢
  by_cases h1 : tt_so (td o) = 1
  · rw [if_pos h1] at hk; exact absurd rfl hk
  rw [if_neg h1] at hk h0 ⊢
  by_cases h2 : tt_so (td o) = 2
  · rw [if_pos h2] at hk; exact absurd rfl hk
  rw [if_neg h2] at hk h0 ⊢
  by_cases h3 : tt_so (td o) = 3
  · rw [if_pos h3] at h0 ⊢
    have h9 := es_put_oc h0
    rw [es_put_la]
    exact hD.give (eh_le_top _ _ _ _ _) o h9
  rw [if_neg h3] at hk h0 ⊢
  by_cases h4 : tt_so (td o) = 4
  · rw [if_pos h4] at hk; exact absurd rfl hk
  rw [if_neg h4] at hk h0 ⊢
  rcases hcd : cd (tt_ow (td o)).toNatClampNeg with _ | d0
  · rw [hcd] at hk; exact absurd rfl hk
  · rw [hcd] at hk h0
    simp only [] at hk h0 ⊢
    by_cases h5 : dd_kd d0 = 0
    · rw [if_pos h5] at hk; exact absurd rfl hk
    rw [if_neg h5] at h0 ⊢
    exact hD.give (eh_le_descr _ _ _) o h0
/-- a good item -/
def okI (mk : Nat) : IT → Prop
  | .inl g => wf_g mk g
  | .inr (.inl z) => z.2 ≤ 8
  | .inr (.inr _) => True
theorem okI_rrec {mk : Nat} {t : TT} (h : ∀ q, q < tt_n t → wf_v mk (tt_va t q)) : ∀ r, r ≤ tt_n t → ∀ i ∈ gk_rrec t r, okI mk i := by
  intro r
  induction r with
  | zero => intro _ i hi; exact absurd hi (by simp [gk_rrec])
  | succ r ih =>
    intro hr i hi
    rcases List.mem_cons.mp hi with rfl | h9
    · exact (h _ (by omega)).g
    · exact ih (by omega) i h9
theorem gw_wd8 : ∀ k, k < 8 → (gw_wd (nI k).toNatClampNeg).toNatClampNeg ≤ 8 := by decide +kernel
theorem okI_prec {mk : Nat} {t : TT} {d : DT} {fi : Nat} (hor : ∀ i, i < dd_sh d → ∃ f, f < dd_fn d ∧ dd_or d i = nI f) (hfn : dd_fn d ≤ 4) (hty : ∀ f, f < 4 → ∃ t, t < 8 ∧ dd_ty d f = nI t) (hv : ∀ f, f < dd_fn d → ¬ dd_ty d f < 6 → wf_v mk (tt_va t (fi + f))) : ∀ r, r ≤ dd_sh d → ∀ i ∈ gk_prec t d fi r, okI mk i := by
  intro r
  induction r with
  | zero => intro _ i hi; exact absurd hi (by simp [gk_prec])
  | succ r ih =>
    intro hr i hi
    rcases List.mem_cons.mp hi with rfl | h9
    · obtain ⟨f, hf, he⟩ := hor (dd_sh d - 1 - r) (by omega)
      have ef : (dd_or d (dd_sh d - 1 - r)).toNatClampNeg = f := by rw [he]; exact nI_clamp (by omega)
      unfold gk_part
      rw [ef]
      by_cases h6 : dd_ty d f < 6
      · rw [if_pos h6]
        obtain ⟨k, hk, hke⟩ := hty f (by omega)
        show _ ≤ 8
        rw [hke]; exact gw_wd8 k hk
      · rw [if_neg h6]; exact (hv f hf h6).g
    · exact ih (by omega) i h9
theorem okI_irun {cd : Nat → Option DT} {mk : Nat} {t : TT} {d0 : DT} (hw : wf_d cd) (hch : ∀ j, j < dd_cn d0 → ∃ i di, i < 6 ∧ dd_cf d0 j = nI i ∧ cd i = some di) (hv : ∀ j c e f, j < dd_cn d0 → dd_cf d0 j = nI c → cd c = some e → f < dd_fn e → ¬ dd_ty e f < 6 → wf_v mk (tt_va t (ga_sum cd d0 j + f))) : ∀ r, r ≤ dd_cn d0 → ∀ i ∈ gk_irun cd t d0 r (ga_sum cd d0 (dd_cn d0 - r)), okI mk i := by
  intro r
  induction r with
  | zero => intro _ i hi; exact absurd hi (by simp [gk_irun])
  | succ r ih =>
    intro hr i hi
    obtain ⟨c, e, hc, hce, hcd⟩ := hch (dd_cn d0 - 1 - r) (by omega)
    have ec : (dd_cf d0 (dd_cn d0 - 1 - r)).toNatClampNeg = c := by rw [hce]; exact nI_clamp (by omega)
    unfold gk_irun at hi
    rw [ec, hcd] at hi
    simp only [] at hi
    rcases List.mem_append.mp hi with h1 | h1
    · by_cases h0 : dd_kd e = 0
      · rw [if_pos h0] at h1; exact absurd h1 (by simp)
      rw [if_neg h0] at h1
      unfold gk_parts at h1
      obtain ⟨-, -, -, w4, w5, w6, -, w8⟩ := hw c e hcd
      rcases List.mem_append.mp h1 with h2 | h2
      · exact okI_prec w6 w4 w8 (fun f hf h6 => by
          have := hv (dd_cn d0 - 1 - r) c e f (by omega) hce hcd hf h6
          rwa [show dd_cn d0 - (r + 1) = dd_cn d0 - 1 - r by omega]) _ (Nat.le_refl _) i h2
      · by_cases h3 : dd_kd e = 2
        · rw [if_pos h3] at h2; rw [List.mem_singleton] at h2; rw [h2]; trivial
        · rw [if_neg h3] at h2; exact absurd h2 (by simp)
    · refine ih (by omega) i ?_
      have : ga_sum cd d0 (dd_cn d0 - r) = ga_sum cd d0 (dd_cn d0 - (r + 1)) + dd_fn e := by
        rw [show dd_cn d0 - r = (dd_cn d0 - 1 - r) + 1 by omega, show dd_cn d0 - (r + 1) = dd_cn d0 - 1 - r by omega]
        show ga_sum cd d0 _ + (match cd (dd_cf d0 (dd_cn d0 - 1 - r)).toNatClampNeg with | none => 0 | some d => dd_fn d) = _
        rw [ec, hcd]
      rw [this]; exact h1
theorem okI_sw {cd : Nat → Option DT} {mk : Nat} {td : Nat → TT} (hw : wf_d cd) (ht : wf_t cd mk td) {o : Nat} (ho : o < mk) : ∀ i ∈ gk_sw cd td o, okI mk i := by
  intro i hi
  obtain ⟨-, hs, hk, h3, h0⟩ := ht o ho
  unfold gk_sw at hi
  by_cases e1 : tt_so (td o) = 1
  · rw [if_pos e1] at hi; exact absurd hi (by simp)
  rw [if_neg e1] at hi
  by_cases e2 : tt_so (td o) = 2
  · rw [if_pos e2] at hi; exact absurd hi (by simp)
  rw [if_neg e2] at hi
  by_cases e3 : tt_so (td o) = 3
  · rw [if_pos e3] at hi; exact okI_rrec (h3 e3) _ (Nat.le_refl _) i hi
  rw [if_neg e3] at hi
  by_cases e4 : tt_so (td o) = 4
  · rw [if_pos e4] at hi; exact absurd hi (by simp)
  rw [if_neg e4] at hi
  have e0 : tt_so (td o) = 0 := by
    rcases hs with h | h | h | h | h
    · exact h
    · exact absurd h e1
    · exact absurd h e2
    · exact absurd h e3
    · exact absurd h e4
  obtain ⟨k, d, hk6, hke, hcd⟩ := hk (Or.inl e0)
  have ek : (tt_ow (td o)).toNatClampNeg = k := by rw [hke]; exact nI_clamp (by omega)
  rw [ek, hcd] at hi
  simp only [] at hi
  by_cases h9 : dd_kd d = 0
  · rw [if_pos h9] at hi; exact absurd hi (by simp)
  rw [if_neg h9] at hi
  obtain ⟨-, -, hch, -⟩ := hw k d hcd
  refine okI_irun hw hch ((h0 e0 k d hke hcd).2) _ (Nat.le_refl _) i ?_
  rw [Nat.sub_self]; exact hi
theorem okI_k {cd : Nat → Option DT} {mk : Nat} {td : Nat → TT} (hw : wf_d cd) (ht : wf_t cd mk td) (hmk : mk ≤ 12) {x : ES} {g u : Int32} (hg : wf_g mk g) : ∀ i ∈ gk_k cd td x g u, okI mk i := by
  intro i hi
  unfold gk_k at hi
  by_cases h0 : x.2.1 = 0
  · rw [if_pos h0] at hi
    by_cases h1 : g = -1
    · rw [if_pos h1] at hi; exact absurd hi (by simp)
    rw [if_neg h1] at hi
    rcases hg with h | ⟨j, hj, rfl⟩
    · exact absurd h h1
    have ho : ga_repl td 12 (nI j).toNatClampNeg 0 < mk := ga_repl_lt (fun i hi => (ht i hi).1) _ _ _ (by rw [nI_clamp (by omega)]; exact hj) (by omega)
    unfold gk_ch at hi
    by_cases hu : u = 0
    · rw [if_pos hu] at hi
      by_cases hr : (es_ref x (ga_repl td 12 (nI j).toNatClampNeg 0)).2 = 0
      · rw [if_pos hr] at hi; exact okI_sw hw ht ho i hi
      · rw [if_neg hr] at hi; exact absurd hi (by simp)
    · rw [if_neg hu] at hi; exact okI_sw hw ht ho i hi
  · rw [if_neg h0] at hi; exact absurd hi (by simp)
theorem fr_lt12 {la : Nat → Int32} {o : Nat} (h : ¬ la o = -1) : ∀ n, o < n → fr_n la n < n := by
  intro n
  induction n with
  | zero => intro h9; omega
  | succ n ih =>
    intro h9
    unfold fr_n
    by_cases hon : o = n
    · subst hon
      rw [if_neg h]
      have := fr_le la o
      omega
    · have := ih (by omega)
      split <;> omega
theorem es_ref_0 {x : ES} {k : Nat} (h : (es_ref x k).2 = 0) : x.2.2.1 k = -1 ∧ (es_ref x k).1 = x := by
  unfold es_ref at h ⊢
  by_cases h1 : x.2.2.1 k = -1
  · rw [if_pos h1]; exact ⟨h1, rfl⟩
  · rw [if_neg h1] at h; exact absurd h (show ¬ (1 : Int32) = 0 by decide)
/-- where there are children, there is one object less without a handle -/
theorem gk_fr {cd : Nat → Option DT} {mk : Nat} {td : Nat → TT} (ht : wf_t cd mk td) (hmk : mk ≤ 12) {x : ES} {g u : Int32} (hg : wf_g mk g) (hD : Dq x) (hk : ¬ gk_k cd td x g u = []) (h0 : (gk_x cd td x g u).2.1 = 0) : (u = 0 → fr_n (gk_x cd td x g u).2.2.1 12 < fr_n x.2.2.1 12) ∧ fr_n (gk_x cd td x g u).2.2.1 12 < 12 := by
  have hle := hD.la (eh_gkx cd td x g u) h0
  unfold gk_k at hk
  have e0 : x.2.1 = 0 := by
    by_cases e0 : x.2.1 = 0
    · exact e0
    · rw [if_neg e0] at hk; exact absurd rfl hk
  rw [if_pos e0] at hk
  have e1 : ¬ g = -1 := fun e1 => by rw [if_pos e1] at hk; exact hk rfl
  rw [if_neg e1] at hk
  rcases hg with h | ⟨j, hj, rfl⟩
  · exact absurd h e1
  have ho : ga_repl td 12 (nI j).toNatClampNeg 0 < mk := ga_repl_lt (fun i hi => (ht i hi).1) _ _ _ (by rw [nI_clamp (by omega)]; exact hj) (by omega)
  have ex : gk_x cd td x (nI j) u = gk_hd cd td x (ga_repl td 12 (nI j).toNatClampNeg 0) u := by unfold gk_x; rw [if_pos e0, if_neg e1]
  generalize ga_repl td 12 (nI j).toNatClampNeg 0 = o at *
  rw [ex] at h0 hle ⊢
  unfold gk_ch at hk
  unfold gk_hd at h0 hle ⊢
  by_cases hu : u = 0
  · rw [if_pos hu] at hk h0 hle ⊢
    by_cases hr : (es_ref x o).2 = 0
    · rw [if_pos hr] at hk h0 hle ⊢
      obtain ⟨r1, r2⟩ := es_ref_0 hr
      rw [r2] at h0 hle ⊢
      have hown := gh_own hD hk h0
      exact ⟨fun _ => fr_lt hle r1 hown 12 (by omega), fr_lt12 hown 12 (by omega)⟩
    · rw [if_neg hr] at hk; exact absurd rfl hk
  · rw [if_neg hu] at hk h0 hle ⊢
    exact ⟨fun h => absurd h hu, fr_lt12 (gh_own hD hk h0) 12 (by omega)⟩
def Dp (n : Nat) (x : ES) : Prop := Dq x ∧ (x.2.1 = 0 → fr_n x.2.2.1 12 < n)
theorem Dp.le {n : Nat} {x y : ES} (h : Dp n x) (l : eh_le x y) : Dp n y := by
  refine ⟨h.1.le l, fun hy => ?_⟩
  have hx : x.2.1 = 0 := by
    by_cases hx : x.2.1 = 0
    · exact hx
    · exact absurd ((l.1 hx).symm.trans hy) hx
  have := fr_mono (h.1.la l hy) 12
  have := h.2 hx
  omega
theorem Rn_fold {cd : Nat → Option DT} {mk : Nat} {td : Nat → TT} {rc : ES → Int32 → ES} {n : Nat} (hrc : ∀ x g, eh_le x (rc x g)) (ih : ∀ x g, wf_g mk g → Dp n x → ∀ st y, Rn cd td (rc x g) st y → Rn cd td x (IT.ob g :: st) y) : ∀ (L : List IT) (x : ES), (∀ i ∈ L, okI mk i) → Dp n x → ∀ st y, Rn cd td (L.foldl (gk_ap rc) x) st y → Rn cd td x (L ++ st) y := by
  intro L
  induction L with
  | nil => intro x _ _ st y h; exact h
  | cons i L ihL =>
    intro x hok hD st y h
    have hok2 : ∀ i ∈ L, okI mk i := fun j hj => hok j (List.mem_cons_of_mem _ hj)
    rcases i with g | ⟨v, w⟩ | m
    · exact ih x g (hok _ List.mem_cons_self) hD _ _ (ihL _ hok2 (hD.le (hrc x g)) st y h)
    · exact Rn.pr (ihL _ hok2 (hD.le (eh_le_put _ _ _)) st y h)
    · exact Rn.ex (ihL _ hok2 (hD.le (((eh_le_put _ _ _).trans (eh_le_put _ _ _)).trans ((eh_le_put _ _ _).trans (eh_le_put _ _ _)))) st y h)
theorem Rn_obj {cd : Nat → Option DT} {mk : Nat} {td : Nat → TT} (hw : wf_d cd) (ht : wf_t cd mk td) (hmk : mk ≤ 12) : ∀ (n : Nat) (x : ES) (g : Int32), wf_g mk g → Dp n x → ∀ st y, Rn cd td (ga_obj cd td n x g 0) st y → Rn cd td x (IT.ob g :: st) y := by
  intro n
  induction n with
  | zero =>
    intro x g hg hD st y h
    have h0 : ¬ x.2.1 = 0 := fun h0 => absurd (hD.2 h0) (Nat.not_lt_zero _)
    have e1 : ga_obj cd td 0 x g 0 = x := by unfold ga_obj; rw [if_neg h0]
    rw [e1] at h
    apply Rn.ob
    have e2 : gk_x cd td x g 0 = x := by unfold gk_x; rw [if_neg h0]
    have e3 : gk_k cd td x g 0 = [] := by unfold gk_k; rw [if_neg h0]
    rw [e2, e3]; exact h
  | succ n ih =>
    intro x g hg hD st y h
    rw [gk_obj_ok] at h
    apply Rn.ob
    by_cases hk : gk_k cd td x g 0 = []
    · rw [hk] at h ⊢; exact h
    · refine Rn_fold (fun x g => eh_le_obj cd td n x g 0) ih _ _ (okI_k hw ht hmk hg) ⟨hD.1.le (eh_gkx _ _ _ _ _), fun h0 => ?_⟩ st y h
      have h1 := (gk_fr ht hmk hg hD.1 hk h0).1 rfl
      have hx : x.2.1 = 0 := by
        by_cases hx : x.2.1 = 0
        · exact hx
        · exact absurd (((eh_gkx cd td x g 0).1 hx).symm.trans h0) hx
      have := hD.2 hx
      omega
/-- a write is the run of its items -/
theorem Rn_write {cd : Nat → Option DT} {mk : Nat} {td : Nat → TT} (hw : wf_d cd) (ht : wf_t cd mk td) (hmk : mk ≤ 12) {x : ES} {g u : Int32} (hg : wf_g mk g) (hD : Dq x) : Rn cd td (gk_x cd td x g u) (gk_k cd td x g u) (ga_obj cd td 13 x g u) := by
  rw [gk_obj_ok]
  by_cases hk : gk_k cd td x g u = []
  · rw [hk]; exact Rn.nil _
  · have := Rn_fold (fun x g => eh_le_obj cd td 12 x g 0) (Rn_obj hw ht hmk 12) (gk_k cd td x g u) (gk_x cd td x g u) (okI_k hw ht hmk hg) ⟨hD.le (eh_gkx _ _ _ _ _), fun h0 => (gk_fr ht hmk hg hD hk h0).2⟩ [] _ (Rn.nil _)
    rwa [List.append_nil] at this
