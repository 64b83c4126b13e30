/-! writeObject and the loop -/
theorem r_wo {cd : Nat → Option DT} {mk : Nat} {td : Nat → TT} (hG : GI cd mk td) {g u : Int32} (hg : wf_g mk g) {x : ES} {r : RS} {st : List IT} (hst : st.length + 36 ≤ 900) (hq : Pq cd mk td r) (hE : SE x r) (hS : STK cd mk td r st) : ∃ b r', m_writeObject g u r = some (b, r') ∧ OUT cd mk td r (gk_x cd td x g u) (gk_k cd td x g u ++ st) b r' := by
  have hP := stab0 False cd mk td
  have hm := hG.mk12
  have k112 := ap1 hP 0 112 1 (w9 := 1) (by decide) rfl (by omega) (Sim.id (False, Pq cd mk td) 0)
  -- past the limit, nothing but that is asked
  have full : ∀ {y : ES} {X Y : List IT} {b : Int32} {r' : RS}, x.2.1 = -2 → y.2.1 = -2 → OUT cd mk td r y X b r' → OUT cd mk td r (gk_x cd td x g u) Y b r' := by
    intro y X Y b r' hx hy ⟨a1, a2, a3⟩
    have ex : gk_x cd td x g u = x := by unfold gk_x; rw [if_neg (by rw [hx]; decide)]
    refine ⟨a1, a2, Or.inr (Or.inl ⟨by rw [ex]; exact hx, ?_⟩)⟩
    rcases a3 with ⟨-, z, -⟩ | ⟨-, z⟩ | ⟨-, z⟩
    · exact absurd (z.oc.symm.trans hy) (by decide)
    · exact z
    · exact absurd (z.oc.symm.trans hy) (by decide)
  unfold m_writeObject
  rcases hg with hg | ⟨o0, ho0, hg⟩
  · rw [hg, if_neg (by decide)]
    obtain ⟨r', a, b⟩ := out_sim k112 hq hE hS
    have a2 : Option.bind (m_append 112 1 r) (fun y => some ((1 : Int32), y)) = some (1, r') := by
      rw [← a]; show _ = Option.bind (Option.bind (m_append 112 1 r) (fun y => some y)) _; rw [ob_id]
    refine ⟨1, r', a2, ?_⟩
    rcases hE with hE | ⟨hx, hF⟩
    · have e1 : gk_x cd td x (-1) u = es_put x 112 1 := by unfold gk_x; rw [if_pos hE.oc, if_pos rfl]
      have e2 : gk_k cd td x (-1) u = [] := by unfold gk_k; rw [if_pos hE.oc, if_pos rfl]
      rw [e1, e2]; exact b
    · rw [hg] at full; exact full hx (k112.1 x hx) b
  · rw [hg, if_pos (nI_pos' (by omega)), r_standing hG hq.2 ho0, Option.bind_some]
    obtain ⟨o, hoe⟩ : ∃ o, o = ga_repl td 12 o0 0 := ⟨_, rfl⟩
    have ho : o < mk := by rw [hoe]; exact ga_repl_lt (fun i hi => (hG.wt i hi).1) _ _ _ ho0 (by omega)
    have hog : ga_repl td 12 (nI o0).toNatClampNeg 0 = o := by rw [nI_clamp (by omega), ← hoe]
    have hkk : hk o = o := if_pos (by omega)
    rw [← hoe]
    show ∃ b r', (if 0 ≤ nI o then Option.bind (rd r.handles 51 (nI o)) (fun v_10 => if v_10 < 0 then wsw (nI o) (nI o0) u r else if u = 0 then Option.bind (m_refer (nI o) r) (fun y_175 => some (1, y_175)) else wsw' (nI o) (nI o0) u r) else Option.bind (m_append 112 1 r) (fun y_179 => some (1, y_179))) = some (b, r') ∧ _
    rw [if_pos (nI_pos' (by omega)), rd_ok rfl (show o < 51 by omega) (by decide), Option.bind_some, wsw_eq]
    obtain ⟨b1, r1, c1, c2⟩ := r_sw hG ho (l1 := nI o0) (l2 := u) hst hq hE hS
    have hrf := sim_refer (P := (False, Pq cd mk td)) 0 (show o < 35 by omega)
    rw [hkk] at hrf
    obtain ⟨r2, d1, d2⟩ := out_sim hrf hq hE hS
    rcases hE with hE | ⟨hx, hF⟩
    · have hla := hE.rh.hd o (by omega)
      rw [hkk] at hla
      rw [hla]
      have gx : gk_x cd td x (nI o0) u = gk_hd cd td x o u := by unfold gk_x; rw [if_pos hE.oc, if_neg (nI_ne1 (by omega)), hog]
      have gk : gk_k cd td x (nI o0) u = gk_ch cd td x o u := by unfold gk_k; rw [if_pos hE.oc, if_neg (nI_ne1 (by omega)), hog]
      rw [gx, gk]
      unfold gk_hd gk_ch
      rw [es_ref_eq]
      rcases hE.la o (by omega) with h1 | ⟨h9, hh, h1⟩
      · rw [h1, if_pos (by decide)]
        refine ⟨b1, r1, c1, ?_⟩
        by_cases hu : u = 0
        · rw [if_pos hu, if_pos hu, if_pos rfl, if_pos rfl, if_pos rfl]; exact c2
        · rw [if_neg hu, if_neg hu]; exact c2
      · have hn1 : ¬ x.2.2.1 o = -1 := by rw [h1]; exact nI_ne1 (by omega)
        rw [if_neg (by rw [h1]; exact nI_pos (by omega))]
        by_cases hu : u = 0
        · rw [if_pos hu, if_pos hu, if_pos hu, if_neg hn1, if_neg n10, if_neg n10]
          exact ⟨1, r2, d1, d2⟩
        · rw [if_neg hu, if_neg hu, if_neg hu]
          exact ⟨b1, r1, c1, c2⟩
    · have hsw : (gh_sw cd td x o).2.1 = -2 := by
        have := (eh_gh cd td x o).1 (by rw [hx]; decide)
        rw [this]; exact hx
      rw [hg] at full
      by_cases hv : r.handles o < 0
      · rw [if_pos hv]; exact ⟨b1, r1, c1, full hx hsw c2⟩
      · rw [if_neg hv]
        by_cases hu : u = 0
        · rw [if_pos hu]; exact ⟨1, r2, d1, full hx (hrf.1 x hx) d2⟩
        · rw [if_neg hu]; exact ⟨b1, r1, c1, full hx hsw c2⟩
theorem w_ty : ∀ t, t < 6 → ∀ r : RS, m_width (nI t) r = some (nI (gw_wd (nI t).toNatClampNeg).toNatClampNeg, r) := by
  intro t ht r
  rcases (show t = 0 ∨ t = 1 ∨ t = 2 ∨ t = 3 ∨ t = 4 ∨ t = 5 by omega) with h | h | h | h | h | h <;> subst h <;> rfl
theorem ex_by : es_bytes 119 1 ++ es_bytes 4 1 = es_bytes 30468 2 := by decide +kernel
/-- an item's step in the class -/
def stx (cd : Nat → Option DT) (td : Nat → TT) (x : ES) : IT → ES
  | .inl g => gk_x cd td x g 0
  | .inr (.inl z) => es_put x z.1 z.2
  | .inr (.inr m) => es_put (es_put (es_put (es_put x 119 1) 4 1) m.toInt64 4) 120 1
def stk (cd : Nat → Option DT) (td : Nat → TT) (x : ES) : IT → List IT
  | .inl g => gk_k cd td x g 0
  | .inr (.inl _) => []
  | .inr (.inr _) => []
theorem r_one {cd : Nat → Option DT} {mk : Nat} {td : Nat → TT} (hG : GI cd mk td) {i : IT} (hi : okI mk i) {x : ES} {r : RS} {st : List IT} (hst : st.length + 36 ≤ 900) (hq : Pq cd mk td r) (hE : EX 0 x r) (hS : STK cd mk td r (i :: st)) : ∃ b r', m_doOne r = some (b, r') ∧ OUT cd mk td r (stx cd td x i) (stk cd td x i ++ st) b r' := by
  have hP := stab0 False cd mk td
  have hm := hG.mk12
  have hlf : r.left - 1 = nI st.length := by rw [hS.lf, List.length_cons, nI_pred]
  obtain ⟨r1, hr1⟩ : ∃ r1, r1 = r.s_left (r.left - 1) := ⟨_, rfl⟩
  have kz1 : KZ r r1 := by rw [hr1]; exact KZ.rfl9 r
  have hq1 : Pq cd mk td r1 := kz1.pq hq
  have hE1 : EX 0 x r1 := by rw [hr1]; exact hE
  have hS1 : STK cd mk td r1 st := by
    rw [hr1]
    refine ⟨hlf, by have := hS.le; rw [List.length_cons] at this; omega, fun j z hz => ?_⟩
    have := hS.it (j + 1) z hz
    rw [List.length_cons, show st.length + 1 - 1 - (j + 1) = st.length - 1 - j by omega] at this
    exact this
  have hrep := hS.it 0 i rfl
  rw [List.length_cons, show st.length + 1 - 1 - 0 = st.length by omega] at hrep
  have hlt : st.length < 900 := by omega
  have back : ∀ {y : ES} {X : List IT} {b : Int32} {r' : RS}, OUT cd mk td r1 y X b r' → OUT cd mk td r y X b r' := fun ⟨a1, a2, a3⟩ => ⟨kz1.trans a1, a2, a3⟩
  unfold m_doOne
  rw [rd_ok hlf hlt (by decide), Option.bind_some, rd_ok hlf hlt (by decide), Option.bind_some, rd_ok hlf hlt (by decide), Option.bind_some, ← hr1]
  rcases hrep with ⟨ha, hi9⟩ | ⟨ha, o, s, k, d, ho, s0, hb, hc, hkw, hkd, hs, hi9, hty⟩ | ⟨ha, o, k, ho, k6, hb, hc, hi9⟩
  · rw [ha, if_pos rfl]
    rw [hi9] at hi ⊢
    obtain ⟨b, r', a1, a2⟩ := r_wo hG (g := r.todoOf st.length) (u := 0) hi hst hq1 (Or.inl hE1) hS1
    rw [a1, Option.bind_some]
    have a3 := a2.2.1
    refine ⟨b, r', ?_, back a2⟩
    rcases a3 with h | h
    · rw [h]; rw [if_neg (show ¬ (0 : Int32) = 1 by decide), if_pos rfl]
    · rw [h]; rw [if_pos rfl]
  · rw [ha, if_neg n10, Option.bind_some, if_pos rfl, hb, hc]
    have hcl : r1.classOf o = nI k := by rw [(hq1.2.o o ho).2.1 (Or.inl s0), hkw]
    obtain ⟨t, ht, et⟩ := tyv hG.gd hkd (dd_cn d) (Nat.le_refl _) s
    have h24 := ga_sum_4 hG.gd.wd d (dd_cn d)
    have h6 := (hG.gd.wd k d hkd).2.1
    have hn := ((hG.wt o ho).2.2.2.2 s0 k d hkw hkd).1
    rw [et] at hty
    have ht6 : t < 6 := (nI_ltI (b := 6) (by omega) (by decide)).mp hty
    rw [r_slotType hG.gd hq1.1 hkd (show o < 20 by omega) hcl hs, Option.bind_some]
    show ∃ b r', Option.bind (rd r1.value 480 ((24 * nI o) + nI s)) (fun v_35 => if ga_sty cd d (dd_cn d) s = 5 then Option.bind (m_width (ga_sty cd d (dd_cn d) s) r1) (fun y_46 => Option.bind (m_append (v_35 &&& 1) y_46.1 y_46.2) (fun y_50 => some (1, y_50))) else Option.bind (m_width (ga_sty cd d (dd_cn d) s) r1) (fun y_37 => Option.bind (m_append v_35 y_37.1 y_37.2) (fun y_41 => some (1, y_41)))) = some (b, r') ∧ _
    rw [rd_ok (i24 rfl rfl) (show 24 * o + s < 480 by omega) (by decide), Option.bind_some, hq1.2.va o s ho (by rw [s0]; decide) (by omega), et, w_ty t ht6, Option.bind_some, Option.bind_some]
    rw [et] at hi9
    have hw8 : (gw_wd (nI t).toNatClampNeg).toNatClampNeg ≤ 8 := gw_wd8 t (by omega)
    obtain ⟨v9, hv9⟩ : ∃ v : Int64, v = (if nI t = 5 then tt_va (td o) s &&& 1 else tt_va (td o) s) := ⟨_, rfl⟩
    have k1 := ap1 hP 0 v9 (gw_wd (nI t).toNatClampNeg).toNatClampNeg (w9 := nI (gw_wd (nI t).toNatClampNeg).toNatClampNeg) hw8 rfl (by omega) (Sim.id (False, Pq cd mk td) 0)
    obtain ⟨r', a, b⟩ := out_sim k1 hq1 (Or.inl hE1) hS1
    have a2 : Option.bind (m_append v9 (nI (gw_wd (nI t).toNatClampNeg).toNatClampNeg) r1) (fun y => some ((1 : Int32), y)) = some (1, r') := by
      rw [← a]; show _ = Option.bind (Option.bind (m_append v9 (nI (gw_wd (nI t).toNatClampNeg).toNatClampNeg) r1) (fun y => some y)) _; rw [ob_id]
    refine ⟨1, r', ?_, ?_⟩
    · rw [← a2, hv9]
      by_cases h5 : nI t = 5
      · rw [if_pos h5, if_pos h5]
      · rw [if_neg h5, if_neg h5]
    · rw [hi9, ← hv9]; exact back b
  · rw [ha, if_neg (by decide), Option.bind_some, if_neg (by decide), hb, hc]
    have rex : ∀ r, Pq cd mk td r → rd r.extras 20 (nI o) = some (tt_ex (td o)) := fun r hr => by rw [rd_ok rfl (show o < 20 by omega) (by decide), (hr.2.o o ho).2.2.2.1]
    have k1 := ap1 hP 0 120 1 (w9 := 1) (by decide) rfl (by omega) (Sim.id (False, Pq cd mk td) 0)
    have k2 := ap1 hP 0 (tt_ex (td o) + nI k).toInt64 4 (w9 := 4) (by decide) rfl (by omega) k1
    have k3 := Sim.rd (R := fun y => rd y.extras 20 (nI o)) (v0 := tt_ex (td o)) (K := fun v y => Option.bind (m_append ((v + nI k).toInt64) 4 y) (fun y => Option.bind (m_append 120 1 y) (fun y => some y))) rex k2
    have k4 := em1 hP 0 ((EmC.put 119 1).seq (EmC.put 4 1)) (a9 30468 (w := 2) (w9 := 2) (by decide) rfl) ex_by (by omega) k3
    obtain ⟨r', a, b⟩ := out_sim k4 hq1 (Or.inl hE1) hS1
    refine ⟨1, r', ?_, ?_⟩
    · rw [← a]
      show _ = Option.bind (Option.bind (m_append 30468 2 r1) _) _
      rw [ob_as]
      refine congrArg _ (funext fun y => ?_)
      rw [ob_as]
      refine congrArg _ (funext fun v => ?_)
      rw [ob_as]
      refine congrArg _ (funext fun y => ?_)
      rw [ob_id]
    · rw [hi9]; exact back b
