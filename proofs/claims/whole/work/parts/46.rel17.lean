/-! what is still to be written -/
def rep (cd : Nat → Option DT) (mk : Nat) (td : Nat → TT) (a b c : Int32) (i : IT) : Prop :=
  (a = 0 ∧ i = IT.ob b) ∨
  (a = 1 ∧ ∃ o s k d, o < mk ∧ tt_so (td o) = 0 ∧ b = nI o ∧ c = nI s ∧ tt_ow (td o) = nI k ∧ cd k = some d ∧ s < ga_sum cd d (dd_cn d) ∧ i = IT.pr (if ga_sty cd d (dd_cn d) s = 5 then tt_va (td o) s &&& 1 else tt_va (td o) s) (gw_wd (ga_sty cd d (dd_cn d) s).toNatClampNeg).toNatClampNeg ∧ ga_sty cd d (dd_cn d) s < 6) ∨
  (a = 2 ∧ ∃ o k, o < mk ∧ k < 6 ∧ b = nI o ∧ c = nI k ∧ i = IT.ex (tt_ex (td o) + nI k))
abbrev STK (cd : Nat → Option DT) (mk : Nat) (td : Nat → TT) (r : RS) (st : List IT) : Prop :=
  (r.left = nI st.length) ∧
  (st.length ≤ 900) ∧
  (∀ j i, st[j]? = some i → rep cd mk td (r.todo (st.length - 1 - j)) (r.todoOf (st.length - 1 - j)) (r.todoWith (st.length - 1 - j)) i)
theorem STK.lf {cd : Nat → Option DT} {mk : Nat} {td : Nat → TT} {r : RS} {st : List IT} (h : STK cd mk td r st) : r.left = nI st.length := h.1
theorem STK.le {cd : Nat → Option DT} {mk : Nat} {td : Nat → TT} {r : RS} {st : List IT} (h : STK cd mk td r st) : st.length ≤ 900 := h.2.1
theorem STK.it {cd : Nat → Option DT} {mk : Nat} {td : Nat → TT} {r : RS} {st : List IT} (h : STK cd mk td r st) : ∀ j i, st[j]? = some i → rep cd mk td (r.todo (st.length - 1 - j)) (r.todoOf (st.length - 1 - j)) (r.todoWith (st.length - 1 - j)) i := h.2.2
abbrev KS (r r' : RS) : Prop :=
  (r'.defined = r.defined ∧ r'.kind = r.kind ∧ r'.above = r.above ∧ r'.id = r.id ∧ r'.fields = r.fields ∧ r'.fName = r.fName ∧ r'.fType = r.fType ∧ r'.fSkip = r.fSkip) ∧
  (r'.objects = r.objects ∧ r'.sort = r.sort ∧ r'.classOf = r.classOf ∧ r'.nameOf = r.nameOf ∧ r'.size = r.size ∧ r'.value = r.value ∧ r'.standIn = r.standIn ∧ r'.extras = r.extras) ∧
  (r'.waiting = r.waiting ∧ r'.waits = r.waits ∧ r'.oldHandles = r.oldHandles ∧ r'.oldLength = r.oldLength ∧ r'.oldWaits = r.oldWaits ∧ r'.oldGiven = r.oldGiven) ∧
  (r'.stream = r.stream ∧ r'.length = r.length ∧ r'.handles = r.handles ∧ r'.given = r.given)
theorem KS.c0 {r r' : RS} (h : KS r r') : r'.defined = r.defined ∧ r'.kind = r.kind ∧ r'.above = r.above ∧ r'.id = r.id ∧ r'.fields = r.fields ∧ r'.fName = r.fName ∧ r'.fType = r.fType ∧ r'.fSkip = r.fSkip := h.1
theorem KS.o0 {r r' : RS} (h : KS r r') : r'.objects = r.objects ∧ r'.sort = r.sort ∧ r'.classOf = r.classOf ∧ r'.nameOf = r.nameOf ∧ r'.size = r.size ∧ r'.value = r.value ∧ r'.standIn = r.standIn ∧ r'.extras = r.extras := h.2.1
theorem KS.w0 {r r' : RS} (h : KS r r') : r'.waiting = r.waiting ∧ r'.waits = r.waits ∧ r'.oldHandles = r.oldHandles ∧ r'.oldLength = r.oldLength ∧ r'.oldWaits = r.oldWaits ∧ r'.oldGiven = r.oldGiven := h.2.2.1
theorem KS.s0 {r r' : RS} (h : KS r r') : r'.stream = r.stream ∧ r'.length = r.length ∧ r'.handles = r.handles ∧ r'.given = r.given := h.2.2.2
theorem KS.rfl9 (r : RS) : KS r r := ⟨⟨rfl, rfl, rfl, rfl, rfl, rfl, rfl, rfl⟩, ⟨rfl, rfl, rfl, rfl, rfl, rfl, rfl, rfl⟩, ⟨rfl, rfl, rfl, rfl, rfl, rfl⟩, ⟨rfl, rfl, rfl, rfl⟩⟩
theorem KS.trans {a b c : RS} (h : KS a b) (g : KS b c) : KS a c := by
  obtain ⟨⟨x1, x2, x3, x4, x5, x6, x7, x8⟩, ⟨y1, y2, y3, y4, y5, y6, y7, y8⟩, ⟨z1, z2, z3, z4, z5, z6⟩, ⟨t1, t2, t3, t4⟩⟩ := h
  obtain ⟨⟨u1, u2, u3, u4, u5, u6, u7, u8⟩, ⟨v1, v2, v3, v4, v5, v6, v7, v8⟩, ⟨w1, w2, w3, w4, w5, w6⟩, ⟨s1, s2, s3, s4⟩⟩ := g
  exact ⟨⟨u1.trans x1, u2.trans x2, u3.trans x3, u4.trans x4, u5.trans x5, u6.trans x6, u7.trans x7, u8.trans x8⟩, ⟨v1.trans y1, v2.trans y2, v3.trans y3, v4.trans y4, v5.trans y5, v6.trans y6, v7.trans y7, v8.trans y8⟩, ⟨w1.trans z1, w2.trans z2, w3.trans z3, w4.trans z4, w5.trans z5, w6.trans z6⟩, ⟨s1.trans t1, s2.trans t2, s3.trans t3, s4.trans t4⟩⟩
theorem KS.pq {cd : Nat → Option DT} {mk : Nat} {td : Nat → TT} {r r' : RS} (k : KS r r') (h : Pq cd mk td r) : Pq cd mk td r' := by
  obtain ⟨⟨a1, a2, a3, a4, a5, a6, a7, a8⟩, ⟨b1, b2, b3, b4, b5, b6, b7, b8⟩, -⟩ := k
  refine ⟨⟨?_, ?_, ?_⟩, ⟨?_, ?_, ?_, ?_, ?_⟩⟩
  · rw [a1, a5]; exact h.1.no
  · rw [a1, a2, a3, a4, a5]; exact h.1.so
  · rw [a6, a7, a8]; exact h.1.fi
  · rw [b1]; exact h.2.ob
  · rw [b2, b3, b7, b8, b5]; exact h.2.o
  · rw [b6]; exact h.2.va
  · rw [b6]; exact h.2.tx
  · rw [b4]; exact h.2.nm
theorem KS.ex {s : Nat} {x : ES} {r r' : RS} (k : KS r r') (h : EX s x r) : EX s x r' := by
  obtain ⟨-, -, -, ⟨s1, s2, s3, s4⟩⟩ := k
  refine ⟨h.oc, h.le, by rw [s2]; exact h.ln, by rw [s1]; exact h.st, ⟨by rw [s3]; exact h.rh.hd, by rw [s4]; exact h.rh.gv⟩, h.hn, h.la⟩
theorem KS.fr {r r' : RS} (k : KS r r') (h : FR r) : FR r' := by
  obtain ⟨L, a, b, c⟩ := h
  exact ⟨L, a, b, k.s0.2.1.trans c⟩
theorem push_ok {cd : Nat → Option DT} {mk : Nat} {td : Nat → TT} {r : RS} {st : List IT} (h : STK cd mk td r st) (hl : st.length < 900) {a b c : Int32} {i : IT} (hi : rep cd mk td a b c i) : ∃ r', m_push a b c r = some r' ∧ KS r r' ∧ r'.order = r.order ∧ STK cd mk td r' (i :: st) := by
  unfold m_push
  rw [wr_ok h.lf hl (by decide), Option.bind_some, wr_ok h.lf hl (by decide), Option.bind_some, wr_ok h.lf hl (by decide), Option.bind_some]
  refine ⟨_, rfl, KS.rfl9 r, rfl, ?_, ?_, fun j z hj => ?_⟩
  · show r.left + 1 = nI (i :: st).length
    rw [h.lf, nI_1]; rfl
  · show st.length + 1 ≤ 900; omega
  · show rep cd mk td (upd r.todo st.length a ((i :: st).length - 1 - j)) (upd r.todoOf st.length b ((i :: st).length - 1 - j)) (upd r.todoWith st.length c ((i :: st).length - 1 - j)) z
    rw [List.length_cons]
    cases j with
    | zero =>
      have : i = z := Option.some.inj hj
      subst this
      rw [show st.length + 1 - 1 - 0 = st.length by omega, pk_us, pk_us, pk_us]; exact hi
    | succ j =>
      have hj2 : st[j]? = some z := hj
      have hlt : j < st.length := by
        by_cases q : j < st.length
        · exact q
        · rw [List.getElem?_eq_none (by omega)] at hj2; exact absurd hj2 (by simp)
      rw [show st.length + 1 - 1 - (j + 1) = st.length - 1 - j by omega, pk_un (by omega), pk_un (by omega), pk_un (by omega)]
      exact h.it j z hj2
theorem gk_prec_s (t : TT) (d : DT) (fi p : Nat) (hp : p < dd_sh d) : gk_prec t d fi (dd_sh d - p) = gk_part t d fi p :: gk_prec t d fi (dd_sh d - (p + 1)) := by
  rw [show dd_sh d - p = (dd_sh d - (p + 1)) + 1 by omega]
  show gk_part t d fi (dd_sh d - 1 - (dd_sh d - (p + 1))) :: _ = _
  rw [show dd_sh d - 1 - (dd_sh d - (p + 1)) = p by omega]
theorem parts_48 {cd : Nat → Option DT} {mk : Nat} {td : Nat → TT} (hG : GI cd mk td) {o k0 : Nat} (ho : o < mk) (s0 : tt_so (td o) = 0) {d0 : DT} (hk0 : tt_ow (td o) = nI k0) (hd0 : cd k0 = some d0) {j c : Nat} {d : DT} (hj : j < dd_cn d0) (hc : dd_cf d0 j = nI c) (c6 : c < 6) (hcd : cd c = some d) {K : Int32 → Int32 → Int32 → Int32 → RS → Option RS} {x3 : Int32} : ∀ (p n : Nat) (r : RS) (st : List IT), p ≤ dd_sh d → p < n → Pq cd mk td r → oks c d (dd_sh d) r.order → STK cd mk td r (gk_prec (td o) d (ga_sum cd d0 j) (dd_sh d - p) ++ st) → st.length + 4 ≤ 900 → ∃ r', m_parts_48 K n (nI p - 1) x3 (nI c) (nI o) r = K (-1) x3 (nI c) (nI o) r' ∧ KS r r' ∧ STK cd mk td r' (gk_prec (td o) d (ga_sum cd d0 j) (dd_sh d) ++ st) := by
  have hm := hG.mk12
  obtain ⟨-, -, -, w4, w5, w6, w7, w8⟩ := hG.gd.wd c d hcd
  have w3 := (hG.gd.wd k0 d0 hd0).2.2.1
  have h6 := (hG.gd.wd k0 d0 hd0).2.1
  have hlen : ∀ q, (gk_prec (td o) d (ga_sum cd d0 j) q).length = q := by
    intro q; induction q with
    | zero => rfl
    | succ q ih => show (gk_prec (td o) d (ga_sum cd d0 j) q).length + 1 = q + 1; rw [ih]
  intro p
  induction p with
  | zero =>
    intro n r st _ hn hq hor hS _
    obtain ⟨n, rfl⟩ : ∃ m, n = m + 1 := ⟨n - 1, by omega⟩
    refine ⟨r, ?_, KS.rfl9 r, by rw [Nat.sub_zero] at hS; exact hS⟩
    rw [m_parts_48, if_pos (by decide)]; rfl
  | succ p ih =>
    intro n r st hp hn hq hor hS hl
    obtain ⟨n, rfl⟩ : ∃ m, n = m + 1 := ⟨n - 1, by omega⟩
    obtain ⟨f, hf, ef, ec⟩ := or_lt hG.gd hcd (show p < dd_sh d by omega)
    obtain ⟨t, ht, et⟩ := w8 f (by omega)
    have hsum := sum_s c6 hc hcd
    have hmono := sum_mono cd d0 (show j + 1 ≤ dd_cn d0 by omega)
    have h24 := ga_sum_4 hG.gd.wd d0 (dd_cn d0)
    have eo : r.order p = nI (4 * c + f) := by rw [hor p (by omega), ec]
    have hsl : nI (ga_sum cd d0 j) + nI (4 * c + f) - 4 * nI c = nI (ga_sum cd d0 j + f) := by
      rw [show (4 : Int32) * nI c = nI (4 * c) by rw [show (4 : Int32) = nI 4 from rfl, pk_mul], nI_add, pk_sub (by omega), show ga_sum cd d0 j + (4 * c + f) - 4 * c = ga_sum cd d0 j + f by omega]
    have hsty := sty_at w3 (dd_cn d0) (Nat.le_refl _) j c d f hj hc c6 hcd hf
    have hft : r.fType (4 * c + f) = nI t := by rw [(hq.1.fi c d f hcd hf).2.1, et]
    have hlen2 : (gk_prec (td o) d (ga_sum cd d0 j) (dd_sh d - (p + 1)) ++ st).length < 900 := by rw [List.length_append, hlen]; omega
    rw [nI_pred, m_parts_48, if_neg (nI_pos (by omega)), r_firstSlot hG.gd hq.1 hd0 hj hc c6, Option.bind_some]
    show ∃ r', Option.bind (rd r.order 4 (nI p)) (fun v_25 => Option.bind (rd r.order 4 (nI p)) (fun v_26 => Option.bind (rd r.fType 24 v_26) (fun v_28 => if v_28 ≤ 5 then Option.bind (m_push 1 (nI o) ((nI (ga_sum cd d0 j) + v_25) - (4 * nI c)) r) (fun y_30 => m_parts_48 K n (nI p + (-1)) x3 (nI c) (nI o) y_30) else Option.bind (rd r.value 480 ((24 * nI o) + ((nI (ga_sum cd d0 j) + v_25) - (4 * nI c)))) (fun v_35 => Option.bind (m_push 0 v_35.toInt32 0 r) (fun y_36 => m_parts_48 K n (nI p + (-1)) x3 (nI c) (nI o) y_36))))) = _ ∧ _
    rw [rd_ok rfl (show p < 4 by omega) (by decide), Option.bind_some, Option.bind_some, eo, rd_ok rfl (show 4 * c + f < 24 by omega) (by decide), Option.bind_some, hft, hsl, nI_m1]
    have hitem : gk_part (td o) d (ga_sum cd d0 j) p = if nI t < 6 then IT.pr (if nI t = 5 then tt_va (td o) (ga_sum cd d0 j + f) &&& 1 else tt_va (td o) (ga_sum cd d0 j + f)) (gw_wd (nI t).toNatClampNeg).toNatClampNeg else IT.ob (tt_va (td o) (ga_sum cd d0 j + f)).toInt32 := by
      unfold gk_part; rw [ec, et]
    -- the rest, once the item is pushed
    have rest : ∀ r1, KS r r1 → r1.order = r.order → STK cd mk td r1 (gk_part (td o) d (ga_sum cd d0 j) p :: (gk_prec (td o) d (ga_sum cd d0 j) (dd_sh d - (p + 1)) ++ st)) → ∃ r', m_parts_48 K n (nI p - 1) x3 (nI c) (nI o) r1 = K (-1) x3 (nI c) (nI o) r' ∧ KS r r' ∧ STK cd mk td r' (gk_prec (td o) d (ga_sum cd d0 j) (dd_sh d) ++ st) := by
      intro r1 k1 o1 S1
      obtain ⟨r', a, b, c9⟩ := ih n r1 st (by omega) (by omega) (k1.pq hq) (by rw [o1]; exact hor) (by rw [gk_prec_s _ _ _ _ (by omega)]; exact S1) hl
      exact ⟨r', a, k1.trans b, c9⟩
    rcases i_56 t ht with ⟨t1, t2⟩ | ⟨t1, t2, t3⟩
    · rw [if_pos t1]
      obtain ⟨r1, a1, a2, a3, a4⟩ := push_ok hS hlen2 (a := 1) (b := nI o) (c := nI (ga_sum cd d0 j + f)) (i := gk_part (td o) d (ga_sum cd d0 j) p) (Or.inr (Or.inl ⟨rfl, o, ga_sum cd d0 j + f, k0, d0, ho, s0, rfl, rfl, hk0, hd0, by omega, by rw [hitem, if_pos t2, hsty, et], by rw [hsty, et]; exact t2⟩))
      rw [a1, Option.bind_some]
      exact rest r1 a2 a3 a4
    · rw [if_neg t1, rd_ok (i24 rfl rfl) (show 24 * o + (ga_sum cd d0 j + f) < 480 by omega) (by decide), Option.bind_some]
      have hn9 : ga_sum cd d0 (dd_cn d0) = tt_n (td o) := ((hG.wt o ho).2.2.2.2 s0 k0 d0 hk0 hd0).1
      rw [hq.2.va o _ ho (by rw [s0]; decide) (by omega)]
      obtain ⟨r1, a1, a2, a3, a4⟩ := push_ok hS hlen2 (a := 0) (b := (tt_va (td o) (ga_sum cd d0 j + f)).toInt32) (c := 0) (i := gk_part (td o) d (ga_sum cd d0 j) p) (Or.inl ⟨rfl, by rw [hitem, if_neg t2]⟩)
      rw [a1, Option.bind_some]
      exact rest r1 a2 a3 a4
