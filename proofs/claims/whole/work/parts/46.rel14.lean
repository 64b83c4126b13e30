/-! a class's descriptor -/
theorem Sim.rd {P : Prop × (RS → Prop)} {s c : Nat} {g : ES → ES} {α : Type} {R : RS → Option α} {v0 : α} {K : α → RS → Option RS} (hv : ∀ r, P.2 r → R r = some v0) (hK : Sim P s c g (K v0)) : Sim P s c g (fun r => Option.bind (R r) (fun v => K v r)) := hK.congr (fun _ => rfl) (fun r hr => by rw [hv r hr, Option.bind_some])
theorem Sim.ite1 {P : Prop × (RS → Prop)} {s c : Nat} {g : ES → ES} {p : Prop} [Decidable p] {A B : RS → Option RS} (h : p) (hK : Sim P s c g A) : Sim P s c g (fun r => if p then A r else B r) := hK.congr (fun _ => rfl) (fun r _ => if_pos h)
theorem Sim.ite0 {P : Prop × (RS → Prop)} {s c : Nat} {g : ES → ES} {p : Prop} [Decidable p] {A B : RS → Option RS} (h : ¬ p) (hK : Sim P s c g B) : Sim P s c g (fun r => if p then A r else B r) := hK.congr (fun _ => rfl) (fun r _ => if_neg h)
theorem Sim.flag {o : Prop} {Q : RS → Prop} {s c : Nat} {f : ES → ES} {m : RS → Option RS} (h : Sim (o, Q) s c f m) : Sim (False, Q) s c f m := by
  refine ⟨h.1, fun r hr hF => ?_, fun x r hr hE => ?_⟩
  · obtain ⟨r', a, b, c⟩ := h.2.1 r hr hF
    exact ⟨r', a, ⟨b.1, fun z => z.elim⟩, c⟩
  · obtain ⟨r', a, b, c⟩ := h.2.2 x r hr hE
    exact ⟨r', a, ⟨b.1, fun z => z.elim⟩, c⟩
theorem Sim.seqx {o : Prop} {P Q : RS → Prop} (hPQ : ∀ r r', KQ o r r' → P r → Q r') {a b c : Nat} {f g : ES → ES} {m n : RS → Option RS} (h1 : Sim (o, P) a b f m) (h2 : Sim (False, Q) b c g n) : Sim (False, P) a c (fun x => g (f x)) (fun r => Option.bind (m r) n) := by
  refine ⟨fun x hx => h2.1 _ (h1.1 x hx), fun r hr hF => ?_, fun x r hr hE => ?_⟩
  · obtain ⟨r1, e1, k1, F1⟩ := h1.2.1 r hr hF
    obtain ⟨r2, e2, k2, F2⟩ := h2.2.1 r1 (hPQ r r1 k1 hr) F1
    exact ⟨r2, by show Option.bind (m r) n = some r2; rw [e1]; exact e2, ⟨k1.1.trans k2.1, fun z => z.elim⟩, F2⟩
  · obtain ⟨r1, e1, k1, S1⟩ := h1.2.2 x r hr hE
    rcases S1 with S1 | ⟨S1, F1⟩
    · obtain ⟨r2, e2, k2, S2⟩ := h2.2.2 _ r1 (hPQ r r1 k1 hr) S1
      exact ⟨r2, by show Option.bind (m r) n = some r2; rw [e1]; exact e2, ⟨k1.1.trans k2.1, fun z => z.elim⟩, S2⟩
    · obtain ⟨r2, e2, k2, F2⟩ := h2.2.1 r1 (hPQ r r1 k1 hr) F1
      exact ⟨r2, by show Option.bind (m r) n = some r2; rw [e1]; exact e2, ⟨k1.1.trans k2.1, fun z => z.elim⟩, Or.inr ⟨h2.1 _ S1, F2⟩⟩
def Pq (cd : Nat → Option DT) (mk : Nat) (td : Nat → TT) (r : RS) : Prop := RC cd r ∧ RO mk td r
theorem stab0 (o : Prop) (cd : Nat → Option DT) (mk : Nat) (td : Nat → TT) : stab (o, Pq cd mk td) := fun r r' k h => ⟨k.1.rc h.1, k.1.ro h.2⟩
theorem stabG (cd : Nat → Option DT) (mk : Nat) (td : Nat → TT) (g : Nat → Int32) : stab (True, fun r => Pq cd mk td r ∧ r.order = g) := fun r r' k h => ⟨⟨k.1.rc h.1.1, k.1.ro h.1.2⟩, (k.2 trivial).trans h.2⟩
theorem fieldEntry_eq {f9 : Int32} {t : Nat} (ht : t < 8) {r : RS} (et : rd r.fType 24 f9 = some (nI t)) : m_fieldEntry f9 r = Option.bind (m_append (fch (nI t)) 1 r) (fun y => Option.bind (rd y.fName 24 f9) (fun v => Option.bind (m_letter (97 + v) y) (ftl (nI t)))) := by
  unfold m_fieldEntry
  rw [et, Option.bind_some]
  rcases (show t = 0 ∨ t = 1 ∨ t = 2 ∨ t = 3 ∨ t = 4 ∨ t = 5 ∨ t = 6 ∨ t = 7 by omega) with h | h | h | h | h | h | h | h <;> subst h
  · rw [if_pos (show nI 0 = 0 by decide), show fch (nI 0) = 66 by decide]; rfl
  · rw [if_neg (show ¬ nI 1 = 0 by decide), if_pos (show nI 1 = 1 by decide), show fch (nI 1) = 67 by decide]; rfl
  · rw [if_neg (show ¬ nI 2 = 0 by decide), if_neg (show ¬ nI 2 = 1 by decide), if_pos (show nI 2 = 2 by decide), show fch (nI 2) = 73 by decide]; rfl
  · rw [if_neg (show ¬ nI 3 = 0 by decide), if_neg (show ¬ nI 3 = 1 by decide), if_neg (show ¬ nI 3 = 2 by decide), if_pos (show nI 3 = 3 by decide), show fch (nI 3) = 74 by decide]; rfl
  · rw [if_neg (show ¬ nI 4 = 0 by decide), if_neg (show ¬ nI 4 = 1 by decide), if_neg (show ¬ nI 4 = 2 by decide), if_neg (show ¬ nI 4 = 3 by decide), if_pos (show nI 4 = 4 by decide), show fch (nI 4) = 83 by decide]; rfl
  · rw [if_neg (show ¬ nI 5 = 0 by decide), if_neg (show ¬ nI 5 = 1 by decide), if_neg (show ¬ nI 5 = 2 by decide), if_neg (show ¬ nI 5 = 3 by decide), if_neg (show ¬ nI 5 = 4 by decide), if_pos (show nI 5 = 5 by decide), show fch (nI 5) = 90 by decide]; rfl
  · rw [if_neg (show ¬ nI 6 = 0 by decide), if_neg (show ¬ nI 6 = 1 by decide), if_neg (show ¬ nI 6 = 2 by decide), if_neg (show ¬ nI 6 = 3 by decide), if_neg (show ¬ nI 6 = 4 by decide), if_neg (show ¬ nI 6 = 5 by decide), if_pos (show nI 6 = 6 by decide), show fch (nI 6) = 91 by decide]; rfl
  · rw [if_neg (show ¬ nI 7 = 0 by decide), if_neg (show ¬ nI 7 = 1 by decide), if_neg (show ¬ nI 7 = 2 by decide), if_neg (show ¬ nI 7 = 3 by decide), if_neg (show ¬ nI 7 = 4 by decide), if_neg (show ¬ nI 7 = 5 by decide), if_neg (show ¬ nI 7 = 6 by decide), show fch (nI 7) = 76 by decide]; rfl
theorem sim_fe {P : Prop × (RS → Prop)} (hP : stab P) {cd : Nat → Option DT} (hPC : ∀ r, P.2 r → RC cd r) (hD : GD cd) {k : Nat} {d : DT} (hd : cd k = some d) {i : Nat} (hi : i < dd_sh d) (s : Nat) : Sim P s s (fun x => ga_fent d x i) (m_fieldEntry (nI (4 * k + (dd_or d i).toNatClampNeg))) := by
  obtain ⟨hk, -, -, w4, w5, w6, w7, w8⟩ := hD.wd k d hd
  obtain ⟨f, hf, ef, ec⟩ := or_lt hD hd hi
  obtain ⟨n, hn, en⟩ := w7 f (by omega)
  obtain ⟨t, ht, et⟩ := w8 f (by omega)
  rw [ec]
  have hlt : 4 * k + f < 24 := by omega
  have k1 := sim_ftl hP s ht
  have k2 := lt1 hP (97 + nI n) k1
  have k3 : Sim P s s (fun x => ga_tyt (es_sign x (97 + nI n)) (nI t)) (fun y => Option.bind (rd y.fName 24 (nI (4 * k + f))) (fun v => Option.bind (m_letter (97 + v) y) (ftl (nI t)))) := Sim.rd (R := fun y => rd y.fName 24 (nI (4 * k + f))) (v0 := nI n) (K := fun v y => Option.bind (m_letter (97 + v) y) (ftl (nI t))) (fun r hr => by rw [rd_ok rfl hlt (by decide), ((hPC r hr).fi k d f hd hf).1, en]) k2
  have k4 := ap1 hP s (fch (nI t)) 1 (w9 := 1) (by decide) rfl (by omega) k3
  refine k4.congr (fun x => ?_) (fun r hr => ?_)
  · show ga_fent d x i = ga_tyt (es_sign (es_put x (fch (nI t)) 1) (97 + nI n)) (nI t)
    unfold ga_fent fch
    rw [ec, et, en, nI_clamp (n := n) (by omega), z9_ab n hn, show (97 : Int32) = nI 97 from rfl, nI_add]
  · exact fieldEntry_eq ht (by rw [rd_ok rfl hlt (by decide), ((hPC r hr).fi k d f hd hf).2.1, et])
theorem d170_1 (K : Int32 → Int32 → Int32 → Int32 → Int32 → RS → Option RS) : ∀ (n : Nat) (a b c d e : Int32) (r : RS), m_descriptor_170' K n a b c d e r = m_descriptor_170 K n a b c d e r := by
  intro n
  induction n with
  | zero => intro a b c d e r; rfl
  | succ n ih => intro a b c d e r; rw [m_descriptor_170', m_descriptor_170]; simp only [ih]
theorem d170_2 (K : Int32 → Int32 → Int32 → Int32 → Int32 → RS → Option RS) : ∀ (n : Nat) (a b c d e : Int32) (r : RS), m_descriptor_170'' K n a b c d e r = m_descriptor_170 K n a b c d e r := by
  intro n
  induction n with
  | zero => intro a b c d e r; rfl
  | succ n ih => intro a b c d e r; rw [m_descriptor_170'', m_descriptor_170]; simp only [ih]
theorem d170_3 (K : Int32 → Int32 → Int32 → Int32 → Int32 → RS → Option RS) : ∀ (n : Nat) (a b c d e : Int32) (r : RS), m_descriptor_170''' K n a b c d e r = m_descriptor_170 K n a b c d e r := by
  intro n
  induction n with
  | zero => intro a b c d e r; rfl
  | succ n ih => intro a b c d e r; rw [m_descriptor_170''', m_descriptor_170]; simp only [ih]
theorem d170_b (T : Int32 → Int32 → Int32 → RS → Option RS) : ∀ (n : Nat) (a b c d e : Int32) (r : RS), m_descriptor_170 (fun _ _ z3 z2 z1 r => T z3 z2 z1 r) n a b c d e r = Option.bind (m_descriptor_170 (fun _ _ _ _ _ r => some r) n a b c d e r) (T c d e) := by
  intro n
  induction n with
  | zero => intro a b c d e r; rfl
  | succ n ih =>
    intro a b c d e r
    rw [m_descriptor_170, m_descriptor_170]
    by_cases h : b ≤ a
    · rw [if_pos h, if_pos h]; rfl
    · rw [if_neg h, if_neg h, ob_as]
      congr 1; funext v
      rw [ob_as]
      congr 1; funext y
      exact ih _ _ _ _ _ _
theorem sim_170 {cd : Nat → Option DT} {mk : Nat} {td : Nat → TT} (hD : GD cd) {k : Nat} {d : DT} (hd : cd k = some d) {g : Nat → Int32} (hg : oks k d (dd_sh d) g) (s : Nat) {a b c : Int32} : ∀ (q n : Nat), q ≤ dd_sh d → q < n → Sim (True, fun r => Pq cd mk td r ∧ r.order = g) s s (fun x => ga_frec d q x) (fun r => m_descriptor_170 (fun _ _ _ _ _ r => some r) n (nI (dd_sh d - q)) (nI (dd_sh d)) a b c r) := by
  obtain ⟨hk, -, -, w4, w5, w6, w7, w8⟩ := hD.wd k d hd
  intro q
  induction q with
  | zero =>
    intro n _ hn
    obtain ⟨n, rfl⟩ : ∃ m, n = m + 1 := ⟨n - 1, by omega⟩
    refine (Sim.id _ s).congr (fun x => rfl) (fun r _ => ?_)
    show m_descriptor_170 (fun _ _ _ _ _ r => some r) (n + 1) (nI (dd_sh d - 0)) (nI (dd_sh d)) a b c r = some r
    rw [m_descriptor_170, Nat.sub_zero, if_pos (Int32.le_refl _)]
  | succ q ih =>
    intro n hq hn
    obtain ⟨n, rfl⟩ : ∃ m, n = m + 1 := ⟨n - 1, by omega⟩
    have hi : dd_sh d - (q + 1) < dd_sh d := by omega
    have k1 := sim_fe (stabG cd mk td g) (cd := cd) (fun r hr => hr.1.1) hD hd hi s
    have k2 := Sim.seq (stabG cd mk td g) k1 (ih n (by omega) (by omega))
    refine k2.congr (fun x => ?_) (fun r hr => ?_)
    · show ga_frec d q (ga_fent d x (dd_sh d - 1 - q)) = _
      rw [show dd_sh d - 1 - q = dd_sh d - (q + 1) by omega]
    · show m_descriptor_170 (fun _ _ _ _ _ r => some r) (n + 1) (nI (dd_sh d - (q + 1))) (nI (dd_sh d)) a b c r = _
      rw [m_descriptor_170, if_neg (nI_ge (by omega) (by omega)), rd_ok rfl (show dd_sh d - (q + 1) < 4 by omega) (by decide), Option.bind_some, hr.2, hg _ hi, nI_1, show dd_sh d - (q + 1) + 1 = dd_sh d - q by omega]
/-- behind arrange -/
theorem arr_seq {cd : Nat → Option DT} {mk : Nat} {td : Nat → TT} (hD : GD cd) {k : Nat} {d : DT} (hd : cd k = some d) {s c : Nat} {F : ES → ES} {R : Int32 → RS → Option RS} (h : ∀ g, oks k d (dd_sh d) g → Sim (False, fun r => Pq cd mk td r ∧ r.order = g) s c F (R (nI (dd_sh d)))) : Sim (False, Pq cd mk td) s c F (fun r => Option.bind (m_arrange (nI k) r) (fun y => R y.1 y.2)) := by
  have kp : ∀ (r : RS) (g : Nat → Int32), KP r (r.s_order g) := fun r g => ⟨⟨rfl, rfl, rfl, rfl, rfl, rfl, rfl, rfl⟩, ⟨rfl, rfl, rfl, rfl, rfl, rfl, rfl, rfl⟩, ⟨rfl, rfl, rfl, rfl, rfl, rfl⟩, ⟨rfl, rfl, rfl, rfl⟩, fun L h1 h2 => ⟨L, h1, Nat.le_refl _, h2, fun _ _ => rfl⟩⟩
  obtain ⟨g0, hg0⟩ : ∃ g, oks k d (dd_sh d) g := ⟨fun i => nI (4 * k + (dd_or d i).toNatClampNeg), fun _ _ => rfl⟩
  refine ⟨(h g0 hg0).1, fun r hr hF => ?_, fun x r hr hE => ?_⟩
  · obtain ⟨g, a, b⟩ := r_arrange hD hr.1 hd
    obtain ⟨r', e1, e2, e3⟩ := (h g b).2.1 (r.s_order g) ⟨⟨(kp r g).rc hr.1, (kp r g).ro hr.2⟩, rfl⟩ hF
    exact ⟨r', by show Option.bind (m_arrange (nI k) r) _ = _; rw [a]; exact e1, ⟨(kp r g).trans e2.1, fun z => z.elim⟩, e3⟩
  · obtain ⟨g, a, b⟩ := r_arrange hD hr.1 hd
    obtain ⟨r', e1, e2, e3⟩ := (h g b).2.2 x (r.s_order g) ⟨⟨(kp r g).rc hr.1, (kp r g).ro hr.2⟩, rfl⟩ hE
    exact ⟨r', by show Option.bind (m_arrange (nI k) r) _ = _; rw [a]; exact e1, ⟨(kp r g).trans e2.1, fun z => z.elim⟩, e3⟩
/-- the descriptors of a class and those above it -/
def gd_n (cd : Nat → Option DT) (d0 : DT) : Nat → ES → ES
  | 0, x => es_put x 112 1
  | n + 1, x => match cd (dd_cf d0 n).toNatClampNeg with
    | none => es_put x 112 1
    | some d => if dd_kd d = 0 then es_put x 112 1 else if x.2.2.1 (24 + (dd_cf d0 n).toNatClampNeg) = -1 then gd_n cd d0 n (es_put (ga_frec d (dd_sh d) (es_put (es_put (es_give (es_put (es_sign (es_put x 114 1) (nI (65 + (dd_cf d0 n).toNatClampNeg))) (dd_id d) 8) (24 + (dd_cf d0 n).toNatClampNeg)) (ga_fl d).toInt64 1) (nI (dd_sh d)).toInt64 2)) 120 1) else es_rf x (24 + (dd_cf d0 n).toNatClampNeg)
theorem es_desc_eq (x : ES) (k : Nat) (t : List Int32) (i : Int64) (fl fd : Int32) : es_desc x k t i fl fd = if x.2.2.1 k = -1 then (es_put (es_put (es_give (es_put (es_utf (es_put x 114 1) t) i 8) k) fl.toInt64 1) fd.toInt64 2, 1) else (es_rf x k, 0) := by
  unfold es_desc
  rw [es_ref_eq]
  by_cases h : x.2.2.1 k = -1
  · rw [if_pos h, if_pos h, if_pos rfl]
  · rw [if_neg h, if_neg h, if_neg n10]
theorem es_desc_eq1 (x : ES) (k : Nat) (ch : Int32) (i : Int64) (fl fd : Int32) : es_desc x k [ch] i fl fd = if x.2.2.1 k = -1 then (es_put (es_put (es_give (es_put (es_sign (es_put x 114 1) ch) i 8) k) fl.toInt64 1) fd.toInt64 2, 1) else (es_rf x k, 0) := by rw [es_desc_eq, es_utf1]
theorem gd_eq {cd : Nat → Option DT} {d0 : DT} (h3 : ¬ dd_kd d0 = 3) : ∀ (n : Nat) (x : ES), ga_dfin d0 (ga_dch cd d0 n x) = gd_n cd d0 n x := by
  have hf : ∀ x : ES, ga_dfin d0 (x, false) = es_put x 112 1 := by
    intro x; unfold ga_dfin; rw [if_neg (show ¬ false = true by decide), if_neg h3]
  intro n
  induction n with
  | zero => intro x; exact hf x
  | succ n ih =>
    intro x
    unfold ga_dch gd_n
    rcases hc : cd (dd_cf d0 n).toNatClampNeg with _ | d
    · exact hf x
    · simp only []
      by_cases h0 : dd_kd d = 0
      · rw [if_pos h0, if_pos h0]; exact hf x
      rw [if_neg h0, if_neg h0]
      rw [es_desc_eq1]
      by_cases h1 : x.2.2.1 (24 + (dd_cf d0 n).toNatClampNeg) = -1
      · rw [if_pos h1, if_pos h1, if_neg n10, ih]
      · rw [if_neg h1, if_neg h1, if_pos rfl]
        unfold ga_dfin; rw [if_pos rfl]
theorem hk40 : ∀ c, c < 6 → (40 : Int32) + nI c = nI (hk (24 + c)) := by decide +kernel
theorem i65 (c : Nat) : (65 : Int32) + nI c = nI (65 + c) := nI_add 65 c
theorem sim_dn {cd : Nat → Option DT} {mk : Nat} {td : Nat → TT} (hD : GD cd) {k0 : Nat} {d0 : DT} (hd0 : cd k0 = some d0) (h3 : ¬ dd_kd d0 = 3) (s : Nat) {l1 : Int32} : ∀ (j n i : Nat), j ≤ dd_cn d0 → i + j ≤ 6 → j < n → Sim (False, Pq cd mk td) s s (gd_n cd d0 j) (fun r => m_descriptor_4 (fun _ _ _ r => some r) n (nI i) (chx d0 j) l1 r) := by
  have hP := stab0 False cd mk td
  have k112 : Sim (False, Pq cd mk td) s s (fun x => es_put x 112 1) (fun r => Option.bind (m_append 112 1 r) (fun y => some y)) := ap1 hP s 112 1 (w9 := 1) (by decide) rfl (by omega) (Sim.id _ s)
  intro j
  induction j with
  | zero =>
    intro n i _ hi hn
    obtain ⟨n, rfl⟩ : ∃ m, n = m + 1 := ⟨n - 1, by omega⟩
    refine k112.congr (fun x => rfl) (fun r _ => ?_)
    show m_descriptor_4 (fun _ _ _ r => some r) (n + 1) (nI i) (chx d0 0) l1 r = _
    rw [m_descriptor_4, if_neg (show ¬ (7 : Int32) ≤ nI i from nI_ge (b := 7) (by omega) (by decide)), if_pos (show chx d0 0 < 0 by show (-1 : Int32) < 0; decide)]
  | succ j ih =>
    intro n i hj hi hn
    obtain ⟨n, rfl⟩ : ∃ m, n = m + 1 := ⟨n - 1, by omega⟩
    obtain ⟨c, d, c6, hc, hcd, hcn, hpre⟩ := (hD.ch k0 d0 hd0).2.2 j (by omega)
    have ec : (dd_cf d0 j).toNatClampNeg = c := by rw [hc]; exact nI_clamp (by omega)
    -- what the reference knows of the class
    have rk9 : ∀ r, Pq cd mk td r → rd r.kind 6 (nI c) = some (dd_kd d) := fun r hr => by rw [rd_ok rfl c6 (by decide), (hr.1.so c d hcd).2.1]
    have rab : ∀ r, Pq cd mk td r → rd r.above 6 (nI c) = some (chx d0 j) := fun r hr => by
      obtain ⟨c', e', c6', hc', hce', -, -, hab, -⟩ := ch_at hD hr.1 hd0 (show j < dd_cn d0 by omega)
      have : c = c' := (nI_eq (by omega) (by omega)).mp (hc.symm.trans hc')
      subst this
      rw [rd_ok rfl c6 (by decide), hab]
    have hhead : ∀ r, Pq cd mk td r → ∀ X, m_descriptor_4 (fun _ _ _ r => some r) (n + 1) (nI i) (chx d0 (j + 1)) l1 r = X → True := fun _ _ _ _ => trivial
    by_cases h0 : dd_kd d = 0
    · refine k112.congr (fun x => ?_) (fun r hr => ?_)
      · show gd_n cd d0 (j + 1) x = _
        unfold gd_n; rw [ec, hcd]; simp only []; rw [if_pos h0]
      · show m_descriptor_4 (fun _ _ _ r => some r) (n + 1) (nI i) (chx d0 (j + 1)) l1 r = _
        rw [chx_s, hc, m_descriptor_4, if_neg (show ¬ (7 : Int32) ≤ nI i from nI_ge (b := 7) (by omega) (by decide)), if_neg (nI_pos (by omega)), rk9 r hr, Option.bind_some, if_pos h0]
    -- no class of the chain is a named one
    have hk3 : ¬ dd_kd d = 3 := by
      by_cases hl : j + 1 < dd_cn d0
      · intro z
        have := (hD.kk k0 d0 c d j hd0 hl hc c6 hcd).1.1
        rw [z] at this; exact absurd this (by decide)
      · have ej : j = dd_cn d0 - 1 := by omega
        obtain ⟨-, c2, -⟩ := hD.ch k0 d0 hd0
        rw [ej, c2] at hc
        have : k0 = c := (nI_eq (by have := (hD.wd k0 d0 hd0).1; omega) (by omega)).mp hc
        subst this
        have : d0 = d := Option.some.inj (hd0.symm.trans hcd)
        subst this; exact h3
    have rid : ∀ r, Pq cd mk td r → rd r.id 6 (nI c) = some (dd_id d) := fun r hr => by rw [rd_ok rfl c6 (by decide), (hr.1.so c d hcd).2.2.2.1 hk3]
    -- from the end to the beginning
    have t1 : Sim (False, Pq cd mk td) s s (gd_n cd d0 j) (fun y => Option.bind (rd y.above 6 (nI c)) (fun v => m_descriptor_4 (fun _ _ _ r => some r) n (nI i + 1) v l1 y)) := by
      refine Sim.rd (R := fun y => rd y.above 6 (nI c)) (v0 := chx d0 j) (K := fun v y => m_descriptor_4 (fun _ _ _ r => some r) n (nI i + 1) v l1 y) rab ?_
      rw [nI_1]; exact ih n (i + 1) (by omega) (by omega) (by omega)
    have t2 := ap1 hP s 120 1 (w9 := 1) (by decide) rfl (by omega) t1
    -- the fields
    have t3 : ∀ fl : Int64, Sim (False, Pq cd mk td) s s (fun x => gd_n cd d0 j (es_put (ga_frec d (dd_sh d) (es_put (es_put x fl 1) (nI (dd_sh d)).toInt64 2)) 120 1)) (fun y => Option.bind (m_append fl 1 y) (fun y => Option.bind (m_arrange (nI c) y) (fun z => Option.bind (m_append z.1.toInt64 2 z.2) (fun u => m_descriptor_170 (fun _ _ z3 z2 z1 r => Option.bind (m_append 120 1 r) (fun y => Option.bind (rd y.above 6 z2) (fun v => m_descriptor_4 (fun _ _ _ r => some r) n (z3 + 1) v z1 y))) 60 0 z.1 (nI i) (nI c) l1 u)))) := by
      intro fl
      have a1 := arr_seq (mk := mk) (td := td) (s := s) (c := s) hD hcd (R := fun v z => Option.bind (m_append v.toInt64 2 z) (fun u => m_descriptor_170 (fun _ _ z3 z2 z1 r => Option.bind (m_append 120 1 r) (fun y => Option.bind (rd y.above 6 z2) (fun v => m_descriptor_4 (fun _ _ _ r => some r) n (z3 + 1) v z1 y))) 60 0 v (nI i) (nI c) l1 u)) (F := fun x => gd_n cd d0 j (es_put (ga_frec d (dd_sh d) (es_put x (nI (dd_sh d)).toInt64 2)) 120 1)) (fun g hg => by
      have f1 := sim_170 (mk := mk) (td := td) hD hcd hg s (a := nI i) (b := nI c) (c := l1) (dd_sh d) 60 (Nat.le_refl _) (by have := (hD.wd c d hcd).2.2.2.2.1; omega)
      have f2 := ap1 (stabG cd mk td g) s (nI (dd_sh d)).toInt64 2 (w9 := 2) (by decide) rfl (by omega) f1
      have f3 := Sim.seqx (Q := Pq cd mk td) (fun r r' k h => ⟨k.1.rc h.1.1, k.1.ro h.1.2⟩) f2 t2
      refine f3.congr (fun x => rfl) (fun r _ => ?_)
      show Option.bind (m_append (nI (dd_sh d)).toInt64 2 r) _ = Option.bind (Option.bind (m_append (nI (dd_sh d)).toInt64 2 r) _) _
      rw [ob_as]
      congr 1; funext u
      rw [d170_b (fun z3 z2 z1 r => Option.bind (m_append 120 1 r) (fun y => Option.bind (rd y.above 6 z2) (fun v => m_descriptor_4 (fun _ _ _ r => some r) n (z3 + 1) v z1 y))), Nat.sub_self]; rfl)
      have a2 := ap1 hP s fl 1 (w9 := 1) (by decide) rfl (by omega) a1
      exact a2
    have hfl : ga_fl d = (if dd_kd d = 2 then 3 else 2) := by unfold ga_fl; rw [if_neg hk3]
    have t4 : Sim (False, Pq cd mk td) s s (fun x => gd_n cd d0 j (es_put (ga_frec d (dd_sh d) (es_put (es_put x (ga_fl d).toInt64 1) (nI (dd_sh d)).toInt64 2)) 120 1)) (fun y_39 => Option.bind (rd y_39.kind 6 (nI c)) (fun v_45 => if v_45 = 2 then Option.bind (m_append 3 1 y_39) (fun y => Option.bind (m_arrange (nI c) y) (fun z => Option.bind (m_append z.1.toInt64 2 z.2) (fun u => m_descriptor_170' (fun _ _ z3 z2 z1 r => Option.bind (m_append 120 1 r) (fun y => Option.bind (rd y.above 6 z2) (fun v => m_descriptor_4 (fun _ _ _ r => some r) n (z3 + 1) v z1 y))) 60 0 z.1 (nI i) (nI c) l1 u))) else Option.bind (m_append 2 1 y_39) (fun y => Option.bind (m_arrange (nI c) y) (fun z => Option.bind (m_append z.1.toInt64 2 z.2) (fun u => m_descriptor_170 (fun _ _ z3 z2 z1 r => Option.bind (m_append 120 1 r) (fun y => Option.bind (rd y.above 6 z2) (fun v => m_descriptor_4 (fun _ _ _ r => some r) n (z3 + 1) v z1 y))) 60 0 z.1 (nI i) (nI c) l1 u))))) := by
      by_cases h2 : dd_kd d = 2
      · refine (t3 3).congr (fun x => ?_) (fun r hr => ?_)
        · show gd_n cd d0 j (es_put (ga_frec d (dd_sh d) (es_put (es_put x (ga_fl d).toInt64 1) (nI (dd_sh d)).toInt64 2)) 120 1) = _
          rw [hfl, if_pos h2]; rfl
        · show Option.bind (rd r.kind 6 (nI c)) _ = _
          rw [rk9 r hr, Option.bind_some, if_pos h2]
          first | rfl | (congr 1; funext y; congr 1; funext z; congr 1; funext u; exact d170_1 _ _ _ _ _ _ _ _)
      · refine (t3 2).congr (fun x => ?_) (fun r hr => ?_)
        · show gd_n cd d0 j (es_put (ga_frec d (dd_sh d) (es_put (es_put x (ga_fl d).toInt64 1) (nI (dd_sh d)).toInt64 2)) 120 1) = _
          rw [hfl, if_neg h2]; rfl
        · show Option.bind (rd r.kind 6 (nI c)) _ = _
          rw [rk9 r hr, Option.bind_some, if_neg h2]
    have t5 := gv1 hP (24 + c) (h9 := 40 + nI c) (by omega) (hk40 c c6) t4
    -- the bytes before
    have t6 := Sim.rd (R := fun y => rd y.kind 6 (nI c)) (v0 := dd_kd d) (K := fun v y => if v = 3 then Option.bind (m_plainEnd (40 + nI c) 18 y) (fun y_113 => Option.bind (m_enumBase y_113) (fun y_117 => some y_117)) else Option.bind (m_give (40 + nI c) y) _) rk9 (Sim.ite0 hk3 t5)
    have t7 := ap1 hP s (dd_id d) 8 (w9 := 8) (by decide) rfl (by omega) t6
    have t8 := Sim.rd (R := fun y => rd y.id 6 (nI c)) (v0 := dd_id d) (K := fun v y => Option.bind (m_append v 8 y) _) rid t7
    have t9 := lt1 hP (65 + nI c) (t8.congr (n := fun y_20 => Option.bind (rd y_20.kind 6 (nI c)) (fun v_27 => if v_27 = 3 then (Option.bind (m_append 0 8 y_20) (fun y_122 => Option.bind (rd y_122.kind 6 (nI c)) (fun v_128 => if (v_128 : Int32) = 3 then (Option.bind (m_plainEnd (40 + (nI c)) 18 y_122) (fun y_204 => Option.bind (m_enumBase  y_204) (fun y_208 => some y_208))) else (Option.bind (m_give (40 + (nI c)) y_122) (fun y_130 => Option.bind (rd y_130.kind 6 (nI c)) (fun v_136 => if (v_136 : Int32) = 2 then (Option.bind (m_append 3 1 y_130) (fun y_171 => Option.bind (m_arrange (nI c) y_171) (fun y_175 => Option.bind (m_append y_175.1.toInt64 2 y_175.2) (fun y_180 => m_descriptor_170''' (fun z5_185 z4_185 z3_185 z2_185 z1_185 r_194 => Option.bind (m_append 120 1 r_194) (fun y_196 => Option.bind (rd y_196.above 6 z2_185) (fun v_203 => m_descriptor_4 (fun _ _ _ r => some r) n (z3_185 + 1) v_203 z1_185 y_196))) 60 0 y_175.1 (nI i) (nI c) l1 y_180)))) else (Option.bind (m_append 2 1 y_130) (fun y_138 => Option.bind (m_arrange (nI c) y_138) (fun y_142 => Option.bind (m_append y_142.1.toInt64 2 y_142.2) (fun y_147 => m_descriptor_170'' (fun z5_152 z4_152 z3_152 z2_152 z1_152 r_161 => Option.bind (m_append 120 1 r_161) (fun y_163 => Option.bind (rd y_163.above 6 z2_152) (fun v_170 => m_descriptor_4 (fun _ _ _ r => some r) n (z3_152 + 1) v_170 z1_152 y_163))) 60 0 y_142.1 (nI i) (nI c) l1 y_147)))))))))) else Option.bind (rd y_20.id 6 (nI c)) _)) (fun _ => rfl) (fun r hr => by rw [rk9 r hr, Option.bind_some, if_neg hk3]))
    have t10 := ap1 hP s 114 1 (w9 := 1) (by decide) rfl (by omega) t9
    have t11 := sim_ref2 (24 + c) (h9 := 40 + nI c) (by omega) (hk40 c c6) t10 (Nat.le_refl _)
    refine t11.congr (fun x => ?_) (fun r hr => ?_)
    · show gd_n cd d0 (j + 1) x = _
      rw [gd_n, ec, hcd]; simp only []; rw [if_neg h0, ← i65]
    · show m_descriptor_4 (fun _ _ _ r => some r) (n + 1) (nI i) (chx d0 (j + 1)) l1 r = _
      rw [chx_s, hc, m_descriptor_4, if_neg (show ¬ (7 : Int32) ≤ nI i from nI_ge (b := 7) (by omega) (by decide)), if_neg (nI_pos (by omega)), rk9 r hr, Option.bind_some, if_neg h0]
