/-! THE LAYER: a world is a map from roles (kind, number) to cells; ad: where each lies -/
abbrev pw_A : Type := Nat → Nat → Nat
abbrev pw_C : Type := Nat → Nat → Option va_E
def pw_up {α : Type} (f : Nat → Nat → α) (x y : Nat) (v : α) : Nat → Nat → α := fun a b => if a = x ∧ b = y then v else f a b
theorem pw_up_self {α : Type} (f : Nat → Nat → α) (x y : Nat) (v : α) : pw_up f x y v x y = v := if_pos ⟨rfl, rfl⟩
theorem pw_up_ne {α : Type} (f : Nat → Nat → α) {x y a b : Nat} (v : α) (h : ¬ (a = x ∧ b = y)) : pw_up f x y v a b = f a b := if_neg h
theorem pw_up_some {C : pw_C} {x y a b : Nat} {e f : va_E} (hf : pw_up C x y (some e) a b = some f) : (a = x ∧ b = y ∧ f = e) ∨ (¬ (a = x ∧ b = y) ∧ C a b = some f) := by
  by_cases hab : a = x ∧ b = y
  · obtain ⟨rfl, rfl⟩ := hab
    rw [pw_up_self] at hf
    exact Or.inl ⟨rfl, rfl, (Option.some.inj hf).symm⟩
  · rw [pw_up_ne _ _ hab] at hf
    exact Or.inr ⟨hab, hf⟩
/-- a cell that was there before, and is only read: what the start tells of it. Its class stands at 1000 + k of D.1, the class by whose name arrays of its sort are made at 2000 + k -/
def vr_at (D : va_G) (cl : List vw_C) (q : Nat × va_E) (H : Heap) : Prop := match q.2 with
  | .inl a => ∃ (cell : Cell) (k : Nat) (f : Nat → Int32), H[q.1]? = some cell ∧ cell.cls = D.1 (1000 + k) ∧ a.1 = D.1 (2000 + k) ∧ a.2.2 = .inl f ∧ cell.vm ≠ .unknown ∧ (∀ j, cell.vm ≠ .statics j) ∧ a.2.1 ≤ cell.slots.size ∧ cell.slots.size.toInt32 = Int32.ofNat a.2.1 ∧ ∀ j, j < a.2.1 → cell.slots[j]? = some (.int (f j))
  | .inr o => ∃ (r : vw_C) (cell : Cell), cl[o.1]? = some r ∧ H[q.1]? = some cell ∧ cell.cls = D.1 o.1 ∧ cell.vm ≠ .unknown ∧ cell.vm.isStatics = false ∧ ∀ k, k < 2 → cell.slots[D.2 o.1 k]? = some (vp_V o.2 k)
theorem vr_at.kept {D : va_G} {cl : List vw_C} {q : Nat × va_E} {H H1 : Heap} (h : vr_at D cl q H) (h1 : H1[q.1]? = H[q.1]?) : vr_at D cl q H1 := by
  obtain ⟨a, e⟩ := q
  cases e with
  | inl z =>
    obtain ⟨cell, k, f, g, r⟩ := h
    exact ⟨cell, k, f, h1.trans g, r⟩
  | inr o =>
    obtain ⟨r, cell, g0, g, r2⟩ := h
    exact ⟨r, cell, g0, h1.trans g, r2⟩
theorem vr_at.lt {D : va_G} {cl : List vw_C} {q : Nat × va_E} {H : Heap} (h : vr_at D cl q H) : q.1 < H.size := by
  obtain ⟨a, e⟩ := q
  cases e with
  | inl z =>
    obtain ⟨cell, k, f, g, r⟩ := h
    exact (Array.getElem?_eq_some_iff.mp g).1
  | inr o =>
    obtain ⟨r, cell, g0, g, r2⟩ := h
    exact (Array.getElem?_eq_some_iff.mp g).1
/-- what the tables say: the kit's own, and of the arrays that are only read -/
def pw_K (D : va_G) (cl : List vw_C) (tys : List (ClassId × FieldType)) (U : State) : Prop := va_K D cl tys U ∧ ∀ (k : Nat) (ty : FieldType), ArrOfT U (D.1 (2000 + k)) ty → ArrOfT U (D.1 (1000 + k)) ty
theorem pw_K.moved {D : va_G} {cl : List vw_C} {tys : List (ClassId × FieldType)} {u U : State} (hvm : u.vm.Alike U.vm) (h : pw_K D cl tys u) : pw_K D cl tys U := ⟨va_K.moved hvm h.1, fun k ty z => arrOfT_moved hvm (h.2 k ty (arrOfT_moved hvm.symm z))⟩
/-- the cells are in the heap, those of kinds below 50 apart from all others, and finitely many; kinds from 50 on are only read -/
def pw_W (D : va_G) (cl : List vw_C) (ad : pw_A) (C : pw_C) (H : Heap) : Prop :=
  (∀ (x y : Nat) (e : va_E), C x y = some e → (x < 50 → va_at D cl (ad x y, e) H) ∧ (¬ x < 50 → vr_at D cl (ad x y, e) H)) ∧
  (∀ (x y x' y' : Nat) (e e' : va_E), C x y = some e → C x' y' = some e' → x < 50 → ad x y = ad x' y' → x = x' ∧ y = y') ∧
  ∃ Ls : List (Nat × Nat), ∀ (x y : Nat) (e : va_E), C x y = some e → (x, y) ∈ Ls
/-- the world on the way: of the kind A, and since H0 nothing else has changed -/
def pw_H (D : va_G) (cl : List vw_C) (A : Nat → Prop) (H0 : Heap) (a0 : pw_A) (c0 : pw_C) (ad : pw_A) (C : pw_C) (H : Heap) (locs : List Loc) : Prop :=
  pw_W D cl ad C H ∧ (∀ (x y : Nat) (e : va_E), C x y = some e → (x < 50 → A (ad x y)) ∧ (¬ x < 50 → ad x y < H0.size ∧ ¬ A (ad x y))) ∧ va_S A H0 H locs ∧ ∀ (x y : Nat), ¬ x < 50 → C x y = c0 x y ∧ ad x y = a0 x y
theorem pw_W.lt {D : va_G} {cl : List vw_C} {ad : pw_A} {C : pw_C} {H : Heap} (h : pw_W D cl ad C H) {x y : Nat} {e : va_E} (he : C x y = some e) : ad x y < H.size := by
  by_cases h5 : x < 50
  · exact ((h.1 x y e he).1 h5).lt
  · exact ((h.1 x y e he).2 h5).lt
theorem pw_list0 {ad : pw_A} {C : pw_C} (hinj : ∀ (x y x' y' : Nat) (e e' : va_E), C x y = some e → C x' y' = some e' → x < 50 → ad x y = ad x' y' → x = x' ∧ y = y') : ∀ Ls : List (Nat × Nat), ∃ ws : va_W, (∀ (k : Nat) (q : Nat × va_E), ws[k]? = some q → ∃ x y, (x, y) ∈ Ls ∧ x < 50 ∧ C x y = some q.2 ∧ ad x y = q.1) ∧ (∀ (x y : Nat) (e : va_E), (x, y) ∈ Ls → x < 50 → C x y = some e → ∃ k : Nat, ws[k]? = some (ad x y, e)) ∧ (∀ (i j : Nat) (p q : Nat × va_E), ws[i]? = some p → ws[j]? = some q → p.1 = q.1 → i = j) := by
  intro Ls
  induction Ls with
  | nil => exact ⟨[], fun k q h => by simp at h, fun x y e h => by simp at h, fun i j p q h => by simp at h⟩
  | cons z Ls ih =>
    obtain ⟨x0, y0⟩ := z
    obtain ⟨ws, h1, h2, h3⟩ := ih
    have h1' : ∀ (k : Nat) (q : Nat × va_E), ws[k]? = some q → ∃ x y, (x, y) ∈ (x0, y0) :: Ls ∧ x < 50 ∧ C x y = some q.2 ∧ ad x y = q.1 := fun k q hk => by
      obtain ⟨x, y, m, r⟩ := h1 k q hk
      exact ⟨x, y, List.mem_cons_of_mem _ m, r⟩
    by_cases hin : (x0, y0) ∈ Ls ∨ ¬ x0 < 50
    · refine ⟨ws, h1', fun x y e hx h5 he => ?_, h3⟩
      rcases List.mem_cons.mp hx with h | h
      · cases h
        rcases hin with hin | hin
        · exact h2 _ _ e hin h5 he
        · exact absurd h5 hin
      · exact h2 x y e h h5 he
    · have hx5 : x0 < 50 := Decidable.not_not.mp (fun z => hin (Or.inr z))
      have hin : (x0, y0) ∉ Ls := fun z => hin (Or.inl z)
      cases hc : C x0 y0 with
      | none =>
        refine ⟨ws, h1', fun x y e hx h5 he => ?_, h3⟩
        rcases List.mem_cons.mp hx with h | h
        · cases h
          rw [hc] at he
          cases he
        · exact h2 x y e h h5 he
      | some e0 =>
        refine ⟨(ad x0 y0, e0) :: ws, fun k q hk => ?_, fun x y e hx h5 he => ?_, fun i j p q hi hj hpq => ?_⟩
        · cases k with
          | zero =>
            rw [List.getElem?_cons_zero] at hk
            cases hk
            exact ⟨x0, y0, List.mem_cons_self, hx5, hc, rfl⟩
          | succ k =>
            rw [List.getElem?_cons_succ] at hk
            exact h1' k q hk
        · rcases List.mem_cons.mp hx with h | h
          · cases h
            rw [hc] at he
            cases he
            exact ⟨0, rfl⟩
          · obtain ⟨k, hk⟩ := h2 x y e h h5 he
            exact ⟨k + 1, by rw [List.getElem?_cons_succ]; exact hk⟩
        · cases i with
          | zero =>
            cases j with
            | zero => rfl
            | succ j =>
              rw [List.getElem?_cons_zero] at hi
              rw [List.getElem?_cons_succ] at hj
              cases hi
              obtain ⟨x, y, m, r0, r1, r2⟩ := h1 j q hj
              obtain ⟨rfl, rfl⟩ := hinj x y x0 y0 _ _ r1 hc r0 (r2.trans hpq.symm)
              exact absurd m hin
          | succ i =>
            rw [List.getElem?_cons_succ] at hi
            cases j with
            | zero =>
              rw [List.getElem?_cons_zero] at hj
              cases hj
              obtain ⟨x, y, m, r0, r1, r2⟩ := h1 i p hi
              obtain ⟨rfl, rfl⟩ := hinj x y x0 y0 _ _ r1 hc r0 (r2.trans hpq)
              exact absurd m hin
            | succ j =>
              rw [List.getElem?_cons_succ] at hj
              rw [h3 i j p q hi hj hpq]
/-- a world as a list, for the kit's rows -/
def pw_L (ad : pw_A) (C : pw_C) (ws : va_W) : Prop := (∀ (k : Nat) (q : Nat × va_E), ws[k]? = some q → ∃ x y, x < 50 ∧ C x y = some q.2 ∧ ad x y = q.1) ∧ ∀ (x y : Nat) (e : va_E), x < 50 → C x y = some e → ∃ k : Nat, ws[k]? = some (ad x y, e)
theorem pw_list {D : va_G} {cl : List vw_C} {A : Nat → Prop} {H0 : Heap} {a0 ad : pw_A} {c0 C : pw_C} {H : Heap} {locs : List Loc} (h : pw_H D cl A H0 a0 c0 ad C H locs) : ∃ ws : va_W, pw_L ad C ws ∧ va_P D cl ws H ∧ va_D A ws := by
  obtain ⟨⟨g1, g2, Ls, g3⟩, g4, g5⟩ := h
  obtain ⟨ws, h1, h2, h3⟩ := pw_list0 g2 Ls
  have k1 : ∀ (k : Nat) (q : Nat × va_E), ws[k]? = some q → ∃ x y, x < 50 ∧ C x y = some q.2 ∧ ad x y = q.1 := fun k q hk => by
    obtain ⟨x, y, -, r⟩ := h1 k q hk
    exact ⟨x, y, r⟩
  refine ⟨ws, ⟨k1, fun x y e h5 he => h2 x y e (g3 x y e he) h5 he⟩, fun k q hk => ?_, h3, fun k q hk => ?_⟩
  · obtain ⟨x, y, r0, r1, r2⟩ := k1 k q hk
    have := (g1 x y _ r1).1 r0
    rw [r2] at this
    exact this
  · obtain ⟨x, y, r0, r1, r2⟩ := k1 k q hk
    rw [← r2]
    exact (g4 x y _ r1).1 r0
theorem pw_set {D : va_G} {cl : List vw_C} {A : Nat → Prop} {H0 H1 : Heap} {a0 ad : pw_A} {c0 C : pw_C} {H : Heap} {locs locs1 : List Loc} {ws : va_W} (h : pw_H D cl A H0 a0 c0 ad C H locs) (hL : pw_L ad C ws) (hD0 : va_D A ws) {x y k : Nat} {e0 e : va_E} (hx5 : x < 50) (he : C x y = some e0) (hk : ws[k]? = some (ad x y, e0)) (hP : va_P D cl (ws.set k (ad x y, e)) H1) (hS : va_S A H0 H1 locs1) : pw_H D cl A H0 a0 c0 ad (pw_up C x y (some e)) H1 locs1 := by
  have hl := (List.getElem?_eq_some_iff.mp hk).1
  have hdom : ∀ (a b : Nat) (f : va_E), pw_up C x y (some e) a b = some f → ∃ f', C a b = some f' := by
    intro a b f hf
    rcases pw_up_some hf with ⟨rfl, rfl, -⟩ | ⟨-, h2⟩
    · exact ⟨_, he⟩
    · exact ⟨_, h2⟩
  obtain ⟨⟨g1, g2, Ls, g3⟩, g4, g5, g6⟩ := h
  refine ⟨⟨fun a b f hf => ?_, fun a b a' b' f f' hf hf' h50 hab => ?_, Ls, fun a b f hf => ?_⟩, fun a b f hf => ?_, hS, fun a b h50 => ?_⟩
  · rcases pw_up_some hf with ⟨rfl, rfl, rfl⟩ | ⟨hne, h2⟩
    · exact ⟨fun _ => hP k _ (List.getElem?_set_self hl), fun z => absurd hx5 z⟩
    · by_cases ha5 : a < 50
      · obtain ⟨j, hj⟩ := hL.2 a b f ha5 h2
        have hjk : k ≠ j := by
          rintro rfl
          have := hk.symm.trans hj
          have h3 := congrArg Prod.fst (Option.some.inj this)
          exact hne (g2 a b x y f e0 h2 he ha5 h3.symm)
        exact ⟨fun _ => hP j _ (by rw [List.getElem?_set_ne hjk]; exact hj), fun z => absurd ha5 z⟩
      · obtain ⟨q1, q2⟩ := (g4 a b f h2).2 ha5
        exact ⟨fun z => absurd z ha5, fun _ => ((g1 a b f h2).2 ha5).kept (by show H1[ad a b]? = H[ad a b]?; rw [hS.2.1 _ q1 q2, g5.2.1 _ q1 q2])⟩
  · obtain ⟨f1, h1⟩ := hdom a b f hf
    obtain ⟨f2, h2⟩ := hdom a' b' f' hf'
    exact g2 a b a' b' f1 f2 h1 h2 h50 hab
  · obtain ⟨f1, h1⟩ := hdom a b f hf
    exact g3 a b f1 h1
  · obtain ⟨f1, h1⟩ := hdom a b f hf
    exact g4 a b f1 h1
  · rw [pw_up_ne _ _ (fun z => h50 (by rw [z.1]; exact hx5))]
    exact g6 a b h50
theorem pw_push {D : va_G} {cl : List vw_C} {A : Nat → Prop} {H0 H1 : Heap} {a0 ad : pw_A} {c0 C : pw_C} {H : Heap} {locs locs1 : List Loc} {ws : va_W} (h : pw_H D cl A H0 a0 c0 ad C H locs) (hL : pw_L ad C ws) {x y q : Nat} {e : va_E} (hx5 : x < 50) (hn : C x y = none) (hP : va_P D cl (ws ++ [(q, e)]) H1) (hD : va_D A (ws ++ [(q, e)])) (hS : va_S A H0 H1 locs1) : pw_H D cl A H0 a0 c0 (pw_up ad x y q) (pw_up C x y (some e)) H1 locs1 := by
  have hlast : (ws ++ [(q, e)])[ws.length]? = some (q, e) := by rw [List.getElem?_append_right (Nat.le_refl _), Nat.sub_self]; rfl
  have hold : ∀ (a b : Nat) (f : va_E), a < 50 → C a b = some f → ∃ k, k < ws.length ∧ (ws ++ [(q, e)])[k]? = some (ad a b, f) := by
    intro a b f h50 hf
    obtain ⟨k, hk⟩ := hL.2 a b f h50 hf
    have hlt := (List.getElem?_eq_some_iff.mp hk).1
    exact ⟨k, hlt, by rw [List.getElem?_append_left hlt]; exact hk⟩
  obtain ⟨⟨g1, g2, Ls, g3⟩, g4, g5, g6⟩ := h
  have hqA : A q := hD.2 _ _ hlast
  have hq : ∀ (a b : Nat) (f : va_E), C a b = some f → ad a b ≠ q := by
    intro a b f hf hab
    by_cases h50 : a < 50
    · obtain ⟨k, hlt, hk⟩ := hold a b f h50 hf
      have := hD.1 k ws.length _ _ hk hlast hab
      omega
    · exact ((g4 a b f hf).2 h50).2 (by rw [hab]; exact hqA)
  refine ⟨⟨fun a b f hf => ?_, fun a b a' b' f f' hf hf' h50 hab => ?_, (x, y) :: Ls, fun a b f hf => ?_⟩, fun a b f hf => ?_, hS, fun a b h50 => ?_⟩
  · rcases pw_up_some hf with ⟨rfl, rfl, rfl⟩ | ⟨hne, h2⟩
    · rw [pw_up_self]
      exact ⟨fun _ => hP _ _ hlast, fun z => absurd hx5 z⟩
    · rw [pw_up_ne _ _ hne]
      by_cases h50 : a < 50
      · obtain ⟨k, -, hk⟩ := hold a b f h50 h2
        exact ⟨fun _ => hP k _ hk, fun z => absurd h50 z⟩
      · obtain ⟨q1, q2⟩ := (g4 a b f h2).2 h50
        exact ⟨fun z => absurd z h50, fun _ => ((g1 a b f h2).2 h50).kept (by show H1[ad a b]? = H[ad a b]?; rw [hS.2.1 _ q1 q2, g5.2.1 _ q1 q2])⟩
  · rcases pw_up_some hf with ⟨rfl, rfl, rfl⟩ | ⟨hne, h2⟩ <;> rcases pw_up_some hf' with ⟨rfl, rfl, rfl⟩ | ⟨hne', h2'⟩
    · exact ⟨rfl, rfl⟩
    · rw [pw_up_self, pw_up_ne _ _ hne'] at hab
      exact absurd hab.symm (hq a' b' f' h2')
    · rw [pw_up_self, pw_up_ne _ _ hne] at hab
      exact absurd hab (hq a b f h2)
    · rw [pw_up_ne _ _ hne, pw_up_ne _ _ hne'] at hab
      exact g2 a b a' b' f f' h2 h2' h50 hab
  · rcases pw_up_some hf with ⟨rfl, rfl, rfl⟩ | ⟨hne, h2⟩
    · exact List.mem_cons_self
    · exact List.mem_cons_of_mem _ (g3 a b f h2)
  · rcases pw_up_some hf with ⟨rfl, rfl, rfl⟩ | ⟨hne, h2⟩
    · rw [pw_up_self]
      exact ⟨fun _ => hqA, fun z => absurd hx5 z⟩
    · rw [pw_up_ne _ _ hne]
      exact g4 a b f h2
  · have hne : ¬ (a = x ∧ b = y) := fun z => h50 (by rw [z.1]; exact hx5)
    rw [pw_up_ne _ _ hne, pw_up_ne _ _ hne]
    exact g6 a b h50
theorem pw_H.one {D : va_G} {cl : List vw_C} {A : Nat → Prop} {H0 : Heap} {a0 ad : pw_A} {c0 C : pw_C} {H : Heap} {locs : List Loc} (h : pw_H D cl A H0 a0 c0 ad C H locs) {x y : Nat} {e : va_E} (h5 : x < 50) (he : C x y = some e) : va_P D cl [(ad x y, e)] H := by
  intro k q hk
  have hk0 : k = 0 := by
    have := (List.getElem?_eq_some_iff.mp hk).1
    simp only [List.length_cons, List.length_nil] at this
    omega
  subst hk0
  cases hk
  exact (h.1.1 x y e he).1 h5
/-- which cells a method may change: its world's, and those that it makes -/
def pw_dom (ad : pw_A) (C : pw_C) (sz : Nat) : Nat → Prop := fun q => (∃ (x y : Nat) (e : va_E), x < 50 ∧ C x y = some e ∧ ad x y = q) ∨ sz ≤ q
theorem pw_start {D : va_G} {cl : List vw_C} {ad : pw_A} {C : pw_C} {H : Heap} (h : pw_W D cl ad C H) : pw_H D cl (pw_dom ad C H.size) H ad C ad C H [] := ⟨h, fun x y e he => ⟨fun h5 => Or.inl ⟨x, y, e, h5, he, rfl⟩, fun h5 => ⟨(h.lt he), fun z => by
  rcases z with ⟨x', y', e', h5', he', hq⟩ | z
  · exact h5 (by rw [← (h.2.1 x' y' x y e' e he' he h5' hq).1]; exact h5')
  · exact absurd (h.lt he) (Nat.not_lt.mpr z)⟩⟩, va_S.rf, fun _ _ _ => ⟨rfl, rfl⟩⟩
theorem pw_dom_new {ad : pw_A} {C : pw_C} {sz : Nat} : ∀ q, sz ≤ q → pw_dom ad C sz q := fun _ h => Or.inr h
theorem pw_H.free {D : va_G} {cl : List vw_C} {A : Nat → Prop} {H0 : Heap} {a0 ad : pw_A} {c0 C : pw_C} {H : Heap} {locs : List Loc} (h : pw_H D cl A H0 a0 c0 ad C H locs) (hA : ∀ q, H0.size ≤ q → A q) : ∀ q, pw_dom ad C H.size q → A q := by
  rintro q (⟨x, y, e, h5, he, rfl⟩ | h1)
  · exact (h.2.1 x y e he).1 h5
  · exact hA q (Nat.le_trans h.2.2.1.1 h1)
/-- what a method says at its end: its answer, the new world, the rest as it was -/
def pw_Q (D : va_G) (cl : List vw_C) (a0 : pw_A) (c0 : pw_C) (post : Option Value → pw_A → pw_C → Prop) (A : Nat → Prop) : Array Value → State → Outcome → State → Prop := fun _ st oc t =>
  (∃ (v : Option Value) (ad' : pw_A) (C' : pw_C), oc = .returned v ∧ post v ad' C' ∧ pw_W D cl ad' C' t.heap ∧ (∀ (x y : Nat) (e : va_E), C' x y = some e → x < 50 → A (ad' x y)) ∧ ∀ (x y : Nat), ¬ x < 50 → C' x y = c0 x y ∧ ad' x y = a0 x y) ∧ va_F A st t
/-- what stays as the machine goes on: it speaks of cells outside A, and of tables -/
def pw_Zok (Z : (Nat → Prop) → State → Prop) : Prop := ∀ (A A' : Nat → Prop) (U V : State), U.WarmedH V.vm → (∀ q, A' q → A q) → U.heap.size ≤ V.heap.size → (∀ q : Nat, q < U.heap.size → ¬ A q → V.heap[q]? = U.heap[q]?) → Z A U → Z A' V
/-- a contract: from the world (ad, C) with these arguments -/
def pw_Con (l : Launch) (y : MethodName) (ws : List Cond) (rm : Room) (D : va_G) (cl : List vw_C) (tys : List (ClassId × FieldType)) (Z : (Nat → Prop) → State → Prop) (av : List Value) (ad : pw_A) (C : pw_C) (post : Option Value → pw_A → pw_C → Prop) (mc ms : Nat) : Prop :=
  ∀ sz : Nat, Met l y ws rm (va_Pc av (fun U => U.heap.size = sz ∧ pw_W D cl ad C U.heap ∧ pw_K D cl tys U ∧ Z (pw_dom ad C sz) U)) (pw_Q D cl ad C post (pw_dom ad C sz)) mc ms (pw_dom ad C sz)
theorem pw_blind {D : va_G} {cl : List vw_C} {tys : List (ClassId × FieldType)} {Z : (Nat → Prop) → State → Prop} (hZ : pw_Zok Z) {av : List Value} {ad : pw_A} {C : pw_C} {sz : Nat} : FrameBlind (va_Pc av (fun U => U.heap.size = sz ∧ pw_W D cl ad C U.heap ∧ pw_K D cl tys U ∧ Z (pw_dom ad C sz) U)) := by
  intro a U g mk q
  obtain ⟨q0, q1, qW, qK, qZ⟩ := q
  exact ⟨q0, q1, qW, pw_K.moved (u := U) (U := U.calling g mk a) (Vm.Alike.refl U.vm) qK, hZ _ _ U (U.calling g mk a) (State.WarmedH.refl U) (fun _ h => h) (Nat.le_refl _) (fun _ _ _ => rfl) qZ⟩
theorem pw_preS {D : va_G} {cl : List vw_C} {tys : List (ClassId × FieldType)} {Z : (Nat → Prop) → State → Prop} (hZ : pw_Zok Z) {A : Nat → Prop} {a0 ad : pw_A} {c0 C : pw_C} {s : State} {H : Heap} {locs : List Loc} {av : List Value} (hw : pw_H D cl A s.heap a0 c0 ad C H locs) (hA : ∀ q, s.heap.size ≤ q → A q) (hK : pw_K D cl tys s) (hz : Z A s) :
    PreS s H (va_Pc av (fun U => U.heap.size = H.size ∧ pw_W D cl ad C U.heap ∧ pw_K D cl tys U ∧ Z (pw_dom ad C H.size) U)) av :=
  ⟨pw_blind hZ, fun U hU hW => ⟨rfl, by rw [hU], by rw [hU]; exact hw.1, pw_K.moved hW.alike hK, hZ _ _ s U hW (hw.free hA) (by rw [hU]; exact hw.2.2.1.1) (fun q h1 h2 => by rw [hU]; exact hw.2.2.1.2.1 q h1 h2) hz⟩⟩
theorem pw_preV {D : va_G} {cl : List vw_C} {tys : List (ClassId × FieldType)} {Z : (Nat → Prop) → State → Prop} (hZ : pw_Zok Z) {A : Nat → Prop} {a0 ad : pw_A} {c0 C : pw_C} {s : State} {H : Heap} {locs : List Loc} {As : List Value} {b x y ci : Nat} {q : vw_C} {fs : List Value} (hw : pw_H D cl A s.heap a0 c0 ad C H locs) (hA : ∀ q, s.heap.size ≤ q → A q) (hK : pw_K D cl tys s) (hz : Z A s) (hb : ad x y = b) (he : C x y = some (.inr (ci, fs))) (hc : cl[ci]? = some q) :
    PreV s H q.1 b (va_Pc (.ref b :: As) (fun U => U.heap.size = H.size ∧ pw_W D cl ad C U.heap ∧ pw_K D cl tys U ∧ Z (pw_dom ad C H.size) U)) As := by
  subst hb
  obtain ⟨h1, h2⟩ := pw_preS (av := .ref (ad x y) :: As) hZ hw hA hK hz
  refine ⟨h1, ?_, h2⟩
  by_cases h5 : x < 50
  · exact va_recv hK.1 (hw.one h5 he) (q0 := 0) hc rfl
  · obtain ⟨r, cell, g0, g1, g2, g3, g4, g5⟩ := (hw.1.1 x y _ he).2 h5
    exact ⟨cell, g1, g4, by rw [g2]; exact (hK.1.1 ci q hc).2.1⟩
/-- an array that is only read -/
theorem pw_ro {D : va_G} {cl : List vw_C} {tys : List (ClassId × FieldType)} {A : Nat → Prop} {H0 : Heap} {a0 ad : pw_A} {c0 C : pw_C} {s : State} {H : Heap} {locs : List Loc} {x y t0 : Nat} {cA : ClassId} {z : vp_A} {ty : FieldType} (hw : pw_H D cl A H0 a0 c0 ad C H locs) (hK : pw_K D cl tys s) (h5 : ¬ x < 50) (he : C x y = some (.inl (cA, z))) (ht : tys[t0]? = some (cA, ty)) : ∃ (cell : Cell) (f : Nat → Int32), H[ad x y]? = some cell ∧ s.isArrayOf cell ty ∧ z.2 = .inl f ∧ cell.vm ≠ .unknown ∧ z.1 ≤ cell.slots.size ∧ cell.slots.size.toInt32 = Int32.ofNat z.1 ∧ ∀ j, j < z.1 → cell.slots[j]? = some (.int (f j)) := by
  obtain ⟨cell, k, f, g1, g2, g3, g4, g5, g6, g7, g8, g9⟩ := (hw.1.1 x y _ he).2 h5
  have g3 : cA = D.1 (2000 + k) := g3
  have h1 := (hK.1.2 t0 _ ht).1
  rw [g3] at h1
  obtain ⟨-, kk, q1, q2⟩ := hK.2 k ty h1 0 (fun _ => .null)
  exact ⟨cell, f, g1, ⟨g6, kk, by rw [g2]; exact q1, q2⟩, g4, g5, g7, g8, g9⟩
theorem pw_in {j n : Nat} (hj : j < n) (hjb : j < 2 ^ 31) : vp_in (nI j) n := by
  rintro (h | h)
  · exact nI_pos hjb h
  · rw [nI_clamp hjb] at h
    omega
theorem pw_clamp0 {i : Int32} {j : Nat} (hi : i = nI j) (hjb : j < 2 ^ 31) : ¬ i < 0 ∧ i.toNatClampNeg = j := by
  subst hi
  exact ⟨nI_pos hjb, nI_clamp hjb⟩
section PW
variable {p : Program} {l : Launch} {e : Env} {R : Room} {s : State} {m : MethodId} {args : Array Value} {below : List Frame} {meth : Method} {c : Code} {H : Heap} {locs : List Loc} {cells slots : Nat} {Q : State → Prop}
variable {cc : ByteArray} {pc : Nat} {ls : Array Slot} {rest st0 : List Value} {D : va_G} {cl : List vw_C} {A : Nat → Prop} {tys : List (ClassId × FieldType)} {H0 : Heap} {a0 ad : pw_A} {c0 C : pw_C} {a : Nat}
/-- behind a call -/
theorem pw_call {post : Option Value → pw_A → pw_C → Prop} {a9 : Array Value} {mc ms : Nat} (hr : va_Run p l e R s m args below meth c H locs cells slots mc ms (F0 m pc ls st0) rest (pw_Q D cl ad C post (pw_dom ad C H.size) a9) (pw_dom ad C H.size)) (hw : pw_H D cl A H0 a0 c0 ad C H locs) (hA : ∀ q, H0.size ≤ q → A q)
    (kk : ∀ (v : Option Value) (ad' : pw_A) (C' : pw_C) (H1 : Heap) (locs1 : List Loc), post v ad' C' → pw_H D cl A H0 a0 c0 ad' C' H1 locs1 → W p l e R s m args below meth c H1 locs1 (cells + mc) (slots + ms) Q (F0 m (pc + 3) ls (v.toList ++ rest))) : W p l e R s m args below meth c H locs cells slots Q (F0 m pc ls st0) := by
  intro T hT X
  obtain ⟨v, st₀, t, T', L, h0, X', hL, e1, e2, ⟨⟨v', ad', C', hv, hp, hW, hD, hR⟩, hz, hk⟩, st⟩ := hr T hT X
  cases hv
  rw [h0] at hz hk
  have hf := hw.free hA
  obtain ⟨t2, a1, b1⟩ := kk v ad' C' T'.heap (locs ++ L) hp ⟨by rw [e1]; exact hW, fun x y f hf9 => ⟨fun h5 => hf _ (hD x y f hf9 h5), fun h5 => by
      obtain ⟨r1, r2⟩ := hR x y h5
      rw [r2]
      exact (hw.2.1 x y f (by rw [← r1]; exact hf9)).2 h5⟩, ⟨Nat.le_trans hw.2.2.1.1 (by rw [e1]; exact hz), fun q h1 h2 => by
      rw [e1, hk q (Nat.lt_of_lt_of_le h1 hw.2.2.1.1) (fun z => h2 (hf q z))]; exact hw.2.2.1.2.1 q h1 h2, fun q hq => by
      rcases List.mem_append.mp hq with h | h
      · exact hw.2.2.1.2.2 q h
      · exact hf _ (hL q h)⟩, fun x y h5 => ⟨(hR x y h5).1.trans (hw.2.2.2 x y h5).1, (hR x y h5).2.trans (hw.2.2.2 x y h5).2⟩⟩ T' rfl X'
  exact ⟨t2, st t2 a1, b1⟩
theorem pw_get (hexec : p.tables.exec = Jvm.exec) (hb : c.code = cc) {own ref Cn : String} {T : u_T} {N ci index : Nat} {Ts : List Cond} (hts : ∀ w ∈ Ts, w.before args s = true) (hin : ∀ w ∈ u_ws Cn T N, w ∈ Ts) (hown : s.vm.findClass own = some m.cls) (hK : pw_K D cl tys s) (hw : pw_H D cl A H0 a0 c0 ad C H locs) (x y : Nat) (ha : ad x y = a) {fs : List Value} (he : C x y = some (.inr (ci, fs))) (hc : cl[ci]? = some (Cn, T, N)) (k : Nat) (hk : k < N) (hlink : (Cond.fieldLink own index ref (T k).2.1 (T k).2.2.1).before args s = true) (hsame : ∀ x, s.fieldFound? (T k).1 (T k).2.1 (T k).2.2.1 = some x → s.fieldFound? ref (T k).2.1 (T k).2.2.1 = some x) {v : Value} (hv : fs[k]? = some v) (hdg : decode cc pc = .ok (.getfield index, 3))
    (kk : W p l e R s m args below meth c H locs cells slots Q (F0 m (pc + 3) ls (v :: rest))) (h5 : x < 50 ∨ k < 2 := by first | exact Or.inl (by decide) | exact Or.inr (by decide) | exact Or.inl (by assumption) | exact Or.inl (by omega)) : W p l e R s m args below meth c H locs cells slots Q (F0 m pc ls (.ref a :: rest)) := by
  subst ha
  by_cases h50 : x < 50
  · exact va_get hexec hb hts hin hown hK.1 (hw.one h50 he) 0 rfl hc k hk hlink hsame hv hdg kk
  · obtain ⟨r, cell, g0, g1, g2, g3, g4, g5⟩ := (hw.1.1 x y _ he).2 h50
    obtain ⟨hS, hfc, kC, hkC, hkind⟩ := hK.1.1 ci _ hc
    obtain ⟨cf, kf, fi, f, hi, hsl⟩ := hS k hk
    refine W.getf hexec hb hown hlink (hsame _ hi) (u_facts hfc hkC (u_lays hts hin hk) hi).1 g1 g3 (v := v) ?_ rfl rfl hdg kk
    rw [hsl, g5 k (by omega)]
    simp [vp_V, hv]
theorem pw_put (hexec : p.tables.exec = Jvm.exec) (hb : c.code = cc) {own ref Cn : String} {T : u_T} {N ci index : Nat} {Ts : List Cond} (hts : ∀ w ∈ Ts, w.before args s = true) (hin : ∀ w ∈ u_ws Cn T N, w ∈ Ts) (ty0 : Nat → FieldType) (hty : ∀ k, k < N → parseFieldDescriptor (T k).2.2.1 = some (ty0 k)) (hnm : ∀ a, a < N → ∀ b, b < N → a ≠ b → (T a).2.1 ≠ (T b).2.1) (hown : s.vm.findClass own = some m.cls) (hK : pw_K D cl tys s) (hw : pw_H D cl A H0 a0 c0 ad C H locs) (x y : Nat) (hx5 : x < 50) (ha : ad x y = a) {fs : List Value} (he : C x y = some (.inr (ci, fs))) (hc : cl[ci]? = some (Cn, T, N)) (k : Nat) (hk : k < N) (hlink : (Cond.fieldLink own index ref (T k).2.1 (T k).2.2.1).before args s = true) (hsame : ∀ x, s.fieldFound? (T k).1 (T k).2.1 (T k).2.2.1 = some x → s.fieldFound? ref (T k).2.1 (T k).2.2.1 = some x) (hfin : (T k).2.2.2 = false) {ty : FieldType} {v : Value} (hd : parseFieldDescriptor (T k).2.2.1 = some ty) (hn : narrow ty v = v) (hfit : fits ty v = true) (hl : k < fs.length)
    (hdg : decode cc pc = .ok (.putfield index, 3)) (kk : ∀ (H1 : Heap) (locs1 : List Loc), pw_H D cl A H0 a0 c0 ad (pw_up C x y (some (.inr (ci, fs.set k v)))) H1 locs1 → W p l e R s m args below meth c H1 locs1 cells slots Q (F0 m (pc + 3) ls rest)) : W p l e R s m args below meth c H locs cells slots Q (F0 m pc ls (v :: .ref a :: rest)) := by
  subst ha
  obtain ⟨ws, hL, hP, hD⟩ := pw_list hw
  obtain ⟨k9, hk9⟩ := hL.2 x y _ hx5 he
  exact va_put hexec hb hts hin ty0 hty hnm hown hK.1 hP hD hw.2.2.1 k9 hk9 hc k hk hlink hsame hfin hd hn hfit hl hdg (fun H1 locs1 hP1 hD1 hS1 => kk H1 locs1 (pw_set hw hL hD hx5 he hk9 hP1 hS1))
theorem pw_putF (hexec : p.tables.exec = Jvm.exec) (hb : c.code = cc) {own ref Cn : String} {T : u_T} {N ci index : Nat} {Ts : List Cond} (hts : ∀ w ∈ Ts, w.before args s = true) (hin : ∀ w ∈ u_ws Cn T N, w ∈ Ts) (ty0 : Nat → FieldType) (hty : ∀ k, k < N → parseFieldDescriptor (T k).2.2.1 = some (ty0 k)) (hnm : ∀ a, a < N → ∀ b, b < N → a ≠ b → (T a).2.1 ≠ (T b).2.1) (hown : s.vm.findClass own = some m.cls) (hK : pw_K D cl tys s) (hw : pw_H D cl A H0 a0 c0 ad C H locs) (x y : Nat) (hx5 : x < 50) (ha : ad x y = a) {fs : List Value} (he : C x y = some (.inr (ci, fs))) (hc : cl[ci]? = some (Cn, T, N)) (k : Nat) (hk : k < N) (hlink : (Cond.fieldLink own index ref (T k).2.1 (T k).2.2.1).before args s = true) (hsame : ∀ x, s.fieldFound? (T k).1 (T k).2.1 (T k).2.2.1 = some x → s.fieldFound? ref (T k).2.1 (T k).2.2.1 = some x) (hfin : (T k).2.2.2 = true) (hin2 : meth.name = "<init>") (hdecl : (T k).1 = own) {ty : FieldType} {v : Value} (hd : parseFieldDescriptor (T k).2.2.1 = some ty) (hn : narrow ty v = v) (hfit : fits ty v = true) (hl : k < fs.length)
    (hdg : decode cc pc = .ok (.putfield index, 3)) (kk : ∀ (H1 : Heap) (locs1 : List Loc), pw_H D cl A H0 a0 c0 ad (pw_up C x y (some (.inr (ci, fs.set k v)))) H1 locs1 → W p l e R s m args below meth c H1 locs1 cells slots Q (F0 m (pc + 3) ls rest)) : W p l e R s m args below meth c H locs cells slots Q (F0 m pc ls (v :: .ref a :: rest)) := by
  subst ha
  obtain ⟨ws, hL, hP, hD⟩ := pw_list hw
  obtain ⟨k9, hk9⟩ := hL.2 x y _ hx5 he
  exact va_putF hexec hb hts hin ty0 hty hnm hown hK.1 hP hD hw.2.2.1 k9 hk9 hc k hk hlink hsame hfin hin2 hdecl hd hn hfit hl hdg (fun H1 locs1 hP1 hD1 hS1 => kk H1 locs1 (pw_set hw hL hD hx5 he hk9 hP1 hS1))
theorem pw_iald (hexec : p.tables.exec = Jvm.exec) (hb : c.code = cc) (hK : pw_K D cl tys s) (hw : pw_H D cl A H0 a0 c0 ad C H locs) (x y : Nat) (ha : ad x y = a) (t0 : Nat) {cA : ClassId} {n : Nat} {f : Nat → Int32} (he : C x y = some (.inl (cA, n, .inl f))) (ht : tys[t0]? = some (cA, .int)) {i : Int32} (j : Nat) (hi : i = nI j) (hj : j < n) (hjb : j < 2 ^ 31) (hdg : decode cc pc = .ok (.iaload, 1))
    (kk : W p l e R s m args below meth c H locs cells slots Q (F0 m (pc + 1) ls (.int (f j) :: rest))) : W p l e R s m args below meth c H locs cells slots Q (F0 m pc ls (.int i :: .ref a :: rest)) := by
  subst ha; subst hi
  by_cases h50 : x < 50
  · refine va_iald hexec hb hK.1 (hw.one h50 he) 0 t0 rfl ht (pw_in hj hjb) hdg ?_
    rw [nI_clamp hjb]
    exact kk
  · obtain ⟨cell, f9, g1, g2, g3, g4, g5, g6, g7⟩ := pw_ro hw hK h50 he ht
    cases g3
    have hin' : ¬ (nI j < 0 ∨ cell.slots.size ≤ (nI j).toNatClampNeg) := by
      rw [nI_clamp hjb]
      rintro (q | q)
      · exact nI_pos hjb q
      · have g5 : n ≤ cell.slots.size := g5
        omega
    exact W.iald (v := .int (f j)) hexec hb g1 g2 g4 hin' (by rw [nI_clamp hjb]; exact g7 j hj) rfl rfl hdg kk
theorem pw_bald (hexec : p.tables.exec = Jvm.exec) (hb : c.code = cc) (hK : pw_K D cl tys s) (hw : pw_H D cl A H0 a0 c0 ad C H locs) (x y : Nat) (ha : ad x y = a) (t0 : Nat) {cA : ClassId} {n : Nat} {f : Nat → Int32} (he : C x y = some (.inl (cA, n, .inl f))) (ht : tys[t0]? = some (cA, .byte)) {i : Int32} (j : Nat) (hi : i = nI j) (hj : j < n) (hjb : j < 2 ^ 31) (hdg : decode cc pc = .ok (.baload, 1))
    (kk : W p l e R s m args below meth c H locs cells slots Q (F0 m (pc + 1) ls (.int (f j) :: rest))) : W p l e R s m args below meth c H locs cells slots Q (F0 m pc ls (.int i :: .ref a :: rest)) := by
  subst ha; subst hi
  by_cases h50 : x < 50
  · refine va_bald hexec hb hK.1 (hw.one h50 he) 0 t0 rfl ht (pw_in hj hjb) hdg ?_
    rw [nI_clamp hjb]
    exact kk
  · obtain ⟨cell, f9, g1, g2, g3, g4, g5, g6, g7⟩ := pw_ro hw hK h50 he ht
    cases g3
    have hin' : ¬ (nI j < 0 ∨ cell.slots.size ≤ (nI j).toNatClampNeg) := by
      rw [nI_clamp hjb]
      rintro (q | q)
      · exact nI_pos hjb q
      · have g5 : n ≤ cell.slots.size := g5
        omega
    exact W.bald (v := .int (f j)) hexec hb g1 g2 g4 hin' (by rw [nI_clamp hjb]; exact g7 j hj) rfl rfl hdg kk
theorem pw_cald (hexec : p.tables.exec = Jvm.exec) (hb : c.code = cc) (hK : pw_K D cl tys s) (hw : pw_H D cl A H0 a0 c0 ad C H locs) (x y : Nat) (ha : ad x y = a) (t0 : Nat) {cA : ClassId} {n : Nat} {f : Nat → Int32} (he : C x y = some (.inl (cA, n, .inl f))) (ht : tys[t0]? = some (cA, .char)) {i : Int32} (j : Nat) (hi : i = nI j) (hj : j < n) (hjb : j < 2 ^ 31) (hdg : decode cc pc = .ok (.caload, 1))
    (kk : W p l e R s m args below meth c H locs cells slots Q (F0 m (pc + 1) ls (.int (f j) :: rest))) (h5 : x < 50 := by first | decide | assumption | omega) : W p l e R s m args below meth c H locs cells slots Q (F0 m pc ls (.int i :: .ref a :: rest)) := by
  subst ha; subst hi
  refine va_cald hexec hb hK.1 (hw.one h5 he) 0 t0 rfl ht (pw_in hj hjb) hdg ?_
  rw [nI_clamp hjb]
  exact kk
theorem pw_zald (hexec : p.tables.exec = Jvm.exec) (hb : c.code = cc) (hK : pw_K D cl tys s) (hw : pw_H D cl A H0 a0 c0 ad C H locs) (x y : Nat) (ha : ad x y = a) (t0 : Nat) {cA : ClassId} {n : Nat} {f : Nat → Int32} (he : C x y = some (.inl (cA, n, .inl f))) (ht : tys[t0]? = some (cA, .boolean)) {i : Int32} (j : Nat) (hi : i = nI j) (hj : j < n) (hjb : j < 2 ^ 31) (hdg : decode cc pc = .ok (.baload, 1))
    (kk : W p l e R s m args below meth c H locs cells slots Q (F0 m (pc + 1) ls (.int (f j) :: rest))) (h5 : x < 50 := by first | decide | assumption | omega) : W p l e R s m args below meth c H locs cells slots Q (F0 m pc ls (.int i :: .ref a :: rest)) := by
  subst ha; subst hi
  refine va_zald hexec hb hK.1 (hw.one h5 he) 0 t0 rfl ht (pw_in hj hjb) hdg ?_
  rw [nI_clamp hjb]
  exact kk
theorem pw_lald (hexec : p.tables.exec = Jvm.exec) (hb : c.code = cc) (hK : pw_K D cl tys s) (hw : pw_H D cl A H0 a0 c0 ad C H locs) (x y : Nat) (ha : ad x y = a) (t0 : Nat) {cA : ClassId} {n : Nat} {f : Nat → Int64} (he : C x y = some (.inl (cA, n, .inr (.inl f)))) (ht : tys[t0]? = some (cA, .long)) {i : Int32} (j : Nat) (hi : i = nI j) (hj : j < n) (hjb : j < 2 ^ 31) (hdg : decode cc pc = .ok (.laload, 1))
    (kk : W p l e R s m args below meth c H locs cells slots Q (F0 m (pc + 1) ls (.long (f j) :: rest))) (h5 : x < 50 := by first | decide | assumption | omega) : W p l e R s m args below meth c H locs cells slots Q (F0 m pc ls (.int i :: .ref a :: rest)) := by
  subst ha; subst hi
  refine va_lald hexec hb hK.1 (hw.one h5 he) 0 t0 rfl ht (pw_in hj hjb) hdg ?_
  rw [nI_clamp hjb]
  exact kk
theorem pw_aald (hexec : p.tables.exec = Jvm.exec) (hb : c.code = cc) (hK : pw_K D cl tys s) (hw : pw_H D cl A H0 a0 c0 ad C H locs) (x y : Nat) (ha : ad x y = a) (t0 : Nat) {cA : ClassId} {Cn : String} {n : Nat} {f : Nat → Option Nat} (he : C x y = some (.inl (cA, n, .inr (.inr (.inr (.inr f)))))) (ht : tys[t0]? = some (cA, .object Cn)) {i : Int32} (j : Nat) (hi : i = nI j) (hj : j < n) (hjb : j < 2 ^ 31) (hdg : decode cc pc = .ok (.aaload, 1))
    (kk : W p l e R s m args below meth c H locs cells slots Q (F0 m (pc + 1) ls (va_rf (f j) :: rest))) (h5 : x < 50 := by first | decide | assumption | omega) : W p l e R s m args below meth c H locs cells slots Q (F0 m pc ls (.int i :: .ref a :: rest)) := by
  subst ha; subst hi
  refine va_aldq hexec hb hK.1 (hw.one h5 he) 0 t0 rfl ht (pw_in hj hjb) hdg ?_
  rw [nI_clamp hjb]
  exact kk
theorem pw_alen (hexec : p.tables.exec = Jvm.exec) (hb : c.code = cc) (hK : pw_K D cl tys s) (hw : pw_H D cl A H0 a0 c0 ad C H locs) (x y : Nat) (ha : ad x y = a) (t0 : Nat) {cA : ClassId} {z : vp_A} (he : C x y = some (.inl (cA, z))) {ty : FieldType} (ht : tys[t0]? = some (cA, ty)) (hdg : decode cc pc = .ok (.arraylength, 1))
    (kk : W p l e R s m args below meth c H locs cells slots Q (F0 m (pc + 1) ls (.int (nI z.1) :: rest))) : W p l e R s m args below meth c H locs cells slots Q (F0 m pc ls (.ref a :: rest)) := by
  subst ha
  by_cases h50 : x < 50
  · exact va_alen (v := nI z.1) hexec hb hK.1 (hw.one h50 he) 0 t0 rfl ht rfl hdg kk
  · obtain ⟨cell, f9, g1, g2, g3, g4, g5, g6, g7⟩ := pw_ro hw hK h50 he ht
    exact W.alen (n := nI z.1) hexec hb g1 g2 g6 rfl rfl hdg kk
theorem pw_iast (hexec : p.tables.exec = Jvm.exec) (hb : c.code = cc) (hK : pw_K D cl tys s) (hw : pw_H D cl A H0 a0 c0 ad C H locs) (x y : Nat) (ha : ad x y = a) (t0 : Nat) {cA : ClassId} {n : Nat} {f : Nat → Int32} (he : C x y = some (.inl (cA, n, .inl f))) (ht : tys[t0]? = some (cA, .int)) {i : Int32} {v : Int32} (hx5 : x < 50) (j : Nat) (hi : i = nI j) (hj : j < n) (hjb : j < 2 ^ 31) (hdg : decode cc pc = .ok (.iastore, 1))
    (kk : ∀ (H1 : Heap) (locs1 : List Loc), pw_H D cl A H0 a0 c0 ad (pw_up C x y (some (.inl (cA, n, .inl (upd f j v))))) H1 locs1 → W p l e R s m args below meth c H1 locs1 cells slots Q (F0 m (pc + 1) ls rest)) : W p l e R s m args below meth c H locs cells slots Q (F0 m pc ls (.int v :: .int i :: .ref a :: rest)) := by
  subst ha; subst hi
  obtain ⟨ws, hL, hP, hD⟩ := pw_list hw
  obtain ⟨k9, hk9⟩ := hL.2 x y _ hx5 he
  refine va_iast hexec hb hK.1 hP hD hw.2.2.1 k9 t0 hk9 ht (pw_in hj hjb) hdg (fun H1 locs1 hP1 hD1 hS1 => kk H1 locs1 (pw_set hw hL hD hx5 he hk9 ?_ hS1))
  rw [nI_clamp hjb] at hP1
  exact hP1
theorem pw_bast (hexec : p.tables.exec = Jvm.exec) (hb : c.code = cc) (hK : pw_K D cl tys s) (hw : pw_H D cl A H0 a0 c0 ad C H locs) (x y : Nat) (ha : ad x y = a) (t0 : Nat) {cA : ClassId} {n : Nat} {f : Nat → Int32} (he : C x y = some (.inl (cA, n, .inl f))) (ht : tys[t0]? = some (cA, .byte)) {i : Int32} {v : Int32} (hx5 : x < 50) (j : Nat) (hi : i = nI j) (hj : j < n) (hjb : j < 2 ^ 31) (hdg : decode cc pc = .ok (.bastore, 1))
    (kk : ∀ (H1 : Heap) (locs1 : List Loc), pw_H D cl A H0 a0 c0 ad (pw_up C x y (some (.inl (cA, n, .inl (upd f j (vp_nar .byte v)))))) H1 locs1 → W p l e R s m args below meth c H1 locs1 cells slots Q (F0 m (pc + 1) ls rest)) : W p l e R s m args below meth c H locs cells slots Q (F0 m pc ls (.int v :: .int i :: .ref a :: rest)) := by
  subst ha; subst hi
  obtain ⟨ws, hL, hP, hD⟩ := pw_list hw
  obtain ⟨k9, hk9⟩ := hL.2 x y _ hx5 he
  refine va_bast hexec hb hK.1 hP hD hw.2.2.1 k9 t0 hk9 ht (pw_in hj hjb) hdg (fun H1 locs1 hP1 hD1 hS1 => kk H1 locs1 (pw_set hw hL hD hx5 he hk9 ?_ hS1))
  rw [nI_clamp hjb] at hP1
  exact hP1
theorem pw_cast (hexec : p.tables.exec = Jvm.exec) (hb : c.code = cc) (hK : pw_K D cl tys s) (hw : pw_H D cl A H0 a0 c0 ad C H locs) (x y : Nat) (ha : ad x y = a) (t0 : Nat) {cA : ClassId} {n : Nat} {f : Nat → Int32} (he : C x y = some (.inl (cA, n, .inl f))) (ht : tys[t0]? = some (cA, .char)) {i : Int32} {v : Int32} (hx5 : x < 50) (j : Nat) (hi : i = nI j) (hj : j < n) (hjb : j < 2 ^ 31) (hdg : decode cc pc = .ok (.castore, 1))
    (kk : ∀ (H1 : Heap) (locs1 : List Loc), pw_H D cl A H0 a0 c0 ad (pw_up C x y (some (.inl (cA, n, .inl (upd f j (vp_nar .char v)))))) H1 locs1 → W p l e R s m args below meth c H1 locs1 cells slots Q (F0 m (pc + 1) ls rest)) : W p l e R s m args below meth c H locs cells slots Q (F0 m pc ls (.int v :: .int i :: .ref a :: rest)) := by
  subst ha; subst hi
  obtain ⟨ws, hL, hP, hD⟩ := pw_list hw
  obtain ⟨k9, hk9⟩ := hL.2 x y _ hx5 he
  refine va_cast hexec hb hK.1 hP hD hw.2.2.1 k9 t0 hk9 ht (pw_in hj hjb) hdg (fun H1 locs1 hP1 hD1 hS1 => kk H1 locs1 (pw_set hw hL hD hx5 he hk9 ?_ hS1))
  rw [nI_clamp hjb] at hP1
  exact hP1
theorem pw_zast (hexec : p.tables.exec = Jvm.exec) (hb : c.code = cc) (hK : pw_K D cl tys s) (hw : pw_H D cl A H0 a0 c0 ad C H locs) (x y : Nat) (ha : ad x y = a) (t0 : Nat) {cA : ClassId} {n : Nat} {f : Nat → Int32} (he : C x y = some (.inl (cA, n, .inl f))) (ht : tys[t0]? = some (cA, .boolean)) {i : Int32} {v : Int32} (hx5 : x < 50) (j : Nat) (hi : i = nI j) (hj : j < n) (hjb : j < 2 ^ 31) (hdg : decode cc pc = .ok (.bastore, 1))
    (kk : ∀ (H1 : Heap) (locs1 : List Loc), pw_H D cl A H0 a0 c0 ad (pw_up C x y (some (.inl (cA, n, .inl (upd f j (vp_nar .boolean v)))))) H1 locs1 → W p l e R s m args below meth c H1 locs1 cells slots Q (F0 m (pc + 1) ls rest)) : W p l e R s m args below meth c H locs cells slots Q (F0 m pc ls (.int v :: .int i :: .ref a :: rest)) := by
  subst ha; subst hi
  obtain ⟨ws, hL, hP, hD⟩ := pw_list hw
  obtain ⟨k9, hk9⟩ := hL.2 x y _ hx5 he
  refine va_zast hexec hb hK.1 hP hD hw.2.2.1 k9 t0 hk9 ht (pw_in hj hjb) hdg (fun H1 locs1 hP1 hD1 hS1 => kk H1 locs1 (pw_set hw hL hD hx5 he hk9 ?_ hS1))
  rw [nI_clamp hjb] at hP1
  exact hP1
theorem pw_last (hexec : p.tables.exec = Jvm.exec) (hb : c.code = cc) (hK : pw_K D cl tys s) (hw : pw_H D cl A H0 a0 c0 ad C H locs) (x y : Nat) (ha : ad x y = a) (t0 : Nat) {cA : ClassId} {n : Nat} {f : Nat → Int64} (he : C x y = some (.inl (cA, n, .inr (.inl f)))) (ht : tys[t0]? = some (cA, .long)) {i : Int32} {v : Int64} (hx5 : x < 50) (j : Nat) (hi : i = nI j) (hj : j < n) (hjb : j < 2 ^ 31) (hdg : decode cc pc = .ok (.lastore, 1))
    (kk : ∀ (H1 : Heap) (locs1 : List Loc), pw_H D cl A H0 a0 c0 ad (pw_up C x y (some (.inl (cA, n, .inr (.inl (vp_updL f j v)))))) H1 locs1 → W p l e R s m args below meth c H1 locs1 cells slots Q (F0 m (pc + 1) ls rest)) : W p l e R s m args below meth c H locs cells slots Q (F0 m pc ls (.long v :: .int i :: .ref a :: rest)) := by
  subst ha; subst hi
  obtain ⟨ws, hL, hP, hD⟩ := pw_list hw
  obtain ⟨k9, hk9⟩ := hL.2 x y _ hx5 he
  refine va_last hexec hb hK.1 hP hD hw.2.2.1 k9 t0 hk9 ht (pw_in hj hjb) hdg (fun H1 locs1 hP1 hD1 hS1 => kk H1 locs1 (pw_set hw hL hD hx5 he hk9 ?_ hS1))
  rw [nI_clamp hjb] at hP1
  exact hP1
theorem pw_aast (hexec : p.tables.exec = Jvm.exec) (hb : c.code = cc) (hK : pw_K D cl tys s) (hw : pw_H D cl A H0 a0 c0 ad C H locs) (x y : Nat) (ha : ad x y = a) (t0 : Nat) {cA : ClassId} {n b ci : Nat} {r : vw_C} {f : Nat → Option Nat} (he : C x y = some (.inl (cA, n, .inr (.inr (.inr (.inr f)))))) (ht : tys[t0]? = some (cA, .object r.1)) (x2 y2 : Nat) (hb2 : ad x2 y2 = b) {fs : List Value} (he2 : C x2 y2 = some (.inr (ci, fs))) (hc : cl[ci]? = some r) {i : Int32} (hx5 : x < 50) (hx52 : x2 < 50) (j : Nat) (hi : i = nI j) (hj : j < n) (hjb : j < 2 ^ 31) (hdg : decode cc pc = .ok (.aastore, 1))
    (kk : ∀ (H1 : Heap) (locs1 : List Loc), pw_H D cl A H0 a0 c0 ad (pw_up C x y (some (.inl (cA, n, .inr (.inr (.inr (.inr (va_up f j (some b)))))))) ) H1 locs1 → W p l e R s m args below meth c H1 locs1 cells slots Q (F0 m (pc + 1) ls rest)) : W p l e R s m args below meth c H locs cells slots Q (F0 m pc ls (.ref b :: .int i :: .ref a :: rest)) := by
  subst ha; subst hi; subst hb2
  obtain ⟨ws, hL, hP, hD⟩ := pw_list hw
  obtain ⟨k9, hk9⟩ := hL.2 x y _ hx5 he
  obtain ⟨k8, hk8⟩ := hL.2 x2 y2 _ hx52 he2
  refine va_astq hexec hb hK.1 hP hD hw.2.2.1 k9 t0 k8 ci hk9 ht hk8 hc (pw_in hj hjb) hdg (fun H1 locs1 hP1 hD1 hS1 => kk H1 locs1 (pw_set hw hL hD hx5 he hk9 ?_ hS1))
  rw [nI_clamp hjb] at hP1
  exact hP1
theorem pw_new {cx : Code} (hexec : p.tables.exec = Jvm.exec) (hb : cx.code = cc) {own Cn : String} {T : u_T} {N ci index : Nat} {Ts : List Cond} (hts : ∀ w ∈ Ts, w.before args s = true) (hin : ∀ w ∈ u_ws Cn T N, w ∈ Ts) (ty : Nat → FieldType) (hty : ∀ k, k < N → parseFieldDescriptor (T k).2.2.1 = some (ty k)) (hown : s.vm.findClass own = some m.cls) (hcl : (Cond.classLink own index Cn).before args s = true) (hinst : (Cond.instantiable Cn N).before args s = true) (hini : (Cond.initialized Cn).before args s = true)
    (hK : pw_K D cl tys s) (hw : pw_H D cl A H0 a0 c0 ad C H locs) (hA : ∀ q, H0.size ≤ q → A q) (x y : Nat) (hx5 : x < 50) (hn : C x y = none) (hc : cl[ci]? = some (Cn, T, N)) {fs : List Value} (hfs : ∀ j, j < N → defaultValue (ty j) = vp_V fs j) (hcells : cells + 1 ≤ R.cells) (hslots : slots + N ≤ R.slots) (hdg : decode cc pc = .ok (.new index, 3))
    (kk : ∀ (q : Nat) (H1 : Heap), pw_H D cl A H0 a0 c0 (pw_up ad x y q) (pw_up C x y (some (.inr (ci, fs)))) H1 locs →
      W p l e R s m args below meth cx H1 locs (cells + 1) (slots + N) Q (F0 m (pc + 3) ls (.ref q :: rest))) : W p l e R s m args below meth cx H locs cells slots Q (F0 m pc ls rest) := by
  obtain ⟨ws, hL, hP, hD⟩ := pw_list hw
  exact va_new hexec hb hts hin ty hty hown hcl hinst hini hK.1 hP hD hw.2.2.1 hA hc hfs hcells hslots hdg (fun q H1 hP1 hD1 hS1 => kk q H1 (pw_push hw hL hx5 hn hP1 hD1 hS1))
theorem pw_newa (hexec : p.tables.exec = Jvm.exec) (hb : c.code = cc) {atype : ArrayType} (harr : (Cond.arrayClass (newarray.typeOf atype)).before args s = true) {ty : FieldType} (hty : newarray.typeOf atype = ty) (hnr : ∀ t, ty ≠ .object t) (hK : pw_K D cl tys s) (hw : pw_H D cl A H0 a0 c0 ad C H locs) (hA : ∀ q, H0.size ≤ q → A q) (x y : Nat) (hx5 : x < 50) (hno : C x y = none) (t0 : Nat) {cA : ClassId} (ht : tys[t0]? = some (cA, ty))
    {n : Int32} {N' : Nat} {az : vp_A} (ha : ∀ cA : ClassId, vp_cell cA az = arrV cA N' (fun _ => defaultValue ty)) (hN : n = nI N') (hNb : N' < 2 ^ 31) (hbytes : N' * componentBytes ty ≤ 536870912) (hcells : cells + 1 ≤ R.cells) (hslots : slots + N' ≤ R.slots) (hdg : decode cc pc = .ok (.newarray atype, 2))
    (kk : ∀ (q : Nat) (H1 : Heap), pw_H D cl A H0 a0 c0 (pw_up ad x y q) (pw_up C x y (some (.inl (cA, az)))) H1 locs →
      W p l e R s m args below meth c H1 locs (cells + 1) (slots + N') Q (F0 m (pc + 2) ls (.ref q :: rest))) : W p l e R s m args below meth c H locs cells slots Q (F0 m pc ls (.int n :: rest)) := by
  obtain ⟨ws, hL, hP, hD⟩ := pw_list hw
  obtain ⟨hn0, hn1⟩ := pw_clamp0 hN hNb
  refine va_newa hexec hb harr hty hK.1 hP hD hw.2.2.1 hA ha hn0 hn1 hbytes hcells hslots hdg (fun q cB H1 hK1 hP1 hD1 hS1 => ?_)
  have e1 := (hK1.2 tys.length (cB, ty) (by rw [List.getElem?_append_right (Nat.le_refl _), Nat.sub_self]; rfl)).2
  have e2 := (hK.1.2 t0 _ ht).2
  have e3 : cB = cA := by
    cases ty with
    | object t => exact absurd rfl (hnr t)
    | _ => exact Option.some.inj (Eq.trans (Eq.symm e1) e2)
  subst e3
  exact kk q H1 (pw_push hw hL hx5 hno hP1 hD1 hS1)
theorem pw_newq (hexec : p.tables.exec = Jvm.exec) (hb : c.code = cc) {own Cn : String} {index : Nat} (hown : s.vm.findClass own = some m.cls) (hclink : (Cond.classLink own index Cn).before args s = true) (hover : va_AO Cn s) (hK : pw_K D cl tys s) (hw : pw_H D cl A H0 a0 c0 ad C H locs) (hA : ∀ q, H0.size ≤ q → A q) (x y : Nat) (hx5 : x < 50) (hno : C x y = none) (t0 : Nat) {cA : ClassId} (ht : tys[t0]? = some (cA, .object Cn))
    {n : Int32} {N' : Nat} (hN : n = nI N') (hNb : N' < 2 ^ 31) (hbytes : N' * 4 ≤ 536870912) (hcells : cells + 1 ≤ R.cells) (hslots : slots + N' ≤ R.slots) (hdg : decode cc pc = .ok (.anewarray index, 3))
    (kk : ∀ (q : Nat) (H1 : Heap), pw_H D cl A H0 a0 c0 (pw_up ad x y q) (pw_up C x y (some (.inl (cA, N', .inr (.inr (.inr (.inr (fun _ => none)))))))) H1 locs →
      W p l e R s m args below meth c H1 locs (cells + 1) (slots + N') Q (F0 m (pc + 3) ls (.ref q :: rest))) : W p l e R s m args below meth c H locs cells slots Q (F0 m pc ls (.int n :: rest)) := by
  obtain ⟨ws, hL, hP, hD⟩ := pw_list hw
  obtain ⟨hn0, hn1⟩ := pw_clamp0 hN hNb
  refine va_newq hexec hb hown hclink hover hK.1 hP hD hw.2.2.1 hA hn0 hn1 hbytes hcells hslots hdg (fun q cB H1 hK1 hP1 hD1 hS1 => ?_)
  obtain ⟨_, _, _, _, _, e1⟩ := (hK1.2 tys.length (cB, .object Cn) (by rw [List.getElem?_append_right (Nat.le_refl _), Nat.sub_self]; rfl)).2
  obtain ⟨_, _, _, _, _, e2⟩ := (hK.1.2 t0 _ ht).2
  have e3 : cB = cA := Option.some.inj (e1.symm.trans e2)
  subst e3
  exact kk q H1 (pw_push hw hL hx5 hno hP1 hD1 hS1)
theorem pw_copyi (hexec : p.tables.exec = Jvm.exec) (hb : c.code = cc) (hml : c.maxLocals = ls.size) {own : String} {index : Nat} (hown : s.vm.findClass own = some m.cls) (hlink : (Cond.methodLink own index arraycopyName).before args s = true) (hnat : (Cond.native arraycopyName).before args s = true) (hstat : (Cond.static arraycopyName).before args s = true) (hini : (Cond.initialized "java/lang/System").before args s = true)
    (hK : pw_K D cl tys s) (hw : pw_H D cl A H0 a0 c0 ad C H locs) (x0 y0 x1 y1 : Nat) (hx50 : x0 < 50) (hx5 : x1 < 50) {a9 : Nat} (hb0 : ad x0 y0 = a9) (hb1 : ad x1 y1 = a) (t0 t1 : Nat) {cy cz : ClassId} {n0 n1 : Nat} {f g : Nat → Int32} {ty : FieldType} (he0 : C x0 y0 = some (.inl (cy, n0, .inl f))) (he1 : C x1 y1 = some (.inl (cz, n1, .inl g))) (ht0 : tys[t0]? = some (cy, ty)) (ht1 : tys[t1]? = some (cz, ty)) (hprim : refKind ty = false)
    {sp dp n : Int32} (jsp jdp jn : Nat) (h1 : sp = nI jsp) (h2 : dp = nI jdp) (h3 : n = nI jn) (h4 : jsp + jn ≤ n0) (h5 : jdp + jn ≤ n1) (hb9 : n0 < 2 ^ 31 ∧ n1 < 2 ^ 31) (hfit : ∀ i, i < jn → fits ty (.int (f (jsp + i))) = true)
    (hframes : 1 ≤ R.frames) (hlocals : (rest.map fun v => v.category).sum + (nativeFrameWords "java/lang/System" "arraycopy" 5 + 11) ≤ R.locals) (hdg : decode cc pc = .ok (.invokestatic index, 3))
    (kk : ∀ (H1 : Heap) (locs1 : List Loc), pw_H D cl A H0 a0 c0 ad (pw_up C x1 y1 (some (.inl (cz, n1, .inl (va_cpy f g jsp jdp jn))))) H1 locs1 → W p l e R s m args below meth c H1 locs1 cells slots Q (F0 m (pc + 3) ls rest)) : W p l e R s m args below meth c H locs cells slots Q (F0 m pc ls (.int n :: .int dp :: .ref a :: .int sp :: .ref a9 :: rest)) := by
  subst hb0; subst hb1
  obtain ⟨ws, hL, hP, hD⟩ := pw_list hw
  obtain ⟨k8, hk8⟩ := hL.2 x0 y0 _ hx50 he0
  obtain ⟨k9, hk9⟩ := hL.2 x1 y1 _ hx5 he1
  obtain ⟨s1, s2⟩ := pw_clamp0 h1 (by omega)
  obtain ⟨d1, d2⟩ := pw_clamp0 h2 (by omega)
  obtain ⟨m1, m2⟩ := pw_clamp0 h3 (by omega)
  refine va_copyi hexec hb hml hown hlink hnat hstat hini hK.1 hP hD hw.2.2.1 k8 k9 t0 t1 hk8 hk9 ht0 ht1 hprim s1 d1 m1 (by rw [s2, m2]; exact h4) (by rw [d2, m2]; exact h5) (by rw [s2, m2]; exact hfit) hframes hlocals hdg (fun H1 locs1 hP1 hD1 hS1 => kk H1 locs1 (pw_set hw hL hD hx5 he1 hk9 ?_ hS1))
  rw [s2, d2, m2] at hP1
  exact hP1
end PW
/-! answers -/
def pw_pi (post : Int32 → pw_A → pw_C → Prop) : Option Value → pw_A → pw_C → Prop := fun v a c => ∃ r : Int32, v = some (.int r) ∧ post r a c
def pw_pl (post : Int64 → pw_A → pw_C → Prop) : Option Value → pw_A → pw_C → Prop := fun v a c => ∃ r : Int64, v = some (.long r) ∧ post r a c
def pw_pv (post : pw_A → pw_C → Prop) : Option Value → pw_A → pw_C → Prop := fun v a c => v = none ∧ post a c
def pw_pr (post : Nat → pw_A → pw_C → Prop) : Option Value → pw_A → pw_C → Prop := fun v a c => ∃ r : Nat, v = some (.ref r) ∧ post r a c
section PWE
variable {p : Program} {l : Launch} {e : Env} {R : Room} {s : State} {m : MethodId} {args : Array Value} {below : List Frame} {meth : Method} {c : Code} {H : Heap} {locs : List Loc} {cells slots : Nat} {Q : State → Prop}
variable {cc : ByteArray} {pc : Nat} {ls : Array Slot} {rest st0 : List Value} {D : va_G} {cl : List vw_C} {A : Nat → Prop} {tys : List (ClassId × FieldType)} {H0 : Heap} {a0 ad : pw_A} {c0 C : pw_C} {a : Nat}
theorem pw_calli {post : Int32 → pw_A → pw_C → Prop} {a9 : Array Value} {mc ms : Nat} (hr : va_Run p l e R s m args below meth c H locs cells slots mc ms (F0 m pc ls st0) rest (pw_Q D cl ad C (pw_pi post) (pw_dom ad C H.size) a9) (pw_dom ad C H.size)) (hw : pw_H D cl A H0 a0 c0 ad C H locs) (hA : ∀ q, H0.size ≤ q → A q)
    (kk : ∀ (r : Int32) (ad' : pw_A) (C' : pw_C) (H1 : Heap) (locs1 : List Loc), post r ad' C' → pw_H D cl A H0 a0 c0 ad' C' H1 locs1 → W p l e R s m args below meth c H1 locs1 (cells + mc) (slots + ms) Q (F0 m (pc + 3) ls (.int r :: rest))) : W p l e R s m args below meth c H locs cells slots Q (F0 m pc ls st0) :=
  pw_call hr hw hA (fun v ad' C' H1 locs1 hp hw1 => by obtain ⟨r, rfl, hp⟩ := hp; exact kk r ad' C' H1 locs1 hp hw1)
theorem pw_calll {post : Int64 → pw_A → pw_C → Prop} {a9 : Array Value} {mc ms : Nat} (hr : va_Run p l e R s m args below meth c H locs cells slots mc ms (F0 m pc ls st0) rest (pw_Q D cl ad C (pw_pl post) (pw_dom ad C H.size) a9) (pw_dom ad C H.size)) (hw : pw_H D cl A H0 a0 c0 ad C H locs) (hA : ∀ q, H0.size ≤ q → A q)
    (kk : ∀ (r : Int64) (ad' : pw_A) (C' : pw_C) (H1 : Heap) (locs1 : List Loc), post r ad' C' → pw_H D cl A H0 a0 c0 ad' C' H1 locs1 → W p l e R s m args below meth c H1 locs1 (cells + mc) (slots + ms) Q (F0 m (pc + 3) ls (.long r :: rest))) : W p l e R s m args below meth c H locs cells slots Q (F0 m pc ls st0) :=
  pw_call hr hw hA (fun v ad' C' H1 locs1 hp hw1 => by obtain ⟨r, rfl, hp⟩ := hp; exact kk r ad' C' H1 locs1 hp hw1)
theorem pw_callv {post : pw_A → pw_C → Prop} {a9 : Array Value} {mc ms : Nat} (hr : va_Run p l e R s m args below meth c H locs cells slots mc ms (F0 m pc ls st0) rest (pw_Q D cl ad C (pw_pv post) (pw_dom ad C H.size) a9) (pw_dom ad C H.size)) (hw : pw_H D cl A H0 a0 c0 ad C H locs) (hA : ∀ q, H0.size ≤ q → A q)
    (kk : ∀ (ad' : pw_A) (C' : pw_C) (H1 : Heap) (locs1 : List Loc), post ad' C' → pw_H D cl A H0 a0 c0 ad' C' H1 locs1 → W p l e R s m args below meth c H1 locs1 (cells + mc) (slots + ms) Q (F0 m (pc + 3) ls rest)) : W p l e R s m args below meth c H locs cells slots Q (F0 m pc ls st0) :=
  pw_call hr hw hA (fun v ad' C' H1 locs1 hp hw1 => by obtain ⟨rfl, hp⟩ := hp; exact kk ad' C' H1 locs1 hp hw1)
theorem pw_callr {post : Nat → pw_A → pw_C → Prop} {a9 : Array Value} {mc ms : Nat} (hr : va_Run p l e R s m args below meth c H locs cells slots mc ms (F0 m pc ls st0) rest (pw_Q D cl ad C (pw_pr post) (pw_dom ad C H.size) a9) (pw_dom ad C H.size)) (hw : pw_H D cl A H0 a0 c0 ad C H locs) (hA : ∀ q, H0.size ≤ q → A q)
    (kk : ∀ (r : Nat) (ad' : pw_A) (C' : pw_C) (H1 : Heap) (locs1 : List Loc), post r ad' C' → pw_H D cl A H0 a0 c0 ad' C' H1 locs1 → W p l e R s m args below meth c H1 locs1 (cells + mc) (slots + ms) Q (F0 m (pc + 3) ls (.ref r :: rest))) : W p l e R s m args below meth c H locs cells slots Q (F0 m pc ls st0) :=
  pw_call hr hw hA (fun v ad' C' H1 locs1 hp hw1 => by obtain ⟨r, rfl, hp⟩ := hp; exact kk r ad' C' H1 locs1 hp hw1)
theorem pw_iret {post : Int32 → pw_A → pw_C → Prop} (hexec : p.tables.exec = Jvm.exec) (hb : c.code = cc) (hr : meth.sig.returnType = some .int) (hlocks : meth.locks = false) (hw : pw_H D cl A s.heap a0 c0 ad C H locs) {r : Int32} (hp : post r ad C) (hdg : decode cc pc = .ok (.ireturn, 1)) : W p l e R s m args below meth c H locs cells slots (MQ below (pw_Q D cl a0 c0 (pw_pi post) A) args s cells slots A) (F0 m pc ls [.int r]) :=
  W.iret (v := r) hexec hb hr (fun t ht hW => ⟨⟨some (.int r), ad, C, rfl, ⟨r, rfl, hp⟩, by rw [ht]; exact hw.1, fun x y e he h5 => (hw.2.1 x y e he).1 h5, hw.2.2.2⟩, hw.2.2.1.F ht⟩) hw.2.2.1.2.2 hdg
theorem pw_zret {post : Int32 → pw_A → pw_C → Prop} {ty : FieldType} (hexec : p.tables.exec = Jvm.exec) (hb : c.code = cc) (hr : meth.sig.returnType = some ty) (hlocks : meth.locks = false) (hw : pw_H D cl A s.heap a0 c0 ad C H locs) {r : Int32} (hn : narrow ty (.int r) = .int r) (hp : post r ad C) (hdg : decode cc pc = .ok (.ireturn, 1)) : W p l e R s m args below meth c H locs cells slots (MQ below (pw_Q D cl a0 c0 (pw_pi post) A) args s cells slots A) (F0 m pc ls [.int r]) :=
  W.zret (v := r) hexec hb hr hn (fun t ht hW => ⟨⟨some (.int r), ad, C, rfl, ⟨r, rfl, hp⟩, by rw [ht]; exact hw.1, fun x y e he h5 => (hw.2.1 x y e he).1 h5, hw.2.2.2⟩, hw.2.2.1.F ht⟩) hw.2.2.1.2.2 hdg
theorem pw_lret {post : Int64 → pw_A → pw_C → Prop} (hexec : p.tables.exec = Jvm.exec) (hb : c.code = cc) (hr : meth.sig.returnType = some .long) (hlocks : meth.locks = false) (hw : pw_H D cl A s.heap a0 c0 ad C H locs) {r : Int64} (hp : post r ad C) (hdg : decode cc pc = .ok (.lreturn, 1)) : W p l e R s m args below meth c H locs cells slots (MQ below (pw_Q D cl a0 c0 (pw_pl post) A) args s cells slots A) (F0 m pc ls [.long r]) :=
  W.lret (v := r) hexec hb hr (fun t ht hW => ⟨⟨some (.long r), ad, C, rfl, ⟨r, rfl, hp⟩, by rw [ht]; exact hw.1, fun x y e he h5 => (hw.2.1 x y e he).1 h5, hw.2.2.2⟩, hw.2.2.1.F ht⟩) hw.2.2.1.2.2 hdg
theorem pw_vret {post : pw_A → pw_C → Prop} (hexec : p.tables.exec = Jvm.exec) (hb : c.code = cc) (hr : meth.sig.returnType = none) (hlocks : meth.locks = false) (hw : pw_H D cl A s.heap a0 c0 ad C H locs) (hp : post ad C) (hdg : decode cc pc = .ok (.return_, 1)) : W p l e R s m args below meth c H locs cells slots (MQ below (pw_Q D cl a0 c0 (pw_pv post) A) args s cells slots A) (F0 m pc ls []) :=
  W.vret hexec hb hr (fun t ht hW => ⟨⟨none, ad, C, rfl, ⟨rfl, hp⟩, by rw [ht]; exact hw.1, fun x y e he h5 => (hw.2.1 x y e he).1 h5, hw.2.2.2⟩, hw.2.2.1.F ht⟩) hw.2.2.1.2.2 hdg
theorem pw_aret {post : Nat → pw_A → pw_C → Prop} {rt : FieldType} (hexec : p.tables.exec = Jvm.exec) (hb : c.code = cc) (hr : meth.sig.returnType = some rt) (hrt : (∃ n, rt = .object n) ∨ ∃ t, rt = .array t) (hlocks : meth.locks = false) (hw : pw_H D cl A s.heap a0 c0 ad C H locs) {r : Nat} (hp : post r ad C) (hdg : decode cc pc = .ok (.areturn, 1)) : W p l e R s m args below meth c H locs cells slots (MQ below (pw_Q D cl a0 c0 (pw_pr post) A) args s cells slots A) (F0 m pc ls [.ref r]) :=
  W.aret (v := .ref r) hexec hb hr hrt (Or.inr ⟨r, rfl⟩) (fun t ht hW => ⟨⟨some (.ref r), ad, C, rfl, ⟨r, rfl, hp⟩, by rw [ht]; exact hw.1, fun x y e he h5 => (hw.2.1 x y e he).1 h5, hw.2.2.2⟩, hw.2.2.1.F ht⟩) hw.2.2.1.2.2 hdg
end PWE
/-- what a body has at its entry -/
def pw_B (p : Program) (s : State) (m : MethodId) (args : Array Value) (meth : Method) (c : Code) (y : MethodName) (cc : ByteArray) (maxL : Nat) (ret : Option FieldType) (ws : List Cond) : Prop :=
  p.tables.exec = Jvm.exec ∧ c.code = cc ∧ meth.sig.returnType = ret ∧ c.maxLocals = maxL ∧ (∀ w ∈ ws, w.before args s = true) ∧ meth.locks = false ∧ s.vm.findClass y.cls = some m.cls ∧ meth.name = y.name
theorem pw_ofW {l : Launch} {y : MethodName} {ws ws' : List Cond} {rm : Room} {D : va_G} {cl : List vw_C} {tys : List (ClassId × FieldType)} {Z : (Nat → Prop) → State → Prop} {av : List Value} {ad : pw_A} {C : pw_C} {post : Option Value → pw_A → pw_C → Prop} {mc ms : Nat} {cc : ByteArray} {maxL : Nat} {ret : Option FieldType}
    (hy : plainName y.cls = true) (hws : ws = Cond.code y cc maxL ret :: ws') (hav : (lg_sl av).length ≤ maxL)
    (body : ∀ (p : Program) (e : Env) (s : State) (m : MethodId) (args : Array Value) (below : List Frame) (meth : Method) (c : Code) (A : Nat → Prop) (ls : Array Slot), pw_B p s m args meth c y cc maxL ret ws → (∀ q, s.heap.size ≤ q → A q) → pw_H D cl A s.heap ad C ad C s.heap [] → pw_K D cl tys s → Z A s → lv_has ls maxL (lv_args 0 av) →
      W p l e rm s m args below meth c s.heap [] 0 0 (MQ below (pw_Q D cl ad C post A) args s mc ms A) (F0 m 0 ls [])) : pw_Con l y ws rm D cl tys Z av ad C post mc ms := by
  intro sz
  refine Met.ofW (cc := cc) (maxL := maxL) (ret := ret) hy hws ?_
  intro p e s m args below meth c s₁ B hml hv
  obtain ⟨rfl, hsz, hP, hK, hz⟩ := hv
  subst hsz
  have hl := lv_entry av (n := maxL) hav
  rw [lg_entry_eq]
  exact body p e s m _ below meth c (pw_dom ad C s.heap.size) _ ⟨B.exec, B.bytes, B.returns, hml, atoms_spec (ws := ws) B.pre, B.notSynchronized, findClass_of_methodNamed B.named, (name_of_methodNamed B.named B.method).1⟩ pw_dom_new (pw_start hP) hK hz hl
/-- a contract's answer may be said otherwise -/
theorem pw_Con.post {l : Launch} {y : MethodName} {ws : List Cond} {rm : Room} {D : va_G} {cl : List vw_C} {tys : List (ClassId × FieldType)} {Z : (Nat → Prop) → State → Prop} {av : List Value} {ad : pw_A} {C : pw_C} {post post' : Option Value → pw_A → pw_C → Prop} {mc ms : Nat} (h : pw_Con l y ws rm D cl tys Z av ad C post mc ms) (hp : ∀ v a c, post v a c → post' v a c) : pw_Con l y ws rm D cl tys Z av ad C post' mc ms := by
  intro sz p e h1 h2 h3 s m args below h4 h5 h6 h7
  obtain ⟨n, o, g1, g2, g3, ⟨⟨⟨v, a', c', k1, k2, k3⟩, k4⟩, g5⟩⟩ := h sz p e h1 h2 h3 s m args below h4 h5 h6 h7
  exact ⟨n, o, g1, g2, g3, ⟨⟨⟨v, a', c', k1, hp v a' c' k2, k3⟩, k4⟩, g5⟩⟩
