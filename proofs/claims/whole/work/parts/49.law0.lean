/-! THE LAW -/
theorem pw_H.forget {D : va_G} {cl : List vw_C} {A : Nat → Prop} {H0 : Heap} {a0 ad : pw_A} {c0 C C1 : pw_C} {H : Heap} {locs : List Loc} (h : pw_H D cl A H0 a0 c0 ad C H locs) (hC : ∀ x y, C1 x y = C x y ∨ (x < 50 ∧ C1 x y = none)) : pw_H D cl A H0 a0 c0 ad C1 H locs := by
  have k : ∀ x y e, C1 x y = some e → C x y = some e := fun x y e he => by
    rcases hC x y with z | ⟨-, z⟩
    · rw [← z]; exact he
    · rw [z] at he; cases he
  obtain ⟨⟨g1, g2, Ls, g3⟩, g4, g5, g6⟩ := h
  refine ⟨⟨fun x y e he => g1 x y e (k x y e he), fun x y x' y' e e' h1 h2 => g2 x y x' y' e e' (k _ _ _ h1) (k _ _ _ h2), Ls, fun x y e he => g3 x y e (k x y e he)⟩, fun x y e he => g4 x y e (k x y e he), g5, fun x y h5 => ⟨?_, (g6 x y h5).2⟩⟩
  rcases hC x y with z | ⟨z, -⟩
  · exact z.trans (g6 x y h5).1
  · exact absurd z h5
theorem st_at.mv {ca : Nat → ClassId} {ad : pw_A} {C C1 : pw_C} {x y x2 y2 : Nat} {t : List Int32} (h : st_at ca ad C x y x2 y2 t) (h1 : C1 x y = C x y) (h2 : C1 x2 y2 = C x2 y2) : st_at ca ad C1 x y x2 y2 t := by
  obtain ⟨f, g1, g2, q1, q2, q3⟩ := h
  exact ⟨f, g1, g2, h1.trans q1, h2.trans q2, q3⟩
theorem gw_at.mv {ca : Nat → ClassId} {kS : Nat → Nat} {kT : Nat} {ad : pw_A} {C C1 : pw_C} {cd : Nat → Option DT} {mk : Nat} {td : Nat → TT} (h : gw_at ca kS kT ad C cd mk td) (hC : ∀ x y, (x < 3 ∨ (9 < x ∧ x < 17 ∧ ¬ cd y = none) ∨ (19 < x ∧ x < 25 ∧ y < mk) ∨ 49 < x) → C1 x y = C x y) : gw_at ca kS kT ad C1 cd mk td := by
  obtain ⟨h0, h1, h2, h3, h4, h5, h6, h7, h8⟩ := h
  refine ⟨(hC 0 0 (by omega)).trans h0, (hC 1 0 (by omega)).trans h1, (hC 2 0 (by omega)).trans h2, h3, fun k d hk => ?_, fun i hi => ?_, fun i hi => ?_, (hC 52 0 (by omega)).trans h7, h8⟩
  · obtain ⟨q0, q1, q2, q3, q4, q5, q6⟩ := h4 k d hk
    have hn : ¬ cd k = none := by rw [hk]; simp
    have z : ∀ x, 9 < x → x < 17 → C1 x k = C x k := fun x a b => hC x k (Or.inr (Or.inl ⟨a, b, hn⟩))
    exact ⟨q0, (z 10 (by omega) (by omega)).trans q1, (z 11 (by omega) (by omega)).trans q2, (z 12 (by omega) (by omega)).trans q3, (z 13 (by omega) (by omega)).trans q4, (z 14 (by omega) (by omega)).trans q5, q6.mv (z 15 (by omega) (by omega)) (z 16 (by omega) (by omega))⟩
  · obtain ⟨q1, q2, q3, q4, q5⟩ := h5 i hi
    exact ⟨(hC 20 i (by omega)).trans q1, (hC 21 i (by omega)).trans q2, (hC 22 i (by omega)).trans q3, q4, fun z => (q5 z).mv (hC 23 i (by omega)) (hC 24 i (by omega))⟩
  · exact ⟨(h6 i hi).1.mv (hC 50 i (by omega)) (hC 51 i (by omega)), (h6 i hi).2⟩
theorem os_at.mv2 {ca : Nat → ClassId} {ad ad1 : pw_A} {C C1 : pw_C} {bs : List Int32} {oc : Int32} {la : Nat → Int32} {hn : Int32} {w0 : List Int32} {wn : Nat} {sn : SN} (h : os_at ca ad C bs oc la hn w0 wn sn) (hC : ∀ x y, (2 < x ∧ x < 8) → C1 x y = C x y) (hA : ∀ x y, (2 < x ∧ x < 8) → ad1 x y = ad x y) : os_at ca ad1 C1 bs oc la hn w0 wn sn := by
  obtain ⟨by0, wt, h30, h40, h50, h60, h70, hr⟩ := h
  refine ⟨by0, wt, ?_, (hC 4 0 (by omega)).trans h40, (hC 5 0 (by omega)).trans h50, (hC 6 0 (by omega)).trans h60, (hC 7 0 (by omega)).trans h70, hr⟩
  rw [hA 4 0 (by omega), hA 5 0 (by omega), hA 6 0 (by omega), hA 7 0 (by omega)]
  exact (hC 3 0 (by omega)).trans h30
theorem rm_at.mv {ca : Nat → ClassId} {ad ad1 : pw_A} {C C1 : pw_C} {r : RS} (h : rm_at ca ad C r) (hC : ∀ x y, (x = 30 ∨ x = 31) → C1 x y = C x y) (hA : ∀ x y, x = 31 → ad1 x y = ad x y) : rm_at ca ad1 C1 r := by
  refine ⟨?_, (hC 31 0 (by omega)).trans h.a0, (hC 31 1 (by omega)).trans h.a1, (hC 31 2 (by omega)).trans h.a2, (hC 31 3 (by omega)).trans h.a3, (hC 31 4 (by omega)).trans h.a4, (hC 31 5 (by omega)).trans h.a5, (hC 31 6 (by omega)).trans h.a6, (hC 31 7 (by omega)).trans h.a7, (hC 31 8 (by omega)).trans h.a8, (hC 31 9 (by omega)).trans h.a9, (hC 31 10 (by omega)).trans h.a10, (hC 31 11 (by omega)).trans h.a11, (hC 31 12 (by omega)).trans h.a12, (hC 31 13 (by omega)).trans h.a13, (hC 31 14 (by omega)).trans h.a14, (hC 31 15 (by omega)).trans h.a15, (hC 31 16 (by omega)).trans h.a16, (hC 31 17 (by omega)).trans h.a17, (hC 31 18 (by omega)).trans h.a18, (hC 31 19 (by omega)).trans h.a19, (hC 31 20 (by omega)).trans h.a20, (hC 31 21 (by omega)).trans h.a21, (hC 31 22 (by omega)).trans h.a22⟩
  rw [hA 31 0 rfl, hA 31 1 rfl, hA 31 2 rfl, hA 31 3 rfl, hA 31 4 rfl, hA 31 5 rfl, hA 31 6 rfl, hA 31 7 rfl, hA 31 8 rfl, hA 31 9 rfl, hA 31 10 rfl, hA 31 11 rfl, hA 31 12 rfl, hA 31 13 rfl, hA 31 14 rfl, hA 31 15 rfl, hA 31 16 rfl, hA 31 17 rfl, hA 31 18 rfl, hA 31 19 rfl, hA 31 20 rfl, hA 31 21 rfl, hA 31 22 rfl]
  exact (hC 30 0 (by omega)).trans h.o
/-- what holds at the head of the law's loop -/
def lw_J (ca : Nat → ClassId) (kS : Nat → Nat) (kT : Nat) (ad : pw_A) (C : pw_C) (cd : Nat → Option DT) (mk : Nat) (td : Nat → TT) (x : ES) (q : List Int32) (sn : SN) (r : RS) : Prop := gw_at ca kS kT ad C cd mk td ∧ os_x ca ad C x q q.length sn ∧ rm_at ca ad C r ∧ LQ9 cd mk td x q r
def lw_I (ca : Nat → ClassId) (kS : Nat → Nat) (kT : Nat) (ad : pw_A) (C : pw_C) : Prop := ∃ (cd : Nat → Option DT) (mk : Nat) (td : Nat → TT) (x : ES) (q : List Int32) (sn : SN) (r : RS), lw_J ca kS kT ad C cd mk td x q sn r
/-- roles that are to be free are forgotten -/
theorem lw_clean {D : va_G} {cl : List vw_C} {A : Nat → Prop} {H0 : Heap} {a0 ad : pw_A} {c0 C : pw_C} {H : Heap} {locs : List Loc} {ca : Nat → ClassId} {kS : Nat → Nat} {kT : Nat} (hI : lw_I ca kS kT ad C) (hw : pw_H D cl A H0 a0 c0 ad C H locs) : ∃ (C1 : pw_C) (cd : Nat → Option DT) (mk : Nat) (td : Nat → TT) (x : ES) (q : List Int32) (sn : SN) (r : RS), lw_J ca kS kT ad C1 cd mk td x q sn r ∧ (∀ k, k < 6 → cd k = none → ∀ x, 9 < x → x < 17 → C1 x k = none) ∧ (∀ x, 19 < x → x < 25 → C1 x mk = none) ∧ C1 25 0 = none ∧ C1 26 0 = none ∧ pw_H D cl A H0 a0 c0 ad C1 H locs := by
  classical
  obtain ⟨cd, mk, td, x, q, sn, r, hG, hO, hR, hP⟩ := hI
  obtain ⟨C1, hC1⟩ : ∃ C1 : pw_C, C1 = fun x y => if (9 < x ∧ x < 17 ∧ cd y = none) ∨ (19 < x ∧ x < 25 ∧ mk ≤ y) ∨ x = 25 ∨ x = 26 then none else C x y := ⟨_, rfl⟩
  have h1 : ∀ x y, ((9 < x ∧ x < 17 ∧ cd y = none) ∨ (19 < x ∧ x < 25 ∧ mk ≤ y) ∨ x = 25 ∨ x = 26) → C1 x y = none := fun x y h => by rw [hC1]; exact if_pos h
  have h0 : ∀ x y, ¬ ((9 < x ∧ x < 17 ∧ cd y = none) ∨ (19 < x ∧ x < 25 ∧ mk ≤ y) ∨ x = 25 ∨ x = 26) → C1 x y = C x y := fun x y h => by rw [hC1]; exact if_neg h
  have hlow : ∀ x y, x < 10 → C1 x y = C x y := fun x y h => h0 x y (by omega)
  have hhigh : ∀ x y, 26 < x → C1 x y = C x y := fun x y h => h0 x y (by omega)
  refine ⟨C1, cd, mk, td, x, q, sn, r, ⟨hG.mv (fun x y h => ?_), hO.mv2 (fun x y h => hlow x y (by omega)) (fun _ _ _ => rfl), hR.mv (fun x y h => hhigh x y (by omega)) (fun _ _ _ => rfl), hP⟩, fun k _ hk x a b => h1 x k (Or.inl ⟨a, b, hk⟩), fun x a b => h1 x mk (Or.inr (Or.inl ⟨a, b, Nat.le_refl _⟩)), h1 25 0 (Or.inr (Or.inr (Or.inl rfl))), h1 26 0 (Or.inr (Or.inr (Or.inr rfl))), hw.forget (fun x y => ?_)⟩
  · rcases h with h | ⟨a, b, h⟩ | ⟨a, b, h⟩ | h
    · exact hlow x y (by omega)
    · exact h0 x y (by rintro (⟨-, -, z⟩ | z | z | z); exact h z; all_goals omega)
    · exact h0 x y (by rintro (⟨z, z2, -⟩ | z | z | z) <;> omega)
    · exact hhigh x y (by omega)
  · by_cases h : (9 < x ∧ x < 17 ∧ cd y = none) ∨ (19 < x ∧ x < 25 ∧ mk ≤ y) ∨ x = 25 ∨ x = 26
    · exact Or.inr ⟨by rcases h with ⟨a, b, -⟩ | ⟨a, b, -⟩ | h | h <;> omega, h1 x y h⟩
    · exact Or.inl (h0 x y h)
theorem lf_1 {ca : Nat → ClassId} {ad ad1 : pw_A} {C C1 : pw_C} {x : ES} {q : List Int32} {n : Nat} {sn : SN} {r : RS} (hO : os_x ca ad C x q n sn) (hR : rm_at ca ad C r) (hC : ∀ x y, ((2 < x ∧ x < 8) ∨ x = 30 ∨ x = 31) → C1 x y = C x y) (hA : ∀ x y, ((2 < x ∧ x < 8) ∨ x = 30 ∨ x = 31) → ad1 x y = ad x y) : os_x ca ad1 C1 x q n sn ∧ rm_at ca ad1 C1 r := ⟨hO.mv2 (fun x y h => hC x y (Or.inl h)) (fun x y h => hA x y (Or.inl h)), hR.mv (fun x y h => hC x y (Or.inr h)) (fun x y h => hA x y (Or.inr (Or.inr h)))⟩
theorem lf_M {ca : Nat → ClassId} {kS : Nat → Nat} {kT : Nat} {ad : pw_A} {C C1 : pw_C} {cd : Nat → Option DT} {mk : Nat} {td : Nat → TT} {x : ES} {q : List Int32} {n : Nat} {sn : SN} (hG : gw_at ca kS kT ad C cd mk td) (hO : os_x ca ad C x q n sn) (hf : rm_fr C C1) : gw_at ca kS kT ad C1 cd mk td ∧ os_x ca ad C1 x q n sn := ⟨hG.mv (fun x y h => hf x y (by omega)), hO.mv2 (fun x y h => hf x y (by omega)) (fun _ _ _ => rfl)⟩
theorem lw_b01 (v : Int32) : (if v = 0 then (0 : Int32) else 1) = 0 ∨ (if v = 0 then (0 : Int32) else 1) = 1 := by
  by_cases h : v = 0
  · exact Or.inl (if_pos h)
  · exact Or.inr (if_neg h)
abbrev lw_c0 : Cond := Cond.selects "GraphWriter" ⟨"GraphWriter", "mayStandAbove", "(II)Z"⟩ ⟨"GraphWriter", "mayStandAbove", "(II)Z"⟩
/-- what the law's walk stands on -/
def lw_E (p : Program) (s : State) (m : MethodId) (meth : Method) (c : Code) (b L : Nat) (xs : Nat → Int32) (D : va_G) (ca : Nat → ClassId) (kS : Nat → Nat) (kT : Nat) (A : Nat → Prop) : Prop :=
  p.tables.exec = Jvm.exec ∧ c.code = code ∧ meth.sig.returnType = ret ∧ c.maxLocals = 4 ∧ s.vm.findClass "GraphWriterLaw" = some m.cls ∧ (∀ w ∈ lw_c0 :: wd_W, w.before #[Value.ref b] s = true) ∧ va_X b L xs s s.heap ∧ b < s.heap.size ∧ ¬ A b ∧ (∀ q, s.heap.size ≤ q → A q) ∧ meth.locks = false ∧ L ≤ 3072 ∧ pw_K D cls9 (ty9 ca) s ∧ z9_Z kS kT A s
section PWL
variable {p : Program} {l : Launch} {e : Env} {R : Room} {s : State} {m : MethodId} {args : Array Value} {below : List Frame} {meth : Method} {c : Code} {H : Heap} {locs : List Loc} {cells slots : Nat} {Q : State → Prop}
variable {cc : ByteArray} {pc : Nat} {ls : Array Slot} {rest : List Value} {A : Nat → Prop}
theorem lw_ld (hexec : p.tables.exec = Jvm.exec) (hb : c.code = cc) {b L : Nat} {xs : Nat → Int32} (hX : va_X b L xs s s.heap) (hbl : b < s.heap.size) (hbA : ¬ A b) (hS : va_S A s.heap H locs) {i : Nat} (hi : i + 6 ≤ L) (hL : L ≤ 3072) (k : Nat) {kI : Int32} (hk : kI = nI k) (hk6 : k < 6) (hdg : decode cc pc = .ok (.iaload, 1))
    (kk : W p l e R s m args below meth c H locs cells slots Q (F0 m (pc + 1) ls (.int (xs (i + k)) :: rest))) : W p l e R s m args below meth c H locs cells slots Q (F0 m pc ls (.int (nI i + kI) :: .ref b :: rest)) := by
  subst hk
  rw [nI_add]
  refine va_sld hexec hb hX hbl hbA hS (pw_in (by omega) (by omega)) hdg ?_
  rw [nI_clamp (by omega)]
  exact kk
theorem lw_bool (hexec : p.tables.exec = Jvm.exec) (hb : c.code = cc) {v : Int32} (d1 : decode cc pc = .ok (.ifCond .eq 7, 3)) (d2 : decode cc (pc + 3) = .ok (.iconst 1, 1)) (d3 : decode cc (pc + 4) = .ok (.goto 4, 3)) (d4 : decode cc (pc + 7) = .ok (.iconst 0, 1))
    (kk : W p l e R s m args below meth c H locs cells slots Q (F0 m (pc + 8) ls (.int (if v = 0 then 0 else 1) :: rest))) : W p l e R s m args below meth c H locs cells slots Q (F0 m pc ls (.int v :: rest)) := by
  refine lv_if_eq (tgt := pc + 7) hexec hb d1 (by omega) (fun h => ?_) (fun h => ?_)
  · rw [if_pos h] at kk
    exact lv_iconst (v := 0) hexec hb d4 (by decide) kk
  · rw [if_neg h] at kk
    refine lv_iconst (v := 1) hexec hb d2 (by decide) ?_
    exact lv_goto (tgt := pc + 8) hexec hb d3 (by omega) kk
end PWL
