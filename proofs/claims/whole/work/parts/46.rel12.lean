/-! descriptors -/
theorem ob_id {α : Type} (x : Option α) : Option.bind x (fun y => some y) = x := by cases x <;> rfl
theorem ob_as {α β γ : Type} (x : Option α) (f : α → Option β) (g : β → Option γ) : Option.bind (Option.bind x f) g = Option.bind x (fun y => Option.bind (f y) g) := by cases x <;> rfl
theorem em1 {P : Prop × (RS → Prop)} (hP : stab P) (s : Nat) {s0 c : Nat} {f g : ES → ES} {B D : List Int32} {a1 K : RS → Option RS} (hf : EmC f B) (h1 : EmR a1 D) (e : B = D) (hs : s0 ≤ s + B.length) (hK : Sim P s0 c g K) : Sim P s c (fun x => g (f x)) (fun r => Option.bind (a1 r) K) := Sim.seq hP (sim_em hf h1 e s) (hK.weak hs (Nat.le_refl _))
theorem em2 {P : Prop × (RS → Prop)} (hP : stab P) (s : Nat) {s0 c : Nat} {f g : ES → ES} {B B1 B2 : List Int32} {a1 a2 K : RS → Option RS} (hf : EmC f B) (h1 : EmR a1 B1) (h2 : EmR a2 B2) (e : B = B1 ++ B2) (hs : s0 ≤ s + B.length) (hK : Sim P s0 c g K) : Sim P s c (fun x => g (f x)) (fun r => Option.bind (a1 r) (fun y => Option.bind (a2 y) K)) :=
  (Sim.seq hP (sim_em hf (h1.seq h2) e s) (hK.weak hs (Nat.le_refl _))).congr (fun _ => rfl) (fun r _ => (ob_as _ _ _).symm)
theorem em3 {P : Prop × (RS → Prop)} (hP : stab P) (s : Nat) {s0 c : Nat} {f g : ES → ES} {B B1 B2 B3 : List Int32} {a1 a2 a3 K : RS → Option RS} (hf : EmC f B) (h1 : EmR a1 B1) (h2 : EmR a2 B2) (h3 : EmR a3 B3) (e : B = B1 ++ (B2 ++ B3)) (hs : s0 ≤ s + B.length) (hK : Sim P s0 c g K) : Sim P s c (fun x => g (f x)) (fun r => Option.bind (a1 r) (fun y => Option.bind (a2 y) (fun z => Option.bind (a3 z) K))) :=
  (Sim.seq hP (sim_em hf (h1.seq (h2.seq h3)) e s) (hK.weak hs (Nat.le_refl _))).congr (fun _ => rfl) (fun r _ => by
    show _ = Option.bind (Option.bind (a1 r) (fun r => Option.bind (a2 r) a3)) K
    rw [ob_as]; congr 1; funext y; rw [ob_as])
theorem em4 {P : Prop × (RS → Prop)} (hP : stab P) (s : Nat) {s0 c : Nat} {f g : ES → ES} {B B1 B2 B3 B4 : List Int32} {a1 a2 a3 a4 K : RS → Option RS} (hf : EmC f B) (h1 : EmR a1 B1) (h2 : EmR a2 B2) (h3 : EmR a3 B3) (h4 : EmR a4 B4) (e : B = B1 ++ (B2 ++ (B3 ++ B4))) (hs : s0 ≤ s + B.length) (hK : Sim P s0 c g K) : Sim P s c (fun x => g (f x)) (fun r => Option.bind (a1 r) (fun y => Option.bind (a2 y) (fun z => Option.bind (a3 z) (fun u => Option.bind (a4 u) K)))) :=
  (Sim.seq hP (sim_em hf (h1.seq (h2.seq (h3.seq h4))) e s) (hK.weak hs (Nat.le_refl _))).congr (fun _ => rfl) (fun r _ => by
    show _ = Option.bind (Option.bind (a1 r) (fun r => Option.bind (a2 r) (fun r => Option.bind (a3 r) a4))) K
    rw [ob_as]; congr 1; funext y; rw [ob_as]; congr 1; funext z; rw [ob_as])
theorem a9 (v : Int64) {w : Nat} {w9 : Int32} (hw : w ≤ 8) (h9 : w9 = nI w) : EmR (m_append v w9) (es_bytes v w) := by subst h9; exact EmR.app v hw
/-- the same bytes on both sides -/
theorem ap1 {P : Prop × (RS → Prop)} (hP : stab P) (s : Nat) {s0 c : Nat} {g : ES → ES} {K : RS → Option RS} (v : Int64) (w : Nat) {w9 : Int32} (hw : w ≤ 8) (h9 : w9 = nI w) (hs : s0 ≤ s + w) (hK : Sim P s0 c g K) : Sim P s c (fun x => g (es_put x v w)) (fun r => Option.bind (m_append v w9 r) K) := em1 hP s (EmC.put v w) (a9 v hw h9) rfl (by rw [es_bytes_len]; exact hs) hK
theorem gv1 {P : Prop × (RS → Prop)} (hP : stab P) {s c : Nat} {g : ES → ES} {K : RS → Option RS} (k : Nat) {h9 : Int32} (hk35 : k < 35) (e : h9 = nI (hk k)) (hK : Sim P s c g K) : Sim P (s + 1) c (fun x => g (es_give x k)) (fun r => Option.bind (m_give h9 r) K) := by
  subst e; exact Sim.seq hP (sim_give s hk35) hK
theorem sim_ref2 {P : Prop × (RS → Prop)} {s s' : Nat} (k : Nat) {h9 : Int32} (hk35 : k < 35) (e : h9 = nI (hk k)) {F : ES → ES} {A : RS → Option RS} (hF : Sim P s s' F A) (hs : s' ≤ s) : Sim P s s' (fun x => if x.2.2.1 k = -1 then F x else es_rf x k) (fun r => Option.bind (rd r.handles 51 h9) (fun v => if v < 0 then A r else Option.bind (m_refer h9 r) (fun y => some y))) := by
  subst e
  exact (sim_ref hk35 hF hs).congr (fun _ => rfl) (fun r _ => by
    congr 1; funext v
    by_cases h : v < 0
    · rw [if_pos h, if_neg (Int32.not_le.mpr h)]
    · rw [if_neg h, if_pos (Int32.not_lt.mp h), ob_id])
theorem es_ref_eq (x : ES) (k : Nat) : es_ref x k = if x.2.2.1 k = -1 then (x, 0) else (es_rf x k, 1) := rfl
theorem plainEnd_eq (h fl : Int32) (r : RS) : m_plainEnd h fl r = Option.bind (m_give h r) (fun y => Option.bind (m_append fl.toInt64 1 y) (fun z => Option.bind (m_append 0 2 z) (m_append 120 1))) := by
  unfold m_plainEnd
  congr 1; funext y; congr 1; funext z; congr 1; funext u; exact ob_id _
theorem pe1 {P : Prop × (RS → Prop)} (hP : stab P) {s c : Nat} {g : ES → ES} {K : RS → Option RS} (k : Nat) {h9 : Int32} (hk35 : k < 35) (e : h9 = nI (hk k)) (fl : Int32) (hK : Sim P s c g K) : Sim P (s + 1) c (fun x => g (es_put (es_put (es_put (es_give x k) fl.toInt64 1) 0 2) 120 1)) (fun r => Option.bind (m_plainEnd h9 fl r) K) := by
  have k1 := ap1 hP s 120 1 (w9 := 1) (by decide) rfl (by omega) hK
  have k2 := ap1 hP s 0 2 (w9 := 2) (by decide) rfl (by omega) k1
  have k3 := ap1 hP s fl.toInt64 1 (w9 := 1) (by decide) rfl (by omega) k2
  have k4 := gv1 hP k hk35 e k3
  refine k4.congr (fun _ => rfl) (fun r _ => ?_)
  show _ = Option.bind (m_give h9 r) _
  rw [plainEnd_eq, ob_as]; congr 1; funext y; rw [ob_as]; congr 1; funext z; rw [ob_as]
theorem ga_top_eq (x : ES) (k : Nat) (t : List Int32) (i : Int64) (fl : Int32) : ga_top x k t i fl = if x.2.2.1 k = -1 then es_put (es_put (es_put (es_put (es_give (es_put (es_utf (es_put x 114 1) t) i 8) k) fl.toInt64 1) 0 2) 120 1) 112 1 else es_rf x k := by
  unfold ga_top es_desc
  rw [es_ref_eq]
  by_cases h : x.2.2.1 k = -1
  · rw [if_pos h, if_pos h, if_pos rfl, if_neg n10]; rfl
  · rw [if_neg h, if_neg h, if_neg n10, if_pos rfl]
theorem tx5 : es_bytes (nI (z9_tx 5).length).toInt64 2 ++ (z9_tx 5).flatMap (fun c => es_bytes c.toInt64 1) = es_bytes 14 2 ++ (es_bytes 7665538200524054894 8 ++ es_bytes 113448431023469 6) := by decide +kernel
theorem tx1 : es_bytes (nI (z9_tx 1).length).toInt64 2 ++ (z9_tx 1).flatMap (fun c => es_bytes c.toInt64 1) = es_bytes 2 2 ++ es_bytes 23369 2 := by decide +kernel
theorem tx2 : es_bytes (nI (z9_tx 2).length).toInt64 2 ++ (z9_tx 2).flatMap (fun c => es_bytes c.toInt64 1) = es_bytes 19 2 ++ (es_bytes 6578750122511904364 8 ++ (es_bytes 7020662317715188325 8 ++ es_bytes 6517819 3)) := by decide +kernel
theorem tx4 : es_bytes (nI (z9_tx 4).length).toInt64 2 ++ (z9_tx 4).flatMap (fun c => es_bytes c.toInt64 1) = es_bytes 18 2 ++ (es_bytes 5506320655478385761 8 ++ (es_bytes 7955379284773332323 8 ++ es_bytes 29755 2)) := by decide +kernel
theorem sim_enumBase {P : Prop × (RS → Prop)} (hP : stab P) (s : Nat) : Sim P s s (fun x => ga_top x 32 (z9_tx 5) 0 18) m_enumBase := by
  have k1 := ap1 hP s 112 1 (w9 := 1) (by decide) rfl (by omega) (Sim.id P s)
  have k2 := pe1 hP 32 (h9 := 48) (by decide) (by decide) 18 k1
  have k3 := ap1 hP s 0 8 (w9 := 8) (by decide) rfl (by omega) k2
  have k4 := em3 hP s (EmC.utf (z9_tx 5)) (a9 14 (w := 2) (w9 := 2) (by decide) rfl) (a9 7665538200524054894 (w := 8) (w9 := 8) (by decide) rfl) (a9 113448431023469 (w := 6) (w9 := 6) (by decide) rfl) tx5 (by omega) k3
  have k5 := ap1 hP s 114 1 (w9 := 1) (by decide) rfl (by omega) k4
  have k6 := sim_ref2 32 (h9 := 48) (by decide) (by decide) k5 (Nat.le_refl _)
  exact k6.congr (fun x => ga_top_eq x _ _ _ _) (fun r _ => by unfold m_enumBase; rfl)
theorem sim_arrd0 {P : Prop × (RS → Prop)} (hP : stab P) (s : Nat) : Sim P s s (fun x => ga_top x 30 (z9_tx 1) 5600894804908749477 2) m_arrayDescriptor0 := by
  have k1 := ap1 hP s 112 1 (w9 := 1) (by decide) rfl (by omega) (Sim.id P s)
  have k2 := pe1 hP 30 (h9 := 46) (by decide) (by decide) 2 k1
  have k3 := ap1 hP s 5600894804908749477 8 (w9 := 8) (by decide) rfl (by omega) k2
  have k4 := em2 hP s (EmC.utf (z9_tx 1)) (a9 2 (w := 2) (w9 := 2) (by decide) rfl) (a9 23369 (w := 2) (w9 := 2) (by decide) rfl) tx1 (by omega) k3
  have k5 := ap1 hP s 114 1 (w9 := 1) (by decide) rfl (by omega) k4
  have k6 := sim_ref2 30 (h9 := 46) (by decide) (by decide) k5 (Nat.le_refl _)
  exact k6.congr (fun x => ga_top_eq x _ _ _ _) (fun r _ => by unfold m_arrayDescriptor0; rfl)
theorem sim_arrd1 {P : Prop × (RS → Prop)} (hP : stab P) (s : Nat) : Sim P s s (fun x => ga_top x 31 (z9_tx 2) (-8012369246846506644) 2) m_arrayDescriptor1 := by
  have k1 := ap1 hP s 112 1 (w9 := 1) (by decide) rfl (by omega) (Sim.id P s)
  have k2 := pe1 hP 31 (h9 := 47) (by decide) (by decide) 2 k1
  have k3 := ap1 hP s (-8012369246846506644) 8 (w9 := 8) (by decide) rfl (by omega) k2
  have k4 := em4 hP s (EmC.utf (z9_tx 2)) (a9 19 (w := 2) (w9 := 2) (by decide) rfl) (a9 6578750122511904364 (w := 8) (w9 := 8) (by decide) rfl) (a9 7020662317715188325 (w := 8) (w9 := 8) (by decide) rfl) (a9 6517819 (w := 3) (w9 := 3) (by decide) rfl) tx2 (by omega) k3
  have k5 := ap1 hP s 114 1 (w9 := 1) (by decide) rfl (by omega) k4
  have k6 := sim_ref2 31 (h9 := 47) (by decide) (by decide) k5 (Nat.le_refl _)
  exact k6.congr (fun x => ga_top_eq x _ _ _ _) (fun r _ => by unfold m_arrayDescriptor1; rfl)
theorem letter_eq (c : Int32) (r : RS) : m_letter c r = Option.bind (m_append 1 2 r) (m_append c.toInt64 1) := by
  unfold m_letter
  congr 1; funext y; exact ob_id _
theorem lt1 {P : Prop × (RS → Prop)} (hP : stab P) {s c : Nat} {g : ES → ES} {K : RS → Option RS} (ch : Int32) (hK : Sim P s c g K) : Sim P s c (fun x => g (es_sign x ch)) (fun r => Option.bind (m_letter ch r) K) := by
  have k1 := ap1 hP s ch.toInt64 1 (w9 := 1) (by decide) rfl (by omega) hK
  have k2 := ap1 hP s 1 2 (w9 := 2) (by decide) rfl (by omega) k1
  refine k2.congr (fun _ => rfl) (fun r _ => ?_)
  show _ = Option.bind (m_append 1 2 r) _
  rw [letter_eq, ob_as]
theorem es_utf1 (x : ES) (c : Int32) : es_utf x [c] = es_sign x c := rfl
/-- a type's name: its handle, or its signs -/
theorem ga_tt_eq (x : ES) (k : Nat) (t : List Int32) : ga_tt x k t = if x.2.2.1 k = -1 then es_utf (es_give (es_put x 116 1) k) t else es_rf x k := by
  unfold ga_tt
  rw [es_ref_eq]
  by_cases h : x.2.2.1 k = -1
  · rw [if_pos h, if_pos h, if_pos rfl]; rfl
  · rw [if_neg h, if_neg h, if_neg n10]
/-- what a field's type adds -/
def ftl (t : Int32) (r : RS) : Option RS := if (6 : Int32) ≤ t then Option.bind (rd r.handles 51 (t + 43)) (fun v => if v < 0 then Option.bind (m_append 116 1 r) (fun y => Option.bind (m_give (t + 43) y) (fun z => Option.bind (m_typeSigns t z) (fun u => some u))) else Option.bind (m_refer (t + 43) r) (fun y => some y)) else some r
theorem sim_ty6 {P : Prop × (RS → Prop)} (hP : stab P) (s : Nat) : Sim P s s (fun x => ga_tt x 33 (z9_tx 1)) (ftl 6) := by
  have k1 := em2 hP s (EmC.utf (z9_tx 1)) (a9 2 (w := 2) (w9 := 2) (by decide) rfl) (a9 23369 (w := 2) (w9 := 2) (by decide) rfl) tx1 (by omega) (Sim.id P s)
  have k1' : Sim P s s (fun x => es_utf x (z9_tx 1)) (fun z => Option.bind (m_typeSigns 6 z) (fun u => some u)) := k1.congr (fun _ => rfl) (fun r _ => by
    unfold m_typeSigns; rw [if_pos rfl, ob_id])
  have k2 := gv1 hP 33 (h9 := 6 + 43) (by decide) (by decide) k1'
  have k3 := ap1 hP s 116 1 (w9 := 1) (by decide) rfl (by omega) k2
  have k4 := sim_ref2 33 (h9 := 6 + 43) (by decide) (by decide) k3 (Nat.le_refl _)
  exact k4.congr (fun x => ga_tt_eq x _ _) (fun r _ => by unfold ftl; rw [if_pos (by decide)])
theorem sim_ty7 {P : Prop × (RS → Prop)} (hP : stab P) (s : Nat) : Sim P s s (fun x => ga_tt x 34 (z9_tx 4)) (ftl 7) := by
  have k1 := em4 hP s (EmC.utf (z9_tx 4)) (a9 18 (w := 2) (w9 := 2) (by decide) rfl) (a9 5506320655478385761 (w := 8) (w9 := 8) (by decide) rfl) (a9 7955379284773332323 (w := 8) (w9 := 8) (by decide) rfl) (a9 29755 (w := 2) (w9 := 2) (by decide) rfl) tx4 (by omega) (Sim.id P s)
  have k1' : Sim P s s (fun x => es_utf x (z9_tx 4)) (fun z => Option.bind (m_typeSigns 7 z) (fun u => some u)) := k1.congr (fun _ => rfl) (fun r _ => by
    unfold m_typeSigns; rw [if_neg (by decide), ob_id])
  have k2 := gv1 hP 34 (h9 := 7 + 43) (by decide) (by decide) k1'
  have k3 := ap1 hP s 116 1 (w9 := 1) (by decide) rfl (by omega) k2
  have k4 := sim_ref2 34 (h9 := 7 + 43) (by decide) (by decide) k3 (Nat.le_refl _)
  exact k4.congr (fun x => ga_tt_eq x _ _) (fun r _ => by unfold ftl; rw [if_pos (by decide)])
def fch (t : Int32) : Int64 := ((z9_tx 3).getD t.toNatClampNeg 0).toInt64
theorem sim_ftl {P : Prop × (RS → Prop)} (hP : stab P) (s : Nat) {t : Nat} (ht : t < 8) : Sim P s s (fun x => ga_tyt x (nI t)) (ftl (nI t)) := by
  rcases (show t < 6 ∨ t = 6 ∨ t = 7 by omega) with h | h | h
  · refine (Sim.id P s).congr (fun x => ?_) (fun r _ => ?_)
    · show ga_tyt x (nI t) = x
      unfold ga_tyt
      rw [if_neg (show ¬ nI t = 6 from fun z => absurd ((nI_eq (b := 6) (by omega) (by decide)).mp z) (by omega)), if_neg (show ¬ nI t = 7 from fun z => absurd ((nI_eq (b := 7) (by omega) (by decide)).mp z) (by omega))]
    · unfold ftl; rw [if_neg (show ¬ (6 : Int32) ≤ nI t from nI_ge (b := 6) (by omega) (by decide))]
  · subst h
    refine (sim_ty6 hP s).congr (fun x => ?_) (fun r _ => rfl)
    show ga_tyt x (nI 6) = _
    unfold ga_tyt; rw [if_pos (by decide)]
  · subst h
    refine (sim_ty7 hP s).congr (fun x => ?_) (fun r _ => rfl)
    show ga_tyt x (nI 7) = _
    unfold ga_tyt; rw [if_neg (by decide), if_pos (by decide)]
