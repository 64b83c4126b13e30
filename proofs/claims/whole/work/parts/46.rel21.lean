/-! an object's sort -/
def wsw (o l1 l2 : Int32) (r : RS) : Option (Int32 × RS) := Option.bind (rd r.sort 20 o) (fun v_13 => if (v_13 : Int32) = 1 then (Option.bind (m_append 116 1 r) (fun y_64 => Option.bind (m_give o y_64) (fun y_68 => Option.bind (rd y_68.size 20 o) (fun v_75 => Option.bind (m_append v_75.toInt64 2 y_68) (fun y_76 => m_writeObject_86 (fun z4_80 z3_80 z1_80 z2_80 r_91 => some (1, r_91)) 60 0 o l1 l2 y_76))))) else (Option.bind (rd r.sort 20 o) (fun v_15 => if (v_15 : Int32) = 2 then (Option.bind (m_writeArray o r) (fun y_17 => some (1, y_17))) else (Option.bind (rd r.sort 20 o) (fun v_21 => if (v_21 : Int32) = 3 then (Option.bind (m_writeArray o r) (fun y_60 => some (1, y_60))) else (Option.bind (rd r.sort 20 o) (fun v_23 => if (v_23 : Int32) = 4 then (Option.bind (m_writeConstant o r) (fun y_56 => some (1, y_56))) else (Option.bind (rd r.classOf 20 o) (fun v_26 => Option.bind (rd r.kind 6 v_26) (fun v_28 => if (v_28 : Int32) = 0 then (Option.bind (rd r.classOf 20 o) (fun v_51 => Option.bind (m_abort v_51 r) (fun y_52 => some (0, y_52)))) else (Option.bind (m_append 115 1 r) (fun y_30 => Option.bind (rd y_30.classOf 20 o) (fun v_36 => Option.bind (m_descriptor v_36 y_30) (fun y_37 => Option.bind (m_give o y_37) (fun y_41 => Option.bind (m_parts o y_41) (fun y_46 => some (1, y_46)))))))))))))))))
def wsw' (o l1 l2 : Int32) (r : RS) : Option (Int32 × RS) := Option.bind (rd r.sort 20 o) (fun v_95 => if (v_95 : Int32) = 1 then (Option.bind (m_append 116 1 r) (fun y_146 => Option.bind (m_give o y_146) (fun y_150 => Option.bind (rd y_150.size 20 o) (fun v_157 => Option.bind (m_append v_157.toInt64 2 y_150) (fun y_158 => m_writeObject_86' (fun z4_162 z3_162 z1_162 z2_162 r_173 => some (1, r_173)) 60 0 o l1 l2 y_158))))) else (Option.bind (rd r.sort 20 o) (fun v_97 => if (v_97 : Int32) = 2 then (Option.bind (m_writeArray o r) (fun y_99 => some (1, y_99))) else (Option.bind (rd r.sort 20 o) (fun v_103 => if (v_103 : Int32) = 3 then (Option.bind (m_writeArray o r) (fun y_142 => some (1, y_142))) else (Option.bind (rd r.sort 20 o) (fun v_105 => if (v_105 : Int32) = 4 then (Option.bind (m_writeConstant o r) (fun y_138 => some (1, y_138))) else (Option.bind (rd r.classOf 20 o) (fun v_108 => Option.bind (rd r.kind 6 v_108) (fun v_110 => if (v_110 : Int32) = 0 then (Option.bind (rd r.classOf 20 o) (fun v_133 => Option.bind (m_abort v_133 r) (fun y_134 => some (0, y_134)))) else (Option.bind (m_append 115 1 r) (fun y_112 => Option.bind (rd y_112.classOf 20 o) (fun v_118 => Option.bind (m_descriptor v_118 y_112) (fun y_119 => Option.bind (m_give o y_119) (fun y_123 => Option.bind (m_parts o y_123) (fun y_128 => some (1, y_128)))))))))))))))))
theorem t86 (K : Int32 → Int32 → Int32 → Int32 → RS → Option (Int32 × RS)) : ∀ (n : Nat) (a b c d : Int32) (r : RS), m_writeObject_86' K n a b c d r = m_writeObject_86 K n a b c d r := by
  intro n
  induction n with
  | zero => intro a b c d r; rfl
  | succ n ih => intro a b c d r; rw [m_writeObject_86', m_writeObject_86]; simp only [ih]
theorem wsw_eq (o l1 l2 : Int32) (r : RS) : wsw' o l1 l2 r = wsw o l1 l2 r := by
  unfold wsw' wsw
  simp only [t86]
theorem r_sw {cd : Nat → Option DT} {mk : Nat} {td : Nat → TT} (hG : GI cd mk td) {o : Nat} (ho : o < mk) {l1 l2 : Int32} {x : ES} {r : RS} {st : List IT} (hst : st.length + 36 ≤ 900) (hq : Pq cd mk td r) (hE : SE x r) (hS : STK cd mk td r st) : ∃ b r', wsw (nI o) l1 l2 r = some (b, r') ∧ OUT cd mk td r (gh_sw cd td x o) (gk_sw cd td o ++ st) b r' := by
  have hP := stab0 False cd mk td
  have hm := hG.mk12
  have rso : rd r.sort 20 (nI o) = some (tt_so (td o)) := by rw [rd_ok rfl (show o < 20 by omega) (by decide), (hq.2.o o ho).1]
  unfold wsw gh_sw gk_sw
  rw [rso, Option.bind_some]
  by_cases s1 : tt_so (td o) = 1
  · rw [if_pos s1, if_pos s1, if_pos s1]
    obtain ⟨r', a, b⟩ := out_sim (sim_text hG ho s1 0) hq hE hS
    refine ⟨1, r', ?_, b⟩
    rw [← a]
    show _ = Option.bind (Option.bind (m_append 116 1 r) _) _
    rw [ob_as]
    refine congrArg _ (funext fun y => ?_)
    rw [ob_as]
    refine congrArg _ (funext fun y => ?_)
    rw [ob_as]
    refine congrArg _ (funext fun y => ?_)
    rw [ob_as]
    refine congrArg _ (funext fun y => ?_)
    exact tx_1 _ _ _ _ _ _
  rw [if_neg s1, if_neg s1, if_neg s1, Option.bind_some]
  by_cases s2 : tt_so (td o) = 2
  · rw [if_pos s2, if_pos s2, if_pos s2]
    obtain ⟨r', a, b⟩ := out_sim (sim_ints hG ho s2 0) hq hE hS
    exact ⟨1, r', a, b⟩
  rw [if_neg s2, if_neg s2, if_neg s2, Option.bind_some]
  by_cases s3 : tt_so (td o) = 3
  · rw [if_pos s3, if_pos s3, if_pos s3]
    have rsz : ∀ r, Pq cd mk td r → rd r.size 20 (nI o) = some (nI (tt_n (td o))) := fun r hr => by rw [rd_ok rfl (show o < 20 by omega) (by decide), (hr.2.o o ho).2.2.2.2, if_neg s1]
    have hl := ((hG.ty o ho).2.1 s3).1
    have k1 := ap1 hP 0 (nI (tt_n (td o))).toInt64 4 (w9 := 4) (by decide) rfl (by omega) (Sim.id (False, Pq cd mk td) 0)
    have k2 := Sim.rd (R := fun z => rd z.size 20 (nI o)) (v0 := nI (tt_n (td o))) (K := fun v z => Option.bind (m_append v.toInt64 4 z) (fun u => some u)) rsz k1
    have k3 := gv1 hP o (h9 := nI o) (by omega) (hk_o o (by omega)) k2
    have k4 := Sim.seq hP (sim_arrd1 hP (0 + 1)) k3
    have k5 := ap1 hP 0 117 1 (w9 := 1) (by decide) rfl (by omega) k4
    obtain ⟨r', a, b⟩ := out_push (n := fun u => m_writeArray_48' (fun z3_76 z2_76 z1_76 r_88 => Option.bind (rd r_88.size 20 z1_76) (fun v_92 => m_writeArray_93' (fun z3_93 z2_93 z1_93 r_103 => some r_103) 60 (v_92 - 1) z2_76 z1_76 r_88)) 60 0 1 (nI o) u) k5 hq hE hS (st' := gk_rrec (td o) (tt_n (td o)) ++ st) (fun r1 hq1 hS1 => by
      show ∃ r2, m_writeArray_48' _ (59 + 1) 0 1 (nI o) r1 = some r2 ∧ _
      rw [m_writeArray_48', if_neg n10, rsz r1 hq1, Option.bind_some]
      exact refs_93 hG ho s3 hst (tt_n (td o)) 60 r1 (Nat.le_refl _) (by omega) hq1 (by rw [Nat.sub_self]; exact hS1))
    refine ⟨1, r', ?_, b⟩
    rw [← a]
    refine congrArg (fun z => Option.bind z _) ?_
    unfold m_writeArray
    rw [rso, Option.bind_some, if_pos s3]
    show _ = Option.bind (Option.bind (m_append 117 1 r) _) _
    rw [ob_as]
    refine congrArg _ (funext fun y => ?_)
    rw [ob_as]
    refine congrArg _ (funext fun y => ?_)
    rw [ob_as]
    refine congrArg _ (funext fun y => ?_)
    rw [ob_as]
    refine congrArg _ (funext fun y => ?_)
    rw [ob_id]
  rw [if_neg s3, if_neg s3, if_neg s3, Option.bind_some]
  by_cases s4 : tt_so (td o) = 4
  · rw [if_pos s4, if_pos s4, if_pos s4]
    obtain ⟨r', a, b⟩ := out_sim (sim_const hG ho s4 0) hq hE hS
    exact ⟨1, r', a, b⟩
  rw [if_neg s4, if_neg s4, if_neg s4]
  have s0 : tt_so (td o) = 0 := by
    rcases (hG.wt o ho).2.1 with z | z | z | z | z
    · exact z
    · exact absurd z s1
    · exact absurd z s2
    · exact absurd z s3
    · exact absurd z s4
  obtain ⟨k, d, k6, hkw, hkd⟩ := (hG.wt o ho).2.2.1 (Or.inl s0)
  have rcl : ∀ r, Pq cd mk td r → rd r.classOf 20 (nI o) = some (nI k) := fun r hr => by rw [rd_ok rfl (show o < 20 by omega) (by decide), (hr.2.o o ho).2.1 (Or.inl s0), hkw]
  have rkd : rd r.kind 6 (nI k) = some (dd_kd d) := by rw [rd_ok rfl k6 (by decide), (hq.1.so k d hkd).2.1]
  rw [rcl r hq, Option.bind_some, rkd, Option.bind_some, hkw, nI_clamp (by omega), hkd]
  simp only []
  by_cases h0 : dd_kd d = 0
  · rw [if_pos h0, if_pos h0, if_pos h0, Option.bind_some]
    obtain ⟨r', a, b⟩ := r_abort k6 ([] ++ st) hq hE
    exact ⟨0, r', a, b⟩
  rw [if_neg h0, if_neg h0, if_neg h0]
  have k1 := gv1 hP o (h9 := nI o) (by omega) (hk_o o (by omega)) (Sim.id (False, Pq cd mk td) 0)
  have k2 := Sim.seq hP (sim_descr (mk := mk) (td := td) hG.gd hkd (0 + 1)) k1
  have k3 := Sim.rd (R := fun y => rd y.classOf 20 (nI o)) (v0 := nI k) (K := fun v y => Option.bind (m_descriptor v y) (fun y => Option.bind (m_give (nI o) y) (fun z => some z))) rcl k2
  have k4 := ap1 hP 0 115 1 (w9 := 1) (by decide) rfl (by omega) k3
  obtain ⟨r', a, b⟩ := out_push (n := m_parts (nI o)) k4 hq hE hS (st' := gk_irun cd (td o) d (dd_cn d) 0 ++ st) (fun r1 hq1 hS1 => r_parts hG ho s0 hkw hkd hst hq1 hS1)
  refine ⟨1, r', ?_, b⟩
  rw [← a]
  show _ = Option.bind (Option.bind (Option.bind (m_append 115 1 r) _) _) _
  rw [ob_as, ob_as]
  refine congrArg _ (funext fun y => ?_)
  rw [ob_as]
  refine congrArg _ (funext fun v => ?_)
  rw [ob_as]
  refine congrArg _ (funext fun y => ?_)
  rw [ob_id]
