/-! a call of both, in one -/
abbrev LQ9 (cd : Nat → Option DT) (mk : Nat) (td : Nat → TT) (x : ES) (q : List Int32) (r : RS) : Prop :=
  (GI cd mk td) ∧
  (RC cd r) ∧
  (RO mk td r) ∧
  (RX x q r)
theorem LQ9.g {cd : Nat → Option DT} {mk : Nat} {td : Nat → TT} {x : ES} {q : List Int32} {r : RS} (h : LQ9 cd mk td x q r) : GI cd mk td := h.1
theorem LQ9.c {cd : Nat → Option DT} {mk : Nat} {td : Nat → TT} {x : ES} {q : List Int32} {r : RS} (h : LQ9 cd mk td x q r) : RC cd r := h.2.1
theorem LQ9.o {cd : Nat → Option DT} {mk : Nat} {td : Nat → TT} {x : ES} {q : List Int32} {r : RS} (h : LQ9 cd mk td x q r) : RO mk td r := h.2.2.1
theorem LQ9.x {cd : Nat → Option DT} {mk : Nat} {td : Nat → TT} {x : ES} {q : List Int32} {r : RS} (h : LQ9 cd mk td x q r) : RX x q r := h.2.2.2
theorem LQ9.pq {cd : Nat → Option DT} {mk : Nat} {td : Nat → TT} {x : ES} {q : List Int32} {r : RS} (h : LQ9 cd mk td x q r) : Pq cd mk td r := ⟨h.c, h.o⟩
theorem LQ9.rt {cd : Nat → Option DT} {mk : Nat} {td : Nat → TT} {x : ES} {q : List Int32} {r : RS} (h : LQ9 cd mk td x q r) : RT x.1 q r := ⟨h.x.ex.ln, h.x.ex.st, h.x.rw.wn, h.x.rw.wt⟩
theorem p_define {cd : Nat → Option DT} {mk : Nat} {td : Nat → TT} {x : ES} {q : List Int32} {r : RS} (h : LQ9 cd mk td x q r) (k kd sp : Int32) (id : Int64) : ∃ r', m_define k kd sp id r = some ((ga_define cd k kd sp id).1, r') ∧ LQ9 (ga_define cd k kd sp id).2 mk td x q r' := by
  obtain ⟨r', e1, e2, e3⟩ := r_define h.g.gd h.c k kd sp id
  exact ⟨r', e1, h.g.define k kd sp id, e2, h.o.keep e3, h.x.cg e3.c1⟩
theorem p_field {cd : Nat → Option DT} {mk : Nat} {td : Nat → TT} {x : ES} {q : List Int32} {r : RS} (h : LQ9 cd mk td x q r) (k n t tr : Int32) (htr : tr = 0 ∨ tr = 1) : ∃ r', m_field k n t tr r = some ((ga_field cd k n t tr).1, r') ∧ LQ9 (ga_field cd k n t tr).2 mk td x q r' := by
  obtain ⟨r', e1, e2, e3⟩ := r_field h.g h.c h.o k n t tr htr
  exact ⟨r', e1, h.g.field k n t tr, e2, h.o.keep e3, h.x.cg e3.c1⟩
theorem p_instance {cd : Nat → Option DT} {mk : Nat} {td : Nat → TT} {x : ES} {q : List Int32} {r : RS} (h : LQ9 cd mk td x q r) (k : Int32) : ∃ r', m_instance k r = some ((ga_instance cd mk td k).1, r') ∧ LQ9 (ga_instance cd mk td k).2.1 (ga_instance cd mk td k).2.2.1 (ga_instance cd mk td k).2.2.2 x q r' := by
  obtain ⟨r', e1, e2, e3, e4⟩ := r_inst h.g h.c h.o k
  exact ⟨r', e1, h.g.inst k, e2, e3, h.x.cg e4.c1⟩
theorem p_text {cd : Nat → Option DT} {mk : Nat} {td : Nat → TT} {x : ES} {q : List Int32} {r : RS} (h : LQ9 cd mk td x q r) (v : Int64) : ∃ r', m_text v r = some ((ga_text mk td v).1, r') ∧ LQ9 cd (ga_text mk td v).2.1 (ga_text mk td v).2.2 x q r' := by
  obtain ⟨r', e1, e2, e3⟩ := r_text h.g h.o v
  exact ⟨r', e1, h.g.text v, h.c.keep e3, e2, h.x.cg e3.c1⟩
theorem p_array {cd : Nat → Option DT} {mk : Nat} {td : Nat → TT} {x : ES} {q : List Int32} {r : RS} (h : LQ9 cd mk td x q r) (rf len : Int32) : ∃ r', m_array rf len r = some ((ga_array mk td rf len).1, r') ∧ LQ9 cd (ga_array mk td rf len).2.1 (ga_array mk td rf len).2.2 x q r' := by
  obtain ⟨r', e1, e2, e3⟩ := r_array h.g h.o rf len
  exact ⟨r', e1, h.g.array rf len, h.c.keep e3, e2, h.x.cg e3.c1⟩
theorem p_constant {cd : Nat → Option DT} {mk : Nat} {td : Nat → TT} {x : ES} {q : List Int32} {r : RS} (h : LQ9 cd mk td x q r) (k n : Int32) : ∃ r', m_constant k n r = some ((ga_constant cd mk td k n).1, r') ∧ LQ9 cd (ga_constant cd mk td k n).2.1 (ga_constant cd mk td k n).2.2 x q r' := by
  obtain ⟨r', e1, e2, e3⟩ := r_constant h.g h.c h.o k n
  exact ⟨r', e1, h.g.constant k n, h.c.keep e3, e2, h.x.cg e3.c1⟩
theorem p_set {cd : Nat → Option DT} {mk : Nat} {td : Nat → TT} {x : ES} {q : List Int32} {r : RS} (h : LQ9 cd mk td x q r) (o k : Int32) (v : Int64) : ∃ r', m_set o k v r = some ((ga_set mk td o k v).1, r') ∧ LQ9 cd mk (ga_set mk td o k v).2 x q r' := by
  obtain ⟨r', e1, e2, e3⟩ := r_set h.g h.c h.o o k v
  exact ⟨r', e1, h.g.set o k v, h.c.keep e3, e2, h.x.cg e3.c1⟩
theorem p_replace {cd : Nat → Option DT} {mk : Nat} {td : Nat → TT} {x : ES} {q : List Int32} {r : RS} (h : LQ9 cd mk td x q r) (o p : Int32) : ∃ r', m_replace o p r = some ((ga_replace mk td o p).1, r') ∧ LQ9 cd mk (ga_replace mk td o p).2 x q r' := by
  obtain ⟨g, e1, e2⟩ := r_replace h.o h.g.mk12 o p
  exact ⟨_, e1, h.g.replace o p, ⟨h.c.no, h.c.so, h.c.fi⟩, e2, h.x.cg ⟨rfl, rfl, rfl, rfl, rfl, rfl⟩⟩
theorem p_extra {cd : Nat → Option DT} {mk : Nat} {td : Nat → TT} {x : ES} {q : List Int32} {r : RS} (h : LQ9 cd mk td x q r) (o v : Int32) : ∃ r', m_extra o v r = some ((ga_extra mk td o v).1, r') ∧ LQ9 cd mk (ga_extra mk td o v).2 x q r' := by
  obtain ⟨g, e1, e2⟩ := r_extra h.o h.g.mk12 o v
  exact ⟨_, e1, h.g.extra o v, ⟨h.c.no, h.c.so, h.c.fi⟩, e2, h.x.cg ⟨rfl, rfl, rfl, rfl, rfl, rfl⟩⟩
theorem p_data {cd : Nat → Option DT} {mk : Nat} {td : Nat → TT} {x : ES} {q : List Int32} {r : RS} (h : LQ9 cd mk td x q r) (sn : SN) (v : Int64) (k : Int32) : ∃ r', m_data v k r = some ((ga_data x q sn v k).1, r') ∧ LQ9 cd mk td (ga_data x q sn v k).2.1 (ga_data x q sn v k).2.2.1 r' := by
  obtain ⟨r', e1, e2, e3⟩ := r_data (sn := sn) h.pq h.x v k
  exact ⟨r', e1, h.g, e2.1, e2.2, e3⟩
theorem p_write {cd : Nat → Option DT} {mk : Nat} {td : Nat → TT} {x : ES} {q : List Int32} {r : RS} (h : LQ9 cd mk td x q r) (sn : SN) (o u : Int32) : ∃ r', m_write o u r = some ((ga_write cd mk td x q sn o u).1, r') ∧ LQ9 cd mk td (ga_write cd mk td x q sn o u).2.1 (ga_write cd mk td x q sn o u).2.2.1 r' := by
  obtain ⟨r', e1, e2, e3⟩ := r_write (sn := sn) h.g h.pq h.x o u
  exact ⟨r', e1, h.g, e2.1, e2.2, e3⟩
theorem p_reset {cd : Nat → Option DT} {mk : Nat} {td : Nat → TT} {x : ES} {q : List Int32} {r : RS} (h : LQ9 cd mk td x q r) (sn : SN) : ∃ r', m_reset r = some ((ga_reset x q sn).1, r') ∧ LQ9 cd mk td (ga_reset x q sn).2.1 (ga_reset x q sn).2.2.1 r' := by
  obtain ⟨r', e1, e2, e3⟩ := r_reset (sn := sn) h.pq h.x
  exact ⟨r', e1, h.g, e2.1, e2.2, e3⟩
theorem p_byteAt {cd : Nat → Option DT} {mk : Nat} {td : Nat → TT} {x : ES} {q : List Int32} {r : RS} (h : LQ9 cd mk td x q r) (o : Int32) : m_byteAt o r = some (ga_byte x o, r) := r_byteAt h.rt h.x.ex.le x.2.1 x.2.2.1 x.2.2.2 o
theorem p_handle {cd : Nat → Option DT} {mk : Nat} {td : Nat → TT} {x : ES} {q : List Int32} {r : RS} (h : LQ9 cd mk td x q r) (o : Int32) : m_handle o r = some (ga_handle mk x o, r) := r_handle h.o.ob h.x.ex.rh h.g.mk12 x.1 x.2.1 o
theorem p_count {cd : Nat → Option DT} {mk : Nat} {td : Nat → TT} {x : ES} {q : List Int32} {r : RS} (h : LQ9 cd mk td x q r) (k : Int32) : m_count k r = some (ga_count cd mk x q k, r) := r_count h.c h.o h.rt h.x.ex.rh x.2.1 k
theorem p_object {cd : Nat → Option DT} {mk : Nat} {td : Nat → TT} {x : ES} {q : List Int32} {r : RS} (h : LQ9 cd mk td x q r) (o k : Int32) : m_object o k r = some (ga_object mk td o k, r) := r_object h.g h.o o k
