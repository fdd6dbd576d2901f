section MQX
variable {E : iExtT} {c ax : Nat → Nat → Int32} {vc vx : Nat → Int32} {tx : Nat → Nat → Int64} {a : Nat → Nat → Int32} {v : Nat → Int32} {t : Nat → Nat → Int64} {n k q : Nat} {mn sm tt : Nat → Nat} {ya yb yc : Nat}
theorem mq_flume_bad (h : REL c vc a v n k q mn sm tt ya yb yc) (x y z : Int32) (hb : ¬ (inB x 24 ∧ inB y 16 ∧ inB z 2)) : ∃ (a' : Nat → Nat → Int32) (v' : Nat → Int32) (t' : Nat → Nat → Int64), Rn E 10 mX8_flume (0, [(0, .ref 53), (1, .int x), (2, .int y), (3, .int z)], [], wY ax vx tx a v t) (some (.int (-2)), wY ax vx tx a' v' t') ∧ eqM a v a' v' := by
  obtain ⟨a1, v1, hr, he, hC, hL, h33⟩ := m_find (E := E) (ax := ax) (vx := vx) (tx := tx) (t := t) h
  refine ⟨a1, v1, t, ?_, he⟩
  iterate 1 refine Rn.step rfl ?_
  refine Rn.callv rfl rfl rfl (by decide) hr ?_
  iterate 1 refine Rn.step rfl ?_
  refine Rn.calli rfl rfl rfl (by decide) (m_isMinute x _) (fun y0 f0 => ?_)
  have f0 : y0 = ib (inB x 24) := f0
  refine Rn.br rfl (fun p0 => ?_) (fun p0 => ?_)
  · iterate 1 refine Rn.step rfl ?_
    exact Rn.ret rfl
  · rw [f0, ib_ne0] at p0
    iterate 1 refine Rn.step rfl ?_
    refine Rn.calli rfl rfl rfl (by decide) (m_isSpan y _) (fun y1 f1 => ?_)
    have f1 : y1 = ib (inB y 16) := f1
    refine Rn.br rfl (fun p1 => ?_) (fun p1 => ?_)
    · iterate 1 refine Rn.step rfl ?_
      exact Rn.ret rfl
    · rw [f1, ib_ne0] at p1
      iterate 1 refine Rn.step rfl ?_
      refine Rn.calli rfl rfl rfl (by decide) (m_isTwo z _) (fun y2 f2 => ?_)
      have f2 : y2 = ib (inB z 2) := f2
      refine Rn.br1 rfl (by rw [f2]; exact ib_eq0.mpr (fun p => hb ⟨p0, p1, p⟩)) ?_
      iterate 1 refine Rn.step rfl ?_
      exact Rn.ret rfl
theorem mq_flume0 (h : REL c vc a v n k q mn sm tt ya yb yc) {m s : Nat} (hm : m < 24) (hs : s < 16) : ∃ (a' : Nat → Nat → Int32) (v' : Nat → Int32) (t' : Nat → Nat → Int64), Rn E 10 mX8_flume (0, [(0, .ref 53), (1, .int (nI m)), (2, .int (nI s)), (3, .int 0)], [], wY ax vx tx a v t) (some (.int (cW c mn k (m * 16 + s))), wY ax vx tx a' v' t') ∧ eqM a v a' v' := by
  obtain ⟨a1, v1, hr, he, hC, hL, h33⟩ := m_find (E := E) (ax := ax) (vx := vx) (tx := tx) (t := t) h
  refine ⟨a1, v1, t, ?_, he⟩
  iterate 1 refine Rn.step rfl ?_
  refine Rn.callv rfl rfl rfl (by decide) hr ?_
  iterate 1 refine Rn.step rfl ?_
  refine Rn.calli rfl rfl rfl (by decide) (m_isMinute ((nI m)) _) (fun y0 f0 => ?_)
  refine Rn.br2 rfl (by rw [f0]; exact ib_ne0.mpr (inB_nI (n := 24) hm (by decide))) ?_
  iterate 1 refine Rn.step rfl ?_
  refine Rn.calli rfl rfl rfl (by decide) (m_isSpan ((nI s)) _) (fun y1 f1 => ?_)
  refine Rn.br2 rfl (by rw [f1]; exact ib_ne0.mpr (inB_nI (n := 16) hs (by decide))) ?_
  iterate 1 refine Rn.step rfl ?_
  refine Rn.calli rfl rfl rfl (by decide) (m_isTwo (0) _) (fun y2 f2 => ?_)
  refine Rn.br2 rfl (by rw [f2]; exact ib_ne0.mpr ((by decide))) ?_
  iterate 4 refine Rn.step rfl ?_
  refine Rn.calli rfl rfl rfl (by decide) (m_flumeBy0 hC hL hm hs) (fun z f => ?_)
  rw [f]
  iterate 1 refine Rn.step rfl ?_
  exact Rn.ret rfl
theorem mq_flume1 (h : REL c vc a v n k q mn sm tt ya yb yc) {m s : Nat} (hm : m < 24) (hs : s < 16) : ∃ (a' : Nat → Nat → Int32) (v' : Nat → Int32) (t' : Nat → Nat → Int64), Rn E 10 mX8_flume (0, [(0, .ref 53), (1, .int (nI m)), (2, .int (nI s)), (3, .int 1)], [], wY ax vx tx a v t) (some (.int (liF (cDr c mn k n).1 (c 8) m (nI s) 0 n)), wY ax vx tx a' v' t') ∧ eqM a v a' v' := by
  obtain ⟨a1, v1, hr, he, hC, hL, h33⟩ := m_find (E := E) (ax := ax) (vx := vx) (tx := tx) (t := t) h
  refine ⟨a1, v1, t, ?_, he⟩
  iterate 1 refine Rn.step rfl ?_
  refine Rn.callv rfl rfl rfl (by decide) hr ?_
  iterate 1 refine Rn.step rfl ?_
  refine Rn.calli rfl rfl rfl (by decide) (m_isMinute ((nI m)) _) (fun y0 f0 => ?_)
  refine Rn.br2 rfl (by rw [f0]; exact ib_ne0.mpr (inB_nI (n := 24) hm (by decide))) ?_
  iterate 1 refine Rn.step rfl ?_
  refine Rn.calli rfl rfl rfl (by decide) (m_isSpan ((nI s)) _) (fun y1 f1 => ?_)
  refine Rn.br2 rfl (by rw [f1]; exact ib_ne0.mpr (inB_nI (n := 16) hs (by decide))) ?_
  iterate 1 refine Rn.step rfl ?_
  refine Rn.calli rfl rfl rfl (by decide) (m_isTwo (1) _) (fun y2 f2 => ?_)
  refine Rn.br2 rfl (by rw [f2]; exact ib_ne0.mpr ((by decide))) ?_
  iterate 4 refine Rn.step rfl ?_
  refine Rn.calli rfl rfl rfl (by decide) (m_flumeBy1 hC hL hm hs) (fun z f => ?_)
  rw [f]
  iterate 1 refine Rn.step rfl ?_
  exact Rn.ret rfl
theorem mq_at_bad (h : REL c vc a v n k q mn sm tt ya yb yc) (x y z : Int32) (hb : ¬ (inB x 24 ∧ inB y (nI n) ∧ inB z 2)) : ∃ (a' : Nat → Nat → Int32) (v' : Nat → Int32) (t' : Nat → Nat → Int64), Rn E 10 mX8_at (0, [(0, .ref 53), (1, .int x), (2, .int y), (3, .int z)], [], wY ax vx tx a v t) (some (.int (-2)), wY ax vx tx a' v' t') ∧ eqM a v a' v' := by
  obtain ⟨a1, v1, hr, he, hC, hL, h33⟩ := m_find (E := E) (ax := ax) (vx := vx) (tx := tx) (t := t) h
  refine ⟨a1, v1, t, ?_, he⟩
  iterate 1 refine Rn.step rfl ?_
  refine Rn.callv rfl rfl rfl (by decide) hr ?_
  iterate 1 refine Rn.step rfl ?_
  refine Rn.calli rfl rfl rfl (by decide) (m_isMinute x _) (fun y0 f0 => ?_)
  have f0 : y0 = ib (inB x 24) := f0
  refine Rn.br rfl (fun p0 => ?_) (fun p0 => ?_)
  · iterate 1 refine Rn.step rfl ?_
    exact Rn.ret rfl
  · rw [f0, ib_ne0] at p0
    iterate 2 refine Rn.step rfl ?_
    refine Rn.calli rfl rfl rfl (by decide) (m_isLog y hC.1.1 hC.1.2) (fun y1 f1 => ?_)
    have f1 : y1 = ib (inB y (nI n)) := f1
    refine Rn.br rfl (fun p1 => ?_) (fun p1 => ?_)
    · iterate 1 refine Rn.step rfl ?_
      exact Rn.ret rfl
    · rw [f1, ib_ne0] at p1
      iterate 1 refine Rn.step rfl ?_
      refine Rn.calli rfl rfl rfl (by decide) (m_isTwo z _) (fun y2 f2 => ?_)
      have f2 : y2 = ib (inB z 2) := f2
      refine Rn.br1 rfl (by rw [f2]; exact ib_eq0.mpr (fun p => hb ⟨p0, p1, p⟩)) ?_
      iterate 1 refine Rn.step rfl ?_
      exact Rn.ret rfl
theorem mq_at0 (h : REL c vc a v n k q mn sm tt ya yb yc) {m l : Nat} (hm : m < 24) (hl : l < n) : ∃ (a' : Nat → Nat → Int32) (v' : Nat → Int32) (t' : Nat → Nat → Int64), Rn E 10 mX8_at (0, [(0, .ref 53), (1, .int (nI m)), (2, .int (nI l)), (3, .int 0)], [], wY ax vx tx a v t) (some (.int ((cDr c mn k n).1 (m * 8 + l))), wY ax vx tx a' v' t') ∧ eqM a v a' v' := by
  obtain ⟨a1, v1, hr, he, hC, hL, h33⟩ := m_find (E := E) (ax := ax) (vx := vx) (tx := tx) (t := t) h
  refine ⟨a1, v1, t, ?_, he⟩
  iterate 1 refine Rn.step rfl ?_
  refine Rn.callv rfl rfl rfl (by decide) hr ?_
  iterate 1 refine Rn.step rfl ?_
  refine Rn.calli rfl rfl rfl (by decide) (m_isMinute ((nI m)) _) (fun y0 f0 => ?_)
  refine Rn.br2 rfl (by rw [f0]; exact ib_ne0.mpr (inB_nI (n := 24) hm (by decide))) ?_
  iterate 2 refine Rn.step rfl ?_
  refine Rn.calli rfl rfl rfl (by decide) (m_isLog ((nI l)) hC.1.1 hC.1.2) (fun y1 f1 => ?_)
  refine Rn.br2 rfl (by rw [f1]; exact ib_ne0.mpr (inB_nI hl (by have := hC.1.1; omega))) ?_
  iterate 1 refine Rn.step rfl ?_
  refine Rn.calli rfl rfl rfl (by decide) (m_isTwo (0) _) (fun y2 f2 => ?_)
  refine Rn.br2 rfl (by rw [f2]; exact ib_ne0.mpr ((by decide))) ?_
  iterate 4 refine Rn.step rfl ?_
  refine Rn.calli rfl rfl rfl (by decide) (m_atBy0 hC hL hm hl) (fun z f => ?_)
  rw [f]
  iterate 1 refine Rn.step rfl ?_
  exact Rn.ret rfl
theorem mq_at1 (h : REL c vc a v n k q mn sm tt ya yb yc) {m l : Nat} (hm : m < 24) (hl : l < n) : ∃ (a' : Nat → Nat → Int32) (v' : Nat → Int32) (t' : Nat → Nat → Int64), Rn E 10 mX8_at (0, [(0, .ref 53), (1, .int (nI m)), (2, .int (nI l)), (3, .int 1)], [], wY ax vx tx a v t) (some (.int ((cDr c mn k n).2.1 (m * 8 + l))), wY ax vx tx a' v' t') ∧ eqM a v a' v' := by
  obtain ⟨a1, v1, hr, he, hC, hL, h33⟩ := m_find (E := E) (ax := ax) (vx := vx) (tx := tx) (t := t) h
  refine ⟨a1, v1, t, ?_, he⟩
  iterate 1 refine Rn.step rfl ?_
  refine Rn.callv rfl rfl rfl (by decide) hr ?_
  iterate 1 refine Rn.step rfl ?_
  refine Rn.calli rfl rfl rfl (by decide) (m_isMinute ((nI m)) _) (fun y0 f0 => ?_)
  refine Rn.br2 rfl (by rw [f0]; exact ib_ne0.mpr (inB_nI (n := 24) hm (by decide))) ?_
  iterate 2 refine Rn.step rfl ?_
  refine Rn.calli rfl rfl rfl (by decide) (m_isLog ((nI l)) hC.1.1 hC.1.2) (fun y1 f1 => ?_)
  refine Rn.br2 rfl (by rw [f1]; exact ib_ne0.mpr (inB_nI hl (by have := hC.1.1; omega))) ?_
  iterate 1 refine Rn.step rfl ?_
  refine Rn.calli rfl rfl rfl (by decide) (m_isTwo (1) _) (fun y2 f2 => ?_)
  refine Rn.br2 rfl (by rw [f2]; exact ib_ne0.mpr ((by decide))) ?_
  iterate 4 refine Rn.step rfl ?_
  refine Rn.calli rfl rfl rfl (by decide) (m_atBy1 hC hL hm hl) (fun z f => ?_)
  rw [f]
  iterate 1 refine Rn.step rfl ?_
  exact Rn.ret rfl
theorem mq_all_bad (h : REL c vc a v n k q mn sm tt ya yb yc) (x y : Int32) (hb : ¬ (inB x 24 ∧ inB y 2)) : ∃ (a' : Nat → Nat → Int32) (v' : Nat → Int32) (t' : Nat → Nat → Int64), Rn E 10 mX8_all (0, [(0, .ref 53), (1, .int x), (2, .int y)], [], wY ax vx tx a v t) (some (.int (-2)), wY ax vx tx a' v' t') ∧ eqM a v a' v' := by
  obtain ⟨a1, v1, hr, he, hC, hL, h33⟩ := m_find (E := E) (ax := ax) (vx := vx) (tx := tx) (t := t) h
  refine ⟨a1, v1, t, ?_, he⟩
  iterate 1 refine Rn.step rfl ?_
  refine Rn.callv rfl rfl rfl (by decide) hr ?_
  iterate 1 refine Rn.step rfl ?_
  refine Rn.calli rfl rfl rfl (by decide) (m_isMinute x _) (fun y0 f0 => ?_)
  have f0 : y0 = ib (inB x 24) := f0
  refine Rn.br rfl (fun p0 => ?_) (fun p0 => ?_)
  · iterate 1 refine Rn.step rfl ?_
    exact Rn.ret rfl
  · rw [f0, ib_ne0] at p0
    iterate 1 refine Rn.step rfl ?_
    refine Rn.calli rfl rfl rfl (by decide) (m_isTwo y _) (fun y1 f1 => ?_)
    have f1 : y1 = ib (inB y 2) := f1
    refine Rn.br1 rfl (by rw [f1]; exact ib_eq0.mpr (fun p => hb ⟨p0, p⟩)) ?_
    iterate 1 refine Rn.step rfl ?_
    exact Rn.ret rfl
theorem mq_all0 (h : REL c vc a v n k q mn sm tt ya yb yc) {m : Nat} (hm : m < 24) : ∃ (a' : Nat → Nat → Int32) (v' : Nat → Int32) (t' : Nat → Nat → Int64), Rn E 10 mX8_all (0, [(0, .ref 53), (1, .int (nI m)), (2, .int 0)], [], wY ax vx tx a v t) (some (.int (tog (cW c mn k) m)), wY ax vx tx a' v' t') ∧ eqM a v a' v' := by
  obtain ⟨a1, v1, hr, he, hC, hL, h33⟩ := m_find (E := E) (ax := ax) (vx := vx) (tx := tx) (t := t) h
  refine ⟨a1, v1, t, ?_, he⟩
  iterate 1 refine Rn.step rfl ?_
  refine Rn.callv rfl rfl rfl (by decide) hr ?_
  iterate 1 refine Rn.step rfl ?_
  refine Rn.calli rfl rfl rfl (by decide) (m_isMinute ((nI m)) _) (fun y0 f0 => ?_)
  refine Rn.br2 rfl (by rw [f0]; exact ib_ne0.mpr (inB_nI (n := 24) hm (by decide))) ?_
  iterate 1 refine Rn.step rfl ?_
  refine Rn.calli rfl rfl rfl (by decide) (m_isTwo (0) _) (fun y1 f1 => ?_)
  refine Rn.br2 rfl (by rw [f1]; exact ib_ne0.mpr ((by decide))) ?_
  iterate 3 refine Rn.step rfl ?_
  refine Rn.calli rfl rfl rfl (by decide) (m_allBy0 hC hL hm) (fun z f => ?_)
  rw [f]
  iterate 1 refine Rn.step rfl ?_
  exact Rn.ret rfl
theorem mq_all1 (h : REL c vc a v n k q mn sm tt ya yb yc) {m : Nat} (hm : m < 24) : ∃ (a' : Nat → Nat → Int32) (v' : Nat → Int32) (t' : Nat → Nat → Int64), Rn E 10 mX8_all (0, [(0, .ref 53), (1, .int (nI m)), (2, .int 1)], [], wY ax vx tx a v t) (some (.int (aflF (cDr c mn k n).1 m n)), wY ax vx tx a' v' t') ∧ eqM a v a' v' := by
  obtain ⟨a1, v1, hr, he, hC, hL, h33⟩ := m_find (E := E) (ax := ax) (vx := vx) (tx := tx) (t := t) h
  refine ⟨a1, v1, t, ?_, he⟩
  iterate 1 refine Rn.step rfl ?_
  refine Rn.callv rfl rfl rfl (by decide) hr ?_
  iterate 1 refine Rn.step rfl ?_
  refine Rn.calli rfl rfl rfl (by decide) (m_isMinute ((nI m)) _) (fun y0 f0 => ?_)
  refine Rn.br2 rfl (by rw [f0]; exact ib_ne0.mpr (inB_nI (n := 24) hm (by decide))) ?_
  iterate 1 refine Rn.step rfl ?_
  refine Rn.calli rfl rfl rfl (by decide) (m_isTwo (1) _) (fun y1 f1 => ?_)
  refine Rn.br2 rfl (by rw [f1]; exact ib_ne0.mpr ((by decide))) ?_
  iterate 3 refine Rn.step rfl ?_
  refine Rn.calli rfl rfl rfl (by decide) (m_allBy1 hC hL hm) (fun z f => ?_)
  rw [f]
  iterate 1 refine Rn.step rfl ?_
  exact Rn.ret rfl
theorem mq_out_bad (h : REL c vc a v n k q mn sm tt ya yb yc) (x y : Int32) (hb : ¬ (inB x (nI n) ∧ inB y 3)) : ∃ (a' : Nat → Nat → Int32) (v' : Nat → Int32) (t' : Nat → Nat → Int64), Rn E 10 mX8_out (0, [(0, .ref 53), (1, .int x), (2, .int y)], [], wY ax vx tx a v t) (some (.int (-2)), wY ax vx tx a' v' t') ∧ eqM a v a' v' := by
  obtain ⟨a1, v1, hr, he, hC, hL, h33⟩ := m_find (E := E) (ax := ax) (vx := vx) (tx := tx) (t := t) h
  refine ⟨a1, v1, t, ?_, he⟩
  iterate 1 refine Rn.step rfl ?_
  refine Rn.callv rfl rfl rfl (by decide) hr ?_
  iterate 2 refine Rn.step rfl ?_
  refine Rn.calli rfl rfl rfl (by decide) (m_isLog x hC.1.1 hC.1.2) (fun y0 f0 => ?_)
  have f0 : y0 = ib (inB x (nI n)) := f0
  refine Rn.br rfl (fun p0 => ?_) (fun p0 => ?_)
  · iterate 1 refine Rn.step rfl ?_
    exact Rn.ret rfl
  · rw [f0, ib_ne0] at p0
    iterate 4 refine Rn.step rfl ?_
    refine Rn.calli rfl rfl rfl (by decide) (m_inB y 2 (by decide) _) (fun y1 f1 => ?_)
    have f1 : y1 = ib (inB y 3) := f1
    refine Rn.br1 rfl (by rw [f1]; exact ib_eq0.mpr (fun p => hb ⟨p0, p⟩)) ?_
    iterate 1 refine Rn.step rfl ?_
    exact Rn.ret rfl
theorem mq_out0 (h : REL c vc a v n k q mn sm tt ya yb yc) {l : Nat} (hl : l < n) : ∃ (a' : Nat → Nat → Int32) (v' : Nat → Int32) (t' : Nat → Nat → Int64), Rn E 10 mX8_out (0, [(0, .ref 53), (1, .int (nI l)), (2, .int 0)], [], wY ax vx tx a v t) (some (.int (moF (cDr c mn k n).1 l 0 24)), wY ax vx tx a' v' t') ∧ eqM a v a' v' := by
  obtain ⟨a1, v1, hr, he, hC, hL, h33⟩ := m_find (E := E) (ax := ax) (vx := vx) (tx := tx) (t := t) h
  refine ⟨a1, v1, t, ?_, he⟩
  iterate 1 refine Rn.step rfl ?_
  refine Rn.callv rfl rfl rfl (by decide) hr ?_
  iterate 2 refine Rn.step rfl ?_
  refine Rn.calli rfl rfl rfl (by decide) (m_isLog ((nI l)) hC.1.1 hC.1.2) (fun y0 f0 => ?_)
  refine Rn.br2 rfl (by rw [f0]; exact ib_ne0.mpr (inB_nI hl (by have := hC.1.1; omega))) ?_
  iterate 4 refine Rn.step rfl ?_
  refine Rn.calli rfl rfl rfl (by decide) (m_inB (0) 2 (by decide) _) (fun y1 f1 => ?_)
  refine Rn.br2 rfl (by rw [f1]; exact ib_ne0.mpr ((by decide))) ?_
  iterate 3 refine Rn.step rfl ?_
  refine Rn.calli rfl rfl rfl (by decide) (m_outBy0 hC hL hl) (fun z f => ?_)
  rw [f]
  iterate 1 refine Rn.step rfl ?_
  exact Rn.ret rfl
theorem mq_out1 (h : REL c vc a v n k q mn sm tt ya yb yc) {l : Nat} (hl : l < n) : ∃ (a' : Nat → Nat → Int32) (v' : Nat → Int32) (t' : Nat → Nat → Int64), Rn E 10 mX8_out (0, [(0, .ref 53), (1, .int (nI l)), (2, .int 1)], [], wY ax vx tx a v t) (some (.int (miF (cDr c mn k n).2.1 l 1)), wY ax vx tx a' v' t') ∧ eqM a v a' v' := by
  obtain ⟨a1, v1, hr, he, hC, hL, h33⟩ := m_find (E := E) (ax := ax) (vx := vx) (tx := tx) (t := t) h
  refine ⟨a1, v1, t, ?_, he⟩
  iterate 1 refine Rn.step rfl ?_
  refine Rn.callv rfl rfl rfl (by decide) hr ?_
  iterate 2 refine Rn.step rfl ?_
  refine Rn.calli rfl rfl rfl (by decide) (m_isLog ((nI l)) hC.1.1 hC.1.2) (fun y0 f0 => ?_)
  refine Rn.br2 rfl (by rw [f0]; exact ib_ne0.mpr (inB_nI hl (by have := hC.1.1; omega))) ?_
  iterate 4 refine Rn.step rfl ?_
  refine Rn.calli rfl rfl rfl (by decide) (m_inB (1) 2 (by decide) _) (fun y1 f1 => ?_)
  refine Rn.br2 rfl (by rw [f1]; exact ib_ne0.mpr ((by decide))) ?_
  iterate 3 refine Rn.step rfl ?_
  refine Rn.calli rfl rfl rfl (by decide) (m_outBy1 hC hL hl) (fun z f => ?_)
  rw [f]
  iterate 1 refine Rn.step rfl ?_
  exact Rn.ret rfl
theorem mq_out2 (h : REL c vc a v n k q mn sm tt ya yb yc) {l : Nat} (hl : l < n) : ∃ (a' : Nat → Nat → Int32) (v' : Nat → Int32) (t' : Nat → Nat → Int64), Rn E 10 mX8_out (0, [(0, .ref 53), (1, .int (nI l)), (2, .int 2)], [], wY ax vx tx a v t) (some (.int (miF (cDr c mn k n).2.1 l 2)), wY ax vx tx a' v' t') ∧ eqM a v a' v' := by
  obtain ⟨a1, v1, hr, he, hC, hL, h33⟩ := m_find (E := E) (ax := ax) (vx := vx) (tx := tx) (t := t) h
  refine ⟨a1, v1, t, ?_, he⟩
  iterate 1 refine Rn.step rfl ?_
  refine Rn.callv rfl rfl rfl (by decide) hr ?_
  iterate 2 refine Rn.step rfl ?_
  refine Rn.calli rfl rfl rfl (by decide) (m_isLog ((nI l)) hC.1.1 hC.1.2) (fun y0 f0 => ?_)
  refine Rn.br2 rfl (by rw [f0]; exact ib_ne0.mpr (inB_nI hl (by have := hC.1.1; omega))) ?_
  iterate 4 refine Rn.step rfl ?_
  refine Rn.calli rfl rfl rfl (by decide) (m_inB (2) 2 (by decide) _) (fun y1 f1 => ?_)
  refine Rn.br2 rfl (by rw [f1]; exact ib_ne0.mpr ((by decide))) ?_
  iterate 3 refine Rn.step rfl ?_
  refine Rn.calli rfl rfl rfl (by decide) (m_outBy2 hC hL hl) (fun z f => ?_)
  rw [f]
  iterate 1 refine Rn.step rfl ?_
  exact Rn.ret rfl
theorem mq_jam (h : REL c vc a v n k q mn sm tt ya yb yc) : ∃ (a' : Nat → Nat → Int32) (v' : Nat → Int32) (t' : Nat → Nat → Int64), Rn E 10 mX8_jam (0, [(0, .ref 53)], [], wY ax vx tx a v t) (some (.int (jmF (cDr c mn k n).2.1 n 0 24)), wY ax vx tx a' v' t') ∧ eqM a v a' v' := by
  obtain ⟨a1, v1, hr, he, hC, hL, h33⟩ := m_find (E := E) (ax := ax) (vx := vx) (tx := tx) (t := t) h
  refine ⟨a1, v1, t, ?_, he⟩
  iterate 1 refine Rn.step rfl ?_
  refine Rn.callv rfl rfl rfl (by decide) hr ?_
  iterate 1 refine Rn.step rfl ?_
  refine Rn.calli rfl rfl rfl (by decide) (m_jamNow hC hL) (fun z f => ?_)
  rw [f]
  exact Rn.ret rfl
theorem mq_worst (h : REL c vc a v n k q mn sm tt ya yb yc) : ∃ (a' : Nat → Nat → Int32) (v' : Nat → Int32) (t' : Nat → Nat → Int64), Rn E 10 mX8_worst (0, [(0, .ref 53)], [], wY ax vx tx a v t) (some (.int (woF (cDr c mn k n).2.1 n).1), wY ax vx tx a' v' t') ∧ eqM a v a' v' := by
  obtain ⟨a1, v1, hr, he, hC, hL, h33⟩ := m_find (E := E) (ax := ax) (vx := vx) (tx := tx) (t := t) h
  refine ⟨a1, v1, t, ?_, he⟩
  iterate 1 refine Rn.step rfl ?_
  refine Rn.callv rfl rfl rfl (by decide) hr ?_
  iterate 1 refine Rn.step rfl ?_
  refine Rn.calli rfl rfl rfl (by decide) (m_worstNow hC hL) (fun z f => ?_)
  rw [f]
  exact Rn.ret rfl
theorem m_leftBy0 {W : Nat → Int32} {D : dS} (hC : MC c a v n k q mn sm tt) (hL : LW a n (c 8) W D) : Rn E 2 mX8_leftBy (0, [(0, .ref 53), (1, .int 0)], [], wY ax vx tx a v t) (some (.int (drF W)), wY ax vx tx a v t) := by
  refine Rn.step rfl ?_
  refine Rn.step rfl ?_
  refine Rn.step rfl ?_
  refine Rn.calli rfl rfl rfl (by decide) (m_dryNow hC hL) (fun z f => ?_)
  rw [f]
  refine Rn.step rfl ?_
  exact Rn.ret rfl
theorem m_leftBy1 {W : Nat → Int32} {D : dS} (hC : MC c a v n k q mn sm tt) (hL : LW a n (c 8) W D) : Rn E 2 mX8_leftBy (0, [(0, .ref 53), (1, .int 1)], [], wY ax vx tx a v t) (some (.int (evB n &&& (obF D.1 n ^^^ -1))), wY ax vx tx a v t) := by
  refine Rn.step rfl ?_
  refine Rn.step rfl ?_
  refine Rn.step rfl ?_
  refine Rn.calli rfl rfl rfl (by decide) (m_lateNow hC hL) (fun z f => ?_)
  rw [f]
  exact Rn.ret rfl
theorem mq_left_bad (h : REL c vc a v n k q mn sm tt ya yb yc) (x : Int32) (hb : ¬ (inB x 2)) : ∃ (a' : Nat → Nat → Int32) (v' : Nat → Int32) (t' : Nat → Nat → Int64), Rn E 10 mX8_left (0, [(0, .ref 53), (1, .int x)], [], wY ax vx tx a v t) (some (.int (-2)), wY ax vx tx a' v' t') ∧ eqM a v a' v' := by
  obtain ⟨a1, v1, hr, he, hC, hL, h33⟩ := m_find (E := E) (ax := ax) (vx := vx) (tx := tx) (t := t) h
  refine ⟨a1, v1, t, ?_, he⟩
  iterate 1 refine Rn.step rfl ?_
  refine Rn.callv rfl rfl rfl (by decide) hr ?_
  iterate 1 refine Rn.step rfl ?_
  refine Rn.calli rfl rfl rfl (by decide) (m_isTwo x _) (fun y0 f0 => ?_)
  have f0 : y0 = ib (inB x 2) := f0
  refine Rn.br1 rfl (by rw [f0]; exact ib_eq0.mpr (fun p => hb p)) ?_
  iterate 1 refine Rn.step rfl ?_
  exact Rn.ret rfl
theorem mq_left0 (h : REL c vc a v n k q mn sm tt ya yb yc) : ∃ (a' : Nat → Nat → Int32) (v' : Nat → Int32) (t' : Nat → Nat → Int64), Rn E 10 mX8_left (0, [(0, .ref 53), (1, .int 0)], [], wY ax vx tx a v t) (some (.int (drF (cW c mn k))), wY ax vx tx a' v' t') ∧ eqM a v a' v' := by
  obtain ⟨a1, v1, hr, he, hC, hL, h33⟩ := m_find (E := E) (ax := ax) (vx := vx) (tx := tx) (t := t) h
  refine ⟨a1, v1, t, ?_, he⟩
  iterate 1 refine Rn.step rfl ?_
  refine Rn.callv rfl rfl rfl (by decide) hr ?_
  iterate 1 refine Rn.step rfl ?_
  refine Rn.calli rfl rfl rfl (by decide) (m_isTwo (0) _) (fun y0 f0 => ?_)
  refine Rn.br2 rfl (by rw [f0]; exact ib_ne0.mpr ((by decide))) ?_
  iterate 2 refine Rn.step rfl ?_
  refine Rn.calli rfl rfl rfl (by decide) (m_leftBy0 hC hL) (fun z f => ?_)
  rw [f]
  iterate 1 refine Rn.step rfl ?_
  exact Rn.ret rfl
theorem mq_left1 (h : REL c vc a v n k q mn sm tt ya yb yc) : ∃ (a' : Nat → Nat → Int32) (v' : Nat → Int32) (t' : Nat → Nat → Int64), Rn E 10 mX8_left (0, [(0, .ref 53), (1, .int 1)], [], wY ax vx tx a v t) (some (.int (evB n &&& (obF (cDr c mn k n).1 n ^^^ -1))), wY ax vx tx a' v' t') ∧ eqM a v a' v' := by
  obtain ⟨a1, v1, hr, he, hC, hL, h33⟩ := m_find (E := E) (ax := ax) (vx := vx) (tx := tx) (t := t) h
  refine ⟨a1, v1, t, ?_, he⟩
  iterate 1 refine Rn.step rfl ?_
  refine Rn.callv rfl rfl rfl (by decide) hr ?_
  iterate 1 refine Rn.step rfl ?_
  refine Rn.calli rfl rfl rfl (by decide) (m_isTwo (1) _) (fun y0 f0 => ?_)
  refine Rn.br2 rfl (by rw [f0]; exact ib_ne0.mpr ((by decide))) ?_
  iterate 2 refine Rn.step rfl ?_
  refine Rn.calli rfl rfl rfl (by decide) (m_leftBy1 hC hL) (fun z f => ?_)
  rw [f]
  iterate 1 refine Rn.step rfl ?_
  exact Rn.ret rfl
theorem mq_send_bad (h : REL c vc a v n k q mn sm tt ya yb yc) (x y : Int32) (hb : ¬ (inB x (nI n) ∧ inB y 2)) : ∃ (a' : Nat → Nat → Int32) (v' : Nat → Int32) (t' : Nat → Nat → Int64), Rn E 10 mX8_send (0, [(0, .ref 53), (1, .int x), (2, .int y)], [], wY ax vx tx a v t) (some (.int (-2)), wY ax vx tx a' v' t') ∧ eqM a v a' v' := by
  obtain ⟨a1, v1, hr, he, hC, hL, h33⟩ := m_find (E := E) (ax := ax) (vx := vx) (tx := tx) (t := t) h
  refine ⟨a1, v1, t, ?_, he⟩
  iterate 1 refine Rn.step rfl ?_
  refine Rn.callv rfl rfl rfl (by decide) hr ?_
  iterate 2 refine Rn.step rfl ?_
  refine Rn.calli rfl rfl rfl (by decide) (m_isLog x hC.1.1 hC.1.2) (fun y0 f0 => ?_)
  have f0 : y0 = ib (inB x (nI n)) := f0
  refine Rn.br rfl (fun p0 => ?_) (fun p0 => ?_)
  · iterate 1 refine Rn.step rfl ?_
    exact Rn.ret rfl
  · rw [f0, ib_ne0] at p0
    iterate 1 refine Rn.step rfl ?_
    refine Rn.calli rfl rfl rfl (by decide) (m_isTwo y _) (fun y1 f1 => ?_)
    have f1 : y1 = ib (inB y 2) := f1
    refine Rn.br1 rfl (by rw [f1]; exact ib_eq0.mpr (fun p => hb ⟨p0, p⟩)) ?_
    iterate 1 refine Rn.step rfl ?_
    exact Rn.ret rfl
theorem mq_send0 (h : REL c vc a v n k q mn sm tt ya yb yc) {l : Nat} (hl : l < n) : ∃ (a' : Nat → Nat → Int32) (v' : Nat → Int32) (t' : Nat → Nat → Int64), Rn E 10 mX8_send (0, [(0, .ref 53), (1, .int (nI l)), (2, .int 0)], [], wY ax vx tx a v t) (some (.int (sdF (c 10) (c 12) mn k n (c 4) (c 7) (c 8) (c 6) (cW c mn k) l).1), wY ax vx tx a' v' t') ∧ eqM a v a' v' := by
  obtain ⟨a1, v1, hr, he, hC, hL, h33⟩ := m_find (E := E) (ax := ax) (vx := vx) (tx := tx) (t := t) h
  obtain ⟨a2, hr2, hf2, -⟩ := m_sendOf (E := E) (ax := ax) (vx := vx) (tx := tx) (t := t) hC h33 hl 0
  refine ⟨a2, v1, t, ?_, he.trans (eqM.of hf2)⟩
  iterate 1 refine Rn.step rfl ?_
  refine Rn.callv rfl rfl rfl (by decide) hr ?_
  iterate 2 refine Rn.step rfl ?_
  refine Rn.calli rfl rfl rfl (by decide) (m_isLog ((nI l)) hC.1.1 hC.1.2) (fun y0 f0 => ?_)
  refine Rn.br2 rfl (by rw [f0]; exact ib_ne0.mpr (inB_nI hl (by have := hC.1.1; omega))) ?_
  iterate 1 refine Rn.step rfl ?_
  refine Rn.calli rfl rfl rfl (by decide) (m_isTwo (0) _) (fun y1 f1 => ?_)
  refine Rn.br2 rfl (by rw [f1]; exact ib_ne0.mpr ((by decide))) ?_
  iterate 3 refine Rn.step rfl ?_
  refine Rn.calli rfl rfl rfl (by decide) hr2 (fun z f => ?_)
  rw [f]
  iterate 1 refine Rn.step rfl ?_
  exact Rn.ret rfl
theorem mq_send1 (h : REL c vc a v n k q mn sm tt ya yb yc) {l : Nat} (hl : l < n) : ∃ (a' : Nat → Nat → Int32) (v' : Nat → Int32) (t' : Nat → Nat → Int64), Rn E 10 mX8_send (0, [(0, .ref 53), (1, .int (nI l)), (2, .int 1)], [], wY ax vx tx a v t) (some (.int (sdF (c 10) (c 12) mn k n (c 4) (c 7) (c 8) (c 6) (cW c mn k) l).2), wY ax vx tx a' v' t') ∧ eqM a v a' v' := by
  obtain ⟨a1, v1, hr, he, hC, hL, h33⟩ := m_find (E := E) (ax := ax) (vx := vx) (tx := tx) (t := t) h
  obtain ⟨a2, hr2, hf2, -⟩ := m_sendOf (E := E) (ax := ax) (vx := vx) (tx := tx) (t := t) hC h33 hl 1
  refine ⟨a2, v1, t, ?_, he.trans (eqM.of hf2)⟩
  iterate 1 refine Rn.step rfl ?_
  refine Rn.callv rfl rfl rfl (by decide) hr ?_
  iterate 2 refine Rn.step rfl ?_
  refine Rn.calli rfl rfl rfl (by decide) (m_isLog ((nI l)) hC.1.1 hC.1.2) (fun y0 f0 => ?_)
  refine Rn.br2 rfl (by rw [f0]; exact ib_ne0.mpr (inB_nI hl (by have := hC.1.1; omega))) ?_
  iterate 1 refine Rn.step rfl ?_
  refine Rn.calli rfl rfl rfl (by decide) (m_isTwo (1) _) (fun y1 f1 => ?_)
  refine Rn.br2 rfl (by rw [f1]; exact ib_ne0.mpr ((by decide))) ?_
  iterate 3 refine Rn.step rfl ?_
  refine Rn.calli rfl rfl rfl (by decide) hr2 (fun z f => ?_)
  rw [f]
  iterate 1 refine Rn.step rfl ?_
  exact Rn.ret rfl
theorem mq_steep_bad (h : REL c vc a v n k q mn sm tt ya yb yc) (x : Int32) (hb : ¬ (inB x 2)) : ∃ (a' : Nat → Nat → Int32) (v' : Nat → Int32) (t' : Nat → Nat → Int64), Rn E 10 mX8_steep (0, [(0, .ref 53), (1, .int x)], [], wY ax vx tx a v t) (some (.int (-2)), wY ax vx tx a' v' t') ∧ eqM a v a' v' := by
  obtain ⟨a1, v1, hr, he, hC, hL, h33⟩ := m_find (E := E) (ax := ax) (vx := vx) (tx := tx) (t := t) h
  refine ⟨a1, v1, t, ?_, he⟩
  iterate 1 refine Rn.step rfl ?_
  refine Rn.callv rfl rfl rfl (by decide) hr ?_
  iterate 1 refine Rn.step rfl ?_
  refine Rn.calli rfl rfl rfl (by decide) (m_isTwo x _) (fun y0 f0 => ?_)
  have f0 : y0 = ib (inB x 2) := f0
  refine Rn.br1 rfl (by rw [f0]; exact ib_eq0.mpr (fun p => hb p)) ?_
  iterate 1 refine Rn.step rfl ?_
  exact Rn.ret rfl
theorem mq_fill_bad (h : REL c vc a v n k q mn sm tt ya yb yc) (x : Int32) (hb : ¬ (inB x 2)) : ∃ (a' : Nat → Nat → Int32) (v' : Nat → Int32) (t' : Nat → Nat → Int64), Rn E 10 mX8_fill (0, [(0, .ref 53), (1, .int x)], [], wY ax vx tx a v t) (some (.int (-2)), wY ax vx tx a' v' t') ∧ eqM a v a' v' := by
  obtain ⟨a1, v1, hr, he, hC, hL, h33⟩ := m_find (E := E) (ax := ax) (vx := vx) (tx := tx) (t := t) h
  refine ⟨a1, v1, t, ?_, he⟩
  iterate 1 refine Rn.step rfl ?_
  refine Rn.callv rfl rfl rfl (by decide) hr ?_
  iterate 1 refine Rn.step rfl ?_
  refine Rn.calli rfl rfl rfl (by decide) (m_isTwo x _) (fun y0 f0 => ?_)
  have f0 : y0 = ib (inB x 2) := f0
  refine Rn.br1 rfl (by rw [f0]; exact ib_eq0.mpr (fun p => hb p)) ?_
  iterate 1 refine Rn.step rfl ?_
  exact Rn.ret rfl
theorem mq_steep0 (h : REL c vc a v n k q mn sm tt ya yb yc) : ∃ (a' : Nat → Nat → Int32) (v' : Nat → Int32) (t' : Nat → Nat → Int64), Rn E 10 mX8_steep (0, [(0, .ref 53), (1, .int 0)], [], wY ax vx tx a v t) (some (.int (spF (c 10) (c 12) mn k n (c 4) (c 7) (c 8) (c 6) (cW c mn k)).1), wY ax vx tx a' v' t') ∧ eqM a v a' v' := by
  obtain ⟨a1, v1, hr, he, hC, hL, h33⟩ := m_find (E := E) (ax := ax) (vx := vx) (tx := tx) (t := t) h
  obtain ⟨a2, hr2, hf2, -⟩ := m_steepBy (E := E) (ax := ax) (vx := vx) (tx := tx) (t := t) hC h33 0
  refine ⟨a2, v1, t, ?_, he.trans (eqM.of hf2)⟩
  iterate 1 refine Rn.step rfl ?_
  refine Rn.callv rfl rfl rfl (by decide) hr ?_
  iterate 1 refine Rn.step rfl ?_
  refine Rn.calli rfl rfl rfl (by decide) (m_isTwo (0) _) (fun y0 f0 => ?_)
  refine Rn.br2 rfl (by rw [f0]; exact ib_ne0.mpr ((by decide))) ?_
  iterate 2 refine Rn.step rfl ?_
  refine Rn.calli rfl rfl rfl (by decide) hr2 (fun z f => ?_)
  rw [f]
  iterate 1 refine Rn.step rfl ?_
  exact Rn.ret rfl
theorem mq_fill0 (h : REL c vc a v n k q mn sm tt ya yb yc) : ∃ (a' : Nat → Nat → Int32) (v' : Nat → Int32) (t' : Nat → Nat → Int64), Rn E 10 mX8_fill (0, [(0, .ref 53), (1, .int 0)], [], wY ax vx tx a v t) (some (.int (flF (c 10) (c 12) mn k n (c 4) (c 5) (c 7) (c 8) (c 6)).1), wY ax vx tx a' v' t') ∧ eqM a v a' v' := by
  obtain ⟨a1, v1, hr, he, hC, hL, h33⟩ := m_find (E := E) (ax := ax) (vx := vx) (tx := tx) (t := t) h
  obtain ⟨a2, hr2, hf2, -⟩ := m_fillBy (E := E) (ax := ax) (vx := vx) (tx := tx) (t := t) hC h33 0
  refine ⟨a2, v1, t, ?_, he.trans (eqM.of hf2)⟩
  iterate 1 refine Rn.step rfl ?_
  refine Rn.callv rfl rfl rfl (by decide) hr ?_
  iterate 1 refine Rn.step rfl ?_
  refine Rn.calli rfl rfl rfl (by decide) (m_isTwo (0) _) (fun y0 f0 => ?_)
  refine Rn.br2 rfl (by rw [f0]; exact ib_ne0.mpr ((by decide))) ?_
  iterate 2 refine Rn.step rfl ?_
  refine Rn.calli rfl rfl rfl (by decide) hr2 (fun z f => ?_)
  rw [f]
  iterate 1 refine Rn.step rfl ?_
  exact Rn.ret rfl
theorem mq_steep1 (h : REL c vc a v n k q mn sm tt ya yb yc) : ∃ (a' : Nat → Nat → Int32) (v' : Nat → Int32) (t' : Nat → Nat → Int64), Rn E 10 mX8_steep (0, [(0, .ref 53), (1, .int 1)], [], wY ax vx tx a v t) (some (.int (spF (c 10) (c 12) mn k n (c 4) (c 7) (c 8) (c 6) (cW c mn k)).2), wY ax vx tx a' v' t') ∧ eqM a v a' v' := by
  obtain ⟨a1, v1, hr, he, hC, hL, h33⟩ := m_find (E := E) (ax := ax) (vx := vx) (tx := tx) (t := t) h
  obtain ⟨a2, hr2, hf2, -⟩ := m_steepBy (E := E) (ax := ax) (vx := vx) (tx := tx) (t := t) hC h33 1
  refine ⟨a2, v1, t, ?_, he.trans (eqM.of hf2)⟩
  iterate 1 refine Rn.step rfl ?_
  refine Rn.callv rfl rfl rfl (by decide) hr ?_
  iterate 1 refine Rn.step rfl ?_
  refine Rn.calli rfl rfl rfl (by decide) (m_isTwo (1) _) (fun y0 f0 => ?_)
  refine Rn.br2 rfl (by rw [f0]; exact ib_ne0.mpr ((by decide))) ?_
  iterate 2 refine Rn.step rfl ?_
  refine Rn.calli rfl rfl rfl (by decide) hr2 (fun z f => ?_)
  rw [f]
  iterate 1 refine Rn.step rfl ?_
  exact Rn.ret rfl
theorem mq_fill1 (h : REL c vc a v n k q mn sm tt ya yb yc) : ∃ (a' : Nat → Nat → Int32) (v' : Nat → Int32) (t' : Nat → Nat → Int64), Rn E 10 mX8_fill (0, [(0, .ref 53), (1, .int 1)], [], wY ax vx tx a v t) (some (.int (flF (c 10) (c 12) mn k n (c 4) (c 5) (c 7) (c 8) (c 6)).2), wY ax vx tx a' v' t') ∧ eqM a v a' v' := by
  obtain ⟨a1, v1, hr, he, hC, hL, h33⟩ := m_find (E := E) (ax := ax) (vx := vx) (tx := tx) (t := t) h
  obtain ⟨a2, hr2, hf2, -⟩ := m_fillBy (E := E) (ax := ax) (vx := vx) (tx := tx) (t := t) hC h33 1
  refine ⟨a2, v1, t, ?_, he.trans (eqM.of hf2)⟩
  iterate 1 refine Rn.step rfl ?_
  refine Rn.callv rfl rfl rfl (by decide) hr ?_
  iterate 1 refine Rn.step rfl ?_
  refine Rn.calli rfl rfl rfl (by decide) (m_isTwo (1) _) (fun y0 f0 => ?_)
  refine Rn.br2 rfl (by rw [f0]; exact ib_ne0.mpr ((by decide))) ?_
  iterate 2 refine Rn.step rfl ?_
  refine Rn.calli rfl rfl rfl (by decide) hr2 (fun z f => ?_)
  rw [f]
  iterate 1 refine Rn.step rfl ?_
  exact Rn.ret rfl
theorem mq_never (h : REL c vc a v n k q mn sm tt ya yb yc) : ∃ (a' : Nat → Nat → Int32) (v' : Nat → Int32) (t' : Nat → Nat → Int64), Rn E 10 mX8_never (0, [(0, .ref 53)], [], wY ax vx tx a v t) (some (.int (neF c n k q mn sm)), wY ax vx tx a' v' t') ∧ eqM a v a' v' := by
  obtain ⟨a1, v1, hr, he, hC, hL, h33⟩ := m_find (E := E) (ax := ax) (vx := vx) (tx := tx) (t := t) h
  obtain ⟨a2, hr2, hf2, -⟩ := m_neverNow (E := E) (ax := ax) (vx := vx) (tx := tx) (t := t) hC h33
  refine ⟨a2, v1, t, ?_, he.trans (eqM.of hf2)⟩
  iterate 1 refine Rn.step rfl ?_
  refine Rn.callv rfl rfl rfl (by decide) hr ?_
  iterate 1 refine Rn.step rfl ?_
  refine Rn.calli rfl rfl rfl (by decide) hr2 (fun z f => ?_)
  rw [f]
  exact Rn.ret rfl
theorem mq_grade_bad (h : REL c vc a v n k q mn sm tt ya yb yc) (x : Int32) (hb : ¬ (inB x 16)) : ∃ (a' : Nat → Nat → Int32) (v' : Nat → Int32) (t' : Nat → Nat → Int64), Rn E 10 mX8_grade (0, [(0, .ref 53), (1, .int x)], [], wY ax vx tx a v t) (some (.int (-2)), wY ax vx tx a' v' t') ∧ eqM a v a' v' := by
  obtain ⟨a1, v1, hr, he, hC, hL, h33⟩ := m_find (E := E) (ax := ax) (vx := vx) (tx := tx) (t := t) h
  refine ⟨a1, v1, t, ?_, he⟩
  iterate 1 refine Rn.step rfl ?_
  refine Rn.callv rfl rfl rfl (by decide) hr ?_
  iterate 1 refine Rn.step rfl ?_
  refine Rn.calli rfl rfl rfl (by decide) (m_isSpan x _) (fun y0 f0 => ?_)
  have f0 : y0 = ib (inB x 16) := f0
  refine Rn.br1 rfl (by rw [f0]; exact ib_eq0.mpr (fun p => hb p)) ?_
  iterate 1 refine Rn.step rfl ?_
  exact Rn.ret rfl
theorem mq_grade (h : REL c vc a v n k q mn sm tt ya yb yc) {s : Nat} (hs : s < 16) : ∃ (a' : Nat → Nat → Int32) (v' : Nat → Int32) (t' : Nat → Nat → Int64), Rn E 10 mX8_grade (0, [(0, .ref 53), (1, .int (nI s))], [], wY ax vx tx a v t) (some (.int (grF c n k q mn sm s)), wY ax vx tx a' v' t') ∧ eqM a v a' v' := by
  obtain ⟨a1, v1, hr, he, hC, hL, h33⟩ := m_find (E := E) (ax := ax) (vx := vx) (tx := tx) (t := t) h
  obtain ⟨a2, hr2, hf2, -⟩ := m_gradeOf (E := E) (ax := ax) (vx := vx) (tx := tx) (t := t) hC h33 hs
  refine ⟨a2, v1, t, ?_, he.trans (eqM.of hf2)⟩
  iterate 1 refine Rn.step rfl ?_
  refine Rn.callv rfl rfl rfl (by decide) hr ?_
  iterate 1 refine Rn.step rfl ?_
  refine Rn.calli rfl rfl rfl (by decide) (m_isSpan ((nI s)) _) (fun y0 f0 => ?_)
  refine Rn.br2 rfl (by rw [f0]; exact ib_ne0.mpr (inB_nI (n := 16) hs (by decide))) ?_
  iterate 2 refine Rn.step rfl ?_
  refine Rn.calli rfl rfl rfl (by decide) hr2 (fun z f => ?_)
  rw [f]
  iterate 1 refine Rn.step rfl ?_
  exact Rn.ret rfl
theorem mq_draughts_bad (h : REL c vc a v n k q mn sm tt ya yb yc) (x : Int32) (hb : ¬ (inB x (nI n))) : ∃ (a' : Nat → Nat → Int32) (v' : Nat → Int32) (t' : Nat → Nat → Int64), Rn E 10 mX8_draughts (0, [(0, .ref 53), (1, .int x)], [], wY ax vx tx a v t) (some (.int (-2)), wY ax vx tx a' v' t') ∧ eqM a v a' v' := by
  obtain ⟨a1, v1, hr, he, hC, hL, h33⟩ := m_find (E := E) (ax := ax) (vx := vx) (tx := tx) (t := t) h
  refine ⟨a1, v1, t, ?_, he⟩
  iterate 1 refine Rn.step rfl ?_
  refine Rn.callv rfl rfl rfl (by decide) hr ?_
  iterate 2 refine Rn.step rfl ?_
  refine Rn.calli rfl rfl rfl (by decide) (m_isLog x hC.1.1 hC.1.2) (fun y0 f0 => ?_)
  have f0 : y0 = ib (inB x (nI n)) := f0
  refine Rn.br1 rfl (by rw [f0]; exact ib_eq0.mpr (fun p => hb p)) ?_
  iterate 1 refine Rn.step rfl ?_
  exact Rn.ret rfl
theorem mq_ask_bad (h : REL c vc a v n k q mn sm tt ya yb yc) (x : Int32) (hb : ¬ (inB x (nI n))) : ∃ (a' : Nat → Nat → Int32) (v' : Nat → Int32) (t' : Nat → Nat → Int64), Rn E 10 mX8_ask (0, [(0, .ref 53), (1, .int x)], [], wY ax vx tx a v t) (some (.int (-2)), wY ax vx tx a' v' t') ∧ eqM a v a' v' := by
  obtain ⟨a1, v1, hr, he, hC, hL, h33⟩ := m_find (E := E) (ax := ax) (vx := vx) (tx := tx) (t := t) h
  refine ⟨a1, v1, t, ?_, he⟩
  iterate 1 refine Rn.step rfl ?_
  refine Rn.callv rfl rfl rfl (by decide) hr ?_
  iterate 2 refine Rn.step rfl ?_
  refine Rn.calli rfl rfl rfl (by decide) (m_isLog x hC.1.1 hC.1.2) (fun y0 f0 => ?_)
  have f0 : y0 = ib (inB x (nI n)) := f0
  refine Rn.br1 rfl (by rw [f0]; exact ib_eq0.mpr (fun p => hb p)) ?_
  iterate 1 refine Rn.step rfl ?_
  exact Rn.ret rfl
theorem mq_draughts (h : REL c vc a v n k q mn sm tt ya yb yc) {l : Nat} (hl : l < n) : ∃ (a' : Nat → Nat → Int32) (v' : Nat → Int32) (t' : Nat → Nat → Int64), Rn E 10 mX8_draughts (0, [(0, .ref 53), (1, .int (nI l))], [], wY ax vx tx a v t) (some (.int (dgB c n k q mn sm l 9)), wY ax vx tx a' v' t') ∧ eqM a v a' v' := by
  obtain ⟨a1, v1, hr, he, hC, hL, h33⟩ := m_find (E := E) (ax := ax) (vx := vx) (tx := tx) (t := t) h
  obtain ⟨a2, T, hr2, hf2, -⟩ := m_draughtsOf (E := E) (ax := ax) (vx := vx) (tx := tx) (t := t) hC h33 hl
  refine ⟨a2, v1, va_up t 1 T, ?_, he.trans (eqM.of hf2)⟩
  iterate 1 refine Rn.step rfl ?_
  refine Rn.callv rfl rfl rfl (by decide) hr ?_
  iterate 2 refine Rn.step rfl ?_
  refine Rn.calli rfl rfl rfl (by decide) (m_isLog ((nI l)) hC.1.1 hC.1.2) (fun y0 f0 => ?_)
  refine Rn.br2 rfl (by rw [f0]; exact ib_ne0.mpr (inB_nI hl (by have := hC.1.1; omega))) ?_
  iterate 2 refine Rn.step rfl ?_
  refine Rn.calli rfl rfl rfl (by decide) hr2 (fun z f => ?_)
  rw [f]
  iterate 1 refine Rn.step rfl ?_
  exact Rn.ret rfl
theorem mq_ask (h : REL c vc a v n k q mn sm tt ya yb yc) {l : Nat} (hl : l < n) : ∃ (a' : Nat → Nat → Int32) (v' : Nat → Int32) (t' : Nat → Nat → Int64), Rn E 10 mX8_ask (0, [(0, .ref 53), (1, .int (nI l))], [], wY ax vx tx a v t) (some (.int (asF (dgB c n k q mn sm l 9) (dgT c n k mn l))), wY ax vx tx a' v' t') ∧ eqM a v a' v' := by
  obtain ⟨a1, v1, hr, he, hC, hL, h33⟩ := m_find (E := E) (ax := ax) (vx := vx) (tx := tx) (t := t) h
  obtain ⟨a2, T, hr2, hf2, -⟩ := m_askOf (E := E) (ax := ax) (vx := vx) (tx := tx) (t := t) hC h33 hl
  refine ⟨a2, v1, va_up t 1 T, ?_, he.trans (eqM.of hf2)⟩
  iterate 1 refine Rn.step rfl ?_
  refine Rn.callv rfl rfl rfl (by decide) hr ?_
  iterate 2 refine Rn.step rfl ?_
  refine Rn.calli rfl rfl rfl (by decide) (m_isLog ((nI l)) hC.1.1 hC.1.2) (fun y0 f0 => ?_)
  refine Rn.br2 rfl (by rw [f0]; exact ib_ne0.mpr (inB_nI hl (by have := hC.1.1; omega))) ?_
  iterate 2 refine Rn.step rfl ?_
  refine Rn.calli rfl rfl rfl (by decide) hr2 (fun z f => ?_)
  rw [f]
  iterate 1 refine Rn.step rfl ?_
  exact Rn.ret rfl
theorem mq_chance_bad (h : REL c vc a v n k q mn sm tt ya yb yc) (x y z : Int32) (hb : ¬ (inB x 17 ∧ inB y (nI n) ∧ inB z 2)) : ∃ (a' : Nat → Nat → Int32) (v' : Nat → Int32) (t' : Nat → Nat → Int64), Rn E 10 mX8_chance (0, [(0, .ref 53), (1, .int x), (2, .int y), (3, .int z)], [], wY ax vx tx a v t) (some (.long (-9223372036854775806)), wY ax vx tx a' v' t') ∧ eqM a v a' v' := by
  obtain ⟨a1, v1, hr, he, hC, hL, h33⟩ := m_find (E := E) (ax := ax) (vx := vx) (tx := tx) (t := t) h
  refine ⟨a1, v1, t, ?_, he⟩
  iterate 1 refine Rn.step rfl ?_
  refine Rn.callv rfl rfl rfl (by decide) hr ?_
  iterate 4 refine Rn.step rfl ?_
  refine Rn.calli rfl rfl rfl (by decide) (m_inB x 16 (by decide) _) (fun y0 f0 => ?_)
  have f0 : y0 = ib (inB x 17) := f0
  refine Rn.br rfl (fun p0 => ?_) (fun p0 => ?_)
  · iterate 1 refine Rn.step rfl ?_
    refine Rn.calll rfl rfl rfl (by decide) (m_no (-2) _) (fun z f => ?_)
    rw [f]
    exact Rn.ret rfl
  · rw [f0, ib_ne0] at p0
    iterate 2 refine Rn.step rfl ?_
    refine Rn.calli rfl rfl rfl (by decide) (m_isLog y hC.1.1 hC.1.2) (fun y1 f1 => ?_)
    have f1 : y1 = ib (inB y (nI n)) := f1
    refine Rn.br rfl (fun p1 => ?_) (fun p1 => ?_)
    · iterate 1 refine Rn.step rfl ?_
      refine Rn.calll rfl rfl rfl (by decide) (m_no (-2) _) (fun z f => ?_)
      rw [f]
      exact Rn.ret rfl
    · rw [f1, ib_ne0] at p1
      iterate 1 refine Rn.step rfl ?_
      refine Rn.calli rfl rfl rfl (by decide) (m_isTwo z _) (fun y2 f2 => ?_)
      have f2 : y2 = ib (inB z 2) := f2
      refine Rn.br1 rfl (by rw [f2]; exact ib_eq0.mpr (fun p => hb ⟨p0, p1, p⟩)) ?_
      iterate 1 refine Rn.step rfl ?_
      refine Rn.calll rfl rfl rfl (by decide) (m_no (-2) _) (fun z f => ?_)
      rw [f]
      exact Rn.ret rfl
theorem mq_chance0 (h : REL c vc a v n k q mn sm tt ya yb yc) {x l : Nat} (hx : x < 17) (hl : l < n) : ∃ (a' : Nat → Nat → Int32) (v' : Nat → Int32) (t' : Nat → Nat → Int64), Rn E 10 mX8_chance (0, [(0, .ref 53), (1, .int (nI x)), (2, .int (nI l)), (3, .int 0)], [], wY ax vx tx a v t) (some (.long (chF k (sxF c mn k n (nI x) l (2 ^ k))).1), wY ax vx tx a' v' t') ∧ eqM a v a' v' := by
  obtain ⟨a1, v1, hr, he, hC, hL, h33⟩ := m_find (E := E) (ax := ax) (vx := vx) (tx := tx) (t := t) h
  obtain ⟨a2, hr2, hf2, -⟩ := m_chanceOf (E := E) (ax := ax) (vx := vx) (tx := tx) (t := t) hC h33 hx hl 0
  refine ⟨a2, v1, t, ?_, he.trans (eqM.of hf2)⟩
  iterate 1 refine Rn.step rfl ?_
  refine Rn.callv rfl rfl rfl (by decide) hr ?_
  iterate 4 refine Rn.step rfl ?_
  refine Rn.calli rfl rfl rfl (by decide) (m_inB ((nI x)) 16 (by decide) _) (fun y0 f0 => ?_)
  refine Rn.br2 rfl (by rw [f0]; exact ib_ne0.mpr (inB_nI (n := 17) hx (by decide))) ?_
  iterate 2 refine Rn.step rfl ?_
  refine Rn.calli rfl rfl rfl (by decide) (m_isLog ((nI l)) hC.1.1 hC.1.2) (fun y1 f1 => ?_)
  refine Rn.br2 rfl (by rw [f1]; exact ib_ne0.mpr (inB_nI hl (by have := hC.1.1; omega))) ?_
  iterate 1 refine Rn.step rfl ?_
  refine Rn.calli rfl rfl rfl (by decide) (m_isTwo (0) _) (fun y2 f2 => ?_)
  refine Rn.br2 rfl (by rw [f2]; exact ib_ne0.mpr ((by decide))) ?_
  iterate 4 refine Rn.step rfl ?_
  refine Rn.calll rfl rfl rfl (by decide) hr2 (fun z f => ?_)
  rw [f]
  iterate 1 refine Rn.step rfl ?_
  exact Rn.ret rfl
theorem mq_chance1 (h : REL c vc a v n k q mn sm tt ya yb yc) {x l : Nat} (hx : x < 17) (hl : l < n) : ∃ (a' : Nat → Nat → Int32) (v' : Nat → Int32) (t' : Nat → Nat → Int64), Rn E 10 mX8_chance (0, [(0, .ref 53), (1, .int (nI x)), (2, .int (nI l)), (3, .int 1)], [], wY ax vx tx a v t) (some (.long (chF k (sxF c mn k n (nI x) l (2 ^ k))).2), wY ax vx tx a' v' t') ∧ eqM a v a' v' := by
  obtain ⟨a1, v1, hr, he, hC, hL, h33⟩ := m_find (E := E) (ax := ax) (vx := vx) (tx := tx) (t := t) h
  obtain ⟨a2, hr2, hf2, -⟩ := m_chanceOf (E := E) (ax := ax) (vx := vx) (tx := tx) (t := t) hC h33 hx hl 1
  refine ⟨a2, v1, t, ?_, he.trans (eqM.of hf2)⟩
  iterate 1 refine Rn.step rfl ?_
  refine Rn.callv rfl rfl rfl (by decide) hr ?_
  iterate 4 refine Rn.step rfl ?_
  refine Rn.calli rfl rfl rfl (by decide) (m_inB ((nI x)) 16 (by decide) _) (fun y0 f0 => ?_)
  refine Rn.br2 rfl (by rw [f0]; exact ib_ne0.mpr (inB_nI (n := 17) hx (by decide))) ?_
  iterate 2 refine Rn.step rfl ?_
  refine Rn.calli rfl rfl rfl (by decide) (m_isLog ((nI l)) hC.1.1 hC.1.2) (fun y1 f1 => ?_)
  refine Rn.br2 rfl (by rw [f1]; exact ib_ne0.mpr (inB_nI hl (by have := hC.1.1; omega))) ?_
  iterate 1 refine Rn.step rfl ?_
  refine Rn.calli rfl rfl rfl (by decide) (m_isTwo (1) _) (fun y2 f2 => ?_)
  refine Rn.br2 rfl (by rw [f2]; exact ib_ne0.mpr ((by decide))) ?_
  iterate 4 refine Rn.step rfl ?_
  refine Rn.calll rfl rfl rfl (by decide) hr2 (fun z f => ?_)
  rw [f]
  iterate 1 refine Rn.step rfl ?_
  exact Rn.ret rfl
theorem mq_seasons_bad (h : REL c vc a v n k q mn sm tt ya yb yc) (x y z : Int32) (hb : ¬ (inB y 17 ∧ inB z 2)) : ∃ (a' : Nat → Nat → Int32) (v' : Nat → Int32) (t' : Nat → Nat → Int64), Rn E 10 mX8_seasons (0, [(0, .ref 53), (1, .int x), (2, .int y), (3, .int z)], [], wY ax vx tx a v t) (some (.int (-2)), wY ax vx tx a' v' t') ∧ eqM a v a' v' := by
  obtain ⟨a1, v1, hr, he, hC, hL, h33⟩ := m_find (E := E) (ax := ax) (vx := vx) (tx := tx) (t := t) h
  refine ⟨a1, v1, t, ?_, he⟩
  iterate 1 refine Rn.step rfl ?_
  refine Rn.callv rfl rfl rfl (by decide) hr ?_
  iterate 4 refine Rn.step rfl ?_
  refine Rn.calli rfl rfl rfl (by decide) (m_inB y 16 (by decide) _) (fun y0 f0 => ?_)
  have f0 : y0 = ib (inB y 17) := f0
  refine Rn.br rfl (fun p0 => ?_) (fun p0 => ?_)
  · iterate 1 refine Rn.step rfl ?_
    exact Rn.ret rfl
  · rw [f0, ib_ne0] at p0
    iterate 1 refine Rn.step rfl ?_
    refine Rn.calli rfl rfl rfl (by decide) (m_isTwo z _) (fun y1 f1 => ?_)
    have f1 : y1 = ib (inB z 2) := f1
    refine Rn.br1 rfl (by rw [f1]; exact ib_eq0.mpr (fun p => hb ⟨p0, p⟩)) ?_
    iterate 1 refine Rn.step rfl ?_
    exact Rn.ret rfl
theorem mq_seasons0 (h : REL c vc a v n k q mn sm tt ya yb yc) (x : Int32) {N : Nat} (hN : N < 17) : ∃ (a' : Nat → Nat → Int32) (v' : Nat → Int32) (t' : Nat → Nat → Int64), Rn E 10 mX8_seasons (0, [(0, .ref 53), (1, .int x), (2, .int (nI N)), (3, .int 0)], [], wY ax vx tx a v t) (some (.int (bcF (obF (seD c n k mn x N).1 n))), wY ax vx tx a' v' t') ∧ eqM a v a' v' := by
  obtain ⟨a1, v1, hr, he, hC, hL, h33⟩ := m_find (E := E) (ax := ax) (vx := vx) (tx := tx) (t := t) h
  obtain ⟨a2, y, hr2, hf2, -⟩ := m_seasonsOf (E := E) (ax := ax) (vx := vx) (tx := tx) (t := t) (x := x) hN 0 hC h33 (REL.eqM h he).2.2.1 (REL.eqM h he).2.2.2.1
  refine ⟨a2, upd v1 35 y, t, ?_, he.trans ⟨hf2, fun j _ h2 => pk_un h2⟩⟩
  iterate 1 refine Rn.step rfl ?_
  refine Rn.callv rfl rfl rfl (by decide) hr ?_
  iterate 4 refine Rn.step rfl ?_
  refine Rn.calli rfl rfl rfl (by decide) (m_inB ((nI N)) 16 (by decide) _) (fun y0 f0 => ?_)
  refine Rn.br2 rfl (by rw [f0]; exact ib_ne0.mpr (inB_nI (n := 17) hN (by decide))) ?_
  iterate 1 refine Rn.step rfl ?_
  refine Rn.calli rfl rfl rfl (by decide) (m_isTwo (0) _) (fun y1 f1 => ?_)
  refine Rn.br2 rfl (by rw [f1]; exact ib_ne0.mpr ((by decide))) ?_
  iterate 4 refine Rn.step rfl ?_
  refine Rn.calli rfl rfl rfl (by decide) hr2 (fun z f => ?_)
  rw [f]
  iterate 1 refine Rn.step rfl ?_
  exact Rn.ret rfl
theorem mq_seasons1 (h : REL c vc a v n k q mn sm tt ya yb yc) (x : Int32) {N : Nat} (hN : N < 17) : ∃ (a' : Nat → Nat → Int32) (v' : Nat → Int32) (t' : Nat → Nat → Int64), Rn E 10 mX8_seasons (0, [(0, .ref 53), (1, .int x), (2, .int (nI N)), (3, .int 1)], [], wY ax vx tx a v t) (some (.int (maF (seD c n k mn x N).2.1 n 1)), wY ax vx tx a' v' t') ∧ eqM a v a' v' := by
  obtain ⟨a1, v1, hr, he, hC, hL, h33⟩ := m_find (E := E) (ax := ax) (vx := vx) (tx := tx) (t := t) h
  obtain ⟨a2, y, hr2, hf2, -⟩ := m_seasonsOf (E := E) (ax := ax) (vx := vx) (tx := tx) (t := t) (x := x) hN 1 hC h33 (REL.eqM h he).2.2.1 (REL.eqM h he).2.2.2.1
  refine ⟨a2, upd v1 35 y, t, ?_, he.trans ⟨hf2, fun j _ h2 => pk_un h2⟩⟩
  iterate 1 refine Rn.step rfl ?_
  refine Rn.callv rfl rfl rfl (by decide) hr ?_
  iterate 4 refine Rn.step rfl ?_
  refine Rn.calli rfl rfl rfl (by decide) (m_inB ((nI N)) 16 (by decide) _) (fun y0 f0 => ?_)
  refine Rn.br2 rfl (by rw [f0]; exact ib_ne0.mpr (inB_nI (n := 17) hN (by decide))) ?_
  iterate 1 refine Rn.step rfl ?_
  refine Rn.calli rfl rfl rfl (by decide) (m_isTwo (1) _) (fun y1 f1 => ?_)
  refine Rn.br2 rfl (by rw [f1]; exact ib_ne0.mpr ((by decide))) ?_
  iterate 4 refine Rn.step rfl ?_
  refine Rn.calli rfl rfl rfl (by decide) hr2 (fun z f => ?_)
  rw [f]
  iterate 1 refine Rn.step rfl ?_
  exact Rn.ret rfl
end MQX
