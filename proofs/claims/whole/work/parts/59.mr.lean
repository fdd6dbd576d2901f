section MRX
variable {E : iExtT} {c ax : Nat → Nat → Int32} {vc vx : Nat → Int32} {tx : Nat → Nat → Int64} {a : Nat → Nat → Int32} {v : Nat → Int32} {t : Nat → Nat → Int64} {n k q : Nat} {mn sm tt : Nat → Nat} {ya yb yc : Nat}
theorem in11 (x : Int32) : ((-1 : Int64) ≤ x.toInt64 ∧ x.toInt64 ≤ 1) ↔ ¬ (x < -1 ∨ 1 < x) := by
  rw [show (-1 : Int64) = (-1 : Int32).toInt64 from rfl, show (1 : Int64) = (1 : Int32).toInt64 from rfl, i64_le, i64_le, not_or, Int32.not_lt, Int32.not_lt]
theorem mq_spare_bad (h : REL c vc a v n k q mn sm tt ya yb yc) (x : Int32) (hb : x < -1 ∨ 1 < x) : ∃ (a' : Nat → Nat → Int32) (v' : Nat → Int32) (t' : Nat → Nat → Int64), Rn E 10 mX8_spare (0, [(0, .ref 53), (1, .int x)], [], wY ax vx tx a v t) (some (.int (-2)), wY ax vx tx a' v' t') ∧ eqM a v a' v' := by
  obtain ⟨a1, v1, hr, he, hC, hL, h33⟩ := m_find (E := E) (ax := ax) (vx := vx) (tx := tx) (t := t) h
  refine ⟨a1, v1, t, ?_, he⟩
  iterate 1 refine Rn.step rfl ?_
  refine Rn.callv rfl rfl rfl (by decide) hr ?_
  iterate 4 refine Rn.step rfl ?_
  refine Rn.calli rfl rfl rfl (by decide) (m_in _ _ _ _) (fun z f => ?_)
  refine Rn.br1 rfl (by rw [f]; exact ib_eq0.mpr (fun p => (in11 x).mp p hb)) ?_
  iterate 1 refine Rn.step rfl ?_
  exact Rn.ret rfl
theorem mq_spare (h : REL c vc a v n k q mn sm tt ya yb yc) {x : Int32} (hx : x = -1 ∨ x = 0 ∨ x = 1) : ∃ (a' : Nat → Nat → Int32) (v' : Nat → Int32) (t' : Nat → Nat → Int64), Rn E 10 mX8_spare (0, [(0, .ref 53), (1, .int x)], [], wY ax vx tx a v t) (some (.int (sqF (spE (oC c mn k n) k (evB n)) x)), wY ax vx tx a' v' t') ∧ eqM a v a' v' := by
  obtain ⟨a1, v1, hr, he, hC, hL, h33⟩ := m_find (E := E) (ax := ax) (vx := vx) (tx := tx) (t := t) h
  obtain ⟨a2, hr2, hf2, -⟩ := m_spareBy (E := E) (ax := ax) (vx := vx) (tx := tx) (t := t) hC h33 hx
  refine ⟨a2, v1, t, ?_, he.trans (eqM.of hf2)⟩
  iterate 1 refine Rn.step rfl ?_
  refine Rn.callv rfl rfl rfl (by decide) hr ?_
  iterate 4 refine Rn.step rfl ?_
  refine Rn.calli rfl rfl rfl (by decide) (m_in _ _ _ _) (fun z f => ?_)
  refine Rn.br2 rfl (by rw [f]; exact ib_ne0.mpr ((in11 x).mpr (by rcases hx with rfl | rfl | rfl <;> decide))) ?_
  iterate 2 refine Rn.step rfl ?_
  refine Rn.calli rfl rfl rfl (by decide) hr2 (fun z f => ?_)
  rw [f]
  iterate 1 refine Rn.step rfl ?_
  exact Rn.ret rfl
/-- what count tells -/
def cnX (c : Nat → Nat → Int32) (vc : Nat → Int32) (n k : Nat) (mn : Nat → Nat) (w : Nat) : Int32 := match w with
  | 0 => vc 4
  | 1 => vc 11 + vc 12 + vc 13
  | 2 => vc 5
  | 3 => bcF (obF (cDr c mn k n).1 n)
  | 4 => maF (cDr c mn k n).2.1 n 1
  | 5 => maF (cDr c mn k n).2.1 n 2
  | 6 => tog (cW c mn k) 23
  | 7 => vc 6
  | _ => vc 0
theorem mc_count (h : REL c vc a v n k q mn sm tt ya yb yc) {w : Nat} (hw : w < 9) : ∃ (a' : Nat → Nat → Int32) (v' : Nat → Int32), Rn E 8 mX8_count (0, [(0, .ref 53), (1, .int (nI w))], [], wY ax vx tx a v t) (some (.int (cnX c vc n k mn w)), wY ax vx tx a' v' t) ∧ eqM a v a' v' ∧ MC c a' v' n k q mn sm tt ∧ v' 33 = 0 := by
  obtain ⟨a1, v1, hr, he, hC, hL, h33⟩ := m_find (E := E) (ax := ax) (vx := vx) (tx := tx) (t := t) h
  refine ⟨a1, v1, ?_, he, hC, h33⟩
  obtain ⟨⟨⟨-, e4⟩, ⟨-, e5, -⟩, -, e6, -⟩, -, ⟨⟨-, t1, t2, -⟩, ⟨-, t3, t4, -⟩, -, t5, t6, -⟩, -, ⟨s1, -, s3, -⟩, r1, -⟩ := h.eqM he
  iterate 1 refine Rn.step rfl ?_
  refine Rn.callv rfl rfl rfl (by decide) hr ?_
  obtain rfl | rfl | rfl | rfl | rfl | rfl | rfl | rfl | rfl : w = 0 ∨ w = 1 ∨ w = 2 ∨ w = 3 ∨ w = 4 ∨ w = 5 ∨ w = 6 ∨ w = 7 ∨ w = 8 := by omega
  · show Rn E 8 mX8_count _ (some (.int (vc 4)), _)
    rw [e4, ← hC.1.2]
    iterate 2 refine Rn.step rfl ?_
    iterate 2 refine Rn.step rfl ?_
    exact Rn.ret rfl
  · show Rn E 8 mX8_count _ (some (.int (vc 11 + vc 12 + vc 13)), _)
    rw [t1, t3, t5, ← t2, ← t4, ← t6]
    iterate 2 refine Rn.step rfl ?_
    iterate 12 refine Rn.step rfl ?_
    repeat refine Rn.step rfl ?_
    exact Rn.ret rfl
  · show Rn E 8 mX8_count _ (some (.int (vc 5)), _)
    rw [e5, ← s1]
    iterate 2 refine Rn.step rfl ?_
    iterate 2 refine Rn.step rfl ?_
    exact Rn.ret rfl
  · show Rn E 8 mX8_count _ (some (.int (bcF (obF (cDr c mn k n).1 n))), _)
    iterate 2 refine Rn.step rfl ?_
    iterate 1 refine Rn.step rfl ?_
    refine Rn.calli rfl rfl rfl (by decide) (m_manyOut hC hL) (fun z f => ?_)
    rw [← f]
    exact Rn.ret rfl
  · show Rn E 8 mX8_count _ (some (.int (maF (cDr c mn k n).2.1 n 1)), _)
    iterate 2 refine Rn.step rfl ?_
    iterate 1 refine Rn.step rfl ?_
    refine Rn.calli rfl rfl rfl (by decide) (m_allLain hC hL) (fun z f => ?_)
    rw [← f]
    exact Rn.ret rfl
  · show Rn E 8 mX8_count _ (some (.int (maF (cDr c mn k n).2.1 n 2)), _)
    iterate 2 refine Rn.step rfl ?_
    iterate 1 refine Rn.step rfl ?_
    refine Rn.calli rfl rfl rfl (by decide) (m_allHalts hC hL) (fun z f => ?_)
    rw [← f]
    exact Rn.ret rfl
  · show Rn E 8 mX8_count _ (some (.int (tog (cW c mn k) 23)), _)
    iterate 2 refine Rn.step rfl ?_
    iterate 3 refine Rn.step rfl ?_
    refine Rn.calli rfl rfl rfl (by decide) (m_allBy0 hC hL (m := 23) (by decide)) (fun z f => ?_)
    rw [← f]
    exact Rn.ret rfl
  · show Rn E 8 mX8_count _ (some (.int (vc 6)), _)
    rw [e6, ← s3]
    iterate 2 refine Rn.step rfl ?_
    iterate 2 refine Rn.step rfl ?_
    exact Rn.ret rfl
  · show Rn E 8 mX8_count _ (some (.int (vc 0)), _)
    rw [r1]
    iterate 2 refine Rn.step rfl ?_
    iterate 2 refine Rn.step rfl ?_
    exact Rn.ret rfl
theorem mq_count (h : REL c vc a v n k q mn sm tt ya yb yc) {w : Nat} (hw : w < 9) : ∃ (a' : Nat → Nat → Int32) (v' : Nat → Int32) (t' : Nat → Nat → Int64), Rn E 10 mX8_count (0, [(0, .ref 53), (1, .int (nI w))], [], wY ax vx tx a v t) (some (.int (cnX c vc n k mn w)), wY ax vx tx a' v' t') ∧ eqM a v a' v' := by
  obtain ⟨a1, v1, hr, he, -⟩ := mc_count (E := E) (ax := ax) (vx := vx) (tx := tx) (t := t) h hw
  exact ⟨a1, v1, t, hr.mono (by decide), he⟩
theorem mq_count_bad (h : REL c vc a v n k q mn sm tt ya yb yc) (x : Int32) (hx : x.toInt < 0 ∨ 8 < x.toInt) : ∃ (a' : Nat → Nat → Int32) (v' : Nat → Int32) (t' : Nat → Nat → Int64), Rn E 10 mX8_count (0, [(0, .ref 53), (1, .int x)], [], wY ax vx tx a v t) (some (.int (-2)), wY ax vx tx a' v' t') ∧ eqM a v a' v' := by
  obtain ⟨a1, v1, hr, he, -⟩ := m_find (E := E) (ax := ax) (vx := vx) (tx := tx) (t := t) h
  refine ⟨a1, v1, t, ?_, he⟩
  iterate 1 refine Rn.step rfl ?_
  refine Rn.callv rfl rfl rfl (by decide) hr ?_
  refine Rn.step rfl ?_
  refine Rn.step (show iStep E iProg mX8_count (5, _, [.int x], _) = some (.inl (120, _, [], _)) by
    show (if x.toInt < 0 ∨ 8 < x.toInt then _ else _) = _
    rw [if_pos hx]; rfl) ?_
  iterate 1 refine Rn.step rfl ?_
  exact Rn.ret rfl
end MRX
