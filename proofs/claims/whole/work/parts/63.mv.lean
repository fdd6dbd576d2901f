section MVX
variable {E : iExtT} {c ax : Nat → Nat → Int32} {vc vx : Nat → Int32} {tx : Nat → Nat → Int64} {a : Nat → Nat → Int32} {v : Nat → Int32} {t : Nat → Nat → Int64} {n k q : Nat} {mn sm tt : Nat → Nat} {ya yb yc : Nat}
theorem m_tellsMinute {W : Nat → Int32} {D : dS} (hC : MC c a v n k q mn sm tt) (hL : LW a n (c 8) W D) {m l : Nat} (hm : m < 24) (hl : l < n) (h : Int64) {y0 y1 : Int32} (e0 : y0 = D.1 (m * 8 + l)) (e1 : y1 = D.2.1 (m * 8 + l)) : Rn E 1 mX8_tellsMinute (0, [(0, .ref 53), (1, .long h), (3, .int (nI m)), (4, .int (nI l))], [], wY ax vx tx a v t) (some (.long (mx (mx h y0) y1)), wY ax vx tx a v t) := by
  have hr0 := m_atBy0 (E := E) (ax := ax) (vx := vx) (tx := tx) (t := t) hC hL hm hl
  have hr1 := m_atBy1 (E := E) (ax := ax) (vx := vx) (tx := tx) (t := t) hC hL hm hl
  rw [← e0] at hr0
  rw [← e1] at hr1
  repeat refine Rn.step rfl ?_
  refine Rn.calli rfl rfl rfl (by decide) hr0 (fun z0 f0 => ?_)
  subst f0
  repeat refine Rn.step rfl ?_
  refine Rn.calli rfl rfl rfl (by decide) hr1 (fun z1 f1 => ?_)
  subst f1
  repeat refine Rn.step rfl ?_
  exact Rn.ret rfl
theorem rowsL_M {j : Nat} (h : j ∉ rowsM) : j ∉ rowsL := fun q => h (by simp only [List.mem_cons, List.not_mem_nil, or_false] at q ⊢; omega)
theorem m_livesV (hC : MC c a v n k q mn sm tt) (h33 : v 33 = 0) : ∃ a', Rn E 6 mX8_lives (0, [(0, .ref 53)], [], wY ax vx tx a v t) (none, wY ax vx tx a' v t) ∧ (∀ j, j ∉ rowsM → a' j = a j) ∧ MC c a' v n k q mn sm tt ∧ LW a' n (c 8) (cW c mn k) (cDr c mn k n) := by
  obtain ⟨a1, hr, hf, hC1, hL⟩ := m_livesM (E := E) (ax := ax) (vx := vx) (tx := tx) (t := t) hC (kp := evB k) (fun e he => by rw [h33]; exact ev_all k (by have := hC.2.1.1; omega) e he)
  exact ⟨a1, hr, fun j hj => hf j (rowsL_M hj), hC1, hL⟩
theorem m_tellsSpan (vc : Nat → Int32) (hC : MC c a v n k q mn sm tt) (h33 : v 33 = 0) {s : Nat} (hs : s < 16) (h : Int64) : ∃ a', Rn E 9 mX8_tellsSpan (0, [(0, .ref 53), (1, .long h), (3, .int (nI s))], [], wY ax vx tx a v t) (some (.long (mSpan c vc n k q mn sm h s)), wY ax vx tx a' v t) ∧ (∀ j, j ∉ rowsM → a' j = a j) ∧ MC c a' v n k q mn sm tt := by
  obtain ⟨a1, hr, hf1, hC1, hL1⟩ := m_livesV (E := E) (ax := ax) (vx := vx) (tx := tx) (t := t) hC h33
  obtain ⟨-, -, -, -, -, h60, h61, -, -, -⟩ := id hC1
  obtain ⟨a2, hr6, hf2, hC2⟩ := m_gradeOf (E := E) (ax := ax) (vx := vx) (tx := tx) (t := t) hC1 h33 hs
  have hr0 := m_spanBy0 (E := E) (ax := ax) (vx := vx) (tx := tx) (a := a1) (v := v) (t := t) hs
  have hr1 := m_spanBy1 (E := E) (ax := ax) (vx := vx) (tx := tx) (a := a1) (v := v) (t := t) hs
  rw [h60 s hs] at hr0
  rw [h61 s hs] at hr1
  have hr2 := m_flumeBy0 (E := E) (ax := ax) (vx := vx) (tx := tx) (t := t) hC1 hL1 (m := 7) (by decide) hs
  have hr3 := m_flumeBy1 (E := E) (ax := ax) (vx := vx) (tx := tx) (t := t) hC1 hL1 (m := 7) (by decide) hs
  have hr4 := m_flumeBy0 (E := E) (ax := ax) (vx := vx) (tx := tx) (t := t) hC1 hL1 (m := 18) (by decide) hs
  have hr5 := m_flumeBy1 (E := E) (ax := ax) (vx := vx) (tx := tx) (t := t) hC1 hL1 (m := 18) (by decide) hs
  obtain ⟨y0, hy0⟩ : ∃ y, y = qS0 c vc n k q mn sm s := ⟨_, rfl⟩
  rw [show c 4 s = y0 from hy0.symm] at hr0
  obtain ⟨y1, hy1⟩ : ∃ y, y = qS1 c vc n k q mn sm s := ⟨_, rfl⟩
  rw [show c 5 s = y1 from hy1.symm] at hr1
  obtain ⟨y2, hy2⟩ : ∃ y, y = qFl0 c vc n k q mn sm 7 s := ⟨_, rfl⟩
  rw [show cW c mn k (7 * 16 + s) = y2 from hy2.symm] at hr2
  obtain ⟨y3, hy3⟩ : ∃ y, y = qFl1 c vc n k q mn sm 7 s := ⟨_, rfl⟩
  rw [show liF (cDr c mn k n).1 (c 8) 7 (nI s) 0 n = y3 from hy3.symm] at hr3
  obtain ⟨y4, hy4⟩ : ∃ y, y = qFl0 c vc n k q mn sm 18 s := ⟨_, rfl⟩
  rw [show cW c mn k (18 * 16 + s) = y4 from hy4.symm] at hr4
  obtain ⟨y5, hy5⟩ : ∃ y, y = qFl1 c vc n k q mn sm 18 s := ⟨_, rfl⟩
  rw [show liF (cDr c mn k n).1 (c 8) 18 (nI s) 0 n = y5 from hy5.symm] at hr5
  obtain ⟨y6, hy6⟩ : ∃ y, y = qGr c vc n k q mn sm s := ⟨_, rfl⟩
  rw [show grF c n k q mn sm s = y6 from hy6.symm] at hr6
  refine ⟨a2, ?_, fun j hj => (hf2 j hj).trans (hf1 j hj), hC2⟩
  rw [show mSpan c vc n k q mn sm h s = mx (mx (mx (mx (mx (mx (mx (h) y0) y1) y2) y3) y4) y5) y6 by unfold mSpan; rw [hy0, hy1, hy2, hy3, hy4, hy5, hy6]]
  repeat refine Rn.step rfl ?_
  refine Rn.callv rfl rfl rfl (by decide) hr ?_
  repeat refine Rn.step rfl ?_
  refine Rn.calli rfl rfl rfl (by decide) hr0 (fun z0 f0 => ?_)
  subst f0
  repeat refine Rn.step rfl ?_
  refine Rn.calli rfl rfl rfl (by decide) hr1 (fun z1 f1 => ?_)
  subst f1
  repeat refine Rn.step rfl ?_
  refine Rn.calli rfl rfl rfl (by decide) hr2 (fun z2 f2 => ?_)
  subst f2
  repeat refine Rn.step rfl ?_
  refine Rn.calli rfl rfl rfl (by decide) hr3 (fun z3 f3 => ?_)
  subst f3
  repeat refine Rn.step rfl ?_
  refine Rn.calli rfl rfl rfl (by decide) hr4 (fun z4 f4 => ?_)
  subst f4
  repeat refine Rn.step rfl ?_
  refine Rn.calli rfl rfl rfl (by decide) hr5 (fun z5 f5 => ?_)
  subst f5
  repeat refine Rn.step rfl ?_
  refine Rn.calli rfl rfl rfl (by decide) hr6 (fun z6 f6 => ?_)
  subst f6
  repeat refine Rn.step rfl ?_
  exact Rn.ret rfl
theorem m_tellsLog (vc : Nat → Int32) (hC : MC c a v n k q mn sm tt) (h33 : v 33 = 0) {l : Nat} (hl : l < n) (h : Int64) : ∃ (a' : Nat → Nat → Int32) (t' : Nat → Nat → Int64), Rn E 10 mX8_tellsLog (0, [(0, .ref 53), (1, .long h), (3, .int (nI l))], [], wY ax vx tx a v t) (some (.long (mLogP c vc n k q mn sm (mLogM c vc n k q mn sm h l) l)), wY ax vx tx a' v t') ∧ (∀ j, j ∉ rowsM → a' j = a j) ∧ MC c a' v n k q mn sm tt := by
  have hn8 := hC.1.1
  obtain ⟨a1, hr, hf1, hC1, hL1⟩ := m_livesV (E := E) (ax := ax) (vx := vx) (tx := tx) (t := t) hC h33
  obtain ⟨-, -, -, -, -, -, -, h62, -, -⟩ := id hC1
  obtain ⟨l1, l2, l3, l4⟩ := h62 l hl
  obtain ⟨y0, hy0⟩ : ∃ y, y = qL0 c vc n k q mn sm l := ⟨_, rfl⟩
  obtain ⟨y1, hy1⟩ : ∃ y, y = qL1 c vc n k q mn sm l := ⟨_, rfl⟩
  obtain ⟨y2, hy2⟩ : ∃ y, y = qL2 c vc n k q mn sm l := ⟨_, rfl⟩
  have l1 : a1 62 (3 * l + 0) = y0 := l1.trans hy0.symm
  have l2 : a1 62 (3 * l + 1) = y1 := l2.trans hy1.symm
  have l3 : a1 62 (3 * l + 2) = y2 := (l3.trans l4.symm).trans hy2.symm
  obtain ⟨y3, hy3⟩ : ∃ y, y = qAt0 c vc n k q mn sm 0 l := ⟨_, rfl⟩
  obtain ⟨y4, hy4⟩ : ∃ y, y = qAt1 c vc n k q mn sm 0 l := ⟨_, rfl⟩
  obtain ⟨y5, hy5⟩ : ∃ y, y = qAt0 c vc n k q mn sm 6 l := ⟨_, rfl⟩
  obtain ⟨y6, hy6⟩ : ∃ y, y = qAt1 c vc n k q mn sm 6 l := ⟨_, rfl⟩
  obtain ⟨y7, hy7⟩ : ∃ y, y = qAt0 c vc n k q mn sm 13 l := ⟨_, rfl⟩
  obtain ⟨y8, hy8⟩ : ∃ y, y = qAt1 c vc n k q mn sm 13 l := ⟨_, rfl⟩
  obtain ⟨y9, hy9⟩ : ∃ y, y = qAt0 c vc n k q mn sm 23 l := ⟨_, rfl⟩
  obtain ⟨y10, hy10⟩ : ∃ y, y = qAt1 c vc n k q mn sm 23 l := ⟨_, rfl⟩
  have hr0 := m_tellsMinute (E := E) (ax := ax) (vx := vx) (tx := tx) (t := t) hC1 hL1 (m := 0) (by decide) hl (mx (mx (mx (h) y0) y1) y2) (y0 := y3) (y1 := y4) hy3 hy4
  have hr1 := m_tellsMinute (E := E) (ax := ax) (vx := vx) (tx := tx) (t := t) hC1 hL1 (m := 6) (by decide) hl (mx (mx (mx (mx (mx (h) y0) y1) y2) y3) y4) (y0 := y5) (y1 := y6) hy5 hy6
  have hr2 := m_tellsMinute (E := E) (ax := ax) (vx := vx) (tx := tx) (t := t) hC1 hL1 (m := 13) (by decide) hl (mx (mx (mx (mx (mx (mx (mx (h) y0) y1) y2) y3) y4) y5) y6) (y0 := y7) (y1 := y8) hy7 hy8
  have hr3 := m_tellsMinute (E := E) (ax := ax) (vx := vx) (tx := tx) (t := t) hC1 hL1 (m := 23) (by decide) hl (mx (mx (mx (mx (mx (mx (mx (mx (mx (h) y0) y1) y2) y3) y4) y5) y6) y7) y8) (y0 := y9) (y1 := y10) hy9 hy10
  have hr4 := m_outBy0 (E := E) (ax := ax) (vx := vx) (tx := tx) (t := t) hC1 hL1 hl
  obtain ⟨y11, hy11⟩ : ∃ y, y = qOu0 c vc n k q mn sm l := ⟨_, rfl⟩
  rw [show moF (cDr c mn k n).1 l 0 24 = y11 from hy11.symm] at hr4
  have hr5 := m_outBy1 (E := E) (ax := ax) (vx := vx) (tx := tx) (t := t) hC1 hL1 hl
  obtain ⟨y12, hy12⟩ : ∃ y, y = qOu1 c vc n k q mn sm l := ⟨_, rfl⟩
  rw [show miF (cDr c mn k n).2.1 l 1 = y12 from hy12.symm] at hr5
  have hr6 := m_outBy2 (E := E) (ax := ax) (vx := vx) (tx := tx) (t := t) hC1 hL1 hl
  obtain ⟨y13, hy13⟩ : ∃ y, y = qOu2 c vc n k q mn sm l := ⟨_, rfl⟩
  rw [show miF (cDr c mn k n).2.1 l 2 = y13 from hy13.symm] at hr6
  obtain ⟨a2, hr7, hf2, hC2⟩ := m_sendOf (E := E) (ax := ax) (vx := vx) (tx := tx) (t := t) hC1 h33 hl 0
  obtain ⟨a3, hr8, hf3, hC3⟩ := m_sendOf (E := E) (ax := ax) (vx := vx) (tx := tx) (t := t) hC2 h33 hl 1
  obtain ⟨a4, T4, hr9, hf4, hC4, -⟩ := m_draughtsOf (E := E) (ax := ax) (vx := vx) (tx := tx) (t := t) hC3 h33 hl
  obtain ⟨a5, T5, hr10, hf5, hC5⟩ := m_askOf (E := E) (ax := ax) (vx := vx) (tx := tx) (t := va_up t 1 T4) hC4 h33 hl
  obtain ⟨a6, hr11, hf6, hC6⟩ := m_chanceOf (E := E) (ax := ax) (vx := vx) (tx := tx) (t := va_up (va_up t 1 T4) 1 T5) hC5 h33 (x := 5) (by decide) hl 0
  obtain ⟨a7, hr12, hf7, hC7⟩ := m_chanceOf (E := E) (ax := ax) (vx := vx) (tx := tx) (t := va_up (va_up t 1 T4) 1 T5) hC6 h33 (x := 5) (by decide) hl 1
  rw [if_pos rfl] at hr7 hr11
  rw [if_neg (by decide)] at hr8 hr12
  obtain ⟨y14, hy14⟩ : ∃ y, y = qSe0 c vc n k q mn sm l := ⟨_, rfl⟩
  rw [show (sdF (c 10) (c 12) mn k n (c 4) (c 7) (c 8) (c 6) (cW c mn k) l).1 = y14 from hy14.symm] at hr7
  obtain ⟨y15, hy15⟩ : ∃ y, y = qSe1 c vc n k q mn sm l := ⟨_, rfl⟩
  rw [show (sdF (c 10) (c 12) mn k n (c 4) (c 7) (c 8) (c 6) (cW c mn k) l).2 = y15 from hy15.symm] at hr8
  obtain ⟨y16, hy16⟩ : ∃ y, y = qDr c vc n k q mn sm l := ⟨_, rfl⟩
  rw [show dgB c n k q mn sm l 9 = y16 from hy16.symm] at hr9
  obtain ⟨y17, hy17⟩ : ∃ y, y = qAs c vc n k q mn sm l := ⟨_, rfl⟩
  rw [show asF (dgB c n k q mn sm l 9) (dgT c n k mn l) = y17 from hy17.symm] at hr10
  obtain ⟨y18, hy18⟩ : ∃ y, y = qCh0 c vc n k q mn sm 5 l := ⟨_, rfl⟩
  rw [show (chF k (sxF c mn k n (nI 5) l (2 ^ k))).1 = y18 from hy18.symm] at hr11
  obtain ⟨y19, hy19⟩ : ∃ y, y = qCh1 c vc n k q mn sm 5 l := ⟨_, rfl⟩
  rw [show (chF k (sxF c mn k n (nI 5) l (2 ^ k))).2 = y19 from hy19.symm] at hr12
  refine ⟨a7, va_up (va_up t 1 T4) 1 T5, ?_, fun j hj => (hf7 j hj).trans ((hf6 j hj).trans ((hf5 j hj).trans ((hf4 j hj).trans ((hf3 j hj).trans ((hf2 j hj).trans (hf1 j hj)))))), hC7⟩
  rw [show mLogP c vc n k q mn sm (mLogM c vc n k q mn sm h l) l = 31 * (31 * (mx (mx (mx (mx (mx (mx (mx (mx (mx (mx (mx (mx (mx (mx (mx (mx (mx (mx (h) y0) y1) y2) y3) y4) y5) y6) y7) y8) y9) y10) y11) y12) y13) y14) y15) y16) y17) + y18) + y19 by unfold mLogP mLogM; rw [hy0, hy1, hy2, hy3, hy4, hy5, hy6, hy7, hy8, hy9, hy10, hy11, hy12, hy13, hy14, hy15, hy16, hy17, hy18, hy19]]
  repeat refine Rn.step rfl ?_
  refine Rn.callv rfl rfl rfl (by decide) hr ?_
  repeat refine Rn.step rfl ?_
  refine Rn.ald (3 * l + 0) rfl (ix_am 3 l 0) (by omega) (by decide) ?_
  refine Rn.top l1 ?_
  repeat refine Rn.step rfl ?_
  refine Rn.ald (3 * l + 1) rfl (ix_am 3 l 1) (by omega) (by decide) ?_
  refine Rn.top l2 ?_
  repeat refine Rn.step rfl ?_
  refine Rn.ald (3 * l + 2) rfl (ix_am 3 l 2) (by omega) (by decide) ?_
  refine Rn.top l3 ?_
  repeat refine Rn.step rfl ?_
  refine Rn.calll rfl rfl rfl (by decide) hr0 (fun z0 f0 => ?_)
  rw [f0]
  repeat refine Rn.step rfl ?_
  refine Rn.calll rfl rfl rfl (by decide) hr1 (fun z1 f1 => ?_)
  rw [f1]
  repeat refine Rn.step rfl ?_
  refine Rn.calll rfl rfl rfl (by decide) hr2 (fun z2 f2 => ?_)
  rw [f2]
  repeat refine Rn.step rfl ?_
  refine Rn.calll rfl rfl rfl (by decide) hr3 (fun z3 f3 => ?_)
  rw [f3]
  repeat refine Rn.step rfl ?_
  refine Rn.calli rfl rfl rfl (by decide) hr4 (fun z4 f4 => ?_)
  subst f4
  repeat refine Rn.step rfl ?_
  refine Rn.calli rfl rfl rfl (by decide) hr5 (fun z5 f5 => ?_)
  subst f5
  repeat refine Rn.step rfl ?_
  refine Rn.calli rfl rfl rfl (by decide) hr6 (fun z6 f6 => ?_)
  subst f6
  repeat refine Rn.step rfl ?_
  refine Rn.calli rfl rfl rfl (by decide) hr7 (fun z7 f7 => ?_)
  subst f7
  repeat refine Rn.step rfl ?_
  refine Rn.calli rfl rfl rfl (by decide) hr8 (fun z8 f8 => ?_)
  subst f8
  repeat refine Rn.step rfl ?_
  refine Rn.calli rfl rfl rfl (by decide) hr9 (fun z9 f9 => ?_)
  subst f9
  repeat refine Rn.step rfl ?_
  refine Rn.calli rfl rfl rfl (by decide) hr10 (fun z10 f10 => ?_)
  subst f10
  repeat refine Rn.step rfl ?_
  refine Rn.calll rfl rfl rfl (by decide) hr11 (fun z11 f11 => ?_)
  subst f11
  repeat refine Rn.step rfl ?_
  refine Rn.calll rfl rfl rfl (by decide) hr12 (fun z12 f12 => ?_)
  subst f12
  repeat refine Rn.step rfl ?_
  exact Rn.ret rfl
theorem md_min (vc : Nat → Int32) (hC : MC c a v n k q mn sm tt) (hL : LW a n (c 8) (cW c mn k) (cDr c mn k n)) (h0 : Int64) {o : iRes} (kk : ∀ h1, h1 = lp (fun m h => mMin c vc n k q mn sm h m) 0 24 h0 → Rn E 11 mX8_digest (103, [(3, .int (nI 24)), (1, .long h1), (0, .ref 53)], [], wY ax vx tx a v t) o) : Rn E 11 mX8_digest (63, [(3, .int (nI 0)), (1, .long h0), (0, .ref 53)], [], wY ax vx tx a v t) o := by
  refine Rn.lp (σ := Int64) (cfg := fun m h => (63, [(3, .int (nI m)), (1, .long h), (0, .ref 53)], [], wY ax vx tx a v t)) (f := fun m h => mMin c vc n k q mn sm h m) (n := 24) (fun _ _ => True) (fun m h hm _ => ⟨trivial, fun kk => ?_⟩) 24 0 h0 rfl trivial (fun h1 e1 _ => ?_)
  · rw [nI_succ] at kk
    have hr0 := m_allBy0 (E := E) (ax := ax) (vx := vx) (tx := tx) (t := t) hC hL hm
    have hr1 := m_allBy1 (E := E) (ax := ax) (vx := vx) (tx := tx) (t := t) hC hL hm
    obtain ⟨y0, hy0⟩ : ∃ y, y = qAl0 c vc n k q mn sm m := ⟨_, rfl⟩
    obtain ⟨y1, hy1⟩ : ∃ y, y = qAl1 c vc n k q mn sm m := ⟨_, rfl⟩
    rw [show tog (cW c mn k) m = y0 from hy0.symm] at hr0
    rw [show aflF (cDr c mn k n).1 m n = y1 from hy1.symm] at hr1
    rw [show mMin c vc n k q mn sm h m = mx (mx h y0) y1 by unfold mMin; rw [hy0, hy1]] at kk
    iterate 2 refine Rn.step rfl ?_
    refine Rn.br2 rfl (nle hm (by decide)) ?_
    repeat refine Rn.step rfl ?_
    refine Rn.calli rfl rfl rfl (by decide) hr0 (fun z0 f0 => ?_)
    subst f0
    repeat refine Rn.step rfl ?_
    refine Rn.calli rfl rfl rfl (by decide) hr1 (fun z1 f1 => ?_)
    subst f1
    iterate 5 refine Rn.step rfl ?_
    exact kk
  · iterate 3 refine Rn.step rfl ?_
    exact kk h1 e1
theorem md_span (vc : Nat → Int32) (hC : MC c a v n k q mn sm tt) (h33 : v 33 = 0) (h0 : Int64) : ∃ a' h1, (∀ j, j ∉ rowsM → a' j = a j) ∧ MC c a' v n k q mn sm tt ∧ h1 = lp (fun s h => mSpan c vc n k q mn sm h s) 0 16 h0 ∧ ∀ o, Rn E 11 mX8_digest (124, [(3, .int (nI 16)), (1, .long h1), (0, .ref 53)], [], wY ax vx tx a' v t) o → Rn E 11 mX8_digest (105, [(3, .int (nI 0)), (1, .long h0), (0, .ref 53)], [], wY ax vx tx a v t) o := by
  obtain ⟨⟨a', h1⟩, ⟨i1, i2, i3⟩, hgo⟩ := Rn.lpx (E := E) (hh := 11) (M := mX8_digest) (σ := (Nat → Nat → Int32) × Int64) (cfg := fun i s => (105, [(3, .int (nI i)), (1, .long s.2), (0, .ref 53)], [], wY ax vx tx s.1 v t)) (n := 16) (fun i s => (∀ j, j ∉ rowsM → s.1 j = a j) ∧ MC c s.1 v n k q mn sm tt ∧ s.2 = lp (fun s h => mSpan c vc n k q mn sm h s) 0 i h0) (by
    rintro i ⟨b, h⟩ hi ⟨i1, i2, i3⟩
    dsimp only at i1 i2 i3 ⊢
    obtain ⟨b1, hr, hf, hC1⟩ := m_tellsSpan (E := E) (ax := ax) (vx := vx) (tx := tx) (t := t) vc i2 h33 hi h
    refine ⟨(b1, mSpan c vc n k q mn sm h i), ⟨fun j hj => (hf j hj).trans (i1 j hj), hC1, by rw [lp_end, ← i3, Nat.zero_add]⟩, fun o kk => ?_⟩
    dsimp only at kk
    rw [nI_succ] at kk
    iterate 2 refine Rn.step rfl ?_
    refine Rn.br2 rfl (nle hi (by decide)) ?_
    repeat refine Rn.step rfl ?_
    refine Rn.calll rfl rfl rfl (by decide) hr (fun z f => ?_)
    rw [← f] at kk
    iterate 3 refine Rn.step rfl ?_
    exact kk) 16 0 (a, h0) rfl ⟨fun _ _ => rfl, hC, rfl⟩
  dsimp only at i1 i2 i3 hgo
  refine ⟨a', h1, i1, i2, i3, fun o kk => hgo o ?_⟩
  iterate 3 refine Rn.step rfl ?_
  exact kk
theorem md_log (vc : Nat → Int32) (hC : MC c a v n k q mn sm tt) (h33 : v 33 = 0) (h0 : Int64) : ∃ a' t' h1, (∀ j, j ∉ rowsM → a' j = a j) ∧ MC c a' v n k q mn sm tt ∧ h1 = lp (fun l h => mLogP c vc n k q mn sm (mLogM c vc n k q mn sm h l) l) 0 n h0 ∧ ∀ o, Rn E 11 mX8_digest (147, [(3, .int (nI n)), (1, .long h1), (0, .ref 53)], [], wY ax vx tx a' v t') o → Rn E 11 mX8_digest (126, [(3, .int (nI 0)), (1, .long h0), (0, .ref 53)], [], wY ax vx tx a v t) o := by
  have hn8 := hC.1.1
  have hv31 := hC.1.2
  obtain ⟨⟨a', t', h1⟩, ⟨i1, i2, i3⟩, hgo⟩ := Rn.lpx (E := E) (hh := 11) (M := mX8_digest) (σ := (Nat → Nat → Int32) × (Nat → Nat → Int64) × Int64) (cfg := fun i s => (126, [(3, .int (nI i)), (1, .long s.2.2), (0, .ref 53)], [], wY ax vx tx s.1 v s.2.1)) (n := n) (fun i s => (∀ j, j ∉ rowsM → s.1 j = a j) ∧ MC c s.1 v n k q mn sm tt ∧ s.2.2 = lp (fun l h => mLogP c vc n k q mn sm (mLogM c vc n k q mn sm h l) l) 0 i h0) (by
    rintro i ⟨b, u, h⟩ hi ⟨i1, i2, i3⟩
    dsimp only at i1 i2 i3 ⊢
    obtain ⟨b1, u1, hr, hf, hC1⟩ := m_tellsLog (E := E) (ax := ax) (vx := vx) (tx := tx) (t := u) vc i2 h33 hi h
    refine ⟨(b1, u1, mLogP c vc n k q mn sm (mLogM c vc n k q mn sm h i) i), ⟨fun j hj => (hf j hj).trans (i1 j hj), hC1, by rw [lp_end, ← i3, Nat.zero_add]⟩, fun o kk => ?_⟩
    dsimp only at kk
    rw [nI_succ] at kk
    iterate 3 refine Rn.step rfl ?_
    refine Rn.br2 rfl (by rw [hv31]; exact nle hi (by omega)) ?_
    repeat refine Rn.step rfl ?_
    refine Rn.calll rfl rfl rfl (by decide) hr (fun z f => ?_)
    rw [← f] at kk
    iterate 3 refine Rn.step rfl ?_
    exact kk) n 0 (a, t, h0) (by omega) ⟨fun _ _ => rfl, hC, rfl⟩
  dsimp only at i1 i2 i3 hgo
  refine ⟨a', t', h1, i1, i2, i3, fun o kk => hgo o ?_⟩
  iterate 3 refine Rn.step rfl ?_
  refine Rn.br1 rfl (by rw [hv31]; exact Int32.le_refl _) ?_
  exact kk
theorem md_whole (hC : MC c a v n k q mn sm tt) (h33 : v 33 = 0) (hT : RT c vc a ya yb yc) (hO : RO c n tt ya yb yc) (h : Int64) : ∃ a' y, Rn E 11 mX8_digest (147, [(3, .int (nI n)), (1, .long h), (0, .ref 53)], [], wY ax vx tx a v t) (some (.long (mWhole c vc n k q mn sm h)), wY ax vx tx a' (upd v 35 y) t) ∧ (∀ j, j ∉ rowsM → a' j = a j) := by
  obtain ⟨a1, hr, hf1, hC1, hL1⟩ := m_livesV (E := E) (ax := ax) (vx := vx) (tx := tx) (t := t) hC h33
  have hr0 := m_jamNow (E := E) (ax := ax) (vx := vx) (tx := tx) (t := t) hC1 hL1
  have hr1 := m_dryNow (E := E) (ax := ax) (vx := vx) (tx := tx) (t := t) hC1 hL1
  have hr2 := m_lateNow (E := E) (ax := ax) (vx := vx) (tx := tx) (t := t) hC1 hL1
  have hr3 := m_worstNow (E := E) (ax := ax) (vx := vx) (tx := tx) (t := t) hC1 hL1
  obtain ⟨a2, hr4, hf2, hC2⟩ := m_steepBy (E := E) (ax := ax) (vx := vx) (tx := tx) (t := t) hC1 h33 0
  obtain ⟨a3, hr5, hf3, hC3⟩ := m_steepBy (E := E) (ax := ax) (vx := vx) (tx := tx) (t := t) hC2 h33 1
  obtain ⟨a4, hr6, hf4, hC4⟩ := m_fillBy (E := E) (ax := ax) (vx := vx) (tx := tx) (t := t) hC3 h33 0
  obtain ⟨a5, hr7, hf5, hC5⟩ := m_fillBy (E := E) (ax := ax) (vx := vx) (tx := tx) (t := t) hC4 h33 1
  obtain ⟨a6, hr8, hf6, hC6⟩ := m_spareBy (E := E) (ax := ax) (vx := vx) (tx := tx) (t := t) hC5 h33 (x := -1) (Or.inl rfl)
  obtain ⟨a7, hr9, hf7, hC7⟩ := m_spareBy (E := E) (ax := ax) (vx := vx) (tx := tx) (t := t) hC6 h33 (x := 0) (Or.inr (Or.inl rfl))
  obtain ⟨a8, hr10, hf8, hC8⟩ := m_neverNow (E := E) (ax := ax) (vx := vx) (tx := tx) (t := t) hC7 h33
  have hf : ∀ j, j ∉ rowsM → a8 j = a j := fun j hj => (hf8 j hj).trans ((hf7 j hj).trans ((hf6 j hj).trans ((hf5 j hj).trans ((hf4 j hj).trans ((hf3 j hj).trans ((hf2 j hj).trans (hf1 j hj)))))))
  have hT8 : RT c vc a8 ya yb yc := by
    unfold RT at hT ⊢
    rw [hf 58 (by decide), hf 59 (by decide)]; exact hT
  obtain ⟨a9, u9, hr11, hf9, hC9⟩ := m_seasonsOf (E := E) (ax := ax) (vx := vx) (tx := tx) (t := t) (x := 7) (N := 11) (by decide) 0 hC8 h33 hT8 hO
  have h33' : (upd v 35 u9) 33 = 0 := (pk_un (by decide)).trans h33
  have hT9 : RT c vc a9 ya yb yc := by
    unfold RT at hT8 ⊢
    rw [hf9 58 (by decide), hf9 59 (by decide)]; exact hT8
  obtain ⟨a10, u10, hr12, hf10, -⟩ := m_seasonsOf (E := E) (ax := ax) (vx := vx) (tx := tx) (t := t) (x := 7) (N := 11) (by decide) 1 hC9 h33' hT9 hO
  rw [if_pos rfl] at hr4 hr6 hr11
  rw [if_neg (by decide)] at hr5 hr7 hr12
  obtain ⟨y0, hy0⟩ : ∃ y, y = qJam c vc n k q mn sm := ⟨_, rfl⟩
  rw [show jmF (cDr c mn k n).2.1 n 0 24 = y0 from hy0.symm] at hr0
  obtain ⟨y1, hy1⟩ : ∃ y, y = qLe0 c vc n k q mn sm := ⟨_, rfl⟩
  rw [show drF (cW c mn k) = y1 from hy1.symm] at hr1
  obtain ⟨y2, hy2⟩ : ∃ y, y = qLe1 c vc n k q mn sm := ⟨_, rfl⟩
  rw [show evB n &&& (obF (cDr c mn k n).1 n ^^^ -1) = y2 from hy2.symm] at hr2
  obtain ⟨y3, hy3⟩ : ∃ y, y = qWo c vc n k q mn sm := ⟨_, rfl⟩
  rw [show (woF (cDr c mn k n).2.1 n).1 = y3 from hy3.symm] at hr3
  obtain ⟨y4, hy4⟩ : ∃ y, y = qSt0 c vc n k q mn sm := ⟨_, rfl⟩
  rw [show (spF (c 10) (c 12) mn k n (c 4) (c 7) (c 8) (c 6) (cW c mn k)).1 = y4 from hy4.symm] at hr4
  obtain ⟨y5, hy5⟩ : ∃ y, y = qSt1 c vc n k q mn sm := ⟨_, rfl⟩
  rw [show (spF (c 10) (c 12) mn k n (c 4) (c 7) (c 8) (c 6) (cW c mn k)).2 = y5 from hy5.symm] at hr5
  obtain ⟨y6, hy6⟩ : ∃ y, y = qFi0 c vc n k q mn sm := ⟨_, rfl⟩
  rw [show (flF (c 10) (c 12) mn k n (c 4) (c 5) (c 7) (c 8) (c 6)).1 = y6 from hy6.symm] at hr6
  obtain ⟨y7, hy7⟩ : ∃ y, y = qFi1 c vc n k q mn sm := ⟨_, rfl⟩
  rw [show (flF (c 10) (c 12) mn k n (c 4) (c 5) (c 7) (c 8) (c 6)).2 = y7 from hy7.symm] at hr7
  obtain ⟨y8, hy8⟩ : ∃ y, y = qSp c vc n k q mn sm (-1) := ⟨_, rfl⟩
  rw [show sqF (spE (oC c mn k n) k (evB n)) (-1) = y8 from hy8.symm] at hr8
  obtain ⟨y9, hy9⟩ : ∃ y, y = qSp c vc n k q mn sm 0 := ⟨_, rfl⟩
  rw [show sqF (spE (oC c mn k n) k (evB n)) 0 = y9 from hy9.symm] at hr9
  obtain ⟨y10, hy10⟩ : ∃ y, y = qNe c vc n k q mn sm := ⟨_, rfl⟩
  rw [show neF c n k q mn sm = y10 from hy10.symm] at hr10
  obtain ⟨y11, hy11⟩ : ∃ y, y = qSn0 c vc n k q mn sm 7 11 := ⟨_, rfl⟩
  rw [show bcF (obF (seD c n k mn 7 11).1 n) = y11 from hy11.symm] at hr11
  obtain ⟨y12, hy12⟩ : ∃ y, y = qSn1 c vc n k q mn sm 7 11 := ⟨_, rfl⟩
  rw [show maF (seD c n k mn 7 11).2.1 n 1 = y12 from hy12.symm] at hr12
  refine ⟨a10, u10, ?_, fun j hj => (hf10 j hj).trans ((hf9 j hj).trans (hf j hj))⟩
  rw [← upd_upd v 35 u9 u10]
  rw [show mWhole c vc n k q mn sm h = mx (mx (mx (mx (mx (mx (mx (mx (mx (mx (mx (mx (mx (h) y0) y1) y2) y3) y4) y5) y6) y7) y8) y9) y10) y11) y12 by unfold mWhole; rw [hy0, hy1, hy2, hy3, hy4, hy5, hy6, hy7, hy8, hy9, hy10, hy11, hy12]]
  repeat refine Rn.step rfl ?_
  refine Rn.callv rfl rfl rfl (by decide) hr ?_
  repeat refine Rn.step rfl ?_
  refine Rn.calli rfl rfl rfl (by decide) hr0 (fun z0 f0 => ?_)
  subst f0
  repeat refine Rn.step rfl ?_
  refine Rn.calli rfl rfl rfl (by decide) hr1 (fun z1 f1 => ?_)
  subst f1
  repeat refine Rn.step rfl ?_
  refine Rn.calli rfl rfl rfl (by decide) hr2 (fun z2 f2 => ?_)
  subst f2
  repeat refine Rn.step rfl ?_
  refine Rn.calli rfl rfl rfl (by decide) hr3 (fun z3 f3 => ?_)
  subst f3
  repeat refine Rn.step rfl ?_
  refine Rn.calli rfl rfl rfl (by decide) hr4 (fun z4 f4 => ?_)
  subst f4
  repeat refine Rn.step rfl ?_
  refine Rn.calli rfl rfl rfl (by decide) hr5 (fun z5 f5 => ?_)
  subst f5
  repeat refine Rn.step rfl ?_
  refine Rn.calli rfl rfl rfl (by decide) hr6 (fun z6 f6 => ?_)
  subst f6
  repeat refine Rn.step rfl ?_
  refine Rn.calli rfl rfl rfl (by decide) hr7 (fun z7 f7 => ?_)
  subst f7
  repeat refine Rn.step rfl ?_
  refine Rn.calli rfl rfl rfl (by decide) hr8 (fun z8 f8 => ?_)
  subst f8
  repeat refine Rn.step rfl ?_
  refine Rn.calli rfl rfl rfl (by decide) hr9 (fun z9 f9 => ?_)
  subst f9
  repeat refine Rn.step rfl ?_
  refine Rn.calli rfl rfl rfl (by decide) hr10 (fun z10 f10 => ?_)
  subst f10
  repeat refine Rn.step rfl ?_
  refine Rn.calli rfl rfl rfl (by decide) hr11 (fun z11 f11 => ?_)
  subst f11
  repeat refine Rn.step rfl ?_
  refine Rn.calli rfl rfl rfl (by decide) hr12 (fun z12 f12 => ?_)
  subst f12
  repeat refine Rn.step rfl ?_
  exact Rn.ret rfl
theorem mq_digest (h : REL c vc a v n k q mn sm tt ya yb yc) : ∃ (a' : Nat → Nat → Int32) (v' : Nat → Int32) (t' : Nat → Nat → Int64), Rn E 11 mX8_digest (0, [(0, .ref 53)], [], wY ax vx tx a v t) (some (.long (mDig c vc n k q mn sm)), wY ax vx tx a' v' t') ∧ eqM a v a' v' := by
  have g0 := h
  have E0 : eqM a v a v := eqM.rf
  obtain ⟨a1, v1, hr0, he1, hC1, hz1⟩ := mc_count (E := E) (ax := ax) (vx := vx) (tx := tx) (t := t) g0 (w := 0) (by decide)
  have g1 := REL.eqM g0 he1
  have E1 := E0.trans he1
  obtain ⟨a2, v2, hr1, he2, hC2, hz2⟩ := mc_count (E := E) (ax := ax) (vx := vx) (tx := tx) (t := t) g1 (w := 1) (by decide)
  have g2 := REL.eqM g1 he2
  have E2 := E1.trans he2
  obtain ⟨a3, v3, hr2, he3, hC3, hz3⟩ := mc_count (E := E) (ax := ax) (vx := vx) (tx := tx) (t := t) g2 (w := 2) (by decide)
  have g3 := REL.eqM g2 he3
  have E3 := E2.trans he3
  obtain ⟨a4, v4, hr3, he4, hC4, hz4⟩ := mc_count (E := E) (ax := ax) (vx := vx) (tx := tx) (t := t) g3 (w := 3) (by decide)
  have g4 := REL.eqM g3 he4
  have E4 := E3.trans he4
  obtain ⟨a5, v5, hr4, he5, hC5, hz5⟩ := mc_count (E := E) (ax := ax) (vx := vx) (tx := tx) (t := t) g4 (w := 4) (by decide)
  have g5 := REL.eqM g4 he5
  have E5 := E4.trans he5
  obtain ⟨a6, v6, hr5, he6, hC6, hz6⟩ := mc_count (E := E) (ax := ax) (vx := vx) (tx := tx) (t := t) g5 (w := 5) (by decide)
  have g6 := REL.eqM g5 he6
  have E6 := E5.trans he6
  obtain ⟨a7, v7, hr6, he7, hC7, hz7⟩ := mc_count (E := E) (ax := ax) (vx := vx) (tx := tx) (t := t) g6 (w := 6) (by decide)
  have g7 := REL.eqM g6 he7
  have E7 := E6.trans he7
  obtain ⟨a8, v8, hr7, he8, hC8, hz8⟩ := mc_count (E := E) (ax := ax) (vx := vx) (tx := tx) (t := t) g7 (w := 7) (by decide)
  have g8 := REL.eqM g7 he8
  have E8 := E7.trans he8
  obtain ⟨y0, hy0⟩ : ∃ y, y = qC0 c vc n k q mn sm := ⟨_, rfl⟩
  rw [show cnX c vc n k mn 0 = y0 from hy0.symm] at hr0
  obtain ⟨y1, hy1⟩ : ∃ y, y = qC1 c vc n k q mn sm := ⟨_, rfl⟩
  rw [show cnX c vc n k mn 1 = y1 from hy1.symm] at hr1
  obtain ⟨y2, hy2⟩ : ∃ y, y = qC2 c vc n k q mn sm := ⟨_, rfl⟩
  rw [show cnX c vc n k mn 2 = y2 from hy2.symm] at hr2
  obtain ⟨y3, hy3⟩ : ∃ y, y = qC3 c vc n k q mn sm := ⟨_, rfl⟩
  rw [show cnX c vc n k mn 3 = y3 from hy3.symm] at hr3
  obtain ⟨y4, hy4⟩ : ∃ y, y = qC4 c vc n k q mn sm := ⟨_, rfl⟩
  rw [show cnX c vc n k mn 4 = y4 from hy4.symm] at hr4
  obtain ⟨y5, hy5⟩ : ∃ y, y = qC5 c vc n k q mn sm := ⟨_, rfl⟩
  rw [show cnX c vc n k mn 5 = y5 from hy5.symm] at hr5
  obtain ⟨y6, hy6⟩ : ∃ y, y = qC6 c vc n k q mn sm := ⟨_, rfl⟩
  rw [show cnX c vc n k mn 6 = y6 from hy6.symm] at hr6
  obtain ⟨y7, hy7⟩ : ∃ y, y = qC7 c vc n k q mn sm := ⟨_, rfl⟩
  rw [show cnX c vc n k mn 7 = y7 from hy7.symm] at hr7
  obtain ⟨a9, v9, hr8, he9, hc9⟩ := m_readsText (E := E) (ax := ax) (vx := vx) (tx := tx) (v := v8) (t := t) (n := n) (k := k) (q := q) (mn := mn) (sm := sm) g8.2.2.1 g8.2.2.2.1 (w := 0) (by decide)
  have hC9 := hc9 hC8
  have g9 := REL.eqM g8 he9
  have E9 := E8.trans he9
  obtain ⟨y8, hy8⟩ : ∃ y, y = qF c vc n k q mn sm 0 := ⟨_, rfl⟩
  rw [show c 2 0 = y8 from hy8.symm] at hr8
  obtain ⟨a10, v10, hr9, he10, hc10⟩ := m_readsText (E := E) (ax := ax) (vx := vx) (tx := tx) (v := v9) (t := t) (n := n) (k := k) (q := q) (mn := mn) (sm := sm) g9.2.2.1 g9.2.2.2.1 (w := 1) (by decide)
  have hC10 := hc10 hC9
  have g10 := REL.eqM g9 he10
  have E10 := E9.trans he10
  obtain ⟨y9, hy9⟩ : ∃ y, y = qF c vc n k q mn sm 1 := ⟨_, rfl⟩
  rw [show c 2 1 = y9 from hy9.symm] at hr9
  obtain ⟨a11, v11, hr10, he11, hc11⟩ := m_readsText (E := E) (ax := ax) (vx := vx) (tx := tx) (v := v10) (t := t) (n := n) (k := k) (q := q) (mn := mn) (sm := sm) g10.2.2.1 g10.2.2.2.1 (w := 2) (by decide)
  have hC11 := hc11 hC10
  have g11 := REL.eqM g10 he11
  have E11 := E10.trans he11
  obtain ⟨y10, hy10⟩ : ∃ y, y = qF c vc n k q mn sm 2 := ⟨_, rfl⟩
  rw [show c 2 2 = y10 from hy10.symm] at hr10
  have z11 : v11 33 = 0 := g11.2.2.2.2.1.2.1
  obtain ⟨b1, hs1, hf1, hD1, hL1⟩ := m_livesV (E := E) (ax := ax) (vx := vx) (tx := tx) (t := t) hC11 z11
  obtain ⟨h0, hh0⟩ : ∃ h0, h0 = lp (fun m h => mMin c vc n k q mn sm h m) 0 24 (mHead c vc n k q mn sm) := ⟨_, rfl⟩
  obtain ⟨b2, h2, hf2, hD2, hh2, hgo2⟩ := md_span (E := E) (ax := ax) (vx := vx) (tx := tx) (t := t) vc hD1 z11 h0
  obtain ⟨b3, t3, h3, hf3, hD3, hh3, hgo3⟩ := md_log (E := E) (ax := ax) (vx := vx) (tx := tx) (t := t) vc hD2 z11 h2
  have G3 : REL c vc b3 v11 n k q mn sm tt ya yb yc := REL.eqM g11 (eqM.of (fun j hj => (hf3 j hj).trans ((hf2 j hj).trans (hf1 j hj))))
  obtain ⟨b4, y, hs4, hf4⟩ := md_whole (E := E) (ax := ax) (vx := vx) (tx := tx) (t := t3) hD3 z11 G3.2.2.1 G3.2.2.2.1 h3
  refine ⟨b4, upd v11 35 y, t3, ?_, E11.trans ⟨fun j hj => (hf4 j hj).trans ((hf3 j hj).trans ((hf2 j hj).trans (hf1 j hj))), fun j _ h2 => pk_un h2⟩⟩
  rw [show mDig c vc n k q mn sm = mWhole c vc n k q mn sm h3 by rw [hh3, hh2, hh0]; rfl]
  have eH : mHead c vc n k q mn sm = mx (mx (mx (mx (mx (mx (mx (mx (mx (mx (mx (17) y0) y1) y2) y3) y4) y5) y6) y7) y8) y9) y10 := by unfold mHead; rw [hy0, hy1, hy2, hy3, hy4, hy5, hy6, hy7, hy8, hy9, hy10]
  rw [eH] at hh0
  repeat refine Rn.step rfl ?_
  refine Rn.calli rfl rfl rfl (by decide) hr0 (fun z0 f0 => ?_)
  subst f0
  repeat refine Rn.step rfl ?_
  refine Rn.calli rfl rfl rfl (by decide) hr1 (fun z1 f1 => ?_)
  subst f1
  repeat refine Rn.step rfl ?_
  refine Rn.calli rfl rfl rfl (by decide) hr2 (fun z2 f2 => ?_)
  subst f2
  repeat refine Rn.step rfl ?_
  refine Rn.calli rfl rfl rfl (by decide) hr3 (fun z3 f3 => ?_)
  subst f3
  repeat refine Rn.step rfl ?_
  refine Rn.calli rfl rfl rfl (by decide) hr4 (fun z4 f4 => ?_)
  subst f4
  repeat refine Rn.step rfl ?_
  refine Rn.calli rfl rfl rfl (by decide) hr5 (fun z5 f5 => ?_)
  subst f5
  repeat refine Rn.step rfl ?_
  refine Rn.calli rfl rfl rfl (by decide) hr6 (fun z6 f6 => ?_)
  subst f6
  repeat refine Rn.step rfl ?_
  refine Rn.calli rfl rfl rfl (by decide) hr7 (fun z7 f7 => ?_)
  subst f7
  repeat refine Rn.step rfl ?_
  refine Rn.calli rfl rfl rfl (by decide) hr8 (fun z8 f8 => ?_)
  subst f8
  repeat refine Rn.step rfl ?_
  refine Rn.calli rfl rfl rfl (by decide) hr9 (fun z9 f9 => ?_)
  subst f9
  repeat refine Rn.step rfl ?_
  refine Rn.calli rfl rfl rfl (by decide) hr10 (fun z10 f10 => ?_)
  subst f10
  repeat refine Rn.step rfl ?_
  refine Rn.callv rfl rfl rfl (by decide) hs1 ?_
  iterate 2 refine Rn.step rfl ?_
  refine md_min vc hD1 hL1 _ (fun h1 e1 => ?_)
  rw [e1, ← hh0]
  iterate 2 refine Rn.step rfl ?_
  refine hgo2 _ ?_
  iterate 2 refine Rn.step rfl ?_
  refine hgo3 _ ?_
  exact hs4
end MVX
