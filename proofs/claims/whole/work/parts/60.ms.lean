section MSX
variable {E : iExtT} {c ax : Nat → Nat → Int32} {vc vx : Nat → Int32} {tx : Nat → Nat → Int64} {a : Nat → Nat → Int32} {v : Nat → Int32} {t : Nat → Nat → Int64} {n k q : Nat} {mn sm tt : Nat → Nat} {ya yb yc : Nat}
theorem m_readsText (hT : RT c vc a ya yb yc) (hO : RO c n tt ya yb yc) {w : Nat} (hw : w < 3) : ∃ (a' : Nat → Nat → Int32) (v' : Nat → Int32), Rn E 4 mX8_readsText (0, [(0, .ref 53), (1, .int (nI w))], [], wY ax vx tx a v t) (some (.int (c 2 w)), wY ax vx tx a' v' t) ∧ eqM a v a' v' ∧ (MC c a v n k q mn sm tt → MC c a' v' n k q mn sm tt) := by
  obtain rfl | rfl | rfl : w = 0 ∨ w = 1 ∨ w = 2 := by omega
  · obtain ⟨g, hr, hg⟩ := m_rd0 (E := E) (ax := ax) (vx := vx) (tx := tx) (v := v) (t := t) hT hO
    refine ⟨va_up a 60 g, v, ?_, ⟨fun j hj => up_out (fun e => hj (by rw [e]; decide)), fun _ _ _ => rfl⟩, fun hC => hC.g60 hg⟩
    iterate 1 refine Rn.step rfl ?_
    refine Rn.step rfl ?_
    iterate 1 refine Rn.step rfl ?_
    refine Rn.calli rfl rfl rfl (by decide) hr (fun z f => ?_)
    rw [f]
    iterate 1 refine Rn.step rfl ?_
    exact Rn.ret rfl
  · obtain ⟨g, hr, hg⟩ := m_rd1 (E := E) (ax := ax) (vx := vx) (tx := tx) (v := v) (t := t) hT hO
    refine ⟨va_up a 61 g, v, ?_, ⟨fun j hj => up_out (fun e => hj (by rw [e]; decide)), fun _ _ _ => rfl⟩, fun hC => ?_⟩
    · iterate 1 refine Rn.step rfl ?_
      refine Rn.step rfl ?_
      iterate 2 refine Rn.step rfl ?_
      refine Rn.step rfl ?_
      iterate 1 refine Rn.step rfl ?_
      refine Rn.calli rfl rfl rfl (by decide) hr (fun z f => ?_)
      rw [f]
      iterate 1 refine Rn.step rfl ?_
      exact Rn.ret rfl
    · have h := hC.g61 hg (hO.fe hT.2.1.1)
      rw [va_id] at h
      exact h
  · obtain ⟨g, hr, hg⟩ := m_rd2 (E := E) (ax := ax) (vx := vx) (tx := tx) (v := v) (t := t) hT hO
    refine ⟨va_up a 62 g, upd v 31 (nI n), ?_, ⟨fun j hj => up_out (fun e => hj (by rw [e]; decide)), fun _ h1 _ => pk_un h1⟩, fun hC => hC.g62 hg⟩
    iterate 1 refine Rn.step rfl ?_
    refine Rn.step rfl ?_
    iterate 2 refine Rn.step rfl ?_
    refine Rn.step rfl ?_
    iterate 1 refine Rn.step rfl ?_
    refine Rn.calli rfl rfl rfl (by decide) hr (fun z f => ?_)
    rw [f]
    exact Rn.ret rfl
theorem mq_fault_bad (x : Int32) (hb : ¬ inB x 3) : Rn E 5 mX8_fault (0, [(0, .ref 53), (1, .int x)], [], wY ax vx tx a v t) (some (.int (-2)), wY ax vx tx a v t) := by
  iterate 1 refine Rn.step rfl ?_
  refine Rn.calli rfl rfl rfl (by decide) (m_isText x _) (fun z f => ?_)
  refine Rn.br1 rfl (by rw [f]; exact ib_eq0.mpr hb) ?_
  iterate 1 refine Rn.step rfl ?_
  exact Rn.ret rfl
theorem mq_fault (hT : RT c vc a ya yb yc) (hO : RO c n tt ya yb yc) {w : Nat} (hw : w < 3) : ∃ (a' : Nat → Nat → Int32) (v' : Nat → Int32), Rn E 5 mX8_fault (0, [(0, .ref 53), (1, .int (nI w))], [], wY ax vx tx a v t) (some (.int (c 2 w)), wY ax vx tx a' v' t) ∧ eqM a v a' v' := by
  obtain ⟨a1, v1, hr, he, -⟩ := m_readsText (E := E) (ax := ax) (vx := vx) (tx := tx) (v := v) (t := t) (k := 0) (q := 0) (mn := fun _ => 0) (sm := fun _ => 0) hT hO hw
  refine ⟨a1, v1, ?_, he⟩
  iterate 1 refine Rn.step rfl ?_
  refine Rn.calli rfl rfl rfl (by decide) (m_isText (nI w) _) (fun z f => ?_)
  refine Rn.br2 rfl (by rw [f]; exact ib_ne0.mpr (inB_nI (n := 3) hw (by decide))) ?_
  iterate 2 refine Rn.step rfl ?_
  refine Rn.calli rfl rfl rfl (by decide) hr (fun z f => ?_)
  rw [f]
  iterate 1 refine Rn.step rfl ?_
  exact Rn.ret rfl
theorem m_spanBy0 {s : Nat} (hs : s < 16) : Rn E 0 mX8_spanBy (0, [(0, .ref 53), (1, .int (nI s)), (2, .int 0)], [], wY ax vx tx a v t) (some (.int (a 60 s)), wY ax vx tx a v t) := by
  iterate 1 refine Rn.step rfl ?_
  refine Rn.step rfl ?_
  iterate 3 refine Rn.step rfl ?_
  refine Rn.ald s rfl rfl hs (by decide) ?_
  iterate 1 refine Rn.step rfl ?_
  exact Rn.ret rfl
theorem m_spanBy1 {s : Nat} (hs : s < 16) : Rn E 0 mX8_spanBy (0, [(0, .ref 53), (1, .int (nI s)), (2, .int 1)], [], wY ax vx tx a v t) (some (.int (a 61 s)), wY ax vx tx a v t) := by
  iterate 1 refine Rn.step rfl ?_
  refine Rn.step rfl ?_
  iterate 3 refine Rn.step rfl ?_
  refine Rn.ald s rfl rfl hs (by decide) ?_
  exact Rn.ret rfl
theorem m_span_pre (hT : RT c vc a ya yb yc) (hO : RO c n tt ya yb yc) (x y : Int32) : ∃ (a' : Nat → Nat → Int32), eqM a v a' v ∧ (∀ s, s < 16 → a' 60 s = c 4 s ∧ a' 61 s = c 5 s) ∧ ∀ o, Rn E 5 mX8_span (10, [(0, .ref 53), (1, .int x), (2, .int y)], [], wY ax vx tx a' v t) o → Rn E 5 mX8_span (0, [(0, .ref 53), (1, .int x), (2, .int y)], [], wY ax vx tx a v t) o := by
  obtain ⟨g0, hr0, hg0⟩ := m_rd0 (E := E) (ax := ax) (vx := vx) (tx := tx) (v := v) (t := t) hT hO
  have hT1 : RT c vc (va_up a 60 g0) ya yb yc := hT
  obtain ⟨g1, hr1, hg1⟩ := m_rd1 (E := E) (ax := ax) (vx := vx) (tx := tx) (v := v) (t := t) hT1 hO
  refine ⟨va_up (va_up a 60 g0) 61 g1, ⟨fun j hj => ?_, fun _ _ _ => rfl⟩, fun s hs => ⟨hg0 s hs, hg1 s hs⟩, fun o kk => ?_⟩
  · rw [up_out (fun e => hj (by rw [e]; decide)), up_out (fun e => hj (by rw [e]; decide))]
  · iterate 1 refine Rn.step rfl ?_
    refine Rn.calli rfl rfl rfl (by decide) hr0 (fun z f => ?_)
    iterate 2 refine Rn.step rfl ?_
    refine Rn.calli rfl rfl rfl (by decide) hr1 (fun z f => ?_)
    iterate 1 refine Rn.step rfl ?_
    exact kk
theorem mq_span_bad (hT : RT c vc a ya yb yc) (hO : RO c n tt ya yb yc) (x y : Int32) (hb : ¬ (inB x 16 ∧ inB y 2)) : ∃ (a' : Nat → Nat → Int32), Rn E 5 mX8_span (0, [(0, .ref 53), (1, .int x), (2, .int y)], [], wY ax vx tx a v t) (some (.int (-2)), wY ax vx tx a' v t) ∧ eqM a v a' v := by
  obtain ⟨a1, he, -, hgo⟩ := m_span_pre (E := E) (ax := ax) (vx := vx) (tx := tx) (v := v) (t := t) hT hO x y
  refine ⟨a1, hgo _ ?_, he⟩
  iterate 1 refine Rn.step rfl ?_
  refine Rn.calli rfl rfl rfl (by decide) (m_isSpan x _) (fun y0 f0 => ?_)
  refine Rn.br rfl (fun p0 => ?_) (fun p0 => ?_)
  · iterate 1 refine Rn.step rfl ?_
    exact Rn.ret rfl
  · rw [f0, ib_ne0] at p0
    iterate 1 refine Rn.step rfl ?_
    refine Rn.calli rfl rfl rfl (by decide) (m_isTwo y _) (fun y1 f1 => ?_)
    refine Rn.br1 rfl (by rw [f1]; exact ib_eq0.mpr (fun p => hb ⟨p0, p⟩)) ?_
    iterate 1 refine Rn.step rfl ?_
    exact Rn.ret rfl
theorem mq_span0 (hT : RT c vc a ya yb yc) (hO : RO c n tt ya yb yc) {s : Nat} (hs : s < 16) : ∃ (a' : Nat → Nat → Int32), Rn E 5 mX8_span (0, [(0, .ref 53), (1, .int (nI s)), (2, .int 0)], [], wY ax vx tx a v t) (some (.int (c 4 s)), wY ax vx tx a' v t) ∧ eqM a v a' v := by
  obtain ⟨a1, he, hv, hgo⟩ := m_span_pre (E := E) (ax := ax) (vx := vx) (tx := tx) (v := v) (t := t) hT hO (nI s) 0
  refine ⟨a1, hgo _ ?_, he⟩
  iterate 1 refine Rn.step rfl ?_
  refine Rn.calli rfl rfl rfl (by decide) (m_isSpan (nI s) _) (fun y0 f0 => ?_)
  refine Rn.br2 rfl (by rw [f0]; exact ib_ne0.mpr (inB_nI (n := 16) hs (by decide))) ?_
  iterate 1 refine Rn.step rfl ?_
  refine Rn.calli rfl rfl rfl (by decide) (m_isTwo 0 _) (fun y1 f1 => ?_)
  refine Rn.br2 rfl (by rw [f1]; decide) ?_
  iterate 3 refine Rn.step rfl ?_
  refine Rn.calli rfl rfl rfl (by decide) (m_spanBy0 hs) (fun z f => ?_)
  rw [f, (hv s hs).1]
  iterate 1 refine Rn.step rfl ?_
  exact Rn.ret rfl
theorem mq_span1 (hT : RT c vc a ya yb yc) (hO : RO c n tt ya yb yc) {s : Nat} (hs : s < 16) : ∃ (a' : Nat → Nat → Int32), Rn E 5 mX8_span (0, [(0, .ref 53), (1, .int (nI s)), (2, .int 1)], [], wY ax vx tx a v t) (some (.int (c 5 s)), wY ax vx tx a' v t) ∧ eqM a v a' v := by
  obtain ⟨a1, he, hv, hgo⟩ := m_span_pre (E := E) (ax := ax) (vx := vx) (tx := tx) (v := v) (t := t) hT hO (nI s) 1
  refine ⟨a1, hgo _ ?_, he⟩
  iterate 1 refine Rn.step rfl ?_
  refine Rn.calli rfl rfl rfl (by decide) (m_isSpan (nI s) _) (fun y0 f0 => ?_)
  refine Rn.br2 rfl (by rw [f0]; exact ib_ne0.mpr (inB_nI (n := 16) hs (by decide))) ?_
  iterate 1 refine Rn.step rfl ?_
  refine Rn.calli rfl rfl rfl (by decide) (m_isTwo 1 _) (fun y1 f1 => ?_)
  refine Rn.br2 rfl (by rw [f1]; decide) ?_
  iterate 3 refine Rn.step rfl ?_
  refine Rn.calli rfl rfl rfl (by decide) (m_spanBy1 hs) (fun z f => ?_)
  rw [f, (hv s hs).2]
  iterate 1 refine Rn.step rfl ?_
  exact Rn.ret rfl
theorem mq_log_bad (hn : n ≤ 8) (hT : RT c vc a ya yb yc) (hO : RO c n tt ya yb yc) (x y : Int32) (hb : ¬ (inB x (nI n) ∧ inB y 3)) : ∃ (a' : Nat → Nat → Int32) (v' : Nat → Int32), Rn E 5 mX8_log (0, [(0, .ref 53), (1, .int x), (2, .int y)], [], wY ax vx tx a v t) (some (.int (-2)), wY ax vx tx a' v' t) ∧ eqM a v a' v' := by
  obtain ⟨g, hr, hg⟩ := m_rd2 (E := E) (ax := ax) (vx := vx) (tx := tx) (v := v) (t := t) hT hO
  refine ⟨va_up a 62 g, upd v 31 (nI n), ?_, ⟨fun j hj => up_out (fun e => hj (by rw [e]; decide)), fun _ h1 _ => pk_un h1⟩⟩
  iterate 1 refine Rn.step rfl ?_
  refine Rn.calli rfl rfl rfl (by decide) hr (fun z f => ?_)
  iterate 3 refine Rn.step rfl ?_
  refine Rn.calli rfl rfl rfl (by decide) (m_isLog x hn pk_us) (fun y0 f0 => ?_)
  refine Rn.br rfl (fun p0 => ?_) (fun p0 => ?_)
  · iterate 1 refine Rn.step rfl ?_
    exact Rn.ret rfl
  · rw [f0, ib_ne0] at p0
    iterate 4 refine Rn.step rfl ?_
    refine Rn.calli rfl rfl rfl (by decide) (m_inB y 2 (by decide) _) (fun y1 f1 => ?_)
    refine Rn.br1 rfl (by rw [f1]; exact ib_eq0.mpr (fun p => hb ⟨p0, p⟩)) ?_
    iterate 1 refine Rn.step rfl ?_
    exact Rn.ret rfl
theorem mq_log (hn : n ≤ 8) (hT : RT c vc a ya yb yc) (hO : RO c n tt ya yb yc) {l w : Nat} (hl : l < n) (hw : w < 3) : ∃ (a' : Nat → Nat → Int32) (v' : Nat → Int32), Rn E 5 mX8_log (0, [(0, .ref 53), (1, .int (nI l)), (2, .int (nI w))], [], wY ax vx tx a v t) (some (.int (c (6 + w) l)), wY ax vx tx a' v' t) ∧ eqM a v a' v' := by
  obtain ⟨g, hr, hg⟩ := m_rd2 (E := E) (ax := ax) (vx := vx) (tx := tx) (v := v) (t := t) hT hO
  refine ⟨va_up a 62 g, upd v 31 (nI n), ?_, ⟨fun j hj => up_out (fun e => hj (by rw [e]; decide)), fun _ h1 _ => pk_un h1⟩⟩
  have e : g (3 * l + w) = c (6 + w) l := by
    obtain ⟨g1, g2, g3⟩ := hg l hl
    obtain rfl | rfl | rfl : w = 0 ∨ w = 1 ∨ w = 2 := by omega
    · exact g1
    · exact g2
    · exact g3
  iterate 1 refine Rn.step rfl ?_
  refine Rn.calli rfl rfl rfl (by decide) hr (fun z f => ?_)
  iterate 3 refine Rn.step rfl ?_
  refine Rn.calli rfl rfl rfl (by decide) (m_isLog (nI l) hn pk_us) (fun y0 f0 => ?_)
  refine Rn.br2 rfl (by rw [f0]; exact ib_ne0.mpr (inB_nI hl (by omega))) ?_
  iterate 4 refine Rn.step rfl ?_
  refine Rn.calli rfl rfl rfl (by decide) (m_inB (nI w) 2 (by decide) _) (fun y1 f1 => ?_)
  refine Rn.br2 rfl (by rw [f1]; exact ib_ne0.mpr (inB_nI (n := 3) hw (by decide))) ?_
  iterate 7 refine Rn.step rfl ?_
  refine Rn.ald (3 * l + w) rfl (ix_am 3 l w) (by omega) (by decide) ?_
  refine Rn.top (x' := c (6 + w) l) e ?_
  iterate 1 refine Rn.step rfl ?_
  exact Rn.ret rfl
theorem m_event_bad {x y z : Int32} (hb : ¬ (inB x 3 ∧ inB y 24 ∧ inB z 16)) : Rn E 2 mX8_event (0, [(0, .ref 53), (1, .int x), (2, .int y), (3, .int z)], [], wY ax vx tx a v t) (some (.int (-2)), wY ax vx tx a v t) := by
  iterate 4 refine Rn.step rfl ?_
  refine Rn.calli rfl rfl rfl (by decide) (m_inB x 2 (by decide) _) (fun y0 f0 => ?_)
  have f0 : y0 = ib (inB x 3) := f0
  refine Rn.br rfl (fun p0 => ?_) (fun p0 => ?_)
  · iterate 1 refine Rn.step rfl ?_
    exact Rn.ret rfl
  · rw [f0, ib_ne0] at p0
    iterate 1 refine Rn.step rfl ?_
    refine Rn.calli rfl rfl rfl (by decide) (m_isMinute y _) (fun y1 f1 => ?_)
    refine Rn.br rfl (fun p1 => ?_) (fun p1 => ?_)
    · iterate 1 refine Rn.step rfl ?_
      exact Rn.ret rfl
    · rw [f1, ib_ne0] at p1
      iterate 1 refine Rn.step rfl ?_
      refine Rn.calli rfl rfl rfl (by decide) (m_isSpan z _) (fun y2 f2 => ?_)
      refine Rn.br2 rfl (by rw [f2]; exact fun q => q (ib_eq0.mpr (fun p => hb ⟨p0, p1, p⟩))) ?_
      iterate 1 refine Rn.step rfl ?_
      exact Rn.ret rfl
theorem m_event_pre {x y z : Int32} (hb : inB x 3 ∧ inB y 24 ∧ inB z 16) {o : iRes} (kk : Rn E 2 mX8_event (29, [(0, .ref 53), (1, .int x), (2, .int y), (3, .int z)], [], wY ax vx tx a v t) o) : Rn E 2 mX8_event (0, [(0, .ref 53), (1, .int x), (2, .int y), (3, .int z)], [], wY ax vx tx a v t) o := by
  iterate 4 refine Rn.step rfl ?_
  refine Rn.calli rfl rfl rfl (by decide) (m_inB x 2 (by decide) _) (fun y0 f0 => ?_)
  refine Rn.br2 rfl (by rw [f0]; exact ib_ne0.mpr hb.1) ?_
  iterate 1 refine Rn.step rfl ?_
  refine Rn.calli rfl rfl rfl (by decide) (m_isMinute y _) (fun y1 f1 => ?_)
  refine Rn.br2 rfl (by rw [f1]; exact ib_ne0.mpr hb.2.1) ?_
  iterate 1 refine Rn.step rfl ?_
  refine Rn.calli rfl rfl rfl (by decide) (m_isSpan z _) (fun y2 f2 => ?_)
  refine Rn.br1 rfl (by rw [f2]; exact ib_ne0.mpr hb.2.2) ?_
  exact kk
theorem m_event_full {x y z : Int32} (hb : inB x 3 ∧ inB y 24 ∧ inB z 16) (hv : v 32 = nI 8) : Rn E 2 mX8_event (0, [(0, .ref 53), (1, .int x), (2, .int y), (3, .int z)], [], wY ax vx tx a v t) (some (.int (-4)), wY ax vx tx a v t) := by
  refine m_event_pre hb ?_
  iterate 3 refine Rn.step rfl ?_
  refine Rn.br2 rfl (by rw [hv]; decide) ?_
  iterate 1 refine Rn.step rfl ?_
  exact Rn.ret rfl
abbrev ev3 (f : Nat → Int32) (k : Nat) (x y z : Int32) : Nat → Int32 := upd (upd (upd f (3 * k) x) (3 * k + 1) y) (3 * k + 2) z
theorem m_event {x y z : Int32} (hb : inB x 3 ∧ inB y 24 ∧ inB z 16) (hk : k < 8) (hv : v 32 = nI k) : Rn E 2 mX8_event (0, [(0, .ref 53), (1, .int x), (2, .int y), (3, .int z)], [], wY ax vx tx a v t) (some (.int (nI (k + 1))), wY ax vx tx (va_up a 63 (ev3 (a 63) k x y z)) (upd v 32 (nI (k + 1))) t) := by
  refine m_event_pre hb ?_
  iterate 3 refine Rn.step rfl ?_
  refine Rn.br1 rfl (by rw [hv]; exact fun q => absurd ((nI_eq (b := 8) (by omega) (by decide)).mp q) (by omega)) ?_
  iterate 5 refine Rn.step rfl ?_
  refine Rn.top (x' := nI k) hv ?_
  iterate 2 refine Rn.step rfl ?_
  refine Rn.ast (3 * k) rfl (pk_mul 3 k) (by omega) (by decide) (h3 := wY ax vx tx (va_up a 63 (upd (a 63) (3 * k) x)) v t) rfl ?_
  iterate 5 refine Rn.step rfl ?_
  refine Rn.top (x' := nI k) hv ?_
  iterate 4 refine Rn.step rfl ?_
  refine Rn.ast (3 * k + 1) rfl (ix_am 3 k 1) (by omega) (by decide) (h3 := wY ax vx tx (va_up a 63 (upd (upd (a 63) (3 * k) x) (3 * k + 1) y)) v t) (by rw [← va_two a 63 (upd (a 63) (3 * k) x) (upd (upd (a 63) (3 * k) x) (3 * k + 1) y)]; rfl) ?_
  iterate 5 refine Rn.step rfl ?_
  refine Rn.top (x' := nI k) hv ?_
  iterate 4 refine Rn.step rfl ?_
  refine Rn.ast (3 * k + 2) rfl (ix_am 3 k 2) (by omega) (by decide) (h3 := wY ax vx tx (va_up a 63 (ev3 (a 63) k x y z)) v t) (by rw [← va_two a 63 (upd (upd (a 63) (3 * k) x) (3 * k + 1) y) (ev3 (a 63) k x y z)]; rfl) ?_
  iterate 3 refine Rn.step rfl ?_
  refine Rn.top (x' := nI k) hv ?_
  iterate 2 refine Rn.step rfl ?_
  refine Rn.top (nI_1 k) ?_
  refine Rn.step rfl ?_
  refine Rn.hp (h2 := wY ax vx tx (va_up a 63 (ev3 (a 63) k x y z)) (upd v 32 (nI (k + 1))) t) rfl ?_
  iterate 2 refine Rn.step rfl ?_
  exact Rn.ret rfl
theorem m_back_not (hv : v 32 = 0) : Rn E 0 mX8_back (0, [(0, .ref 53)], [], wY ax vx tx a v t) (some (.int (-3)), wY ax vx tx a v t) := by
  iterate 2 refine Rn.step rfl ?_
  refine Rn.br2 rfl (fun q => q hv) ?_
  iterate 1 refine Rn.step rfl ?_
  exact Rn.ret rfl
theorem m_back (hk : k < 8) (hv : v 32 = nI (k + 1)) : Rn E 0 mX8_back (0, [(0, .ref 53)], [], wY ax vx tx a v t) (some (.int (nI k)), wY ax vx tx a (upd v 32 (nI k)) t) := by
  iterate 2 refine Rn.step rfl ?_
  refine Rn.br1 rfl (by rw [hv]; exact nI_ne0 (by omega) (by omega)) ?_
  iterate 3 refine Rn.step rfl ?_
  refine Rn.top (x' := nI (k + 1)) hv ?_
  iterate 2 refine Rn.step rfl ?_
  refine Rn.top (nI_pred k) ?_
  refine Rn.step rfl ?_
  refine Rn.hp (h2 := wY ax vx tx a (upd v 32 (nI k)) t) rfl ?_
  iterate 2 refine Rn.step rfl ?_
  exact Rn.ret rfl
theorem m_seen_bad {x y z : Int32} (hb : ¬ (inB x 24 ∧ inB y 16 ∧ inB z 9)) : Rn E 2 mX8_seen (0, [(0, .ref 53), (1, .int x), (2, .int y), (3, .int z)], [], wY ax vx tx a v t) (some (.int (-2)), wY ax vx tx a v t) := by
  iterate 1 refine Rn.step rfl ?_
  refine Rn.calli rfl rfl rfl (by decide) (m_isMinute x _) (fun y0 f0 => ?_)
  refine Rn.br rfl (fun p0 => ?_) (fun p0 => ?_)
  · iterate 1 refine Rn.step rfl ?_
    exact Rn.ret rfl
  · rw [f0, ib_ne0] at p0
    iterate 1 refine Rn.step rfl ?_
    refine Rn.calli rfl rfl rfl (by decide) (m_isSpan y _) (fun y1 f1 => ?_)
    refine Rn.br rfl (fun p1 => ?_) (fun p1 => ?_)
    · iterate 1 refine Rn.step rfl ?_
      exact Rn.ret rfl
    · rw [f1, ib_ne0] at p1
      iterate 4 refine Rn.step rfl ?_
      refine Rn.calli rfl rfl rfl (by decide) (m_inB z 8 (by decide) _) (fun y2 f2 => ?_)
      have f2 : y2 = ib (inB z 9) := f2
      refine Rn.br2 rfl (by rw [f2]; exact fun q => q (ib_eq0.mpr (fun p => hb ⟨p0, p1, p⟩))) ?_
      iterate 1 refine Rn.step rfl ?_
      exact Rn.ret rfl
theorem m_seen_pre {x y z : Int32} (hb : inB x 24 ∧ inB y 16 ∧ inB z 9) {o : iRes} (kk : Rn E 2 mX8_seen (29, [(0, .ref 53), (1, .int x), (2, .int y), (3, .int z)], [], wY ax vx tx a v t) o) : Rn E 2 mX8_seen (0, [(0, .ref 53), (1, .int x), (2, .int y), (3, .int z)], [], wY ax vx tx a v t) o := by
  iterate 1 refine Rn.step rfl ?_
  refine Rn.calli rfl rfl rfl (by decide) (m_isMinute x _) (fun y0 f0 => ?_)
  refine Rn.br2 rfl (by rw [f0]; exact ib_ne0.mpr hb.1) ?_
  iterate 1 refine Rn.step rfl ?_
  refine Rn.calli rfl rfl rfl (by decide) (m_isSpan y _) (fun y1 f1 => ?_)
  refine Rn.br2 rfl (by rw [f1]; exact ib_ne0.mpr hb.2.1) ?_
  iterate 4 refine Rn.step rfl ?_
  refine Rn.calli rfl rfl rfl (by decide) (m_inB z 8 (by decide) _) (fun y2 f2 => ?_)
  refine Rn.br1 rfl (by rw [f2]; exact ib_ne0.mpr hb.2.2) ?_
  exact kk
theorem m_seen_full {x y z : Int32} (hb : inB x 24 ∧ inB y 16 ∧ inB z 9) (hv : v 34 = nI 8) : Rn E 2 mX8_seen (0, [(0, .ref 53), (1, .int x), (2, .int y), (3, .int z)], [], wY ax vx tx a v t) (some (.int (-4)), wY ax vx tx a v t) := by
  refine m_seen_pre hb ?_
  iterate 3 refine Rn.step rfl ?_
  refine Rn.br2 rfl (by rw [hv]; decide) ?_
  iterate 1 refine Rn.step rfl ?_
  exact Rn.ret rfl
theorem m_seen {x y z : Int32} (hb : inB x 24 ∧ inB y 16 ∧ inB z 9) (hk : k < 8) (hv : v 34 = nI k) : Rn E 2 mX8_seen (0, [(0, .ref 53), (1, .int x), (2, .int y), (3, .int z)], [], wY ax vx tx a v t) (some (.int (nI (k + 1))), wY ax vx tx (va_up a 73 (ev3 (a 73) k x y z)) (upd v 34 (nI (k + 1))) t) := by
  refine m_seen_pre hb ?_
  iterate 3 refine Rn.step rfl ?_
  refine Rn.br1 rfl (by rw [hv]; exact fun q => absurd ((nI_eq (b := 8) (by omega) (by decide)).mp q) (by omega)) ?_
  iterate 5 refine Rn.step rfl ?_
  refine Rn.top (x' := nI k) hv ?_
  iterate 2 refine Rn.step rfl ?_
  refine Rn.ast (3 * k) rfl (pk_mul 3 k) (by omega) (by decide) (h3 := wY ax vx tx (va_up a 73 (upd (a 73) (3 * k) x)) v t) rfl ?_
  iterate 5 refine Rn.step rfl ?_
  refine Rn.top (x' := nI k) hv ?_
  iterate 4 refine Rn.step rfl ?_
  refine Rn.ast (3 * k + 1) rfl (ix_am 3 k 1) (by omega) (by decide) (h3 := wY ax vx tx (va_up a 73 (upd (upd (a 73) (3 * k) x) (3 * k + 1) y)) v t) (by rw [← va_two a 73 (upd (a 73) (3 * k) x) (upd (upd (a 73) (3 * k) x) (3 * k + 1) y)]; rfl) ?_
  iterate 5 refine Rn.step rfl ?_
  refine Rn.top (x' := nI k) hv ?_
  iterate 4 refine Rn.step rfl ?_
  refine Rn.ast (3 * k + 2) rfl (ix_am 3 k 2) (by omega) (by decide) (h3 := wY ax vx tx (va_up a 73 (ev3 (a 73) k x y z)) v t) (by rw [← va_two a 73 (upd (upd (a 73) (3 * k) x) (3 * k + 1) y) (ev3 (a 73) k x y z)]; rfl) ?_
  iterate 3 refine Rn.step rfl ?_
  refine Rn.top (x' := nI k) hv ?_
  iterate 2 refine Rn.step rfl ?_
  refine Rn.top (nI_1 k) ?_
  refine Rn.step rfl ?_
  refine Rn.hp (h2 := wY ax vx tx (va_up a 73 (ev3 (a 73) k x y z)) (upd v 34 (nI (k + 1))) t) rfl ?_
  iterate 2 refine Rn.step rfl ?_
  exact Rn.ret rfl
theorem m_forget : Rn E 0 mX8_forget (0, [(0, .ref 53)], [], wY ax vx tx a v t) (some (.int (v 34)), wY ax vx tx a (upd v 34 0) t) := by
  iterate 7 refine Rn.step rfl ?_
  refine Rn.hp (h2 := wY ax vx tx a (upd v 34 0) t) rfl ?_
  exact Rn.ret rfl
end MSX
