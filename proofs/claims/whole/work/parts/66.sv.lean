section SVX
variable {E : iExtT} {ax ax' : Nat → Nat → Int32} {vx vx' : Nat → Int32} {tx : Nat → Nat → Int64} {a a' : Nat → Nat → Int32} {v v' : Nat → Int32} {t : Nat → Nat → Int64} {n k q : Nat} {mn sm tt : Nat → Nat} {ya yb yc : Nat}
/-- events of class and model, k of them -/
def EvR (s : tl3) (e : Nat → Int32) (k : Nat) (mn : Nat → Nat) : Prop := k ≤ 8 ∧ ∀ i, i < k → (e (3 * i) = s.1 i ∧ e (3 * i + 1) = nI (mn i) ∧ e (3 * i + 2) = s.2.2 i) ∧ s.2.1 i = nI (mn i) ∧ mn i < 24
theorem REL.ev (h : REL ax vx a v n k q mn sm tt ya yb yc) : EvR (ax 10, ax 11, ax 12) (a 63) k mn := by
  obtain ⟨⟨-, ⟨hk, -, hmn⟩, -⟩, -, -, -, ⟨-, -, -, e4, -⟩, -⟩ := h
  exact ⟨hk, fun i hi => ⟨e4 i hi, hmn i hi⟩⟩
theorem ev3_in (f : Nat → Int32) (k : Nat) (x y z : Int32) : ev3 f k x y z (3 * k) = x ∧ ev3 f k x y z (3 * k + 1) = y ∧ ev3 f k x y z (3 * k + 2) = z := by
  unfold ev3
  refine ⟨?_, ?_, pk_us⟩
  · rw [pk_un (by omega), pk_un (by omega), pk_us]
  · rw [pk_un (by omega), pk_us]
theorem ev3_out (f : Nat → Int32) {k i : Nat} (x y z : Int32) (h : ¬ i = k) : ev3 f k x y z (3 * i) = f (3 * i) ∧ ev3 f k x y z (3 * i + 1) = f (3 * i + 1) ∧ ev3 f k x y z (3 * i + 2) = f (3 * i + 2) := by
  unfold ev3
  refine ⟨?_, ?_, ?_⟩
  · rw [pk_un (by omega), pk_un (by omega), pk_un (by omega)]
  · rw [pk_un (by omega), pk_un (by omega), pk_un (by omega)]
  · rw [pk_un (by omega), pk_un (by omega), pk_un (by omega)]
theorem EvR.add {s : tl3} {e : Nat → Int32} (h : EvR s e k mn) (hk : k < 8) {x y z : Int32} (hy : inB y 24) : ∃ mn', EvR (upd s.1 k x, upd s.2.1 k y, upd s.2.2 k z) (ev3 e k x y z) (k + 1) mn' := by
  obtain ⟨m, hm, rfl⟩ := inB_ex (n := 24) (by decide) hy
  refine ⟨fun i => if i = k then m else mn i, by omega, fun i hi => ?_⟩
  dsimp only
  by_cases ne : i = k
  · subst ne
    obtain ⟨q1, q2, q3⟩ := ev3_in e i x (nI m) z
    rw [if_pos rfl, pk_us, pk_us, pk_us, q1, q2, q3]
    exact ⟨⟨rfl, rfl, rfl⟩, rfl, hm⟩
  · obtain ⟨q1, q2, q3⟩ := ev3_out e x (nI m) z ne
    rw [if_neg ne, pk_un ne, pk_un ne, pk_un ne, q1, q2, q3]
    exact h.2 i (by omega)
/-- events told anew -/
theorem rel_ev (h : REL ax vx a v n k q mn sm tt ya yb yc) {s : tl3} {e : Nat → Int32} {k' : Nat} {mn' : Nat → Nat} (he : EvR s e k' mn') : RLq (w3e ax s) (upd (upd vx 5 (nI k')) 1 0) (va_up a 63 e) (upd v 32 (nI k')) := by
  obtain ⟨⟨h1, -, h2⟩, -, hT, hO, ⟨-, e2, e3, -, e5⟩, h6⟩ := h
  refine ⟨n, k', q, mn', sm, tt, ya, yb, yc, ⟨h1, ⟨he.1, rfl, fun i hi => (he.2 i hi).2⟩, h2⟩, Or.inl rfl, hT, hO, ⟨rfl, e2, e3, fun i hi => (he.2 i hi).1, e5⟩, ?_⟩
  refine h6.cg rfl (fun j h1 h2 => ?_) (fun j h1 h2 => ?_) (fun j hj => ?_) rfl
  · rw [pk_un (by omega), pk_un (by omega)]
  · exact (up_out (i := 12) (by omega)).trans ((up_out (i := 11) (by omega)).trans (up_out (i := 10) (by omega)))
  · simp only [List.mem_cons, List.not_mem_nil, or_false] at hj
    rw [up_out (by omega)]
theorem st_event (h : RLq ax vx a v) (x y z : Int32) : STP E mX7_event mX8_event [(1, .int x), (2, .int y), (3, .int z)] ax vx tx a v t := by
  obtain ⟨n, k, q, mn, sm, tt, ya, yb, yc, h⟩ := h
  obtain ⟨hk, hv5, -⟩ := h.1.2.1
  have hv32 := h.2.2.2.2.1.1
  by_cases hb : inB x 3 ∧ inB y 24 ∧ inB z 16
  · by_cases hl : k < 8
    · obtain ⟨mn', he⟩ := h.ev.add hl (x := x) (y := y) (z := z) hb.2.1
      exact stp_c (by decide) (by decide) (r_event hb hl hv5) (m_event hb hl hv32) (rel_ev h he)
    · have e : k = 8 := by omega
      subst e
      exact stp_b (by decide) (by decide) h (r_event_full hb hv5) ⟨a, v, t, m_event_full hb hv32, eqM.rf⟩
  · exact stp_b (by decide) (by decide) h (r_event_bad hb) ⟨a, v, t, m_event_bad hb, eqM.rf⟩
theorem st_back (h : RLq ax vx a v) : STP E mX7_back mX8_back [] ax vx tx a v t := by
  obtain ⟨n, k, q, mn, sm, tt, ya, yb, yc, h⟩ := h
  obtain ⟨hk, hv5, -⟩ := h.1.2.1
  have hv32 := h.2.2.2.2.1.1
  by_cases e : k = 0
  · subst e
    exact stp_b (by decide) (by decide) h (r_back_not hv5) ⟨a, v, t, m_back_not hv32, eqM.rf⟩
  · obtain ⟨z, rfl⟩ : ∃ z, k = z + 1 := ⟨k - 1, by omega⟩
    have he : EvR (ax 10, ax 11, ax 12) (a 63) z mn := ⟨by omega, fun i hi => h.ev.2 i (by omega)⟩
    have hR := rel_ev h he
    have e1 : w3e ax (ax 10, ax 11, ax 12) = ax := by
      show va_up (va_up (va_up ax 10 (ax 10)) 11 (ax 11)) 12 (ax 12) = ax
      rw [va_id, va_id, va_id]
    rw [e1, va_id] at hR
    exact stp_c (by decide) (by decide) (r_back (by omega) hv5) (m_back (by omega) hv32) hR
theorem rd_rel {g g' : Nat → Int32} {z : Nat} (hg : ∀ i, i < z → g i = g' i) : ∀ (j b : Nat) (s : tl3) (e : Nat → Int32) (k : Nat) (mn : Nat → Nat), 3 * (b + j) ≤ z → EvR s e k mn → ∃ mn', (rdF g j b s k).2 = (rdM g' j b e k).2 ∧ EvR (rdF g j b s k).1 (rdM g' j b e k).1 (rdM g' j b e k).2.1 mn' := by
  intro j
  induction j with
  | zero => intro b s e k mn _ he; exact ⟨mn, rfl, he⟩
  | succ j ih =>
    intro b s e k mn hz he
    have e0 := hg (3 * b) (by omega)
    have e1 := hg (3 * b + 1) (by omega)
    have e2 := hg (3 * b + 2) (by omega)
    by_cases hP : rdP g' b k
    · have hP' : rdP g b k := by unfold rdP; rw [e0, e1, e2]; exact hP
      have q1 : rdF g (j + 1) b s k = rdF g j (b + 1) (upd s.1 k (g (3 * b)), upd s.2.1 k (g (3 * b + 1)), upd s.2.2 k (g (3 * b + 2))) (k + 1) := if_pos hP'
      have q2 : rdM g' (j + 1) b e k = rdM g' j (b + 1) (ev3 e k (g' (3 * b)) (g' (3 * b + 1)) (g' (3 * b + 2))) (k + 1) := if_pos hP
      obtain ⟨mn1, he1⟩ := he.add hP.2 (x := g' (3 * b)) (y := g' (3 * b + 1)) (z := g' (3 * b + 2)) hP.1.2.1
      rw [q1, q2, e0, e1, e2]
      exact ih (b + 1) _ _ (k + 1) mn1 (by omega) he1
    · have hP' : ¬ rdP g b k := by unfold rdP; rw [e0, e1, e2]; exact hP
      have q1 : rdF g (j + 1) b s k = (s, k, b) := if_neg hP'
      have q2 : rdM g' (j + 1) b e k = (e, k, b) := if_neg hP
      rw [q1, q2]
      exact ⟨mn, rfl, he⟩
/-- a finding -/
theorem rel_find (h : REL ax vx a v n k q mn sm tt ya yb yc) (F : Int32) : RLq ax (upd vx 0 F) a (upd v 30 F) := by
  obtain ⟨h1, h2, h3, h4, h5, h6⟩ := h
  refine ⟨n, k, q, mn, sm, tt, ya, yb, yc, h1, h2, h3, h4, h5, rfl, fun s hs => ?_⟩
  have := h6.2 s hs
  unfold RS1 at this ⊢
  rw [pk_un (by omega), pk_un (by omega)]
  exact this
theorem st_read (h : RLq ax vx a v) (x : Int32) : STP E mX7_read mX8_read [(1, .int x)] ax vx tx a v t := by
  obtain ⟨n, k, q, mn, sm, tt, ya, yb, yc, h⟩ := h
  obtain ⟨hk, hv5, -⟩ := h.1.2.1
  have hv32 := h.2.2.2.2.1.1
  by_cases hb : inB x 4
  · obtain ⟨s, hs, rfl⟩ := inB_ex (n := 4) (by decide) hb
    have hS := h.2.2.2.2.2.2 s hs
    rcases hS with ⟨p1, p2⟩ | ⟨z, hz, p1, p2, p3, p4, p5⟩
    · exact stp_c (by decide) (by decide) (r_read_null (s4 hs) p1) (m_read_null hs (by rw [p2]; decide)) (rel_find h 1)
    · have hf : 0 ≤ a 54 s := by rw [p3]; exact p4.1
      obtain ⟨mn', q1, q2⟩ := rd_rel (g := ax (shI s)) (g' := fun p => a 56 (60 * s + p)) p5 (z / 3) 0 (ax 10, ax 11, ax 12) (a 63) k mn (by omega) h.ev
      have hr := r_read (E := E) (a := ax) (v := vx) (t := tx) (r := wM a v t) (s4 hs) p1 hz hk hv5
      have hm := m_read (E := E) (ax := w3e ax (rdF (ax (shI s)) (z / 3) 0 (ax 10, ax 11, ax 12) k).1) (vx := upd (upd vx 5 (nI (rdF (ax (shI s)) (z / 3) 0 (ax 10, ax 11, ax 12) k).2.1)) 1 0) (tx := tx) (t := t) hs hf p2 hz hk hv32 (g := fun p => a 56 (60 * s + p)) rfl
      rw [q1] at hr hm
      exact stp_c (by decide) (by decide) hr hm (rel_ev h q2)
  · exact stp_b (by decide) (by decide) h (r_read_bad x hb) ⟨a, v, t, m_read_bad x hb, eqM.rf⟩
theorem st_seen (h : RLq ax vx a v) (x y z : Int32) : STP E mX7_seen mX8_seen [(1, .int x), (2, .int y), (3, .int z)] ax vx tx a v t := by
  obtain ⟨n, k, q, mn, sm, tt, ya, yb, yc, h⟩ := h
  obtain ⟨hq, hv6, hsm⟩ := h.1.2.2
  have hv34 := h.2.2.2.2.1.2.2.1
  by_cases hb : inB x 24 ∧ inB y 16 ∧ inB z 9
  · by_cases hl : q < 8
    · refine stp_c (by decide) (by decide) (r_seen hb hl hv6) (m_seen hb hl hv34) ?_
      obtain ⟨m, hm, rfl⟩ := inB_ex (n := 24) (by decide) hb.1
      obtain ⟨s, hs, rfl⟩ := inB_ex (n := 16) (by decide) hb.2.1
      obtain ⟨⟨h1, h1b, -⟩, h2, h3, h4, ⟨e1, e2, -, e4, e5⟩, h6⟩ := h
      refine ⟨n, k, q + 1, mn, fun i => if i = q then m else sm i, tt, ya, yb, yc, ⟨h1, h1b, by omega, rfl, fun i hi => ?_⟩, SetX_congr (fun j hj => ?_) rfl h2, h3, h4, ⟨e1, e2, rfl, e4, fun i hi => ?_⟩, ?_⟩
      · dsimp only
        show upd (ax 14) q (nI m) i = _ ∧ _
        by_cases e : i = q
        · subst e; rw [if_pos rfl, pk_us]; exact ⟨rfl, hm⟩
        · rw [if_neg e, pk_un e]; exact hsm i (by omega)
      · simp only [List.mem_cons, List.not_mem_nil, or_false] at hj
        rw [up_out (by omega), up_out (by omega), up_out (by omega)]
      · dsimp only
        show ev3 (a 73) q (nI m) (nI s) z (3 * i) = _ ∧ (∃ s', s' < 16 ∧ upd (ax 15) q (nI s) i = nI s') ∧ ev3 (a 73) q (nI m) (nI s) z (3 * i + 1) = upd (ax 15) q (nI s) i ∧ upd (ax 16) q (si8 z) i = si8 (ev3 (a 73) q (nI m) (nI s) z (3 * i + 2))
        by_cases e : i = q
        · subst e
          obtain ⟨q1, q2, q3⟩ := ev3_in (a 73) i (nI m) (nI s) z
          rw [if_pos rfl, q1, q2, q3, pk_us, pk_us]
          exact ⟨rfl, ⟨s, hs, rfl⟩, rfl, rfl⟩
        · obtain ⟨q1, q2, q3⟩ := ev3_out (a 73) (nI m) (nI s) z e
          rw [if_neg e, q1, q2, q3, pk_un e, pk_un e]
          exact e5 i (by omega)
      · refine h6.cg rfl (fun j h1 h2 => pk_un (by omega)) (fun j h1 h2 => ?_) (fun j hj => ?_) rfl
        · rw [up_out (by omega), up_out (by omega), up_out (by omega)]
        · simp only [List.mem_cons, List.not_mem_nil, or_false] at hj
          rw [up_out (by omega)]
    · have e : q = 8 := by omega
      subst e
      exact stp_b (by decide) (by decide) h (r_seen_full hb hv6) ⟨a, v, t, m_seen_full hb hv34, eqM.rf⟩
  · exact stp_b (by decide) (by decide) h (r_seen_bad x y z hb) ⟨a, v, t, m_seen_bad hb, eqM.rf⟩
theorem st_forget (h : RLq ax vx a v) : STP E mX7_forget mX8_forget [] ax vx tx a v t := by
  obtain ⟨n, k, q, mn, sm, tt, ya, yb, yc, h⟩ := h
  have hv6 := h.1.2.2.2.1
  have hv34 := h.2.2.2.2.1.2.2.1
  refine stp_c (h2 := 0) (by decide) (by decide) r_forget (by rw [hv6.trans hv34.symm]; exact m_forget) ?_
  obtain ⟨⟨h1, h1b, -⟩, h2, h3, h4, ⟨e1, e2, -, e4, e5⟩, h6⟩ := h
  refine ⟨n, k, 0, mn, sm, tt, ya, yb, yc, ⟨h1, h1b, by omega, rfl, fun i hi => absurd hi (Nat.not_lt_zero _)⟩, SetX_congr (fun j hj => rfl) rfl h2, h3, h4, ⟨e1, e2, rfl, e4, fun i hi => absurd hi (Nat.not_lt_zero _)⟩, ?_⟩
  exact h6.cg rfl (fun j h1 h2 => pk_un (by omega)) (fun j h1 h2 => rfl) (fun j hj => rfl) rfl
end SVX
