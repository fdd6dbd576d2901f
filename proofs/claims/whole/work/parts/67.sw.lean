section SWX
variable {E : iExtT} {ax ax' : Nat → Nat → Int32} {vx vx' : Nat → Int32} {tx : Nat → Nat → Int64} {a a' : Nat → Nat → Int32} {v v' : Nat → Int32} {t : Nat → Nat → Int64} {n k q : Nat} {mn sm tt : Nat → Nat} {ya yb yc : Nat}
theorem rel_sh (h : REL ax vx a v n k q mn sm tt ya yb yc) (hx : ∀ j, j < 46 → ax' j = ax j) (hv : ∀ j, 1 ≤ j → j < 14 → vx' j = vx j) (ha : ∀ j ∈ [58, 59, 63, 73], a' j = a j) (hm : ∀ j ∈ [32, 33, 34], v' j = v j) (hR : RS ax' vx' a' v') : RLq ax' vx' a' v' := by
  obtain ⟨h1, h2, h3, h4, h5, -⟩ := h
  refine ⟨n, k, q, mn, sm, tt, ya, yb, yc, ?_, SetX_congr (fun j hj => hx j (by simp only [List.mem_cons, List.not_mem_nil, or_false] at hj; omega)) (hv 1 (by decide) (by decide)) h2, ?_, ?_, ?_, hR⟩
  · unfold WfX at h1 ⊢
    rw [hx 11 (by decide), hx 14 (by decide), hv 4 (by decide) (by decide), hv 5 (by decide) (by decide), hv 6 (by decide) (by decide)]; exact h1
  · unfold RT at h3 ⊢
    rw [hx 40 (by decide), hx 42 (by decide), hx 44 (by decide), hv 11 (by decide) (by decide), hv 12 (by decide) (by decide), hv 13 (by decide) (by decide), ha 58 (by decide), ha 59 (by decide)]; exact h3
  · unfold RO at h4 ⊢
    rw [hx 40 (by decide), hx 42 (by decide), hx 44 (by decide), hx 2 (by decide), hx 4 (by decide), hx 5 (by decide), hx 6 (by decide), hx 7 (by decide), hx 8 (by decide)]; exact h4
  · unfold RE at h5 ⊢
    rw [hx 10 (by decide), hx 12 (by decide), hx 15 (by decide), hx 16 (by decide), ha 63 (by decide), ha 73 (by decide), hm 32 (by decide), hm 33 (by decide), hm 34 (by decide)]; exact h5
theorem RS1.cg {s : Nat} (h : RS1 ax vx a s) (e1 : vx' (18 + s) = vx (18 + s)) (e2 : vx' (14 + s) = vx (14 + s)) (e3 : ax' (shI s) = ax (shI s)) (e4 : a' 54 s = a 54 s) (e5 : a' 55 s = a 55 s) (e6 : ∀ i, i < 60 → a' 56 (60 * s + i) = a 56 (60 * s + i)) : RS1 ax' vx' a' s := by
  rcases h with ⟨p1, p2⟩ | ⟨z, hz, p1, p2, p3, p4, p5⟩
  · exact Or.inl ⟨e1.trans p1, e4.trans p2⟩
  · refine Or.inr ⟨z, hz, e1.trans p1, e5.trans p2, e4.trans (p3.trans e2.symm), by rw [e2]; exact p4, fun i hi => ?_⟩
    rw [e3, e6 i (by omega)]; exact p5 i hi
theorem shI_ne {s s' : Nat} (h : ¬ s' = s) : shI s' ≠ shI s := by
  show 46 + 2 * s' ≠ 46 + 2 * s
  omega
theorem sh_hx {s : Nat} {f : Nat → Int32} : ∀ j, j < 46 → va_up ax (shI s) f j = ax j := fun j hj => up_out (by show j ≠ 46 + 2 * s; omega)
theorem st_sheet (h : RLq ax vx a v) (x y z : Int32) : STP E mX7_sheet mX8_sheet [(1, .int x), (2, .int y), (3, .int z)] ax vx tx a v t := by
  obtain ⟨n, k, q, mn, sm, tt, ya, yb, yc, h⟩ := h
  by_cases hb : inB x 4 ∧ inB y 3 ∧ z ≤ 60
  · by_cases hz : z < 0
    · exact stp_c (by decide) (by decide) (r_sheet_size x y z hb hz) (m_sheet_size hb hz) (rel_find h 5)
    · obtain ⟨h0, hy, hz6⟩ := hb
      obtain ⟨s, hs, rfl⟩ := inB_ex (n := 4) (by decide) h0
      obtain ⟨w, hw, rfl⟩ := nI_of2 (M := 60) (n := 60) (by decide) hz hz6
      refine stp_c (by decide) (by decide) (r_sheet (s4 hs) y (nI w) ⟨hy, hz6⟩ (Int32.not_lt.mp hz)) (m_sheet hs hy hw) ?_
      have hz1 := (pw_in (D := fun i => i) (F := fun _ => 0) (n := 60) (G := ax (shI s)) (fun _ _ e => e)).1
      obtain ⟨hz2, hz3⟩ := zi_in s w (a 56)
      refine rel_sh h sh_hx (fun j h1 h2 => by rw [pk_un (by omega), pk_un (by omega)]) (fun j hj => ?_) (fun j hj => rfl) ⟨?_, fun s' hs' => ?_⟩
      · simp only [List.mem_cons, List.not_mem_nil, or_false] at hj
        rw [up_out (by omega), up_out (by omega), up_out (by omega)]
      · rw [pk_un (by omega), pk_un (by omega)]; exact h.2.2.2.2.2.1
      · by_cases e : s' = s
        · subst e
          refine Or.inr ⟨w, hw, pk_us, ?_, ?_, ?_, fun i hi => ?_⟩
          · show upd (a 55) s' (nI w) s' = _; exact pk_us
          · rw [pk_un (by omega), pk_us]
            show upd (a 54) s' y s' = _; exact pk_us
          · rw [pk_un (by omega), pk_us]; exact hy
          · rw [up_at]
            exact (hz1 i (by omega)).trans (hz2 i hi).symm
        · refine (h.2.2.2.2.2.2 s' hs').cg ?_ ?_ (up_out (shI_ne e)) ?_ ?_ (fun i hi => ?_)
          · rw [pk_un (by omega), pk_un (by omega)]
          · rw [pk_un (by omega), pk_un (by omega)]
          · show upd (a 54) s y s' = _; exact pk_un e
          · show upd (a 55) s (nI w) s' = _; exact pk_un e
          · show zi s w (a 56) (60 * s' + i) = _; exact hz3 _ (by omega)
  · exact stp_b (by decide) (by decide) h (r_sheet_bad x y z hb) ⟨a, v, t, m_sheet_bad x y z hb, eqM.rf⟩
theorem st_lose (h : RLq ax vx a v) (x : Int32) : STP E mX7_lose mX8_lose [(1, .int x)] ax vx tx a v t := by
  obtain ⟨n, k, q, mn, sm, tt, ya, yb, yc, h⟩ := h
  by_cases hb : inB x 4
  · obtain ⟨s, hs, rfl⟩ := inB_ex (n := 4) (by decide) hb
    rcases h.2.2.2.2.2.2 s hs with ⟨p1, p2⟩ | ⟨z, hz, p1, p2, p3, p4, p5⟩
    · exact stp_c (by decide) (by decide) (r_lose_null (s4 hs) p1) (m_lose_null hs (by rw [p2]; decide)) (rel_find h 1)
    · refine stp_c (h2 := 2) (by decide) (by decide) (r_lose (s4 hs) (by rw [p1]; exact nI_ne1 (by omega))) (by rw [p1.trans p2.symm]; exact m_lose hs (by rw [p3]; exact p4.1)) ?_
      refine rel_sh h (fun j hj => rfl) (fun j h1 h2 => pk_un (by omega)) (fun j hj => ?_) (fun j hj => rfl) ⟨?_, fun s' hs' => ?_⟩
      · simp only [List.mem_cons, List.not_mem_nil, or_false] at hj
        rw [up_out (by omega)]
      · rw [pk_un (by omega)]; exact h.2.2.2.2.2.1
      · by_cases e : s' = s
        · subst e
          exact Or.inl ⟨pk_us, by show upd (a 54) s' (-1) s' = _; exact pk_us⟩
        · refine (h.2.2.2.2.2.2 s' hs').cg (pk_un (by omega)) (pk_un (by omega)) rfl ?_ rfl (fun i hi => rfl)
          show upd (a 54) s (-1) s' = _; exact pk_un e
  · exact stp_b (by decide) (by decide) h (r_lose_bad x hb) ⟨a, v, t, m_lose_bad x hb, eqM.rf⟩
theorem fd0 {fm sz y i : Int32} (h : fdF fm sz y i = 0) : ¬ sz = -1 ∧ fm = y ∧ inB i sz := by
  unfold fdF at h
  split at h
  · exact absurd h (by decide)
  · rename_i h1
    split at h
    · rename_i h2
      split at h
      · rename_i h3; exact ⟨h1, h2, h3⟩
      · exact absurd h (by decide)
    · exact absurd h (by decide)
theorem st_lay (h : RLq ax vx a v) (x y i z : Int32) : STP E mX7_lay mX8_lay [(1, .int x), (2, .int y), (3, .int i), (4, .int z)] ax vx tx a v t := by
  obtain ⟨n, k, q, mn, sm, tt, ya, yb, yc, h⟩ := h
  by_cases hb : inB x 4 ∧ inB y 3
  · obtain ⟨h0, hy⟩ := hb
    obtain ⟨s, hs, rfl⟩ := inB_ex (n := 4) (by decide) h0
    have hS := h.2.2.2.2.2.2 s hs
    by_cases hF : fdF (vx (14 + s)) (vx (18 + s)) y i = 0
    · obtain ⟨q1, q2, q3⟩ := fd0 hF
      rcases id hS with ⟨p1, p2⟩ | ⟨w, hw, p1, p2, p3, p4, p5⟩
      · exact absurd p1 q1
      · rw [p1] at q3
        obtain ⟨j, hj, rfl⟩ := inB_ex (by omega) q3
        refine stp_c (by decide) (by decide) (r_lay (s4 hs) hy (i := j) (by omega) z hF) (m_lay hs hS hy (i := j) (by omega) z hF.symm) ?_
        refine rel_sh h sh_hx (fun j h1 h2 => rfl) (fun j hj => ?_) (fun j hj => rfl) ⟨h.2.2.2.2.2.1, fun s' hs' => ?_⟩
        · simp only [List.mem_cons, List.not_mem_nil, or_false] at hj
          rw [up_out (by omega)]
        · by_cases e : s' = s
          · subst e
            refine Or.inr ⟨w, hw, p1, p2, p3, p4, fun i hi => ?_⟩
            rw [up_at, up_at, q2]
            by_cases e : i = j
            · subst e; rw [pk_us, pk_us]
            · rw [pk_un e, pk_un (by omega)]; exact p5 i hi
          · refine (h.2.2.2.2.2.2 s' hs').cg rfl rfl (up_out (shI_ne e)) rfl rfl (fun i hi => ?_)
            rw [up_at]
            exact pk_un (by omega)
    · exact stp_c (by decide) (by decide) (r_lay_no (s4 hs) hy i z hF) (m_lay_no hs hS hy i z rfl hF) (rel_find h _)
  · exact stp_b (by decide) (by decide) h (r_lay_bad x y i z hb) ⟨a, v, t, m_lay_bad x y i z hb, eqM.rf⟩
theorem st_get (h : RLq ax vx a v) (x y i : Int32) : STP E mX7_get mX8_get [(1, .int x), (2, .int y), (3, .int i)] ax vx tx a v t := by
  obtain ⟨n, k, q, mn, sm, tt, ya, yb, yc, h⟩ := h
  by_cases hb : inB x 4 ∧ inB y 3
  · obtain ⟨h0, hy⟩ := hb
    obtain ⟨s, hs, rfl⟩ := inB_ex (n := 4) (by decide) h0
    have hS := h.2.2.2.2.2.2 s hs
    by_cases hF : fdF (vx (14 + s)) (vx (18 + s)) y i = 0
    · obtain ⟨q1, q2, q3⟩ := fd0 hF
      rcases id hS with ⟨p1, p2⟩ | ⟨w, hw, p1, p2, p3, p4, p5⟩
      · exact absurd p1 q1
      · rw [p1] at q3
        obtain ⟨j, hj, rfl⟩ := inB_ex (by omega) q3
        have hm := m_get (E := E) (ax := ax) (vx := vx) (tx := tx) (v := v) (t := t) hs hS hy (i := j) (by omega) hF.symm
        rw [← p5 j hj] at hm
        exact stp_c (by decide) (by decide) (r_get (s4 hs) hy (i := j) (by omega) hF) hm h.rl
    · exact stp_c (by decide) (by decide) (r_get_no (s4 hs) hy i hF) (m_get_no hs hS hy i rfl hF) (rel_find h _)
  · exact stp_b (by decide) (by decide) h (r_get_bad x y i hb) ⟨a, v, t, m_get_bad x y i hb, eqM.rf⟩
theorem hr_nat {z : Nat} (hz : z ≤ 60) {i l : Int32} (h : hrP (nI z) i l) : ∃ i' l' : Nat, i = nI i' ∧ l = nI l' ∧ i' + l' ≤ z := by
  obtain ⟨h1, h2, h3⟩ := h
  obtain ⟨i', hi', rfl⟩ := nI_of (Int32.not_lt.mpr h1)
  obtain ⟨l', hl', rfl⟩ := nI_of (Int32.not_lt.mpr h2)
  refine ⟨i', l', rfl, rfl, ?_⟩
  rw [nI_l hi', nI_l hl', nI_l (by omega), show lN i' + lN l' = lN (i' + l') from (Int64.ofNat_add i' l').symm, pk_lLE (by omega) (by omega)] at h3
  exact h3
theorem st_copy (h : RLq ax vx a v) (x i y j l : Int32) : STP E mX7_copy mX8_copy [(1, .int x), (2, .int i), (3, .int y), (4, .int j), (5, .int l)] ax vx tx a v t := by
  obtain ⟨n, k, q, mn, sm, tt, ya, yb, yc, h⟩ := h
  by_cases hb : inB x 4 ∧ inB y 4
  · obtain ⟨h0, h1⟩ := hb
    obtain ⟨s, hs, rfl⟩ := inB_ex (n := 4) (by decide) h0
    obtain ⟨u, hu, rfl⟩ := inB_ex (n := 4) (by decide) h1
    have hS := h.2.2.2.2.2.2 s hs
    have hU := h.2.2.2.2.2.2 u hu
    by_cases hN : vx (18 + s) = -1 ∨ vx (18 + u) = -1
    · exact stp_c (by decide) (by decide) (r_copy_null (s4 hs) (s4 hu) hN i j l) (m_copy_null hs hu (hN.imp hS.null.mpr hU.null.mpr) i j l) (rel_find h 1)
    · have n1 : ¬ vx (18 + s) = -1 := fun p => hN (Or.inl p)
      have n2 : ¬ vx (18 + u) = -1 := fun p => hN (Or.inr p)
      have g1 : 0 ≤ a 54 s := Int32.not_lt.mp (fun p => n1 (hS.null.mp p))
      have g2 : 0 ≤ a 54 u := Int32.not_lt.mp (fun p => n2 (hU.null.mp p))
      rcases id hS with ⟨p1, -⟩ | ⟨z, hz, p1, p2, p3, p4, p5⟩
      · exact absurd p1 n1
      rcases id hU with ⟨r1, -⟩ | ⟨w, hw, r1, r2, r3, r4, r5⟩
      · exact absurd r1 n2
      by_cases hf : vx (14 + s) = vx (14 + u)
      · have hf' : a 54 s = a 54 u := p3.trans (hf.trans r3.symm)
        by_cases hi : hrP (vx (18 + s)) i l ∧ hrP (vx (18 + u)) j l
        · obtain ⟨hi1, hi2⟩ := hi
          have ki1 := hi1
          have ki2 := hi2
          rw [p1] at hi1
          rw [r1] at hi2
          obtain ⟨i', l', rfl, rfl, b1⟩ := hr_nat hz hi1
          obtain ⟨j', l2, rfl, e2, b2⟩ := hr_nat hw hi2
          have hl0 : l' < 2 ^ 31 := by omega
          have hl1 : l2 < 2 ^ 31 := by omega
          have e2 : l' = l2 := (nI_eq hl0 hl1).mp e2
          subst e2
          obtain ⟨M, hM⟩ : ∃ M, M = pw (fun b => b) (fun b => a 56 (60 * s + i' + b)) l' (a 57) := ⟨_, rfl⟩
          have hM1 : ∀ b, b < l' → M b = a 56 (60 * s + i' + b) := by
            rw [hM]
            exact (pw_in (D := fun b => b) (fun _ _ e => e)).1
          obtain ⟨hG1, hG2⟩ := pw_in (D := fun b => 60 * u + j' + b) (F := M) (n := l') (G := a 56) (fun b b' e => by omega)
          refine stp_c (by decide) (by decide) (r_copy (s4 hs) (s4 hu) n1 n2 hf ki1 ki2 (by omega) (by omega)) (m_copy hs hu g1 g2 hf' (by rw [p2]; exact hi1) (by rw [r2]; exact hi2) (by omega) (by omega) hM) ?_
          refine rel_sh h sh_hx (fun j h1 h2 => rfl) (fun j hj => ?_) (fun j hj => rfl) ⟨h.2.2.2.2.2.1, fun s' hs' => ?_⟩
          · simp only [List.mem_cons, List.not_mem_nil, or_false] at hj
            rw [up_out (by omega), up_out (by omega)]
          · by_cases e : s' = u
            · subst e
              refine Or.inr ⟨w, hw, r1, r2, r3, r4, fun p hp => ?_⟩
              rw [up_at, up_at]
              by_cases hin : j' ≤ p ∧ p < j' + l'
              · rw [pk_cpy_in hin.1 hin.2, show 60 * s' + p = 60 * s' + j' + (p - j') by omega, hG1 _ (by omega), hM1 _ (by omega), p5 _ (by omega), Nat.add_assoc]
              · rw [pk_cpy_out (by omega), hG2 _ (fun b hb => by omega)]
                exact r5 p hp
            · refine (h.2.2.2.2.2.2 s' hs').cg rfl rfl (up_out (shI_ne e)) rfl rfl (fun p hp => ?_)
              rw [up_at]
              exact hG2 _ (fun b hb => by omega)
        · exact stp_c (by decide) (by decide) (r_copy_index (s4 hs) (s4 hu) n1 n2 hf hi) (m_copy_index hs hu g1 g2 hf' (by rw [p2, r2, ← p1, ← r1]; exact hi)) (rel_find h 2)
      · exact stp_c (by decide) (by decide) (r_copy_store (s4 hs) (s4 hu) n1 n2 hf i j l) (m_copy_store hs hu g1 g2 (fun e => hf (p3.symm.trans (e.trans r3))) i j l) (rel_find h 4)
  · exact stp_b (by decide) (by decide) h (r_copy_bad x i y j l hb) ⟨a, v, t, m_copy_bad x i y j l hb, eqM.rf⟩
theorem st_write (h : RLq ax vx a v) (x y : Int32) : STP E mX7_write mX8_write [(1, .int x), (2, .int y)] ax vx tx a v t := by
  obtain ⟨n, k, q, mn, sm, tt, ya, yb, yc, h⟩ := h
  by_cases hb : inB x 24 ∧ inB y 4
  · obtain ⟨h0, h1⟩ := hb
    obtain ⟨m, hm, rfl⟩ := inB_ex (n := 24) (by decide) h0
    obtain ⟨s, hs, rfl⟩ := inB_ex (n := 4) (by decide) h1
    rcases h.2.2.2.2.2.2 s hs with ⟨p1, p2⟩ | ⟨z, hz, p1, p2, p3, p4, p5⟩
    · exact stp_c (by decide) (by decide) (r_write_null (s4 hs) hm p1) (m_write_null hs hm (by rw [p2]; decide)) (rel_find h 1)
    · obtain ⟨a2, v2, hr, he, hv1, hV⟩ := r_write (E := E) (t := tx) (r := wM a v t) h.1 h.2.1 (s4 hs) hm p1 hz
      obtain ⟨W, hW⟩ : ∃ W, W = cW ax mn k := ⟨_, rfl⟩
      rw [← hW] at hr
      have h2 := h.eqT he (Or.inr ⟨hv1, hV⟩)
      obtain ⟨b1, w1, hr2, he2⟩ := m_write (E := E) (ax := va_up a2 (shI s) (wrF (vx (14 + s)) W m (min z 16) (ax (shI s)))) (vx := v2) (tx := tx) (t := t) h hs hm (by rw [p3]; exact p4.1) p2 hz hW
      have h3 := h2.eqM he2
      refine stp_c (by decide) (by decide) hr hr2 ?_
      obtain ⟨c1, c2⟩ := pw_in (D := fun i => i) (F := fun i => cutF (vx (14 + s)) (W (m * 16 + i))) (n := min z 16) (G := ax (shI s)) (fun _ _ e => e)
      obtain ⟨d1, d2⟩ := pw_in (D := fun i => 60 * s + i) (F := fun i => cutF (a 54 s) (W (m * 16 + i))) (n := min z 16) (G := a 56) (fun b b' e => by omega)
      have e56 : b1 56 = a 56 := he2.1 56 (by decide)
      refine rel_sh h3 sh_hx (fun j h1 h2 => rfl) (fun j hj => ?_) (fun j hj => rfl) ⟨h3.2.2.2.2.2.1, fun s' hs' => ?_⟩
      · simp only [List.mem_cons, List.not_mem_nil, or_false] at hj
        rw [up_out (by omega)]
      · by_cases e : s' = s
        · subst e
          have f1 : v2 (18 + s') = vx (18 + s') := he.2 _ (by simp only [List.mem_cons, List.not_mem_nil, or_false]; omega)
          have f2 : v2 (14 + s') = vx (14 + s') := he.2 _ (by simp only [List.mem_cons, List.not_mem_nil, or_false]; omega)
          have f3 : b1 54 = a 54 := he2.1 54 (by decide)
          have f4 : b1 55 = a 55 := he2.1 55 (by decide)
          refine Or.inr ⟨z, hz, f1.trans p1, ?_, ?_, by rw [f2]; exact p4, fun i hi => ?_⟩
          · show b1 55 s' = _; rw [f4]; exact p2
          · show b1 54 s' = _; rw [f3, f2]; exact p3
          · rw [up_at, up_at]
            by_cases hi2 : i < min z 16
            · exact (c1 i hi2).trans ((d1 i hi2).trans (by rw [p3])).symm
            · exact (c2 i (fun b hb => by omega)).trans ((p5 i hi).trans (d2 (60 * s' + i) (fun b hb => by omega)).symm)
        · refine (h3.2.2.2.2.2.2 s' hs').cg rfl rfl (up_out (shI_ne e)) rfl rfl (fun i hi => ?_)
          rw [up_at, e56]
          exact d2 _ (fun b hb => by omega)
  · exact stp_b (by decide) (by decide) h (r_write_bad x y hb) ⟨a, v, t, m_write_bad x y hb, eqM.rf⟩
end SWX
