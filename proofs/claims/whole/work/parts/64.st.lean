section STX
variable {E : iExtT} {ax : Nat → Nat → Int32} {vx : Nat → Int32} {tx : Nat → Nat → Int64} {a : Nat → Nat → Int32} {v : Nat → Int32} {t : Nat → Nat → Int64} {n k q : Nat} {mn sm tt : Nat → Nat} {ya yb yc : Nat}
def RLq (ax : Nat → Nat → Int32) (vx : Nat → Int32) (a : Nat → Nat → Int32) (v : Nat → Int32) : Prop := ∃ (n k q : Nat) (mn sm tt : Nat → Nat) (ya yb yc : Nat), REL ax vx a v n k q mn sm tt ya yb yc
theorem REL.rl (h : REL ax vx a v n k q mn sm tt ya yb yc) : RLq ax vx a v := ⟨n, k, q, mn, sm, tt, ya, yb, yc, h⟩
/-- one call of both: they answer alike, and stand alike behind it -/
def STP (E : iExtT) (MX MM : iMeth) (as : List (Nat × Value)) (ax : Nat → Nat → Int32) (vx : Nat → Int32) (tx : Nat → Nat → Int64) (a : Nat → Nat → Int32) (v : Nat → Int32) (t : Nat → Nat → Int64) : Prop := ∃ (y : Int32) (ax' : Nat → Nat → Int32) (vx' : Nat → Int32) (tx' : Nat → Nat → Int64) (a' : Nat → Nat → Int32) (v' : Nat → Int32) (t' : Nat → Nat → Int64), Rn E 12 MX (0, (0, .ref 0) :: as, [], wY ax vx tx a v t) (some (.int y), wY ax' vx' tx' a v t) ∧ Rn E 12 MM (0, (0, .ref 53) :: as, [], wY ax' vx' tx' a v t) (some (.int y), wY ax' vx' tx' a' v' t') ∧ RLq ax' vx' a' v'
def STL (E : iExtT) (MX MM : iMeth) (as : List (Nat × Value)) (ax : Nat → Nat → Int32) (vx : Nat → Int32) (tx : Nat → Nat → Int64) (a : Nat → Nat → Int32) (v : Nat → Int32) (t : Nat → Nat → Int64) : Prop := ∃ (y : Int64) (ax' : Nat → Nat → Int32) (vx' : Nat → Int32) (tx' : Nat → Nat → Int64) (a' : Nat → Nat → Int32) (v' : Nat → Int32) (t' : Nat → Nat → Int64), Rn E 12 MX (0, (0, .ref 0) :: as, [], wY ax vx tx a v t) (some (.long y), wY ax' vx' tx' a v t) ∧ Rn E 12 MM (0, (0, .ref 53) :: as, [], wY ax' vx' tx' a v t) (some (.long y), wY ax' vx' tx' a' v' t') ∧ RLq ax' vx' a' v'
theorem stp_q {hh h2 : Nat} {MX MM : iMeth} {as : List (Nat × Value)} {y : Int32} (h12 : hh ≤ 12) (h22 : h2 ≤ 12) (h : REL ax vx a v n k q mn sm tt ya yb yc) (hx : AXt E hh MX ((0, .ref 0) :: as) ax vx tx (wM a v t) mn k n (some (.int y))) (hm : ∀ (ax' : Nat → Nat → Int32) (vx' : Nat → Int32) (tx' : Nat → Nat → Int64), ∃ (a' : Nat → Nat → Int32) (v' : Nat → Int32) (t' : Nat → Nat → Int64), Rn E h2 MM (0, (0, .ref 53) :: as, [], wY ax' vx' tx' a v t) (some (.int y), wY ax' vx' tx' a' v' t') ∧ eqM a v a' v') : STP E MX MM as ax vx tx a v t := by
  obtain ⟨ax', vx', tx', hr, he, hS⟩ := hx
  obtain ⟨a', v', t', hr2, he2⟩ := hm ax' vx' tx'
  exact ⟨y, ax', vx', tx', a', v', t', hr.mono h12, hr2.mono h22, ((h.eqT he hS).eqM he2).rl⟩
theorem stp_b {hh h2 : Nat} {MX MM : iMeth} {as : List (Nat × Value)} {y : Int32} (h12 : hh ≤ 12) (h22 : h2 ≤ 12) (h : REL ax vx a v n k q mn sm tt ya yb yc) (hr : Rn E hh MX (0, (0, .ref 0) :: as, [], wX ax vx tx (wM a v t)) (some (.int y), wX ax vx tx (wM a v t))) (hm : ∃ (a' : Nat → Nat → Int32) (v' : Nat → Int32) (t' : Nat → Nat → Int64), Rn E h2 MM (0, (0, .ref 53) :: as, [], wY ax vx tx a v t) (some (.int y), wY ax vx tx a' v' t') ∧ eqM a v a' v') : STP E MX MM as ax vx tx a v t := by
  obtain ⟨a', v', t', hr2, he2⟩ := hm
  exact ⟨y, ax, vx, tx, a', v', t', hr.mono h12, hr2.mono h22, (h.eqM he2).rl⟩
theorem stl_q {hh h2 : Nat} {MX MM : iMeth} {as : List (Nat × Value)} {y : Int64} (h12 : hh ≤ 12) (h22 : h2 ≤ 12) (h : REL ax vx a v n k q mn sm tt ya yb yc) (hx : AXt E hh MX ((0, .ref 0) :: as) ax vx tx (wM a v t) mn k n (some (.long y))) (hm : ∀ (ax' : Nat → Nat → Int32) (vx' : Nat → Int32) (tx' : Nat → Nat → Int64), ∃ (a' : Nat → Nat → Int32) (v' : Nat → Int32) (t' : Nat → Nat → Int64), Rn E h2 MM (0, (0, .ref 53) :: as, [], wY ax' vx' tx' a v t) (some (.long y), wY ax' vx' tx' a' v' t') ∧ eqM a v a' v') : STL E MX MM as ax vx tx a v t := by
  obtain ⟨ax', vx', tx', hr, he, hS⟩ := hx
  obtain ⟨a', v', t', hr2, he2⟩ := hm ax' vx' tx'
  exact ⟨y, ax', vx', tx', a', v', t', hr.mono h12, hr2.mono h22, ((h.eqT he hS).eqM he2).rl⟩
theorem stl_b {hh h2 : Nat} {MX MM : iMeth} {as : List (Nat × Value)} {y : Int64} (h12 : hh ≤ 12) (h22 : h2 ≤ 12) (h : REL ax vx a v n k q mn sm tt ya yb yc) (hr : Rn E hh MX (0, (0, .ref 0) :: as, [], wX ax vx tx (wM a v t)) (some (.long y), wX ax vx tx (wM a v t))) (hm : ∃ (a' : Nat → Nat → Int32) (v' : Nat → Int32) (t' : Nat → Nat → Int64), Rn E h2 MM (0, (0, .ref 53) :: as, [], wY ax vx tx a v t) (some (.long y), wY ax vx tx a' v' t') ∧ eqM a v a' v') : STL E MX MM as ax vx tx a v t := by
  obtain ⟨a', v', t', hr2, he2⟩ := hm
  exact ⟨y, ax, vx, tx, a', v', t', hr.mono h12, hr2.mono h22, (h.eqM he2).rl⟩
theorem stp_c {hh h2 : Nat} {MX MM : iMeth} {as : List (Nat × Value)} {y : Int32} {ax' : Nat → Nat → Int32} {vx' : Nat → Int32} {a' : Nat → Nat → Int32} {v' : Nat → Int32} (h12 : hh ≤ 12) (h22 : h2 ≤ 12) (hr : Rn E hh MX (0, (0, .ref 0) :: as, [], wX ax vx tx (wM a v t)) (some (.int y), wX ax' vx' tx (wM a v t))) (hr2 : Rn E h2 MM (0, (0, .ref 53) :: as, [], wY ax' vx' tx a v t) (some (.int y), wY ax' vx' tx a' v' t)) (h : RLq ax' vx' a' v') : STP E MX MM as ax vx tx a v t := ⟨y, ax', vx', tx, a', v', t, hr.mono h12, hr2.mono h22, h⟩
theorem st_flume (h : RLq ax vx a v) (x y z : Int32) : STP E mX7_flume mX8_flume [(1, .int x), (2, .int y), (3, .int z)] ax vx tx a v t := by
  obtain ⟨n, k, q, mn, sm, tt, ya, yb, yc, h⟩ := h
  by_cases hb : inB x 24 ∧ inB y 16 ∧ inB z 2
  · obtain ⟨h0, h1, h2⟩ := hb
    obtain ⟨m, hm, rfl⟩ := inB_ex (n := 24) (by decide) h0
    obtain ⟨s, hs, rfl⟩ := inB_ex (n := 16) (by decide) h1
    obtain ⟨w, hw, rfl⟩ := inB_ex (n := 2) (by decide) h2
    obtain rfl | rfl : w = 0 ∨ w = 1 := by omega
    · exact stp_q (by decide) (by decide) h (r_flume0 h.1 h.2.1 hm hs).toT (fun _ _ _ => mq_flume0 h hm hs)
    · exact stp_q (by decide) (by decide) h (r_flume1 h.1 h.2.1 hm hs).toT (fun _ _ _ => mq_flume1 h hm hs)
  · exact stp_b (by decide) (by decide) h (r_flume_bad x y z hb) (mq_flume_bad h x y z hb)
theorem st_at (h : RLq ax vx a v) (x y z : Int32) : STP E mX7_at mX8_at [(1, .int x), (2, .int y), (3, .int z)] ax vx tx a v t := by
  obtain ⟨n, k, q, mn, sm, tt, ya, yb, yc, h⟩ := h
  by_cases hb : inB x 24 ∧ inB y (nI n) ∧ inB z 2
  · obtain ⟨h0, h1, h2⟩ := hb
    obtain ⟨m, hm, rfl⟩ := inB_ex (n := 24) (by decide) h0
    obtain ⟨l, hl, rfl⟩ := inB_ex (n := n) (by have := h.1.1.1; omega) h1
    obtain ⟨w, hw, rfl⟩ := inB_ex (n := 2) (by decide) h2
    obtain rfl | rfl : w = 0 ∨ w = 1 := by omega
    · exact stp_q (by decide) (by decide) h (r_at0 h.1 h.2.1 hm hl).toT (fun _ _ _ => mq_at0 h hm hl)
    · exact stp_q (by decide) (by decide) h (r_at1 h.1 h.2.1 hm hl).toT (fun _ _ _ => mq_at1 h hm hl)
  · exact stp_b (by decide) (by decide) h (r_at_bad x y z (by rw [h.1.1.2]; exact hb)) (mq_at_bad h x y z hb)
theorem st_all (h : RLq ax vx a v) (x y : Int32) : STP E mX7_all mX8_all [(1, .int x), (2, .int y)] ax vx tx a v t := by
  obtain ⟨n, k, q, mn, sm, tt, ya, yb, yc, h⟩ := h
  by_cases hb : inB x 24 ∧ inB y 2
  · obtain ⟨h0, h1⟩ := hb
    obtain ⟨m, hm, rfl⟩ := inB_ex (n := 24) (by decide) h0
    obtain ⟨w, hw, rfl⟩ := inB_ex (n := 2) (by decide) h1
    obtain rfl | rfl : w = 0 ∨ w = 1 := by omega
    · exact stp_q (by decide) (by decide) h (r_all0 h.1 h.2.1 hm).toT (fun _ _ _ => mq_all0 h hm)
    · exact stp_q (by decide) (by decide) h (r_all1 h.1 h.2.1 hm).toT (fun _ _ _ => mq_all1 h hm)
  · exact stp_b (by decide) (by decide) h (r_all_bad x y hb) (mq_all_bad h x y hb)
theorem st_out (h : RLq ax vx a v) (x y : Int32) : STP E mX7_out mX8_out [(1, .int x), (2, .int y)] ax vx tx a v t := by
  obtain ⟨n, k, q, mn, sm, tt, ya, yb, yc, h⟩ := h
  by_cases hb : inB x (nI n) ∧ inB y 3
  · obtain ⟨h0, h1⟩ := hb
    obtain ⟨l, hl, rfl⟩ := inB_ex (n := n) (by have := h.1.1.1; omega) h0
    obtain ⟨w, hw, rfl⟩ := inB_ex (n := 3) (by decide) h1
    obtain rfl | rfl | rfl : w = 0 ∨ w = 1 ∨ w = 2 := by omega
    · exact stp_q (by decide) (by decide) h (r_out0 h.1 h.2.1 hl).toT (fun _ _ _ => mq_out0 h hl)
    · exact stp_q (by decide) (by decide) h (r_out1 h.1 h.2.1 hl).toT (fun _ _ _ => mq_out1 h hl)
    · exact stp_q (by decide) (by decide) h (r_out2 h.1 h.2.1 hl).toT (fun _ _ _ => mq_out2 h hl)
  · exact stp_b (by decide) (by decide) h (r_out_bad x y (by rw [h.1.1.2]; exact hb)) (mq_out_bad h x y hb)
theorem st_jam (h : RLq ax vx a v) : STP E mX7_jam mX8_jam [] ax vx tx a v t := by
  obtain ⟨n, k, q, mn, sm, tt, ya, yb, yc, h⟩ := h
  exact stp_q (by decide) (by decide) h (r_jam h.1 h.2.1).toT (fun _ _ _ => mq_jam h)
theorem st_worst (h : RLq ax vx a v) : STP E mX7_worst mX8_worst [] ax vx tx a v t := by
  obtain ⟨n, k, q, mn, sm, tt, ya, yb, yc, h⟩ := h
  exact stp_q (by decide) (by decide) h (r_worst h.1 h.2.1).toT (fun _ _ _ => mq_worst h)
theorem st_never (h : RLq ax vx a v) : STP E mX7_never mX8_never [] ax vx tx a v t := by
  obtain ⟨n, k, q, mn, sm, tt, ya, yb, yc, h⟩ := h
  exact stp_q (by decide) (by decide) h (r_never h.1 h.2.1).toT (fun _ _ _ => mq_never h)
theorem st_left (h : RLq ax vx a v) (x : Int32) : STP E mX7_left mX8_left [(1, .int x)] ax vx tx a v t := by
  obtain ⟨n, k, q, mn, sm, tt, ya, yb, yc, h⟩ := h
  by_cases hb : inB x 2
  · have h0 := hb
    obtain ⟨w, hw, rfl⟩ := inB_ex (n := 2) (by decide) h0
    obtain rfl | rfl : w = 0 ∨ w = 1 := by omega
    · exact stp_q (by decide) (by decide) h (r_left0 h.1 h.2.1).toT (fun _ _ _ => mq_left0 h)
    · exact stp_q (by decide) (by decide) h (r_left1 h.1 h.2.1).toT (fun _ _ _ => mq_left1 h)
  · exact stp_b (by decide) (by decide) h (r_left_bad x hb) (mq_left_bad h x hb)
theorem st_steep (h : RLq ax vx a v) (x : Int32) : STP E mX7_steep mX8_steep [(1, .int x)] ax vx tx a v t := by
  obtain ⟨n, k, q, mn, sm, tt, ya, yb, yc, h⟩ := h
  by_cases hb : inB x 2
  · have h0 := hb
    obtain ⟨w, hw, rfl⟩ := inB_ex (n := 2) (by decide) h0
    obtain rfl | rfl : w = 0 ∨ w = 1 := by omega
    · exact stp_q (by decide) (by decide) h (r_steep0 h.1 h.2.1).toT (fun _ _ _ => mq_steep0 h)
    · exact stp_q (by decide) (by decide) h (r_steep1 h.1 h.2.1).toT (fun _ _ _ => mq_steep1 h)
  · exact stp_b (by decide) (by decide) h (r_steep_bad x hb) (mq_steep_bad h x hb)
theorem st_fill (h : RLq ax vx a v) (x : Int32) : STP E mX7_fill mX8_fill [(1, .int x)] ax vx tx a v t := by
  obtain ⟨n, k, q, mn, sm, tt, ya, yb, yc, h⟩ := h
  by_cases hb : inB x 2
  · have h0 := hb
    obtain ⟨w, hw, rfl⟩ := inB_ex (n := 2) (by decide) h0
    obtain rfl | rfl : w = 0 ∨ w = 1 := by omega
    · exact stp_q (by decide) (by decide) h (r_fill0 h.1 h.2.1).toT (fun _ _ _ => mq_fill0 h)
    · exact stp_q (by decide) (by decide) h (r_fill1 h.1 h.2.1).toT (fun _ _ _ => mq_fill1 h)
  · exact stp_b (by decide) (by decide) h (r_fill_bad x hb) (mq_fill_bad h x hb)
theorem st_send (h : RLq ax vx a v) (x y : Int32) : STP E mX7_send mX8_send [(1, .int x), (2, .int y)] ax vx tx a v t := by
  obtain ⟨n, k, q, mn, sm, tt, ya, yb, yc, h⟩ := h
  by_cases hb : inB x (nI n) ∧ inB y 2
  · obtain ⟨h0, h1⟩ := hb
    obtain ⟨l, hl, rfl⟩ := inB_ex (n := n) (by have := h.1.1.1; omega) h0
    obtain ⟨w, hw, rfl⟩ := inB_ex (n := 2) (by decide) h1
    obtain rfl | rfl : w = 0 ∨ w = 1 := by omega
    · exact stp_q (by decide) (by decide) h (r_send0 h.1 h.2.1 hl).toT (fun _ _ _ => mq_send0 h hl)
    · exact stp_q (by decide) (by decide) h (r_send1 h.1 h.2.1 hl).toT (fun _ _ _ => mq_send1 h hl)
  · exact stp_b (by decide) (by decide) h (r_send_bad x y (by rw [h.1.1.2]; exact hb)) (mq_send_bad h x y hb)
theorem st_grade (h : RLq ax vx a v) (x : Int32) : STP E mX7_grade mX8_grade [(1, .int x)] ax vx tx a v t := by
  obtain ⟨n, k, q, mn, sm, tt, ya, yb, yc, h⟩ := h
  by_cases hb : inB x 16
  · have h0 := hb
    obtain ⟨s, hs, rfl⟩ := inB_ex (n := 16) (by decide) h0
    exact stp_q (by decide) (by decide) h (r_grade h.1 h.2.1 hs).toT (fun _ _ _ => mq_grade h hs)
  · exact stp_b (by decide) (by decide) h (r_grade_bad x hb) (mq_grade_bad h x hb)
theorem st_draughts (h : RLq ax vx a v) (x : Int32) : STP E mX7_draughts mX8_draughts [(1, .int x)] ax vx tx a v t := by
  obtain ⟨n, k, q, mn, sm, tt, ya, yb, yc, h⟩ := h
  by_cases hb : inB x (nI n)
  · have h0 := hb
    obtain ⟨l, hl, rfl⟩ := inB_ex (n := n) (by have := h.1.1.1; omega) h0
    exact stp_q (by decide) (by decide) h (r_draughts h.1 h.2.1 hl) (fun _ _ _ => mq_draughts h hl)
  · exact stp_b (by decide) (by decide) h (r_draughts_bad x (by rw [h.1.1.2]; exact hb)) (mq_draughts_bad h x hb)
theorem st_ask (h : RLq ax vx a v) (x : Int32) : STP E mX7_ask mX8_ask [(1, .int x)] ax vx tx a v t := by
  obtain ⟨n, k, q, mn, sm, tt, ya, yb, yc, h⟩ := h
  by_cases hb : inB x (nI n)
  · have h0 := hb
    obtain ⟨l, hl, rfl⟩ := inB_ex (n := n) (by have := h.1.1.1; omega) h0
    exact stp_q (by decide) (by decide) h (r_ask h.1 h.2.1 hl) (fun _ _ _ => mq_ask h hl)
  · exact stp_b (by decide) (by decide) h (r_ask_bad x (by rw [h.1.1.2]; exact hb)) (mq_ask_bad h x hb)
theorem st_chance (h : RLq ax vx a v) (x y z : Int32) : STL E mX7_chance mX8_chance [(1, .int x), (2, .int y), (3, .int z)] ax vx tx a v t := by
  obtain ⟨n, k, q, mn, sm, tt, ya, yb, yc, h⟩ := h
  by_cases hb : inB x 17 ∧ inB y (nI n) ∧ inB z 2
  · obtain ⟨h0, h1, h2⟩ := hb
    obtain ⟨u, hu, rfl⟩ := inB_ex (n := 17) (by decide) h0
    obtain ⟨l, hl, rfl⟩ := inB_ex (n := n) (by have := h.1.1.1; omega) h1
    obtain ⟨w, hw, rfl⟩ := inB_ex (n := 2) (by decide) h2
    obtain rfl | rfl : w = 0 ∨ w = 1 := by omega
    · exact stl_q (by decide) (by decide) h (r_chance0 h.1 h.2.1 hu hl).toT (fun _ _ _ => mq_chance0 h hu hl)
    · exact stl_q (by decide) (by decide) h (r_chance1 h.1 h.2.1 hu hl).toT (fun _ _ _ => mq_chance1 h hu hl)
  · exact stl_b (by decide) (by decide) h (r_chance_bad x y z (by rw [h.1.1.2]; exact hb)) (mq_chance_bad h x y z hb)
theorem st_seasons (h : RLq ax vx a v) (x y z : Int32) : STP E mX7_seasons mX8_seasons [(1, .int x), (2, .int y), (3, .int z)] ax vx tx a v t := by
  obtain ⟨n, k, q, mn, sm, tt, ya, yb, yc, h⟩ := h
  by_cases hb : inB y 17 ∧ inB z 2
  · obtain ⟨h0, h1⟩ := hb
    obtain ⟨u, hu, rfl⟩ := inB_ex (n := 17) (by decide) h0
    obtain ⟨w, hw, rfl⟩ := inB_ex (n := 2) (by decide) h1
    obtain rfl | rfl : w = 0 ∨ w = 1 := by omega
    · exact stp_q (by decide) (by decide) h (r_seasons0 h.1 h.2.1 x hu).toT (fun _ _ _ => mq_seasons0 h x hu)
    · exact stp_q (by decide) (by decide) h (r_seasons1 h.1 h.2.1 x hu).toT (fun _ _ _ => mq_seasons1 h x hu)
  · exact stp_b (by decide) (by decide) h (r_seasons_bad x y z hb) (mq_seasons_bad h x y z hb)
theorem st_digest {L : Nat} {xs : Nat → Int32} (h : RLq ax vx a v) : STL (iExt L xs) mX7_digest mX8_digest [] ax vx tx a v t := by
  obtain ⟨n, k, q, mn, sm, tt, ya, yb, yc, h⟩ := h
  exact stl_q (by decide) (by decide) h (r_digest h.1 h.2.1) (fun _ _ _ => mq_digest h)
theorem st_spare (h : RLq ax vx a v) (x : Int32) : STP E mX7_spare mX8_spare [(1, .int x)] ax vx tx a v t := by
  obtain ⟨n, k, q, mn, sm, tt, ya, yb, yc, h⟩ := h
  by_cases hb : x < -1 ∨ 1 < x
  · exact stp_b (by decide) (by decide) h (r_spare_bad x hb) (mq_spare_bad h x hb)
  · refine stp_q (by decide) (by decide) h (r_spare h.1 h.2.1 x hb).toT (fun _ _ _ => mq_spare h ?_)
    have h1 : ¬ x < -1 := fun p => hb (Or.inl p)
    have h2 : ¬ 1 < x := fun p => hb (Or.inr p)
    rw [Int32.lt_iff_toInt_lt] at h1 h2
    have e1 : (-1 : Int32).toInt = -1 := by decide
    have e2 : (1 : Int32).toInt = 1 := by decide
    have e0 : (0 : Int32).toInt = 0 := by decide
    rw [e1] at h1
    rw [e2] at h2
    have h3 : x.toInt = -1 ∨ x.toInt = 0 ∨ x.toInt = 1 := by omega
    rcases h3 with h3 | h3 | h3
    · exact Or.inl (Int32.toInt_inj.mp (h3.trans e1.symm))
    · exact Or.inr (Or.inl (Int32.toInt_inj.mp (h3.trans e0.symm)))
    · exact Or.inr (Or.inr (Int32.toInt_inj.mp (h3.trans e2.symm)))
theorem st_count (h : RLq ax vx a v) (x : Int32) : STP E mX7_count mX8_count [(1, .int x)] ax vx tx a v t := by
  obtain ⟨n, k, q, mn, sm, tt, ya, yb, yc, h⟩ := h
  by_cases hb : x.toInt < 0 ∨ 8 < x.toInt
  · exact stp_q (by decide) (by decide) h (r_count_bad h.1 h.2.1 x hb).toT (fun _ _ _ => mq_count_bad h x hb)
  · have h9 : inB x (nI 9) := ⟨Int32.le_iff_toInt_le.mpr (by rw [show (0 : Int32).toInt = 0 by decide]; omega), Int32.lt_iff_toInt_lt.mpr (by rw [nI_toInt (by decide)]; omega)⟩
    obtain ⟨w, hw, rfl⟩ := inB_ex (by decide) h9
    obtain rfl | rfl | rfl | rfl | rfl | rfl | rfl | rfl | rfl : w = 0 ∨ w = 1 ∨ w = 2 ∨ w = 3 ∨ w = 4 ∨ w = 5 ∨ w = 6 ∨ w = 7 ∨ w = 8 := by omega
    · exact stp_q (by decide) (by decide) h (r_count0 h.1 h.2.1).toT (fun _ _ _ => mq_count h (w := 0) (by decide))
    · exact stp_q (by decide) (by decide) h (r_count1 h.1 h.2.1).toT (fun _ _ _ => mq_count h (w := 1) (by decide))
    · exact stp_q (by decide) (by decide) h (r_count2 h.1 h.2.1).toT (fun _ _ _ => mq_count h (w := 2) (by decide))
    · exact stp_q (by decide) (by decide) h (r_count3 h.1 h.2.1).toT (fun _ _ _ => mq_count h (w := 3) (by decide))
    · exact stp_q (by decide) (by decide) h (r_count4 h.1 h.2.1).toT (fun _ _ _ => mq_count h (w := 4) (by decide))
    · exact stp_q (by decide) (by decide) h (r_count5 h.1 h.2.1).toT (fun _ _ _ => mq_count h (w := 5) (by decide))
    · exact stp_q (by decide) (by decide) h (r_count6 h.1 h.2.1).toT (fun _ _ _ => mq_count h (w := 6) (by decide))
    · exact stp_q (by decide) (by decide) h (r_count7 h.1 h.2.1).toT (fun _ _ _ => mq_count h (w := 7) (by decide))
    · exact stp_q (by decide) (by decide) h (r_count8 h.1 h.2.1).toT (fun _ _ _ => mq_count h (w := 8) (by decide))
theorem st_fault (h : RLq ax vx a v) (x : Int32) : STP E mX7_fault mX8_fault [(1, .int x)] ax vx tx a v t := by
  obtain ⟨n, k, q, mn, sm, tt, ya, yb, yc, h⟩ := h
  by_cases hb : inB x 3
  · obtain ⟨w, hw, rfl⟩ := inB_ex (n := 3) (by decide) hb
    obtain ⟨a', v', hr, he⟩ := mq_fault (E := E) (ax := ax) (vx := vx) (tx := tx) (v := v) (t := t) h.2.2.1 h.2.2.2.1 hw
    exact stp_b (by decide) (by decide) h (r_fault hw) ⟨a', v', t, hr, he⟩
  · exact stp_b (by decide) (by decide) h (r_fault_bad x hb) ⟨a, v, t, mq_fault_bad x hb, eqM.rf⟩
theorem st_span (h : RLq ax vx a v) (x y : Int32) : STP E mX7_span mX8_span [(1, .int x), (2, .int y)] ax vx tx a v t := by
  obtain ⟨n, k, q, mn, sm, tt, ya, yb, yc, h⟩ := h
  by_cases hb : inB x 16 ∧ inB y 2
  · obtain ⟨h0, h1⟩ := hb
    obtain ⟨s, hs, rfl⟩ := inB_ex (n := 16) (by decide) h0
    obtain ⟨w, hw, rfl⟩ := inB_ex (n := 2) (by decide) h1
    obtain rfl | rfl : w = 0 ∨ w = 1 := by omega
    · obtain ⟨a', hr, he⟩ := mq_span0 (E := E) (ax := ax) (vx := vx) (tx := tx) (v := v) (t := t) h.2.2.1 h.2.2.2.1 hs
      exact stp_b (by decide) (by decide) h (r_span0 hs) ⟨a', v, t, hr, he⟩
    · obtain ⟨a', hr, he⟩ := mq_span1 (E := E) (ax := ax) (vx := vx) (tx := tx) (v := v) (t := t) h.2.2.1 h.2.2.2.1 hs
      exact stp_b (by decide) (by decide) h (r_span1 hs) ⟨a', v, t, hr, he⟩
  · obtain ⟨a', hr, he⟩ := mq_span_bad (E := E) (ax := ax) (vx := vx) (tx := tx) (v := v) (t := t) h.2.2.1 h.2.2.2.1 x y hb
    exact stp_b (by decide) (by decide) h (r_span_bad x y hb) ⟨a', v, t, hr, he⟩
theorem st_log (h : RLq ax vx a v) (x y : Int32) : STP E mX7_log mX8_log [(1, .int x), (2, .int y)] ax vx tx a v t := by
  obtain ⟨n, k, q, mn, sm, tt, ya, yb, yc, h⟩ := h
  obtain ⟨hn, hv4⟩ := h.1.1
  by_cases hb : inB x (nI n) ∧ inB y 3
  · obtain ⟨h0, h1⟩ := hb
    obtain ⟨l, hl, rfl⟩ := inB_ex (n := n) (by omega) h0
    obtain ⟨w, hw, rfl⟩ := inB_ex (n := 3) (by decide) h1
    obtain ⟨a', v', hr, he⟩ := mq_log (E := E) (ax := ax) (vx := vx) (tx := tx) (v := v) (t := t) hn h.2.2.1 h.2.2.2.1 hl hw
    obtain rfl | rfl | rfl : w = 0 ∨ w = 1 ∨ w = 2 := by omega
    · exact stp_b (by decide) (by decide) h (r_log0 hn hv4 hl) ⟨a', v', t, hr, he⟩
    · exact stp_b (by decide) (by decide) h (r_log1 hn hv4 hl) ⟨a', v', t, hr, he⟩
    · exact stp_b (by decide) (by decide) h (r_log2 hn hv4 hl) ⟨a', v', t, hr, he⟩
  · obtain ⟨a', v', hr, he⟩ := mq_log_bad (E := E) (ax := ax) (vx := vx) (tx := tx) (v := v) (t := t) hn h.2.2.1 h.2.2.2.1 x y hb
    exact stp_b (by decide) (by decide) h (r_log_bad x y (by rw [hv4]; exact hb)) ⟨a', v', t, hr, he⟩
end STX
