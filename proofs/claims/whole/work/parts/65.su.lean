section SUX
variable {E : iExtT} {ax ax' : Nat → Nat → Int32} {vx vx' : Nat → Int32} {tx : Nat → Nat → Int64} {a a' : Nat → Nat → Int32} {v v' : Nat → Int32} {t : Nat → Nat → Int64} {n k q : Nat} {mn sm tt : Nat → Nat} {ya yb yc : Nat}
theorem RS.cg (h : RS ax vx a v) (h0 : vx' 0 = vx 0) (hv : ∀ j, 14 ≤ j → j ≤ 21 → vx' j = vx j) (hx : ∀ j, 46 ≤ j → j ≤ 52 → ax' j = ax j) (ha : ∀ j ∈ [54, 55, 56], a' j = a j) (h30 : v' 30 = v 30) : RS ax' vx' a' v' := by
  refine ⟨by rw [h0, h30]; exact h.1, fun s hs => ?_⟩
  have := h.2 s hs
  unfold RS1 at this ⊢
  rw [hv (18 + s) (by omega) (by omega), hv (14 + s) (by omega) (by omega), hx (shI s) (by show 46 ≤ 46 + 2 * s; omega) (by show 46 + 2 * s ≤ 52; omega), ha 54 (by decide), ha 55 (by decide), ha 56 (by decide)]
  exact this
theorem rwA_in (b : Nat → Int32) (m : Nat) (fl rest : Int32) (f0 : Nat → Int32) {s : Nat} (hs : s < 16) : rwA b m fl rest f0 s = rwF b m fl rest s := (pw_in (D := fun s => s) (F := fun s => rwF b m fl rest s) (n := 16) (G := f0) (fun _ _ e => e)).1 s hs
/-- slopes told anew -/
theorem rel_tx0 (h : REL ax vx a v n k q mn sm tt ya yb yc) {B : Nat → Int32} {z : Nat} (hz : z ≤ 16) (h59 : a' 59 0 = nI z ∧ a' 59 1 = a 59 1 ∧ a' 59 2 = a 59 2) (h58 : (∀ i, i < z → a' 58 i = B i) ∧ ∀ j, 32 ≤ j → a' 58 j = a 58 j) (ha : ∀ j ∈ [54, 55, 56, 63, 73], a' j = a j) : REL (tg0 (va_up ax 40 B) z) (upd (upd vx 11 (nI z)) 1 0) a' v n k q mn sm tt z yb yc := by
  obtain ⟨h1, -, ⟨t1, ⟨u1, u2, u3, u4⟩, w1, w2, w3, w4⟩, ⟨o1, o2, o3, o4⟩, h5, h6⟩ := h
  refine ⟨h1, Or.inl rfl, ⟨⟨hz, rfl, h59.1, h58.1⟩, ⟨u1, u2, h59.2.1.trans u3, fun i hi => (h58.2 _ (by omega)).trans (u4 i hi)⟩, w1, w2, h59.2.2.trans w3, fun i hi => (h58.2 _ (by omega)).trans (w4 i hi)⟩, ⟨⟨rfl, fun s hs => rwA_in _ _ _ _ _ hs⟩, o2, o3, o4⟩, ?_, ?_⟩
  · unfold RE at h5 ⊢
    rw [ha 63 (by decide), ha 73 (by decide)]; exact h5
  · refine h6.cg rfl (fun j h1 h2 => ?_) (fun j h1 h2 => ?_) (fun j hj => ha j (by simp only [List.mem_cons, List.not_mem_nil, or_false] at hj ⊢; omega)) rfl
    · rw [pk_un (by omega), pk_un (by omega)]
    · unfold tg0
      rw [up_out (by omega), up_out (by omega), up_out (by omega)]
theorem rel_tx1 (h : REL ax vx a v n k q mn sm tt ya yb yc) {B : Nat → Int32} {z : Nat} (hz : z ≤ 16) (h59 : a' 59 1 = nI z ∧ a' 59 0 = a 59 0 ∧ a' 59 2 = a 59 2) (h58 : (∀ i, i < z → a' 58 (32 + i) = B i) ∧ ∀ j, (j < 32 ∨ 64 ≤ j) → a' 58 j = a 58 j) (ha : ∀ j ∈ [54, 55, 56, 63, 73], a' j = a j) : REL (tg1 (va_up ax 42 B) z) (upd (upd vx 12 (nI z)) 1 0) a' v n k q mn sm tt ya z yc := by
  obtain ⟨h1, -, ⟨⟨u1, u2, u3, u4⟩, t1, w1, w2, w3, w4⟩, ⟨o1, o2, o3, o4⟩, h5, h6⟩ := h
  refine ⟨h1, Or.inl rfl, ⟨⟨u1, u2, h59.2.1.trans u3, fun i hi => (h58.2 _ (by omega)).trans (u4 i hi)⟩, ⟨hz, rfl, h59.1, h58.1⟩, w1, w2, h59.2.2.trans w3, fun i hi => (h58.2 _ (by omega)).trans (w4 i hi)⟩, ⟨o1, ⟨rfl, fun s hs => rwA_in _ _ _ _ _ hs⟩, o3, o4⟩, ?_, ?_⟩
  · unfold RE at h5 ⊢
    rw [ha 63 (by decide), ha 73 (by decide)]; exact h5
  · refine h6.cg rfl (fun j h1 h2 => ?_) (fun j h1 h2 => ?_) (fun j hj => ha j (by simp only [List.mem_cons, List.not_mem_nil, or_false] at hj ⊢; omega)) rfl
    · rw [pk_un (by omega), pk_un (by omega)]
    · unfold tg1
      rw [up_out (by omega), up_out (by omega), up_out (by omega)]
theorem tlA_in (b : Nat → Int32) (m : Nat) (s : tl3) : ∀ l, l < m → (tlA b m s).1 l = b (4 * l) - 97 ∧ (tlA b m s).2.1 l = b (4 * l + 1) - 48 ∧ (tlA b m s).2.2 l = (if b (4 * l + 2) = 108 then 1 else 0) := by
  have h := lp_inv (f := fun l (s : tl3) => (upd s.1 l (b (4 * l) - 97), upd s.2.1 l (b (4 * l + 1) - 48), upd s.2.2 l (if b (4 * l + 2) = 108 then 1 else 0))) (fun m s => ∀ l, l < m → s.1 l = b (4 * l) - 97 ∧ s.2.1 l = b (4 * l + 1) - 48 ∧ s.2.2 l = (if b (4 * l + 2) = 108 then 1 else 0)) (i := 0) (j := m) (s := s) (fun i h => absurd h (Nat.not_lt_zero _)) (fun i g _ _ hI l hl => by
    by_cases e : l = i
    · subst e; exact ⟨pk_us, pk_us, pk_us⟩
    · dsimp only
      rw [pk_un e, pk_un e, pk_un e]; exact hI l (by omega))
  rw [Nat.zero_add] at h
  exact h
theorem rel_tx2 (h : REL ax vx a v n k q mn sm tt ya yb yc) {B : Nat → Int32} {z : Nat} (hz : z ≤ 31) (h59 : a' 59 2 = nI z ∧ a' 59 0 = a 59 0 ∧ a' 59 1 = a 59 1) (h58 : (∀ i, i < z → a' 58 (64 + i) = B i) ∧ ∀ j, j < 64 → a' 58 j = a 58 j) (ha : ∀ j ∈ [54, 55, 56, 63, 73], a' j = a j) : RLq (tg2 (va_up ax 44 B) z) (upd (tgv (va_up ax 44 B) (upd vx 13 (nI z)) z) 1 0) a' v := by
  obtain ⟨h1, -, ⟨⟨u1, u2, u3, u4⟩, ⟨w1, w2, w3, w4⟩, -⟩, ⟨o1, o2, -, -⟩, h5, h6⟩ := h
  unfold tg2 tgv
  by_cases hf : flg (va_up ax 44 B 44) z 0 z = -1
  · rw [if_pos hf, if_pos hf]
    have hf' : flg B z 0 z = -1 := hf
    refine ⟨(z + 1) / 4, k, q, mn, sm, fun l => if B (4 * l + 2) = 108 then 1 else 0, ya, yb, z, ⟨⟨by omega, rfl⟩, h1.2⟩, Or.inl rfl, ⟨⟨u1, u2, h59.2.1.trans u3, fun i hi => (h58.2 _ (by omega)).trans (u4 i hi)⟩, ⟨w1, w2, h59.2.2.trans w3, fun i hi => (h58.2 _ (by omega)).trans (w4 i hi)⟩, hz, rfl, h59.1, h58.1⟩, ⟨o1, o2, ⟨rfl, fun _ => ⟨rfl, fun l hl => tlA_in _ _ _ l hl⟩, fun q => absurd hf' q⟩, fun l hl => ⟨?_, ?_⟩⟩, ?_, ?_⟩
    · refine (tlA_in _ _ _ l hl).2.2.trans ?_
      show (if B (4 * l + 2) = 108 then (1 : Int32) else 0) = nI (if B (4 * l + 2) = 108 then 1 else 0)
      split <;> rfl
    · show (if B (4 * l + 2) = 108 then 1 else 0) ≤ 1
      split <;> decide
    · unfold RE at h5 ⊢
      rw [ha 63 (by decide), ha 73 (by decide)]; exact h5
    · refine h6.cg rfl (fun j h1 h2 => ?_) (fun j h1 h2 => ?_) (fun j hj => ha j (by simp only [List.mem_cons, List.not_mem_nil, or_false] at hj ⊢; omega)) rfl
      · rw [pk_un (by omega), pk_un (by omega), pk_un (by omega)]
      · exact (up_out (i := 2) (by omega)).trans ((up_out (i := 8) (by omega)).trans ((up_out (i := 7) (by omega)).trans ((up_out (i := 6) (by omega)).trans (up_out (i := 44) (by omega)))))
  · rw [if_neg hf, if_neg hf]
    have hf' : ¬ flg B z 0 z = -1 := hf
    refine ⟨0, k, q, mn, sm, fun _ => 0, ya, yb, z, ⟨⟨by omega, rfl⟩, h1.2⟩, Or.inl rfl, ⟨⟨u1, u2, h59.2.1.trans u3, fun i hi => (h58.2 _ (by omega)).trans (u4 i hi)⟩, ⟨w1, w2, h59.2.2.trans w3, fun i hi => (h58.2 _ (by omega)).trans (w4 i hi)⟩, hz, rfl, h59.1, h58.1⟩, ⟨o1, o2, ⟨rfl, fun q => absurd q hf', fun _ => rfl⟩, fun l hl => absurd hl (Nat.not_lt_zero _)⟩, ?_, ?_⟩
    · unfold RE at h5 ⊢
      rw [ha 63 (by decide), ha 73 (by decide)]; exact h5
    · refine h6.cg rfl (fun j h1 h2 => ?_) (fun j h1 h2 => ?_) (fun j hj => ha j (by simp only [List.mem_cons, List.not_mem_nil, or_false] at hj ⊢; omega)) rfl
      · rw [pk_un (by omega), pk_un (by omega), pk_un (by omega)]
      · rw [up_out (by omega), up_out (by omega)]
theorem tx_ha {f g : Nat → Int32} : ∀ j ∈ [54, 55, 56, 63, 73], va_up (va_up a 58 f) 59 g j = a j := fun j hj => by
  simp only [List.mem_cons, List.not_mem_nil, or_false] at hj
  rw [up_out (by omega), up_out (by omega)]
theorem tx_ha2 {g : Nat → Int32} : ∀ j ∈ [54, 55, 56, 63, 73], va_up a 59 g j = a j := fun j hj => by
  simp only [List.mem_cons, List.not_mem_nil, or_false] at hj
  rw [up_out (by omega)]
theorem up_at {f : Nat → Nat → Int32} {g : Nat → Int32} {i : Nat} : va_up f i g i = g := if_pos rfl
theorem st_type (h : RLq ax vx a v) (x b : Int32) : STP E mX7_type mX8_type [(1, .int x), (2, .int b)] ax vx tx a v t := by
  obtain ⟨n, k, q, mn, sm, tt, ya, yb, yc, h⟩ := h
  by_cases hb : inB x 3 ∧ inB b 256
  · obtain ⟨h0, h1⟩ := hb
    obtain ⟨w, hw, rfl⟩ := inB_ex (n := 3) (by decide) h0
    obtain ⟨⟨x1, x2, x3, x4⟩, ⟨y1, y2, y3, y4⟩, z1, z2, z3, z4⟩ := h.2.2.1
    obtain rfl | rfl | rfl : w = 0 ∨ w = 1 ∨ w = 2 := by omega
    · by_cases hl : ya < 16
      · refine stp_c (by decide) (by decide) (r_type0 b h1 hl x2) (m_type0 b h1 x3 hl) (rel_tx0 h (B := upd (ax 40) ya b) (z := ya + 1) (by omega) ⟨?_, ?_, ?_⟩ ⟨fun i hi => ?_, fun j hj => ?_⟩ tx_ha).rl
        · rfl
        · rfl
        · rfl
        · show upd (a 58) (0 + ya) b i = upd (ax 40) ya b i
          rw [Nat.zero_add]
          by_cases e : i = ya
          · subst e; rw [pk_us, pk_us]
          · rw [pk_un e, pk_un e]; exact x4 i (by omega)
        · show upd (a 58) (0 + ya) b j = a 58 j
          exact pk_un (by omega)
      · have e : ya = 16 := by omega
        subst e
        exact stp_b (by decide) (by decide) h (r_type0_full b h1 x2) ⟨a, v, t, m_type0_full b h1 x3, eqM.rf⟩
    · by_cases hl : yb < 16
      · refine stp_c (by decide) (by decide) (r_type1 b h1 hl y2) (m_type1 b h1 y3 hl) (rel_tx1 h (B := upd (ax 42) yb b) (z := yb + 1) (by omega) ⟨?_, ?_, ?_⟩ ⟨fun i hi => ?_, fun j hj => ?_⟩ tx_ha).rl
        · rfl
        · rfl
        · rfl
        · show upd (a 58) (32 + yb) b (32 + i) = upd (ax 42) yb b i
          by_cases e : i = yb
          · subst e; rw [pk_us, pk_us]
          · rw [pk_un (by omega), pk_un e]; exact y4 i (by omega)
        · show upd (a 58) (32 + yb) b j = a 58 j
          exact pk_un (by omega)
      · have e : yb = 16 := by omega
        subst e
        exact stp_b (by decide) (by decide) h (r_type1_full b h1 y2) ⟨a, v, t, m_type1_full b h1 y3, eqM.rf⟩
    · by_cases hl : yc < 31
      · refine stp_c (by decide) (by decide) (r_type2 b h1 hl z2) (m_type2 b h1 z3 hl) (rel_tx2 h (B := upd (ax 44) yc b) (z := yc + 1) (by omega) ⟨?_, ?_, ?_⟩ ⟨fun i hi => ?_, fun j hj => ?_⟩ tx_ha)
        · rfl
        · rfl
        · rfl
        · show upd (a 58) (64 + yc) b (64 + i) = upd (ax 44) yc b i
          by_cases e : i = yc
          · subst e; rw [pk_us, pk_us]
          · rw [pk_un (by omega), pk_un e]; exact z4 i (by omega)
        · show upd (a 58) (64 + yc) b j = a 58 j
          exact pk_un (by omega)
      · have e : yc = 31 := by omega
        subst e
        exact stp_b (by decide) (by decide) h (r_type2_full b h1 z2) ⟨a, v, t, m_type2_full b h1 z3, eqM.rf⟩
  · exact stp_b (by decide) (by decide) h (r_type_bad x b hb) ⟨a, v, t, m_type_bad x b hb, eqM.rf⟩
theorem rel_sz0 (h : REL ax vx a v n k q mn sm tt ya yb yc) {z : Nat} (hz : z ≤ ya) : RLq (tg0 ax z) (upd (upd vx 11 (nI z)) 1 0) (va_up a 59 (upd (a 59) 0 (nI z))) v := by
  obtain ⟨x1, x2, x3, x4⟩ := h.2.2.1.1
  have := rel_tx0 h (a' := va_up a 59 (upd (a 59) 0 (nI z))) (B := ax 40) (z := z) (by omega) ⟨rfl, rfl, rfl⟩ ⟨fun i hi => x4 i (by omega), fun j hj => rfl⟩ tx_ha2
  rw [va_id] at this
  exact this.rl
theorem rel_sz1 (h : REL ax vx a v n k q mn sm tt ya yb yc) {z : Nat} (hz : z ≤ yb) : RLq (tg1 ax z) (upd (upd vx 12 (nI z)) 1 0) (va_up a 59 (upd (a 59) 1 (nI z))) v := by
  obtain ⟨x1, x2, x3, x4⟩ := h.2.2.1.2.1
  have := rel_tx1 h (a' := va_up a 59 (upd (a 59) 1 (nI z))) (B := ax 42) (z := z) (by omega) ⟨rfl, rfl, rfl⟩ ⟨fun i hi => x4 i (by omega), fun j hj => rfl⟩ tx_ha2
  rw [va_id] at this
  exact this.rl
theorem rel_sz2 (h : REL ax vx a v n k q mn sm tt ya yb yc) {z : Nat} (hz : z ≤ yc) : RLq (tg2 ax z) (upd (tgv ax (upd vx 13 (nI z)) z) 1 0) (va_up a 59 (upd (a 59) 2 (nI z))) v := by
  obtain ⟨x1, x2, x3, x4⟩ := h.2.2.1.2.2
  have := rel_tx2 h (a' := va_up a 59 (upd (a 59) 2 (nI z))) (B := ax 44) (z := z) (by omega) ⟨rfl, rfl, rfl⟩ ⟨fun i hi => x4 i (by omega), fun j hj => rfl⟩ tx_ha2
  rw [va_id] at this
  exact this
theorem st_wipe (h : RLq ax vx a v) (x : Int32) : STP E mX7_wipe mX8_wipe [(1, .int x)] ax vx tx a v t := by
  obtain ⟨n, k, q, mn, sm, tt, ya, yb, yc, h⟩ := h
  by_cases hb : inB x 3
  · obtain ⟨w, hw, rfl⟩ := inB_ex (n := 3) (by decide) hb
    obtain ⟨⟨x1, x2, x3, x4⟩, ⟨y1, y2, y3, y4⟩, z1, z2, z3, z4⟩ := h.2.2.1
    obtain rfl | rfl | rfl : w = 0 ∨ w = 1 ∨ w = 2 := by omega
    · refine stp_c (h2 := 2) (by decide) (by decide) r_wipe0 ?_ (rel_sz0 h (z := 0) (by omega))
      rw [x2.trans x3.symm]
      exact m_wipe0
    · refine stp_c (h2 := 2) (by decide) (by decide) r_wipe1 ?_ (rel_sz1 h (z := 0) (by omega))
      rw [y2.trans y3.symm]
      exact m_wipe1
    · refine stp_c (h2 := 2) (by decide) (by decide) r_wipe2 ?_ (rel_sz2 h (z := 0) (by omega))
      rw [z2.trans z3.symm]
      exact m_wipe2
  · exact stp_b (by decide) (by decide) h (r_wipe_bad x hb) ⟨a, v, t, m_wipe_bad x hb, eqM.rf⟩
theorem st_undo (h : RLq ax vx a v) (x : Int32) : STP E mX7_undo mX8_undo [(1, .int x)] ax vx tx a v t := by
  obtain ⟨n, k, q, mn, sm, tt, ya, yb, yc, h⟩ := h
  by_cases hb : inB x 3
  · obtain ⟨w, hw, rfl⟩ := inB_ex (n := 3) (by decide) hb
    obtain ⟨⟨x1, x2, x3, x4⟩, ⟨y1, y2, y3, y4⟩, z1, z2, z3, z4⟩ := h.2.2.1
    obtain rfl | rfl | rfl : w = 0 ∨ w = 1 ∨ w = 2 := by omega
    · by_cases e : ya = 0
      · subst e
        exact stp_b (by decide) (by decide) h (r_undo0_not x2) ⟨a, v, t, m_undo0_not x3, eqM.rf⟩
      · obtain ⟨z, rfl⟩ : ∃ z, ya = z + 1 := ⟨ya - 1, by omega⟩
        exact stp_c (by decide) (by decide) (r_undo0 (by omega) x2) (m_undo0 x3 (by omega)) (rel_sz0 h (z := z) (by omega))
    · by_cases e : yb = 0
      · subst e
        exact stp_b (by decide) (by decide) h (r_undo1_not y2) ⟨a, v, t, m_undo1_not y3, eqM.rf⟩
      · obtain ⟨z, rfl⟩ : ∃ z, yb = z + 1 := ⟨yb - 1, by omega⟩
        exact stp_c (by decide) (by decide) (r_undo1 (by omega) y2) (m_undo1 y3 (by omega)) (rel_sz1 h (z := z) (by omega))
    · by_cases e : yc = 0
      · subst e
        exact stp_b (by decide) (by decide) h (r_undo2_not z2) ⟨a, v, t, m_undo2_not z3, eqM.rf⟩
      · obtain ⟨z, rfl⟩ : ∃ z, yc = z + 1 := ⟨yc - 1, by omega⟩
        exact stp_c (by decide) (by decide) (r_undo2 (by omega) z2) (m_undo2 z3 (by omega)) (rel_sz2 h (z := z) (by omega))
  · exact stp_b (by decide) (by decide) h (r_undo_bad x hb) ⟨a, v, t, m_undo_bad x hb, eqM.rf⟩
end SUX
