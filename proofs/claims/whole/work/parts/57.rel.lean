section RELX
variable {E : iExtT} {c ax : Nat → Nat → Int32} {vc vx : Nat → Int32} {tx : Nat → Nat → Int64} {a : Nat → Nat → Int32} {v : Nat → Int32} {t : Nat → Nat → Int64} {n k q : Nat} {mn sm tt : Nat → Nat} {ya yb yc : Nat}
/-- the class's texts are the model's -/
def RT (ax : Nat → Nat → Int32) (vx : Nat → Int32) (a : Nat → Nat → Int32) (ya yb yc : Nat) : Prop :=
  (ya ≤ 16 ∧ vx 11 = nI ya ∧ a 59 0 = nI ya ∧ ∀ i, i < ya → a 58 i = ax 40 i) ∧
  (yb ≤ 16 ∧ vx 12 = nI yb ∧ a 59 1 = nI yb ∧ ∀ i, i < yb → a 58 (32 + i) = ax 42 i) ∧
  (yc ≤ 31 ∧ vx 13 = nI yc ∧ a 59 2 = nI yc ∧ ∀ i, i < yc → a 58 (64 + i) = ax 44 i)
/-- what the class is told is what its texts say -/
def RO (ax : Nat → Nat → Int32) (n : Nat) (tt : Nat → Nat) (ya yb yc : Nat) : Prop :=
  (ax 2 0 = ffg (ax 40) 49 51 0 ya ∧ ∀ s, s < 16 → ax 4 s = rwF (ax 40) ya (ffg (ax 40) 49 51 0 ya) 1 s) ∧
  (ax 2 1 = ffg (ax 42) 48 57 0 yb ∧ ∀ s, s < 16 → ax 5 s = rwF (ax 42) yb (ffg (ax 42) 48 57 0 yb) 0 s) ∧
  (ax 2 2 = flg (ax 44) yc 0 yc ∧ (flg (ax 44) yc 0 yc = -1 → n = (yc + 1) / 4 ∧ ∀ l, l < n → ax 6 l = ax 44 (4 * l) - 97 ∧ ax 7 l = ax 44 (4 * l + 1) - 48 ∧ ax 8 l = if ax 44 (4 * l + 2) = 108 then 1 else 0) ∧ (¬ flg (ax 44) yc 0 yc = -1 → n = 0)) ∧
  (∀ l, l < n → ax 8 l = nI (tt l) ∧ tt l ≤ 1)
/-- events and what was seen -/
def RE (ax a : Nat → Nat → Int32) (v : Nat → Int32) (k q : Nat) (mn sm : Nat → Nat) : Prop :=
  v 32 = nI k ∧ v 33 = 0 ∧ v 34 = nI q ∧ (∀ e, e < k → a 63 (3 * e) = ax 10 e ∧ a 63 (3 * e + 1) = nI (mn e) ∧ a 63 (3 * e + 2) = ax 12 e) ∧
  (∀ i, i < q → a 73 (3 * i) = nI (sm i) ∧ (∃ s, s < 16 ∧ ax 15 i = nI s) ∧ a 73 (3 * i + 1) = ax 15 i ∧ ax 16 i = si8 (a 73 (3 * i + 2)))
/-- a sheet -/
def RS1 (ax : Nat → Nat → Int32) (vx : Nat → Int32) (a : Nat → Nat → Int32) (s : Nat) : Prop := (vx (18 + s) = -1 ∧ a 54 s = -1) ∨ ∃ z, z ≤ 60 ∧ vx (18 + s) = nI z ∧ a 55 s = nI z ∧ a 54 s = vx (14 + s) ∧ inB (vx (14 + s)) 3 ∧ ∀ i, i < z → ax (shI s) i = a 56 (60 * s + i)
def RS (ax : Nat → Nat → Int32) (vx : Nat → Int32) (a : Nat → Nat → Int32) (v : Nat → Int32) : Prop := vx 0 = v 30 ∧ ∀ s, s < 4 → RS1 ax vx a s
/-- class and model stand alike -/
def REL (ax : Nat → Nat → Int32) (vx : Nat → Int32) (a : Nat → Nat → Int32) (v : Nat → Int32) (n k q : Nat) (mn sm tt : Nat → Nat) (ya yb yc : Nat) : Prop :=
  WfX ax vx n k q mn sm ∧ SetX ax vx mn k n ∧ RT ax vx a ya yb yc ∧ RO ax n tt ya yb yc ∧ RE ax a v k q mn sm ∧ RS ax vx a v
/-- the model's own rows may change -/
def eqM (a : Nat → Nat → Int32) (v : Nat → Int32) (a' : Nat → Nat → Int32) (v' : Nat → Int32) : Prop := (∀ j, j ∉ rowsM → a' j = a j) ∧ ∀ j, j ≠ 31 → j ≠ 35 → v' j = v j
theorem eqM.rf : eqM a v a v := ⟨fun _ _ => rfl, fun _ _ _ => rfl⟩
theorem eqM.trans {a' a'' : Nat → Nat → Int32} {v' v'' : Nat → Int32} (h1 : eqM a v a' v') (h2 : eqM a' v' a'' v'') : eqM a v a'' v'' := ⟨fun j hj => (h2.1 j hj).trans (h1.1 j hj), fun j h h' => (h2.2 j h h').trans (h1.2 j h h')⟩
theorem eqM.of {a' : Nat → Nat → Int32} (h : ∀ j, j ∉ rowsM → a' j = a j) : eqM a v a' v := ⟨h, fun _ _ _ => rfl⟩
theorem REL.eqM {a' : Nat → Nat → Int32} {v' : Nat → Int32} (h : REL ax vx a v n k q mn sm tt ya yb yc) (he : eqM a v a' v') : REL ax vx a' v' n k q mn sm tt ya yb yc := by
  obtain ⟨h1, h2, h3, h4, h5, h6⟩ := h
  refine ⟨h1, h2, ?_, h4, ?_, ?_⟩
  · unfold RT at h3 ⊢
    rw [he.1 58 (by decide), he.1 59 (by decide)]; exact h3
  · unfold RE at h5 ⊢
    rw [he.1 63 (by decide), he.1 73 (by decide), he.2 32 (by decide) (by decide), he.2 33 (by decide) (by decide), he.2 34 (by decide) (by decide)]; exact h5
  · unfold RS RS1 at h6 ⊢
    rw [he.1 54 (by decide), he.1 55 (by decide), he.1 56 (by decide), he.2 30 (by decide) (by decide)]; exact h6
theorem REL.eqT {ax' : Nat → Nat → Int32} {vx' : Nat → Int32} (h : REL ax vx a v n k q mn sm tt ya yb yc) (he : eqT ax vx ax' vx') (hS : SetX ax' vx' mn k n) : REL ax' vx' a v n k q mn sm tt ya yb yc := by
  obtain ⟨h1, h2, h3, h4, h5, h6⟩ := h
  refine ⟨h1.moved he, hS, ?_, ?_, ?_, ?_⟩
  · unfold RT at h3 ⊢
    rw [he.1 40 (by decide), he.1 42 (by decide), he.1 44 (by decide), he.2 11 (by decide), he.2 12 (by decide), he.2 13 (by decide)]; exact h3
  · unfold RO at h4 ⊢
    rw [he.1 40 (by decide), he.1 42 (by decide), he.1 44 (by decide), he.1 2 (by decide), he.1 4 (by decide), he.1 5 (by decide), he.1 6 (by decide), he.1 7 (by decide), he.1 8 (by decide)]; exact h4
  · unfold RE at h5 ⊢
    rw [he.1 10 (by decide), he.1 12 (by decide), he.1 15 (by decide), he.1 16 (by decide)]; exact h5
  · refine ⟨(he.2 0 (by decide)).trans h6.1, fun s hs => ?_⟩
    have h := h6.2 s hs
    unfold RS1 at h ⊢
    have e1 : vx' (18 + s) = vx (18 + s) := he.2 _ (by simp only [List.mem_cons, List.not_mem_nil, or_false]; omega)
    have e2 : vx' (14 + s) = vx (14 + s) := he.2 _ (by simp only [List.mem_cons, List.not_mem_nil, or_false]; omega)
    have e3 : ax' (shI s) = ax (shI s) := he.1 _ (by show 46 + 2 * s ∈ _; simp only [List.mem_cons, List.not_mem_nil, or_false]; omega)
    rw [e1, e2, e3]; exact h
theorem ffg_cg {b b' : Nat → Int32} {lo hi : Int32} {N : Nat} (h : ∀ i, i < N → b i = b' i) : ∀ j i, i + j ≤ N → ffg b lo hi i j = ffg b' lo hi i j := by
  intro j
  induction j with
  | zero => intro i _; rfl
  | succ j ih => intro i hi; unfold ffg; rw [h i (by omega), ih (i + 1) (by omega)]
theorem flg_cg {b b' : Nat → Int32} {N M : Nat} (h : ∀ i, i < N → b i = b' i) : ∀ j i, i + j ≤ N → flg b M i j = flg b' M i j := by
  intro j
  induction j with
  | zero => intro i _; rfl
  | succ j ih => intro i hi; unfold flg; rw [h i (by omega), ih (i + 1) (by omega)]
theorem rwF_cg {b b' : Nat → Int32} {N : Nat} {fl rest : Int32} (h : ∀ i, i < N → b i = b' i) (s : Nat) : rwF b N fl rest s = rwF b' N fl rest s := by
  unfold rwF
  by_cases hs : fl = -1 ∧ s < N
  · rw [if_pos hs, if_pos hs, h s hs.2]
  · rw [if_neg hs, if_neg hs]
theorem ffg_in {b : Nat → Int32} {lo hi : Int32} {N : Nat} (hN : N < 2 ^ 31) : ∀ j i, i + j ≤ N → ffg b lo hi i j = -1 → ∀ s, i ≤ s → s < i + j → ¬ (b s < lo ∨ hi < b s) := by
  intro j
  induction j with
  | zero => intro i _ _ s h1 h2; omega
  | succ j ih =>
    intro i hij hf s h1 h2
    unfold ffg at hf
    by_cases hx : b i < lo ∨ hi < b i
    · rw [if_pos hx] at hf; exact absurd hf (nI_ne1 (by omega))
    · rw [if_neg hx] at hf
      by_cases hs : s = i
      · subst hs; exact hx
      · exact ih (i + 1) (by omega) hf s (by omega) (by omega)
theorem fig_nat {x : Int32} (h : ¬ (x < 48 ∨ 57 < x)) : ∃ f, f < 10 ∧ x - 48 = nI f := by
  have h1 : ¬ x < 0 := fun p => h (Or.inl (Int32.lt_trans p (by decide)))
  obtain ⟨j, hj, rfl⟩ := nI_of h1
  have h2 : ¬ j < 48 := fun p => h (Or.inl (nI_lt (b := 48) p (by decide)))
  have h3 : ¬ 57 < j := fun p => h (Or.inr (nI_lt (a := 57) p (by omega)))
  exact ⟨j - 48, by omega, pk_sub (b := 48) (by omega)⟩
theorem RO.fe (h : RO ax n tt ya yb yc) (hz : yb ≤ 16) : feR (ax 5) := by
  intro s hs
  rw [h.2.1.2 s hs]
  unfold rwF
  by_cases hx : ffg (ax 42) 48 57 0 yb = -1 ∧ s < yb
  · rw [if_pos hx]
    exact fig_nat (ffg_in (N := yb) (by omega) yb 0 (by omega) hx.1 s (by omega) (by omega))
  · rw [if_neg hx]; exact ⟨0, by decide, rfl⟩
theorem m_rd0 (hT : RT c vc a ya yb yc) (hO : RO c n tt ya yb yc) : ∃ g, Rn E 2 mX8_readsSlopes (0, [(0, .ref 53)], [], wY ax vx tx a v t) (some (.int (c 2 0)), wY ax vx tx (va_up a 60 g) v t) ∧ ∀ s, s < 16 → g s = c 4 s := by
  obtain ⟨⟨hz, -, h59, hb⟩, -, -⟩ := hT
  obtain ⟨g, hr, hg⟩ := m_readsSlopes (E := E) (ax := ax) (vx := vx) (tx := tx) (v := v) (t := t) h59 hz
  have e : ffg (a 58) 49 51 0 ya = ffg (c 40) 49 51 0 ya := ffg_cg hb ya 0 (by omega)
  rw [e] at hr hg
  rw [hO.1.1]
  exact ⟨g, hr, fun s hs => by rw [hg s hs, rwF_cg hb, hO.1.2 s hs]⟩
theorem m_rd1 (hT : RT c vc a ya yb yc) (hO : RO c n tt ya yb yc) : ∃ g, Rn E 2 mX8_readsFeeders (0, [(0, .ref 53)], [], wY ax vx tx a v t) (some (.int (c 2 1)), wY ax vx tx (va_up a 61 g) v t) ∧ ∀ s, s < 16 → g s = c 5 s := by
  obtain ⟨-, ⟨hz, -, h59, hb⟩, -⟩ := hT
  obtain ⟨g, hr, hg⟩ := m_readsFeeders (E := E) (ax := ax) (vx := vx) (tx := tx) (v := v) (t := t) h59 hz
  have e : ffg (fun i => a 58 (32 + i)) 48 57 0 yb = ffg (c 42) 48 57 0 yb := ffg_cg hb yb 0 (by omega)
  rw [e] at hr hg
  rw [hO.2.1.1]
  exact ⟨g, hr, fun s hs => by rw [hg s hs, rwF_cg (b' := c 42) hb, hO.2.1.2 s hs]⟩
theorem m_rd2 (hT : RT c vc a ya yb yc) (hO : RO c n tt ya yb yc) : ∃ g, Rn E 3 mX8_readsLogs (0, [(0, .ref 53)], [], wY ax vx tx a v t) (some (.int (c 2 2)), wY ax vx tx (va_up a 62 g) (upd v 31 (nI n)) t) ∧ ∀ l, l < n → g (3 * l) = c 6 l ∧ g (3 * l + 1) = c 7 l ∧ g (3 * l + 2) = c 8 l := by
  obtain ⟨-, -, hz, -, h59, hb⟩ := hT
  obtain ⟨g, cc, hr, h1, h2⟩ := m_readsLogs (E := E) (ax := ax) (vx := vx) (tx := tx) (v := v) (t := t) h59 hz
  have e : flg (fun i => a 58 (64 + i)) yc 0 yc = flg (c 44) yc 0 yc := flg_cg hb yc 0 (by omega)
  rw [e] at hr h1 h2
  obtain ⟨-, -, ⟨o1, o2, o3⟩, -⟩ := hO
  rw [o1]
  by_cases hf : flg (c 44) yc 0 yc = -1
  · obtain ⟨c1, c2⟩ := h1 hf
    obtain ⟨d1, d2⟩ := o2 hf
    have hcn : cc = n := c1.trans d1.symm
    subst hcn
    have h4 := flg_ok (by omega) hf
    refine ⟨g, hr, fun l hl => ?_⟩
    obtain ⟨x1, x2, x3⟩ := c2 l hl
    obtain ⟨y1, y2, y3⟩ := d2 l hl
    rw [x1, x2, x3, y1, y2, y3, hb _ (by omega), hb _ (by omega), hb _ (by omega)]
    exact ⟨rfl, rfl, rfl⟩
  · have hcn : cc = n := (h2 hf).trans (o3 hf).symm
    have hn0 := o3 hf
    subst hcn
    exact ⟨g, hr, fun l hl => by omega⟩
theorem MC.g60 (h : MC c a v n k q mn sm tt) {g : Nat → Int32} (hg : ∀ s, s < 16 → g s = c 4 s) : MC c (va_up a 60 g) v n k q mn sm tt := by
  obtain ⟨h1, h2, h3, h4, h5, h60, h61, h62, htt, hfe⟩ := h
  exact ⟨h1, h2, h3, h4, h5, hg, h61, h62, htt, hfe⟩
theorem MC.g61 (h : MC c a v n k q mn sm tt) {g f : Nat → Int32} (hg : ∀ s, s < 16 → g s = f s) (hf : feR f) : MC (va_up c 5 f) (va_up a 61 g) v n k q mn sm tt := by
  obtain ⟨h1, h2, h3, h4, h5, h60, h61, h62, htt, hfe⟩ := h
  exact ⟨h1, h2, h3, h4, h5, h60, hg, h62, htt, hf⟩
theorem MC.g62 (h : MC c a v n k q mn sm tt) {g : Nat → Int32} (hg : ∀ l, l < n → g (3 * l) = c 6 l ∧ g (3 * l + 1) = c 7 l ∧ g (3 * l + 2) = c 8 l) : MC c (va_up a 62 g) (upd v 31 (nI n)) n k q mn sm tt := by
  obtain ⟨h1, h2, h3, h4, h5, h60, h61, h62, htt, hfe⟩ := h
  refine ⟨⟨h1.1, pk_us⟩, h2, h3, h4, h5, h60, h61, fun l hl => ?_, htt, hfe⟩
  obtain ⟨g1, g2, g3⟩ := hg l hl
  obtain ⟨-, -, -, e4⟩ := h62 l hl
  exact ⟨g1, g2, g3.trans e4, e4⟩
theorem m_find (h : REL c vc a v n k q mn sm tt ya yb yc) : ∃ (a' : Nat → Nat → Int32) (v' : Nat → Int32), Rn E 7 mX8_find (0, [(0, .ref 53)], [], wY ax vx tx a v t) (none, wY ax vx tx a' v' t) ∧ eqM a v a' v' ∧ MC c a' v' n k q mn sm tt ∧ LW a' n (c 8) (cW c mn k) (cDr c mn k n) ∧ v' 33 = 0 := by
  obtain ⟨⟨⟨hn, hv4⟩, ⟨hk, hv5, hmn⟩, ⟨hq, hv6, hsm⟩⟩, -, hT, hO, ⟨e1, e2, e3, e4, e5⟩, -⟩ := id h
  obtain ⟨g0, hr0, hg0⟩ := m_rd0 (E := E) (ax := ax) (vx := vx) (tx := tx) (v := v) (t := t) hT hO
  have hT1 : RT c vc (va_up a 60 g0) ya yb yc := hT
  obtain ⟨g1, hr1, hg1⟩ := m_rd1 (E := E) (ax := ax) (vx := vx) (tx := tx) (v := v) (t := t) hT1 hO
  have hT2 : RT c vc (va_up (va_up a 60 g0) 61 g1) ya yb yc := hT
  obtain ⟨g2, hr2, hg2⟩ := m_rd2 (E := E) (ax := ax) (vx := vx) (tx := tx) (v := v) (t := t) hT2 hO
  obtain ⟨a3, ha3⟩ : ∃ a3, a3 = va_up (va_up (va_up a 60 g0) 61 g1) 62 g2 := ⟨_, rfl⟩
  have hC : MC c a3 (upd v 31 (nI n)) n k q mn sm tt := by
    rw [ha3]
    refine ⟨⟨hn, pk_us⟩, ⟨hk, e1⟩, ⟨hq, e3⟩, fun e he => ⟨e4 e he, (hmn e he).2⟩, fun i hi => ?_, hg0, hg1, fun l hl => ?_, fun l hl => (hO.2.2.2 l hl).2, hO.fe hT.2.1.1⟩
    · obtain ⟨p1, p2, p3, p4⟩ := e5 i hi
      exact ⟨⟨p1, (hsm i hi).2⟩, p2, p3, p4⟩
    · obtain ⟨p1, p2, p3⟩ := hg2 l hl
      exact ⟨p1, p2, p3.trans (hO.2.2.2 l hl).1, (hO.2.2.2 l hl).1⟩
  obtain ⟨a', hr, hf, hC', hL⟩ := m_livesM (E := E) (ax := ax) (vx := vx) (tx := tx) (t := t) hC (kp := evB k) (fun e he => by rw [pk_un (by decide), e2]; exact ev_all k (by omega) e he)
  refine ⟨a', upd v 31 (nI n), ?_, ⟨fun j hj => ?_, fun j h1 h2 => pk_un h1⟩, hC', hL, (pk_un (by decide)).trans e2⟩
  · iterate 1 refine Rn.step rfl ?_
    refine Rn.calli rfl rfl rfl (by decide) hr0 (fun z f => ?_)
    iterate 2 refine Rn.step rfl ?_
    refine Rn.calli rfl rfl rfl (by decide) hr1 (fun z f => ?_)
    iterate 2 refine Rn.step rfl ?_
    refine Rn.calli rfl rfl rfl (by decide) hr2 (fun z f => ?_)
    iterate 2 refine Rn.step rfl ?_
    rw [← ha3]
    refine Rn.callv rfl rfl rfl (by decide) hr ?_
    exact Rn.ret rfl
  · rw [hf j (by intro q; apply hj; simp only [List.mem_cons, List.not_mem_nil, or_false] at q ⊢; omega), ha3]
    simp only [List.mem_cons, List.not_mem_nil, or_false, not_or] at hj
    rw [up_out hj.2.2.1, up_out hj.2.1, up_out hj.1]
/-- seasons -/
theorem us16 (x : Int32) : ∃ u, u < 65536 ∧ us x 16 = nI u := by
  have h := pk_ushr x 16 16 (by decide)
  obtain ⟨y, hy⟩ : ∃ y, y = us x 16 := ⟨_, rfl⟩
  have h : y.toBitVec.toNat = x.toBitVec.toNat / 2 ^ 16 := by rw [hy]; exact h
  have hx : x.toBitVec.toNat < 2 ^ 32 := x.toBitVec.isLt
  refine ⟨x.toBitVec.toNat / 2 ^ 16, by omega, ?_⟩
  rw [← hy, ← h]
  apply Int32.toBitVec_inj.mp
  apply BitVec.eq_of_toNat_eq
  exact (Nat.mod_eq_of_lt y.toBitVec.isLt).symm
theorem loV_nat (x : Int32) : ∃ f, f < 10 ∧ loV x = nI f := by
  obtain ⟨u, hu, e⟩ := us16 x
  unfold loV
  rw [e]
  exact ⟨u % 10, Nat.mod_lt _ (by decide), pk_rem (d := 10) (by omega) (by decide) (by decide)⟩
theorem seS_step (N : Nat) (x : Int32 × (Nat → Int32)) (m : Nat) : seS N x (m + 1) = (loN (seS N x m).1, upd (seS N x m).2 m (if m < N then loV (loN (seS N x m).1) else 0)) := by
  unfold seS; rw [lp_end, Nat.zero_add]
theorem seF_nat (x : Int32) (N : Nat) : feR (seF x N z0) := by
  have h : ∀ m, m ≤ 16 → ∀ s, s < m → ∃ f, f < 10 ∧ (seS N (x, z0) m).2 s = nI f := by
    intro m
    induction m with
    | zero => intro _ s hs; omega
    | succ m ih =>
      intro hm s hs
      rw [seS_step]
      show ∃ f, f < 10 ∧ upd (seS N (x, z0) m).2 m (if m < N then loV (loN (seS N (x, z0) m).1) else 0) s = nI f
      by_cases hx : s = m
      · subst hx
        rw [pk_us]
        split
        · exact loV_nat _
        · exact ⟨0, by decide, rfl⟩
      · rw [pk_un hx]; exact ih (by omega) s (by omega)
  exact fun s hs => h 16 (by omega) s hs
theorem m_lot : Rn E 0 mX8_lot (0, [(0, .ref 53), (1, .int 10)], [], wY ax vx tx a v t) (some (.int (loV (loN (v 35)))), wY ax vx tx a (upd v 35 (loN (v 35))) t) := by
  iterate 8 refine Rn.step rfl ?_
  refine Rn.hp (h2 := wY ax vx tx a (upd v 35 (loN (v 35))) t) rfl ?_
  iterate 5 refine Rn.step rfl ?_
  refine Rn.step rfl ?_
  exact Rn.ret rfl
theorem m_seasonsOf {x : Int32} {N : Nat} (hN : N < 17) (w : Int32) (hC : MC c a v n k q mn sm tt) (h33 : v 33 = 0) (hT : RT c vc a ya yb yc) (hO : RO c n tt ya yb yc) : ∃ (a' : Nat → Nat → Int32) (y : Int32), Rn E 7 mX8_seasonsOf (0, [(0, .ref 53), (1, .int x), (2, .int (nI N)), (3, .int w)], [], wY ax vx tx a v t) (some (.int (if w = 0 then bcF (obF (seD c n k mn x N).1 n) else maF (seD c n k mn x N).2.1 n 1)), wY ax vx tx a' (upd v 35 y) t) ∧ (∀ j, j ∉ rowsM → a' j = a j) ∧ MC c a' (upd v 35 y) n k q mn sm tt := by
  obtain ⟨-, ⟨hk, -⟩, -⟩ := id hC
  have hstep : ∀ (i : Nat) (s : (Nat → Int32) × Int32), i < 16 → ((i ≤ N → s.2 = (seS N (x, z0) i).1) ∧ ∀ j, j < i → s.1 j = (seS N (x, z0) i).2 j) → ∃ s' : (Nat → Int32) × Int32, ((i + 1 ≤ N → s'.2 = (seS N (x, z0) (i + 1)).1) ∧ ∀ j, j < i + 1 → s'.1 j = (seS N (x, z0) (i + 1)).2 j) ∧ ∀ o, Rn E 7 mX8_seasonsOf (8, [(4, .int (nI (i + 1))), (0, .ref 53), (1, .int x), (2, .int (nI N)), (3, .int w)], [], wY ax vx tx (va_up a 61 s'.1) (upd v 35 s'.2) t) o → Rn E 7 mX8_seasonsOf (8, [(4, .int (nI i)), (0, .ref 53), (1, .int x), (2, .int (nI N)), (3, .int w)], [], wY ax vx tx (va_up a 61 s.1) (upd v 35 s.2) t) o := by
    rintro i ⟨g, y⟩ hi ⟨h1, h2⟩
    dsimp only at h1 h2
    by_cases hiN : i < N
    · have hy := h1 (by omega)
      refine ⟨(upd g i (loV (loN y)), loN y), ⟨fun _ => by rw [seS_step, hy], fun j hj => ?_⟩, fun o kk => ?_⟩
      · rw [seS_step]
        show upd g i (loV (loN y)) j = upd (seS N (x, z0) i).2 i (if i < N then loV (loN (seS N (x, z0) i).1) else 0) j
        rw [if_pos hiN, ← hy]
        by_cases hx : j = i
        · subst hx; rw [pk_us, pk_us]
        · rw [pk_un hx, pk_un hx]; exact h2 j (by omega)
      · dsimp only at kk ⊢
        rw [nI_succ] at kk
        iterate 2 refine Rn.step rfl ?_
        refine Rn.br2 rfl (nle hi (by decide)) ?_
        iterate 5 refine Rn.step rfl ?_
        refine Rn.br2 rfl (nle hiN (by omega)) ?_
        iterate 2 refine Rn.step rfl ?_
        refine Rn.calli rfl rfl rfl (by decide) m_lot (fun z f => ?_)
        have f : z = loV (loN y) := f
        refine Rn.hp (h2 := wY ax vx tx (va_up a 61 g) (upd v 35 (loN y)) t) (by rw [← upd_upd v 35 y (loN y)]; rfl) ?_
        rw [f]
        iterate 1 refine Rn.step rfl ?_
        refine Rn.ast i rfl rfl (by omega) (by decide) (h3 := wY ax vx tx (va_up a 61 (upd g i (loV (loN y)))) (upd v 35 (loN y)) t) (by rw [← va_two a 61 g (upd g i (loV (loN y)))]; rfl) ?_
        iterate 2 refine Rn.step rfl ?_
        exact kk
    · refine ⟨(upd g i 0, y), ⟨fun h => by omega, fun j hj => ?_⟩, fun o kk => ?_⟩
      · rw [seS_step]
        show upd g i 0 j = upd (seS N (x, z0) i).2 i (if i < N then loV (loN (seS N (x, z0) i).1) else 0) j
        rw [if_neg hiN]
        by_cases hx : j = i
        · subst hx; rw [pk_us, pk_us]
        · rw [pk_un hx, pk_un hx]; exact h2 j (by omega)
      · dsimp only at kk ⊢
        rw [nI_succ] at kk
        iterate 2 refine Rn.step rfl ?_
        refine Rn.br2 rfl (nle hi (by decide)) ?_
        iterate 5 refine Rn.step rfl ?_
        refine Rn.br1 rfl (nI_le (by omega) (by omega)) ?_
        iterate 1 refine Rn.step rfl ?_
        refine Rn.ast i rfl rfl (by omega) (by decide) (h3 := wY ax vx tx (va_up a 61 (upd g i 0)) (upd v 35 y) t) (by rw [← va_two a 61 g (upd g i 0)]; rfl) ?_
        iterate 2 refine Rn.step rfl ?_
        exact kk
  obtain ⟨⟨g, y⟩, ⟨-, hg⟩, hgo⟩ := Rn.lpx (E := E) (hh := 7) (M := mX8_seasonsOf) (σ := (Nat → Int32) × Int32) (cfg := fun i s => (8, [(4, .int (nI i)), (0, .ref 53), (1, .int x), (2, .int (nI N)), (3, .int w)], [], wY ax vx tx (va_up a 61 s.1) (upd v 35 s.2) t)) (n := 16) (fun i s => (i ≤ N → s.2 = (seS N (x, z0) i).1) ∧ ∀ j, j < i → s.1 j = (seS N (x, z0) i).2 j) hstep 16 0 (a 61, x) rfl ⟨fun _ => rfl, fun j h => absurd h (Nat.not_lt_zero _)⟩
  dsimp only at hg hgo
  have hg : ∀ s, s < 16 → g s = seF x N z0 s := hg
  have hC0 : MC c a (upd v 35 y) n k q mn sm tt := hC.moved (fun _ _ => rfl) (fun j hj => pk_un (by simp only [List.mem_cons, List.not_mem_nil, or_false] at hj; omega))
  have hC1 := hC0.g61 hg (seF_nat x N)
  obtain ⟨a2, hr, hf2, hC2, hL2⟩ := m_livesM (E := E) (ax := ax) (vx := vx) (tx := tx) (t := t) hC1 (kp := evB k) (fun e he => by rw [pk_un (by decide), h33]; exact ev_all k (by omega) e he)
  obtain ⟨DD, hDD⟩ : ∃ DD, DD = seD c n k mn x N := ⟨_, rfl⟩
  have hL3 : LW a2 n ((va_up c 5 (seF x N z0)) 8) (cwl (c 10) (c 12) mn k (seF x N z0) (evB k)) DD := by rw [hDD]; exact hL2
  have hmo := m_manyOut (E := E) (ax := ax) (vx := vx) (tx := tx) (t := t) hC2 hL3
  have hla := m_allLain (E := E) (ax := ax) (vx := vx) (tx := tx) (t := t) hC2 hL3
  have hT2 : RT c vc a2 ya yb yc := by
    unfold RT at hT ⊢
    rw [hf2 58 (by decide), hf2 59 (by decide)]; exact hT
  obtain ⟨g1, hr1, hg1⟩ := m_rd1 (E := E) (ax := ax) (vx := vx) (tx := tx) (v := upd v 35 y) (t := t) hT2 hO
  have hC3 := hC2.g61 hg1 (hO.fe hT.2.1.1)
  have e5 : va_up (va_up c 5 (seF x N z0)) 5 (c 5) = c := by rw [va_two, va_id]
  rw [e5] at hC3
  rw [← hDD]
  refine ⟨va_up a2 61 g1, y, ?_, fun j hj => ?_, hC3⟩
  · iterate 5 refine Rn.step rfl ?_
    refine Rn.hp (h2 := wY ax vx tx (va_up a 61 (a 61)) (upd v 35 x) t) (by rw [va_id]; rfl) ?_
    refine hgo _ ?_
    iterate 2 refine Rn.step rfl ?_
    refine Rn.step rfl ?_
    iterate 1 refine Rn.step rfl ?_
    refine Rn.callv rfl rfl rfl (by decide) hr ?_
    iterate 1 refine Rn.step rfl ?_
    refine Rn.br rfl (fun h1 => ?_) (fun h1 => ?_)
    · rw [if_neg h1]
      iterate 1 refine Rn.step rfl ?_
      refine Rn.calli rfl rfl rfl (by decide) hla (fun z f => ?_)
      rw [f]
      iterate 2 refine Rn.step rfl ?_
      refine Rn.calli rfl rfl rfl (by decide) hr1 (fun z f => ?_)
      iterate 2 refine Rn.step rfl ?_
      exact Rn.ret rfl
    · rw [if_pos (Decidable.not_not.mp h1)]
      iterate 1 refine Rn.step rfl ?_
      refine Rn.calli rfl rfl rfl (by decide) hmo (fun z f => ?_)
      rw [f]
      iterate 3 refine Rn.step rfl ?_
      refine Rn.calli rfl rfl rfl (by decide) hr1 (fun z f => ?_)
      iterate 2 refine Rn.step rfl ?_
      exact Rn.ret rfl
  · have hj2 := hj
    simp only [List.mem_cons, List.not_mem_nil, or_false, not_or] at hj2
    rw [up_out hj2.2.1, hf2 j (by intro q; apply hj; simp only [List.mem_cons, List.not_mem_nil, or_false] at q ⊢; omega), up_out hj2.2.1]
end RELX
