section MA
variable {E : iExtT} {ax : Nat → Nat → Int32} {vx : Nat → Int32} {tx : Nat → Nat → Int64} {c a : Nat → Nat → Int32} {v : Nat → Int32} {t : Nat → Nat → Int64} {n k q : Nat} {mn sm tt : Nat → Nat} {W : Nat → Int32} {D : dS}
/-- the model has lived by W and D, and what is so of these -/
def LW (a : Nat → Nat → Int32) (n : Nat) (ta W : Nat → Int32) (D : dS) : Prop := LV a n W D ∧ DE n ta D ∧ ∀ j, j < 384 → ∃ u, u ≤ 20 ∧ W j = nI u
/-- the model's rows beside those of a class c -/
def MC (c a : Nat → Nat → Int32) (v : Nat → Int32) (n k q : Nat) (mn sm tt : Nat → Nat) : Prop :=
  (n ≤ 8 ∧ v 31 = nI n) ∧ (k ≤ 8 ∧ v 32 = nI k) ∧ (q ≤ 8 ∧ v 34 = nI q) ∧
  (∀ e, e < k → (a 63 (3 * e) = c 10 e ∧ a 63 (3 * e + 1) = nI (mn e) ∧ a 63 (3 * e + 2) = c 12 e) ∧ mn e < 24) ∧
  (∀ i, i < q → (a 73 (3 * i) = nI (sm i) ∧ sm i < 24) ∧ (∃ s, s < 16 ∧ c 15 i = nI s) ∧ a 73 (3 * i + 1) = c 15 i ∧ c 16 i = si8 (a 73 (3 * i + 2))) ∧
  loR n tt a (c 4) (c 5) (c 6) (c 7) (c 8)
theorem MC.moved {a' : Nat → Nat → Int32} {v' : Nat → Int32} (h : MC c a v n k q mn sm tt) (ha : ∀ j ∈ [60, 61, 62, 63, 73], a' j = a j) (hv : ∀ j ∈ [31, 32, 34], v' j = v j) : MC c a' v' n k q mn sm tt := by
  unfold MC loR at h ⊢
  rw [ha 60 (by decide), ha 61 (by decide), ha 62 (by decide), ha 63 (by decide), ha 73 (by decide), hv 31 (by decide), hv 32 (by decide), hv 34 (by decide)]
  exact h
abbrev rowsL : List Nat := [64, 65, 66, 67, 68, 69, 70, 71, 72]
theorem m_livesM (hC : MC c a v n k q mn sm tt) {kp : Int32} (hg : ∀ e, e < k → (bt kp e ↔ ¬ bt (v 33) e)) : ∃ a', Rn E 6 mX8_lives (0, [(0, .ref 53)], [], wY ax vx tx a v t) (none, wY ax vx tx a' v t) ∧ (∀ j, j ∉ rowsL → a' j = a j) ∧ MC c a' v n k q mn sm tt ∧ LW a' n (c 8) (cwl (c 10) (c 12) mn k (c 5) kp) (crn (c 10) (c 12) mn k n (c 4) (c 7) (c 8) (c 6) (cwl (c 10) (c 12) mn k (c 5) kp) kp) := by
  obtain ⟨⟨hn, hv⟩, ⟨hk, hv2⟩, -, hev, -, hR⟩ := id hC
  obtain ⟨a', h1, h2, h3⟩ := m_livesR (E := E) (ax := ax) (vx := vx) (tx := tx) (t := t) hn hv hk hv2 hR (kp := kp) (kda := c 10) (nu := c 12) (mn := mn) (fun e he => ⟨(hev e he).1, (hev e he).2, hg e he⟩)
  refine ⟨a', h1, h2, hC.moved (fun j hj => h2 j (by intro q; simp only [List.mem_cons, List.not_mem_nil, or_false] at hj q; omega)) (fun _ _ => rfl), h3, crn_DE hn (fun l hl => (hR.2.2.1 l hl).2.2.2) hR.2.2.2.1, fun j hj => wl_rng hR.2.2.2.2 j hj⟩
theorem or_nat : ∀ c, c < 8 → ∀ w, w < 2 ^ c → nI w ||| sh1 (nI c) = nI (w + 2 ^ c) ∧ bcF (nI (w + 2 ^ c)) = bcF (nI w) + 1 := by decide +kernel
theorem cnt_bits {P : Nat → Prop} [DecidablePred P] : ∀ n, n ≤ 8 → ∃ w, w < 2 ^ n ∧ lp (fun l (x : Int32) => if P l then x ||| sh1 (nI l) else x) 0 n 0 = nI w ∧ bcF (nI w) = lp (fun l (x : Int32) => if P l then x + 1 else x) 0 n 0 := by
  intro n
  induction n with
  | zero => intro _; exact ⟨0, by decide, rfl, by show bcF 0 = 0; decide +kernel⟩
  | succ n ih =>
    intro hn
    obtain ⟨w, h1, h2, h3⟩ := ih (by omega)
    rw [lp_end, lp_end, Nat.zero_add, h2, ← h3]
    by_cases h : P n
    · rw [if_pos h, if_pos h]
      obtain ⟨e1, e2⟩ := or_nat n (by omega) w h1
      exact ⟨w + 2 ^ n, by rw [Nat.pow_succ]; omega, e1, e2⟩
    · rw [if_neg h, if_neg h]
      exact ⟨w, by rw [Nat.pow_succ]; omega, rfl, rfl⟩
theorem m_manyOut (hC : MC c a v n k q mn sm tt) (hL : LW a n (c 8) W D) : Rn E 0 mX8_manyOut (0, [(0, .ref 53)], [], wY ax vx tx a v t) (some (.int (bcF (obF D.1 n))), wY ax vx tx a v t) := by
  obtain ⟨⟨hn, hv⟩, -⟩ := id hC
  have hE : lp (fun l (x : Int32) => if ¬ a 67 l = -1 then x + 1 else x) 0 n 0 = bcF (obF D.1 n) := by
    obtain ⟨w, -, h1, h2⟩ := cnt_bits (P := fun l => D.1 (184 + l) = 16) n hn
    show _ = bcF (lp (fun l (x : Int32) => if D.1 (184 + l) = 16 then x ||| sh1 (nI l) else x) 0 n 0)
    rw [h1, h2]
    refine lp_congr (fun l x _ hl => ?_)
    have e : (¬ a 67 l = -1) ↔ D.1 (184 + l) = 16 := by rw [(hL.1.2.2 l (by omega)).1]; exact (hL.2.1.2 l (by omega)).symm
    by_cases h : D.1 (184 + l) = 16
    · rw [if_pos (e.mpr h), if_pos h]
    · rw [if_neg (fun q => h (e.mp q)), if_neg h]
  rw [← hE]
  clear hE
  iterate 4 refine Rn.step rfl ?_
  refine Rn.lp (σ := Int32) (cfg := fun l x => (4, [(2, .int (nI l)), (1, .int x), (0, .ref 53)], [], wY ax vx tx a v t)) (f := fun l x => if ¬ a 67 l = -1 then x + 1 else x) (n := n) (fun _ _ => True) (fun l x hl _ => ⟨trivial, fun kk => ?_⟩) n 0 0 (by omega) trivial (fun x0 hx0 _ => ?_)
  · rw [nI_succ] at kk
    iterate 3 refine Rn.step rfl ?_
    refine Rn.br2 rfl (by rw [hv]; exact nle hl (by omega)) ?_
    iterate 4 refine Rn.step rfl ?_
    refine Rn.ald l rfl rfl (by omega) (by decide) ?_
    iterate 1 refine Rn.step rfl ?_
    by_cases h1 : a 67 l = -1
    · refine Rn.br1 rfl h1 ?_
      rw [if_neg (fun q => q h1)] at kk
      iterate 2 refine Rn.step rfl ?_
      refine Rn.top (x' := x) (by show x + 0 = x; simp) ?_
      iterate 3 refine Rn.step rfl ?_
      exact kk
    · refine Rn.br2 rfl h1 ?_
      rw [if_pos h1] at kk
      iterate 6 refine Rn.step rfl ?_
      exact kk
  · iterate 3 refine Rn.step rfl ?_
    refine Rn.br1 rfl (by rw [hv]; exact nI_le (by omega) (by omega)) ?_
    iterate 1 refine Rn.step rfl ?_
    rw [← hx0]
    exact Rn.ret rfl
theorem m_allLain (hC : MC c a v n k q mn sm tt) (hL : LW a n (c 8) W D) : Rn E 0 mX8_allLain (0, [(0, .ref 53)], [], wY ax vx tx a v t) (some (.int (maF D.2.1 n 1)), wY ax vx tx a v t) := by
  obtain ⟨⟨hn, hv⟩, -⟩ := id hC
  have hE : lp (fun l (x : Int32) => x + a 68 l) 0 n 0 = maF D.2.1 n 1 := lp_congr (fun l x _ hl => by rw [(hL.1.2.2 l (by omega)).2.1])
  rw [← hE]
  clear hE
  iterate 4 refine Rn.step rfl ?_
  refine Rn.lp (σ := Int32) (cfg := fun l x => (4, [(2, .int (nI l)), (1, .int x), (0, .ref 53)], [], wY ax vx tx a v t)) (f := fun l x => x + a 68 l) (n := n) (fun _ _ => True) (fun l x hl _ => ⟨trivial, fun kk => ?_⟩) n 0 0 (by omega) trivial (fun x0 hx0 _ => ?_)
  · rw [nI_succ] at kk
    iterate 3 refine Rn.step rfl ?_
    refine Rn.br2 rfl (by rw [hv]; exact nle hl (by omega)) ?_
    iterate 4 refine Rn.step rfl ?_
    refine Rn.ald l rfl rfl (by omega) (by decide) ?_
    iterate 4 refine Rn.step rfl ?_
    exact kk
  · iterate 3 refine Rn.step rfl ?_
    refine Rn.br1 rfl (by rw [hv]; exact nI_le (by omega) (by omega)) ?_
    iterate 1 refine Rn.step rfl ?_
    rw [← hx0]
    exact Rn.ret rfl
theorem m_allHalts (hC : MC c a v n k q mn sm tt) (hL : LW a n (c 8) W D) : Rn E 0 mX8_allHalts (0, [(0, .ref 53)], [], wY ax vx tx a v t) (some (.int (maF D.2.1 n 2)), wY ax vx tx a v t) := by
  obtain ⟨⟨hn, hv⟩, -⟩ := id hC
  have hE : lp (fun l (x : Int32) => x + a 69 l) 0 n 0 = maF D.2.1 n 2 := lp_congr (fun l x _ hl => by rw [(hL.1.2.2 l (by omega)).2.2])
  rw [← hE]
  clear hE
  iterate 4 refine Rn.step rfl ?_
  refine Rn.lp (σ := Int32) (cfg := fun l x => (4, [(2, .int (nI l)), (1, .int x), (0, .ref 53)], [], wY ax vx tx a v t)) (f := fun l x => x + a 69 l) (n := n) (fun _ _ => True) (fun l x hl _ => ⟨trivial, fun kk => ?_⟩) n 0 0 (by omega) trivial (fun x0 hx0 _ => ?_)
  · rw [nI_succ] at kk
    iterate 3 refine Rn.step rfl ?_
    refine Rn.br2 rfl (by rw [hv]; exact nle hl (by omega)) ?_
    iterate 4 refine Rn.step rfl ?_
    refine Rn.ald l rfl rfl (by omega) (by decide) ?_
    iterate 4 refine Rn.step rfl ?_
    exact kk
  · iterate 3 refine Rn.step rfl ?_
    refine Rn.br1 rfl (by rw [hv]; exact nI_le (by omega) (by omega)) ?_
    iterate 1 refine Rn.step rfl ?_
    rw [← hx0]
    exact Rn.ret rfl
theorem ls_li (hC : MC c a v n k q mn sm tt) (hL : LW a n (c 8) W D) {m s j : Nat} (hm : m < 24) (hs : s < 16) (hj : j < n) : lsP (a 71 (8 * m + j)) (a 62 (3 * j + 2) = 1) (nI s) ↔ liP D.1 (c 8) m (nI s) j := by
  obtain ⟨-, -, -, -, -, -, -, h62, htt, -⟩ := id hC
  obtain ⟨-, -, e1, e2⟩ := h62 j hj
  have hu := htt j hj
  rw [(hL.1.2.1 m j hm hj).1, e1]
  rcases hL.2.1.1.1 m j hm hj with h | ⟨h, hh, e⟩
  · rw [h]
    exact ⟨fun q => absurd q.1.1 (by decide), fun q => absurd q (li_m1 hs h)⟩
  · rw [li_nat e e2 hh hu hs, e, ls_nat hh (by omega)]
    have e3 : nI (tt j) = 1 ↔ tt j = 1 := nI_eq (b := 1) (by omega) (by decide)
    rw [e3]
    omega
theorem m_whoBy (hC : MC c a v n k q mn sm tt) (hL : LW a n (c 8) W D) {m s : Nat} (hm : m < 24) (hs : s < 16) : Rn E 2 mX8_whoBy (0, [(0, .ref 53), (1, .int (nI m)), (2, .int (nI s))], [], wY ax vx tx a v t) (some (.int (liF D.1 (c 8) m (nI s) 0 n)), wY ax vx tx a v t) := by
  obtain ⟨⟨hn, hv⟩, -⟩ := id hC
  have hE : lp (fun j (w : Int32) => if lsP (a 71 (8 * m + j)) (a 62 (3 * j + 2) = 1) (nI s) then nI j else w) 0 n (-1) = liF D.1 (c 8) m (nI s) 0 n := by
    rw [← who_eq (P := fun j => liP D.1 (c 8) m (nI s) j) (f := fun i j => liF D.1 (c 8) m (nI s) i j) (fun _ => rfl) (fun _ _ => rfl) n (by omega) (fun l l' hl hl' h1 h2 => hL.2.1.1.2 m s hm hs l l' hl hl' h1 h2)]
    refine lp_congr (fun j w _ hj => ?_)
    have e := ls_li hC hL hm hs (j := j) (by omega)
    by_cases h : liP D.1 (c 8) m (nI s) j
    · rw [if_pos h, if_pos (e.mpr h)]
    · rw [if_neg h, if_neg (fun q => h (e.mp q))]
  rw [← hE]
  clear hE
  iterate 4 refine Rn.step rfl ?_
  refine Rn.lp (σ := Int32) (cfg := fun j w => (5, [(4, .int (nI j)), (3, .int w), (0, .ref 53), (1, .int (nI m)), (2, .int (nI s))], [], wY ax vx tx a v t)) (f := fun j w => if lsP (a 71 (8 * m + j)) (a 62 (3 * j + 2) = 1) (nI s) then nI j else w) (n := n) (fun _ _ => True) (fun j w hj _ => ⟨trivial, fun kk => ?_⟩) n 0 (-1) (by omega) trivial (fun w0 hw0 _ => ?_)
  · rw [nI_succ] at kk
    revert kk
    generalize ((some (Value.int (lp (fun j (w : Int32) => if lsP (a 71 (8 * m + j)) (a 62 (3 * j + 2) = 1) (nI s) then nI j else w) 0 n (-1))), wY ax vx tx a v t) : iRes) = o
    intro kk
    iterate 3 refine Rn.step rfl ?_
    refine Rn.br2 rfl (by rw [hv]; exact nle hj (by omega)) ?_
    iterate 7 refine Rn.step rfl ?_
    refine Rn.ald (8 * m + j) rfl (ix_am 8 m j) (by omega) (by decide) ?_
    iterate 7 refine Rn.step rfl ?_
    refine Rn.ald (3 * j + 2) rfl (ix_am 3 j 2) (by omega) (by decide) ?_
    iterate 1 refine Rn.step rfl ?_
    have hx : ∀ x : Int32, (¬ x = 0 ↔ a 62 (3 * j + 2) = 1) → Rn E 2 mX8_whoBy (46, [(4, .int (nI j)), (3, .int w), (0, .ref 53), (1, .int (nI m)), (2, .int (nI s))], [.int x, .int (a 71 (8 * m + j))], wY ax vx tx a v t) o := by
      intro x hx
      iterate 1 refine Rn.step rfl ?_
      refine Rn.calli rfl rfl rfl (by decide) (m_lies (a 71 (8 * m + j)) x (nI s) _) (fun z f => ?_)
      have e : lsP (a 71 (8 * m + j)) (¬ x = 0) (nI s) ↔ lsP (a 71 (8 * m + j)) (a 62 (3 * j + 2) = 1) (nI s) := by unfold lsP; rw [hx]
      refine Rn.br rfl (fun h1 => ?_) (fun h1 => ?_)
      · rw [f, ib_eq0] at h1
        rw [if_neg (fun q => h1 (e.mpr q))] at kk
        iterate 4 refine Rn.step rfl ?_
        exact Rn.sub (by exact ⟨rfl, rfl, rfl, rfl, rfl, trivial⟩) kk
      · rw [f, ib_ne0] at h1
        rw [if_pos (e.mp h1)] at kk
        iterate 5 refine Rn.step rfl ?_
        exact Rn.sub (by exact ⟨rfl, rfl, rfl, rfl, rfl, trivial⟩) kk
    refine Rn.br rfl (fun h1 => ?_) (fun h1 => ?_)
    · iterate 1 refine Rn.step rfl ?_
      exact hx 0 ⟨fun q => absurd rfl q, fun q => absurd q h1⟩
    · iterate 2 refine Rn.step rfl ?_
      exact hx 1 ⟨fun _ => Decidable.not_not.mp h1, fun _ => by decide⟩
  · iterate 3 refine Rn.step rfl ?_
    refine Rn.br1 rfl (by rw [hv]; exact nI_le (by omega) (by omega)) ?_
    iterate 1 refine Rn.step rfl ?_
    rw [← hw0]
    exact Rn.ret rfl
theorem m_flumeBy0 (hC : MC c a v n k q mn sm tt) (hL : LW a n (c 8) W D) {m s : Nat} (hm : m < 24) (hs : s < 16) : Rn E 3 mX8_flumeBy (0, [(0, .ref 53), (1, .int (nI m)), (2, .int (nI s)), (3, .int 0)], [], wY ax vx tx a v t) (some (.int (W (m * 16 + s))), wY ax vx tx a v t) := by
  rw [← hL.1.1 (m * 16 + s) (by omega), show m * 16 + s = 16 * m + s by omega]
  iterate 1 refine Rn.step rfl ?_
  refine Rn.step rfl ?_
  iterate 7 refine Rn.step rfl ?_
  refine Rn.ald (16 * m + s) rfl (ix_am 16 m s) (by omega) (by decide) ?_
  iterate 1 refine Rn.step rfl ?_
  exact Rn.ret rfl
theorem m_flumeBy1 (hC : MC c a v n k q mn sm tt) (hL : LW a n (c 8) W D) {m s : Nat} (hm : m < 24) (hs : s < 16) : Rn E 3 mX8_flumeBy (0, [(0, .ref 53), (1, .int (nI m)), (2, .int (nI s)), (3, .int 1)], [], wY ax vx tx a v t) (some (.int (liF D.1 (c 8) m (nI s) 0 n)), wY ax vx tx a v t) := by
  iterate 1 refine Rn.step rfl ?_
  refine Rn.step rfl ?_
  iterate 3 refine Rn.step rfl ?_
  refine Rn.calli rfl rfl rfl (by decide) (m_whoBy hC hL hm hs) (fun z f => ?_)
  rw [← f]
  exact Rn.ret rfl
theorem m_atBy0 (hC : MC c a v n k q mn sm tt) (hL : LW a n (c 8) W D) {m l : Nat} (hm : m < 24) (hl : l < n) : Rn E 0 mX8_atBy (0, [(0, .ref 53), (1, .int (nI m)), (2, .int (nI l)), (3, .int 0)], [], wY ax vx tx a v t) (some (.int (D.1 (m * 8 + l))), wY ax vx tx a v t) := by
  obtain ⟨⟨hn, hv⟩, -⟩ := id hC
  rw [← (hL.1.2.1 m l hm hl).1]
  iterate 1 refine Rn.step rfl ?_
  refine Rn.step rfl ?_
  iterate 7 refine Rn.step rfl ?_
  refine Rn.ald (8 * m + l) rfl (ix_am 8 m l) (by omega) (by decide) ?_
  iterate 1 refine Rn.step rfl ?_
  exact Rn.ret rfl
theorem m_atBy1 (hC : MC c a v n k q mn sm tt) (hL : LW a n (c 8) W D) {m l : Nat} (hm : m < 24) (hl : l < n) : Rn E 0 mX8_atBy (0, [(0, .ref 53), (1, .int (nI m)), (2, .int (nI l)), (3, .int 1)], [], wY ax vx tx a v t) (some (.int (D.2.1 (m * 8 + l))), wY ax vx tx a v t) := by
  obtain ⟨⟨hn, hv⟩, -⟩ := id hC
  rw [← (hL.1.2.1 m l hm hl).2]
  iterate 1 refine Rn.step rfl ?_
  refine Rn.step rfl ?_
  iterate 7 refine Rn.step rfl ?_
  refine Rn.ald (8 * m + l) rfl (ix_am 8 m l) (by omega) (by decide) ?_
  exact Rn.ret rfl
theorem m_outBy0 (hC : MC c a v n k q mn sm tt) (hL : LW a n (c 8) W D) {l : Nat} (hl : l < n) : Rn E 0 mX8_outBy (0, [(0, .ref 53), (1, .int (nI l)), (2, .int 0)], [], wY ax vx tx a v t) (some (.int (moF D.1 l 0 24)), wY ax vx tx a v t) := by
  obtain ⟨⟨hn, hv⟩, -⟩ := id hC
  rw [← (hL.1.2.2 l hl).1]
  iterate 1 refine Rn.step rfl ?_
  refine Rn.step rfl ?_
  iterate 3 refine Rn.step rfl ?_
  refine Rn.ald l rfl rfl (by omega) (by decide) ?_
  iterate 1 refine Rn.step rfl ?_
  exact Rn.ret rfl
theorem m_outBy1 (hC : MC c a v n k q mn sm tt) (hL : LW a n (c 8) W D) {l : Nat} (hl : l < n) : Rn E 0 mX8_outBy (0, [(0, .ref 53), (1, .int (nI l)), (2, .int 1)], [], wY ax vx tx a v t) (some (.int (miF D.2.1 l 1)), wY ax vx tx a v t) := by
  obtain ⟨⟨hn, hv⟩, -⟩ := id hC
  rw [← (hL.1.2.2 l hl).2.1]
  iterate 1 refine Rn.step rfl ?_
  refine Rn.step rfl ?_
  iterate 2 refine Rn.step rfl ?_
  refine Rn.step rfl ?_
  iterate 3 refine Rn.step rfl ?_
  refine Rn.ald l rfl rfl (by omega) (by decide) ?_
  iterate 1 refine Rn.step rfl ?_
  exact Rn.ret rfl
theorem m_outBy2 (hC : MC c a v n k q mn sm tt) (hL : LW a n (c 8) W D) {l : Nat} (hl : l < n) : Rn E 0 mX8_outBy (0, [(0, .ref 53), (1, .int (nI l)), (2, .int 2)], [], wY ax vx tx a v t) (some (.int (miF D.2.1 l 2)), wY ax vx tx a v t) := by
  obtain ⟨⟨hn, hv⟩, -⟩ := id hC
  rw [← (hL.1.2.2 l hl).2.2]
  iterate 1 refine Rn.step rfl ?_
  refine Rn.step rfl ?_
  iterate 2 refine Rn.step rfl ?_
  refine Rn.step rfl ?_
  iterate 3 refine Rn.step rfl ?_
  refine Rn.ald l rfl rfl (by omega) (by decide) ?_
  exact Rn.ret rfl
theorem m_allBy0 (hC : MC c a v n k q mn sm tt) (hL : LW a n (c 8) W D) {m : Nat} (hm : m < 24) : Rn E 1 mX8_allBy (0, [(0, .ref 53), (1, .int (nI m)), (2, .int 0)], [], wY ax vx tx a v t) (some (.int (tog W m)), wY ax vx tx a v t) := by
  have hE : lp (fun i (x : Int32) => x + a 70 (16 * m + i)) 0 16 0 = tog W m := lp_congr (fun i x _ hi => by rw [hL.1.1 _ (by omega), show 16 * m + i = m * 16 + i by omega])
  rw [← hE]
  clear hE
  iterate 4 refine Rn.step rfl ?_
  refine Rn.lp (σ := Int32) (cfg := fun i x => (5, [(4, .int (nI i)), (3, .int x), (0, .ref 53), (1, .int (nI m)), (2, .int 0)], [], wY ax vx tx a v t)) (f := fun i x => x + a 70 (16 * m + i)) (n := 16) (fun _ _ => True) (fun i x hi _ => ⟨trivial, fun kk => ?_⟩) 16 0 0 rfl trivial (fun x0 hx0 _ => ?_)
  · rw [nI_succ] at kk
    iterate 2 refine Rn.step rfl ?_
    refine Rn.br2 rfl (nle hi (by decide)) ?_
    iterate 1 refine Rn.step rfl ?_
    refine Rn.step rfl ?_
    iterate 8 refine Rn.step rfl ?_
    refine Rn.ald (16 * m + i) rfl (ix_am 16 m i) (by omega) (by decide) ?_
    iterate 4 refine Rn.step rfl ?_
    exact kk
  · rw [← hx0]
    iterate 2 refine Rn.step rfl ?_
    refine Rn.step rfl ?_
    iterate 5 refine Rn.step rfl ?_
    refine Rn.br rfl (fun _ => ?_) (fun _ => ?_)
    · iterate 1 refine Rn.step rfl ?_
      exact Rn.ret rfl
    · iterate 2 refine Rn.step rfl ?_
      refine Rn.step rfl ?_
      iterate 1 refine Rn.step rfl ?_
      exact Rn.ret rfl
theorem m_allBy1 (hC : MC c a v n k q mn sm tt) (hL : LW a n (c 8) W D) {m : Nat} (hm : m < 24) : Rn E 1 mX8_allBy (0, [(0, .ref 53), (1, .int (nI m)), (2, .int 1)], [], wY ax vx tx a v t) (some (.int (aflF D.1 m n)), wY ax vx tx a v t) := by
  obtain ⟨⟨hn, hv⟩, -⟩ := id hC
  have hE : lp (fun l (x : Int32) => if inB (a 71 (8 * m + l)) 16 then x + 1 else x) 0 n 0 = aflF D.1 m n := lp_congr (fun l x _ hl => by
    rw [(hL.1.2.1 m l hm (by omega)).1]
    rcases hL.2.1.1.1 m l hm (by omega) with h | ⟨h, hh, e⟩
    · rw [if_neg (by rw [h]; decide), if_neg (fun q => q.1 h)]
    · rw [e]
      by_cases q : h = 16
      · subst q; rw [if_neg (by decide), if_neg (by decide)]
      · rw [if_pos (show inB (nI h) 16 from inB_nI (k := h) (n := 16) (by omega) (by decide)), if_pos ⟨nI_ne1 (by omega), fun z => q ((nI_eq (b := 16) (by omega) (by decide)).mp z)⟩])
  rw [← hE]
  clear hE
  iterate 6 refine Rn.step rfl ?_
  refine Rn.step rfl ?_
  iterate 1 refine Rn.step rfl ?_
  refine Rn.step rfl ?_
  iterate 2 refine Rn.step rfl ?_
  refine Rn.lp (σ := Int32) (cfg := fun l x => (40, [(4, .int (nI l)), (3, .int x), (0, .ref 53), (1, .int (nI m)), (2, .int 1)], [], wY ax vx tx a v t)) (f := fun l x => if inB (a 71 (8 * m + l)) 16 then x + 1 else x) (n := n) (fun _ _ => True) (fun l x hl _ => ⟨trivial, fun kk => ?_⟩) n 0 0 (by omega) trivial (fun x0 hx0 _ => ?_)
  · rw [nI_succ] at kk
    iterate 3 refine Rn.step rfl ?_
    refine Rn.br2 rfl (by rw [hv]; exact nle hl (by omega)) ?_
    iterate 2 refine Rn.step rfl ?_
    refine Rn.step rfl ?_
    iterate 8 refine Rn.step rfl ?_
    refine Rn.ald (8 * m + l) rfl (ix_am 8 m l) (by omega) (by decide) ?_
    iterate 3 refine Rn.step rfl ?_
    refine Rn.calli rfl rfl rfl (by decide) (m_inB (a 71 (8 * m + l)) 15 (by decide) _) (fun z f => ?_)
    have f : z = ib (inB (a 71 (8 * m + l)) 16) := f
    refine Rn.br rfl (fun h1 => ?_) (fun h1 => ?_)
    · rw [f, ib_eq0] at h1
      rw [if_neg h1] at kk
      iterate 2 refine Rn.step rfl ?_
      refine Rn.top (x' := x) (by show x + 0 = x; simp) ?_
      iterate 3 refine Rn.step rfl ?_
      exact kk
    · rw [f, ib_ne0] at h1
      rw [if_pos h1] at kk
      iterate 6 refine Rn.step rfl ?_
      exact kk
  · rw [← hx0]
    iterate 3 refine Rn.step rfl ?_
    refine Rn.br1 rfl (by rw [hv]; exact nI_le (by omega) (by omega)) ?_
    iterate 1 refine Rn.step rfl ?_
    exact Rn.ret rfl
theorem jm_in {S : Nat → Int32} {m : Nat} {x : Int32} : ∀ j i w, lp (fun k (w : Int32) => if S (m * 8 + k) = 2 then x else w) i j w = if jmR S m i j = true then x else w := by
  intro j
  induction j with
  | zero => intro i w; rfl
  | succ j ih =>
    intro i w
    have e : lp (fun k (w : Int32) => if S (m * 8 + k) = 2 then x else w) i (j + 1) w = lp (fun k (w : Int32) => if S (m * 8 + k) = 2 then x else w) (i + 1) j (if S (m * 8 + i) = 2 then x else w) := rfl
    have e2 : jmR S m i (j + 1) = (decide (S (m * 8 + i) = 2) || jmR S m (i + 1) j) := rfl
    rw [e, e2, ih]
    by_cases h : S (m * 8 + i) = 2
    · rw [if_pos h, decide_eq_true h, Bool.true_or, if_pos rfl]
      split <;> rfl
    · rw [if_neg h, decide_eq_false h, Bool.false_or]
theorem jm_out {S : Nat → Int32} {n : Nat} : ∀ j, j ≤ 24 → lp (fun j (w : Int32) => lp (fun k (w : Int32) => if S ((23 - j) * 8 + k) = 2 then nI (23 - j) else w) 0 n w) 0 j (-1) = jmF S n (24 - j) j := by
  intro j
  induction j with
  | zero => intro _; rfl
  | succ j ih =>
    intro hj
    rw [lp_end, Nat.zero_add, ih (by omega), jm_in, show 24 - (j + 1) = 23 - j by omega]
    show _ = if jmR S (23 - j) 0 n = true then nI (23 - j) else jmF S n (23 - j + 1) j
    rw [show 23 - j + 1 = 24 - j by omega]
theorem m_jamNow (hC : MC c a v n k q mn sm tt) (hL : LW a n (c 8) W D) : Rn E 0 mX8_jamNow (0, [(0, .ref 53)], [], wY ax vx tx a v t) (some (.int (jmF D.2.1 n 0 24)), wY ax vx tx a v t) := by
  obtain ⟨⟨hn, hv⟩, -⟩ := id hC
  have hE : lp (fun j (w : Int32) => lp (fun k (w : Int32) => if a 72 (8 * (23 - j) + k) = 2 then nI (23 - j) else w) 0 n w) 0 24 (-1) = jmF D.2.1 n 0 24 := by
    rw [← jm_out (S := D.2.1) (n := n) 24 (by omega)]
    refine lp_congr (fun j w _ hj => lp_congr (fun l w _ hl => ?_))
    rw [(hL.1.2.1 (23 - j) l (by omega) (by omega)).2]
  rw [← hE]
  clear hE
  iterate 4 refine Rn.step rfl ?_
  refine Rn.lp (σ := Int32) (cfg := fun j w => (5, [(2, .int (dn 23 j)), (1, .int w), (0, .ref 53)], [], wY ax vx tx a v t)) (f := fun j w => lp (fun k (w : Int32) => if a 72 (8 * (23 - j) + k) = 2 then nI (23 - j) else w) 0 n w) (n := 24) (fun _ _ => True) (fun j w hj _ => ⟨trivial, fun kk => ?_⟩) 24 0 (-1) rfl trivial (fun w0 hw0 _ => ?_)
  · rw [← dn_succ] at kk
    obtain ⟨i, hi⟩ : ∃ i, i = 23 - j := ⟨_, rfl⟩
    rw [dn_le (by omega), ← hi] at kk
    rw [dn_le (by omega), ← hi]
    iterate 1 refine Rn.step rfl ?_
    refine Rn.br2 rfl (fun q => absurd (nI_pos' (n := i) (by omega)) (Int32.not_le.mpr q)) ?_
    iterate 2 refine Rn.step rfl ?_
    refine Rn.lp (σ := Int32) (cfg := fun l w => (11, [(3, .int (nI l)), (2, .int (nI i)), (1, .int w), (0, .ref 53)], [], wY ax vx tx a v t)) (f := fun l w => if a 72 (8 * i + l) = 2 then nI i else w) (n := n) (fun _ _ => True) (fun l w hl _ => ⟨trivial, fun k2 => ?_⟩) n 0 w (by omega) trivial (fun w1 hw1 _ => ?_)
    · rw [nI_succ] at k2
      iterate 3 refine Rn.step rfl ?_
      refine Rn.br2 rfl (by rw [hv]; exact nle hl (by omega)) ?_
      iterate 7 refine Rn.step rfl ?_
      refine Rn.ald (8 * i + l) rfl (ix_am 8 i l) (by omega) (by decide) ?_
      iterate 1 refine Rn.step rfl ?_
      refine Rn.br rfl (fun h1 => ?_) (fun h1 => ?_)
      · rw [if_neg h1] at k2
        iterate 4 refine Rn.step rfl ?_
        exact Rn.sub (by exact ⟨rfl, rfl, rfl, rfl, trivial⟩) k2
      · rw [if_pos (Decidable.not_not.mp h1)] at k2
        iterate 5 refine Rn.step rfl ?_
        exact Rn.sub (by exact ⟨rfl, rfl, rfl, rfl, trivial⟩) k2
    · rw [← hw1] at kk
      iterate 3 refine Rn.step rfl ?_
      refine Rn.br1 rfl (by rw [hv]; exact nI_le (by omega) (by omega)) ?_
      iterate 2 refine Rn.step rfl ?_
      exact Rn.sub (by exact ⟨rfl, rfl, rfl, trivial⟩) kk
  · rw [← hw0]
    rw [dn_end 23]
    iterate 1 refine Rn.step rfl ?_
    refine Rn.step rfl ?_
    iterate 1 refine Rn.step rfl ?_
    exact Rn.ret rfl
end MA
