section MB
variable {E : iExtT} {ax : Nat → Nat → Int32} {vx : Nat → Int32} {tx : Nat → Nat → Int64} {c a : Nat → Nat → Int32} {v : Nat → Int32} {t : Nat → Nat → Int64} {n k q : Nat} {mn sm tt : Nat → Nat} {W : Nat → Int32} {D : dS}
theorem gb_16 : ∀ e, e < 32 → gb 65535 e = decide (e < 16) := by decide +kernel
theorem gb_ev : ∀ n, n < 9 → ∀ e, e < 32 → gb (evB n) e = decide (e < n) := by decide +kernel
theorem dr_bit {le : Nat → Int32} {e : Nat} (he : e < 32) : gb (drF le) e = true ↔ e < 16 ∧ ∀ m, m < 24 → le (m * 16 + e) ≤ 0 := by
  have h := lp_inv (f := fun m (x : Int32) => lp (fun s (x : Int32) => if ¬ le (m * 16 + s) ≤ 0 then x &&& (sh1 (nI s) ^^^ -1) else x) 0 16 x) (fun m x => gb x e = true ↔ e < 16 ∧ ∀ m', m' < m → le (m' * 16 + e) ≤ 0) (i := 0) (j := 24) (s := 65535) (by
    rw [gb_16 e he, decide_eq_true_eq]
    exact ⟨fun q => ⟨q, fun m' h => absurd h (Nat.not_lt_zero _)⟩, fun q => q.1⟩) (fun m x _ _ hI => by
    have h2 := lp_inv (f := fun s (x : Int32) => if ¬ le (m * 16 + s) ≤ 0 then x &&& (sh1 (nI s) ^^^ -1) else x) (fun s y => gb y e = true ↔ gb x e = true ∧ (e < s → le (m * 16 + e) ≤ 0)) (i := 0) (j := 16) (s := x) ⟨fun q => ⟨q, fun h => absurd h (Nat.not_lt_zero _)⟩, fun q => q.1⟩ (fun s y _ hs hJ => by
      by_cases h1 : le (m * 16 + s) ≤ 0
      · rw [if_neg (fun q => q h1), hJ]
        constructor
        · rintro ⟨p1, p2⟩
          refine ⟨p1, fun p3 => ?_⟩
          by_cases p4 : e = s
          · subst p4; exact h1
          · exact p2 (by omega)
        · rintro ⟨p1, p2⟩
          exact ⟨p1, fun p3 => p2 (by omega)⟩
      · rw [if_pos h1, gb_and, gb_not he, gb_sh1 (by omega) he, Bool.and_eq_true, hJ]
        constructor
        · rintro ⟨⟨p1, p2⟩, p3⟩
          refine ⟨p1, fun p4 => ?_⟩
          by_cases p5 : e = s
          · rw [decide_eq_true p5] at p3; cases p3
          · exact p2 (by omega)
        · rintro ⟨p1, p2⟩
          refine ⟨⟨p1, fun p3 => p2 (by omega)⟩, ?_⟩
          by_cases p5 : e = s
          · subst p5; exact absurd (p2 (by omega)) h1
          · rw [decide_eq_false p5]; rfl)
    rw [h2, hI]
    constructor
    · rintro ⟨⟨p1, p2⟩, p3⟩
      refine ⟨p1, fun m' hm' => ?_⟩
      by_cases p4 : m' = m
      · subst p4; exact p3 (by omega)
      · exact p2 m' (by omega)
    · rintro ⟨p1, p2⟩
      exact ⟨⟨p1, fun m' hm' => p2 m' (by omega)⟩, fun _ => p2 m (by omega)⟩)
  exact h
def moA (B : Nat → Int32) (i : Nat) : Int32 := lp (fun m w => if w < B (16 * m + i) then B (16 * m + i) else w) 0 24 0
theorem moA_0 {B : Nat → Int32} {i : Nat} (hi : i < 16) (hB : ∀ j, j < 384 → ∃ u, u ≤ 20 ∧ B j = nI u) : moA B i = 0 ↔ ∀ m, m < 24 → B (16 * m + i) = 0 := by
  have h := lp_inv (f := fun m (w : Int32) => if w < B (16 * m + i) then B (16 * m + i) else w) (fun z w => ∃ u, u ≤ 20 ∧ w = nI u ∧ (u = 0 ↔ ∀ m, m < z → B (16 * m + i) = 0)) (i := 0) (j := 24) (s := 0) ⟨0, by decide, rfl, fun _ m h => absurd h (Nat.not_lt_zero _), fun _ => rfl⟩ (fun z w _ hz hI => by
    obtain ⟨u, hu, rfl, hI⟩ := hI
    obtain ⟨y, hy, e⟩ := hB (16 * z + i) (by omega)
    have e0 : B (16 * z + i) = 0 ↔ y = 0 := by rw [e]; exact nI_eq (b := 0) (by omega) (by decide)
    by_cases h1 : nI u < B (16 * z + i)
    · rw [if_pos h1]
      rw [e, nI_ltI (by omega) (by omega)] at h1
      refine ⟨y, hy, e, fun q => by omega, fun q => by have := e0.mp (q z (by omega)); omega⟩
    · rw [if_neg h1]
      rw [e, nI_ltI (by omega) (by omega)] at h1
      refine ⟨u, hu, rfl, fun q m hm => ?_, fun q => hI.mpr (fun m hm => q m (by omega))⟩
      by_cases p : m = z
      · subst p; exact e0.mpr (by omega)
      · exact hI.mp q m (by omega))
  obtain ⟨u, hu, e, h⟩ := h
  have e1 : moA B i = nI u := e
  rw [e1, ← h]
  exact nI_eq (b := 0) (by omega) (by decide)
theorem m_dryNow (hC : MC c a v n k q mn sm tt) (hL : LW a n (c 8) W D) : Rn E 1 mX8_dryNow (0, [(0, .ref 53)], [], wY ax vx tx a v t) (some (.int (drF W)), wY ax vx tx a v t) := by
  have hB : ∀ j, j < 384 → ∃ u, u ≤ 20 ∧ a 70 j = nI u := fun j hj => by rw [hL.1.1 j hj]; exact hL.2.2 j hj
  have hE : lp (fun i (b : Int32) => if moA (a 70) i = 0 then b ||| sh1 (nI i) else b) 0 16 0 = drF W := gb_ext (fun e he => by
    rw [Bool.eq_iff_iff, dr_bit he, or_bits (P := fun i => moA (a 70) i = 0) (sh := fun i => i) (fun _ _ h => h) (fun i h => by omega) 16 (by omega) e he]
    constructor
    · rintro ⟨i, h1, h2, rfl⟩
      refine ⟨h1, fun m hm => ?_⟩
      have := (moA_0 h1 hB).mp h2 m hm
      rw [hL.1.1 _ (by omega)] at this
      rw [show m * 16 + i = 16 * m + i by omega, this]; decide
    · rintro ⟨h1, h2⟩
      refine ⟨e, h1, (moA_0 h1 hB).mpr (fun m hm => ?_), rfl⟩
      obtain ⟨u, hu, e3⟩ := hL.2.2 (m * 16 + e) (by omega)
      have h3 := h2 m hm
      rw [e3] at h3
      have h4 : u ≤ 0 := (nI_leI (b := 0) (by omega) (by decide)).mp h3
      rw [hL.1.1 _ (by omega), show 16 * m + e = m * 16 + e by omega, e3, show u = 0 by omega]; rfl)
  rw [← hE]
  clear hE
  iterate 4 refine Rn.step rfl ?_
  refine Rn.lp (σ := Int32) (cfg := fun i b => (4, [(2, .int (nI i)), (1, .int b), (0, .ref 53)], [], wY ax vx tx a v t)) (f := fun i b => if moA (a 70) i = 0 then b ||| sh1 (nI i) else b) (n := 16) (fun _ _ => True) (fun i b hi _ => ⟨trivial, fun kk => ?_⟩) 16 0 0 rfl trivial (fun b0 hb0 _ => ?_)
  · rw [nI_succ] at kk
    iterate 2 refine Rn.step rfl ?_
    refine Rn.br2 rfl (nle hi (by decide)) ?_
    iterate 4 refine Rn.step rfl ?_
    refine Rn.lp (σ := Int32) (cfg := fun m w => (15, [(4, .int (nI m)), (3, .int w), (2, .int (nI i)), (1, .int b), (0, .ref 53)], [], wY ax vx tx a v t)) (f := fun m w => if w < a 70 (16 * m + i) then a 70 (16 * m + i) else w) (n := 24) (fun _ _ => True) (fun m w hm _ => ⟨trivial, fun k2 => ?_⟩) 24 0 0 rfl trivial (fun w1 hw1 _ => ?_)
    · rw [nI_succ] at k2
      iterate 2 refine Rn.step rfl ?_
      refine Rn.br2 rfl (nle hm (by decide)) ?_
      iterate 7 refine Rn.step rfl ?_
      refine Rn.ald (16 * m + i) rfl (ix_am 16 m i) (by omega) (by decide) ?_
      iterate 1 refine Rn.step rfl ?_
      refine Rn.calli rfl rfl rfl (by decide) (m_greater (a 70 (16 * m + i)) w _) (fun z f => ?_)
      rw [← f] at k2
      iterate 3 refine Rn.step rfl ?_
      exact k2
    · have hw1 : w1 = moA (a 70) i := hw1
      rw [← hw1] at kk
      iterate 2 refine Rn.step rfl ?_
      refine Rn.step rfl ?_
      iterate 2 refine Rn.step rfl ?_
      refine Rn.br rfl (fun h1 => ?_) (fun h1 => ?_)
      · rw [if_neg h1] at kk
        iterate 2 refine Rn.step rfl ?_
        refine Rn.top (x' := b) (by show b ||| 0 = b; simp) ?_
        iterate 3 refine Rn.step rfl ?_
        exact Rn.sub (by exact ⟨rfl, rfl, rfl, trivial⟩) kk
      · rw [if_pos (Decidable.not_not.mp h1)] at kk
        iterate 8 refine Rn.step rfl ?_
        exact Rn.sub (by exact ⟨rfl, rfl, rfl, trivial⟩) kk
  · rw [← hb0]
    iterate 2 refine Rn.step rfl ?_
    refine Rn.step rfl ?_
    iterate 1 refine Rn.step rfl ?_
    exact Rn.ret rfl
theorem ob_bit {H : Nat → Int32} {n e : Nat} (hn : n ≤ 8) (he : e < 32) : gb (obF H n) e = true ↔ e < n ∧ H (184 + e) = 16 := by
  have h := or_bits (P := fun i => H (184 + i) = 16) (sh := fun i => i) (fun _ _ h => h) (fun i h => by omega) n (by omega) e he
  refine Iff.trans h ⟨?_, fun q => ⟨e, q.1, q.2, rfl⟩⟩
  rintro ⟨i, h1, h2, rfl⟩
  exact ⟨h1, h2⟩
theorem late_bit {H : Nat → Int32} {n e : Nat} (hn : n ≤ 8) (he : e < 32) : gb (evB n &&& (obF H n ^^^ -1)) e = true ↔ e < n ∧ ¬ H (184 + e) = 16 := by
  rw [gb_and, gb_not he, gb_ev n (by omega) e he, Bool.and_eq_true, decide_eq_true_eq]
  have h := ob_bit (H := H) hn he
  constructor
  · rintro ⟨h1, h2⟩
    exact ⟨h1, fun q => by rw [h.mpr ⟨h1, q⟩] at h2; cases h2⟩
  · rintro ⟨h1, h2⟩
    refine ⟨h1, ?_⟩
    cases h3 : gb (obF H n) e with
    | false => rfl
    | true => exact absurd (h.mp h3).2 h2
/-- none is late -/
theorem late_0 {H : Nat → Int32} {n : Nat} (hn : n ≤ 8) : evB n &&& (obF H n ^^^ -1) = 0 ↔ obF H n = evB n := by
  constructor
  · intro h
    refine gb_ext (fun e he => ?_)
    rw [Bool.eq_iff_iff, ob_bit hn he, gb_ev n (by omega) e he, decide_eq_true_eq]
    refine ⟨fun q => q.1, fun q => ⟨q, ?_⟩⟩
    by_cases h2 : H (184 + e) = 16
    · exact h2
    · have := (late_bit hn he).mpr ⟨q, h2⟩
      rw [h, gb_0] at this; cases this
  · intro h
    refine gb_ext (fun e he => ?_)
    rw [Bool.eq_iff_iff, late_bit hn he, gb_0]
    refine ⟨fun q => ?_, fun q => by cases q⟩
    have h3 : gb (obF H n) e = true := by rw [h, gb_ev n (by omega) e he]; exact decide_eq_true q.1
    exact absurd ((ob_bit hn he).mp h3).2 q.2
theorem m_lateNow (hC : MC c a v n k q mn sm tt) (hL : LW a n (c 8) W D) : Rn E 0 mX8_lateNow (0, [(0, .ref 53)], [], wY ax vx tx a v t) (some (.int (evB n &&& (obF D.1 n ^^^ -1))), wY ax vx tx a v t) := by
  obtain ⟨⟨hn, hv⟩, -⟩ := id hC
  have hE : lp (fun l (b : Int32) => if a 67 l = -1 then b ||| sh1 (nI l) else b) 0 n 0 = evB n &&& (obF D.1 n ^^^ -1) := gb_ext (fun e he => by
    rw [Bool.eq_iff_iff, late_bit hn he, or_bits (P := fun i => a 67 i = -1) (sh := fun i => i) (fun _ _ h => h) (fun i h => by omega) n (by omega) e he]
    constructor
    · rintro ⟨i, h1, h2, rfl⟩
      refine ⟨h1, fun q => ?_⟩
      rw [(hL.1.2.2 i h1).1] at h2
      exact (hL.2.1.2 i h1).mp q h2
    · rintro ⟨h1, h2⟩
      refine ⟨e, h1, ?_, rfl⟩
      rw [(hL.1.2.2 e h1).1]
      by_cases h3 : moF D.1 e 0 24 = -1
      · exact h3
      · exact absurd ((hL.2.1.2 e h1).mpr h3) h2)
  rw [← hE]
  clear hE
  iterate 4 refine Rn.step rfl ?_
  refine Rn.lp (σ := Int32) (cfg := fun l b => (4, [(2, .int (nI l)), (1, .int b), (0, .ref 53)], [], wY ax vx tx a v t)) (f := fun l b => if a 67 l = -1 then b ||| sh1 (nI l) else b) (n := n) (fun _ _ => True) (fun l b hl _ => ⟨trivial, fun kk => ?_⟩) n 0 0 (by omega) trivial (fun x0 hx0 _ => ?_)
  · rw [nI_succ] at kk
    iterate 3 refine Rn.step rfl ?_
    refine Rn.br2 rfl (by rw [hv]; exact nle hl (by omega)) ?_
    iterate 4 refine Rn.step rfl ?_
    refine Rn.ald l rfl rfl (by omega) (by decide) ?_
    iterate 1 refine Rn.step rfl ?_
    refine Rn.br rfl (fun h1 => ?_) (fun h1 => ?_)
    · rw [if_neg h1] at kk
      iterate 2 refine Rn.step rfl ?_
      refine Rn.top (x' := b) (by show b ||| 0 = b; simp) ?_
      iterate 3 refine Rn.step rfl ?_
      exact kk
    · rw [if_pos (Decidable.not_not.mp h1)] at kk
      iterate 8 refine Rn.step rfl ?_
      exact kk
  · rw [← hx0]
    iterate 3 refine Rn.step rfl ?_
    refine Rn.br1 rfl (by rw [hv]; exact nI_le (by omega) (by omega)) ?_
    iterate 1 refine Rn.step rfl ?_
    exact Rn.ret rfl
theorem m_worstNow (hC : MC c a v n k q mn sm tt) (hL : LW a n (c 8) W D) : Rn E 1 mX8_worstNow (0, [(0, .ref 53)], [], wY ax vx tx a v t) (some (.int (woF D.2.1 n).1), wY ax vx tx a v t) := by
  obtain ⟨⟨hn, hv⟩, -⟩ := id hC
  have hE : lp (fun l (x : Int32 × Int32) => if ¬ a 68 l ≤ x.2 then (nI l, a 68 l) else x) 0 n (-1, 0) = woF D.2.1 n := lp_congr (fun l x _ hl => by rw [(hL.1.2.2 l (by omega)).2.1])
  rw [← hE]
  clear hE
  iterate 6 refine Rn.step rfl ?_
  refine Rn.lp (σ := Int32 × Int32) (cfg := fun l x => (6, [(3, .int (nI l)), (2, .int x.2), (1, .int x.1), (0, .ref 53)], [], wY ax vx tx a v t)) (f := fun l x => if ¬ a 68 l ≤ x.2 then (nI l, a 68 l) else x) (n := n) (fun _ _ => True) (fun l x hl _ => ⟨trivial, fun kk => ?_⟩) n 0 (-1, 0) (by omega) trivial (fun x0 hx0 _ => ?_)
  · rw [nI_succ] at kk
    iterate 3 refine Rn.step rfl ?_
    refine Rn.br2 rfl (by rw [hv]; exact nle hl (by omega)) ?_
    iterate 3 refine Rn.step rfl ?_
    refine Rn.ald l rfl rfl (by omega) (by decide) ?_
    iterate 1 refine Rn.step rfl ?_
    refine Rn.br rfl (fun h1 => ?_) (fun h1 => ?_)
    · rw [if_neg (fun q => q h1)] at kk
      iterate 5 refine Rn.step rfl ?_
      refine Rn.ald l rfl rfl (by omega) (by decide) ?_
      iterate 1 refine Rn.step rfl ?_
      refine Rn.calli rfl rfl rfl (by decide) (m_greater (a 68 l) x.2 _) (fun z f => ?_)
      rw [if_neg (Int32.not_lt.mpr h1)] at f
      rw [f]
      iterate 3 refine Rn.step rfl ?_
      exact kk
    · rw [if_pos h1] at kk
      iterate 6 refine Rn.step rfl ?_
      refine Rn.ald l rfl rfl (by omega) (by decide) ?_
      iterate 1 refine Rn.step rfl ?_
      refine Rn.calli rfl rfl rfl (by decide) (m_greater (a 68 l) x.2 _) (fun z f => ?_)
      rw [if_pos (Int32.not_le.mp h1)] at f
      rw [f]
      iterate 3 refine Rn.step rfl ?_
      exact kk
  · rw [← hx0]
    iterate 3 refine Rn.step rfl ?_
    refine Rn.br1 rfl (by rw [hv]; exact nI_le (by omega) (by omega)) ?_
    iterate 1 refine Rn.step rfl ?_
    exact Rn.ret rfl
/-- a row of heads as one number, as the model has it -/
def roF (H : Nat → Int32) (n m : Nat) : Int64 := lp (fun l x => 18 * x + (H (m * 8 + l)).toInt64 + 1) 0 n 0
theorem m_rowOf (hC : MC c a v n k q mn sm tt) (hL : LW a n (c 8) W D) {m : Nat} (hm : m < 24) : Rn E 0 mX8_rowOf (0, [(0, .ref 53), (1, .int (nI m))], [], wY ax vx tx a v t) (some (.long (roF D.1 n m)), wY ax vx tx a v t) := by
  obtain ⟨⟨hn, hv⟩, -⟩ := id hC
  have hE : lp (fun l (x : Int64) => 18 * x + (a 71 (8 * m + l)).toInt64 + 1) 0 n 0 = roF D.1 n m := lp_congr (fun l x _ hl => by rw [(hL.1.2.1 m l hm (by omega)).1])
  rw [← hE]
  clear hE
  iterate 4 refine Rn.step rfl ?_
  refine Rn.lp (σ := Int64) (cfg := fun l x => (5, [(4, .int (nI l)), (2, .long x), (0, .ref 53), (1, .int (nI m))], [], wY ax vx tx a v t)) (f := fun l x => 18 * x + (a 71 (8 * m + l)).toInt64 + 1) (n := n) (fun _ _ => True) (fun l x hl _ => ⟨trivial, fun kk => ?_⟩) n 0 0 (by omega) trivial (fun x0 hx0 _ => ?_)
  · rw [nI_succ] at kk
    iterate 3 refine Rn.step rfl ?_
    refine Rn.br2 rfl (by rw [hv]; exact nle hl (by omega)) ?_
    iterate 10 refine Rn.step rfl ?_
    refine Rn.ald (8 * m + l) rfl (ix_am 8 m l) (by omega) (by decide) ?_
    iterate 7 refine Rn.step rfl ?_
    exact kk
  · rw [← hx0]
    iterate 3 refine Rn.step rfl ?_
    refine Rn.br1 rfl (by rw [hv]; exact nI_le (by omega) (by omega)) ?_
    iterate 1 refine Rn.step rfl ?_
    exact Rn.ret rfl
/-- what was seen fits: first to last, as a loop -/
theorem ft_lp {H ta : Nat → Int32} {n : Nat} {sm : Nat → Nat} {ss sl : Nat → Int32} : ∀ j i (b : Bool), lp (fun i (b : Bool) => b && decide (liF H ta (sm i) (ss i) 0 n = sl i)) i j b = (b && ftB H ta n sm ss sl i j) := by
  intro j
  induction j with
  | zero => intro i b; cases b <;> rfl
  | succ j ih =>
    intro i b
    have e : lp (fun i (b : Bool) => b && decide (liF H ta (sm i) (ss i) 0 n = sl i)) i (j + 1) b = lp (fun i (b : Bool) => b && decide (liF H ta (sm i) (ss i) 0 n = sl i)) (i + 1) j (b && decide (liF H ta (sm i) (ss i) 0 n = sl i)) := rfl
    have e2 : ftB H ta n sm ss sl i (j + 1) = (decide (liF H ta (sm i) (ss i) 0 n = sl i) && ftB H ta n sm ss sl (i + 1) j) := rfl
    rw [e, ih, e2, Bool.and_assoc]
theorem m_isSeen (hC : MC c a v n k q mn sm tt) {kp : Int32} (hg : ∀ e, e < k → (bt kp e ↔ ¬ bt (v 33) e)) : ∃ a', Rn E 7 mX8_isSeen (0, [(0, .ref 53)], [], wY ax vx tx a v t) (some (.int (ib (ftX c n q sm (crn (c 10) (c 12) mn k n (c 4) (c 7) (c 8) (c 6) (cwl (c 10) (c 12) mn k (c 5) kp) kp) = true))), wY ax vx tx a' v t) ∧ (∀ j, j ∉ rowsL → a' j = a j) ∧ MC c a' v n k q mn sm tt ∧ LW a' n (c 8) (cwl (c 10) (c 12) mn k (c 5) kp) (crn (c 10) (c 12) mn k n (c 4) (c 7) (c 8) (c 6) (cwl (c 10) (c 12) mn k (c 5) kp) kp) := by
  obtain ⟨a', hr, hf, hC', hL⟩ := m_livesM (E := E) (ax := ax) (vx := vx) (tx := tx) (t := t) hC hg
  refine ⟨a', ?_, hf, hC', hL⟩
  revert hL
  generalize crn (c 10) (c 12) mn k n (c 4) (c 7) (c 8) (c 6) (cwl (c 10) (c 12) mn k (c 5) kp) kp = D
  intro hL
  obtain ⟨-, -, ⟨hq, hv34⟩, -, hs, -⟩ := id hC'
  have hE : lp (fun i (b : Bool) => b && decide (liF D.1 (c 8) (sm i) (c 15 i) 0 n = c 16 i)) 0 q true = ftX c n q sm D := by rw [ft_lp, Bool.true_and]
  rw [← hE]
  clear hE
  iterate 1 refine Rn.step rfl ?_
  refine Rn.callv rfl rfl rfl (by decide) hr ?_
  iterate 4 refine Rn.step rfl ?_
  refine Rn.lp (σ := Bool) (cfg := fun j b => (8, [(2, .int (nI j)), (1, .int (ib (b = true))), (0, .ref 53)], [], wY ax vx tx a' v t)) (f := fun i b => b && decide (liF D.1 (c 8) (sm i) (c 15 i) 0 n = c 16 i)) (n := q) (fun _ _ => True) (fun i b hi _ => ⟨trivial, fun kk => ?_⟩) q 0 true (by omega) trivial (fun x0 hx0 _ => ?_)
  · rw [nI_succ] at kk
    obtain ⟨⟨s1, s2⟩, ⟨u, hu, s3⟩, s4, s5⟩ := hs i hi
    iterate 3 refine Rn.step rfl ?_
    refine Rn.br2 rfl (by rw [hv34]; exact nle hi (by omega)) ?_
    iterate 7 refine Rn.step rfl ?_
    refine Rn.ald (3 * i + 2) rfl (ix_am 3 i 2) (by omega) (by decide) ?_
    iterate 2 refine Rn.step rfl ?_
    by_cases hb : b = true
    · rw [ib_t hb]
      rw [hb, Bool.true_and] at kk
      refine Rn.step rfl ?_
      iterate 6 refine Rn.step rfl ?_
      refine Rn.ald (3 * i) rfl (pk_mul 3 i) (by omega) (by decide) ?_
      iterate 7 refine Rn.step rfl ?_
      refine Rn.ald (3 * i + 1) rfl (ix_am 3 i 1) (by omega) (by decide) ?_
      rw [s1, s4, s3]
      refine Rn.calli rfl rfl rfl (by decide) (m_whoBy hC' hL s2 hu) (fun z f => ?_)
      rw [← s3] at f
      have hfin : ∀ x : Int32, x = c 16 i → Rn E 7 mX8_isSeen (64, [(3, .int (a' 73 (3 * i + 2))), (2, .int (nI i)), (1, .int 1), (0, .ref 53)], [.int x, .int z], wY ax vx tx a' v t) (some (Value.int (ib (lp (fun i (b : Bool) => b && decide (liF D.1 (c 8) (sm i) (c 15 i) 0 n = c 16 i)) 0 q true = true))), wY ax vx tx a' v t) := by
        intro x hx
        refine Rn.br rfl (fun h1 => ?_) (fun h1 => ?_)
        · rw [decide_eq_false (fun p => h1 (by rw [f, hx]; exact p))] at kk
          iterate 4 refine Rn.step rfl ?_
          exact Rn.sub (by exact ⟨rfl, rfl, rfl, trivial⟩) kk
        · rw [decide_eq_true (show liF D.1 (c 8) (sm i) (c 15 i) 0 n = c 16 i by rw [← f, ← hx]; exact Decidable.not_not.mp h1)] at kk
          iterate 5 refine Rn.step rfl ?_
          exact Rn.sub (by exact ⟨rfl, rfl, rfl, trivial⟩) kk
      iterate 2 refine Rn.step rfl ?_
      refine Rn.br rfl (fun h1 => ?_) (fun h1 => ?_)
      · iterate 1 refine Rn.step rfl ?_
        exact hfin _ (by rw [s5]; exact (if_neg h1).symm)
      · iterate 2 refine Rn.step rfl ?_
        exact hfin _ (by rw [s5]; exact (if_pos (Decidable.not_not.mp h1)).symm)
    · rw [ib_f hb]
      rw [Bool.eq_false_iff.mpr hb, Bool.false_and] at kk
      refine Rn.step rfl ?_
      iterate 4 refine Rn.step rfl ?_
      exact Rn.sub (by exact ⟨rfl, rfl, rfl, trivial⟩) kk
  · rw [← hx0]
    iterate 3 refine Rn.step rfl ?_
    refine Rn.br1 rfl (by rw [hv34]; exact nI_le (by omega) (by omega)) ?_
    iterate 1 refine Rn.step rfl ?_
    exact Rn.retb rfl (ib_01 _)
end MB
