section XE
variable {E : iExtT} {a : Nat → Nat → Int32} {v : Nat → Int32} {t : Nat → Nat → Int64} {r : List va_E}
/-- outcome at a state on the way -/
theorem r_oc {n k q : Nat} {mn sm : Nat → Nat} (hW : WfX a v n k q mn sm) (h1 : v 1 = 1) {s : (Nat → Nat → Int32) × (Nat → Int32)} (hs : StX a v mn k n s) {x : Int32} {j : Nat} (hx : x = nI j) (hj : j < 256) : ∃ s' : (Nat → Nat → Int32) × (Nat → Int32), Rn E 2 mX7_outcome (0, [(0, .ref 0), (1, .int x)], [], wX s.1 s.2 t r) (some (.int (oC a mn k n x)), wX s'.1 s'.2 t r) ∧ StX a v mn k n s' := by
  subst hx
  obtain ⟨a', v', hr, he, hV⟩ := r_outcome (E := E) (t := t) (r := r) (hW.moved hs.1.eqT) ((hs.1.2 1 (by decide)).trans h1) hs.2 hj
  rw [oC_eq hs.1.eqT] at hr
  exact ⟨(a', v'), hr, hs.1.trans he, hV⟩
theorem r_spared {n k q : Nat} {mn sm : Nat → Nat} (hW : WfX a v n k q mn sm) (hS : SetX a v mn k n) : ∃ (a' : Nat → Nat → Int32) (v' : Nat → Int32), Rn E 3 mX7_sparedEvents (0, [(0, .ref 0)], [], wX a v t r) (some (.int (spE (oC a mn k n) k (evB n))), wX a' v' t r) ∧ eqT a v a' v' ∧ v' 1 = 1 ∧ ValX a' mn k n := by
  obtain ⟨a0, v0, hr0, he0, h1, hV0⟩ := r_settle (E := E) (t := t) (r := r) hW hS
  have hW0 := hW.moved he0
  obtain ⟨⟨hn, hv4⟩, ⟨hk, hv5, hmn⟩, -⟩ := id hW0
  rw [← oC_eq he0]
  have eB : sh1 (v0 5) - 1 = evB k := by rw [hv5]; rfl
  have eN : sh1 (v0 4) - 1 = evB n := by rw [hv4]; rfl
  suffices hgo : ∃ s' : (Nat → Nat → Int32) × (Nat → Int32), StX a0 v0 mn k n s' ∧ Rn E 3 mX7_sparedEvents (20, [(2, .int (evB n)), (1, .int (evB k)), (0, .ref 0)], [], wX a0 v0 t r) (some (.int (spE (oC a0 mn k n) k (evB n))), wX s'.1 s'.2 t r) by
    obtain ⟨s', hs', hg⟩ := hgo
    refine ⟨s'.1, s'.2, ?_, he0.trans hs'.1.eqT, (hs'.1.2 1 (by decide)).trans h1, hs'.2⟩
    repeat refine Rn.step rfl ?_
    refine Rn.callv rfl rfl rfl (by decide) hr0 ?_
    repeat refine Rn.step rfl ?_
    refine Rn.calli rfl rfl rfl (by decide) r_bits (fun z1 f1 => ?_)
    rw [eB] at f1
    subst f1
    repeat refine Rn.step rfl ?_
    refine Rn.calli rfl rfl rfl (by decide) r_logBits (fun z2 f2 => ?_)
    rw [eN] at f2
    subst f2
    refine Rn.step rfl ?_
    exact hg
  have p3 : ∀ (j i : Nat) (s : (Nat → Nat → Int32) × (Nat → Int32)), i + j = k → StX a0 v0 mn k n s → ∃ s', StX a0 v0 mn k n s' ∧ Rn E 3 mX7_sparedEvents (71, [(3, .int (nI i)), (2, .int (evB n)), (1, .int (evB k)), (0, .ref 0)], [], wX s.1 s.2 t r) (some (.int ((sp3 (oC a0 mn k n) k (evB n) i j).getD (-1))), wX s'.1 s'.2 t r) := by
    intro j
    induction j with
    | zero =>
      intro i s hi hs
      refine ⟨s, hs, ?_⟩
      repeat refine Rn.step rfl ?_
      refine Rn.br1 rfl (by rw [hs.1.2 5 (by decide), hv5]; exact nI_le (by omega) (by omega)) ?_
      repeat refine Rn.step rfl ?_
      exact Rn.ret rfl
    | succ j ih =>
      intro i s hi hs
      have p2 : ∀ (c y : Nat) (s : (Nat → Nat → Int32) × (Nat → Int32)), y + c = k → i < y → StX a0 v0 mn k n s → ∃ s', StX a0 v0 mn k n s' ∧ Rn E 3 mX7_sparedEvents (87, [(4, .int (nI y)), (3, .int (nI i)), (2, .int (evB n)), (1, .int (evB k)), (0, .ref 0)], [], wX s.1 s.2 t r) (some (.int ((match sp2 (oC a0 mn k n) k (evB n) i y c with
          | some b => some b
          | none => sp3 (oC a0 mn k n) k (evB n) (i + 1) j : Option Int32).getD (-1))), wX s'.1 s'.2 t r) := by
        intro c
        induction c with
        | zero =>
          intro y s hy hiy hs
          obtain ⟨s', hs', hg⟩ := ih (i + 1) s (by omega) hs
          rw [nI_succ] at hg
          refine ⟨s', hs', ?_⟩
          repeat refine Rn.step rfl ?_
          refine Rn.br1 rfl (by rw [hs.1.2 5 (by decide), hv5]; exact nI_le (by omega) (by omega)) ?_
          iterate 2 refine Rn.step rfl ?_
          exact Rn.sub (by exact ⟨rfl, rfl, rfl, rfl, trivial⟩) hg
        | succ c ih2 =>
          intro y s hy hiy hs
          obtain ⟨s1, hr1, hs1⟩ := r_oc (E := E) (t := t) (r := r) hW0 h1 hs (ev2_nI k (by omega) i (by omega) y (by omega) hiy) (Nat.lt_of_le_of_lt (Nat.le_trans (Nat.sub_le _ _) (Nat.sub_le _ _)) (ev_lt k (by omega)))
          unfold sp2
          by_cases hc : oC a0 mn k n (evB k &&& ((sh1 (nI i) ||| sh1 (nI y)) ^^^ -1)) = evB n
          · rw [if_pos hc]
            refine ⟨s1, hs1, ?_⟩
            repeat refine Rn.step rfl ?_
            refine Rn.br2 rfl (by rw [hs.1.2 5 (by decide), hv5]; exact nle (by omega) (by omega)) ?_
            repeat refine Rn.step rfl ?_
            refine Rn.calli rfl rfl rfl (by decide) hr1 (fun z1 f1 => ?_)
            repeat refine Rn.step rfl ?_
            refine Rn.br2 rfl (fun q => q (f1.trans hc)) ?_
            repeat refine Rn.step rfl ?_
            exact Rn.ret rfl
          · rw [if_neg hc]
            obtain ⟨s', hs', hg⟩ := ih2 (y + 1) s1 (by omega) (by omega) hs1
            rw [nI_succ] at hg
            refine ⟨s', hs', ?_⟩
            repeat refine Rn.step rfl ?_
            refine Rn.br2 rfl (by rw [hs.1.2 5 (by decide), hv5]; exact nle (by omega) (by omega)) ?_
            repeat refine Rn.step rfl ?_
            refine Rn.calli rfl rfl rfl (by decide) hr1 (fun z1 f1 => ?_)
            repeat refine Rn.step rfl ?_
            refine Rn.br1 rfl (fun q => hc (f1.symm.trans q)) ?_
            iterate 2 refine Rn.step rfl ?_
            exact Rn.sub (by exact ⟨rfl, rfl, rfl, rfl, rfl, trivial⟩) hg
      obtain ⟨s', hs', hg⟩ := p2 (k - (i + 1)) (i + 1) s (by omega) (by omega) hs
      refine ⟨s', hs', ?_⟩
      repeat refine Rn.step rfl ?_
      refine Rn.br2 rfl (by rw [hs.1.2 5 (by decide), hv5]; exact nle (by omega) (by omega)) ?_
      iterate 3 refine Rn.step rfl ?_
      refine Rn.top (nI_1 i) ?_
      refine Rn.step rfl ?_
      exact hg
  have p1 : ∀ (j i : Nat) (s : (Nat → Nat → Int32) × (Nat → Int32)), i + j = k → StX a0 v0 mn k n s → ∃ s', StX a0 v0 mn k n s' ∧ Rn E 3 mX7_sparedEvents (33, [(3, .int (nI i)), (2, .int (evB n)), (1, .int (evB k)), (0, .ref 0)], [], wX s.1 s.2 t r) (some (.int ((match sp1 (oC a0 mn k n) k (evB n) i j with
      | some b => some b
      | none => sp3 (oC a0 mn k n) k (evB n) 0 k : Option Int32).getD (-1))), wX s'.1 s'.2 t r) := by
    intro j
    induction j with
    | zero =>
      intro i s hi hs
      obtain ⟨s', hs', hg⟩ := p3 k 0 s (by omega) hs
      refine ⟨s', hs', ?_⟩
      repeat refine Rn.step rfl ?_
      refine Rn.br1 rfl (by rw [hs.1.2 5 (by decide), hv5]; exact nI_le (by omega) (by omega)) ?_
      iterate 2 refine Rn.step rfl ?_
      exact hg
    | succ j ih =>
      intro i s hi hs
      obtain ⟨s1, hr1, hs1⟩ := r_oc (E := E) (t := t) (r := r) hW0 h1 hs (ev1_nI k (by omega) i (by omega)) (Nat.lt_of_le_of_lt (Nat.sub_le _ _) (ev_lt k (by omega)))
      unfold sp1
      by_cases hc : oC a0 mn k n (evB k &&& (sh1 (nI i) ^^^ -1)) = evB n
      · rw [if_pos hc]
        refine ⟨s1, hs1, ?_⟩
        repeat refine Rn.step rfl ?_
        refine Rn.br2 rfl (by rw [hs.1.2 5 (by decide), hv5]; exact nle (by omega) (by omega)) ?_
        repeat refine Rn.step rfl ?_
        refine Rn.calli rfl rfl rfl (by decide) hr1 (fun z1 f1 => ?_)
        repeat refine Rn.step rfl ?_
        refine Rn.br2 rfl (fun q => q (f1.trans hc)) ?_
        repeat refine Rn.step rfl ?_
        exact Rn.ret rfl
      · rw [if_neg hc]
        obtain ⟨s', hs', hg⟩ := ih (i + 1) s1 (by omega) hs1
        rw [nI_succ] at hg
        refine ⟨s', hs', ?_⟩
        repeat refine Rn.step rfl ?_
        refine Rn.br2 rfl (by rw [hs.1.2 5 (by decide), hv5]; exact nle (by omega) (by omega)) ?_
        repeat refine Rn.step rfl ?_
        refine Rn.calli rfl rfl rfl (by decide) hr1 (fun z1 f1 => ?_)
        repeat refine Rn.step rfl ?_
        refine Rn.br1 rfl (fun q => hc (f1.symm.trans q)) ?_
        iterate 2 refine Rn.step rfl ?_
        exact hg
  obtain ⟨s1, hr1, hs1⟩ := r_oc (E := E) (t := t) (r := r) hW0 h1 (s := (a0, v0)) ⟨eqO.rf, hV0⟩ (evB_nI k (by omega)) (ev_lt k (by omega))
  unfold spE
  by_cases hc : oC a0 mn k n (evB k) = evB n
  · rw [if_pos hc]
    refine ⟨s1, hs1, ?_⟩
    repeat refine Rn.step rfl ?_
    refine Rn.calli rfl rfl rfl (by decide) hr1 (fun z1 f1 => ?_)
    refine Rn.step rfl ?_
    refine Rn.br2 rfl (fun q => q (f1.trans hc)) ?_
    refine Rn.step rfl ?_
    exact Rn.ret rfl
  · rw [if_neg hc]
    obtain ⟨s', hs', hg⟩ := p1 k 0 s1 (by omega) hs1
    refine ⟨s', hs', ?_⟩
    repeat refine Rn.step rfl ?_
    refine Rn.calli rfl rfl rfl (by decide) hr1 (fun z1 f1 => ?_)
    refine Rn.step rfl ?_
    refine Rn.br1 rfl (fun q => hc (f1.symm.trans q)) ?_
    iterate 2 refine Rn.step rfl ?_
    cases h4 : sp1 (oC a0 mn k n) k (evB n) 0 k with
    | some b => rw [h4] at hg; exact hg
    | none =>
      rw [h4] at hg
      cases h5 : sp3 (oC a0 mn k n) k (evB n) 0 k with
      | some b => rw [h5] at hg; exact hg
      | none => rw [h5] at hg; exact hg
/-- the place of the i-th bit that is set -/
def baF (b i : Int32) : Nat → Nat → Int32 → Int32
  | 0, _, _ => -1
  | j + 1, p, c => if bt b p then (if c = i then nI p else baF b i j (p + 1) (c + 1)) else baF b i j (p + 1) c
theorem r_bitAt (b i : Int32) (h : List va_E) : Rn E 0 mX7_bitAt (0, [(0, .int b), (1, .int i)], [], h) (some (.int (baF b i 31 0 0)), h) := by
  have key : ∀ (j p : Nat) (c : Int32), p + j = 31 → Rn E 0 mX7_bitAt (4, [(3, .int (nI p)), (2, .int c), (0, .int b), (1, .int i)], [], h) (some (.int (baF b i j p c)), h) := by
    intro j
    induction j with
    | zero =>
      intro p c hp
      obtain rfl : p = 31 := by omega
      repeat refine Rn.step rfl ?_
      exact Rn.ret rfl
    | succ j ih =>
      intro p c hp
      repeat refine Rn.step rfl ?_
      refine Rn.br2 rfl (nle (n := 31) (by omega) (by decide)) ?_
      repeat refine Rn.step rfl ?_
      unfold baF
      refine Rn.br rfl (fun h1 => ?_) (fun h1 => ?_)
      · rw [if_neg h1]
        iterate 2 refine Rn.step rfl ?_
        have k3 := ih (p + 1) c (by omega)
        rw [nI_succ] at k3
        exact k3
      · rw [if_pos (Decidable.not_not.mp h1)]
        repeat refine Rn.step rfl ?_
        refine Rn.br rfl (fun h2 => ?_) (fun h2 => ?_)
        · rw [if_neg h2]
          iterate 3 refine Rn.step rfl ?_
          have k3 := ih (p + 1) (c + 1) (by omega)
          rw [nI_succ] at k3
          exact k3
        · rw [if_pos (Decidable.not_not.mp h2)]
          repeat refine Rn.step rfl ?_
          exact Rn.ret rfl
  iterate 4 refine Rn.step rfl ?_
  exact key 31 0 0 rfl
theorem r_spare_bad (x : Int32) (hb : x < -1 ∨ 1 < x) : Rn E 4 mX7_spare (0, [(0, .ref 0), (1, .int x)], [], wX a v t r) (some (.int (-2)), wX a v t r) := by
  repeat refine Rn.step rfl ?_
  refine Rn.br rfl (fun h1 => ?_) (fun h1 => ?_)
  · repeat refine Rn.step rfl ?_
    exact Rn.ret rfl
  · repeat refine Rn.step rfl ?_
    refine Rn.br2 rfl (Int32.not_le.mpr (hb.resolve_left h1)) ?_
    repeat refine Rn.step rfl ?_
    exact Rn.ret rfl
def sqF (b x : Int32) : Int32 := if b = -1 then -1 else if x = -1 then bcF b else baF b x 31 0 0
theorem r_spare {n k q : Nat} {mn sm : Nat → Nat} (hW : WfX a v n k q mn sm) (hS : SetX a v mn k n) (x : Int32) (hb : ¬ (x < -1 ∨ 1 < x)) : AX E 4 mX7_spare [(0, .ref 0), (1, .int x)] a v t r mn k n (some (.int (sqF (spE (oC a mn k n) k (evB n)) x))) := by
  obtain ⟨a', v', hr, he, h1, hV⟩ := r_spared (E := E) (t := t) (r := r) hW hS
  refine ⟨a', v', ?_, he, Or.inr ⟨h1, hV⟩⟩
  repeat refine Rn.step rfl ?_
  refine Rn.br2 rfl (fun q => hb (Or.inl q)) ?_
  repeat refine Rn.step rfl ?_
  refine Rn.br1 rfl (Int32.not_lt.mp (fun q => hb (Or.inr q))) ?_
  repeat refine Rn.step rfl ?_
  refine Rn.calli rfl rfl rfl (by decide) hr (fun z1 f1 => ?_)
  repeat refine Rn.step rfl ?_
  rw [← f1]
  unfold sqF
  refine Rn.br rfl (fun h2 => ?_) (fun h2 => ?_)
  · rw [if_neg h2]
    repeat refine Rn.step rfl ?_
    refine Rn.br rfl (fun h3 => ?_) (fun h3 => ?_)
    · rw [if_neg h3]
      repeat refine Rn.step rfl ?_
      refine Rn.calli rfl rfl rfl (by decide) (r_bitAt z1 x _) (fun z2 f2 => ?_)
      rw [← f2]
      exact Rn.ret rfl
    · rw [if_pos (Decidable.not_not.mp h3)]
      repeat refine Rn.step rfl ?_
      refine Rn.calli rfl rfl rfl (by decide) (r_bitCount z1 _) (fun z2 f2 => ?_)
      refine Rn.step rfl ?_
      rw [← f2]
      exact Rn.ret rfl
  · rw [if_pos (Decidable.not_not.mp h2)]
    repeat refine Rn.step rfl ?_
    exact Rn.ret rfl
end XE
