section X6
variable {E : iExtT} {a : Nat → Nat → Int32} {v : Nat → Int32} {t : Nat → Nat → Int64} {r : List va_E}
abbrev f2 : Type := (Nat → Int32) × (Nat → Int32)
def bmF (n m : Nat) (x : f2) : f2 := lp (fun l s => (upd s.1 (m * 8 + l) (if 0 < m then s.1 ((m - 1) * 8 + l) else -1), upd s.2 (m * 8 + l) 0)) 0 n x
/-- where a log comes to, and 1 aground, 2 blocked: po by a pole, blk the next span isn't free -/
def mvF (po : Bool) (wl : Nat → Int32) (de : Int32) (blk : Nat → Bool) (steps : Int32) : Nat → Nat → Nat → Nat × Nat
  | 0, _, h => (h, 0)
  | f + 1, k, h => if steps ≤ nI k ∨ 16 ≤ h then (h, 0) else if po = false ∧ wl h < de then (h, 1) else if blk h = true then (h, 2) else mvF po wl de blk steps f (k + 1) (h + 1)
theorem ix_beg {m l : Nat} (hm : 0 < m) : (nI m - nI 1) * nI 8 + nI l = nI ((m - 1) * 8 + l) := by rw [pk_sub hm, pk_mul, nI_add]
theorem r_beg1 {n m : Nat} (hn : n ≤ 8) (hv : v 4 = nI n) (hm : m < 24) : Rn E 0 mX0_beginMinute (0, [(0, .ref 22), (1, .ref 3), (2, .int (nI m))], [], wX a v t r) (none, wX (va_up (va_up a 23 (bmF n m (a 23, a 24)).1) 24 (bmF n m (a 23, a 24)).2) v t r) := by
  iterate 2 refine Rn.step rfl ?_
  refine Rn.lp (σ := f2) (cfg := fun l s => (2, [(3, .int (nI l)), (0, .ref 22), (1, .ref 3), (2, .int (nI m))], [], wX (va_up (va_up a 23 s.1) 24 s.2) v t r)) (f := fun l s => (upd s.1 (m * 8 + l) (if 0 < m then s.1 ((m - 1) * 8 + l) else -1), upd s.2 (m * 8 + l) 0)) (n := n) (fun _ _ => True) (fun l s hl _ => ⟨trivial, fun k => ?_⟩) n 0 (a 23, a 24) (by omega) trivial (fun s0 hs0 _ => ?_)
  · rw [nI_succ] at k
    have fin : ∀ z : Int32, z = (if 0 < m then s.1 ((m - 1) * 8 + l) else -1) → Rn E 0 mX0_beginMinute (41, [(3, .int (nI l)), (0, .ref 22), (1, .ref 3), (2, .int (nI m))], [.int z, .int (nI m * 8 + nI l), .ref 23], wX (va_up (va_up a 23 s.1) 24 s.2) v t r) (none, wX (va_up (va_up a 23 (bmF n m (a 23, a 24)).1) 24 (bmF n m (a 23, a 24)).2) v t r) := by
      intro z hz
      rw [← hz] at k
      refine Rn.ast (m * 8 + l) rfl (ix_ma m 8 l) (by omega) (by decide) (h3 := wX (va_up (va_up a 23 (upd s.1 (m * 8 + l) z)) 24 s.2) v t r) rfl ?_
      repeat refine Rn.step rfl ?_
      refine Rn.ast (m * 8 + l) rfl (ix_ma m 8 l) (by omega) (by decide) (h3 := wX (va_up (va_up a 23 (upd s.1 (m * 8 + l) z)) 24 (upd s.2 (m * 8 + l) 0)) v t r) rfl ?_
      iterate 2 refine Rn.step rfl ?_
      exact k
    repeat refine Rn.step rfl ?_
    refine Rn.br2 rfl (by show ¬ v 4 ≤ nI l; rw [hv]; exact nle hl (by omega)) ?_
    repeat refine Rn.step rfl ?_
    refine Rn.br rfl (fun h1 => ?_) (fun h1 => ?_)
    · refine Rn.step rfl ?_
      exact fin _ (if_neg (fun q => (npos (by omega)).mpr q h1)).symm
    · have p1 := (npos (by omega)).mp h1
      repeat refine Rn.step rfl ?_
      refine Rn.ald ((m - 1) * 8 + l) rfl (ix_beg p1) (by omega) (by decide) ?_
      refine Rn.step rfl ?_
      exact fin _ (if_pos p1).symm
  · repeat refine Rn.step rfl ?_
    refine Rn.br1 rfl (by show v 4 ≤ nI n; rw [hv]; exact Int32.le_refl _) ?_
    subst hs0
    exact Rn.ret rfl
theorem r_beg2 {n m : Nat} (hn : n ≤ 8) (hv : v 4 = nI n) (hm : m < 24) : Rn E 0 mX0_beginMinute (0, [(0, .ref 31), (1, .ref 3), (2, .int (nI m))], [], wX a v t r) (none, wX (va_up (va_up a 32 (bmF n m (a 32, a 33)).1) 33 (bmF n m (a 32, a 33)).2) v t r) := by
  iterate 2 refine Rn.step rfl ?_
  refine Rn.lp (σ := f2) (cfg := fun l s => (2, [(3, .int (nI l)), (0, .ref 31), (1, .ref 3), (2, .int (nI m))], [], wX (va_up (va_up a 32 s.1) 33 s.2) v t r)) (f := fun l s => (upd s.1 (m * 8 + l) (if 0 < m then s.1 ((m - 1) * 8 + l) else -1), upd s.2 (m * 8 + l) 0)) (n := n) (fun _ _ => True) (fun l s hl _ => ⟨trivial, fun k => ?_⟩) n 0 (a 32, a 33) (by omega) trivial (fun s0 hs0 _ => ?_)
  · rw [nI_succ] at k
    have fin : ∀ z : Int32, z = (if 0 < m then s.1 ((m - 1) * 8 + l) else -1) → Rn E 0 mX0_beginMinute (41, [(3, .int (nI l)), (0, .ref 31), (1, .ref 3), (2, .int (nI m))], [.int z, .int (nI m * 8 + nI l), .ref 32], wX (va_up (va_up a 32 s.1) 33 s.2) v t r) (none, wX (va_up (va_up a 32 (bmF n m (a 32, a 33)).1) 33 (bmF n m (a 32, a 33)).2) v t r) := by
      intro z hz
      rw [← hz] at k
      refine Rn.ast (m * 8 + l) rfl (ix_ma m 8 l) (by omega) (by decide) (h3 := wX (va_up (va_up a 32 (upd s.1 (m * 8 + l) z)) 33 s.2) v t r) rfl ?_
      repeat refine Rn.step rfl ?_
      refine Rn.ast (m * 8 + l) rfl (ix_ma m 8 l) (by omega) (by decide) (h3 := wX (va_up (va_up a 32 (upd s.1 (m * 8 + l) z)) 33 (upd s.2 (m * 8 + l) 0)) v t r) rfl ?_
      iterate 2 refine Rn.step rfl ?_
      exact k
    repeat refine Rn.step rfl ?_
    refine Rn.br2 rfl (by show ¬ v 4 ≤ nI l; rw [hv]; exact nle hl (by omega)) ?_
    repeat refine Rn.step rfl ?_
    refine Rn.br rfl (fun h1 => ?_) (fun h1 => ?_)
    · refine Rn.step rfl ?_
      exact fin _ (if_neg (fun q => (npos (by omega)).mpr q h1)).symm
    · have p1 := (npos (by omega)).mp h1
      repeat refine Rn.step rfl ?_
      refine Rn.ald ((m - 1) * 8 + l) rfl (ix_beg p1) (by omega) (by decide) ?_
      refine Rn.step rfl ?_
      exact fin _ (if_pos p1).symm
  · repeat refine Rn.step rfl ?_
    refine Rn.br1 rfl (by show v 4 ≤ nI n; rw [hv]; exact Int32.le_refl _) ?_
    subst hs0
    exact Rn.ret rfl
theorem r_mov1 {m l hd : Nat} (hm : m < 24) (hl : l < 8) (hh : hd < 16) (bar : Int32) (hH : a 23 (m * 8 + l) = nI hd) : Rn E 0 mX0_move (0, [(0, .ref 22), (1, .ref 3), (2, .ref 18), (3, .int (nI m)), (4, .int (nI l)), (5, .int bar)], [], wX a v t r) (some (.int (nI (mvF (decide (bt (a 25 m) l)) (fun h => a 19 (m * 16 + h)) (a 7 l) (fun h => decide (¬ nI (h + 1) < bar)) (a 4 hd + ib (bt (a 25 m) l)) 17 0 hd).1)), wX (va_up (va_up a 23 (upd (a 23) (m * 8 + l) (nI (mvF (decide (bt (a 25 m) l)) (fun h => a 19 (m * 16 + h)) (a 7 l) (fun h => decide (¬ nI (h + 1) < bar)) (a 4 hd + ib (bt (a 25 m) l)) 17 0 hd).1))) 24 (if (mvF (decide (bt (a 25 m) l)) (fun h => a 19 (m * 16 + h)) (a 7 l) (fun h => decide (¬ nI (h + 1) < bar)) (a 4 hd + ib (bt (a 25 m) l)) 17 0 hd).2 = 0 then a 24 else upd (a 24) (m * 8 + l) (nI (mvF (decide (bt (a 25 m) l)) (fun h => a 19 (m * 16 + h)) (a 7 l) (fun h => decide (¬ nI (h + 1) < bar)) (a 4 hd + ib (bt (a 25 m) l)) 17 0 hd).2))) v t r) := by
  obtain ⟨z, hz⟩ : ∃ z, z = ib (bt (a 25 m) l) := ⟨_, rfl⟩
  have e144 : ∀ (h : Nat) (S' : Nat → Int32) (L' : List (Nat × Value)), iLget L' 0 = some (.ref 22) → iLget L' 6 = some (.int (nI (m * 8 + l))) → iLget L' 7 = some (.int (nI h)) → Rn E 0 mX0_move (144, L', [], wX (va_up a 24 S') v t r) (some (.int (nI h)), wX (va_up (va_up a 23 (upd (a 23) (m * 8 + l) (nI h))) 24 S') v t r) := by
    intro h S' L' g0 g6 g7
    refine Rn.sub (L' := [(0, .ref 22), (6, .int (nI (m * 8 + l))), (7, .int (nI h))]) ⟨g0, g6, g7, trivial⟩ ?_
    repeat refine Rn.step rfl ?_
    refine Rn.ast (m * 8 + l) rfl rfl (by omega) (by decide) (h3 := wX (va_up (va_up a 23 (upd (a 23) (m * 8 + l) (nI h))) 24 S') v t r) rfl ?_
    repeat refine Rn.step rfl ?_
    exact Rn.ret rfl
  have key : ∀ (steps : Int32) (f k h : Nat), h ≤ 16 → 17 ≤ f + h → k ≤ 100 - f → f ≤ 17 → Rn E 0 mX0_move (63, [(10, .int (nI k)), (9, .int steps), (8, .int z), (7, .int (nI h)), (6, .int (nI (m * 8 + l))), (0, .ref 22), (1, .ref 3), (2, .ref 18), (3, .int (nI m)), (4, .int (nI l)), (5, .int bar)], [], wX a v t r) (some (.int (nI (mvF (decide (bt (a 25 m) l)) (fun h => a 19 (m * 16 + h)) (a 7 l) (fun h => decide (¬ nI (h + 1) < bar)) steps f k h).1)), wX (va_up (va_up a 23 (upd (a 23) (m * 8 + l) (nI (mvF (decide (bt (a 25 m) l)) (fun h => a 19 (m * 16 + h)) (a 7 l) (fun h => decide (¬ nI (h + 1) < bar)) steps f k h).1))) 24 (if (mvF (decide (bt (a 25 m) l)) (fun h => a 19 (m * 16 + h)) (a 7 l) (fun h => decide (¬ nI (h + 1) < bar)) steps f k h).2 = 0 then a 24 else upd (a 24) (m * 8 + l) (nI (mvF (decide (bt (a 25 m) l)) (fun h => a 19 (m * 16 + h)) (a 7 l) (fun h => decide (¬ nI (h + 1) < bar)) steps f k h).2))) v t r) := by
    intro steps f
    induction f with
    | zero => intro k h q1 q2; omega
    | succ f ih =>
      intro k h q1 q2 q3 q4
      unfold mvF
      repeat refine Rn.step rfl ?_
      refine Rn.br rfl (fun h1 => ?_) (fun h1 => ?_)
      · rw [if_pos (Or.inl h1)]
        exact e144 h (a 24) _ rfl rfl rfl
      repeat refine Rn.step rfl ?_
      refine Rn.br rfl (fun h2 => ?_) (fun h2 => ?_)
      · rw [if_pos (Or.inr ((nI_leI (a := 16) (by decide) (by omega)).mp h2))]
        exact e144 h (a 24) _ rfl rfl rfl
      have hlt : h < 16 := by
        rcases Nat.lt_or_ge h 16 with q | q
        · exact q
        · exact absurd (nI_le q (by omega)) h2
      rw [if_neg (fun q => q.elim h1 (fun q => by omega))]
      have s115 : ¬ (decide (bt (a 25 m) l) = false ∧ a 19 (m * 16 + h) < a 7 l) → Rn E 0 mX0_move (115, [(10, .int (nI k)), (9, .int steps), (8, .int z), (7, .int (nI h)), (6, .int (nI (m * 8 + l))), (0, .ref 22), (1, .ref 3), (2, .ref 18), (3, .int (nI m)), (4, .int (nI l)), (5, .int bar)], [], wX a v t r) (some (.int (nI (if decide (bt (a 25 m) l) = false ∧ a 19 (m * 16 + h) < a 7 l then (h, 1) else if decide (¬ nI (h + 1) < bar) = true then (h, 2) else mvF (decide (bt (a 25 m) l)) (fun h => a 19 (m * 16 + h)) (a 7 l) (fun h => decide (¬ nI (h + 1) < bar)) steps f (k + 1) (h + 1)).1)), wX (va_up (va_up a 23 (upd (a 23) (m * 8 + l) (nI (if decide (bt (a 25 m) l) = false ∧ a 19 (m * 16 + h) < a 7 l then (h, 1) else if decide (¬ nI (h + 1) < bar) = true then (h, 2) else mvF (decide (bt (a 25 m) l)) (fun h => a 19 (m * 16 + h)) (a 7 l) (fun h => decide (¬ nI (h + 1) < bar)) steps f (k + 1) (h + 1)).1))) 24 (if (if decide (bt (a 25 m) l) = false ∧ a 19 (m * 16 + h) < a 7 l then (h, 1) else if decide (¬ nI (h + 1) < bar) = true then (h, 2) else mvF (decide (bt (a 25 m) l)) (fun h => a 19 (m * 16 + h)) (a 7 l) (fun h => decide (¬ nI (h + 1) < bar)) steps f (k + 1) (h + 1)).2 = 0 then a 24 else upd (a 24) (m * 8 + l) (nI (if decide (bt (a 25 m) l) = false ∧ a 19 (m * 16 + h) < a 7 l then (h, 1) else if decide (¬ nI (h + 1) < bar) = true then (h, 2) else mvF (decide (bt (a 25 m) l)) (fun h => a 19 (m * 16 + h)) (a 7 l) (fun h => decide (¬ nI (h + 1) < bar)) steps f (k + 1) (h + 1)).2))) v t r) := by
        intro hn
        rw [if_neg hn]
        iterate 3 refine Rn.step rfl ?_
        refine Rn.top (nI_1 h) ?_
        refine Rn.step rfl ?_
        refine Rn.br rfl (fun h3 => ?_) (fun h3 => ?_)
        · rw [if_neg (by simp [h3])]
          iterate 3 refine Rn.step rfl ?_
          have k3 := ih (k + 1) (h + 1) (by omega) (by omega) (by omega) (by omega)
          rw [nI_succ, nI_succ] at k3
          exact Rn.sub (by exact ⟨rfl, rfl, rfl, rfl, rfl, rfl, rfl, rfl, rfl, rfl, rfl, trivial⟩) k3
        · rw [if_pos (by simp [h3])]
          repeat refine Rn.step rfl ?_
          refine Rn.ast (m * 8 + l) rfl rfl (by omega) (by decide) (h3 := wX (va_up a 24 (upd (a 24) (m * 8 + l) 2)) v t r) rfl ?_
          refine Rn.step rfl ?_
          exact e144 h (upd (a 24) (m * 8 + l) 2) _ rfl rfl rfl
      repeat refine Rn.step rfl ?_
      refine Rn.br rfl (fun h3 => ?_) (fun h3 => ?_)
      · exact s115 (fun q => (of_decide_eq_false q.1) (ib_ne0.mp (hz ▸ h3)))
      · repeat refine Rn.step rfl ?_
        refine Rn.ald (m * 16 + h) rfl (ix_ma m 16 h) (by omega) (by decide) ?_
        repeat refine Rn.step rfl ?_
        refine Rn.ald l rfl rfl hl (by decide) ?_
        refine Rn.br rfl (fun h4 => ?_) (fun h4 => ?_)
        · exact s115 (fun q => absurd q.2 (Int32.not_lt.mpr h4))
        · rw [if_pos ⟨decide_eq_false (ib_eq0.mp (hz ▸ Decidable.not_not.mp h3)), Int32.not_le.mp h4⟩]
          repeat refine Rn.step rfl ?_
          refine Rn.ast (m * 8 + l) rfl rfl (by omega) (by decide) (h3 := wX (va_up a 24 (upd (a 24) (m * 8 + l) 1)) v t r) rfl ?_
          refine Rn.step rfl ?_
          exact e144 h (upd (a 24) (m * 8 + l) 1) _ rfl rfl rfl
  iterate 5 refine Rn.step rfl ?_
  refine Rn.top (ix_ma m 8 l) ?_
  repeat refine Rn.step rfl ?_
  refine Rn.ald (m * 8 + l) rfl rfl (by omega) (by decide) ?_
  refine Rn.top hH ?_
  repeat refine Rn.step rfl ?_
  refine Rn.ald m rfl rfl hm (by decide) ?_
  repeat refine Rn.step rfl ?_
  have st38 : ∀ y : Int32, y = z → Rn E 0 mX0_move (38, [(7, .int (nI hd)), (6, .int (nI (m * 8 + l))), (0, .ref 22), (1, .ref 3), (2, .ref 18), (3, .int (nI m)), (4, .int (nI l)), (5, .int bar)], [.int y], wX a v t r) (some (.int (nI (mvF (decide (bt (a 25 m) l)) (fun h => a 19 (m * 16 + h)) (a 7 l) (fun h => decide (¬ nI (h + 1) < bar)) (a 4 hd + ib (bt (a 25 m) l)) 17 0 hd).1)), wX (va_up (va_up a 23 (upd (a 23) (m * 8 + l) (nI (mvF (decide (bt (a 25 m) l)) (fun h => a 19 (m * 16 + h)) (a 7 l) (fun h => decide (¬ nI (h + 1) < bar)) (a 4 hd + ib (bt (a 25 m) l)) 17 0 hd).1))) 24 (if (mvF (decide (bt (a 25 m) l)) (fun h => a 19 (m * 16 + h)) (a 7 l) (fun h => decide (¬ nI (h + 1) < bar)) (a 4 hd + ib (bt (a 25 m) l)) 17 0 hd).2 = 0 then a 24 else upd (a 24) (m * 8 + l) (nI (mvF (decide (bt (a 25 m) l)) (fun h => a 19 (m * 16 + h)) (a 7 l) (fun h => decide (¬ nI (h + 1) < bar)) (a 4 hd + ib (bt (a 25 m) l)) 17 0 hd).2))) v t r) := by
    intro y hy
    subst hy
    have st57 : ∀ y2 : Int32, y2 = y → Rn E 0 mX0_move (57, [(8, .int y), (7, .int (nI hd)), (6, .int (nI (m * 8 + l))), (0, .ref 22), (1, .ref 3), (2, .ref 18), (3, .int (nI m)), (4, .int (nI l)), (5, .int bar)], [.int y2, .int (a 4 hd)], wX a v t r) (some (.int (nI (mvF (decide (bt (a 25 m) l)) (fun h => a 19 (m * 16 + h)) (a 7 l) (fun h => decide (¬ nI (h + 1) < bar)) (a 4 hd + ib (bt (a 25 m) l)) 17 0 hd).1)), wX (va_up (va_up a 23 (upd (a 23) (m * 8 + l) (nI (mvF (decide (bt (a 25 m) l)) (fun h => a 19 (m * 16 + h)) (a 7 l) (fun h => decide (¬ nI (h + 1) < bar)) (a 4 hd + ib (bt (a 25 m) l)) 17 0 hd).1))) 24 (if (mvF (decide (bt (a 25 m) l)) (fun h => a 19 (m * 16 + h)) (a 7 l) (fun h => decide (¬ nI (h + 1) < bar)) (a 4 hd + ib (bt (a 25 m) l)) 17 0 hd).2 = 0 then a 24 else upd (a 24) (m * 8 + l) (nI (mvF (decide (bt (a 25 m) l)) (fun h => a 19 (m * 16 + h)) (a 7 l) (fun h => decide (¬ nI (h + 1) < bar)) (a 4 hd + ib (bt (a 25 m) l)) 17 0 hd).2))) v t r) := by
      intro y2 hy2
      subst hy2
      rw [← hz]
      iterate 4 refine Rn.step rfl ?_
      exact key _ 17 0 hd (by omega) (by omega) (by omega) (by omega)
    repeat refine Rn.step rfl ?_
    refine Rn.ald hd rfl rfl hh (by decide) ?_
    repeat refine Rn.step rfl ?_
    refine Rn.br rfl (fun h1 => ?_) (fun h1 => ?_)
    · refine Rn.step rfl ?_
      exact st57 0 h1.symm
    · iterate 2 refine Rn.step rfl ?_
      refine st57 1 ?_
      rcases ib_01 (bt (a 25 m) l) with q | q
      · exact absurd (hz.trans q) h1
      · exact (hz.trans q).symm
  refine Rn.br rfl (fun h1 => ?_) (fun h1 => ?_)
  · refine Rn.step rfl ?_
    exact st38 0 (by rw [hz, ib_f h1])
  · iterate 2 refine Rn.step rfl ?_
    exact st38 1 (by rw [hz, ib_t (Decidable.not_not.mp h1)])
theorem r_mov2 {m l hd : Nat} (hm : m < 24) (hl : l < 8) (hh : hd < 16) (bar : Int32) (hH : a 32 (m * 8 + l) = nI hd) : Rn E 0 mX0_move (0, [(0, .ref 31), (1, .ref 3), (2, .ref 18), (3, .int (nI m)), (4, .int (nI l)), (5, .int bar)], [], wX a v t r) (some (.int (nI (mvF (decide (bt (a 34 m) l)) (fun h => a 19 (m * 16 + h)) (a 7 l) (fun h => decide (¬ nI (h + 1) < bar)) (a 4 hd + ib (bt (a 34 m) l)) 17 0 hd).1)), wX (va_up (va_up a 32 (upd (a 32) (m * 8 + l) (nI (mvF (decide (bt (a 34 m) l)) (fun h => a 19 (m * 16 + h)) (a 7 l) (fun h => decide (¬ nI (h + 1) < bar)) (a 4 hd + ib (bt (a 34 m) l)) 17 0 hd).1))) 33 (if (mvF (decide (bt (a 34 m) l)) (fun h => a 19 (m * 16 + h)) (a 7 l) (fun h => decide (¬ nI (h + 1) < bar)) (a 4 hd + ib (bt (a 34 m) l)) 17 0 hd).2 = 0 then a 33 else upd (a 33) (m * 8 + l) (nI (mvF (decide (bt (a 34 m) l)) (fun h => a 19 (m * 16 + h)) (a 7 l) (fun h => decide (¬ nI (h + 1) < bar)) (a 4 hd + ib (bt (a 34 m) l)) 17 0 hd).2))) v t r) := by
  obtain ⟨z, hz⟩ : ∃ z, z = ib (bt (a 34 m) l) := ⟨_, rfl⟩
  have e144 : ∀ (h : Nat) (S' : Nat → Int32) (L' : List (Nat × Value)), iLget L' 0 = some (.ref 31) → iLget L' 6 = some (.int (nI (m * 8 + l))) → iLget L' 7 = some (.int (nI h)) → Rn E 0 mX0_move (144, L', [], wX (va_up a 33 S') v t r) (some (.int (nI h)), wX (va_up (va_up a 32 (upd (a 32) (m * 8 + l) (nI h))) 33 S') v t r) := by
    intro h S' L' g0 g6 g7
    refine Rn.sub (L' := [(0, .ref 31), (6, .int (nI (m * 8 + l))), (7, .int (nI h))]) ⟨g0, g6, g7, trivial⟩ ?_
    repeat refine Rn.step rfl ?_
    refine Rn.ast (m * 8 + l) rfl rfl (by omega) (by decide) (h3 := wX (va_up (va_up a 32 (upd (a 32) (m * 8 + l) (nI h))) 33 S') v t r) rfl ?_
    repeat refine Rn.step rfl ?_
    exact Rn.ret rfl
  have key : ∀ (steps : Int32) (f k h : Nat), h ≤ 16 → 17 ≤ f + h → k ≤ 100 - f → f ≤ 17 → Rn E 0 mX0_move (63, [(10, .int (nI k)), (9, .int steps), (8, .int z), (7, .int (nI h)), (6, .int (nI (m * 8 + l))), (0, .ref 31), (1, .ref 3), (2, .ref 18), (3, .int (nI m)), (4, .int (nI l)), (5, .int bar)], [], wX a v t r) (some (.int (nI (mvF (decide (bt (a 34 m) l)) (fun h => a 19 (m * 16 + h)) (a 7 l) (fun h => decide (¬ nI (h + 1) < bar)) steps f k h).1)), wX (va_up (va_up a 32 (upd (a 32) (m * 8 + l) (nI (mvF (decide (bt (a 34 m) l)) (fun h => a 19 (m * 16 + h)) (a 7 l) (fun h => decide (¬ nI (h + 1) < bar)) steps f k h).1))) 33 (if (mvF (decide (bt (a 34 m) l)) (fun h => a 19 (m * 16 + h)) (a 7 l) (fun h => decide (¬ nI (h + 1) < bar)) steps f k h).2 = 0 then a 33 else upd (a 33) (m * 8 + l) (nI (mvF (decide (bt (a 34 m) l)) (fun h => a 19 (m * 16 + h)) (a 7 l) (fun h => decide (¬ nI (h + 1) < bar)) steps f k h).2))) v t r) := by
    intro steps f
    induction f with
    | zero => intro k h q1 q2; omega
    | succ f ih =>
      intro k h q1 q2 q3 q4
      unfold mvF
      repeat refine Rn.step rfl ?_
      refine Rn.br rfl (fun h1 => ?_) (fun h1 => ?_)
      · rw [if_pos (Or.inl h1)]
        exact e144 h (a 33) _ rfl rfl rfl
      repeat refine Rn.step rfl ?_
      refine Rn.br rfl (fun h2 => ?_) (fun h2 => ?_)
      · rw [if_pos (Or.inr ((nI_leI (a := 16) (by decide) (by omega)).mp h2))]
        exact e144 h (a 33) _ rfl rfl rfl
      have hlt : h < 16 := by
        rcases Nat.lt_or_ge h 16 with q | q
        · exact q
        · exact absurd (nI_le q (by omega)) h2
      rw [if_neg (fun q => q.elim h1 (fun q => by omega))]
      have s115 : ¬ (decide (bt (a 34 m) l) = false ∧ a 19 (m * 16 + h) < a 7 l) → Rn E 0 mX0_move (115, [(10, .int (nI k)), (9, .int steps), (8, .int z), (7, .int (nI h)), (6, .int (nI (m * 8 + l))), (0, .ref 31), (1, .ref 3), (2, .ref 18), (3, .int (nI m)), (4, .int (nI l)), (5, .int bar)], [], wX a v t r) (some (.int (nI (if decide (bt (a 34 m) l) = false ∧ a 19 (m * 16 + h) < a 7 l then (h, 1) else if decide (¬ nI (h + 1) < bar) = true then (h, 2) else mvF (decide (bt (a 34 m) l)) (fun h => a 19 (m * 16 + h)) (a 7 l) (fun h => decide (¬ nI (h + 1) < bar)) steps f (k + 1) (h + 1)).1)), wX (va_up (va_up a 32 (upd (a 32) (m * 8 + l) (nI (if decide (bt (a 34 m) l) = false ∧ a 19 (m * 16 + h) < a 7 l then (h, 1) else if decide (¬ nI (h + 1) < bar) = true then (h, 2) else mvF (decide (bt (a 34 m) l)) (fun h => a 19 (m * 16 + h)) (a 7 l) (fun h => decide (¬ nI (h + 1) < bar)) steps f (k + 1) (h + 1)).1))) 33 (if (if decide (bt (a 34 m) l) = false ∧ a 19 (m * 16 + h) < a 7 l then (h, 1) else if decide (¬ nI (h + 1) < bar) = true then (h, 2) else mvF (decide (bt (a 34 m) l)) (fun h => a 19 (m * 16 + h)) (a 7 l) (fun h => decide (¬ nI (h + 1) < bar)) steps f (k + 1) (h + 1)).2 = 0 then a 33 else upd (a 33) (m * 8 + l) (nI (if decide (bt (a 34 m) l) = false ∧ a 19 (m * 16 + h) < a 7 l then (h, 1) else if decide (¬ nI (h + 1) < bar) = true then (h, 2) else mvF (decide (bt (a 34 m) l)) (fun h => a 19 (m * 16 + h)) (a 7 l) (fun h => decide (¬ nI (h + 1) < bar)) steps f (k + 1) (h + 1)).2))) v t r) := by
        intro hn
        rw [if_neg hn]
        iterate 3 refine Rn.step rfl ?_
        refine Rn.top (nI_1 h) ?_
        refine Rn.step rfl ?_
        refine Rn.br rfl (fun h3 => ?_) (fun h3 => ?_)
        · rw [if_neg (by simp [h3])]
          iterate 3 refine Rn.step rfl ?_
          have k3 := ih (k + 1) (h + 1) (by omega) (by omega) (by omega) (by omega)
          rw [nI_succ, nI_succ] at k3
          exact Rn.sub (by exact ⟨rfl, rfl, rfl, rfl, rfl, rfl, rfl, rfl, rfl, rfl, rfl, trivial⟩) k3
        · rw [if_pos (by simp [h3])]
          repeat refine Rn.step rfl ?_
          refine Rn.ast (m * 8 + l) rfl rfl (by omega) (by decide) (h3 := wX (va_up a 33 (upd (a 33) (m * 8 + l) 2)) v t r) rfl ?_
          refine Rn.step rfl ?_
          exact e144 h (upd (a 33) (m * 8 + l) 2) _ rfl rfl rfl
      repeat refine Rn.step rfl ?_
      refine Rn.br rfl (fun h3 => ?_) (fun h3 => ?_)
      · exact s115 (fun q => (of_decide_eq_false q.1) (ib_ne0.mp (hz ▸ h3)))
      · repeat refine Rn.step rfl ?_
        refine Rn.ald (m * 16 + h) rfl (ix_ma m 16 h) (by omega) (by decide) ?_
        repeat refine Rn.step rfl ?_
        refine Rn.ald l rfl rfl hl (by decide) ?_
        refine Rn.br rfl (fun h4 => ?_) (fun h4 => ?_)
        · exact s115 (fun q => absurd q.2 (Int32.not_lt.mpr h4))
        · rw [if_pos ⟨decide_eq_false (ib_eq0.mp (hz ▸ Decidable.not_not.mp h3)), Int32.not_le.mp h4⟩]
          repeat refine Rn.step rfl ?_
          refine Rn.ast (m * 8 + l) rfl rfl (by omega) (by decide) (h3 := wX (va_up a 33 (upd (a 33) (m * 8 + l) 1)) v t r) rfl ?_
          refine Rn.step rfl ?_
          exact e144 h (upd (a 33) (m * 8 + l) 1) _ rfl rfl rfl
  iterate 5 refine Rn.step rfl ?_
  refine Rn.top (ix_ma m 8 l) ?_
  repeat refine Rn.step rfl ?_
  refine Rn.ald (m * 8 + l) rfl rfl (by omega) (by decide) ?_
  refine Rn.top hH ?_
  repeat refine Rn.step rfl ?_
  refine Rn.ald m rfl rfl hm (by decide) ?_
  repeat refine Rn.step rfl ?_
  have st38 : ∀ y : Int32, y = z → Rn E 0 mX0_move (38, [(7, .int (nI hd)), (6, .int (nI (m * 8 + l))), (0, .ref 31), (1, .ref 3), (2, .ref 18), (3, .int (nI m)), (4, .int (nI l)), (5, .int bar)], [.int y], wX a v t r) (some (.int (nI (mvF (decide (bt (a 34 m) l)) (fun h => a 19 (m * 16 + h)) (a 7 l) (fun h => decide (¬ nI (h + 1) < bar)) (a 4 hd + ib (bt (a 34 m) l)) 17 0 hd).1)), wX (va_up (va_up a 32 (upd (a 32) (m * 8 + l) (nI (mvF (decide (bt (a 34 m) l)) (fun h => a 19 (m * 16 + h)) (a 7 l) (fun h => decide (¬ nI (h + 1) < bar)) (a 4 hd + ib (bt (a 34 m) l)) 17 0 hd).1))) 33 (if (mvF (decide (bt (a 34 m) l)) (fun h => a 19 (m * 16 + h)) (a 7 l) (fun h => decide (¬ nI (h + 1) < bar)) (a 4 hd + ib (bt (a 34 m) l)) 17 0 hd).2 = 0 then a 33 else upd (a 33) (m * 8 + l) (nI (mvF (decide (bt (a 34 m) l)) (fun h => a 19 (m * 16 + h)) (a 7 l) (fun h => decide (¬ nI (h + 1) < bar)) (a 4 hd + ib (bt (a 34 m) l)) 17 0 hd).2))) v t r) := by
    intro y hy
    subst hy
    have st57 : ∀ y2 : Int32, y2 = y → Rn E 0 mX0_move (57, [(8, .int y), (7, .int (nI hd)), (6, .int (nI (m * 8 + l))), (0, .ref 31), (1, .ref 3), (2, .ref 18), (3, .int (nI m)), (4, .int (nI l)), (5, .int bar)], [.int y2, .int (a 4 hd)], wX a v t r) (some (.int (nI (mvF (decide (bt (a 34 m) l)) (fun h => a 19 (m * 16 + h)) (a 7 l) (fun h => decide (¬ nI (h + 1) < bar)) (a 4 hd + ib (bt (a 34 m) l)) 17 0 hd).1)), wX (va_up (va_up a 32 (upd (a 32) (m * 8 + l) (nI (mvF (decide (bt (a 34 m) l)) (fun h => a 19 (m * 16 + h)) (a 7 l) (fun h => decide (¬ nI (h + 1) < bar)) (a 4 hd + ib (bt (a 34 m) l)) 17 0 hd).1))) 33 (if (mvF (decide (bt (a 34 m) l)) (fun h => a 19 (m * 16 + h)) (a 7 l) (fun h => decide (¬ nI (h + 1) < bar)) (a 4 hd + ib (bt (a 34 m) l)) 17 0 hd).2 = 0 then a 33 else upd (a 33) (m * 8 + l) (nI (mvF (decide (bt (a 34 m) l)) (fun h => a 19 (m * 16 + h)) (a 7 l) (fun h => decide (¬ nI (h + 1) < bar)) (a 4 hd + ib (bt (a 34 m) l)) 17 0 hd).2))) v t r) := by
      intro y2 hy2
      subst hy2
      rw [← hz]
      iterate 4 refine Rn.step rfl ?_
      exact key _ 17 0 hd (by omega) (by omega) (by omega) (by omega)
    repeat refine Rn.step rfl ?_
    refine Rn.ald hd rfl rfl hh (by decide) ?_
    repeat refine Rn.step rfl ?_
    refine Rn.br rfl (fun h1 => ?_) (fun h1 => ?_)
    · refine Rn.step rfl ?_
      exact st57 0 h1.symm
    · iterate 2 refine Rn.step rfl ?_
      refine st57 1 ?_
      rcases ib_01 (bt (a 34 m) l) with q | q
      · exact absurd (hz.trans q) h1
      · exact (hz.trans q).symm
  refine Rn.br rfl (fun h1 => ?_) (fun h1 => ?_)
  · refine Rn.step rfl ?_
    exact st38 0 (by rw [hz, ib_f h1])
  · iterate 2 refine Rn.step rfl ?_
    exact st38 1 (by rw [hz, ib_t (Decidable.not_not.mp h1)])
theorem r_mov3 {m l hd : Nat} (hm : m < 24) (hl : l < 8) (hh : hd < 16) (bar : Int32) (hH : a 32 (m * 8 + l) = nI hd) : Rn E 0 mX0_move (0, [(0, .ref 31), (1, .ref 3), (2, .ref 27), (3, .int (nI m)), (4, .int (nI l)), (5, .int bar)], [], wX a v t r) (some (.int (nI (mvF (decide (bt (a 34 m) l)) (fun h => a 28 (m * 16 + h)) (a 7 l) (fun h => decide (¬ nI (h + 1) < bar)) (a 4 hd + ib (bt (a 34 m) l)) 17 0 hd).1)), wX (va_up (va_up a 32 (upd (a 32) (m * 8 + l) (nI (mvF (decide (bt (a 34 m) l)) (fun h => a 28 (m * 16 + h)) (a 7 l) (fun h => decide (¬ nI (h + 1) < bar)) (a 4 hd + ib (bt (a 34 m) l)) 17 0 hd).1))) 33 (if (mvF (decide (bt (a 34 m) l)) (fun h => a 28 (m * 16 + h)) (a 7 l) (fun h => decide (¬ nI (h + 1) < bar)) (a 4 hd + ib (bt (a 34 m) l)) 17 0 hd).2 = 0 then a 33 else upd (a 33) (m * 8 + l) (nI (mvF (decide (bt (a 34 m) l)) (fun h => a 28 (m * 16 + h)) (a 7 l) (fun h => decide (¬ nI (h + 1) < bar)) (a 4 hd + ib (bt (a 34 m) l)) 17 0 hd).2))) v t r) := by
  obtain ⟨z, hz⟩ : ∃ z, z = ib (bt (a 34 m) l) := ⟨_, rfl⟩
  have e144 : ∀ (h : Nat) (S' : Nat → Int32) (L' : List (Nat × Value)), iLget L' 0 = some (.ref 31) → iLget L' 6 = some (.int (nI (m * 8 + l))) → iLget L' 7 = some (.int (nI h)) → Rn E 0 mX0_move (144, L', [], wX (va_up a 33 S') v t r) (some (.int (nI h)), wX (va_up (va_up a 32 (upd (a 32) (m * 8 + l) (nI h))) 33 S') v t r) := by
    intro h S' L' g0 g6 g7
    refine Rn.sub (L' := [(0, .ref 31), (6, .int (nI (m * 8 + l))), (7, .int (nI h))]) ⟨g0, g6, g7, trivial⟩ ?_
    repeat refine Rn.step rfl ?_
    refine Rn.ast (m * 8 + l) rfl rfl (by omega) (by decide) (h3 := wX (va_up (va_up a 32 (upd (a 32) (m * 8 + l) (nI h))) 33 S') v t r) rfl ?_
    repeat refine Rn.step rfl ?_
    exact Rn.ret rfl
  have key : ∀ (steps : Int32) (f k h : Nat), h ≤ 16 → 17 ≤ f + h → k ≤ 100 - f → f ≤ 17 → Rn E 0 mX0_move (63, [(10, .int (nI k)), (9, .int steps), (8, .int z), (7, .int (nI h)), (6, .int (nI (m * 8 + l))), (0, .ref 31), (1, .ref 3), (2, .ref 27), (3, .int (nI m)), (4, .int (nI l)), (5, .int bar)], [], wX a v t r) (some (.int (nI (mvF (decide (bt (a 34 m) l)) (fun h => a 28 (m * 16 + h)) (a 7 l) (fun h => decide (¬ nI (h + 1) < bar)) steps f k h).1)), wX (va_up (va_up a 32 (upd (a 32) (m * 8 + l) (nI (mvF (decide (bt (a 34 m) l)) (fun h => a 28 (m * 16 + h)) (a 7 l) (fun h => decide (¬ nI (h + 1) < bar)) steps f k h).1))) 33 (if (mvF (decide (bt (a 34 m) l)) (fun h => a 28 (m * 16 + h)) (a 7 l) (fun h => decide (¬ nI (h + 1) < bar)) steps f k h).2 = 0 then a 33 else upd (a 33) (m * 8 + l) (nI (mvF (decide (bt (a 34 m) l)) (fun h => a 28 (m * 16 + h)) (a 7 l) (fun h => decide (¬ nI (h + 1) < bar)) steps f k h).2))) v t r) := by
    intro steps f
    induction f with
    | zero => intro k h q1 q2; omega
    | succ f ih =>
      intro k h q1 q2 q3 q4
      unfold mvF
      repeat refine Rn.step rfl ?_
      refine Rn.br rfl (fun h1 => ?_) (fun h1 => ?_)
      · rw [if_pos (Or.inl h1)]
        exact e144 h (a 33) _ rfl rfl rfl
      repeat refine Rn.step rfl ?_
      refine Rn.br rfl (fun h2 => ?_) (fun h2 => ?_)
      · rw [if_pos (Or.inr ((nI_leI (a := 16) (by decide) (by omega)).mp h2))]
        exact e144 h (a 33) _ rfl rfl rfl
      have hlt : h < 16 := by
        rcases Nat.lt_or_ge h 16 with q | q
        · exact q
        · exact absurd (nI_le q (by omega)) h2
      rw [if_neg (fun q => q.elim h1 (fun q => by omega))]
      have s115 : ¬ (decide (bt (a 34 m) l) = false ∧ a 28 (m * 16 + h) < a 7 l) → Rn E 0 mX0_move (115, [(10, .int (nI k)), (9, .int steps), (8, .int z), (7, .int (nI h)), (6, .int (nI (m * 8 + l))), (0, .ref 31), (1, .ref 3), (2, .ref 27), (3, .int (nI m)), (4, .int (nI l)), (5, .int bar)], [], wX a v t r) (some (.int (nI (if decide (bt (a 34 m) l) = false ∧ a 28 (m * 16 + h) < a 7 l then (h, 1) else if decide (¬ nI (h + 1) < bar) = true then (h, 2) else mvF (decide (bt (a 34 m) l)) (fun h => a 28 (m * 16 + h)) (a 7 l) (fun h => decide (¬ nI (h + 1) < bar)) steps f (k + 1) (h + 1)).1)), wX (va_up (va_up a 32 (upd (a 32) (m * 8 + l) (nI (if decide (bt (a 34 m) l) = false ∧ a 28 (m * 16 + h) < a 7 l then (h, 1) else if decide (¬ nI (h + 1) < bar) = true then (h, 2) else mvF (decide (bt (a 34 m) l)) (fun h => a 28 (m * 16 + h)) (a 7 l) (fun h => decide (¬ nI (h + 1) < bar)) steps f (k + 1) (h + 1)).1))) 33 (if (if decide (bt (a 34 m) l) = false ∧ a 28 (m * 16 + h) < a 7 l then (h, 1) else if decide (¬ nI (h + 1) < bar) = true then (h, 2) else mvF (decide (bt (a 34 m) l)) (fun h => a 28 (m * 16 + h)) (a 7 l) (fun h => decide (¬ nI (h + 1) < bar)) steps f (k + 1) (h + 1)).2 = 0 then a 33 else upd (a 33) (m * 8 + l) (nI (if decide (bt (a 34 m) l) = false ∧ a 28 (m * 16 + h) < a 7 l then (h, 1) else if decide (¬ nI (h + 1) < bar) = true then (h, 2) else mvF (decide (bt (a 34 m) l)) (fun h => a 28 (m * 16 + h)) (a 7 l) (fun h => decide (¬ nI (h + 1) < bar)) steps f (k + 1) (h + 1)).2))) v t r) := by
        intro hn
        rw [if_neg hn]
        iterate 3 refine Rn.step rfl ?_
        refine Rn.top (nI_1 h) ?_
        refine Rn.step rfl ?_
        refine Rn.br rfl (fun h3 => ?_) (fun h3 => ?_)
        · rw [if_neg (by simp [h3])]
          iterate 3 refine Rn.step rfl ?_
          have k3 := ih (k + 1) (h + 1) (by omega) (by omega) (by omega) (by omega)
          rw [nI_succ, nI_succ] at k3
          exact Rn.sub (by exact ⟨rfl, rfl, rfl, rfl, rfl, rfl, rfl, rfl, rfl, rfl, rfl, trivial⟩) k3
        · rw [if_pos (by simp [h3])]
          repeat refine Rn.step rfl ?_
          refine Rn.ast (m * 8 + l) rfl rfl (by omega) (by decide) (h3 := wX (va_up a 33 (upd (a 33) (m * 8 + l) 2)) v t r) rfl ?_
          refine Rn.step rfl ?_
          exact e144 h (upd (a 33) (m * 8 + l) 2) _ rfl rfl rfl
      repeat refine Rn.step rfl ?_
      refine Rn.br rfl (fun h3 => ?_) (fun h3 => ?_)
      · exact s115 (fun q => (of_decide_eq_false q.1) (ib_ne0.mp (hz ▸ h3)))
      · repeat refine Rn.step rfl ?_
        refine Rn.ald (m * 16 + h) rfl (ix_ma m 16 h) (by omega) (by decide) ?_
        repeat refine Rn.step rfl ?_
        refine Rn.ald l rfl rfl hl (by decide) ?_
        refine Rn.br rfl (fun h4 => ?_) (fun h4 => ?_)
        · exact s115 (fun q => absurd q.2 (Int32.not_lt.mpr h4))
        · rw [if_pos ⟨decide_eq_false (ib_eq0.mp (hz ▸ Decidable.not_not.mp h3)), Int32.not_le.mp h4⟩]
          repeat refine Rn.step rfl ?_
          refine Rn.ast (m * 8 + l) rfl rfl (by omega) (by decide) (h3 := wX (va_up a 33 (upd (a 33) (m * 8 + l) 1)) v t r) rfl ?_
          refine Rn.step rfl ?_
          exact e144 h (upd (a 33) (m * 8 + l) 1) _ rfl rfl rfl
  iterate 5 refine Rn.step rfl ?_
  refine Rn.top (ix_ma m 8 l) ?_
  repeat refine Rn.step rfl ?_
  refine Rn.ald (m * 8 + l) rfl rfl (by omega) (by decide) ?_
  refine Rn.top hH ?_
  repeat refine Rn.step rfl ?_
  refine Rn.ald m rfl rfl hm (by decide) ?_
  repeat refine Rn.step rfl ?_
  have st38 : ∀ y : Int32, y = z → Rn E 0 mX0_move (38, [(7, .int (nI hd)), (6, .int (nI (m * 8 + l))), (0, .ref 31), (1, .ref 3), (2, .ref 27), (3, .int (nI m)), (4, .int (nI l)), (5, .int bar)], [.int y], wX a v t r) (some (.int (nI (mvF (decide (bt (a 34 m) l)) (fun h => a 28 (m * 16 + h)) (a 7 l) (fun h => decide (¬ nI (h + 1) < bar)) (a 4 hd + ib (bt (a 34 m) l)) 17 0 hd).1)), wX (va_up (va_up a 32 (upd (a 32) (m * 8 + l) (nI (mvF (decide (bt (a 34 m) l)) (fun h => a 28 (m * 16 + h)) (a 7 l) (fun h => decide (¬ nI (h + 1) < bar)) (a 4 hd + ib (bt (a 34 m) l)) 17 0 hd).1))) 33 (if (mvF (decide (bt (a 34 m) l)) (fun h => a 28 (m * 16 + h)) (a 7 l) (fun h => decide (¬ nI (h + 1) < bar)) (a 4 hd + ib (bt (a 34 m) l)) 17 0 hd).2 = 0 then a 33 else upd (a 33) (m * 8 + l) (nI (mvF (decide (bt (a 34 m) l)) (fun h => a 28 (m * 16 + h)) (a 7 l) (fun h => decide (¬ nI (h + 1) < bar)) (a 4 hd + ib (bt (a 34 m) l)) 17 0 hd).2))) v t r) := by
    intro y hy
    subst hy
    have st57 : ∀ y2 : Int32, y2 = y → Rn E 0 mX0_move (57, [(8, .int y), (7, .int (nI hd)), (6, .int (nI (m * 8 + l))), (0, .ref 31), (1, .ref 3), (2, .ref 27), (3, .int (nI m)), (4, .int (nI l)), (5, .int bar)], [.int y2, .int (a 4 hd)], wX a v t r) (some (.int (nI (mvF (decide (bt (a 34 m) l)) (fun h => a 28 (m * 16 + h)) (a 7 l) (fun h => decide (¬ nI (h + 1) < bar)) (a 4 hd + ib (bt (a 34 m) l)) 17 0 hd).1)), wX (va_up (va_up a 32 (upd (a 32) (m * 8 + l) (nI (mvF (decide (bt (a 34 m) l)) (fun h => a 28 (m * 16 + h)) (a 7 l) (fun h => decide (¬ nI (h + 1) < bar)) (a 4 hd + ib (bt (a 34 m) l)) 17 0 hd).1))) 33 (if (mvF (decide (bt (a 34 m) l)) (fun h => a 28 (m * 16 + h)) (a 7 l) (fun h => decide (¬ nI (h + 1) < bar)) (a 4 hd + ib (bt (a 34 m) l)) 17 0 hd).2 = 0 then a 33 else upd (a 33) (m * 8 + l) (nI (mvF (decide (bt (a 34 m) l)) (fun h => a 28 (m * 16 + h)) (a 7 l) (fun h => decide (¬ nI (h + 1) < bar)) (a 4 hd + ib (bt (a 34 m) l)) 17 0 hd).2))) v t r) := by
      intro y2 hy2
      subst hy2
      rw [← hz]
      iterate 4 refine Rn.step rfl ?_
      exact key _ 17 0 hd (by omega) (by omega) (by omega) (by omega)
    repeat refine Rn.step rfl ?_
    refine Rn.ald hd rfl rfl hh (by decide) ?_
    repeat refine Rn.step rfl ?_
    refine Rn.br rfl (fun h1 => ?_) (fun h1 => ?_)
    · refine Rn.step rfl ?_
      exact st57 0 h1.symm
    · iterate 2 refine Rn.step rfl ?_
      refine st57 1 ?_
      rcases ib_01 (bt (a 34 m) l) with q | q
      · exact absurd (hz.trans q) h1
      · exact (hz.trans q).symm
  refine Rn.br rfl (fun h1 => ?_) (fun h1 => ?_)
  · refine Rn.step rfl ?_
    exact st38 0 (by rw [hz, ib_f h1])
  · iterate 2 refine Rn.step rfl ?_
    exact st38 1 (by rw [hz, ib_t (Decidable.not_not.mp h1)])
end X6
