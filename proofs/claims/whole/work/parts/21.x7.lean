section X7
variable {E : iExtT} {a : Nat → Nat → Int32} {v : Nat → Int32} {t : Nat → Nat → Int64} {r : List va_E}
/-- who is put in: the first that waits -/
def piF (m : Nat) (st : Nat → Int32) (z : Nat) (wt : Int32) : Nat → Nat → Option Nat
  | _, 0 => none
  | i, j + 1 => if bt wt i ∧ ¬ nI m < st i ∧ z < 8 then some i else piF m st z wt (i + 1) j
theorem piF_lt {m : Nat} {st : Nat → Int32} {z : Nat} {wt : Int32} : ∀ (j i l : Nat), piF m st z wt i j = some l → l < i + j ∧ z < 8 := by
  intro j
  induction j with
  | zero => intro i l h; cases h
  | succ j ih =>
    intro i l h
    unfold piF at h
    split at h
    · rename_i hc
      cases h
      exact ⟨by omega, hc.2.2⟩
    · have := ih (i + 1) l h
      exact ⟨by omega, this.2⟩
/-- the drive's numbers: heads, states, the line, how many are in it, who waits -/
abbrev dS : Type := (Nat → Int32) × (Nat → Int32) × (Nat → Int32) × Nat × Int32
def pnF (n m : Nat) (st : Nat → Int32) (x : dS) : dS := match piF m st x.2.2.2.1 x.2.2.2.2 0 n with
  | none => x
  | some l => (upd x.1 (m * 8 + l) 0, x.2.1, upd x.2.2.1 x.2.2.2.1 (nI l), x.2.2.2.1 + 1, x.2.2.2.2 &&& (sh1 (nI l) ^^^ -1))
def mx0 (x : Int32) : Int32 := if x < 0 then 0 else x
def mvQ (sl de wl : Nat → Int32) (po : Int32) (m l : Nat) (bar x : Int32) : Nat × Nat := mvF (decide (bt po l)) (fun h => wl (m * 16 + h)) (de l) (fun h => decide (¬ nI (h + 1) < bar)) (sl x.toNatClampNeg + ib (bt po l)) 17 0 x.toNatClampNeg
def lnF (sl de ta wl : Nat → Int32) (po : Int32) (m : Nat) (LN : Nat → Int32) (i : Nat) (x : (Nat → Int32) × (Nat → Int32) × Int32) : (Nat → Int32) × (Nat → Int32) × Int32 :=
  if inB (x.1 (m * 8 + (LN i).toNatClampNeg)) 16 then
    (upd x.1 (m * 8 + (LN i).toNatClampNeg) (nI (mvQ sl de wl po m (LN i).toNatClampNeg x.2.2 (x.1 (m * 8 + (LN i).toNatClampNeg))).1),
     if (mvQ sl de wl po m (LN i).toNatClampNeg x.2.2 (x.1 (m * 8 + (LN i).toNatClampNeg))).2 = 0 then x.2.1 else upd x.2.1 (m * 8 + (LN i).toNatClampNeg) (nI (mvQ sl de wl po m (LN i).toNatClampNeg x.2.2 (x.1 (m * 8 + (LN i).toNatClampNeg))).2),
     if nI (mvQ sl de wl po m (LN i).toNatClampNeg x.2.2 (x.1 (m * 8 + (LN i).toNatClampNeg))).1 = 16 then x.2.2 else mx0 (nI (mvQ sl de wl po m (LN i).toNatClampNeg x.2.2 (x.1 (m * 8 + (LN i).toNatClampNeg))).1 - ta (LN i).toNatClampNeg))
  else x
def mnY (n : Nat) (sl de ta wl po : Nat → Int32) (m : Nat) (x : dS) : (Nat → Int32) × (Nat → Int32) × Int32 := lp (lnF sl de ta wl (po m) m x.2.2.1) 0 x.2.2.2.1 ((bmF n m (x.1, x.2.1)).1, (bmF n m (x.1, x.2.1)).2, 17)
def mnF (n : Nat) (sl de ta st wl po : Nat → Int32) (m : Nat) (x : dS) : dS := if 0 < (mnY n sl de ta wl po m x).2.2 then pnF n m st ((mnY n sl de ta wl po m x).1, (mnY n sl de ta wl po m x).2.1, x.2.2) else ((mnY n sl de ta wl po m x).1, (mnY n sl de ta wl po m x).2.1, x.2.2)
def rnF (n : Nat) (sl de ta st wl po : Nat → Int32) (x : dS) : dS := lp (mnF n sl de ta st wl po) 0 24 x
/-- the line's entries are logs -/
def lnOk (n : Nat) (x : dS) : Prop := x.2.2.2.1 ≤ 8 ∧ ∀ i, i < x.2.2.2.1 → ∃ l, l < n ∧ x.2.2.1 i = nI l
theorem pnF_ok {n m : Nat} {st : Nat → Int32} {x : dS} (h : lnOk n x) : lnOk n (pnF n m st x) := by
  unfold pnF
  split
  · exact h
  · rename_i l hl
    have hq := piF_lt _ _ _ hl
    refine ⟨by show _ + 1 ≤ 8; omega, fun i hi => ?_⟩
    show ∃ l', l' < n ∧ upd x.2.2.1 x.2.2.2.1 (nI l) i = nI l'
    by_cases hx : i = x.2.2.2.1
    · exact ⟨l, by omega, by rw [hx]; exact pk_us⟩
    · obtain ⟨l', h1, h2⟩ := h.2 i (by have hi' : i < x.2.2.2.1 + 1 := hi; omega)
      exact ⟨l', h1, by rw [pk_un hx]; exact h2⟩
theorem mnF_ok {n : Nat} {sl de ta st wl po : Nat → Int32} {m : Nat} {x : dS} (h : lnOk n x) : lnOk n (mnF n sl de ta st wl po m x) := by
  unfold mnF
  split
  · exact pnF_ok h
  · exact h
theorem r_put1 {n m : Nat} (hn : n ≤ 8) (hv : v 4 = nI n) (hm : m < 24) (x : dS) (hz : x.2.2.2.1 ≤ 8) : Rn E 0 mX0_putIn (0, [(0, .ref 22), (1, .ref 3), (2, .int (nI m))], [], wX (va_up (va_up (va_up a 23 x.1) 24 x.2.1) 26 x.2.2.1) (upd (upd v 7 (nI x.2.2.2.1)) 8 x.2.2.2.2) t r) (none, wX (va_up (va_up (va_up a 23 (pnF n m (a 6) x).1) 24 (pnF n m (a 6) x).2.1) 26 (pnF n m (a 6) x).2.2.1) (upd (upd v 7 (nI (pnF n m (a 6) x).2.2.2.1)) 8 (pnF n m (a 6) x).2.2.2.2) t r) := by
  obtain ⟨H, S, LN, z, wt⟩ := x
  dsimp only at hz
  have key : ∀ (j i : Nat), i + j = n → Rn E 0 mX0_putIn (2, [(3, .int (nI i)), (0, .ref 22), (1, .ref 3), (2, .int (nI m))], [], wX (va_up (va_up (va_up a 23 (H, S, LN, z, wt).1) 24 (H, S, LN, z, wt).2.1) 26 (H, S, LN, z, wt).2.2.1) (upd (upd v 7 (nI (H, S, LN, z, wt).2.2.2.1)) 8 (H, S, LN, z, wt).2.2.2.2) t r) (none, match piF m (a 6) z wt i j with
      | none => wX (va_up (va_up (va_up a 23 (H, S, LN, z, wt).1) 24 (H, S, LN, z, wt).2.1) 26 (H, S, LN, z, wt).2.2.1) (upd (upd v 7 (nI (H, S, LN, z, wt).2.2.2.1)) 8 (H, S, LN, z, wt).2.2.2.2) t r
      | some l => wX (va_up (va_up (va_up a 23 (upd H (m * 8 + l) 0, S, upd LN z (nI l), z + 1, wt &&& (sh1 (nI l) ^^^ -1)).1) 24 (upd H (m * 8 + l) 0, S, upd LN z (nI l), z + 1, wt &&& (sh1 (nI l) ^^^ -1)).2.1) 26 (upd H (m * 8 + l) 0, S, upd LN z (nI l), z + 1, wt &&& (sh1 (nI l) ^^^ -1)).2.2.1) (upd (upd v 7 (nI (upd H (m * 8 + l) 0, S, upd LN z (nI l), z + 1, wt &&& (sh1 (nI l) ^^^ -1)).2.2.2.1)) 8 (upd H (m * 8 + l) 0, S, upd LN z (nI l), z + 1, wt &&& (sh1 (nI l) ^^^ -1)).2.2.2.2) t r) := by
    intro j
    induction j with
    | zero =>
      intro i hi
      repeat refine Rn.step rfl ?_
      refine Rn.br1 rfl (by show v 4 ≤ nI i; rw [hv]; exact nI_le (by omega) (by omega)) ?_
      exact Rn.ret rfl
    | succ j ih =>
      intro i hi
      have k3 := ih (i + 1) (by omega)
      rw [nI_succ] at k3
      repeat refine Rn.step rfl ?_
      refine Rn.br2 rfl (by show ¬ v 4 ≤ nI i; rw [hv]; exact nle (by omega) (by omega)) ?_
      repeat refine Rn.step rfl ?_
      unfold piF
      refine Rn.br rfl (fun h1 => ?_) (fun h1 => ?_)
      · rw [if_neg (fun q => h1 q.1)]
        iterate 2 refine Rn.step rfl ?_
        exact k3
      repeat refine Rn.step rfl ?_
      refine Rn.ald i rfl rfl (by omega) (by decide) ?_
      refine Rn.step rfl ?_
      refine Rn.br rfl (fun h2 => ?_) (fun h2 => ?_)
      · rw [if_neg (fun q => q.2.1 h2)]
        iterate 2 refine Rn.step rfl ?_
        exact k3
      repeat refine Rn.step rfl ?_
      refine Rn.br rfl (fun h3 => ?_) (fun h3 => ?_)
      · rw [if_neg (fun q => nle (n := 8) q.2.2 (by decide) h3)]
        iterate 2 refine Rn.step rfl ?_
        exact k3
      have h3' : z < 8 := by
        rcases Nat.lt_or_ge z 8 with q | q
        · exact q
        · exact absurd (nI_le (a := 8) q (by omega)) h3
      rw [if_pos ⟨Decidable.not_not.mp h1, h2, h3'⟩]
      iterate 10 refine Rn.step rfl ?_
      refine Rn.hp (h2 := wX (va_up (va_up (va_up a 23 (H, S, LN, z, wt &&& (sh1 (nI i) ^^^ -1)).1) 24 (H, S, LN, z, wt &&& (sh1 (nI i) ^^^ -1)).2.1) 26 (H, S, LN, z, wt &&& (sh1 (nI i) ^^^ -1)).2.2.1) (upd (upd v 7 (nI (H, S, LN, z, wt &&& (sh1 (nI i) ^^^ -1)).2.2.2.1)) 8 (H, S, LN, z, wt &&& (sh1 (nI i) ^^^ -1)).2.2.2.2) t r) rfl ?_
      repeat refine Rn.step rfl ?_
      refine Rn.ast z rfl rfl h3' (by decide) (h3 := wX (va_up (va_up (va_up a 23 (H, S, upd LN z (nI i), z, wt &&& (sh1 (nI i) ^^^ -1)).1) 24 (H, S, upd LN z (nI i), z, wt &&& (sh1 (nI i) ^^^ -1)).2.1) 26 (H, S, upd LN z (nI i), z, wt &&& (sh1 (nI i) ^^^ -1)).2.2.1) (upd (upd v 7 (nI (H, S, upd LN z (nI i), z, wt &&& (sh1 (nI i) ^^^ -1)).2.2.2.1)) 8 (H, S, upd LN z (nI i), z, wt &&& (sh1 (nI i) ^^^ -1)).2.2.2.2) t r) rfl ?_
      iterate 5 refine Rn.step rfl ?_
      refine Rn.top (nI_1 z) ?_
      refine Rn.step rfl ?_
      refine Rn.hp (h2 := wX (va_up (va_up (va_up a 23 (H, S, upd LN z (nI i), z + 1, wt &&& (sh1 (nI i) ^^^ -1)).1) 24 (H, S, upd LN z (nI i), z + 1, wt &&& (sh1 (nI i) ^^^ -1)).2.1) 26 (H, S, upd LN z (nI i), z + 1, wt &&& (sh1 (nI i) ^^^ -1)).2.2.1) (upd (upd v 7 (nI (H, S, upd LN z (nI i), z + 1, wt &&& (sh1 (nI i) ^^^ -1)).2.2.2.1)) 8 (H, S, upd LN z (nI i), z + 1, wt &&& (sh1 (nI i) ^^^ -1)).2.2.2.2) t r) rfl ?_
      repeat refine Rn.step rfl ?_
      refine Rn.ast (m * 8 + i) rfl (ix_ma m 8 i) (by omega) (by decide) (h3 := wX (va_up (va_up (va_up a 23 (upd H (m * 8 + i) 0, S, upd LN z (nI i), z + 1, wt &&& (sh1 (nI i) ^^^ -1)).1) 24 (upd H (m * 8 + i) 0, S, upd LN z (nI i), z + 1, wt &&& (sh1 (nI i) ^^^ -1)).2.1) 26 (upd H (m * 8 + i) 0, S, upd LN z (nI i), z + 1, wt &&& (sh1 (nI i) ^^^ -1)).2.2.1) (upd (upd v 7 (nI (upd H (m * 8 + i) 0, S, upd LN z (nI i), z + 1, wt &&& (sh1 (nI i) ^^^ -1)).2.2.2.1)) 8 (upd H (m * 8 + i) 0, S, upd LN z (nI i), z + 1, wt &&& (sh1 (nI i) ^^^ -1)).2.2.2.2) t r) rfl ?_
      exact Rn.ret rfl
  iterate 2 refine Rn.step rfl ?_
  have k0 := key n 0 (by omega)
  unfold pnF
  cases hp : piF m (a 6) z wt 0 n with
  | none =>
    rw [hp] at k0
    simp only [hp]
    exact k0
  | some l =>
    rw [hp] at k0
    simp only [hp]
    exact k0
theorem r_put2 {n m : Nat} (hn : n ≤ 8) (hv : v 4 = nI n) (hm : m < 24) (x : dS) (hz : x.2.2.2.1 ≤ 8) : Rn E 0 mX0_putIn (0, [(0, .ref 31), (1, .ref 3), (2, .int (nI m))], [], wX (va_up (va_up (va_up a 32 x.1) 33 x.2.1) 35 x.2.2.1) (upd (upd v 9 (nI x.2.2.2.1)) 10 x.2.2.2.2) t r) (none, wX (va_up (va_up (va_up a 32 (pnF n m (a 6) x).1) 33 (pnF n m (a 6) x).2.1) 35 (pnF n m (a 6) x).2.2.1) (upd (upd v 9 (nI (pnF n m (a 6) x).2.2.2.1)) 10 (pnF n m (a 6) x).2.2.2.2) t r) := by
  obtain ⟨H, S, LN, z, wt⟩ := x
  dsimp only at hz
  have key : ∀ (j i : Nat), i + j = n → Rn E 0 mX0_putIn (2, [(3, .int (nI i)), (0, .ref 31), (1, .ref 3), (2, .int (nI m))], [], wX (va_up (va_up (va_up a 32 (H, S, LN, z, wt).1) 33 (H, S, LN, z, wt).2.1) 35 (H, S, LN, z, wt).2.2.1) (upd (upd v 9 (nI (H, S, LN, z, wt).2.2.2.1)) 10 (H, S, LN, z, wt).2.2.2.2) t r) (none, match piF m (a 6) z wt i j with
      | none => wX (va_up (va_up (va_up a 32 (H, S, LN, z, wt).1) 33 (H, S, LN, z, wt).2.1) 35 (H, S, LN, z, wt).2.2.1) (upd (upd v 9 (nI (H, S, LN, z, wt).2.2.2.1)) 10 (H, S, LN, z, wt).2.2.2.2) t r
      | some l => wX (va_up (va_up (va_up a 32 (upd H (m * 8 + l) 0, S, upd LN z (nI l), z + 1, wt &&& (sh1 (nI l) ^^^ -1)).1) 33 (upd H (m * 8 + l) 0, S, upd LN z (nI l), z + 1, wt &&& (sh1 (nI l) ^^^ -1)).2.1) 35 (upd H (m * 8 + l) 0, S, upd LN z (nI l), z + 1, wt &&& (sh1 (nI l) ^^^ -1)).2.2.1) (upd (upd v 9 (nI (upd H (m * 8 + l) 0, S, upd LN z (nI l), z + 1, wt &&& (sh1 (nI l) ^^^ -1)).2.2.2.1)) 10 (upd H (m * 8 + l) 0, S, upd LN z (nI l), z + 1, wt &&& (sh1 (nI l) ^^^ -1)).2.2.2.2) t r) := by
    intro j
    induction j with
    | zero =>
      intro i hi
      repeat refine Rn.step rfl ?_
      refine Rn.br1 rfl (by show v 4 ≤ nI i; rw [hv]; exact nI_le (by omega) (by omega)) ?_
      exact Rn.ret rfl
    | succ j ih =>
      intro i hi
      have k3 := ih (i + 1) (by omega)
      rw [nI_succ] at k3
      repeat refine Rn.step rfl ?_
      refine Rn.br2 rfl (by show ¬ v 4 ≤ nI i; rw [hv]; exact nle (by omega) (by omega)) ?_
      repeat refine Rn.step rfl ?_
      unfold piF
      refine Rn.br rfl (fun h1 => ?_) (fun h1 => ?_)
      · rw [if_neg (fun q => h1 q.1)]
        iterate 2 refine Rn.step rfl ?_
        exact k3
      repeat refine Rn.step rfl ?_
      refine Rn.ald i rfl rfl (by omega) (by decide) ?_
      refine Rn.step rfl ?_
      refine Rn.br rfl (fun h2 => ?_) (fun h2 => ?_)
      · rw [if_neg (fun q => q.2.1 h2)]
        iterate 2 refine Rn.step rfl ?_
        exact k3
      repeat refine Rn.step rfl ?_
      refine Rn.br rfl (fun h3 => ?_) (fun h3 => ?_)
      · rw [if_neg (fun q => nle (n := 8) q.2.2 (by decide) h3)]
        iterate 2 refine Rn.step rfl ?_
        exact k3
      have h3' : z < 8 := by
        rcases Nat.lt_or_ge z 8 with q | q
        · exact q
        · exact absurd (nI_le (a := 8) q (by omega)) h3
      rw [if_pos ⟨Decidable.not_not.mp h1, h2, h3'⟩]
      iterate 10 refine Rn.step rfl ?_
      refine Rn.hp (h2 := wX (va_up (va_up (va_up a 32 (H, S, LN, z, wt &&& (sh1 (nI i) ^^^ -1)).1) 33 (H, S, LN, z, wt &&& (sh1 (nI i) ^^^ -1)).2.1) 35 (H, S, LN, z, wt &&& (sh1 (nI i) ^^^ -1)).2.2.1) (upd (upd v 9 (nI (H, S, LN, z, wt &&& (sh1 (nI i) ^^^ -1)).2.2.2.1)) 10 (H, S, LN, z, wt &&& (sh1 (nI i) ^^^ -1)).2.2.2.2) t r) rfl ?_
      repeat refine Rn.step rfl ?_
      refine Rn.ast z rfl rfl h3' (by decide) (h3 := wX (va_up (va_up (va_up a 32 (H, S, upd LN z (nI i), z, wt &&& (sh1 (nI i) ^^^ -1)).1) 33 (H, S, upd LN z (nI i), z, wt &&& (sh1 (nI i) ^^^ -1)).2.1) 35 (H, S, upd LN z (nI i), z, wt &&& (sh1 (nI i) ^^^ -1)).2.2.1) (upd (upd v 9 (nI (H, S, upd LN z (nI i), z, wt &&& (sh1 (nI i) ^^^ -1)).2.2.2.1)) 10 (H, S, upd LN z (nI i), z, wt &&& (sh1 (nI i) ^^^ -1)).2.2.2.2) t r) rfl ?_
      iterate 5 refine Rn.step rfl ?_
      refine Rn.top (nI_1 z) ?_
      refine Rn.step rfl ?_
      refine Rn.hp (h2 := wX (va_up (va_up (va_up a 32 (H, S, upd LN z (nI i), z + 1, wt &&& (sh1 (nI i) ^^^ -1)).1) 33 (H, S, upd LN z (nI i), z + 1, wt &&& (sh1 (nI i) ^^^ -1)).2.1) 35 (H, S, upd LN z (nI i), z + 1, wt &&& (sh1 (nI i) ^^^ -1)).2.2.1) (upd (upd v 9 (nI (H, S, upd LN z (nI i), z + 1, wt &&& (sh1 (nI i) ^^^ -1)).2.2.2.1)) 10 (H, S, upd LN z (nI i), z + 1, wt &&& (sh1 (nI i) ^^^ -1)).2.2.2.2) t r) rfl ?_
      repeat refine Rn.step rfl ?_
      refine Rn.ast (m * 8 + i) rfl (ix_ma m 8 i) (by omega) (by decide) (h3 := wX (va_up (va_up (va_up a 32 (upd H (m * 8 + i) 0, S, upd LN z (nI i), z + 1, wt &&& (sh1 (nI i) ^^^ -1)).1) 33 (upd H (m * 8 + i) 0, S, upd LN z (nI i), z + 1, wt &&& (sh1 (nI i) ^^^ -1)).2.1) 35 (upd H (m * 8 + i) 0, S, upd LN z (nI i), z + 1, wt &&& (sh1 (nI i) ^^^ -1)).2.2.1) (upd (upd v 9 (nI (upd H (m * 8 + i) 0, S, upd LN z (nI i), z + 1, wt &&& (sh1 (nI i) ^^^ -1)).2.2.2.1)) 10 (upd H (m * 8 + i) 0, S, upd LN z (nI i), z + 1, wt &&& (sh1 (nI i) ^^^ -1)).2.2.2.2) t r) rfl ?_
      exact Rn.ret rfl
  iterate 2 refine Rn.step rfl ?_
  have k0 := key n 0 (by omega)
  unfold pnF
  cases hp : piF m (a 6) z wt 0 n with
  | none =>
    rw [hp] at k0
    simp only [hp]
    exact k0
  | some l =>
    rw [hp] at k0
    simp only [hp]
    exact k0
theorem r_run1 (kp : Int32) {n k : Nat} (hn : n ≤ 8) (hv4 : v 4 = nI n) (hk : k ≤ 8) (hv : v 5 = nI k) {mn : Nat → Nat} (hmn : ∀ e, e < k → a 11 e = nI (mn e) ∧ mn e < 24) {PO : Nat → Int32} (hPO : PO = mkA (a 10) mn (a 12) k 0 kp (a 25)) {XF : dS} (hXF : XF = (rnF n (a 4) (a 7) (a 8) (a 6) (a 19) PO (a 23, a 24, a 26, 0, sh1 (v 4) - 1))) : Rn E 1 mX0_run (0, [(0, .ref 22), (1, .ref 3), (2, .ref 18), (3, .ref 9), (4, .int kp)], [], wX a v t r) (none, wX (va_up (va_up (va_up (va_up a 25 PO) 23 XF.1) 24 XF.2.1) 26 XF.2.2.1) (upd (upd v 7 (nI XF.2.2.2.1)) 8 XF.2.2.2.2) t r) := by
  repeat refine Rn.step rfl ?_
  refine Rn.callv rfl rfl rfl (by decide) (r_mark (K := 25) (by decide) 0 kp hk hv hmn) ?_
  rw [← hPO]
  iterate 3 refine Rn.step rfl ?_
  refine Rn.hp (h2 := wX (va_up a 25 PO) (upd v 7 0) t r) rfl ?_
  repeat refine Rn.step rfl ?_
  refine Rn.calli rfl rfl rfl (by decide) r_logBits (fun x1 e1 => ?_)
  refine Rn.step rfl ?_
  refine Rn.hp (h2 := wX (va_up (va_up (va_up (va_up a 25 PO) 23 (a 23)) 24 (a 24)) 26 (a 26)) (upd (upd v 7 (nI 0)) 8 (sh1 (v 4) - 1)) t r) (by subst e1; rfl) ?_
  iterate 2 refine Rn.step rfl ?_
  refine Rn.lp (σ := dS) (cfg := fun m x => (27, [(5, .int (nI m)), (0, .ref 22), (1, .ref 3), (2, .ref 18), (3, .ref 9), (4, .int kp)], [], wX (va_up (va_up (va_up (va_up a 25 PO) 23 x.1) 24 x.2.1) 26 x.2.2.1) (upd (upd v 7 (nI x.2.2.2.1)) 8 x.2.2.2.2) t r)) (f := mnF n (a 4) (a 7) (a 8) (a 6) (a 19) PO) (n := 24) (fun _ x => lnOk n x) (fun m x hm hI => ⟨mnF_ok hI, fun k1 => ?_⟩) 24 0 (a 23, a 24, a 26, 0, sh1 (v 4) - 1) rfl ⟨Nat.zero_le _, fun i hi => absurd hi (Nat.not_lt_zero _)⟩ (fun x0 hx0 _ => ?_)
  · rw [nI_succ] at k1
    obtain ⟨HH, SS, LN, z, wt⟩ := x
    obtain ⟨hz8, hLN⟩ := hI
    dsimp only at hz8 hLN
    repeat refine Rn.step rfl ?_
    refine Rn.br2 rfl (nle hm (by decide)) ?_
    repeat refine Rn.step rfl ?_
    refine Rn.callv rfl rfl rfl (by decide) (r_beg1 (a := (va_up (va_up (va_up (va_up a 25 PO) 23 HH) 24 SS) 26 LN)) (v := (upd (upd v 7 (nI z)) 8 wt)) hn hv4 hm) ?_
    iterate 4 refine Rn.step rfl ?_
    refine Rn.lp (σ := (Nat → Int32) × (Nat → Int32) × Int32) (cfg := fun i y => (48, [(7, .int (nI i)), (6, .int y.2.2), (5, .int (nI m)), (0, .ref 22), (1, .ref 3), (2, .ref 18), (3, .ref 9), (4, .int kp)], [], wX (va_up (va_up (va_up (va_up a 25 PO) 23 y.1) 24 y.2.1) 26 LN) (upd (upd v 7 (nI z)) 8 wt) t r)) (f := lnF (a 4) (a 7) (a 8) (a 19) (PO m) m LN) (n := z) (fun _ _ => True) (fun i y hi _ => ⟨trivial, fun k2 => ?_⟩) z 0 ((bmF n m (HH, SS)).1, (bmF n m (HH, SS)).2, 17) (by omega) trivial (fun y hy _ => ?_)
    · rw [nI_succ] at k2
      obtain ⟨l, hl, eLN⟩ := hLN i hi
      have el : (LN i).toNatClampNeg = l := by rw [eLN]; exact nI_clamp (by omega)
      repeat refine Rn.step rfl ?_
      refine Rn.br2 rfl (nle hi (by omega)) ?_
      repeat refine Rn.step rfl ?_
      refine Rn.ald i rfl rfl (by omega) (by decide) ?_
      refine Rn.top eLN ?_
      repeat refine Rn.step rfl ?_
      refine Rn.ald (m * 8 + l) rfl (ix_ma m 8 l) (by omega) (by decide) ?_
      refine Rn.step rfl ?_
      refine Rn.calli rfl rfl rfl (by decide) (r_within (y.1 (m * 8 + l)) 16 _) (fun x2 e2 => ?_)
      refine Rn.br rfl (fun h1 => ?_) (fun h1 => ?_)
      · have hc := ib_eq0.mp (e2 ▸ h1)
        rw [show lnF (a 4) (a 7) (a 8) (a 19) (PO m) m LN i y = y from by unfold lnF; rw [el]; exact if_neg hc] at k2
        iterate 2 refine Rn.step rfl ?_
        exact Rn.sub (by exact ⟨rfl, rfl, rfl, rfl, rfl, rfl, rfl, rfl, trivial⟩) k2
      · have hc := ib_ne0.mp (e2 ▸ h1)
        obtain ⟨hd, hh, ehd⟩ := inB_ex (n := 16) (by decide) hc
        have ecl : (y.1 (m * 8 + l)).toNatClampNeg = hd := by rw [ehd]; exact nI_clamp (by omega)
        have hk2 : lnF (a 4) (a 7) (a 8) (a 19) (PO m) m LN i y = (upd y.1 (m * 8 + l) (nI (mvQ (a 4) (a 7) (a 19) (PO m) m l y.2.2 (y.1 (m * 8 + l))).1), if (mvQ (a 4) (a 7) (a 19) (PO m) m l y.2.2 (y.1 (m * 8 + l))).2 = 0 then y.2.1 else upd y.2.1 (m * 8 + l) (nI (mvQ (a 4) (a 7) (a 19) (PO m) m l y.2.2 (y.1 (m * 8 + l))).2), if nI (mvQ (a 4) (a 7) (a 19) (PO m) m l y.2.2 (y.1 (m * 8 + l))).1 = 16 then y.2.2 else mx0 (nI (mvQ (a 4) (a 7) (a 19) (PO m) m l y.2.2 (y.1 (m * 8 + l))).1 - a 8 l)) := by
          unfold lnF
          rw [el]
          exact if_pos hc
        have hq : mvF (decide (bt (PO m) l)) (fun h => a 19 (m * 16 + h)) (a 7 l) (fun h => decide (¬ nI (h + 1) < y.2.2)) (a 4 hd + ib (bt (PO m) l)) 17 0 hd = (mvQ (a 4) (a 7) (a 19) (PO m) m l y.2.2 (y.1 (m * 8 + l))) := by
          unfold mvQ
          rw [ecl]
        obtain ⟨q, hq2⟩ : ∃ q, q = (mvQ (a 4) (a 7) (a 19) (PO m) m l y.2.2 (y.1 (m * 8 + l))) := ⟨_, rfl⟩
        rw [← hq2] at hk2 hq
        rw [hk2] at k2
        repeat refine Rn.step rfl ?_
        refine Rn.calli rfl rfl rfl (by decide) (r_mov1 (a := (va_up (va_up (va_up (va_up a 25 PO) 23 y.1) 24 y.2.1) 26 LN)) (v := (upd (upd v 7 (nI z)) 8 wt)) hm (by omega) hh y.2.2 ehd) (fun x3 e3 => ?_)
        refine Rn.hp (h2 := wX (va_up (va_up (va_up (va_up a 25 PO) 23 (upd y.1 (m * 8 + l) (nI q.1))) 24 (if q.2 = 0 then y.2.1 else upd y.2.1 (m * 8 + l) (nI q.2))) 26 LN) (upd (upd v 7 (nI z)) 8 wt) t r) (by rw [← hq]; rfl) ?_
        have e3 : x3 = nI q.1 := by rw [← hq]; exact e3
        subst e3
        have fin : ∀ bb : Int32, bb = (if nI q.1 = 16 then y.2.2 else mx0 (nI q.1 - a 8 l)) → Rn E 1 mX0_run (127, [(9, .int (nI q.1)), (8, .int (nI l)), (7, .int (nI i)), (6, .int y.2.2), (5, .int (nI m)), (0, .ref 22), (1, .ref 3), (2, .ref 18), (3, .ref 9), (4, .int kp)], [.int bb], wX (va_up (va_up (va_up (va_up a 25 PO) 23 (upd y.1 (m * 8 + l) (nI q.1))) 24 (if q.2 = 0 then y.2.1 else upd y.2.1 (m * 8 + l) (nI q.2))) 26 LN) (upd (upd v 7 (nI z)) 8 wt) t r) (none, wX (va_up (va_up (va_up (va_up a 25 PO) 23 XF.1) 24 XF.2.1) 26 XF.2.2.1) (upd (upd v 7 (nI XF.2.2.2.1)) 8 XF.2.2.2.2) t r) := by
          intro bb hbb
          rw [← hbb] at k2
          iterate 3 refine Rn.step rfl ?_
          exact Rn.sub (by exact ⟨rfl, rfl, rfl, rfl, rfl, rfl, rfl, rfl, trivial⟩) k2
        repeat refine Rn.step rfl ?_
        refine Rn.br rfl (fun h2 => ?_) (fun h2 => ?_)
        · repeat refine Rn.step rfl ?_
          refine Rn.ald l rfl rfl (by omega) (by decide) ?_
          iterate 3 refine Rn.step rfl ?_
          exact fin _ (if_neg h2).symm
        · iterate 2 refine Rn.step rfl ?_
          exact fin _ (if_pos (Decidable.not_not.mp h2)).symm
    · repeat refine Rn.step rfl ?_
      refine Rn.br1 rfl (Int32.le_refl _) ?_
      refine Rn.step rfl ?_
      have eY : y = mnY n (a 4) (a 7) (a 8) (a 19) PO m (HH, SS, LN, z, wt) := hy
      refine Rn.br rfl (fun h1 => ?_) (fun h1 => ?_)
      · iterate 2 refine Rn.step rfl ?_
        rw [show mnF n (a 4) (a 7) (a 8) (a 6) (a 19) PO m (HH, SS, LN, z, wt) = (y.1, y.2.1, LN, z, wt) from by unfold mnF; rw [← eY]; exact if_neg (Int32.not_lt.mpr h1)] at k1
        exact Rn.sub (by exact ⟨rfl, rfl, rfl, rfl, rfl, rfl, trivial⟩) k1
      · rw [show mnF n (a 4) (a 7) (a 8) (a 6) (a 19) PO m (HH, SS, LN, z, wt) = pnF n m (a 6) (y.1, y.2.1, LN, z, wt) from by unfold mnF; rw [← eY]; exact if_pos (Int32.not_le.mp h1)] at k1
        repeat refine Rn.step rfl ?_
        refine Rn.callv rfl rfl rfl (by decide) (r_put1 (a := (va_up a 25 PO)) (v := v) hn hv4 hm (y.1, y.2.1, LN, z, wt) hz8) ?_
        iterate 2 refine Rn.step rfl ?_
        exact Rn.sub (by exact ⟨rfl, rfl, rfl, rfl, rfl, rfl, trivial⟩) k1
  · repeat refine Rn.step rfl ?_
    have hx1 : x0 = XF := by rw [hXF]; exact hx0
    rw [← hx1]
    exact Rn.ret rfl
theorem r_run2 (kp : Int32) {n k : Nat} (hn : n ≤ 8) (hv4 : v 4 = nI n) (hk : k ≤ 8) (hv : v 5 = nI k) {mn : Nat → Nat} (hmn : ∀ e, e < k → a 11 e = nI (mn e) ∧ mn e < 24) {PO : Nat → Int32} (hPO : PO = mkA (a 10) mn (a 12) k 0 kp (a 34)) {XF : dS} (hXF : XF = (rnF n (a 4) (a 7) (a 8) (a 6) (a 19) PO (a 32, a 33, a 35, 0, sh1 (v 4) - 1))) : Rn E 1 mX0_run (0, [(0, .ref 31), (1, .ref 3), (2, .ref 18), (3, .ref 9), (4, .int kp)], [], wX a v t r) (none, wX (va_up (va_up (va_up (va_up a 34 PO) 32 XF.1) 33 XF.2.1) 35 XF.2.2.1) (upd (upd v 9 (nI XF.2.2.2.1)) 10 XF.2.2.2.2) t r) := by
  repeat refine Rn.step rfl ?_
  refine Rn.callv rfl rfl rfl (by decide) (r_mark (K := 34) (by decide) 0 kp hk hv hmn) ?_
  rw [← hPO]
  iterate 3 refine Rn.step rfl ?_
  refine Rn.hp (h2 := wX (va_up a 34 PO) (upd v 9 0) t r) rfl ?_
  repeat refine Rn.step rfl ?_
  refine Rn.calli rfl rfl rfl (by decide) r_logBits (fun x1 e1 => ?_)
  refine Rn.step rfl ?_
  refine Rn.hp (h2 := wX (va_up (va_up (va_up (va_up a 34 PO) 32 (a 32)) 33 (a 33)) 35 (a 35)) (upd (upd v 9 (nI 0)) 10 (sh1 (v 4) - 1)) t r) (by subst e1; rfl) ?_
  iterate 2 refine Rn.step rfl ?_
  refine Rn.lp (σ := dS) (cfg := fun m x => (27, [(5, .int (nI m)), (0, .ref 31), (1, .ref 3), (2, .ref 18), (3, .ref 9), (4, .int kp)], [], wX (va_up (va_up (va_up (va_up a 34 PO) 32 x.1) 33 x.2.1) 35 x.2.2.1) (upd (upd v 9 (nI x.2.2.2.1)) 10 x.2.2.2.2) t r)) (f := mnF n (a 4) (a 7) (a 8) (a 6) (a 19) PO) (n := 24) (fun _ x => lnOk n x) (fun m x hm hI => ⟨mnF_ok hI, fun k1 => ?_⟩) 24 0 (a 32, a 33, a 35, 0, sh1 (v 4) - 1) rfl ⟨Nat.zero_le _, fun i hi => absurd hi (Nat.not_lt_zero _)⟩ (fun x0 hx0 _ => ?_)
  · rw [nI_succ] at k1
    obtain ⟨HH, SS, LN, z, wt⟩ := x
    obtain ⟨hz8, hLN⟩ := hI
    dsimp only at hz8 hLN
    repeat refine Rn.step rfl ?_
    refine Rn.br2 rfl (nle hm (by decide)) ?_
    repeat refine Rn.step rfl ?_
    refine Rn.callv rfl rfl rfl (by decide) (r_beg2 (a := (va_up (va_up (va_up (va_up a 34 PO) 32 HH) 33 SS) 35 LN)) (v := (upd (upd v 9 (nI z)) 10 wt)) hn hv4 hm) ?_
    iterate 4 refine Rn.step rfl ?_
    refine Rn.lp (σ := (Nat → Int32) × (Nat → Int32) × Int32) (cfg := fun i y => (48, [(7, .int (nI i)), (6, .int y.2.2), (5, .int (nI m)), (0, .ref 31), (1, .ref 3), (2, .ref 18), (3, .ref 9), (4, .int kp)], [], wX (va_up (va_up (va_up (va_up a 34 PO) 32 y.1) 33 y.2.1) 35 LN) (upd (upd v 9 (nI z)) 10 wt) t r)) (f := lnF (a 4) (a 7) (a 8) (a 19) (PO m) m LN) (n := z) (fun _ _ => True) (fun i y hi _ => ⟨trivial, fun k2 => ?_⟩) z 0 ((bmF n m (HH, SS)).1, (bmF n m (HH, SS)).2, 17) (by omega) trivial (fun y hy _ => ?_)
    · rw [nI_succ] at k2
      obtain ⟨l, hl, eLN⟩ := hLN i hi
      have el : (LN i).toNatClampNeg = l := by rw [eLN]; exact nI_clamp (by omega)
      repeat refine Rn.step rfl ?_
      refine Rn.br2 rfl (nle hi (by omega)) ?_
      repeat refine Rn.step rfl ?_
      refine Rn.ald i rfl rfl (by omega) (by decide) ?_
      refine Rn.top eLN ?_
      repeat refine Rn.step rfl ?_
      refine Rn.ald (m * 8 + l) rfl (ix_ma m 8 l) (by omega) (by decide) ?_
      refine Rn.step rfl ?_
      refine Rn.calli rfl rfl rfl (by decide) (r_within (y.1 (m * 8 + l)) 16 _) (fun x2 e2 => ?_)
      refine Rn.br rfl (fun h1 => ?_) (fun h1 => ?_)
      · have hc := ib_eq0.mp (e2 ▸ h1)
        rw [show lnF (a 4) (a 7) (a 8) (a 19) (PO m) m LN i y = y from by unfold lnF; rw [el]; exact if_neg hc] at k2
        iterate 2 refine Rn.step rfl ?_
        exact Rn.sub (by exact ⟨rfl, rfl, rfl, rfl, rfl, rfl, rfl, rfl, trivial⟩) k2
      · have hc := ib_ne0.mp (e2 ▸ h1)
        obtain ⟨hd, hh, ehd⟩ := inB_ex (n := 16) (by decide) hc
        have ecl : (y.1 (m * 8 + l)).toNatClampNeg = hd := by rw [ehd]; exact nI_clamp (by omega)
        have hk2 : lnF (a 4) (a 7) (a 8) (a 19) (PO m) m LN i y = (upd y.1 (m * 8 + l) (nI (mvQ (a 4) (a 7) (a 19) (PO m) m l y.2.2 (y.1 (m * 8 + l))).1), if (mvQ (a 4) (a 7) (a 19) (PO m) m l y.2.2 (y.1 (m * 8 + l))).2 = 0 then y.2.1 else upd y.2.1 (m * 8 + l) (nI (mvQ (a 4) (a 7) (a 19) (PO m) m l y.2.2 (y.1 (m * 8 + l))).2), if nI (mvQ (a 4) (a 7) (a 19) (PO m) m l y.2.2 (y.1 (m * 8 + l))).1 = 16 then y.2.2 else mx0 (nI (mvQ (a 4) (a 7) (a 19) (PO m) m l y.2.2 (y.1 (m * 8 + l))).1 - a 8 l)) := by
          unfold lnF
          rw [el]
          exact if_pos hc
        have hq : mvF (decide (bt (PO m) l)) (fun h => a 19 (m * 16 + h)) (a 7 l) (fun h => decide (¬ nI (h + 1) < y.2.2)) (a 4 hd + ib (bt (PO m) l)) 17 0 hd = (mvQ (a 4) (a 7) (a 19) (PO m) m l y.2.2 (y.1 (m * 8 + l))) := by
          unfold mvQ
          rw [ecl]
        obtain ⟨q, hq2⟩ : ∃ q, q = (mvQ (a 4) (a 7) (a 19) (PO m) m l y.2.2 (y.1 (m * 8 + l))) := ⟨_, rfl⟩
        rw [← hq2] at hk2 hq
        rw [hk2] at k2
        repeat refine Rn.step rfl ?_
        refine Rn.calli rfl rfl rfl (by decide) (r_mov2 (a := (va_up (va_up (va_up (va_up a 34 PO) 32 y.1) 33 y.2.1) 35 LN)) (v := (upd (upd v 9 (nI z)) 10 wt)) hm (by omega) hh y.2.2 ehd) (fun x3 e3 => ?_)
        refine Rn.hp (h2 := wX (va_up (va_up (va_up (va_up a 34 PO) 32 (upd y.1 (m * 8 + l) (nI q.1))) 33 (if q.2 = 0 then y.2.1 else upd y.2.1 (m * 8 + l) (nI q.2))) 35 LN) (upd (upd v 9 (nI z)) 10 wt) t r) (by rw [← hq]; rfl) ?_
        have e3 : x3 = nI q.1 := by rw [← hq]; exact e3
        subst e3
        have fin : ∀ bb : Int32, bb = (if nI q.1 = 16 then y.2.2 else mx0 (nI q.1 - a 8 l)) → Rn E 1 mX0_run (127, [(9, .int (nI q.1)), (8, .int (nI l)), (7, .int (nI i)), (6, .int y.2.2), (5, .int (nI m)), (0, .ref 31), (1, .ref 3), (2, .ref 18), (3, .ref 9), (4, .int kp)], [.int bb], wX (va_up (va_up (va_up (va_up a 34 PO) 32 (upd y.1 (m * 8 + l) (nI q.1))) 33 (if q.2 = 0 then y.2.1 else upd y.2.1 (m * 8 + l) (nI q.2))) 35 LN) (upd (upd v 9 (nI z)) 10 wt) t r) (none, wX (va_up (va_up (va_up (va_up a 34 PO) 32 XF.1) 33 XF.2.1) 35 XF.2.2.1) (upd (upd v 9 (nI XF.2.2.2.1)) 10 XF.2.2.2.2) t r) := by
          intro bb hbb
          rw [← hbb] at k2
          iterate 3 refine Rn.step rfl ?_
          exact Rn.sub (by exact ⟨rfl, rfl, rfl, rfl, rfl, rfl, rfl, rfl, trivial⟩) k2
        repeat refine Rn.step rfl ?_
        refine Rn.br rfl (fun h2 => ?_) (fun h2 => ?_)
        · repeat refine Rn.step rfl ?_
          refine Rn.ald l rfl rfl (by omega) (by decide) ?_
          iterate 3 refine Rn.step rfl ?_
          exact fin _ (if_neg h2).symm
        · iterate 2 refine Rn.step rfl ?_
          exact fin _ (if_pos (Decidable.not_not.mp h2)).symm
    · repeat refine Rn.step rfl ?_
      refine Rn.br1 rfl (Int32.le_refl _) ?_
      refine Rn.step rfl ?_
      have eY : y = mnY n (a 4) (a 7) (a 8) (a 19) PO m (HH, SS, LN, z, wt) := hy
      refine Rn.br rfl (fun h1 => ?_) (fun h1 => ?_)
      · iterate 2 refine Rn.step rfl ?_
        rw [show mnF n (a 4) (a 7) (a 8) (a 6) (a 19) PO m (HH, SS, LN, z, wt) = (y.1, y.2.1, LN, z, wt) from by unfold mnF; rw [← eY]; exact if_neg (Int32.not_lt.mpr h1)] at k1
        exact Rn.sub (by exact ⟨rfl, rfl, rfl, rfl, rfl, rfl, trivial⟩) k1
      · rw [show mnF n (a 4) (a 7) (a 8) (a 6) (a 19) PO m (HH, SS, LN, z, wt) = pnF n m (a 6) (y.1, y.2.1, LN, z, wt) from by unfold mnF; rw [← eY]; exact if_pos (Int32.not_le.mp h1)] at k1
        repeat refine Rn.step rfl ?_
        refine Rn.callv rfl rfl rfl (by decide) (r_put2 (a := (va_up a 34 PO)) (v := v) hn hv4 hm (y.1, y.2.1, LN, z, wt) hz8) ?_
        iterate 2 refine Rn.step rfl ?_
        exact Rn.sub (by exact ⟨rfl, rfl, rfl, rfl, rfl, rfl, trivial⟩) k1
  · repeat refine Rn.step rfl ?_
    have hx1 : x0 = XF := by rw [hXF]; exact hx0
    rw [← hx1]
    exact Rn.ret rfl
theorem r_run3 (kp : Int32) {n k : Nat} (hn : n ≤ 8) (hv4 : v 4 = nI n) (hk : k ≤ 8) (hv : v 5 = nI k) {mn : Nat → Nat} (hmn : ∀ e, e < k → a 11 e = nI (mn e) ∧ mn e < 24) {PO : Nat → Int32} (hPO : PO = mkA (a 10) mn (a 12) k 0 kp (a 34)) {XF : dS} (hXF : XF = (rnF n (a 4) (a 7) (a 8) (a 6) (a 28) PO (a 32, a 33, a 35, 0, sh1 (v 4) - 1))) : Rn E 1 mX0_run (0, [(0, .ref 31), (1, .ref 3), (2, .ref 27), (3, .ref 9), (4, .int kp)], [], wX a v t r) (none, wX (va_up (va_up (va_up (va_up a 34 PO) 32 XF.1) 33 XF.2.1) 35 XF.2.2.1) (upd (upd v 9 (nI XF.2.2.2.1)) 10 XF.2.2.2.2) t r) := by
  repeat refine Rn.step rfl ?_
  refine Rn.callv rfl rfl rfl (by decide) (r_mark (K := 34) (by decide) 0 kp hk hv hmn) ?_
  rw [← hPO]
  iterate 3 refine Rn.step rfl ?_
  refine Rn.hp (h2 := wX (va_up a 34 PO) (upd v 9 0) t r) rfl ?_
  repeat refine Rn.step rfl ?_
  refine Rn.calli rfl rfl rfl (by decide) r_logBits (fun x1 e1 => ?_)
  refine Rn.step rfl ?_
  refine Rn.hp (h2 := wX (va_up (va_up (va_up (va_up a 34 PO) 32 (a 32)) 33 (a 33)) 35 (a 35)) (upd (upd v 9 (nI 0)) 10 (sh1 (v 4) - 1)) t r) (by subst e1; rfl) ?_
  iterate 2 refine Rn.step rfl ?_
  refine Rn.lp (σ := dS) (cfg := fun m x => (27, [(5, .int (nI m)), (0, .ref 31), (1, .ref 3), (2, .ref 27), (3, .ref 9), (4, .int kp)], [], wX (va_up (va_up (va_up (va_up a 34 PO) 32 x.1) 33 x.2.1) 35 x.2.2.1) (upd (upd v 9 (nI x.2.2.2.1)) 10 x.2.2.2.2) t r)) (f := mnF n (a 4) (a 7) (a 8) (a 6) (a 28) PO) (n := 24) (fun _ x => lnOk n x) (fun m x hm hI => ⟨mnF_ok hI, fun k1 => ?_⟩) 24 0 (a 32, a 33, a 35, 0, sh1 (v 4) - 1) rfl ⟨Nat.zero_le _, fun i hi => absurd hi (Nat.not_lt_zero _)⟩ (fun x0 hx0 _ => ?_)
  · rw [nI_succ] at k1
    obtain ⟨HH, SS, LN, z, wt⟩ := x
    obtain ⟨hz8, hLN⟩ := hI
    dsimp only at hz8 hLN
    repeat refine Rn.step rfl ?_
    refine Rn.br2 rfl (nle hm (by decide)) ?_
    repeat refine Rn.step rfl ?_
    refine Rn.callv rfl rfl rfl (by decide) (r_beg2 (a := (va_up (va_up (va_up (va_up a 34 PO) 32 HH) 33 SS) 35 LN)) (v := (upd (upd v 9 (nI z)) 10 wt)) hn hv4 hm) ?_
    iterate 4 refine Rn.step rfl ?_
    refine Rn.lp (σ := (Nat → Int32) × (Nat → Int32) × Int32) (cfg := fun i y => (48, [(7, .int (nI i)), (6, .int y.2.2), (5, .int (nI m)), (0, .ref 31), (1, .ref 3), (2, .ref 27), (3, .ref 9), (4, .int kp)], [], wX (va_up (va_up (va_up (va_up a 34 PO) 32 y.1) 33 y.2.1) 35 LN) (upd (upd v 9 (nI z)) 10 wt) t r)) (f := lnF (a 4) (a 7) (a 8) (a 28) (PO m) m LN) (n := z) (fun _ _ => True) (fun i y hi _ => ⟨trivial, fun k2 => ?_⟩) z 0 ((bmF n m (HH, SS)).1, (bmF n m (HH, SS)).2, 17) (by omega) trivial (fun y hy _ => ?_)
    · rw [nI_succ] at k2
      obtain ⟨l, hl, eLN⟩ := hLN i hi
      have el : (LN i).toNatClampNeg = l := by rw [eLN]; exact nI_clamp (by omega)
      repeat refine Rn.step rfl ?_
      refine Rn.br2 rfl (nle hi (by omega)) ?_
      repeat refine Rn.step rfl ?_
      refine Rn.ald i rfl rfl (by omega) (by decide) ?_
      refine Rn.top eLN ?_
      repeat refine Rn.step rfl ?_
      refine Rn.ald (m * 8 + l) rfl (ix_ma m 8 l) (by omega) (by decide) ?_
      refine Rn.step rfl ?_
      refine Rn.calli rfl rfl rfl (by decide) (r_within (y.1 (m * 8 + l)) 16 _) (fun x2 e2 => ?_)
      refine Rn.br rfl (fun h1 => ?_) (fun h1 => ?_)
      · have hc := ib_eq0.mp (e2 ▸ h1)
        rw [show lnF (a 4) (a 7) (a 8) (a 28) (PO m) m LN i y = y from by unfold lnF; rw [el]; exact if_neg hc] at k2
        iterate 2 refine Rn.step rfl ?_
        exact Rn.sub (by exact ⟨rfl, rfl, rfl, rfl, rfl, rfl, rfl, rfl, trivial⟩) k2
      · have hc := ib_ne0.mp (e2 ▸ h1)
        obtain ⟨hd, hh, ehd⟩ := inB_ex (n := 16) (by decide) hc
        have ecl : (y.1 (m * 8 + l)).toNatClampNeg = hd := by rw [ehd]; exact nI_clamp (by omega)
        have hk2 : lnF (a 4) (a 7) (a 8) (a 28) (PO m) m LN i y = (upd y.1 (m * 8 + l) (nI (mvQ (a 4) (a 7) (a 28) (PO m) m l y.2.2 (y.1 (m * 8 + l))).1), if (mvQ (a 4) (a 7) (a 28) (PO m) m l y.2.2 (y.1 (m * 8 + l))).2 = 0 then y.2.1 else upd y.2.1 (m * 8 + l) (nI (mvQ (a 4) (a 7) (a 28) (PO m) m l y.2.2 (y.1 (m * 8 + l))).2), if nI (mvQ (a 4) (a 7) (a 28) (PO m) m l y.2.2 (y.1 (m * 8 + l))).1 = 16 then y.2.2 else mx0 (nI (mvQ (a 4) (a 7) (a 28) (PO m) m l y.2.2 (y.1 (m * 8 + l))).1 - a 8 l)) := by
          unfold lnF
          rw [el]
          exact if_pos hc
        have hq : mvF (decide (bt (PO m) l)) (fun h => a 28 (m * 16 + h)) (a 7 l) (fun h => decide (¬ nI (h + 1) < y.2.2)) (a 4 hd + ib (bt (PO m) l)) 17 0 hd = (mvQ (a 4) (a 7) (a 28) (PO m) m l y.2.2 (y.1 (m * 8 + l))) := by
          unfold mvQ
          rw [ecl]
        obtain ⟨q, hq2⟩ : ∃ q, q = (mvQ (a 4) (a 7) (a 28) (PO m) m l y.2.2 (y.1 (m * 8 + l))) := ⟨_, rfl⟩
        rw [← hq2] at hk2 hq
        rw [hk2] at k2
        repeat refine Rn.step rfl ?_
        refine Rn.calli rfl rfl rfl (by decide) (r_mov3 (a := (va_up (va_up (va_up (va_up a 34 PO) 32 y.1) 33 y.2.1) 35 LN)) (v := (upd (upd v 9 (nI z)) 10 wt)) hm (by omega) hh y.2.2 ehd) (fun x3 e3 => ?_)
        refine Rn.hp (h2 := wX (va_up (va_up (va_up (va_up a 34 PO) 32 (upd y.1 (m * 8 + l) (nI q.1))) 33 (if q.2 = 0 then y.2.1 else upd y.2.1 (m * 8 + l) (nI q.2))) 35 LN) (upd (upd v 9 (nI z)) 10 wt) t r) (by rw [← hq]; rfl) ?_
        have e3 : x3 = nI q.1 := by rw [← hq]; exact e3
        subst e3
        have fin : ∀ bb : Int32, bb = (if nI q.1 = 16 then y.2.2 else mx0 (nI q.1 - a 8 l)) → Rn E 1 mX0_run (127, [(9, .int (nI q.1)), (8, .int (nI l)), (7, .int (nI i)), (6, .int y.2.2), (5, .int (nI m)), (0, .ref 31), (1, .ref 3), (2, .ref 27), (3, .ref 9), (4, .int kp)], [.int bb], wX (va_up (va_up (va_up (va_up a 34 PO) 32 (upd y.1 (m * 8 + l) (nI q.1))) 33 (if q.2 = 0 then y.2.1 else upd y.2.1 (m * 8 + l) (nI q.2))) 35 LN) (upd (upd v 9 (nI z)) 10 wt) t r) (none, wX (va_up (va_up (va_up (va_up a 34 PO) 32 XF.1) 33 XF.2.1) 35 XF.2.2.1) (upd (upd v 9 (nI XF.2.2.2.1)) 10 XF.2.2.2.2) t r) := by
          intro bb hbb
          rw [← hbb] at k2
          iterate 3 refine Rn.step rfl ?_
          exact Rn.sub (by exact ⟨rfl, rfl, rfl, rfl, rfl, rfl, rfl, rfl, trivial⟩) k2
        repeat refine Rn.step rfl ?_
        refine Rn.br rfl (fun h2 => ?_) (fun h2 => ?_)
        · repeat refine Rn.step rfl ?_
          refine Rn.ald l rfl rfl (by omega) (by decide) ?_
          iterate 3 refine Rn.step rfl ?_
          exact fin _ (if_neg h2).symm
        · iterate 2 refine Rn.step rfl ?_
          exact fin _ (if_pos (Decidable.not_not.mp h2)).symm
    · repeat refine Rn.step rfl ?_
      refine Rn.br1 rfl (Int32.le_refl _) ?_
      refine Rn.step rfl ?_
      have eY : y = mnY n (a 4) (a 7) (a 8) (a 28) PO m (HH, SS, LN, z, wt) := hy
      refine Rn.br rfl (fun h1 => ?_) (fun h1 => ?_)
      · iterate 2 refine Rn.step rfl ?_
        rw [show mnF n (a 4) (a 7) (a 8) (a 6) (a 28) PO m (HH, SS, LN, z, wt) = (y.1, y.2.1, LN, z, wt) from by unfold mnF; rw [← eY]; exact if_neg (Int32.not_lt.mpr h1)] at k1
        exact Rn.sub (by exact ⟨rfl, rfl, rfl, rfl, rfl, rfl, trivial⟩) k1
      · rw [show mnF n (a 4) (a 7) (a 8) (a 6) (a 28) PO m (HH, SS, LN, z, wt) = pnF n m (a 6) (y.1, y.2.1, LN, z, wt) from by unfold mnF; rw [← eY]; exact if_pos (Int32.not_le.mp h1)] at k1
        repeat refine Rn.step rfl ?_
        refine Rn.callv rfl rfl rfl (by decide) (r_put2 (a := (va_up a 34 PO)) (v := v) hn hv4 hm (y.1, y.2.1, LN, z, wt) hz8) ?_
        iterate 2 refine Rn.step rfl ?_
        exact Rn.sub (by exact ⟨rfl, rfl, rfl, rfl, rfl, rfl, trivial⟩) k1
  · repeat refine Rn.step rfl ?_
    have hx1 : x0 = XF := by rw [hXF]; exact hx0
    rw [← hx1]
    exact Rn.ret rfl
end X7
