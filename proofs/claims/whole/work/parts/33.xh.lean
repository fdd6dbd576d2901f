section XH
variable {E : iExtT} {a : Nat → Nat → Int32} {v : Nat → Int32} {t : Nat → Nat → Int64} {r : List va_E}
theorem r_seen_bad (x y z : Int32) (hb : ¬ (inB x 24 ∧ inB y 16 ∧ inB z 9)) : Rn E 2 mX7_seen (0, [(0, .ref 0), (1, .int x), (2, .int y), (3, .int z)], [], wX a v t r) ((some (.int (-2))), wX a v t r) := by
  repeat refine Rn.step rfl ?_
  refine Rn.calli rfl rfl rfl (by decide) (r_within x 24 _) (fun x0 e0 => ?_)
  refine Rn.br rfl (fun h0 => ?_) (fun h0 => ?_)
  · repeat refine Rn.step rfl ?_
    exact Rn.ret rfl
  repeat refine Rn.step rfl ?_
  refine Rn.calli rfl rfl rfl (by decide) (r_within y 16 _) (fun x1 e1 => ?_)
  refine Rn.br rfl (fun h1 => ?_) (fun h1 => ?_)
  · repeat refine Rn.step rfl ?_
    exact Rn.ret rfl
  repeat refine Rn.step rfl ?_
  refine Rn.calli rfl rfl rfl (by decide) (r_within z 9 _) (fun x2 e2 => ?_)
  refine Rn.br2 rfl (fun h2 => hb (⟨ib_ne0.mp (e0 ▸ h0), ib_ne0.mp (e1 ▸ h1), ib_ne0.mp (e2 ▸ h2)⟩)) ?_
  repeat refine Rn.step rfl ?_
  exact Rn.ret rfl
theorem r_seen_full {x y z : Int32} (hb : inB x 24 ∧ inB y 16 ∧ inB z 9) (hv : v 6 = nI 8) : Rn E 2 mX7_seen (0, [(0, .ref 0), (1, .int x), (2, .int y), (3, .int z)], [], wX a v t r) (some (.int (-4)), wX a v t r) := by
  repeat refine Rn.step rfl ?_
  refine Rn.calli rfl rfl rfl (by decide) (r_within x 24 _) (fun x0 e0 => ?_)
  refine Rn.br2 rfl (by rw [e0, ib_eq0]; exact fun q => q (hb.1)) ?_
  repeat refine Rn.step rfl ?_
  refine Rn.calli rfl rfl rfl (by decide) (r_within y 16 _) (fun x1 e1 => ?_)
  refine Rn.br2 rfl (by rw [e1, ib_eq0]; exact fun q => q (hb.2.1)) ?_
  repeat refine Rn.step rfl ?_
  refine Rn.calli rfl rfl rfl (by decide) (r_within z 9 _) (fun x2 e2 => ?_)
  refine Rn.br1 rfl (by rw [e2, ib_ne0]; exact hb.2.2) ?_
  repeat refine Rn.step rfl ?_
  refine Rn.calli rfl rfl rfl (by decide) (r_siFull x y z hv) (fun z1 f1 => ?_)
  subst f1
  repeat refine Rn.step rfl ?_
  exact Rn.ret rfl
theorem r_seen {x y z : Int32} (hb : inB x 24 ∧ inB y 16 ∧ inB z 9) {q : Nat} (hq : q < 8) (hv : v 6 = nI q) : Rn E 2 mX7_seen (0, [(0, .ref 0), (1, .int x), (2, .int y), (3, .int z)], [], wX a v t r) (some (.int (nI (q + 1))), wX (va_up (va_up (va_up a 14 (upd (a 14) q x)) 15 (upd (a 15) q y)) 16 (upd (a 16) q (si8 z))) (upd v 6 (nI (q + 1))) t r) := by
  repeat refine Rn.step rfl ?_
  refine Rn.calli rfl rfl rfl (by decide) (r_within x 24 _) (fun x0 e0 => ?_)
  refine Rn.br2 rfl (by rw [e0, ib_eq0]; exact fun q => q (hb.1)) ?_
  repeat refine Rn.step rfl ?_
  refine Rn.calli rfl rfl rfl (by decide) (r_within y 16 _) (fun x1 e1 => ?_)
  refine Rn.br2 rfl (by rw [e1, ib_eq0]; exact fun q => q (hb.2.1)) ?_
  repeat refine Rn.step rfl ?_
  refine Rn.calli rfl rfl rfl (by decide) (r_within z 9 _) (fun x2 e2 => ?_)
  refine Rn.br1 rfl (by rw [e2, ib_ne0]; exact hb.2.2) ?_
  repeat refine Rn.step rfl ?_
  refine Rn.calli rfl rfl rfl (by decide) (r_siAppend x y z hq hv) (fun z1 f1 => ?_)
  subst f1
  repeat refine Rn.step rfl ?_
  exact Rn.ret rfl
theorem r_forget : Rn E 2 mX7_forget (0, [(0, .ref 0)], [], wX a v t r) (some (.int (v 6)), wX a (upd v 6 0) t r) := by
  repeat refine Rn.step rfl ?_
  exact Rn.ret rfl
theorem r_event_bad {x y z : Int32} (hb : ¬ (inB x 3 ∧ inB y 24 ∧ inB z 16)) : Rn E 2 mX7_event (0, [(0, .ref 0), (1, .int x), (2, .int y), (3, .int z)], [], wX a v t r) (some (.int (-2)), wX a v t r) := by
  repeat refine Rn.step rfl ?_
  refine Rn.calli rfl rfl rfl (by decide) (r_mayBe x y z _) (fun z1 f1 => ?_)
  refine Rn.br2 rfl (fun q => q (by rw [f1, ib_eq0]; exact hb)) ?_
  repeat refine Rn.step rfl ?_
  exact Rn.ret rfl
theorem r_event_full {x y z : Int32} (hb : inB x 3 ∧ inB y 24 ∧ inB z 16) (hv : v 5 = nI 8) : Rn E 2 mX7_event (0, [(0, .ref 0), (1, .int x), (2, .int y), (3, .int z)], [], wX a v t r) (some (.int (-4)), wX a v t r) := by
  repeat refine Rn.step rfl ?_
  refine Rn.calli rfl rfl rfl (by decide) (r_mayBe x y z _) (fun z1 f1 => ?_)
  refine Rn.br1 rfl (by rw [f1, ib_ne0]; exact hb) ?_
  repeat refine Rn.step rfl ?_
  refine Rn.calli rfl rfl rfl (by decide) (r_evFull x y z hv) (fun z2 f2 => ?_)
  subst f2
  repeat refine Rn.step rfl ?_
  exact Rn.ret rfl
theorem r_event {x y z : Int32} (hb : inB x 3 ∧ inB y 24 ∧ inB z 16) {k : Nat} (hk : k < 8) (hv : v 5 = nI k) : Rn E 2 mX7_event (0, [(0, .ref 0), (1, .int x), (2, .int y), (3, .int z)], [], wX a v t r) (some (.int (nI (k + 1))), wX (va_up (va_up (va_up a 10 (upd (a 10) k x)) 11 (upd (a 11) k y)) 12 (upd (a 12) k z)) (upd (upd v 5 (nI (k + 1))) 1 0) t r) := by
  repeat refine Rn.step rfl ?_
  refine Rn.calli rfl rfl rfl (by decide) (r_mayBe x y z _) (fun z1 f1 => ?_)
  refine Rn.br1 rfl (by rw [f1, ib_ne0]; exact hb) ?_
  repeat refine Rn.step rfl ?_
  refine Rn.calli rfl rfl rfl (by decide) (r_evAppend x y z hk hv) (fun z2 f2 => ?_)
  subst f2
  repeat refine Rn.step rfl ?_
  refine Rn.callv rfl rfl rfl (by decide) r_unsettle ?_
  repeat refine Rn.step rfl ?_
  exact Rn.ret rfl
theorem r_back_not (hv : v 5 = 0) : Rn E 2 mX7_back (0, [(0, .ref 0)], [], wX a v t r) (some (.int (-3)), wX a v t r) := by
  repeat refine Rn.step rfl ?_
  refine Rn.br2 rfl (fun q => q hv) ?_
  repeat refine Rn.step rfl ?_
  exact Rn.ret rfl
theorem r_back {k : Nat} (hk : k < 8) (hv : v 5 = nI (k + 1)) : Rn E 2 mX7_back (0, [(0, .ref 0)], [], wX a v t r) (some (.int (nI k)), wX a (upd (upd v 5 (nI k)) 1 0) t r) := by
  repeat refine Rn.step rfl ?_
  refine Rn.br1 rfl (by rw [hv]; exact nI_ne0 (by omega) (by omega)) ?_
  iterate 6 refine Rn.step rfl ?_
  refine Rn.top (x' := nI k) (by show v 5 - 1 = _; rw [hv]; exact nI_pred k) ?_
  refine Rn.step rfl ?_
  refine Rn.hp (h2 := wX a (upd v 5 (nI k)) t r) rfl ?_
  repeat refine Rn.step rfl ?_
  refine Rn.callv rfl rfl rfl (by decide) r_unsettle ?_
  repeat refine Rn.step rfl ?_
  exact Rn.ret rfl
theorem r_fault_bad (x : Int32) (hb : ¬ inB x 3) : Rn E 1 mX7_fault (0, [(0, .ref 0), (1, .int x)], [], wX a v t r) (some (.int (-2)), wX a v t r) := by
  repeat refine Rn.step rfl ?_
  refine Rn.calli rfl rfl rfl (by decide) (r_within x 3 _) (fun z1 f1 => ?_)
  refine Rn.br1 rfl (by rw [f1, ib_eq0]; exact hb) ?_
  repeat refine Rn.step rfl ?_
  exact Rn.ret rfl
theorem r_fault {i : Nat} (hi : i < 3) : Rn E 1 mX7_fault (0, [(0, .ref 0), (1, .int (nI i))], [], wX a v t r) (some (.int (a 2 i)), wX a v t r) := by
  repeat refine Rn.step rfl ?_
  refine Rn.calli rfl rfl rfl (by decide) (r_within (nI i) 3 _) (fun z1 f1 => ?_)
  refine Rn.br2 rfl (by rw [f1, ib_eq0]; exact fun q => q (inB_nI (n := 3) hi (by decide))) ?_
  repeat refine Rn.step rfl ?_
  refine Rn.ald i rfl rfl hi (by decide) ?_
  repeat refine Rn.step rfl ?_
  exact Rn.ret rfl
theorem r_span_bad (x y : Int32) (hb : ¬ (inB x 16 ∧ inB y 2)) : Rn E 1 mX7_span (0, [(0, .ref 0), (1, .int x), (2, .int y)], [], wX a v t r) ((some (.int (-2))), wX a v t r) := by
  repeat refine Rn.step rfl ?_
  refine Rn.calli rfl rfl rfl (by decide) (r_within x 16 _) (fun x0 e0 => ?_)
  refine Rn.br rfl (fun h0 => ?_) (fun h0 => ?_)
  · repeat refine Rn.step rfl ?_
    exact Rn.ret rfl
  repeat refine Rn.step rfl ?_
  refine Rn.calli rfl rfl rfl (by decide) (r_within y 2 _) (fun x1 e1 => ?_)
  refine Rn.br2 rfl (fun h1 => hb (⟨ib_ne0.mp (e0 ▸ h0), ib_ne0.mp (e1 ▸ h1)⟩)) ?_
  repeat refine Rn.step rfl ?_
  exact Rn.ret rfl
theorem r_span0 {s : Nat} (hs : s < 16) : Rn E 1 mX7_span (0, [(0, .ref 0), (1, .int (nI s)), (2, .int 0)], [], wX a v t r) (some (.int (a 4 s)), wX a v t r) := by
  repeat refine Rn.step rfl ?_
  refine Rn.calli rfl rfl rfl (by decide) (r_within (nI s) 16 _) (fun x0 e0 => ?_)
  refine Rn.br2 rfl (by rw [e0, ib_eq0]; exact fun q => q (inB_nI (n := 16) hs (by decide))) ?_
  repeat refine Rn.step rfl ?_
  refine Rn.calli rfl rfl rfl (by decide) (r_within 0 2 _) (fun x1 e1 => ?_)
  refine Rn.br1 rfl (by rw [e1, ib_ne0]; exact by decide) ?_
  repeat refine Rn.step rfl ?_
  refine Rn.ald s rfl rfl hs (by decide) ?_
  repeat refine Rn.step rfl ?_
  exact Rn.ret rfl
theorem r_span1 {s : Nat} (hs : s < 16) : Rn E 1 mX7_span (0, [(0, .ref 0), (1, .int (nI s)), (2, .int 1)], [], wX a v t r) (some (.int (a 5 s)), wX a v t r) := by
  repeat refine Rn.step rfl ?_
  refine Rn.calli rfl rfl rfl (by decide) (r_within (nI s) 16 _) (fun x0 e0 => ?_)
  refine Rn.br2 rfl (by rw [e0, ib_eq0]; exact fun q => q (inB_nI (n := 16) hs (by decide))) ?_
  repeat refine Rn.step rfl ?_
  refine Rn.calli rfl rfl rfl (by decide) (r_within 1 2 _) (fun x1 e1 => ?_)
  refine Rn.br1 rfl (by rw [e1, ib_ne0]; exact by decide) ?_
  repeat refine Rn.step rfl ?_
  refine Rn.ald s rfl rfl hs (by decide) ?_
  repeat refine Rn.step rfl ?_
  exact Rn.ret rfl
theorem r_log_bad (x y : Int32) (hb : ¬ (inB x (v 4) ∧ inB y 3)) : Rn E 2 mX7_log (0, [(0, .ref 0), (1, .int x), (2, .int y)], [], wX a v t r) ((some (.int (-2))), wX a v t r) := by
  repeat refine Rn.step rfl ?_
  refine Rn.calli rfl rfl rfl (by decide) (r_isLog x) (fun x0 e0 => ?_)
  refine Rn.br rfl (fun h0 => ?_) (fun h0 => ?_)
  · repeat refine Rn.step rfl ?_
    exact Rn.ret rfl
  repeat refine Rn.step rfl ?_
  refine Rn.calli rfl rfl rfl (by decide) (r_within y 3 _) (fun x1 e1 => ?_)
  refine Rn.br2 rfl (fun h1 => hb (⟨ib_ne0.mp (e0 ▸ h0), ib_ne0.mp (e1 ▸ h1)⟩)) ?_
  repeat refine Rn.step rfl ?_
  exact Rn.ret rfl
theorem r_log0 {l n : Nat} (hn : n ≤ 8) (hv4 : v 4 = nI n) (hl : l < n) : Rn E 2 mX7_log (0, [(0, .ref 0), (1, .int (nI l)), (2, .int 0)], [], wX a v t r) (some (.int (a 6 l)), wX a v t r) := by
  repeat refine Rn.step rfl ?_
  refine Rn.calli rfl rfl rfl (by decide) (r_isLog (nI l)) (fun x0 e0 => ?_)
  refine Rn.br2 rfl (by rw [e0, ib_eq0]; exact fun q => q (by rw [hv4]; exact inB_nI hl (by omega))) ?_
  repeat refine Rn.step rfl ?_
  refine Rn.calli rfl rfl rfl (by decide) (r_within 0 3 _) (fun x1 e1 => ?_)
  refine Rn.br1 rfl (by rw [e1, ib_ne0]; exact by decide) ?_
  repeat refine Rn.step rfl ?_
  refine Rn.ald l rfl rfl (by omega) (by decide) ?_
  repeat refine Rn.step rfl ?_
  exact Rn.ret rfl
theorem r_log1 {l n : Nat} (hn : n ≤ 8) (hv4 : v 4 = nI n) (hl : l < n) : Rn E 2 mX7_log (0, [(0, .ref 0), (1, .int (nI l)), (2, .int 1)], [], wX a v t r) (some (.int (a 7 l)), wX a v t r) := by
  repeat refine Rn.step rfl ?_
  refine Rn.calli rfl rfl rfl (by decide) (r_isLog (nI l)) (fun x0 e0 => ?_)
  refine Rn.br2 rfl (by rw [e0, ib_eq0]; exact fun q => q (by rw [hv4]; exact inB_nI hl (by omega))) ?_
  repeat refine Rn.step rfl ?_
  refine Rn.calli rfl rfl rfl (by decide) (r_within 1 3 _) (fun x1 e1 => ?_)
  refine Rn.br1 rfl (by rw [e1, ib_ne0]; exact by decide) ?_
  repeat refine Rn.step rfl ?_
  refine Rn.ald l rfl rfl (by omega) (by decide) ?_
  repeat refine Rn.step rfl ?_
  exact Rn.ret rfl
theorem r_log2 {l n : Nat} (hn : n ≤ 8) (hv4 : v 4 = nI n) (hl : l < n) : Rn E 2 mX7_log (0, [(0, .ref 0), (1, .int (nI l)), (2, .int 2)], [], wX a v t r) (some (.int (a 8 l)), wX a v t r) := by
  repeat refine Rn.step rfl ?_
  refine Rn.calli rfl rfl rfl (by decide) (r_isLog (nI l)) (fun x0 e0 => ?_)
  refine Rn.br2 rfl (by rw [e0, ib_eq0]; exact fun q => q (by rw [hv4]; exact inB_nI hl (by omega))) ?_
  repeat refine Rn.step rfl ?_
  refine Rn.calli rfl rfl rfl (by decide) (r_within 2 3 _) (fun x1 e1 => ?_)
  refine Rn.br1 rfl (by rw [e1, ib_ne0]; exact by decide) ?_
  repeat refine Rn.step rfl ?_
  refine Rn.ald l rfl rfl (by omega) (by decide) ?_
  repeat refine Rn.step rfl ?_
  exact Rn.ret rfl
/-- sheet s: its cell, its row, its form, its size -/
abbrev shT (s : Nat) : Nat := 45 + 2 * s
abbrev shI (s : Nat) : Nat := 46 + 2 * s
theorem r_isLost {s : Nat} (hs : s = 0 ∨ s = 1 ∨ s = 2 ∨ s = 3) : Rn E 0 mX2_isLost (0, [(0, .ref (shT s))], [], wX a v t r) (some (.int (ib (v (18 + s) = -1))), wX a v t r) := by
  rcases hs with rfl | rfl | rfl | rfl
  · repeat refine Rn.step rfl ?_
    refine Rn.br rfl (fun h1 => ?_) (fun h1 => ?_)
    · rw [ib_f h1]
      repeat refine Rn.step rfl ?_
      exact Rn.ret rfl
    · rw [ib_t (Decidable.not_not.mp h1)]
      repeat refine Rn.step rfl ?_
      exact Rn.ret rfl
  · repeat refine Rn.step rfl ?_
    refine Rn.br rfl (fun h1 => ?_) (fun h1 => ?_)
    · rw [ib_f h1]
      repeat refine Rn.step rfl ?_
      exact Rn.ret rfl
    · rw [ib_t (Decidable.not_not.mp h1)]
      repeat refine Rn.step rfl ?_
      exact Rn.ret rfl
  · repeat refine Rn.step rfl ?_
    refine Rn.br rfl (fun h1 => ?_) (fun h1 => ?_)
    · rw [ib_f h1]
      repeat refine Rn.step rfl ?_
      exact Rn.ret rfl
    · rw [ib_t (Decidable.not_not.mp h1)]
      repeat refine Rn.step rfl ?_
      exact Rn.ret rfl
  · repeat refine Rn.step rfl ?_
    refine Rn.br rfl (fun h1 => ?_) (fun h1 => ?_)
    · rw [ib_f h1]
      repeat refine Rn.step rfl ?_
      exact Rn.ret rfl
    · rw [ib_t (Decidable.not_not.mp h1)]
      repeat refine Rn.step rfl ?_
      exact Rn.ret rfl
abbrev zr (f : Nat → Int32) : Nat → Int32 := lp (fun i g => upd g i 0) 0 60 f
theorem r_renew0 (x y : Int32) : Rn E 0 mX2_renew (0, [(0, .ref 45), (1, .int x), (2, .int y)], [], wX a v t r) (none, wX (va_up a 46 (zr (a 46))) (upd (upd v 14 x) 18 y) t r) := by
  iterate 8 refine Rn.step rfl ?_
  refine Rn.lp (σ := Nat → Int32) (cfg := fun i g => (12, [(3, .int (nI i)), (0, .ref 45), (1, .int x), (2, .int y)], [], wX (va_up a 46 g) (upd (upd v 14 x) 18 y) t r)) (f := fun i g => upd g i 0) (n := 60) (fun _ _ => True) (fun i g hi _ => ⟨trivial, fun kk => ?_⟩) 60 0 (a 46) rfl trivial (fun g0 hg0 _ => ?_)
  · rw [nI_succ] at kk
    iterate 2 refine Rn.step rfl ?_
    refine Rn.br2 rfl (nle hi (by decide)) ?_
    iterate 4 refine Rn.step rfl ?_
    refine Rn.ast i rfl rfl hi (by decide) (h3 := wX (va_up a 46 (upd g i 0)) (upd (upd v 14 x) 18 y) t r) rfl ?_
    iterate 2 refine Rn.step rfl ?_
    exact kk
  · rw [show zr (a 46) = g0 from hg0.symm]
    repeat refine Rn.step rfl ?_
    exact Rn.ret rfl
theorem r_renew1 (x y : Int32) : Rn E 0 mX2_renew (0, [(0, .ref 47), (1, .int x), (2, .int y)], [], wX a v t r) (none, wX (va_up a 48 (zr (a 48))) (upd (upd v 15 x) 19 y) t r) := by
  iterate 8 refine Rn.step rfl ?_
  refine Rn.lp (σ := Nat → Int32) (cfg := fun i g => (12, [(3, .int (nI i)), (0, .ref 47), (1, .int x), (2, .int y)], [], wX (va_up a 48 g) (upd (upd v 15 x) 19 y) t r)) (f := fun i g => upd g i 0) (n := 60) (fun _ _ => True) (fun i g hi _ => ⟨trivial, fun kk => ?_⟩) 60 0 (a 48) rfl trivial (fun g0 hg0 _ => ?_)
  · rw [nI_succ] at kk
    iterate 2 refine Rn.step rfl ?_
    refine Rn.br2 rfl (nle hi (by decide)) ?_
    iterate 4 refine Rn.step rfl ?_
    refine Rn.ast i rfl rfl hi (by decide) (h3 := wX (va_up a 48 (upd g i 0)) (upd (upd v 15 x) 19 y) t r) rfl ?_
    iterate 2 refine Rn.step rfl ?_
    exact kk
  · rw [show zr (a 48) = g0 from hg0.symm]
    repeat refine Rn.step rfl ?_
    exact Rn.ret rfl
theorem r_renew2 (x y : Int32) : Rn E 0 mX2_renew (0, [(0, .ref 49), (1, .int x), (2, .int y)], [], wX a v t r) (none, wX (va_up a 50 (zr (a 50))) (upd (upd v 16 x) 20 y) t r) := by
  iterate 8 refine Rn.step rfl ?_
  refine Rn.lp (σ := Nat → Int32) (cfg := fun i g => (12, [(3, .int (nI i)), (0, .ref 49), (1, .int x), (2, .int y)], [], wX (va_up a 50 g) (upd (upd v 16 x) 20 y) t r)) (f := fun i g => upd g i 0) (n := 60) (fun _ _ => True) (fun i g hi _ => ⟨trivial, fun kk => ?_⟩) 60 0 (a 50) rfl trivial (fun g0 hg0 _ => ?_)
  · rw [nI_succ] at kk
    iterate 2 refine Rn.step rfl ?_
    refine Rn.br2 rfl (nle hi (by decide)) ?_
    iterate 4 refine Rn.step rfl ?_
    refine Rn.ast i rfl rfl hi (by decide) (h3 := wX (va_up a 50 (upd g i 0)) (upd (upd v 16 x) 20 y) t r) rfl ?_
    iterate 2 refine Rn.step rfl ?_
    exact kk
  · rw [show zr (a 50) = g0 from hg0.symm]
    repeat refine Rn.step rfl ?_
    exact Rn.ret rfl
theorem r_renew3 (x y : Int32) : Rn E 0 mX2_renew (0, [(0, .ref 51), (1, .int x), (2, .int y)], [], wX a v t r) (none, wX (va_up a 52 (zr (a 52))) (upd (upd v 17 x) 21 y) t r) := by
  iterate 8 refine Rn.step rfl ?_
  refine Rn.lp (σ := Nat → Int32) (cfg := fun i g => (12, [(3, .int (nI i)), (0, .ref 51), (1, .int x), (2, .int y)], [], wX (va_up a 52 g) (upd (upd v 17 x) 21 y) t r)) (f := fun i g => upd g i 0) (n := 60) (fun _ _ => True) (fun i g hi _ => ⟨trivial, fun kk => ?_⟩) 60 0 (a 52) rfl trivial (fun g0 hg0 _ => ?_)
  · rw [nI_succ] at kk
    iterate 2 refine Rn.step rfl ?_
    refine Rn.br2 rfl (nle hi (by decide)) ?_
    iterate 4 refine Rn.step rfl ?_
    refine Rn.ast i rfl rfl hi (by decide) (h3 := wX (va_up a 52 (upd g i 0)) (upd (upd v 17 x) 21 y) t r) rfl ?_
    iterate 2 refine Rn.step rfl ?_
    exact kk
  · rw [show zr (a 52) = g0 from hg0.symm]
    repeat refine Rn.step rfl ?_
    exact Rn.ret rfl
theorem r_renew {s : Nat} (hs : s = 0 ∨ s = 1 ∨ s = 2 ∨ s = 3) (x y : Int32) : Rn E 0 mX2_renew (0, [(0, .ref (shT s)), (1, .int x), (2, .int y)], [], wX a v t r) (none, wX (va_up a (shI s) (zr (a (shI s)))) (upd (upd v (14 + s) x) (18 + s) y) t r) := by
  rcases hs with rfl | rfl | rfl | rfl
  · exact r_renew0 x y
  · exact r_renew1 x y
  · exact r_renew2 x y
  · exact r_renew3 x y
def fdF (fm sz x i : Int32) : Int32 := if sz = -1 then 1 else if fm = x then (if inB i sz then 0 else 2) else 3
theorem r_findingAt {s : Nat} (hs : s = 0 ∨ s = 1 ∨ s = 2 ∨ s = 3) (x i : Int32) : Rn E 1 mX2_findingAt (0, [(0, .ref (shT s)), (1, .int x), (2, .int i)], [], wX a v t r) (some (.int (fdF (v (14 + s)) (v (18 + s)) x i)), wX a v t r) := by
  have hs0 := hs
  unfold fdF
  rcases hs with rfl | rfl | rfl | rfl
  · repeat refine Rn.step rfl ?_
    refine Rn.calli rfl rfl rfl (by decide) (r_isLost hs0) (fun z1 f1 => ?_)
    refine Rn.br rfl (fun h1 => ?_) (fun h1 => ?_)
    · rw [f1, ib_eq0] at h1
      rw [if_neg h1]
      repeat refine Rn.step rfl ?_
      refine Rn.br rfl (fun h2 => ?_) (fun h2 => ?_)
      · rw [if_pos h2]
        repeat refine Rn.step rfl ?_
        refine Rn.calli rfl rfl rfl (by decide) (r_within i _ _) (fun z2 f2 => ?_)
        refine Rn.br rfl (fun h3 => ?_) (fun h3 => ?_)
        · rw [f2, ib_eq0] at h3
          rw [if_neg h3]
          repeat refine Rn.step rfl ?_
          exact Rn.ret rfl
        · rw [f2, ib_ne0] at h3
          rw [if_pos h3]
          repeat refine Rn.step rfl ?_
          exact Rn.ret rfl
      · rw [if_neg h2]
        repeat refine Rn.step rfl ?_
        exact Rn.ret rfl
    · rw [f1, ib_ne0] at h1
      rw [if_pos h1]
      repeat refine Rn.step rfl ?_
      exact Rn.ret rfl
  · repeat refine Rn.step rfl ?_
    refine Rn.calli rfl rfl rfl (by decide) (r_isLost hs0) (fun z1 f1 => ?_)
    refine Rn.br rfl (fun h1 => ?_) (fun h1 => ?_)
    · rw [f1, ib_eq0] at h1
      rw [if_neg h1]
      repeat refine Rn.step rfl ?_
      refine Rn.br rfl (fun h2 => ?_) (fun h2 => ?_)
      · rw [if_pos h2]
        repeat refine Rn.step rfl ?_
        refine Rn.calli rfl rfl rfl (by decide) (r_within i _ _) (fun z2 f2 => ?_)
        refine Rn.br rfl (fun h3 => ?_) (fun h3 => ?_)
        · rw [f2, ib_eq0] at h3
          rw [if_neg h3]
          repeat refine Rn.step rfl ?_
          exact Rn.ret rfl
        · rw [f2, ib_ne0] at h3
          rw [if_pos h3]
          repeat refine Rn.step rfl ?_
          exact Rn.ret rfl
      · rw [if_neg h2]
        repeat refine Rn.step rfl ?_
        exact Rn.ret rfl
    · rw [f1, ib_ne0] at h1
      rw [if_pos h1]
      repeat refine Rn.step rfl ?_
      exact Rn.ret rfl
  · repeat refine Rn.step rfl ?_
    refine Rn.calli rfl rfl rfl (by decide) (r_isLost hs0) (fun z1 f1 => ?_)
    refine Rn.br rfl (fun h1 => ?_) (fun h1 => ?_)
    · rw [f1, ib_eq0] at h1
      rw [if_neg h1]
      repeat refine Rn.step rfl ?_
      refine Rn.br rfl (fun h2 => ?_) (fun h2 => ?_)
      · rw [if_pos h2]
        repeat refine Rn.step rfl ?_
        refine Rn.calli rfl rfl rfl (by decide) (r_within i _ _) (fun z2 f2 => ?_)
        refine Rn.br rfl (fun h3 => ?_) (fun h3 => ?_)
        · rw [f2, ib_eq0] at h3
          rw [if_neg h3]
          repeat refine Rn.step rfl ?_
          exact Rn.ret rfl
        · rw [f2, ib_ne0] at h3
          rw [if_pos h3]
          repeat refine Rn.step rfl ?_
          exact Rn.ret rfl
      · rw [if_neg h2]
        repeat refine Rn.step rfl ?_
        exact Rn.ret rfl
    · rw [f1, ib_ne0] at h1
      rw [if_pos h1]
      repeat refine Rn.step rfl ?_
      exact Rn.ret rfl
  · repeat refine Rn.step rfl ?_
    refine Rn.calli rfl rfl rfl (by decide) (r_isLost hs0) (fun z1 f1 => ?_)
    refine Rn.br rfl (fun h1 => ?_) (fun h1 => ?_)
    · rw [f1, ib_eq0] at h1
      rw [if_neg h1]
      repeat refine Rn.step rfl ?_
      refine Rn.br rfl (fun h2 => ?_) (fun h2 => ?_)
      · rw [if_pos h2]
        repeat refine Rn.step rfl ?_
        refine Rn.calli rfl rfl rfl (by decide) (r_within i _ _) (fun z2 f2 => ?_)
        refine Rn.br rfl (fun h3 => ?_) (fun h3 => ?_)
        · rw [f2, ib_eq0] at h3
          rw [if_neg h3]
          repeat refine Rn.step rfl ?_
          exact Rn.ret rfl
        · rw [f2, ib_ne0] at h3
          rw [if_pos h3]
          repeat refine Rn.step rfl ?_
          exact Rn.ret rfl
      · rw [if_neg h2]
        repeat refine Rn.step rfl ?_
        exact Rn.ret rfl
    · rw [f1, ib_ne0] at h1
      rw [if_pos h1]
      repeat refine Rn.step rfl ?_
      exact Rn.ret rfl
abbrev hrP (sz i n : Int32) : Prop := 0 ≤ i ∧ 0 ≤ n ∧ i.toInt64 + n.toInt64 ≤ sz.toInt64
theorem r_hasRun {s : Nat} (hs : s = 0 ∨ s = 1 ∨ s = 2 ∨ s = 3) (i n : Int32) : Rn E 0 mX2_hasRun (0, [(0, .ref (shT s)), (1, .int i), (2, .int n)], [], wX a v t r) (some (.int (ib (hrP (v (18 + s)) i n))), wX a v t r) := by
  rcases hs with rfl | rfl | rfl | rfl
  · refine Rn.step rfl ?_
    refine Rn.br rfl (fun h1 => ?_) (fun h1 => ?_)
    · rw [ib_f (fun q => absurd q.1 (Int32.not_le.mpr h1))]
      repeat refine Rn.step rfl ?_
      exact Rn.ret rfl
    · refine Rn.step rfl ?_
      refine Rn.br rfl (fun h2 => ?_) (fun h2 => ?_)
      · rw [ib_f (fun q => absurd q.2.1 (Int32.not_le.mpr h2))]
        repeat refine Rn.step rfl ?_
        exact Rn.ret rfl
      · repeat refine Rn.step rfl ?_
        refine Rn.br rfl (fun h3 => ?_) (fun h3 => ?_)
        · rw [ib_f (fun q => absurd q.2.2 (Int64.not_le.mpr ((lg_cmp_gt _ _).mp h3)))]
          repeat refine Rn.step rfl ?_
          exact Rn.ret rfl
        · rw [ib_t ⟨Int32.not_lt.mp h1, Int32.not_lt.mp h2, Int64.not_lt.mp (fun q => h3 ((lg_cmp_gt _ _).mpr q))⟩]
          repeat refine Rn.step rfl ?_
          exact Rn.ret rfl
  · refine Rn.step rfl ?_
    refine Rn.br rfl (fun h1 => ?_) (fun h1 => ?_)
    · rw [ib_f (fun q => absurd q.1 (Int32.not_le.mpr h1))]
      repeat refine Rn.step rfl ?_
      exact Rn.ret rfl
    · refine Rn.step rfl ?_
      refine Rn.br rfl (fun h2 => ?_) (fun h2 => ?_)
      · rw [ib_f (fun q => absurd q.2.1 (Int32.not_le.mpr h2))]
        repeat refine Rn.step rfl ?_
        exact Rn.ret rfl
      · repeat refine Rn.step rfl ?_
        refine Rn.br rfl (fun h3 => ?_) (fun h3 => ?_)
        · rw [ib_f (fun q => absurd q.2.2 (Int64.not_le.mpr ((lg_cmp_gt _ _).mp h3)))]
          repeat refine Rn.step rfl ?_
          exact Rn.ret rfl
        · rw [ib_t ⟨Int32.not_lt.mp h1, Int32.not_lt.mp h2, Int64.not_lt.mp (fun q => h3 ((lg_cmp_gt _ _).mpr q))⟩]
          repeat refine Rn.step rfl ?_
          exact Rn.ret rfl
  · refine Rn.step rfl ?_
    refine Rn.br rfl (fun h1 => ?_) (fun h1 => ?_)
    · rw [ib_f (fun q => absurd q.1 (Int32.not_le.mpr h1))]
      repeat refine Rn.step rfl ?_
      exact Rn.ret rfl
    · refine Rn.step rfl ?_
      refine Rn.br rfl (fun h2 => ?_) (fun h2 => ?_)
      · rw [ib_f (fun q => absurd q.2.1 (Int32.not_le.mpr h2))]
        repeat refine Rn.step rfl ?_
        exact Rn.ret rfl
      · repeat refine Rn.step rfl ?_
        refine Rn.br rfl (fun h3 => ?_) (fun h3 => ?_)
        · rw [ib_f (fun q => absurd q.2.2 (Int64.not_le.mpr ((lg_cmp_gt _ _).mp h3)))]
          repeat refine Rn.step rfl ?_
          exact Rn.ret rfl
        · rw [ib_t ⟨Int32.not_lt.mp h1, Int32.not_lt.mp h2, Int64.not_lt.mp (fun q => h3 ((lg_cmp_gt _ _).mpr q))⟩]
          repeat refine Rn.step rfl ?_
          exact Rn.ret rfl
  · refine Rn.step rfl ?_
    refine Rn.br rfl (fun h1 => ?_) (fun h1 => ?_)
    · rw [ib_f (fun q => absurd q.1 (Int32.not_le.mpr h1))]
      repeat refine Rn.step rfl ?_
      exact Rn.ret rfl
    · refine Rn.step rfl ?_
      refine Rn.br rfl (fun h2 => ?_) (fun h2 => ?_)
      · rw [ib_f (fun q => absurd q.2.1 (Int32.not_le.mpr h2))]
        repeat refine Rn.step rfl ?_
        exact Rn.ret rfl
      · repeat refine Rn.step rfl ?_
        refine Rn.br rfl (fun h3 => ?_) (fun h3 => ?_)
        · rw [ib_f (fun q => absurd q.2.2 (Int64.not_le.mpr ((lg_cmp_gt _ _).mp h3)))]
          repeat refine Rn.step rfl ?_
          exact Rn.ret rfl
        · rw [ib_t ⟨Int32.not_lt.mp h1, Int32.not_lt.mp h2, Int64.not_lt.mp (fun q => h3 ((lg_cmp_gt _ _).mpr q))⟩]
          repeat refine Rn.step rfl ?_
          exact Rn.ret rfl
def cutF (fm x : Int32) : Int32 := if fm = 0 then x.toInt8.toInt32 else if fm = 1 then x.toInt16.toInt32 else x
theorem r_put {s : Nat} (hs : s = 0 ∨ s = 1 ∨ s = 2 ∨ s = 3) {i : Nat} (hi : i < 60) (x : Int32) : Rn E 1 mX2_put (0, [(0, .ref (shT s)), (1, .int (nI i)), (2, .int x)], [], wX a v t r) (none, wX (va_up a (shI s) (upd (a (shI s)) i (cutF (v (14 + s)) x))) v t r) := by
  unfold cutF
  rcases hs with rfl | rfl | rfl | rfl
  · repeat refine Rn.step rfl ?_
    refine Rn.calli rfl rfl rfl (by decide) (r_within (nI i) 60 _) (fun z1 f1 => ?_)
    refine Rn.br1 rfl (by rw [f1, ib_ne0]; exact inB_nI (n := 60) hi (by decide)) ?_
    repeat refine Rn.step rfl ?_
    refine Rn.br rfl (fun h1 => ?_) (fun h1 => ?_)
    · rw [if_neg h1]
      repeat refine Rn.step rfl ?_
      refine Rn.br rfl (fun h2 => ?_) (fun h2 => ?_)
      · rw [if_neg h2]
        repeat refine Rn.step rfl ?_
        refine Rn.ast i rfl rfl hi (by decide) rfl ?_
        exact Rn.ret rfl
      · rw [if_pos (Decidable.not_not.mp h2)]
        repeat refine Rn.step rfl ?_
        refine Rn.ast i rfl rfl hi (by decide) rfl ?_
        exact Rn.ret rfl
    · rw [if_pos (Decidable.not_not.mp h1)]
      repeat refine Rn.step rfl ?_
      refine Rn.ast i rfl rfl hi (by decide) rfl ?_
      repeat refine Rn.step rfl ?_
      exact Rn.ret rfl
  · repeat refine Rn.step rfl ?_
    refine Rn.calli rfl rfl rfl (by decide) (r_within (nI i) 60 _) (fun z1 f1 => ?_)
    refine Rn.br1 rfl (by rw [f1, ib_ne0]; exact inB_nI (n := 60) hi (by decide)) ?_
    repeat refine Rn.step rfl ?_
    refine Rn.br rfl (fun h1 => ?_) (fun h1 => ?_)
    · rw [if_neg h1]
      repeat refine Rn.step rfl ?_
      refine Rn.br rfl (fun h2 => ?_) (fun h2 => ?_)
      · rw [if_neg h2]
        repeat refine Rn.step rfl ?_
        refine Rn.ast i rfl rfl hi (by decide) rfl ?_
        exact Rn.ret rfl
      · rw [if_pos (Decidable.not_not.mp h2)]
        repeat refine Rn.step rfl ?_
        refine Rn.ast i rfl rfl hi (by decide) rfl ?_
        exact Rn.ret rfl
    · rw [if_pos (Decidable.not_not.mp h1)]
      repeat refine Rn.step rfl ?_
      refine Rn.ast i rfl rfl hi (by decide) rfl ?_
      repeat refine Rn.step rfl ?_
      exact Rn.ret rfl
  · repeat refine Rn.step rfl ?_
    refine Rn.calli rfl rfl rfl (by decide) (r_within (nI i) 60 _) (fun z1 f1 => ?_)
    refine Rn.br1 rfl (by rw [f1, ib_ne0]; exact inB_nI (n := 60) hi (by decide)) ?_
    repeat refine Rn.step rfl ?_
    refine Rn.br rfl (fun h1 => ?_) (fun h1 => ?_)
    · rw [if_neg h1]
      repeat refine Rn.step rfl ?_
      refine Rn.br rfl (fun h2 => ?_) (fun h2 => ?_)
      · rw [if_neg h2]
        repeat refine Rn.step rfl ?_
        refine Rn.ast i rfl rfl hi (by decide) rfl ?_
        exact Rn.ret rfl
      · rw [if_pos (Decidable.not_not.mp h2)]
        repeat refine Rn.step rfl ?_
        refine Rn.ast i rfl rfl hi (by decide) rfl ?_
        exact Rn.ret rfl
    · rw [if_pos (Decidable.not_not.mp h1)]
      repeat refine Rn.step rfl ?_
      refine Rn.ast i rfl rfl hi (by decide) rfl ?_
      repeat refine Rn.step rfl ?_
      exact Rn.ret rfl
  · repeat refine Rn.step rfl ?_
    refine Rn.calli rfl rfl rfl (by decide) (r_within (nI i) 60 _) (fun z1 f1 => ?_)
    refine Rn.br1 rfl (by rw [f1, ib_ne0]; exact inB_nI (n := 60) hi (by decide)) ?_
    repeat refine Rn.step rfl ?_
    refine Rn.br rfl (fun h1 => ?_) (fun h1 => ?_)
    · rw [if_neg h1]
      repeat refine Rn.step rfl ?_
      refine Rn.br rfl (fun h2 => ?_) (fun h2 => ?_)
      · rw [if_neg h2]
        repeat refine Rn.step rfl ?_
        refine Rn.ast i rfl rfl hi (by decide) rfl ?_
        exact Rn.ret rfl
      · rw [if_pos (Decidable.not_not.mp h2)]
        repeat refine Rn.step rfl ?_
        refine Rn.ast i rfl rfl hi (by decide) rfl ?_
        exact Rn.ret rfl
    · rw [if_pos (Decidable.not_not.mp h1)]
      repeat refine Rn.step rfl ?_
      refine Rn.ast i rfl rfl hi (by decide) rfl ?_
      repeat refine Rn.step rfl ?_
      exact Rn.ret rfl
theorem s4 {s : Nat} (h : s < 4) : s = 0 ∨ s = 1 ∨ s = 2 ∨ s = 3 := by omega
theorem r_sheet_bad (x y z : Int32) (hb : ¬ (inB x 4 ∧ inB y 3 ∧ z ≤ 60)) : Rn E 2 mX7_sheet (0, [(0, .ref 0), (1, .int x), (2, .int y), (3, .int z)], [], wX a v t r) (some (.int (-2)), wX a v t r) := by
  repeat refine Rn.step rfl ?_
  refine Rn.calli rfl rfl rfl (by decide) (r_within x 4 _) (fun z1 f1 => ?_)
  refine Rn.br rfl (fun h1 => ?_) (fun h1 => ?_)
  · repeat refine Rn.step rfl ?_
    exact Rn.ret rfl
  · repeat refine Rn.step rfl ?_
    refine Rn.calli rfl rfl rfl (by decide) (r_within y 3 _) (fun z2 f2 => ?_)
    refine Rn.br rfl (fun h2 => ?_) (fun h2 => ?_)
    · repeat refine Rn.step rfl ?_
      exact Rn.ret rfl
    · repeat refine Rn.step rfl ?_
      refine Rn.br2 rfl (fun q => hb ⟨ib_ne0.mp (f1 ▸ h1), ib_ne0.mp (f2 ▸ h2), q⟩) ?_
      repeat refine Rn.step rfl ?_
      exact Rn.ret rfl
theorem r_sheet_size (x y z : Int32) (hb : inB x 4 ∧ inB y 3 ∧ z ≤ 60) (hz : z < 0) : Rn E 2 mX7_sheet (0, [(0, .ref 0), (1, .int x), (2, .int y), (3, .int z)], [], wX a v t r) (some (.int (-15)), wX a (upd v 0 5) t r) := by
  repeat refine Rn.step rfl ?_
  refine Rn.calli rfl rfl rfl (by decide) (r_within x 4 _) (fun z1 f1 => ?_)
  refine Rn.br2 rfl (by rw [f1, ib_eq0]; exact fun q => q hb.1) ?_
  repeat refine Rn.step rfl ?_
  refine Rn.calli rfl rfl rfl (by decide) (r_within y 3 _) (fun z2 f2 => ?_)
  refine Rn.br2 rfl (by rw [f2, ib_eq0]; exact fun q => q hb.2.1) ?_
  repeat refine Rn.step rfl ?_
  refine Rn.br1 rfl hb.2.2 ?_
  refine Rn.step rfl ?_
  refine Rn.br2 rfl (Int32.not_le.mpr hz) ?_
  repeat refine Rn.step rfl ?_
  refine Rn.calli rfl rfl rfl (by decide) (r_found 5) (fun z3 f3 => ?_)
  subst f3
  exact Rn.ret rfl
theorem r_sheet {s : Nat} (hs : s = 0 ∨ s = 1 ∨ s = 2 ∨ s = 3) (y z : Int32) (hb : inB y 3 ∧ z ≤ 60) (hz : 0 ≤ z) : Rn E 2 mX7_sheet (0, [(0, .ref 0), (1, .int (nI s)), (2, .int y), (3, .int z)], [], wX a v t r) (some (.int z), wX (va_up a (shI s) (zr (a (shI s)))) (upd (upd v (14 + s) y) (18 + s) z) t r) := by
  have hs0 := hs
  rcases hs with rfl | rfl | rfl | rfl
  · repeat refine Rn.step rfl ?_
    refine Rn.calli rfl rfl rfl (by decide) (r_within (nI _) 4 _) (fun z1 f1 => ?_)
    refine Rn.br2 rfl (by rw [f1, ib_eq0]; exact fun q => q (by decide)) ?_
    repeat refine Rn.step rfl ?_
    refine Rn.calli rfl rfl rfl (by decide) (r_within y 3 _) (fun z2 f2 => ?_)
    refine Rn.br2 rfl (by rw [f2, ib_eq0]; exact fun q => q hb.1) ?_
    repeat refine Rn.step rfl ?_
    refine Rn.br1 rfl hb.2 ?_
    refine Rn.step rfl ?_
    refine Rn.br1 rfl hz ?_
    repeat refine Rn.step rfl ?_
    refine Rn.callv rfl rfl rfl (by decide) (r_renew hs0 y z) ?_
    repeat refine Rn.step rfl ?_
    exact Rn.ret rfl
  · repeat refine Rn.step rfl ?_
    refine Rn.calli rfl rfl rfl (by decide) (r_within (nI _) 4 _) (fun z1 f1 => ?_)
    refine Rn.br2 rfl (by rw [f1, ib_eq0]; exact fun q => q (by decide)) ?_
    repeat refine Rn.step rfl ?_
    refine Rn.calli rfl rfl rfl (by decide) (r_within y 3 _) (fun z2 f2 => ?_)
    refine Rn.br2 rfl (by rw [f2, ib_eq0]; exact fun q => q hb.1) ?_
    repeat refine Rn.step rfl ?_
    refine Rn.br1 rfl hb.2 ?_
    refine Rn.step rfl ?_
    refine Rn.br1 rfl hz ?_
    repeat refine Rn.step rfl ?_
    refine Rn.callv rfl rfl rfl (by decide) (r_renew hs0 y z) ?_
    repeat refine Rn.step rfl ?_
    exact Rn.ret rfl
  · repeat refine Rn.step rfl ?_
    refine Rn.calli rfl rfl rfl (by decide) (r_within (nI _) 4 _) (fun z1 f1 => ?_)
    refine Rn.br2 rfl (by rw [f1, ib_eq0]; exact fun q => q (by decide)) ?_
    repeat refine Rn.step rfl ?_
    refine Rn.calli rfl rfl rfl (by decide) (r_within y 3 _) (fun z2 f2 => ?_)
    refine Rn.br2 rfl (by rw [f2, ib_eq0]; exact fun q => q hb.1) ?_
    repeat refine Rn.step rfl ?_
    refine Rn.br1 rfl hb.2 ?_
    refine Rn.step rfl ?_
    refine Rn.br1 rfl hz ?_
    repeat refine Rn.step rfl ?_
    refine Rn.callv rfl rfl rfl (by decide) (r_renew hs0 y z) ?_
    repeat refine Rn.step rfl ?_
    exact Rn.ret rfl
  · repeat refine Rn.step rfl ?_
    refine Rn.calli rfl rfl rfl (by decide) (r_within (nI _) 4 _) (fun z1 f1 => ?_)
    refine Rn.br2 rfl (by rw [f1, ib_eq0]; exact fun q => q (by decide)) ?_
    repeat refine Rn.step rfl ?_
    refine Rn.calli rfl rfl rfl (by decide) (r_within y 3 _) (fun z2 f2 => ?_)
    refine Rn.br2 rfl (by rw [f2, ib_eq0]; exact fun q => q hb.1) ?_
    repeat refine Rn.step rfl ?_
    refine Rn.br1 rfl hb.2 ?_
    refine Rn.step rfl ?_
    refine Rn.br1 rfl hz ?_
    repeat refine Rn.step rfl ?_
    refine Rn.callv rfl rfl rfl (by decide) (r_renew hs0 y z) ?_
    repeat refine Rn.step rfl ?_
    exact Rn.ret rfl
theorem r_lose_bad (x : Int32) (hb : ¬ (inB x 4)) : Rn E 2 mX7_lose (0, [(0, .ref 0), (1, .int x)], [], wX a v t r) ((some (.int (-2))), wX a v t r) := by
  repeat refine Rn.step rfl ?_
  refine Rn.calli rfl rfl rfl (by decide) (r_within x 4 _) (fun x0 e0 => ?_)
  refine Rn.br2 rfl (fun h0 => hb (ib_ne0.mp (e0 ▸ h0))) ?_
  repeat refine Rn.step rfl ?_
  exact Rn.ret rfl
theorem r_lose_null {s : Nat} (hs : s = 0 ∨ s = 1 ∨ s = 2 ∨ s = 3) (hz : v (18 + s) = -1) : Rn E 2 mX7_lose (0, [(0, .ref 0), (1, .int (nI s))], [], wX a v t r) (some (.int (-11)), wX a (upd v 0 1) t r) := by
  have hs0 := hs
  rcases hs with rfl | rfl | rfl | rfl
  · repeat refine Rn.step rfl ?_
    refine Rn.calli rfl rfl rfl (by decide) (r_within (nI _) 4 _) (fun z1 f1 => ?_)
    refine Rn.br1 rfl (by rw [f1, ib_ne0]; decide) ?_
    repeat refine Rn.step rfl ?_
    refine Rn.calli rfl rfl rfl (by decide) (r_isLost hs0) (fun z2 f2 => ?_)
    refine Rn.br2 rfl (by rw [f2, ib_eq0]; exact fun q => q hz) ?_
    repeat refine Rn.step rfl ?_
    refine Rn.calli rfl rfl rfl (by decide) (r_found 1) (fun z3 f3 => ?_)
    subst f3
    exact Rn.ret rfl
  · repeat refine Rn.step rfl ?_
    refine Rn.calli rfl rfl rfl (by decide) (r_within (nI _) 4 _) (fun z1 f1 => ?_)
    refine Rn.br1 rfl (by rw [f1, ib_ne0]; decide) ?_
    repeat refine Rn.step rfl ?_
    refine Rn.calli rfl rfl rfl (by decide) (r_isLost hs0) (fun z2 f2 => ?_)
    refine Rn.br2 rfl (by rw [f2, ib_eq0]; exact fun q => q hz) ?_
    repeat refine Rn.step rfl ?_
    refine Rn.calli rfl rfl rfl (by decide) (r_found 1) (fun z3 f3 => ?_)
    subst f3
    exact Rn.ret rfl
  · repeat refine Rn.step rfl ?_
    refine Rn.calli rfl rfl rfl (by decide) (r_within (nI _) 4 _) (fun z1 f1 => ?_)
    refine Rn.br1 rfl (by rw [f1, ib_ne0]; decide) ?_
    repeat refine Rn.step rfl ?_
    refine Rn.calli rfl rfl rfl (by decide) (r_isLost hs0) (fun z2 f2 => ?_)
    refine Rn.br2 rfl (by rw [f2, ib_eq0]; exact fun q => q hz) ?_
    repeat refine Rn.step rfl ?_
    refine Rn.calli rfl rfl rfl (by decide) (r_found 1) (fun z3 f3 => ?_)
    subst f3
    exact Rn.ret rfl
  · repeat refine Rn.step rfl ?_
    refine Rn.calli rfl rfl rfl (by decide) (r_within (nI _) 4 _) (fun z1 f1 => ?_)
    refine Rn.br1 rfl (by rw [f1, ib_ne0]; decide) ?_
    repeat refine Rn.step rfl ?_
    refine Rn.calli rfl rfl rfl (by decide) (r_isLost hs0) (fun z2 f2 => ?_)
    refine Rn.br2 rfl (by rw [f2, ib_eq0]; exact fun q => q hz) ?_
    repeat refine Rn.step rfl ?_
    refine Rn.calli rfl rfl rfl (by decide) (r_found 1) (fun z3 f3 => ?_)
    subst f3
    exact Rn.ret rfl
theorem r_lose {s : Nat} (hs : s = 0 ∨ s = 1 ∨ s = 2 ∨ s = 3) (hz : ¬ v (18 + s) = -1) : Rn E 2 mX7_lose (0, [(0, .ref 0), (1, .int (nI s))], [], wX a v t r) (some (.int (v (18 + s))), wX a (upd v (18 + s) (-1)) t r) := by
  have hs0 := hs
  rcases hs with rfl | rfl | rfl | rfl
  · repeat refine Rn.step rfl ?_
    refine Rn.calli rfl rfl rfl (by decide) (r_within (nI _) 4 _) (fun z1 f1 => ?_)
    refine Rn.br1 rfl (by rw [f1, ib_ne0]; decide) ?_
    repeat refine Rn.step rfl ?_
    refine Rn.calli rfl rfl rfl (by decide) (r_isLost hs0) (fun z2 f2 => ?_)
    refine Rn.br1 rfl (by rw [f2, ib_eq0]; exact hz) ?_
    repeat refine Rn.step rfl ?_
    exact Rn.ret rfl
  · repeat refine Rn.step rfl ?_
    refine Rn.calli rfl rfl rfl (by decide) (r_within (nI _) 4 _) (fun z1 f1 => ?_)
    refine Rn.br1 rfl (by rw [f1, ib_ne0]; decide) ?_
    repeat refine Rn.step rfl ?_
    refine Rn.calli rfl rfl rfl (by decide) (r_isLost hs0) (fun z2 f2 => ?_)
    refine Rn.br1 rfl (by rw [f2, ib_eq0]; exact hz) ?_
    repeat refine Rn.step rfl ?_
    exact Rn.ret rfl
  · repeat refine Rn.step rfl ?_
    refine Rn.calli rfl rfl rfl (by decide) (r_within (nI _) 4 _) (fun z1 f1 => ?_)
    refine Rn.br1 rfl (by rw [f1, ib_ne0]; decide) ?_
    repeat refine Rn.step rfl ?_
    refine Rn.calli rfl rfl rfl (by decide) (r_isLost hs0) (fun z2 f2 => ?_)
    refine Rn.br1 rfl (by rw [f2, ib_eq0]; exact hz) ?_
    repeat refine Rn.step rfl ?_
    exact Rn.ret rfl
  · repeat refine Rn.step rfl ?_
    refine Rn.calli rfl rfl rfl (by decide) (r_within (nI _) 4 _) (fun z1 f1 => ?_)
    refine Rn.br1 rfl (by rw [f1, ib_ne0]; decide) ?_
    repeat refine Rn.step rfl ?_
    refine Rn.calli rfl rfl rfl (by decide) (r_isLost hs0) (fun z2 f2 => ?_)
    refine Rn.br1 rfl (by rw [f2, ib_eq0]; exact hz) ?_
    repeat refine Rn.step rfl ?_
    exact Rn.ret rfl
theorem r_lay_bad (x y i z : Int32) (hb : ¬ (inB x 4 ∧ inB y 3)) : Rn E 2 mX7_lay (0, [(0, .ref 0), (1, .int x), (2, .int y), (3, .int i), (4, .int z)], [], wX a v t r) ((some (.int (-2))), wX a v t r) := by
  repeat refine Rn.step rfl ?_
  refine Rn.calli rfl rfl rfl (by decide) (r_within x 4 _) (fun x0 e0 => ?_)
  refine Rn.br rfl (fun h0 => ?_) (fun h0 => ?_)
  · repeat refine Rn.step rfl ?_
    exact Rn.ret rfl
  repeat refine Rn.step rfl ?_
  refine Rn.calli rfl rfl rfl (by decide) (r_within y 3 _) (fun x1 e1 => ?_)
  refine Rn.br2 rfl (fun h1 => hb (⟨ib_ne0.mp (e0 ▸ h0), ib_ne0.mp (e1 ▸ h1)⟩)) ?_
  repeat refine Rn.step rfl ?_
  exact Rn.ret rfl
theorem r_lay_no {s : Nat} (hs : s = 0 ∨ s = 1 ∨ s = 2 ∨ s = 3) {y : Int32} (hy : inB y 3) (i z : Int32) (hf : ¬ fdF (v (14 + s)) (v (18 + s)) y i = 0) : Rn E 2 mX7_lay (0, [(0, .ref 0), (1, .int (nI s)), (2, .int y), (3, .int i), (4, .int z)], [], wX a v t r) (some (.int (-10 - fdF (v (14 + s)) (v (18 + s)) y i)), wX a (upd v 0 (fdF (v (14 + s)) (v (18 + s)) y i)) t r) := by
  have hs0 := hs
  rcases hs with rfl | rfl | rfl | rfl
  · repeat refine Rn.step rfl ?_
    refine Rn.calli rfl rfl rfl (by decide) (r_within (nI _) 4 _) (fun z1 f1 => ?_)
    refine Rn.br2 rfl (by rw [f1, ib_eq0]; exact fun q => q (by decide)) ?_
    repeat refine Rn.step rfl ?_
    refine Rn.calli rfl rfl rfl (by decide) (r_within y 3 _) (fun z2 f2 => ?_)
    refine Rn.br1 rfl (by rw [f2, ib_ne0]; exact hy) ?_
    repeat refine Rn.step rfl ?_
    refine Rn.calli rfl rfl rfl (by decide) (r_findingAt hs0 y i) (fun z3 f3 => ?_)
    rw [← f3] at hf ⊢
    repeat refine Rn.step rfl ?_
    refine Rn.br2 rfl hf ?_
    repeat refine Rn.step rfl ?_
    refine Rn.calli rfl rfl rfl (by decide) (r_found z3) (fun z4 f4 => ?_)
    rw [← f4]
    exact Rn.ret rfl
  · repeat refine Rn.step rfl ?_
    refine Rn.calli rfl rfl rfl (by decide) (r_within (nI _) 4 _) (fun z1 f1 => ?_)
    refine Rn.br2 rfl (by rw [f1, ib_eq0]; exact fun q => q (by decide)) ?_
    repeat refine Rn.step rfl ?_
    refine Rn.calli rfl rfl rfl (by decide) (r_within y 3 _) (fun z2 f2 => ?_)
    refine Rn.br1 rfl (by rw [f2, ib_ne0]; exact hy) ?_
    repeat refine Rn.step rfl ?_
    refine Rn.calli rfl rfl rfl (by decide) (r_findingAt hs0 y i) (fun z3 f3 => ?_)
    rw [← f3] at hf ⊢
    repeat refine Rn.step rfl ?_
    refine Rn.br2 rfl hf ?_
    repeat refine Rn.step rfl ?_
    refine Rn.calli rfl rfl rfl (by decide) (r_found z3) (fun z4 f4 => ?_)
    rw [← f4]
    exact Rn.ret rfl
  · repeat refine Rn.step rfl ?_
    refine Rn.calli rfl rfl rfl (by decide) (r_within (nI _) 4 _) (fun z1 f1 => ?_)
    refine Rn.br2 rfl (by rw [f1, ib_eq0]; exact fun q => q (by decide)) ?_
    repeat refine Rn.step rfl ?_
    refine Rn.calli rfl rfl rfl (by decide) (r_within y 3 _) (fun z2 f2 => ?_)
    refine Rn.br1 rfl (by rw [f2, ib_ne0]; exact hy) ?_
    repeat refine Rn.step rfl ?_
    refine Rn.calli rfl rfl rfl (by decide) (r_findingAt hs0 y i) (fun z3 f3 => ?_)
    rw [← f3] at hf ⊢
    repeat refine Rn.step rfl ?_
    refine Rn.br2 rfl hf ?_
    repeat refine Rn.step rfl ?_
    refine Rn.calli rfl rfl rfl (by decide) (r_found z3) (fun z4 f4 => ?_)
    rw [← f4]
    exact Rn.ret rfl
  · repeat refine Rn.step rfl ?_
    refine Rn.calli rfl rfl rfl (by decide) (r_within (nI _) 4 _) (fun z1 f1 => ?_)
    refine Rn.br2 rfl (by rw [f1, ib_eq0]; exact fun q => q (by decide)) ?_
    repeat refine Rn.step rfl ?_
    refine Rn.calli rfl rfl rfl (by decide) (r_within y 3 _) (fun z2 f2 => ?_)
    refine Rn.br1 rfl (by rw [f2, ib_ne0]; exact hy) ?_
    repeat refine Rn.step rfl ?_
    refine Rn.calli rfl rfl rfl (by decide) (r_findingAt hs0 y i) (fun z3 f3 => ?_)
    rw [← f3] at hf ⊢
    repeat refine Rn.step rfl ?_
    refine Rn.br2 rfl hf ?_
    repeat refine Rn.step rfl ?_
    refine Rn.calli rfl rfl rfl (by decide) (r_found z3) (fun z4 f4 => ?_)
    rw [← f4]
    exact Rn.ret rfl
theorem r_lay {s : Nat} (hs : s = 0 ∨ s = 1 ∨ s = 2 ∨ s = 3) {y : Int32} (hy : inB y 3) {i : Nat} (hi : i < 60) (z : Int32) (hf : fdF (v (14 + s)) (v (18 + s)) y (nI i) = 0) : Rn E 2 mX7_lay (0, [(0, .ref 0), (1, .int (nI s)), (2, .int y), (3, .int (nI i)), (4, .int z)], [], wX a v t r) (some (.int 1), wX (va_up a (shI s) (upd (a (shI s)) i (cutF (v (14 + s)) z))) v t r) := by
  have hs0 := hs
  rcases hs with rfl | rfl | rfl | rfl
  · repeat refine Rn.step rfl ?_
    refine Rn.calli rfl rfl rfl (by decide) (r_within (nI _) 4 _) (fun z1 f1 => ?_)
    refine Rn.br2 rfl (by rw [f1, ib_eq0]; exact fun q => q (by decide)) ?_
    repeat refine Rn.step rfl ?_
    refine Rn.calli rfl rfl rfl (by decide) (r_within y 3 _) (fun z2 f2 => ?_)
    refine Rn.br1 rfl (by rw [f2, ib_ne0]; exact hy) ?_
    repeat refine Rn.step rfl ?_
    refine Rn.calli rfl rfl rfl (by decide) (r_findingAt hs0 y (nI i)) (fun z3 f3 => ?_)
    rw [hf] at f3
    subst f3
    repeat refine Rn.step rfl ?_
    refine Rn.callv rfl rfl rfl (by decide) (r_put hs0 hi z) ?_
    repeat refine Rn.step rfl ?_
    exact Rn.ret rfl
  · repeat refine Rn.step rfl ?_
    refine Rn.calli rfl rfl rfl (by decide) (r_within (nI _) 4 _) (fun z1 f1 => ?_)
    refine Rn.br2 rfl (by rw [f1, ib_eq0]; exact fun q => q (by decide)) ?_
    repeat refine Rn.step rfl ?_
    refine Rn.calli rfl rfl rfl (by decide) (r_within y 3 _) (fun z2 f2 => ?_)
    refine Rn.br1 rfl (by rw [f2, ib_ne0]; exact hy) ?_
    repeat refine Rn.step rfl ?_
    refine Rn.calli rfl rfl rfl (by decide) (r_findingAt hs0 y (nI i)) (fun z3 f3 => ?_)
    rw [hf] at f3
    subst f3
    repeat refine Rn.step rfl ?_
    refine Rn.callv rfl rfl rfl (by decide) (r_put hs0 hi z) ?_
    repeat refine Rn.step rfl ?_
    exact Rn.ret rfl
  · repeat refine Rn.step rfl ?_
    refine Rn.calli rfl rfl rfl (by decide) (r_within (nI _) 4 _) (fun z1 f1 => ?_)
    refine Rn.br2 rfl (by rw [f1, ib_eq0]; exact fun q => q (by decide)) ?_
    repeat refine Rn.step rfl ?_
    refine Rn.calli rfl rfl rfl (by decide) (r_within y 3 _) (fun z2 f2 => ?_)
    refine Rn.br1 rfl (by rw [f2, ib_ne0]; exact hy) ?_
    repeat refine Rn.step rfl ?_
    refine Rn.calli rfl rfl rfl (by decide) (r_findingAt hs0 y (nI i)) (fun z3 f3 => ?_)
    rw [hf] at f3
    subst f3
    repeat refine Rn.step rfl ?_
    refine Rn.callv rfl rfl rfl (by decide) (r_put hs0 hi z) ?_
    repeat refine Rn.step rfl ?_
    exact Rn.ret rfl
  · repeat refine Rn.step rfl ?_
    refine Rn.calli rfl rfl rfl (by decide) (r_within (nI _) 4 _) (fun z1 f1 => ?_)
    refine Rn.br2 rfl (by rw [f1, ib_eq0]; exact fun q => q (by decide)) ?_
    repeat refine Rn.step rfl ?_
    refine Rn.calli rfl rfl rfl (by decide) (r_within y 3 _) (fun z2 f2 => ?_)
    refine Rn.br1 rfl (by rw [f2, ib_ne0]; exact hy) ?_
    repeat refine Rn.step rfl ?_
    refine Rn.calli rfl rfl rfl (by decide) (r_findingAt hs0 y (nI i)) (fun z3 f3 => ?_)
    rw [hf] at f3
    subst f3
    repeat refine Rn.step rfl ?_
    refine Rn.callv rfl rfl rfl (by decide) (r_put hs0 hi z) ?_
    repeat refine Rn.step rfl ?_
    exact Rn.ret rfl
theorem r_get_bad (x y i : Int32) (hb : ¬ (inB x 4 ∧ inB y 3)) : Rn E 2 mX7_get (0, [(0, .ref 0), (1, .int x), (2, .int y), (3, .int i)], [], wX a v t r) ((some (.int (-2147483648))), wX a v t r) := by
  repeat refine Rn.step rfl ?_
  refine Rn.calli rfl rfl rfl (by decide) (r_within x 4 _) (fun x0 e0 => ?_)
  refine Rn.br rfl (fun h0 => ?_) (fun h0 => ?_)
  · repeat refine Rn.step rfl ?_
    exact Rn.ret rfl
  repeat refine Rn.step rfl ?_
  refine Rn.calli rfl rfl rfl (by decide) (r_within y 3 _) (fun x1 e1 => ?_)
  refine Rn.br2 rfl (fun h1 => hb (⟨ib_ne0.mp (e0 ▸ h0), ib_ne0.mp (e1 ▸ h1)⟩)) ?_
  repeat refine Rn.step rfl ?_
  exact Rn.ret rfl
theorem r_get_no {s : Nat} (hs : s = 0 ∨ s = 1 ∨ s = 2 ∨ s = 3) {y : Int32} (hy : inB y 3) (i : Int32) (hf : ¬ fdF (v (14 + s)) (v (18 + s)) y i = 0) : Rn E 2 mX7_get (0, [(0, .ref 0), (1, .int (nI s)), (2, .int y), (3, .int i)], [], wX a v t r) (some (.int (-2147483648)), wX a (upd v 0 (fdF (v (14 + s)) (v (18 + s)) y i)) t r) := by
  have hs0 := hs
  rcases hs with rfl | rfl | rfl | rfl
  · repeat refine Rn.step rfl ?_
    refine Rn.calli rfl rfl rfl (by decide) (r_within (nI _) 4 _) (fun z1 f1 => ?_)
    refine Rn.br2 rfl (by rw [f1, ib_eq0]; exact fun q => q (by decide)) ?_
    repeat refine Rn.step rfl ?_
    refine Rn.calli rfl rfl rfl (by decide) (r_within y 3 _) (fun z2 f2 => ?_)
    refine Rn.br1 rfl (by rw [f2, ib_ne0]; exact hy) ?_
    repeat refine Rn.step rfl ?_
    refine Rn.calli rfl rfl rfl (by decide) (r_findingAt hs0 y i) (fun z3 f3 => ?_)
    rw [← f3] at hf ⊢
    repeat refine Rn.step rfl ?_
    refine Rn.br2 rfl hf ?_
    repeat refine Rn.step rfl ?_
    exact Rn.ret rfl
  · repeat refine Rn.step rfl ?_
    refine Rn.calli rfl rfl rfl (by decide) (r_within (nI _) 4 _) (fun z1 f1 => ?_)
    refine Rn.br2 rfl (by rw [f1, ib_eq0]; exact fun q => q (by decide)) ?_
    repeat refine Rn.step rfl ?_
    refine Rn.calli rfl rfl rfl (by decide) (r_within y 3 _) (fun z2 f2 => ?_)
    refine Rn.br1 rfl (by rw [f2, ib_ne0]; exact hy) ?_
    repeat refine Rn.step rfl ?_
    refine Rn.calli rfl rfl rfl (by decide) (r_findingAt hs0 y i) (fun z3 f3 => ?_)
    rw [← f3] at hf ⊢
    repeat refine Rn.step rfl ?_
    refine Rn.br2 rfl hf ?_
    repeat refine Rn.step rfl ?_
    exact Rn.ret rfl
  · repeat refine Rn.step rfl ?_
    refine Rn.calli rfl rfl rfl (by decide) (r_within (nI _) 4 _) (fun z1 f1 => ?_)
    refine Rn.br2 rfl (by rw [f1, ib_eq0]; exact fun q => q (by decide)) ?_
    repeat refine Rn.step rfl ?_
    refine Rn.calli rfl rfl rfl (by decide) (r_within y 3 _) (fun z2 f2 => ?_)
    refine Rn.br1 rfl (by rw [f2, ib_ne0]; exact hy) ?_
    repeat refine Rn.step rfl ?_
    refine Rn.calli rfl rfl rfl (by decide) (r_findingAt hs0 y i) (fun z3 f3 => ?_)
    rw [← f3] at hf ⊢
    repeat refine Rn.step rfl ?_
    refine Rn.br2 rfl hf ?_
    repeat refine Rn.step rfl ?_
    exact Rn.ret rfl
  · repeat refine Rn.step rfl ?_
    refine Rn.calli rfl rfl rfl (by decide) (r_within (nI _) 4 _) (fun z1 f1 => ?_)
    refine Rn.br2 rfl (by rw [f1, ib_eq0]; exact fun q => q (by decide)) ?_
    repeat refine Rn.step rfl ?_
    refine Rn.calli rfl rfl rfl (by decide) (r_within y 3 _) (fun z2 f2 => ?_)
    refine Rn.br1 rfl (by rw [f2, ib_ne0]; exact hy) ?_
    repeat refine Rn.step rfl ?_
    refine Rn.calli rfl rfl rfl (by decide) (r_findingAt hs0 y i) (fun z3 f3 => ?_)
    rw [← f3] at hf ⊢
    repeat refine Rn.step rfl ?_
    refine Rn.br2 rfl hf ?_
    repeat refine Rn.step rfl ?_
    exact Rn.ret rfl
theorem r_get {s : Nat} (hs : s = 0 ∨ s = 1 ∨ s = 2 ∨ s = 3) {y : Int32} (hy : inB y 3) {i : Nat} (hi : i < 60) (hf : fdF (v (14 + s)) (v (18 + s)) y (nI i) = 0) : Rn E 2 mX7_get (0, [(0, .ref 0), (1, .int (nI s)), (2, .int y), (3, .int (nI i))], [], wX a v t r) (some (.int (a (shI s) i)), wX a v t r) := by
  have hs0 := hs
  rcases hs with rfl | rfl | rfl | rfl
  · repeat refine Rn.step rfl ?_
    refine Rn.calli rfl rfl rfl (by decide) (r_within (nI _) 4 _) (fun z1 f1 => ?_)
    refine Rn.br2 rfl (by rw [f1, ib_eq0]; exact fun q => q (by decide)) ?_
    repeat refine Rn.step rfl ?_
    refine Rn.calli rfl rfl rfl (by decide) (r_within y 3 _) (fun z2 f2 => ?_)
    refine Rn.br1 rfl (by rw [f2, ib_ne0]; exact hy) ?_
    repeat refine Rn.step rfl ?_
    refine Rn.calli rfl rfl rfl (by decide) (r_findingAt hs0 y (nI i)) (fun z3 f3 => ?_)
    rw [hf] at f3
    subst f3
    repeat refine Rn.step rfl ?_
    refine Rn.ald i rfl rfl hi (by decide) ?_
    exact Rn.ret rfl
  · repeat refine Rn.step rfl ?_
    refine Rn.calli rfl rfl rfl (by decide) (r_within (nI _) 4 _) (fun z1 f1 => ?_)
    refine Rn.br2 rfl (by rw [f1, ib_eq0]; exact fun q => q (by decide)) ?_
    repeat refine Rn.step rfl ?_
    refine Rn.calli rfl rfl rfl (by decide) (r_within y 3 _) (fun z2 f2 => ?_)
    refine Rn.br1 rfl (by rw [f2, ib_ne0]; exact hy) ?_
    repeat refine Rn.step rfl ?_
    refine Rn.calli rfl rfl rfl (by decide) (r_findingAt hs0 y (nI i)) (fun z3 f3 => ?_)
    rw [hf] at f3
    subst f3
    repeat refine Rn.step rfl ?_
    refine Rn.ald i rfl rfl hi (by decide) ?_
    exact Rn.ret rfl
  · repeat refine Rn.step rfl ?_
    refine Rn.calli rfl rfl rfl (by decide) (r_within (nI _) 4 _) (fun z1 f1 => ?_)
    refine Rn.br2 rfl (by rw [f1, ib_eq0]; exact fun q => q (by decide)) ?_
    repeat refine Rn.step rfl ?_
    refine Rn.calli rfl rfl rfl (by decide) (r_within y 3 _) (fun z2 f2 => ?_)
    refine Rn.br1 rfl (by rw [f2, ib_ne0]; exact hy) ?_
    repeat refine Rn.step rfl ?_
    refine Rn.calli rfl rfl rfl (by decide) (r_findingAt hs0 y (nI i)) (fun z3 f3 => ?_)
    rw [hf] at f3
    subst f3
    repeat refine Rn.step rfl ?_
    refine Rn.ald i rfl rfl hi (by decide) ?_
    exact Rn.ret rfl
  · repeat refine Rn.step rfl ?_
    refine Rn.calli rfl rfl rfl (by decide) (r_within (nI _) 4 _) (fun z1 f1 => ?_)
    refine Rn.br2 rfl (by rw [f1, ib_eq0]; exact fun q => q (by decide)) ?_
    repeat refine Rn.step rfl ?_
    refine Rn.calli rfl rfl rfl (by decide) (r_within y 3 _) (fun z2 f2 => ?_)
    refine Rn.br1 rfl (by rw [f2, ib_ne0]; exact hy) ?_
    repeat refine Rn.step rfl ?_
    refine Rn.calli rfl rfl rfl (by decide) (r_findingAt hs0 y (nI i)) (fun z3 f3 => ?_)
    rw [hf] at f3
    subst f3
    repeat refine Rn.step rfl ?_
    refine Rn.ald i rfl rfl hi (by decide) ?_
    exact Rn.ret rfl
end XH
