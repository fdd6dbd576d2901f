section M5
variable {E : iExtT} {ax : Nat → Nat → Int32} {vx : Nat → Int32} {tx : Nat → Nat → Int64} {a : Nat → Nat → Int32} {v : Nat → Int32} {t : Nat → Nat → Int64}
abbrev r3 : Type := (Nat → Int32) × (Nat → Int32) × (Nat → Int32)
abbrev w9 (a : Nat → Nat → Int32) (w : Nat → Int32) (s : g5) (b : r3) : Nat → Nat → Int32 := va_up (va_up (va_up (w5 (va_up a 64 w) s) 70 b.1) 71 b.2.1) 72 b.2.2
def cp1 (m : Nat) (w B : Nat → Int32) : Nat → Int32 := lp (fun i B => upd B (16 * m + i) (w i)) 0 16 B
def cp2 (n m : Nat) (H T : Nat → Int32) (B : f2) : f2 := lp (fun k B => (upd B.1 (8 * m + k) (H k), upd B.2 (8 * m + k) (T k))) 0 n B
abbrev lvS : Type := (Nat → Int32) × g5 × r3
/-- one minute of the model -/
def psF (sl fe lo ev : Nat → Int32) (n k : Nat) (gn : Int32) (m : Nat) (x : lvS) : lvS :=
  (flA fe (tdF ev k gn 1 (nI m)) (tdF ev k gn 2 (nI m)) x.1,
   lgA sl (flA fe (tdF ev k gn 1 (nI m)) (tdF ev k gn 2 (nI m)) x.1) lo n m (tdF ev k gn 0 (nI m)) x.2.1,
   cp1 m (flA fe (tdF ev k gn 1 (nI m)) (tdF ev k gn 2 (nI m)) x.1) x.2.2.1,
   (cp2 n m (lgA sl (flA fe (tdF ev k gn 1 (nI m)) (tdF ev k gn 2 (nI m)) x.1) lo n m (tdF ev k gn 0 (nI m)) x.2.1).1 (lgA sl (flA fe (tdF ev k gn 1 (nI m)) (tdF ev k gn 2 (nI m)) x.1) lo n m (tdF ev k gn 0 (nI m)) x.2.1).2.1 x.2.2.2))
theorem m_passes {n k m : Nat} (hn : n ≤ 8) (hv : v 31 = nI n) (hk : k ≤ 8) (hv2 : v 32 = nI k) (hm : m < 24) (x : lvS) {y : lvS} (hy : y = psF (a 60) (a 61) (a 62) (a 63) n k (v 33) m x) : Rn E 5 mX8_passes (0, [(0, .ref 53), (1, .int (nI m))], [], wY ax vx tx (w9 a x.1 x.2.1 x.2.2) v t) (none, wY ax vx tx (w9 a y.1 y.2.1 y.2.2) v t) := by
  obtain ⟨w, hw⟩ : ∃ w, w = flA (a 61) (tdF (a 63) k (v 33) 1 (nI m)) (tdF (a 63) k (v 33) 2 (nI m)) x.1 := ⟨_, rfl⟩
  obtain ⟨s, hs⟩ : ∃ s, s = lgA (a 60) w (a 62) n m (tdF (a 63) k (v 33) 0 (nI m)) x.2.1 := ⟨_, rfl⟩
  have hy : y = (w, s, cp1 m w x.2.2.1, cp2 n m s.1 s.2.1 x.2.2.2) := by rw [hy, hs, hw]; rfl
  iterate 2 refine Rn.step rfl ?_
  refine Rn.callv rfl rfl rfl (by decide) (m_flows (nI m) hk hv2) ?_
  refine Rn.hp (h2 := wY ax vx tx (w5 (w9 a w x.2.1 x.2.2) x.2.1) v t) (by rw [hw]; rfl) ?_
  iterate 2 refine Rn.step rfl ?_
  refine Rn.callv rfl rfl rfl (by decide) (m_logsGo hn hv hk hv2 hm x.2.1) ?_
  refine Rn.hp (h2 := wY ax vx tx (w9 a w s x.2.2) v t) (by rw [hs]; rfl) ?_
  iterate 2 refine Rn.step rfl ?_
  refine Rn.lp (σ := Nat → Int32) (cfg := fun i B => (12, [(2, .int (nI i)), (0, .ref 53), (1, .int (nI m))], [], wY ax vx tx (w9 a w s (B, x.2.2.2)) v t)) (f := fun i B => upd B (16 * m + i) (w i)) (n := 16) (fun _ _ => True) (fun i B hi _ => ⟨trivial, fun kk => ?_⟩) 16 0 x.2.2.1 rfl trivial (fun B0 hB0 _ => ?_)
  · rw [nI_succ] at kk
    iterate 2 refine Rn.step rfl ?_
    refine Rn.br2 rfl (nle hi (by decide)) ?_
    iterate 10 refine Rn.step rfl ?_
    refine Rn.ald i rfl rfl hi (by decide) ?_
    refine Rn.ast (16 * m + i) rfl (ix_am 16 m i) (by omega) (by decide) (h3 := wY ax vx tx (w9 a w s (upd B (16 * m + i) (w i), x.2.2.2)) v t) rfl ?_
    iterate 2 refine Rn.step rfl ?_
    exact kk
  · have hB0 : B0 = cp1 m w x.2.2.1 := hB0
    iterate 5 refine Rn.step rfl ?_
    refine Rn.lp (σ := f2) (cfg := fun i B => (43, [(2, .int (nI i)), (0, .ref 53), (1, .int (nI m))], [], wY ax vx tx (w9 a w s (B0, B)) v t)) (f := fun k B => (upd B.1 (8 * m + k) (s.1 k), upd B.2 (8 * m + k) (s.2.1 k))) (n := n) (fun _ _ => True) (fun i B hi _ => ⟨trivial, fun kk => ?_⟩) n 0 x.2.2.2 (by omega) trivial (fun B1 hB1 _ => ?_)
    · rw [nI_succ] at kk
      iterate 3 refine Rn.step rfl ?_
      refine Rn.br2 rfl (by show ¬ v 31 ≤ nI i; rw [hv]; exact nle hi (by omega)) ?_
      iterate 10 refine Rn.step rfl ?_
      refine Rn.ald i rfl rfl (by omega) (by decide) ?_
      refine Rn.ast (8 * m + i) rfl (ix_am 8 m i) (by omega) (by decide) (h3 := wY ax vx tx (w9 a w s (B0, upd B.1 (8 * m + i) (s.1 i), B.2)) v t) rfl ?_
      iterate 10 refine Rn.step rfl ?_
      refine Rn.ald i rfl rfl (by omega) (by decide) ?_
      refine Rn.ast (8 * m + i) rfl (ix_am 8 m i) (by omega) (by decide) (h3 := wY ax vx tx (w9 a w s (B0, upd B.1 (8 * m + i) (s.1 i), upd B.2 (8 * m + i) (s.2.1 i))) v t) rfl ?_
      iterate 2 refine Rn.step rfl ?_
      exact kk
    · have hB1 : B1 = cp2 n m s.1 s.2.1 x.2.2.2 := hB1
      rw [hy, ← hB1, ← hB0]
      iterate 3 refine Rn.step rfl ?_
      refine Rn.br1 rfl (by show v 31 ≤ nI n; rw [hv]; exact nI_le (by omega) (by omega)) ?_
      exact Rn.ret rfl
def cs (c : Int32) (n : Nat) (f : Nat → Int32) : Nat → Int32 := lp (fun i g => upd g i c) 0 n f
theorem cs_in {c : Int32} {n : Nat} (f : Nat → Int32) {k : Nat} (hk : k < n) : cs c n f k = c := by
  have h := lp_inv (f := fun m (g : Nat → Int32) => upd g m c) (fun i g => ∀ m, m < i → g m = c) (i := 0) (j := n) (s := f) (fun m h => absurd h (Nat.not_lt_zero _)) (fun k g _ _ hI m hm => by
    by_cases hx : m = k
    · subst hx; exact pk_us
    · rw [pk_un hx]; exact hI m (by omega))
  exact h k (by omega)
def lv0 (a : Nat → Nat → Int32) : lvS := (cs 0 16 (a 64), (cs (-1) 8 (a 65), a 66, cs (-1) 8 (a 67), cs 0 8 (a 68), cs 0 8 (a 69)), a 70, a 71, a 72)
def lvF (a : Nat → Nat → Int32) (n k : Nat) (gn : Int32) (m : Nat) : lvS := lp (fun m x => psF (a 60) (a 61) (a 62) (a 63) n k gn m x) 0 m (lv0 a)
theorem cs_4 (f1 f2 f3 f4 : Nat → Int32) : lp (fun i (x : (Nat → Int32) × (Nat → Int32) × (Nat → Int32) × (Nat → Int32)) => (upd x.1 i (-1), upd x.2.1 i (-1), upd x.2.2.1 i 0, upd x.2.2.2 i 0)) 0 8 (f1, f2, f3, f4) = (cs (-1) 8 f1, cs (-1) 8 f2, cs 0 8 f3, cs 0 8 f4) := rfl
theorem m_lives {n k : Nat} (hn : n ≤ 8) (hv : v 31 = nI n) (hk : k ≤ 8) (hv2 : v 32 = nI k) {y : lvS} (hy : y = lvF a n k (v 33) 24) : Rn E 6 mX8_lives (0, [(0, .ref 53)], [], wY ax vx tx a v t) (none, wY ax vx tx (w9 a y.1 y.2.1 y.2.2) v t) := by
  iterate 2 refine Rn.step rfl ?_
  refine Rn.lp (σ := Nat → Int32) (cfg := fun i g => (2, [(1, .int (nI i)), (0, .ref 53)], [], wY ax vx tx (va_up a 64 g) v t)) (f := fun i g => upd g i 0) (n := 16) (fun _ _ => True) (fun i g hi _ => ⟨trivial, fun kk => ?_⟩) 16 0 (a 64) rfl trivial (fun g0 hg0 _ => ?_)
  · rw [nI_succ] at kk
    iterate 2 refine Rn.step rfl ?_
    refine Rn.br2 rfl (nle hi (by decide)) ?_
    iterate 4 refine Rn.step rfl ?_
    refine Rn.ast i rfl rfl hi (by decide) (h3 := wY ax vx tx (va_up a 64 (upd g i 0)) v t) rfl ?_
    iterate 2 refine Rn.step rfl ?_
    exact kk
  · have hg0 : g0 = cs 0 16 (a 64) := hg0
    iterate 5 refine Rn.step rfl ?_
    refine Rn.lp (σ := (Nat → Int32) × (Nat → Int32) × (Nat → Int32) × (Nat → Int32)) (cfg := fun i x => (23, [(1, .int (nI i)), (0, .ref 53)], [], wY ax vx tx (w9 a g0 (x.1, a 66, x.2.1, x.2.2.1, x.2.2.2) (a 70, a 71, a 72)) v t)) (f := fun i x => (upd x.1 i (-1), upd x.2.1 i (-1), upd x.2.2.1 i 0, upd x.2.2.2 i 0)) (n := 8) (fun _ _ => True) (fun i x hi _ => ⟨trivial, fun kk => ?_⟩) 8 0 (a 65, a 67, a 68, a 69) rfl trivial (fun x0 hx0 _ => ?_)
    · rw [nI_succ] at kk
      iterate 2 refine Rn.step rfl ?_
      refine Rn.br2 rfl (nle hi (by decide)) ?_
      iterate 4 refine Rn.step rfl ?_
      refine Rn.ast i rfl rfl hi (by decide) (h3 := wY ax vx tx (w9 a g0 (upd x.1 i (-1), a 66, x.2.1, x.2.2.1, x.2.2.2) (a 70, a 71, a 72)) v t) rfl ?_
      iterate 4 refine Rn.step rfl ?_
      refine Rn.ast i rfl rfl hi (by decide) (h3 := wY ax vx tx (w9 a g0 (upd x.1 i (-1), a 66, upd x.2.1 i (-1), x.2.2.1, x.2.2.2) (a 70, a 71, a 72)) v t) rfl ?_
      iterate 4 refine Rn.step rfl ?_
      refine Rn.ast i rfl rfl hi (by decide) (h3 := wY ax vx tx (w9 a g0 (upd x.1 i (-1), a 66, upd x.2.1 i (-1), upd x.2.2.1 i 0, x.2.2.2) (a 70, a 71, a 72)) v t) rfl ?_
      iterate 4 refine Rn.step rfl ?_
      refine Rn.ast i rfl rfl hi (by decide) (h3 := wY ax vx tx (w9 a g0 (upd x.1 i (-1), a 66, upd x.2.1 i (-1), upd x.2.2.1 i 0, upd x.2.2.2 i 0) (a 70, a 71, a 72)) v t) rfl ?_
      iterate 2 refine Rn.step rfl ?_
      exact kk
    · rw [cs_4] at hx0
      rw [hx0]
      iterate 5 refine Rn.step rfl ?_
      refine Rn.hp (h2 := wY ax vx tx (w9 a (lv0 a).1 (lv0 a).2.1 (lv0 a).2.2) v t) (by rw [hg0]; rfl) ?_
      refine Rn.lp (σ := lvS) (cfg := fun m x => (65, [(1, .int (nI m)), (0, .ref 53)], [], wY ax vx tx (w9 a x.1 x.2.1 x.2.2) v t)) (f := fun m x => psF (a 60) (a 61) (a 62) (a 63) n k (v 33) m x) (n := 24) (fun _ _ => True) (fun m x hm _ => ⟨trivial, fun kk => ?_⟩) 24 0 (lv0 a) rfl trivial (fun x1 hx1 _ => ?_)
      · rw [nI_succ] at kk
        iterate 2 refine Rn.step rfl ?_
        refine Rn.br2 rfl (nle hm (by decide)) ?_
        iterate 2 refine Rn.step rfl ?_
        refine Rn.callv rfl rfl rfl (by decide) (m_passes hn hv hk hv2 hm x rfl) ?_
        iterate 2 refine Rn.step rfl ?_
        exact kk
      · have hx1 : x1 = y := by rw [hy, hx1]; rfl
        rw [hx1]
        iterate 3 refine Rn.step rfl ?_
        exact Rn.ret rfl
end M5
