section X2
variable {E : iExtT} {a : Nat → Nat → Int32} {v : Nat → Int32} {t : Nat → Nat → Int64} {r : List va_E}
/-- texts: T the object's cell, its bytes one behind, V the place of its size, c how many it takes -/
abbrev isT (T V c : Nat) : Prop := (T = 39 ∧ V = 11 ∧ c = 16) ∨ (T = 41 ∧ V = 12 ∧ c = 16) ∨ (T = 43 ∧ V = 13 ∧ c = 31)
theorem r_txFull {T V c : Nat} (hT : isT T V c) (x : Int32) (hv : v V = nI c) : Rn E 0 mX4_append (0, [(0, .ref T), (1, .int x)], [], wX a v t r) (some (.int 0), wX a v t r) := by
  rcases hT with ⟨rfl, rfl, rfl⟩ | ⟨rfl, rfl, rfl⟩ | ⟨rfl, rfl, rfl⟩
  all_goals
    repeat refine Rn.step rfl ?_
    refine Rn.br2 rfl (by rw [hv]; decide) ?_
    repeat refine Rn.step rfl ?_
    refine Rn.br2 rfl (by rw [hv]; decide) ?_
    refine Rn.step rfl ?_
    exact Rn.ret rfl
theorem r_txAppend {T V c : Nat} (hT : isT T V c) (x : Int32) {n : Nat} (hn : n < c) (hv : v V = nI n) : Rn E 0 mX4_append (0, [(0, .ref T), (1, .int x)], [], wX a v t r) (some (.int 1), wX (va_up a (T + 1) (upd (a (T + 1)) n x)) (upd v V (nI (n + 1))) t r) := by
  rcases hT with ⟨rfl, rfl, rfl⟩ | ⟨rfl, rfl, rfl⟩ | ⟨rfl, rfl, rfl⟩
  · repeat refine Rn.step rfl ?_
    refine Rn.br2 rfl (by rw [hv]; exact nI_pos (by omega)) ?_
    repeat refine Rn.step rfl ?_
    refine Rn.br1 rfl (by rw [hv]; exact nI_lt hn (by decide)) ?_
    repeat refine Rn.step rfl ?_
    refine Rn.ast n rfl hv hn (by decide) (h3 := wX (va_up a 40 (upd (a 40) n x)) v t r) rfl ?_
    iterate 5 refine Rn.step rfl ?_
    refine Rn.top (x' := nI (n + 1)) (by show v 11 + 1 = _; rw [hv, nI_1]) ?_
    iterate 2 refine Rn.step rfl ?_
    exact Rn.ret rfl
  · repeat refine Rn.step rfl ?_
    refine Rn.br2 rfl (by rw [hv]; exact nI_pos (by omega)) ?_
    repeat refine Rn.step rfl ?_
    refine Rn.br1 rfl (by rw [hv]; exact nI_lt hn (by decide)) ?_
    repeat refine Rn.step rfl ?_
    refine Rn.ast n rfl hv hn (by decide) (h3 := wX (va_up a 42 (upd (a 42) n x)) v t r) rfl ?_
    iterate 5 refine Rn.step rfl ?_
    refine Rn.top (x' := nI (n + 1)) (by show v 12 + 1 = _; rw [hv, nI_1]) ?_
    iterate 2 refine Rn.step rfl ?_
    exact Rn.ret rfl
  · repeat refine Rn.step rfl ?_
    refine Rn.br2 rfl (by rw [hv]; exact nI_pos (by omega)) ?_
    repeat refine Rn.step rfl ?_
    refine Rn.br1 rfl (by rw [hv]; exact nI_lt hn (by decide)) ?_
    repeat refine Rn.step rfl ?_
    refine Rn.ast n rfl hv hn (by decide) (h3 := wX (va_up a 44 (upd (a 44) n x)) v t r) rfl ?_
    iterate 5 refine Rn.step rfl ?_
    refine Rn.top (x' := nI (n + 1)) (by show v 13 + 1 = _; rw [hv, nI_1]) ?_
    iterate 2 refine Rn.step rfl ?_
    exact Rn.ret rfl
theorem nI_ne1 {i : Nat} (h : i < 2 ^ 31) : ¬ nI i = -1 := by
  intro q
  exact nI_pos h (by rw [q]; decide)
/-- the first byte that is no figure from lo to hi; -1 -/
def ffg (b : Nat → Int32) (lo hi : Int32) : Nat → Nat → Int32
  | _, 0 => -1
  | i, j + 1 => if b i < lo ∨ hi < b i then nI i else ffg b lo hi (i + 1) j
def rwF (b : Nat → Int32) (n : Nat) (fl rest : Int32) (s : Nat) : Int32 := if fl = -1 ∧ s < n then b s - 48 else rest
def rwA (b : Nat → Int32) (n : Nat) (fl rest : Int32) (f0 : Nat → Int32) : Nat → Int32 := lp (fun s g => upd g s (rwF b n fl rest s)) 0 16 f0
theorem r_figS (lo up rest : Int32) {n : Nat} (hn : n ≤ 16) (hv : v 11 = nI n) : Rn E 0 mX5_tellFigures (0, [(0, .ref 3), (1, .ref 39), (2, .int lo), (3, .int up), (4, .ref 4), (5, .int rest)], [], wX a v t r) (some (.int (ffg (a 40) lo up 0 n)), wX (va_up a 4 (rwA (a 40) n (ffg (a 40) lo up 0 n) rest (a 4))) v t r) := by
  obtain ⟨F, hF⟩ : ∃ F, F = ffg (a 40) lo up 0 n := ⟨_, rfl⟩
  rw [← hF]
  have k2 : Rn E 0 mX5_tellFigures (63, [(6, .int F), (0, .ref 3), (1, .ref 39), (2, .int lo), (3, .int up), (4, .ref 4), (5, .int rest)], [], wX a v t r) (some (.int F), wX (va_up a 4 (rwA (a 40) n F rest (a 4))) v t r) := by
    iterate 2 refine Rn.step rfl ?_
    refine Rn.lp (σ := Nat → Int32) (cfg := fun i g => (66, [(7, .int (nI i)), (6, .int F), (0, .ref 3), (1, .ref 39), (2, .int lo), (3, .int up), (4, .ref 4), (5, .int rest)], [], wX (va_up a 4 g) v t r)) (f := fun s g => upd g s (rwF (a 40) n F rest s)) (n := 16) (fun _ _ => True) (fun i g hl _ => ⟨trivial, fun k => ?_⟩) 16 0 (a 4) rfl trivial (fun g0 hg0 _ => ?_)
    · rw [nI_succ] at k
      repeat refine Rn.step rfl ?_
      refine Rn.br2 rfl (nle hl (by decide)) ?_
      repeat refine Rn.step rfl ?_
      have fin : ∀ b : Int32, (b = ib (F = -1 ∧ i < n)) → Rn E 0 mX5_tellFigures (104, [(7, .int (nI i)), (6, .int F), (0, .ref 3), (1, .ref 39), (2, .int lo), (3, .int up), (4, .ref 4), (5, .int rest)], [.int b], wX (va_up a 4 g) v t r) (some (.int F), wX (va_up a 4 (rwA (a 40) n F rest (a 4))) v t r) := by
        intro b eb
        repeat refine Rn.step rfl ?_
        refine Rn.br rfl (fun h1 => ?_) (fun h1 => ?_)
        · have hc := ib_eq0.mp (eb ▸ h1)
          rw [show rwF (a 40) n F rest i = rest from if_neg hc] at k
          repeat refine Rn.step rfl ?_
          refine Rn.ast i rfl rfl hl (by decide) (h3 := wX (va_up a 4 (upd g i rest)) v t r) rfl ?_
          iterate 2 refine Rn.step rfl ?_
          exact Rn.sub (by exact ⟨rfl, rfl, rfl, rfl, rfl, rfl, rfl, rfl, trivial⟩) k
        · have hc := ib_ne0.mp (eb ▸ h1)
          rw [show rwF (a 40) n F rest i = a 40 i - 48 from if_pos hc] at k
          repeat refine Rn.step rfl ?_
          refine Rn.ald i rfl rfl hl (by decide) ?_
          repeat refine Rn.step rfl ?_
          refine Rn.ast i rfl rfl hl (by decide) (h3 := wX (va_up a 4 (upd g i (a 40 i - 48))) v t r) rfl ?_
          iterate 2 refine Rn.step rfl ?_
          exact Rn.sub (by exact ⟨rfl, rfl, rfl, rfl, rfl, rfl, rfl, rfl, trivial⟩) k
      refine Rn.br rfl (fun h1 => ?_) (fun h1 => ?_)
      · refine Rn.step rfl ?_
        exact fin 0 (by rw [ib_f (fun q => h1 q.1)])
      · repeat refine Rn.step rfl ?_
        refine Rn.br rfl (fun h2 => ?_) (fun h2 => ?_)
        · refine Rn.step rfl ?_
          refine fin 0 ?_
          rw [ib_f]
          intro q
          rw [hv] at h2
          exact nle q.2 (by omega) h2
        · repeat refine Rn.step rfl ?_
          refine Rn.br2 rfl (nle hl (by decide)) ?_
          iterate 2 refine Rn.step rfl ?_
          refine fin 1 ?_
          rw [ib_t]
          refine ⟨Decidable.not_not.mp h1, ?_⟩
          rw [hv] at h2
          rcases Nat.lt_or_ge i n with q | q
          · exact q
          · exact absurd (nI_le q (by omega)) h2
    · repeat refine Rn.step rfl ?_
      subst hg0
      exact Rn.ret rfl
  have key : ∀ j i, i + j = n → ffg (a 40) lo up i j = F → Rn E 0 mX5_tellFigures (6, [(7, .int (nI i)), (6, .int (-1)), (0, .ref 3), (1, .ref 39), (2, .int lo), (3, .int up), (4, .ref 4), (5, .int rest)], [], wX a v t r) (some (.int F), wX (va_up a 4 (rwA (a 40) n F rest (a 4))) v t r) := by
    intro j
    induction j with
    | zero =>
      intro i hi hf
      repeat refine Rn.step rfl ?_
      refine Rn.br1 rfl (by rw [hv]; exact nI_le (by omega) (by omega)) ?_
      have e1 : F = -1 := hf.symm
      rw [← e1]
      exact Rn.sub (by exact ⟨rfl, rfl, rfl, rfl, rfl, rfl, rfl, trivial⟩) k2
    | succ j ih =>
      intro i hi hf
      repeat refine Rn.step rfl ?_
      refine Rn.br2 rfl (by rw [hv]; exact nle (by omega) (by omega)) ?_
      repeat refine Rn.step rfl ?_
      refine Rn.br2 rfl (nle (n := 16) (by omega) (by decide)) ?_
      repeat refine Rn.step rfl ?_
      refine Rn.ald i rfl rfl (by omega) (by decide) ?_
      repeat refine Rn.step rfl ?_
      unfold ffg at hf
      have bad : (a 40 i < lo ∨ up < a 40 i) → Rn E 0 mX5_tellFigures (53, [(7, .int (nI i)), (6, .int (-1)), (0, .ref 3), (1, .ref 39), (2, .int lo), (3, .int up), (4, .ref 4), (5, .int rest)], [], wX a v t r) (some (.int F), wX (va_up a 4 (rwA (a 40) n F rest (a 4))) v t r) := by
        intro hbad
        rw [if_pos hbad] at hf
        rw [← hf] at k2 ⊢
        repeat refine Rn.step rfl ?_
        refine Rn.br rfl (fun _ => ?_) (fun _ => ?_)
        · exact Rn.sub (by exact ⟨rfl, rfl, rfl, rfl, rfl, rfl, rfl, trivial⟩) k2
        · repeat refine Rn.step rfl ?_
          refine Rn.br rfl (fun _ => ?_) (fun _ => ?_)
          · exact Rn.sub (by exact ⟨rfl, rfl, rfl, rfl, rfl, rfl, rfl, trivial⟩) k2
          · repeat refine Rn.step rfl ?_
            refine Rn.br1 rfl (nI_ne1 (by omega)) ?_
            exact Rn.sub (by exact ⟨rfl, rfl, rfl, rfl, rfl, rfl, rfl, trivial⟩) k2
      refine Rn.br rfl (fun h1 => ?_) (fun h1 => ?_)
      · exact bad (Or.inl h1)
      · repeat refine Rn.step rfl ?_
        refine Rn.ald i rfl rfl (by omega) (by decide) ?_
        repeat refine Rn.step rfl ?_
        refine Rn.br rfl (fun h2 => ?_) (fun h2 => ?_)
        · iterate 2 refine Rn.step rfl ?_
          rw [if_neg (fun q => q.elim h1 (fun q => absurd h2 (Int32.not_le.mpr q)))] at hf
          have k3 := ih (i + 1) (by omega) hf
          rw [nI_succ] at k3
          exact k3
        · exact bad (Or.inr (Int32.not_le.mp h2))
  iterate 4 refine Rn.step rfl ?_
  exact key n 0 (by omega) hF.symm
theorem r_figF (lo up rest : Int32) {n : Nat} (hn : n ≤ 16) (hv : v 12 = nI n) : Rn E 0 mX5_tellFigures (0, [(0, .ref 3), (1, .ref 41), (2, .int lo), (3, .int up), (4, .ref 5), (5, .int rest)], [], wX a v t r) (some (.int (ffg (a 42) lo up 0 n)), wX (va_up a 5 (rwA (a 42) n (ffg (a 42) lo up 0 n) rest (a 5))) v t r) := by
  obtain ⟨F, hF⟩ : ∃ F, F = ffg (a 42) lo up 0 n := ⟨_, rfl⟩
  rw [← hF]
  have k2 : Rn E 0 mX5_tellFigures (63, [(6, .int F), (0, .ref 3), (1, .ref 41), (2, .int lo), (3, .int up), (4, .ref 5), (5, .int rest)], [], wX a v t r) (some (.int F), wX (va_up a 5 (rwA (a 42) n F rest (a 5))) v t r) := by
    iterate 2 refine Rn.step rfl ?_
    refine Rn.lp (σ := Nat → Int32) (cfg := fun i g => (66, [(7, .int (nI i)), (6, .int F), (0, .ref 3), (1, .ref 41), (2, .int lo), (3, .int up), (4, .ref 5), (5, .int rest)], [], wX (va_up a 5 g) v t r)) (f := fun s g => upd g s (rwF (a 42) n F rest s)) (n := 16) (fun _ _ => True) (fun i g hl _ => ⟨trivial, fun k => ?_⟩) 16 0 (a 5) rfl trivial (fun g0 hg0 _ => ?_)
    · rw [nI_succ] at k
      repeat refine Rn.step rfl ?_
      refine Rn.br2 rfl (nle hl (by decide)) ?_
      repeat refine Rn.step rfl ?_
      have fin : ∀ b : Int32, (b = ib (F = -1 ∧ i < n)) → Rn E 0 mX5_tellFigures (104, [(7, .int (nI i)), (6, .int F), (0, .ref 3), (1, .ref 41), (2, .int lo), (3, .int up), (4, .ref 5), (5, .int rest)], [.int b], wX (va_up a 5 g) v t r) (some (.int F), wX (va_up a 5 (rwA (a 42) n F rest (a 5))) v t r) := by
        intro b eb
        repeat refine Rn.step rfl ?_
        refine Rn.br rfl (fun h1 => ?_) (fun h1 => ?_)
        · have hc := ib_eq0.mp (eb ▸ h1)
          rw [show rwF (a 42) n F rest i = rest from if_neg hc] at k
          repeat refine Rn.step rfl ?_
          refine Rn.ast i rfl rfl hl (by decide) (h3 := wX (va_up a 5 (upd g i rest)) v t r) rfl ?_
          iterate 2 refine Rn.step rfl ?_
          exact Rn.sub (by exact ⟨rfl, rfl, rfl, rfl, rfl, rfl, rfl, rfl, trivial⟩) k
        · have hc := ib_ne0.mp (eb ▸ h1)
          rw [show rwF (a 42) n F rest i = a 42 i - 48 from if_pos hc] at k
          repeat refine Rn.step rfl ?_
          refine Rn.ald i rfl rfl hl (by decide) ?_
          repeat refine Rn.step rfl ?_
          refine Rn.ast i rfl rfl hl (by decide) (h3 := wX (va_up a 5 (upd g i (a 42 i - 48))) v t r) rfl ?_
          iterate 2 refine Rn.step rfl ?_
          exact Rn.sub (by exact ⟨rfl, rfl, rfl, rfl, rfl, rfl, rfl, rfl, trivial⟩) k
      refine Rn.br rfl (fun h1 => ?_) (fun h1 => ?_)
      · refine Rn.step rfl ?_
        exact fin 0 (by rw [ib_f (fun q => h1 q.1)])
      · repeat refine Rn.step rfl ?_
        refine Rn.br rfl (fun h2 => ?_) (fun h2 => ?_)
        · refine Rn.step rfl ?_
          refine fin 0 ?_
          rw [ib_f]
          intro q
          rw [hv] at h2
          exact nle q.2 (by omega) h2
        · repeat refine Rn.step rfl ?_
          refine Rn.br2 rfl (nle hl (by decide)) ?_
          iterate 2 refine Rn.step rfl ?_
          refine fin 1 ?_
          rw [ib_t]
          refine ⟨Decidable.not_not.mp h1, ?_⟩
          rw [hv] at h2
          rcases Nat.lt_or_ge i n with q | q
          · exact q
          · exact absurd (nI_le q (by omega)) h2
    · repeat refine Rn.step rfl ?_
      subst hg0
      exact Rn.ret rfl
  have key : ∀ j i, i + j = n → ffg (a 42) lo up i j = F → Rn E 0 mX5_tellFigures (6, [(7, .int (nI i)), (6, .int (-1)), (0, .ref 3), (1, .ref 41), (2, .int lo), (3, .int up), (4, .ref 5), (5, .int rest)], [], wX a v t r) (some (.int F), wX (va_up a 5 (rwA (a 42) n F rest (a 5))) v t r) := by
    intro j
    induction j with
    | zero =>
      intro i hi hf
      repeat refine Rn.step rfl ?_
      refine Rn.br1 rfl (by rw [hv]; exact nI_le (by omega) (by omega)) ?_
      have e1 : F = -1 := hf.symm
      rw [← e1]
      exact Rn.sub (by exact ⟨rfl, rfl, rfl, rfl, rfl, rfl, rfl, trivial⟩) k2
    | succ j ih =>
      intro i hi hf
      repeat refine Rn.step rfl ?_
      refine Rn.br2 rfl (by rw [hv]; exact nle (by omega) (by omega)) ?_
      repeat refine Rn.step rfl ?_
      refine Rn.br2 rfl (nle (n := 16) (by omega) (by decide)) ?_
      repeat refine Rn.step rfl ?_
      refine Rn.ald i rfl rfl (by omega) (by decide) ?_
      repeat refine Rn.step rfl ?_
      unfold ffg at hf
      have bad : (a 42 i < lo ∨ up < a 42 i) → Rn E 0 mX5_tellFigures (53, [(7, .int (nI i)), (6, .int (-1)), (0, .ref 3), (1, .ref 41), (2, .int lo), (3, .int up), (4, .ref 5), (5, .int rest)], [], wX a v t r) (some (.int F), wX (va_up a 5 (rwA (a 42) n F rest (a 5))) v t r) := by
        intro hbad
        rw [if_pos hbad] at hf
        rw [← hf] at k2 ⊢
        repeat refine Rn.step rfl ?_
        refine Rn.br rfl (fun _ => ?_) (fun _ => ?_)
        · exact Rn.sub (by exact ⟨rfl, rfl, rfl, rfl, rfl, rfl, rfl, trivial⟩) k2
        · repeat refine Rn.step rfl ?_
          refine Rn.br rfl (fun _ => ?_) (fun _ => ?_)
          · exact Rn.sub (by exact ⟨rfl, rfl, rfl, rfl, rfl, rfl, rfl, trivial⟩) k2
          · repeat refine Rn.step rfl ?_
            refine Rn.br1 rfl (nI_ne1 (by omega)) ?_
            exact Rn.sub (by exact ⟨rfl, rfl, rfl, rfl, rfl, rfl, rfl, trivial⟩) k2
      refine Rn.br rfl (fun h1 => ?_) (fun h1 => ?_)
      · exact bad (Or.inl h1)
      · repeat refine Rn.step rfl ?_
        refine Rn.ald i rfl rfl (by omega) (by decide) ?_
        repeat refine Rn.step rfl ?_
        refine Rn.br rfl (fun h2 => ?_) (fun h2 => ?_)
        · iterate 2 refine Rn.step rfl ?_
          rw [if_neg (fun q => q.elim h1 (fun q => absurd h2 (Int32.not_le.mpr q)))] at hf
          have k3 := ih (i + 1) (by omega) hf
          rw [nI_succ] at k3
          exact k3
        · exact bad (Or.inr (Int32.not_le.mp h2))
  iterate 4 refine Rn.step rfl ?_
  exact key n 0 (by omega) hF.symm
end X2
