section X3
variable {E : iExtT} {a : Nat → Nat → Int32} {v : Nat → Int32} {t : Nat → Nat → Int64} {r : List va_E}
def msB (k : Nat) (b : Int32) : Bool := match k with
  | 0 => decide (97 ≤ b) && decide (b ≤ 120)
  | 1 => decide (49 ≤ b) && decide (b ≤ 57)
  | 2 => decide (b = 115) || decide (b = 108)
  | _ => decide (b = 59)
theorem r_mayStand {k : Nat} (hk : k < 4) (b : Int32) (h : List va_E) : Rn E 0 mX5_mayStand (0, [(0, .int (nI k)), (1, .int b)], [], h) (some (.int (ib (msB k b = true))), h) := by
  match k, hk with
  | 0, _ =>
    repeat refine Rn.step rfl ?_
    refine Rn.br rfl (fun h1 => ?_) (fun h1 => ?_)
    · rw [ib_f (by simp [msB, Int32.not_le.mpr h1])]
      repeat refine Rn.step rfl ?_
      exact Rn.ret rfl
    · repeat refine Rn.step rfl ?_
      refine Rn.br rfl (fun h2 => ?_) (fun h2 => ?_)
      · rw [ib_f (by simp [msB, Int32.not_le.mpr h2])]
        repeat refine Rn.step rfl ?_
        exact Rn.ret rfl
      · rw [ib_t (by simp [msB, Int32.not_lt.mp h1, Int32.not_lt.mp h2])]
        repeat refine Rn.step rfl ?_
        exact Rn.ret rfl
  | 1, _ =>
    repeat refine Rn.step rfl ?_
    refine Rn.br rfl (fun h1 => ?_) (fun h1 => ?_)
    · rw [ib_f (by simp [msB, Int32.not_le.mpr h1])]
      repeat refine Rn.step rfl ?_
      exact Rn.ret rfl
    · repeat refine Rn.step rfl ?_
      refine Rn.br rfl (fun h2 => ?_) (fun h2 => ?_)
      · rw [ib_f (by simp [msB, Int32.not_le.mpr h2])]
        repeat refine Rn.step rfl ?_
        exact Rn.ret rfl
      · rw [ib_t (by simp [msB, Int32.not_lt.mp h1, Int32.not_lt.mp h2])]
        repeat refine Rn.step rfl ?_
        exact Rn.ret rfl
  | 2, _ =>
    repeat refine Rn.step rfl ?_
    refine Rn.br rfl (fun h1 => ?_) (fun h1 => ?_)
    · rw [ib_t (by simp [msB, h1])]
      repeat refine Rn.step rfl ?_
      exact Rn.ret rfl
    · repeat refine Rn.step rfl ?_
      refine Rn.br rfl (fun h2 => ?_) (fun h2 => ?_)
      · rw [ib_f (by simp [msB, h1, h2])]
        repeat refine Rn.step rfl ?_
        exact Rn.ret rfl
      · rw [ib_t (by simp [msB, Decidable.not_not.mp h2])]
        repeat refine Rn.step rfl ?_
        exact Rn.ret rfl
  | 3, _ =>
    repeat refine Rn.step rfl ?_
    refine Rn.br rfl (fun h1 => ?_) (fun h1 => ?_)
    · rw [ib_f (by simp [msB, h1])]
      repeat refine Rn.step rfl ?_
      exact Rn.ret rfl
    · rw [ib_t (by simp [msB, Decidable.not_not.mp h1])]
      repeat refine Rn.step rfl ?_
      exact Rn.ret rfl
/-- the fault of a text of logs -/
def flg (b : Nat → Int32) (n : Nat) : Nat → Nat → Int32
  | _, 0 => if n = 0 ∨ n % 4 = 3 then -1 else nI n
  | i, j + 1 => if msB (i % 4) (b i) = true then flg b n (i + 1) j else nI i
theorem r_faultOfLogs {n : Nat} (hn : n ≤ 31) (hv : v 13 = nI n) : Rn E 1 mX5_faultOfLogs (0, [(0, .ref 43)], [], wX a v t r) (some (.int (flg (a 44) n 0 n)), wX a v t r) := by
  have key : ∀ j i, i + j = n → Rn E 1 mX5_faultOfLogs (2, [(1, .int (nI i)), (0, .ref 43)], [], wX a v t r) (some (.int (flg (a 44) n i j)), wX a v t r) := by
    intro j
    induction j with
    | zero =>
      intro i hi
      repeat refine Rn.step rfl ?_
      refine Rn.br1 rfl (by rw [hv]; exact nI_le (by omega) (by omega)) ?_
      repeat refine Rn.step rfl ?_
      unfold flg
      refine Rn.br rfl (fun h1 => ?_) (fun h1 => ?_)
      · rw [if_pos (Or.inl ((nI_eq (by omega) (by decide)).mp (hv.symm.trans h1)))]
        repeat refine Rn.step rfl ?_
        exact Rn.ret rfl
      · iterate 4 refine Rn.step rfl ?_
        refine Rn.top (x' := nI (n % 4)) (by show v 13 - v 13 / nI 4 * nI 4 = _; rw [hv]; exact pk_rem (by omega) (by decide) (by decide)) ?_
        refine Rn.step rfl ?_
        refine Rn.br rfl (fun h2 => ?_) (fun h2 => ?_)
        · rw [if_neg (fun q => q.elim (fun q => h1 (by rw [hv, q]; rfl)) (fun q => h2 (by rw [q]; rfl)))]
          iterate 2 refine Rn.step rfl ?_
          refine Rn.top hv ?_
          exact Rn.ret rfl
        · rw [if_pos (Or.inr ((nI_eq (b := 3) (by omega) (by decide)).mp (Decidable.not_not.mp h2)))]
          repeat refine Rn.step rfl ?_
          exact Rn.ret rfl
    | succ j ih =>
      intro i hi
      repeat refine Rn.step rfl ?_
      refine Rn.br2 rfl (by rw [hv]; exact nle (by omega) (by omega)) ?_
      repeat refine Rn.step rfl ?_
      refine Rn.br2 rfl (nle (n := 31) (by omega) (by decide)) ?_
      repeat refine Rn.step rfl ?_
      refine Rn.br2 rfl (by show ¬ nI 8 ≤ nI i / nI 4; rw [pk_div (by omega) (by decide) (by decide)]; exact nle (by omega) (by decide)) ?_
      iterate 3 refine Rn.step rfl ?_
      refine Rn.top (x' := nI (i % 4)) (pk_rem (d := 4) (by omega) (by decide) (by decide)) ?_
      repeat refine Rn.step rfl ?_
      refine Rn.ald i rfl rfl (by omega) (by decide) ?_
      refine Rn.calli rfl rfl rfl (by decide) (r_mayStand (Nat.mod_lt _ (by decide)) (a 44 i) _) (fun x1 e1 => ?_)
      unfold flg
      refine Rn.br rfl (fun h1 => ?_) (fun h1 => ?_)
      · rw [if_pos (ib_ne0.mp (e1 ▸ h1))]
        iterate 2 refine Rn.step rfl ?_
        have k3 := ih (i + 1) (by omega)
        rw [nI_succ] at k3
        exact k3
      · rw [if_neg (ib_eq0.mp (e1 ▸ Decidable.not_not.mp h1))]
        repeat refine Rn.step rfl ?_
        exact Rn.ret rfl
  iterate 2 refine Rn.step rfl ?_
  exact key n 0 (by omega)
abbrev tl3 : Type := (Nat → Int32) × (Nat → Int32) × (Nat → Int32)
def tlA (b : Nat → Int32) (q : Nat) (s : tl3) : tl3 := lp (fun l s => (upd s.1 l (b (4 * l) - 97), upd s.2.1 l (b (4 * l + 1) - 48), upd s.2.2 l (if b (4 * l + 2) = 108 then 1 else 0))) 0 q s
abbrev w3 (a : Nat → Nat → Int32) (s : tl3) : Nat → Nat → Int32 := va_up (va_up (va_up a 6 s.1) 7 s.2.1) 8 s.2.2
theorem r_tellLogs1 {n : Nat} (hn : n ≤ 31) (hv : v 13 = nI n) (hf : ¬ flg (a 44) n 0 n = -1) : Rn E 2 mX5_tellLogs (0, [(0, .ref 3), (1, .ref 43)], [], wX a v t r) (some (.int (flg (a 44) n 0 n)), wX a (upd v 4 0) t r) := by
  iterate 2 refine Rn.step rfl ?_
  refine Rn.step rfl ?_
  refine Rn.hp (h2 := wX a (upd v 4 0) t r) rfl ?_
  repeat refine Rn.step rfl ?_
  refine Rn.calli rfl rfl rfl (by decide) (r_faultOfLogs (v := upd v 4 0) hn hv) (fun x1 e1 => ?_)
  repeat refine Rn.step rfl ?_
  refine Rn.br2 rfl (by rw [e1]; exact hf) ?_
  repeat refine Rn.step rfl ?_
  rw [e1]
  exact Rn.ret rfl
theorem flg_ok {b : Nat → Int32} {n : Nat} (hn : n < 2 ^ 31) (h : flg b n 0 n = -1) : n = 0 ∨ n % 4 = 3 := by
  have key : ∀ j i, i + j = n → flg b n i j = -1 → n = 0 ∨ n % 4 = 3 := by
    intro j
    induction j with
    | zero =>
      intro i hi hf
      unfold flg at hf
      split at hf
      · assumption
      · exact absurd hf (nI_ne1 hn)
    | succ j ih =>
      intro i hi hf
      unfold flg at hf
      split at hf
      · exact ih (i + 1) (by omega) hf
      · exact absurd hf (nI_ne1 (by omega))
  exact key n 0 (by omega) h
theorem r_tellLogs2 {n : Nat} (hn : n ≤ 31) (hv : v 13 = nI n) (hf : flg (a 44) n 0 n = -1) : Rn E 2 mX5_tellLogs (0, [(0, .ref 3), (1, .ref 43)], [], wX a v t r) (some (.int (-1)), wX (w3 a (tlA (a 44) ((n + 1) / 4) (a 6, a 7, a 8))) (upd v 4 (nI ((n + 1) / 4))) t r) := by
  have h4 := flg_ok (by omega) hf
  iterate 2 refine Rn.step rfl ?_
  refine Rn.step rfl ?_
  refine Rn.hp (h2 := wX a (upd v 4 0) t r) rfl ?_
  repeat refine Rn.step rfl ?_
  refine Rn.calli rfl rfl rfl (by decide) (r_faultOfLogs (v := upd v 4 0) hn hv) (fun x1 e1 => ?_)
  repeat refine Rn.step rfl ?_
  refine Rn.br1 rfl (by rw [e1]; exact hf) ?_
  iterate 2 refine Rn.step rfl ?_
  refine Rn.lp (σ := tl3) (cfg := fun l s => (19, [(3, .int (nI (4 * l))), (2, .int x1), (0, .ref 3), (1, .ref 43)], [], wX (w3 a s) (upd v 4 (nI l)) t r)) (f := fun l s => (upd s.1 l (a 44 (4 * l) - 97), upd s.2.1 l (a 44 (4 * l + 1) - 48), upd s.2.2 l (if a 44 (4 * l + 2) = 108 then 1 else 0))) (n := (n + 1) / 4) (fun _ _ => True) (fun l s hl _ => ⟨trivial, fun k => ?_⟩) ((n + 1) / 4) 0 (a 6, a 7, a 8) (by omega) trivial (fun s0 hs0 _ => ?_)
  · iterate 3 refine Rn.step rfl ?_
    refine Rn.top (nI_add (4 * l) 2) ?_
    repeat refine Rn.step rfl ?_
    refine Rn.br2 rfl (by show ¬ v 13 ≤ _; rw [hv]; exact nle (by omega) (by omega)) ?_
    iterate 3 refine Rn.step rfl ?_
    refine Rn.top (nI_add (4 * l) 2) ?_
    repeat refine Rn.step rfl ?_
    refine Rn.br2 rfl (nle (n := 31) (by omega) (by decide)) ?_
    repeat refine Rn.step rfl ?_
    refine Rn.br2 rfl (nle (n := 8) (i := l) (by omega) (by decide)) ?_
    repeat refine Rn.step rfl ?_
    refine Rn.ald (4 * l) rfl rfl (by omega) (by decide) ?_
    repeat refine Rn.step rfl ?_
    refine Rn.ast l rfl rfl (by omega) (by decide) (h3 := wX (w3 a (upd s.1 l (a 44 (4 * l) - 97), s.2.1, s.2.2)) (upd v 4 (nI l)) t r) rfl ?_
    repeat refine Rn.step rfl ?_
    refine Rn.ald (4 * l + 1) rfl (nI_add (4 * l) 1) (by omega) (by decide) ?_
    repeat refine Rn.step rfl ?_
    refine Rn.ast l rfl rfl (by omega) (by decide) (h3 := wX (w3 a (upd s.1 l (a 44 (4 * l) - 97), upd s.2.1 l (a 44 (4 * l + 1) - 48), s.2.2)) (upd v 4 (nI l)) t r) rfl ?_
    repeat refine Rn.step rfl ?_
    refine Rn.ald (4 * l + 2) rfl (nI_add (4 * l) 2) (by omega) (by decide) ?_
    repeat refine Rn.step rfl ?_
    have fin : ∀ z : Int32, z = (if a 44 (4 * l + 2) = 108 then 1 else 0) → Rn E 2 mX5_tellLogs (113, [(3, .int (nI (4 * l))), (2, .int x1), (0, .ref 3), (1, .ref 43)], [.int z, .int (nI l), .ref 8], wX (w3 a (upd s.1 l (a 44 (4 * l) - 97), upd s.2.1 l (a 44 (4 * l + 1) - 48), s.2.2)) (upd v 4 (nI l)) t r) (some (.int (-1)), wX (w3 a (tlA (a 44) ((n + 1) / 4) (a 6, a 7, a 8))) (upd v 4 (nI ((n + 1) / 4))) t r) := by
      intro z hz
      refine Rn.ast l rfl rfl (by omega) (by decide) (h3 := wX (w3 a (upd s.1 l (a 44 (4 * l) - 97), upd s.2.1 l (a 44 (4 * l + 1) - 48), upd s.2.2 l z)) (upd v 4 (nI l)) t r) rfl ?_
      iterate 5 refine Rn.step rfl ?_
      refine Rn.top (x' := nI (l + 1)) (nI_1 l) ?_
      refine Rn.step rfl ?_
      refine Rn.hp (h2 := wX (w3 a (upd s.1 l (a 44 (4 * l) - 97), upd s.2.1 l (a 44 (4 * l + 1) - 48), upd s.2.2 l z)) (upd v 4 (nI (l + 1))) t r) rfl ?_
      iterate 2 refine Rn.step rfl ?_
      subst hz
      have e4 : nI (4 * (l + 1)) = nI (4 * l) + 4 := (nI_add (4 * l) 4).symm
      rw [e4] at k
      exact k
    refine Rn.br rfl (fun h1 => ?_) (fun h1 => ?_)
    · refine Rn.step rfl ?_
      exact fin 0 (by have h1 : ¬ a 44 (4 * l + 2) = 108 := h1; rw [if_neg h1])
    · iterate 2 refine Rn.step rfl ?_
      exact fin 1 (by have h1 : ¬ ¬ a 44 (4 * l + 2) = 108 := h1; rw [if_pos (Decidable.not_not.mp h1)])
  · iterate 3 refine Rn.step rfl ?_
    refine Rn.top (nI_add (4 * ((n + 1) / 4)) 2) ?_
    repeat refine Rn.step rfl ?_
    refine Rn.br1 rfl (by show v 13 ≤ _; rw [hv]; exact nI_le (by omega) (by omega)) ?_
    repeat refine Rn.step rfl ?_
    subst hs0
    exact Rn.ret rfl
theorem r_tellSlopes {n : Nat} (hn : n ≤ 16) (hv : v 11 = nI n) : Rn E 1 mX5_tellSlopes (0, [(0, .ref 3), (1, .ref 39)], [], wX a v t r) (some (.int (ffg (a 40) 49 51 0 n)), wX (va_up a 4 (rwA (a 40) n (ffg (a 40) 49 51 0 n) 1 (a 4))) v t r) := by
  repeat refine Rn.step rfl ?_
  refine Rn.calli rfl rfl rfl (by decide) (r_figS 49 51 1 hn hv) (fun x1 e1 => ?_)
  rw [e1]
  exact Rn.ret rfl
theorem r_tellFeeders {n : Nat} (hn : n ≤ 16) (hv : v 12 = nI n) : Rn E 1 mX5_tellFeeders (0, [(0, .ref 3), (1, .ref 41)], [], wX a v t r) (some (.int (ffg (a 42) 48 57 0 n)), wX (va_up a 5 (rwA (a 42) n (ffg (a 42) 48 57 0 n) 0 (a 5))) v t r) := by
  repeat refine Rn.step rfl ?_
  refine Rn.calli rfl rfl rfl (by decide) (r_figF 48 57 0 hn hv) (fun x1 e1 => ?_)
  rw [e1]
  exact Rn.ret rfl
end X3
