section X8
variable {E : iExtT} {a : Nat → Nat → Int32} {v : Nat → Int32} {t : Nat → Nat → Int64} {r : List va_E}
theorem Rn.all {hh pc nx : Nat} {M : iMeth} {o : iRes} {L : List (Nat × Value)} {S S' : List Value} {h h2 : List va_E} {i : Int32} {n : Nat} {f : Nat → Int64} (k : Nat) (hst : iStep E iProg M (pc, L, S, h) = if ¬ (i < 0 ∨ n ≤ i.toNatClampNeg) then iNx nx L (.long (f i.toNatClampNeg) :: S') h2 else none) (hi : i = nI k) (hk : k < n) (hn : n < 2 ^ 31) (kk : Rn E hh M (nx, L, .long (f k) :: S', h2) o) : Rn E hh M (pc, L, S, h) o := by
  subst hi
  refine Rn.chk hst (nI_in hk hn) ?_
  rw [nI_clamp (Nat.lt_trans hk hn)]
  exact kk
theorem Rn.asl {hh pc nx : Nat} {M : iMeth} {o : iRes} {L : List (Nat × Value)} {S S' : List Value} {h h2 : List va_E} {i : Int32} {x : Int64} {n A : Nat} {f : Nat → Int64} {h3 : List va_E} (k : Nat) (hst : iStep E iProg M (pc, L, S, h) = if ¬ (i < 0 ∨ n ≤ i.toNatClampNeg) then iNx nx L S' (h2.set A (.inl (1, n, .inr (.inl (vp_updL f i.toNatClampNeg x))))) else none) (hi : i = nI k) (hk : k < n) (hn : n < 2 ^ 31) (he : h2.set A (.inl (1, n, .inr (.inl (vp_updL f k x)))) = h3) (kk : Rn E hh M (nx, L, S', h3) o) : Rn E hh M (pc, L, S, h) o := by
  subst hi
  subst he
  refine Rn.chk hst (nI_in hk hn) ?_
  rw [nI_clamp (Nat.lt_trans hk hn)]
  exact kk
/-- who lies in a span behind a minute -/
abbrev liP (H ta : Nat → Int32) (m : Nat) (sp : Int32) (l : Nat) : Prop := ¬ H (m * 8 + l) = 16 ∧ ¬ H (m * 8 + l) < sp ∧ ¬ sp < H (m * 8 + l) - ta l
def liF (H ta : Nat → Int32) (m : Nat) (sp : Int32) : Nat → Nat → Int32
  | _, 0 => -1
  | i, j + 1 => if liP H ta m sp i then nI i else liF H ta m sp (i + 1) j
def aflF (H : Nat → Int32) (m n : Nat) : Int32 := lp (fun l x => if ¬ H (m * 8 + l) = -1 ∧ ¬ H (m * 8 + l) = 16 then x + 1 else x) 0 n 0
def moF (H : Nat → Int32) (l : Nat) : Nat → Nat → Int32
  | _, 0 => -1
  | i, j + 1 => if H (i * 8 + l) = 16 then nI i else moF H l (i + 1) j
def miF (S : Nat → Int32) (l : Nat) (s : Int32) : Int32 := lp (fun m x => if S (m * 8 + l) = s then x + 1 else x) 0 24 0
def maF (S : Nat → Int32) (n : Nat) (s : Int32) : Int32 := lp (fun l x => x + miF S l s) 0 n 0
def obF (H : Nat → Int32) (n : Nat) : Int32 := lp (fun l x => if H (184 + l) = 16 then x ||| sh1 (nI l) else x) 0 n 0
def trF (H : Nat → Int32) (n m : Nat) : Int64 := lp (fun l x => x <<< ((5 : Int32).toInt64 &&& 63) ||| (H (m * 8 + l) + 1).toInt64) 0 n 0
def trA (H : Nat → Int32) (n fr : Nat) (T : Nat → Int64) : Nat → Int64 := lp (fun m T => vp_updL T (fr + m) (trF H n m)) 0 24 T
def drF (le : Nat → Int32) : Int32 := lp (fun m x => lp (fun s x => if ¬ le (m * 16 + s) ≤ 0 then x &&& (sh1 (nI s) ^^^ -1) else x) 0 16 x) 0 24 65535
theorem r_lier1 {n : Nat} (hn : n ≤ 8) (hv4 : v 4 = nI n) {m : Nat} (hm : m < 24) (sp : Int32) : Rn E 0 mX0_lierIn (0, [(0, .ref 22), (1, .ref 3), (2, .int (nI m)), (3, .int sp)], [], wX a v t r) (some (.int (liF (a 23) (a 8) m sp 0 n)), wX a v t r) := by
  have key : ∀ j i, i + j = n → Rn E 0 mX0_lierIn (3, [(4, .int (nI i)), (0, .ref 22), (1, .ref 3), (2, .int (nI m)), (3, .int sp)], [], wX a v t r) (some (.int (liF (a 23) (a 8) m sp i j)), wX a v t r) := by
    intro j
    induction j with
    | zero =>
      intro i hi
      repeat refine Rn.step rfl ?_
      refine Rn.br1 rfl (by show v 4 ≤ nI i; rw [hv4]; exact nI_le (by omega) (by omega)) ?_
      repeat refine Rn.step rfl ?_
      exact Rn.ret rfl
    | succ j ih =>
      intro i hi
      have k3 := ih (i + 1) (by omega)
      rw [nI_succ] at k3
      repeat refine Rn.step rfl ?_
      refine Rn.br2 rfl (by show ¬ v 4 ≤ nI i; rw [hv4]; exact nle (by omega) (by omega)) ?_
      repeat refine Rn.step rfl ?_
      refine Rn.ald (m * 8 + i) rfl (ix_ma m 8 i) (by omega) (by decide) ?_
      repeat refine Rn.step rfl ?_
      unfold liF
      refine Rn.br rfl (fun h1 => ?_) (fun h1 => ?_)
      · rw [if_neg (fun q => q.1 h1)]
        iterate 2 refine Rn.step rfl ?_
        exact Rn.sub (by exact ⟨rfl, rfl, rfl, rfl, rfl, trivial⟩) k3
      repeat refine Rn.step rfl ?_
      refine Rn.br rfl (fun h2 => ?_) (fun h2 => ?_)
      · rw [if_neg (fun q => q.2.1 h2)]
        iterate 2 refine Rn.step rfl ?_
        exact Rn.sub (by exact ⟨rfl, rfl, rfl, rfl, rfl, trivial⟩) k3
      repeat refine Rn.step rfl ?_
      refine Rn.ald i rfl rfl (by omega) (by decide) ?_
      repeat refine Rn.step rfl ?_
      refine Rn.br rfl (fun h3 => ?_) (fun h3 => ?_)
      · rw [if_neg (fun q => q.2.2 h3)]
        iterate 2 refine Rn.step rfl ?_
        exact Rn.sub (by exact ⟨rfl, rfl, rfl, rfl, rfl, trivial⟩) k3
      · rw [if_pos ⟨h1, h2, h3⟩]
        repeat refine Rn.step rfl ?_
        exact Rn.ret rfl
  iterate 2 refine Rn.step rfl ?_
  exact key n 0 (by omega)
theorem r_minIn1 {l : Nat} (hl : l < 8) (s : Int32) : Rn E 0 mX0_minutesIn (0, [(0, .ref 22), (1, .int (nI l)), (2, .int s)], [], wX a v t r) (some (.int (miF (a 24) l s)), wX a v t r) := by
  iterate 4 refine Rn.step rfl ?_
  refine Rn.lp (σ := Int32) (cfg := fun m x => (5, [(4, .int (nI m)), (3, .int x), (0, .ref 22), (1, .int (nI l)), (2, .int s)], [], wX a v t r)) (f := fun m x => if a 24 (m * 8 + l) = s then x + 1 else x) (n := 24) (fun _ _ => True) (fun m x hm _ => ⟨trivial, fun k => ?_⟩) 24 0 0 rfl trivial (fun x0 hx0 _ => ?_)
  · rw [nI_succ] at k
    repeat refine Rn.step rfl ?_
    refine Rn.br2 rfl (nle hm (by decide)) ?_
    repeat refine Rn.step rfl ?_
    refine Rn.ald (m * 8 + l) rfl (ix_ma m 8 l) (by omega) (by decide) ?_
    repeat refine Rn.step rfl ?_
    refine Rn.br rfl (fun h1 => ?_) (fun h1 => ?_)
    · rw [if_neg h1] at k
      iterate 2 refine Rn.step rfl ?_
      exact k
    · rw [if_pos (Decidable.not_not.mp h1)] at k
      iterate 3 refine Rn.step rfl ?_
      exact k
  · repeat refine Rn.step rfl ?_
    subst hx0
    exact Rn.ret rfl
theorem r_minAll1 {n : Nat} (hn : n ≤ 8) (hv4 : v 4 = nI n) (s : Int32) : Rn E 1 mX0_minutesOfAll (0, [(0, .ref 22), (1, .ref 3), (2, .int s)], [], wX a v t r) (some (.int (maF (a 24) n s)), wX a v t r) := by
  iterate 4 refine Rn.step rfl ?_
  refine Rn.lp (σ := Int32) (cfg := fun l x => (5, [(4, .int (nI l)), (3, .int x), (0, .ref 22), (1, .ref 3), (2, .int s)], [], wX a v t r)) (f := fun l x => x + miF (a 24) l s) (n := n) (fun _ _ => True) (fun l x hl _ => ⟨trivial, fun k => ?_⟩) n 0 0 (by omega) trivial (fun x0 hx0 _ => ?_)
  · rw [nI_succ] at k
    repeat refine Rn.step rfl ?_
    refine Rn.br2 rfl (by show ¬ v 4 ≤ nI l; rw [hv4]; exact nle hl (by omega)) ?_
    repeat refine Rn.step rfl ?_
    refine Rn.calli rfl rfl rfl (by decide) (r_minIn1 (by omega) s) (fun x1 e1 => ?_)
    iterate 4 refine Rn.step rfl ?_
    subst e1
    exact k
  · repeat refine Rn.step rfl ?_
    refine Rn.br1 rfl (by show v 4 ≤ nI n; rw [hv4]; exact Int32.le_refl _) ?_
    repeat refine Rn.step rfl ?_
    subst hx0
    exact Rn.ret rfl
theorem r_outBits1 {n : Nat} (hn : n ≤ 8) (hv4 : v 4 = nI n) : Rn E 0 mX0_outBits (0, [(0, .ref 22), (1, .ref 3)], [], wX a v t r) (some (.int (obF (a 23) n)), wX a v t r) := by
  iterate 4 refine Rn.step rfl ?_
  refine Rn.lp (σ := Int32) (cfg := fun l x => (4, [(3, .int (nI l)), (2, .int x), (0, .ref 22), (1, .ref 3)], [], wX a v t r)) (f := fun l x => if a 23 (184 + l) = 16 then x ||| sh1 (nI l) else x) (n := n) (fun _ _ => True) (fun l x hl _ => ⟨trivial, fun k => ?_⟩) n 0 0 (by omega) trivial (fun x0 hx0 _ => ?_)
  · rw [nI_succ] at k
    repeat refine Rn.step rfl ?_
    refine Rn.br2 rfl (by show ¬ v 4 ≤ nI l; rw [hv4]; exact nle hl (by omega)) ?_
    repeat refine Rn.step rfl ?_
    refine Rn.ald (184 + l) rfl (nI_add 184 l) (by omega) (by decide) ?_
    repeat refine Rn.step rfl ?_
    refine Rn.br rfl (fun h1 => ?_) (fun h1 => ?_)
    · rw [if_neg h1] at k
      iterate 2 refine Rn.step rfl ?_
      exact k
    · rw [if_pos (Decidable.not_not.mp h1)] at k
      iterate 8 refine Rn.step rfl ?_
      exact k
  · repeat refine Rn.step rfl ?_
    refine Rn.br1 rfl (by show v 4 ≤ nI n; rw [hv4]; exact Int32.le_refl _) ?_
    repeat refine Rn.step rfl ?_
    subst hx0
    exact Rn.ret rfl
theorem r_lier2 {n : Nat} (hn : n ≤ 8) (hv4 : v 4 = nI n) {m : Nat} (hm : m < 24) (sp : Int32) : Rn E 0 mX0_lierIn (0, [(0, .ref 31), (1, .ref 3), (2, .int (nI m)), (3, .int sp)], [], wX a v t r) (some (.int (liF (a 32) (a 8) m sp 0 n)), wX a v t r) := by
  have key : ∀ j i, i + j = n → Rn E 0 mX0_lierIn (3, [(4, .int (nI i)), (0, .ref 31), (1, .ref 3), (2, .int (nI m)), (3, .int sp)], [], wX a v t r) (some (.int (liF (a 32) (a 8) m sp i j)), wX a v t r) := by
    intro j
    induction j with
    | zero =>
      intro i hi
      repeat refine Rn.step rfl ?_
      refine Rn.br1 rfl (by show v 4 ≤ nI i; rw [hv4]; exact nI_le (by omega) (by omega)) ?_
      repeat refine Rn.step rfl ?_
      exact Rn.ret rfl
    | succ j ih =>
      intro i hi
      have k3 := ih (i + 1) (by omega)
      rw [nI_succ] at k3
      repeat refine Rn.step rfl ?_
      refine Rn.br2 rfl (by show ¬ v 4 ≤ nI i; rw [hv4]; exact nle (by omega) (by omega)) ?_
      repeat refine Rn.step rfl ?_
      refine Rn.ald (m * 8 + i) rfl (ix_ma m 8 i) (by omega) (by decide) ?_
      repeat refine Rn.step rfl ?_
      unfold liF
      refine Rn.br rfl (fun h1 => ?_) (fun h1 => ?_)
      · rw [if_neg (fun q => q.1 h1)]
        iterate 2 refine Rn.step rfl ?_
        exact Rn.sub (by exact ⟨rfl, rfl, rfl, rfl, rfl, trivial⟩) k3
      repeat refine Rn.step rfl ?_
      refine Rn.br rfl (fun h2 => ?_) (fun h2 => ?_)
      · rw [if_neg (fun q => q.2.1 h2)]
        iterate 2 refine Rn.step rfl ?_
        exact Rn.sub (by exact ⟨rfl, rfl, rfl, rfl, rfl, trivial⟩) k3
      repeat refine Rn.step rfl ?_
      refine Rn.ald i rfl rfl (by omega) (by decide) ?_
      repeat refine Rn.step rfl ?_
      refine Rn.br rfl (fun h3 => ?_) (fun h3 => ?_)
      · rw [if_neg (fun q => q.2.2 h3)]
        iterate 2 refine Rn.step rfl ?_
        exact Rn.sub (by exact ⟨rfl, rfl, rfl, rfl, rfl, trivial⟩) k3
      · rw [if_pos ⟨h1, h2, h3⟩]
        repeat refine Rn.step rfl ?_
        exact Rn.ret rfl
  iterate 2 refine Rn.step rfl ?_
  exact key n 0 (by omega)
theorem r_minIn2 {l : Nat} (hl : l < 8) (s : Int32) : Rn E 0 mX0_minutesIn (0, [(0, .ref 31), (1, .int (nI l)), (2, .int s)], [], wX a v t r) (some (.int (miF (a 33) l s)), wX a v t r) := by
  iterate 4 refine Rn.step rfl ?_
  refine Rn.lp (σ := Int32) (cfg := fun m x => (5, [(4, .int (nI m)), (3, .int x), (0, .ref 31), (1, .int (nI l)), (2, .int s)], [], wX a v t r)) (f := fun m x => if a 33 (m * 8 + l) = s then x + 1 else x) (n := 24) (fun _ _ => True) (fun m x hm _ => ⟨trivial, fun k => ?_⟩) 24 0 0 rfl trivial (fun x0 hx0 _ => ?_)
  · rw [nI_succ] at k
    repeat refine Rn.step rfl ?_
    refine Rn.br2 rfl (nle hm (by decide)) ?_
    repeat refine Rn.step rfl ?_
    refine Rn.ald (m * 8 + l) rfl (ix_ma m 8 l) (by omega) (by decide) ?_
    repeat refine Rn.step rfl ?_
    refine Rn.br rfl (fun h1 => ?_) (fun h1 => ?_)
    · rw [if_neg h1] at k
      iterate 2 refine Rn.step rfl ?_
      exact k
    · rw [if_pos (Decidable.not_not.mp h1)] at k
      iterate 3 refine Rn.step rfl ?_
      exact k
  · repeat refine Rn.step rfl ?_
    subst hx0
    exact Rn.ret rfl
theorem r_minAll2 {n : Nat} (hn : n ≤ 8) (hv4 : v 4 = nI n) (s : Int32) : Rn E 1 mX0_minutesOfAll (0, [(0, .ref 31), (1, .ref 3), (2, .int s)], [], wX a v t r) (some (.int (maF (a 33) n s)), wX a v t r) := by
  iterate 4 refine Rn.step rfl ?_
  refine Rn.lp (σ := Int32) (cfg := fun l x => (5, [(4, .int (nI l)), (3, .int x), (0, .ref 31), (1, .ref 3), (2, .int s)], [], wX a v t r)) (f := fun l x => x + miF (a 33) l s) (n := n) (fun _ _ => True) (fun l x hl _ => ⟨trivial, fun k => ?_⟩) n 0 0 (by omega) trivial (fun x0 hx0 _ => ?_)
  · rw [nI_succ] at k
    repeat refine Rn.step rfl ?_
    refine Rn.br2 rfl (by show ¬ v 4 ≤ nI l; rw [hv4]; exact nle hl (by omega)) ?_
    repeat refine Rn.step rfl ?_
    refine Rn.calli rfl rfl rfl (by decide) (r_minIn2 (by omega) s) (fun x1 e1 => ?_)
    iterate 4 refine Rn.step rfl ?_
    subst e1
    exact k
  · repeat refine Rn.step rfl ?_
    refine Rn.br1 rfl (by show v 4 ≤ nI n; rw [hv4]; exact Int32.le_refl _) ?_
    repeat refine Rn.step rfl ?_
    subst hx0
    exact Rn.ret rfl
theorem r_outBits2 {n : Nat} (hn : n ≤ 8) (hv4 : v 4 = nI n) : Rn E 0 mX0_outBits (0, [(0, .ref 31), (1, .ref 3)], [], wX a v t r) (some (.int (obF (a 32) n)), wX a v t r) := by
  iterate 4 refine Rn.step rfl ?_
  refine Rn.lp (σ := Int32) (cfg := fun l x => (4, [(3, .int (nI l)), (2, .int x), (0, .ref 31), (1, .ref 3)], [], wX a v t r)) (f := fun l x => if a 32 (184 + l) = 16 then x ||| sh1 (nI l) else x) (n := n) (fun _ _ => True) (fun l x hl _ => ⟨trivial, fun k => ?_⟩) n 0 0 (by omega) trivial (fun x0 hx0 _ => ?_)
  · rw [nI_succ] at k
    repeat refine Rn.step rfl ?_
    refine Rn.br2 rfl (by show ¬ v 4 ≤ nI l; rw [hv4]; exact nle hl (by omega)) ?_
    repeat refine Rn.step rfl ?_
    refine Rn.ald (184 + l) rfl (nI_add 184 l) (by omega) (by decide) ?_
    repeat refine Rn.step rfl ?_
    refine Rn.br rfl (fun h1 => ?_) (fun h1 => ?_)
    · rw [if_neg h1] at k
      iterate 2 refine Rn.step rfl ?_
      exact k
    · rw [if_pos (Decidable.not_not.mp h1)] at k
      iterate 8 refine Rn.step rfl ?_
      exact k
  · repeat refine Rn.step rfl ?_
    refine Rn.br1 rfl (by show v 4 ≤ nI n; rw [hv4]; exact Int32.le_refl _) ?_
    repeat refine Rn.step rfl ?_
    subst hx0
    exact Rn.ret rfl
theorem r_afloat {n : Nat} (hn : n ≤ 8) (hv4 : v 4 = nI n) {m : Nat} (hm : m < 24) : Rn E 0 mX0_afloatOrLying (0, [(0, .ref 22), (1, .ref 3), (2, .int (nI m))], [], wX a v t r) (some (.int (aflF (a 23) m n)), wX a v t r) := by
  iterate 4 refine Rn.step rfl ?_
  refine Rn.lp (σ := Int32) (cfg := fun l x => (5, [(4, .int (nI l)), (3, .int x), (0, .ref 22), (1, .ref 3), (2, .int (nI m))], [], wX a v t r)) (f := fun l x => if ¬ a 23 (m * 8 + l) = -1 ∧ ¬ a 23 (m * 8 + l) = 16 then x + 1 else x) (n := n) (fun _ _ => True) (fun l x hl _ => ⟨trivial, fun k => ?_⟩) n 0 0 (by omega) trivial (fun x0 hx0 _ => ?_)
  · rw [nI_succ] at k
    repeat refine Rn.step rfl ?_
    refine Rn.br2 rfl (by show ¬ v 4 ≤ nI l; rw [hv4]; exact nle hl (by omega)) ?_
    repeat refine Rn.step rfl ?_
    refine Rn.ald (m * 8 + l) rfl (ix_ma m 8 l) (by omega) (by decide) ?_
    repeat refine Rn.step rfl ?_
    refine Rn.br rfl (fun h1 => ?_) (fun h1 => ?_)
    · rw [if_neg (fun q => q.1 h1)] at k
      iterate 2 refine Rn.step rfl ?_
      exact Rn.sub (by exact ⟨rfl, rfl, rfl, rfl, rfl, trivial⟩) k
    repeat refine Rn.step rfl ?_
    refine Rn.br rfl (fun h2 => ?_) (fun h2 => ?_)
    · rw [if_neg (fun q => q.2 h2)] at k
      iterate 2 refine Rn.step rfl ?_
      exact Rn.sub (by exact ⟨rfl, rfl, rfl, rfl, rfl, trivial⟩) k
    · rw [if_pos ⟨h1, h2⟩] at k
      iterate 3 refine Rn.step rfl ?_
      exact Rn.sub (by exact ⟨rfl, rfl, rfl, rfl, rfl, trivial⟩) k
  · repeat refine Rn.step rfl ?_
    refine Rn.br1 rfl (by show v 4 ≤ nI n; rw [hv4]; exact Int32.le_refl _) ?_
    repeat refine Rn.step rfl ?_
    subst hx0
    exact Rn.ret rfl
theorem r_minOut {l : Nat} (hl : l < 8) : Rn E 0 mX0_minuteOut (0, [(0, .ref 22), (1, .int (nI l))], [], wX a v t r) (some (.int (moF (a 23) l 0 24)), wX a v t r) := by
  have key : ∀ j i, i + j = 24 → Rn E 0 mX0_minuteOut (2, [(2, .int (nI i)), (0, .ref 22), (1, .int (nI l))], [], wX a v t r) (some (.int (moF (a 23) l i j)), wX a v t r) := by
    intro j
    induction j with
    | zero =>
      intro i hi
      obtain rfl : i = 24 := by omega
      repeat refine Rn.step rfl ?_
      exact Rn.ret rfl
    | succ j ih =>
      intro i hi
      have k3 := ih (i + 1) (by omega)
      rw [nI_succ] at k3
      repeat refine Rn.step rfl ?_
      refine Rn.br2 rfl (nle (n := 24) (by omega) (by decide)) ?_
      repeat refine Rn.step rfl ?_
      refine Rn.ald (i * 8 + l) rfl (ix_ma i 8 l) (by omega) (by decide) ?_
      repeat refine Rn.step rfl ?_
      unfold moF
      refine Rn.br rfl (fun h1 => ?_) (fun h1 => ?_)
      · rw [if_neg h1]
        iterate 2 refine Rn.step rfl ?_
        exact k3
      · rw [if_pos (Decidable.not_not.mp h1)]
        repeat refine Rn.step rfl ?_
        exact Rn.ret rfl
  iterate 2 refine Rn.step rfl ?_
  exact key 24 0 rfl
theorem r_trace {n : Nat} (hn : n ≤ 8) (hv4 : v 4 = nI n) {fr : Nat} (hf : fr + 24 ≤ 240) : Rn E 1 mX0_trace (0, [(0, .ref 31), (1, .ref 3), (2, .ref 38), (3, .int (nI fr))], [], wX a v t r) (none, wX a v (va_up t 0 (trA (a 32) n fr (t 0))) r) := by
  iterate 2 refine Rn.step rfl ?_
  refine Rn.lp (σ := Nat → Int64) (cfg := fun m T => (3, [(4, .int (nI m)), (0, .ref 31), (1, .ref 3), (2, .ref 38), (3, .int (nI fr))], [], wX a v (va_up t 0 T) r)) (f := fun m T => vp_updL T (fr + m) (trF (a 32) n m)) (n := 24) (fun _ _ => True) (fun m T hm _ => ⟨trivial, fun k => ?_⟩) 24 0 (t 0) rfl trivial (fun T0 hT0 _ => ?_)
  · rw [nI_succ] at k
    repeat refine Rn.step rfl ?_
    refine Rn.br2 rfl (nle hm (by decide)) ?_
    repeat refine Rn.step rfl ?_
    refine Rn.calli rfl rfl rfl (by decide) (r_within (nI fr + nI m) (nI 240) _) (fun x1 e1 => ?_)
    refine Rn.br2 rfl (by rw [e1, ib_eq0, nI_add]; exact fun q => q (inB_nI (by omega) (by decide))) ?_
    iterate 4 refine Rn.step rfl ?_
    refine Rn.lp (σ := Int64) (cfg := fun l x => (28, [(7, .int (nI l)), (5, .long x), (4, .int (nI m)), (0, .ref 31), (1, .ref 3), (2, .ref 38), (3, .int (nI fr))], [], wX a v (va_up t 0 T) r)) (f := fun l x => x <<< ((5 : Int32).toInt64 &&& 63) ||| (a 32 (m * 8 + l) + 1).toInt64) (n := n) (fun _ _ => True) (fun l x hl _ => ⟨trivial, fun k2 => ?_⟩) n 0 0 (by omega) trivial (fun x0 hx0 _ => ?_)
    · rw [nI_succ] at k2
      repeat refine Rn.step rfl ?_
      refine Rn.br2 rfl (by show ¬ v 4 ≤ nI l; rw [hv4]; exact nle hl (by omega)) ?_
      repeat refine Rn.step rfl ?_
      refine Rn.ald (m * 8 + l) rfl (ix_ma m 8 l) (by omega) (by decide) ?_
      iterate 7 refine Rn.step rfl ?_
      exact k2
    · repeat refine Rn.step rfl ?_
      refine Rn.br1 rfl (by show v 4 ≤ nI n; rw [hv4]; exact Int32.le_refl _) ?_
      repeat refine Rn.step rfl ?_
      refine Rn.asl (fr + m) rfl (nI_add fr m) (by omega) (by decide) (h3 := wX a v (va_up t 0 (vp_updL T (fr + m) x0)) r) rfl ?_
      iterate 2 refine Rn.step rfl ?_
      subst hx0
      exact Rn.sub (by exact ⟨rfl, rfl, rfl, rfl, rfl, trivial⟩) k
  · repeat refine Rn.step rfl ?_
    have h1 : T0 = trA (a 32) n fr (t 0) := hT0
    rw [← h1]
    exact Rn.ret rfl
theorem r_dryBits : Rn E 0 mX6_dryBits (0, [(0, .ref 18)], [], wX a v t r) (some (.int (drF (a 19))), wX a v t r) := by
  iterate 4 refine Rn.step rfl ?_
  refine Rn.lp (σ := Int32) (cfg := fun m x => (5, [(2, .int (nI m)), (1, .int x), (0, .ref 18)], [], wX a v t r)) (f := fun m x => lp (fun s x => if ¬ a 19 (m * 16 + s) ≤ 0 then x &&& (sh1 (nI s) ^^^ -1) else x) 0 16 x) (n := 24) (fun _ _ => True) (fun m x hm _ => ⟨trivial, fun k => ?_⟩) 24 0 65535 rfl trivial (fun x0 hx0 _ => ?_)
  · rw [nI_succ] at k
    repeat refine Rn.step rfl ?_
    refine Rn.br2 rfl (nle hm (by decide)) ?_
    iterate 2 refine Rn.step rfl ?_
    refine Rn.lp (σ := Int32) (cfg := fun s x => (13, [(3, .int (nI s)), (2, .int (nI m)), (1, .int x), (0, .ref 18)], [], wX a v t r)) (f := fun s x => if ¬ a 19 (m * 16 + s) ≤ 0 then x &&& (sh1 (nI s) ^^^ -1) else x) (n := 16) (fun _ _ => True) (fun s x hs _ => ⟨trivial, fun k2 => ?_⟩) 16 0 x rfl trivial (fun x0 hx0 _ => ?_)
    · rw [nI_succ] at k2
      repeat refine Rn.step rfl ?_
      refine Rn.br2 rfl (nle hs (by decide)) ?_
      repeat refine Rn.step rfl ?_
      refine Rn.ald (m * 16 + s) rfl (ix_ma m 16 s) (by omega) (by decide) ?_
      refine Rn.br rfl (fun h1 => ?_) (fun h1 => ?_)
      · rw [if_neg (fun q => q h1)] at k2
        iterate 2 refine Rn.step rfl ?_
        exact k2
      · rw [if_pos h1] at k2
        iterate 10 refine Rn.step rfl ?_
        exact Rn.sub (by exact ⟨rfl, rfl, rfl, rfl, trivial⟩) k2
    · iterate 5 refine Rn.step rfl ?_
      subst hx0
      exact Rn.sub (by exact ⟨rfl, rfl, rfl, trivial⟩) k
  · repeat refine Rn.step rfl ?_
    subst hx0
    exact Rn.ret rfl
theorem r_siFull (x y z : Int32) (hv : v 6 = nI 8) : Rn E 1 mX3_append (0, [(0, .ref 13), (1, .int x), (2, .int y), (3, .int z)], [], wX a v t r) (some (.int 0), wX a v t r) := by
  repeat refine Rn.step rfl ?_
  refine Rn.calli rfl rfl rfl (by decide) (r_within (v 6) 8 _) (fun x1 e1 => ?_)
  refine Rn.br2 rfl (by rw [e1, ib_ne0, hv]; decide) ?_
  refine Rn.step rfl ?_
  exact Rn.ret rfl
abbrev si8 (z : Int32) : Int32 := if z = 8 then -1 else z
theorem r_siAppend (x y z : Int32) {k : Nat} (hk : k < 8) (hv : v 6 = nI k) : Rn E 1 mX3_append (0, [(0, .ref 13), (1, .int x), (2, .int y), (3, .int z)], [], wX a v t r) (some (.int 1), wX (va_up (va_up (va_up a 14 (upd (a 14) k x)) 15 (upd (a 15) k y)) 16 (upd (a 16) k (si8 z))) (upd v 6 (nI (k + 1))) t r) := by
  repeat refine Rn.step rfl ?_
  refine Rn.calli rfl rfl rfl (by decide) (r_within (v 6) 8 _) (fun x1 e1 => ?_)
  refine Rn.br1 rfl (by rw [e1, ib_ne0, hv]; exact inB_nI hk (by decide)) ?_
  repeat refine Rn.step rfl ?_
  refine Rn.ast k rfl hv hk (by decide) (h3 := wX (va_up a 14 (upd (a 14) k x)) v t r) rfl ?_
  repeat refine Rn.step rfl ?_
  refine Rn.ast k rfl hv hk (by decide) (h3 := wX (va_up (va_up a 14 (upd (a 14) k x)) 15 (upd (a 15) k y)) v t r) rfl ?_
  have fin : ∀ q : Int32, q = si8 z → Rn E 1 mX3_append (53, [(0, .ref 13), (1, .int x), (2, .int y), (3, .int z)], [.int q, .int (v 6), .ref 16], wX (va_up (va_up a 14 (upd (a 14) k x)) 15 (upd (a 15) k y)) v t r) (some (.int 1), wX (va_up (va_up (va_up a 14 (upd (a 14) k x)) 15 (upd (a 15) k y)) 16 (upd (a 16) k (si8 z))) (upd v 6 (nI (k + 1))) t r) := by
    intro q hq
    rw [← hq]
    refine Rn.ast k rfl hv hk (by decide) (h3 := wX (va_up (va_up (va_up a 14 (upd (a 14) k x)) 15 (upd (a 15) k y)) 16 (upd (a 16) k q)) v t r) rfl ?_
    iterate 5 refine Rn.step rfl ?_
    refine Rn.top (x' := nI (k + 1)) (by show v 6 + 1 = _; rw [hv, nI_1]) ?_
    iterate 2 refine Rn.step rfl ?_
    exact Rn.ret rfl
  repeat refine Rn.step rfl ?_
  refine Rn.br rfl (fun h1 => ?_) (fun h1 => ?_)
  · refine Rn.step rfl ?_
    exact fin _ (if_neg h1).symm
  · iterate 2 refine Rn.step rfl ?_
    exact fin _ (if_pos (Decidable.not_not.mp h1)).symm
def ftB (H ta : Nat → Int32) (n : Nat) (sm : Nat → Nat) (ss sl : Nat → Int32) : Nat → Nat → Bool
  | _, 0 => true
  | i, j + 1 => decide (liF H ta (sm i) (ss i) 0 n = sl i) && ftB H ta n sm ss sl (i + 1) j
theorem r_fit {n : Nat} (hn : n ≤ 8) (hv4 : v 4 = nI n) {k : Nat} (hk : k ≤ 8) (hv6 : v 6 = nI k) {sm : Nat → Nat} (hsm : ∀ i, i < k → a 14 i = nI (sm i) ∧ sm i < 24) : Rn E 1 mX3_fit (0, [(0, .ref 13), (1, .ref 3), (2, .ref 31)], [], wX a v t r) (some (.int (ib (ftB (a 32) (a 8) n sm (a 15) (a 16) 0 k = true))), wX a v t r) := by
  have key : ∀ j i, i + j = k → Rn E 1 mX3_fit (2, [(3, .int (nI i)), (0, .ref 13), (1, .ref 3), (2, .ref 31)], [], wX a v t r) (some (.int (ib (ftB (a 32) (a 8) n sm (a 15) (a 16) i j = true))), wX a v t r) := by
    intro j
    induction j with
    | zero =>
      intro i hi
      repeat refine Rn.step rfl ?_
      refine Rn.br1 rfl (by show v 6 ≤ nI i; rw [hv6]; exact nI_le (by omega) (by omega)) ?_
      repeat refine Rn.step rfl ?_
      rw [ib_t (p := ftB (a 32) (a 8) n sm (a 15) (a 16) i 0 = true) rfl]
      exact Rn.ret rfl
    | succ j ih =>
      intro i hi
      have k3 := ih (i + 1) (by omega)
      rw [nI_succ] at k3
      repeat refine Rn.step rfl ?_
      refine Rn.br2 rfl (by show ¬ v 6 ≤ nI i; rw [hv6]; exact nle (by omega) (by omega)) ?_
      repeat refine Rn.step rfl ?_
      refine Rn.br2 rfl (nle (n := 8) (by omega) (by decide)) ?_
      repeat refine Rn.step rfl ?_
      refine Rn.ald i rfl rfl (by omega) (by decide) ?_
      refine Rn.top (hsm i (by omega)).1 ?_
      repeat refine Rn.step rfl ?_
      refine Rn.ald i rfl rfl (by omega) (by decide) ?_
      refine Rn.calli rfl rfl rfl (by decide) (r_lier2 hn hv4 (hsm i (by omega)).2 (a 15 i)) (fun x1 e1 => ?_)
      repeat refine Rn.step rfl ?_
      refine Rn.ald i rfl rfl (by omega) (by decide) ?_
      refine Rn.br rfl (fun h1 => ?_) (fun h1 => ?_)
      · have hd : decide (liF (a 32) (a 8) (sm i) (a 15 i) 0 n = a 16 i) = true := decide_eq_true (e1 ▸ h1)
        rw [show ftB (a 32) (a 8) n sm (a 15) (a 16) i (j + 1) = ftB (a 32) (a 8) n sm (a 15) (a 16) (i + 1) j from by unfold ftB; rw [hd, Bool.true_and]; cases j <;> rfl]
        iterate 2 refine Rn.step rfl ?_
        exact k3
      · have hd : decide (liF (a 32) (a 8) (sm i) (a 15 i) 0 n = a 16 i) = false := decide_eq_false (e1 ▸ h1)
        rw [show ftB (a 32) (a 8) n sm (a 15) (a 16) i (j + 1) = false from by unfold ftB; rw [hd, Bool.false_and], ib_f (by decide)]
        repeat refine Rn.step rfl ?_
        exact Rn.ret rfl
  iterate 2 refine Rn.step rfl ?_
  exact key k 0 (by omega)
end X8
