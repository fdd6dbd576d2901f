/-! THE WORLD of the pure rows, and rows for loops, arrays -/
abbrev cI (n : Nat) (f : Nat → Int32) : va_E := .inl (0, n, .inl f)
abbrev cL (n : Nat) (f : Nat → Int64) : va_E := .inl (1, n, .inr (.inl f))
abbrev cQ (t n : Nat) (f : Nat → Option Nat) : va_E := .inl (t, n, .inr (.inr (.inr (.inr f))))
def txF : Nat → Option Nat := va_up (va_up (va_up (fun _ => none) 0 (some 39)) 1 (some 41)) 2 (some 43)
def shF : Nat → Option Nat := va_up (va_up (va_up (va_up (fun _ => none) 0 (some 45)) 1 (some 47)) 2 (some 49)) 3 (some 51)
def wX (a : Nat → Nat → Int32) (v : Nat → Int32) (t : Nat → Nat → Int64) (r : List va_E) : List va_E :=
  .inr (7, [.ref 1, .ref 2, .ref 3, .ref 9, .ref 13, .ref 17, .int (v 0), .int (v 1), .ref 18, .ref 22, .ref 27, .ref 31, .ref 36, .ref 37, .ref 38, .int (v 2), .int (v 3)]) ::
  cQ 2 3 txF :: cI 3 (a 2) ::
  .inr (5, [.ref 4, .ref 5, .ref 6, .ref 7, .ref 8, .int (v 4)]) :: cI 16 (a 4) :: cI 16 (a 5) :: cI 8 (a 6) :: cI 8 (a 7) :: cI 8 (a 8) ::
  .inr (1, [.ref 10, .ref 11, .ref 12, .int (v 5)]) :: cI 8 (a 10) :: cI 8 (a 11) :: cI 8 (a 12) ::
  .inr (3, [.ref 14, .ref 15, .ref 16, .int (v 6)]) :: cI 8 (a 14) :: cI 8 (a 15) :: cI 8 (a 16) ::
  cQ 3 4 shF ::
  .inr (6, [.ref 19, .ref 20, .ref 21]) :: cI 384 (a 19) :: cI 24 (a 20) :: cI 24 (a 21) ::
  .inr (0, [.ref 23, .ref 24, .ref 25, .ref 26, .int (v 7), .int (v 8)]) :: cI 192 (a 23) :: cI 192 (a 24) :: cI 24 (a 25) :: cI 8 (a 26) ::
  .inr (6, [.ref 28, .ref 29, .ref 30]) :: cI 384 (a 28) :: cI 24 (a 29) :: cI 24 (a 30) ::
  .inr (0, [.ref 32, .ref 33, .ref 34, .ref 35, .int (v 9), .int (v 10)]) :: cI 192 (a 32) :: cI 192 (a 33) :: cI 24 (a 34) :: cI 8 (a 35) ::
  cI 16 (a 36) :: cI 256 (a 37) :: cL 240 (t 0) ::
  .inr (4, [.ref 40, .int (v 11)]) :: cI 16 (a 40) :: .inr (4, [.ref 42, .int (v 12)]) :: cI 16 (a 42) :: .inr (4, [.ref 44, .int (v 13)]) :: cI 31 (a 44) ::
  .inr (2, [.ref 46, .int (v 14), .int (v 18)]) :: cI 60 (a 46) :: .inr (2, [.ref 48, .int (v 15), .int (v 19)]) :: cI 60 (a 48) ::
  .inr (2, [.ref 50, .int (v 16), .int (v 20)]) :: cI 60 (a 50) :: .inr (2, [.ref 52, .int (v 17), .int (v 21)]) :: cI 60 (a 52) :: r
def wM (a : Nat → Nat → Int32) (v : Nat → Int32) (t : Nat → Nat → Int64) : List va_E :=
  [.inr (8, [.ref 54, .ref 55, .ref 56, .ref 57, .int (v 30), .ref 58, .ref 59, .ref 60, .ref 61, .int (v 31), .ref 62, .int (v 32), .ref 63, .int (v 33), .ref 64, .ref 65, .ref 66, .ref 67, .ref 68, .ref 69, .ref 70, .ref 71, .ref 72, .int (v 34), .ref 73, .ref 74, .int (v 35)]),
   cI 4 (a 54), cI 4 (a 55), cI 240 (a 56), cI 60 (a 57), cI 96 (a 58), cI 3 (a 59), cI 16 (a 60), cI 16 (a 61), cI 24 (a 62), cI 24 (a 63), cI 16 (a 64), cI 8 (a 65), cI 8 (a 66), cI 8 (a 67), cI 8 (a 68), cI 8 (a 69), cI 384 (a 70), cI 192 (a 71), cI 192 (a 72), cI 24 (a 73), cL 240 (t 1)]
/-- a yes or no as Java has it -/
def ib (p : Prop) [Decidable p] : Int32 := if p then 1 else 0
theorem ib_t {p : Prop} [Decidable p] (h : p) : ib p = 1 := if_pos h
theorem ib_f {p : Prop} [Decidable p] (h : ¬ p) : ib p = 0 := if_neg h
theorem ib_01 (p : Prop) [Decidable p] : ib p = 0 ∨ ib p = 1 := by unfold ib; split <;> simp
theorem ib_eq0 {p : Prop} [Decidable p] : (ib p = 0) ↔ ¬ p := by
  unfold ib; split <;> rename_i h <;> simp [h]
theorem ib_ne0 {p : Prop} [Decidable p] : (¬ ib p = 0) ↔ p := by rw [ib_eq0]; exact Decidable.not_not
theorem ib_congr {p q : Prop} [Decidable p] [Decidable q] (h : p ↔ q) : ib p = ib q := by
  unfold ib; by_cases hp : p
  · rw [if_pos hp, if_pos (h.mp hp)]
  · rw [if_neg hp, if_neg (fun hq => hp (h.mpr hq))]
/-- a loop that goes up: j rounds from i on -/
def lp {σ : Type} (f : Nat → σ → σ) : Nat → Nat → σ → σ
  | _, 0, s => s
  | i, j + 1, s => lp f (i + 1) j (f i s)
theorem lp_end {σ : Type} (f : Nat → σ → σ) (i j : Nat) (s : σ) : lp f i (j + 1) s = f (i + j) (lp f i j s) := by
  induction j generalizing i s with
  | zero => rfl
  | succ j ih =>
    show lp f (i + 1) (j + 1) (f i s) = _
    rw [ih (i + 1) (f i s)]
    show f (i + 1 + j) (lp f (i + 1) j (f i s)) = f (i + (j + 1)) (lp f (i + 1) j (f i s))
    congr 1
    omega
theorem lp_congr {σ : Type} {f g : Nat → σ → σ} {i j : Nat} {s : σ} (h : ∀ k s, i ≤ k → k < i + j → f k s = g k s) : lp f i j s = lp g i j s := by
  induction j generalizing i s with
  | zero => rfl
  | succ j ih =>
    show lp f (i + 1) j (f i s) = lp g (i + 1) j (g i s)
    rw [h i s (Nat.le_refl _) (by omega)]
    exact ih (fun k s h1 h2 => h k s (by omega) (by omega))
theorem lp_inv {σ : Type} {f : Nat → σ → σ} (I : Nat → σ → Prop) {i j : Nat} {s : σ} (h0 : I i s) (h : ∀ k s, i ≤ k → k < i + j → I k s → I (k + 1) (f k s)) : I (i + j) (lp f i j s) := by
  induction j with
  | zero => exact h0
  | succ j ih =>
    rw [lp_end]
    exact h (i + j) _ (by omega) (by omega) (ih (fun k s h1 h2 => h k s h1 (by omega)))
section IRn2
variable {E : iExtT} {hh : Nat} {M : iMeth} {o : iRes} {pc nx : Nat} {L : List (Nat × Value)} {S S' : List Value} {h h2 : List va_E}
theorem Rn.top {x x' : Int32} (hx : x = x') (k : Rn E hh M (pc, L, .int x' :: S, h) o) : Rn E hh M (pc, L, .int x :: S, h) o := hx ▸ k
theorem Rn.topl {x x' : Int64} (hx : x = x') (k : Rn E hh M (pc, L, .long x' :: S, h) o) : Rn E hh M (pc, L, .long x :: S, h) o := hx ▸ k
theorem Rn.hp (hx : h = h2) (k : Rn E hh M (pc, L, S, h2) o) : Rn E hh M (pc, L, S, h) o := hx ▸ k
theorem Rn.ald {i : Int32} {n : Nat} {f : Nat → Int32} (k : Nat) (hst : iStep E iProg M (pc, L, S, h) = if ¬ (i < 0 ∨ n ≤ i.toNatClampNeg) then iNx nx L (.int (f i.toNatClampNeg) :: S') h2 else none) (hi : i = nI k) (hk : k < n) (hn : n < 2 ^ 31) (kk : Rn E hh M (nx, L, .int (f k) :: S', h2) o) : Rn E hh M (pc, L, S, h) o := by
  subst hi
  refine Rn.chk hst (nI_in hk hn) ?_
  rw [nI_clamp (Nat.lt_trans hk hn)]
  exact kk
theorem Rn.ast {i x : Int32} {n A : Nat} {f : Nat → Int32} {h3 : List va_E} (k : Nat) (hst : iStep E iProg M (pc, L, S, h) = if ¬ (i < 0 ∨ n ≤ i.toNatClampNeg) then iNx nx L S' (h2.set A (.inl (0, n, .inl (upd f i.toNatClampNeg x)))) else none) (hi : i = nI k) (hk : k < n) (hn : n < 2 ^ 31) (he : h2.set A (.inl (0, n, .inl (upd f k x))) = h3) (kk : Rn E hh M (nx, L, S', h3) o) : Rn E hh M (pc, L, S, h) o := by
  subst hi
  subst he
  refine Rn.chk hst (nI_in hk hn) ?_
  rw [nI_clamp (Nat.lt_trans hk hn)]
  exact kk
theorem Rn.lp {σ : Type} {cfg : Nat → σ → iCfg} {f : Nat → σ → σ} {n : Nat} (I : Nat → σ → Prop) (hs : ∀ i s, i < n → I i s → I (i + 1) (f i s) ∧ (Rn E hh M (cfg (i + 1) (f i s)) o → Rn E hh M (cfg i s) o)) : ∀ (j i : Nat) (s : σ), i + j = n → I i s → (∀ s', s' = lp f i j s → I n s' → Rn E hh M (cfg n s') o) → Rn E hh M (cfg i s) o := by
  intro j
  induction j with
  | zero =>
    intro i s hi hI hk
    have : i = n := by omega
    subst this
    exact hk s rfl hI
  | succ j ih =>
    intro i s hi hI hk
    obtain ⟨h1, h2⟩ := hs i s (by omega) hI
    exact h2 (ih (i + 1) (f i s) (by omega) h1 hk)
theorem Rn.ind {cfg : Nat → iCfg} {out : Nat → Nat → iRes} {n : Nat} (h0 : Rn E hh M (cfg n) (out n 0)) (hs : ∀ i j, i + (j + 1) = n → Rn E hh M (cfg (i + 1)) (out (i + 1) j) → Rn E hh M (cfg i) (out i (j + 1))) : ∀ j i, i + j = n → Rn E hh M (cfg i) (out i j) := by
  intro j
  induction j with
  | zero => intro i hi; rw [show i = n by omega]; exact h0
  | succ j ih => intro i hi; exact hs i j hi (ih (i + 1) (by omega))
theorem Rn.calli {c : iCfg} {hc n : Nat} {as : List Value} {C : iMeth} {L' : List (Nat × Value)} {h1 h' : List va_E} {y : Int32} (hs : iStep E iProg M c = some (.inr (.inl (n, as, (nx, L', S', h1))))) (hP : iProg n = some C) (hg : Nat.ble (iCat as) C.2.2.1 = true) (hlt : hc + 1 ≤ hh) (k1 : Rn E hc C (0, lv_args 0 as, [], h1) (some (.int y), h')) (k2 : ∀ x : Int32, x = y → Rn E hh M (nx, L', .int x :: S', h') o) : Rn E hh M c o := Rn.call hs hP hg hlt k1 (k2 y rfl)
theorem Rn.calll {c : iCfg} {hc n : Nat} {as : List Value} {C : iMeth} {L' : List (Nat × Value)} {h1 h' : List va_E} {y : Int64} (hs : iStep E iProg M c = some (.inr (.inl (n, as, (nx, L', S', h1))))) (hP : iProg n = some C) (hg : Nat.ble (iCat as) C.2.2.1 = true) (hlt : hc + 1 ≤ hh) (k1 : Rn E hc C (0, lv_args 0 as, [], h1) (some (.long y), h')) (k2 : ∀ x : Int64, x = y → Rn E hh M (nx, L', .long x :: S', h') o) : Rn E hh M c o := Rn.call hs hP hg hlt k1 (k2 y rfl)
theorem Rn.callv {c : iCfg} {hc n : Nat} {as : List Value} {C : iMeth} {L' : List (Nat × Value)} {h1 h' : List va_E} (hs : iStep E iProg M c = some (.inr (.inl (n, as, (nx, L', S', h1))))) (hP : iProg n = some C) (hg : Nat.ble (iCat as) C.2.2.1 = true) (hlt : hc + 1 ≤ hh) (k1 : Rn E hc C (0, lv_args 0 as, [], h1) (none, h')) (k2 : Rn E hh M (nx, L', S', h') o) : Rn E hh M c o := Rn.call hs hP hg hlt k1 k2
theorem Rn.gen {x : Int32} (k : ∀ y : Int32, y = x → Rn E hh M (pc, L, .int y :: S, h) o) : Rn E hh M (pc, L, .int x :: S, h) o := k x rfl
theorem Rn.mono {hh' : Nat} {c : iCfg} (k : Rn E hh M c o) (hl : hh ≤ hh') : Rn E hh' M c o := by
  obtain ⟨f, k⟩ := k
  exact ⟨f, fun d hd => k d (Nat.le_trans hl hd)⟩
end IRn2
theorem ix_ma (m c s : Nat) : nI m * nI c + nI s = nI (m * c + s) := by rw [pk_mul, nI_add]
theorem ix_am (c m s : Nat) : nI c * nI m + nI s = nI (c * m + s) := by rw [pk_mul, nI_add]
theorem nle {n i : Nat} (h : i < n) (hn : n < 2 ^ 31) : ¬ nI n ≤ nI i := nI_ge h hn
section R1
variable {E : iExtT} {a : Nat → Nat → Int32} {v : Nat → Int32} {t : Nat → Nat → Int64} {r : List va_E}
theorem r_within (n b : Int32) (h : List va_E) : Rn E 0 mX7_within (0, [(0, .int n), (1, .int b)], [], h) (some (.int (ib (0 ≤ n ∧ n < b))), h) := by
  refine Rn.step rfl ?_
  refine Rn.br rfl (fun h1 => ?_) (fun h1 => ?_)
  · refine Rn.step rfl ?_
    rw [ib_f (fun q => absurd q.1 (Int32.not_le.mpr h1))]
    exact Rn.ret rfl
  · refine Rn.step rfl ?_
    refine Rn.step rfl ?_
    refine Rn.br rfl (fun h2 => ?_) (fun h2 => ?_)
    · refine Rn.step rfl ?_
      rw [ib_f (fun q => absurd q.2 (Int32.not_lt.mpr h2))]
      exact Rn.ret rfl
    · refine Rn.step rfl ?_
      refine Rn.step rfl ?_
      rw [ib_t ⟨Int32.not_lt.mp h1, Int32.not_le.mp h2⟩]
      exact Rn.ret rfl
/-- how much water is in all spans behind a minute -/
def tog (le : Nat → Int32) (m : Nat) : Int32 := lp (fun s x => x + le (m * 16 + s)) 0 16 0
theorem r_together (m : Nat) (hm : m < 24) : Rn E 0 mX6_together (0, [(0, .ref 18), (1, .int (nI m))], [], wX a v t r) (some (.int (tog (a 19) m)), wX a v t r) := by
  iterate 4 refine Rn.step rfl ?_
  refine Rn.lp (σ := Int32) (cfg := fun i s => (4, [(3, .int (nI i)), (2, .int s), (0, .ref 18), (1, .int (nI m))], [], wX a v t r)) (f := fun s x => x + a 19 (m * 16 + s)) (n := 16) (fun _ _ => True) (fun i s hi _ => ⟨trivial, fun k => ?_⟩) 16 0 0 rfl trivial (fun s' hs' _ => ?_)
  · iterate 2 refine Rn.step rfl ?_
    refine Rn.br2 rfl (nle hi (by decide)) ?_
    iterate 8 refine Rn.step rfl ?_
    refine Rn.ald (m * 16 + i) rfl (ix_ma m 16 i) (by omega) (by decide) ?_
    iterate 4 refine Rn.step rfl ?_
    rw [nI_succ] at k
    exact k
  · iterate 2 refine Rn.step rfl ?_
    refine Rn.step rfl ?_
    refine Rn.step rfl ?_
    subst hs'
    exact Rn.ret rfl
end R1
