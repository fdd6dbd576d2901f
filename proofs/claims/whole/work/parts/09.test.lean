def iEt : iExtT := fun _ => none
def Rn (E : iExtT) (hh : Nat) (M : iMeth) (c : iCfg) (o : iRes) : Prop := ∃ f, ∀ d, hh ≤ d → iRun E iProg f d M c = some o
theorem Rn.step {E : iExtT} {hh : Nat} {M : iMeth} {c c' : iCfg} {o : iRes} (h : iStep E iProg M c = some (.inl c')) (k : Rn E hh M c' o) : Rn E hh M c o := by
  obtain ⟨f, k⟩ := k
  exact ⟨f + 1, fun d hd => by simp only [iRun, h]; exact k d hd⟩
theorem Rn.ret {E : iExtT} {hh : Nat} {M : iMeth} {c : iCfg} {r : Option Value} {h' : List va_E} (h : iStep E iProg M c = some (.inr (.inr r))) (hc : c.2.2.2 = h') : Rn E hh M c (r, h') := by
  exact ⟨1, fun d _ => by simp only [iRun, h, hc]⟩
theorem Rn.br {E : iExtT} {hh : Nat} {M : iMeth} {c c1 c2 : iCfg} {o : iRes} {p : Prop} [Decidable p] (h : iStep E iProg M c = if p then some (.inl c1) else some (.inl c2)) (k1 : p → Rn E hh M c1 o) (k2 : ¬ p → Rn E hh M c2 o) : Rn E hh M c o := by
  by_cases hp : p
  · exact Rn.step (by rw [h, if_pos hp]) (k1 hp)
  · exact Rn.step (by rw [h, if_neg hp]) (k2 hp)
theorem Rn.chk {E : iExtT} {hh : Nat} {M : iMeth} {c c1 : iCfg} {o : iRes} {p : Prop} [Decidable p] (h : iStep E iProg M c = if p then some (.inl c1) else none) (hp : p) (k1 : Rn E hh M c1 o) : Rn E hh M c o :=
  Rn.step (by rw [h, if_pos hp]) k1
/-- a test: together -/
theorem t_together (E : iExtT) (lv : Nat → Int32) (rest : List va_E) (a b c d e f g : va_E) (m : Int32) : ∀ (j i : Nat) (sum : Int32), i + j = 16 → (∀ s : Int32, ¬ (m * 16 + s < 0 ∨ 384 ≤ (m * 16 + s).toNatClampNeg)) → ∃ r, Rn E 0 mX6_together (4, [(3, .int (nI i)), (2, .int sum), (0, .ref 5), (1, .int m)], [], a :: b :: c :: d :: e :: .inr (6, [.ref 6, .ref 7, .ref 8]) :: .inl (0, 384, .inl lv) :: f :: g :: rest) (some (.int r), a :: b :: c :: d :: e :: .inr (6, [.ref 6, .ref 7, .ref 8]) :: .inl (0, 384, .inl lv) :: f :: g :: rest) := by
  intro j
  induction j with
  | zero =>
    intro i sum hi hm
    refine ⟨sum, ?_⟩
    refine Rn.step rfl ?_
    refine Rn.step rfl ?_
    refine Rn.br rfl (fun h => ?_) (fun h => ?_)
    · refine Rn.step rfl ?_
      exact Rn.ret rfl rfl
    · exact absurd (by have : i = 16 := by omega
                       subst this; decide) h
  | succ j ih =>
    intro i sum hi hm
    obtain ⟨r, k⟩ := ih (i + 1) (sum + lv (m * 16 + nI i).toNatClampNeg) (by omega) hm
    refine ⟨r, ?_⟩
    refine Rn.step rfl ?_
    refine Rn.step rfl ?_
    refine Rn.br rfl (fun h => ?_) (fun h => ?_)
    · exact absurd (by have : i < 16 := by omega
                       exact nI_lt this (by decide)) (by have h' : (16 : Int32) ≤ nI i := h
                                                         intro q
                                                         exact absurd h' (by rw [Int32.not_le]; exact q))
    · refine Rn.step rfl ?_
      refine Rn.step rfl ?_
      refine Rn.step rfl ?_
      refine Rn.step rfl ?_
      refine Rn.step rfl ?_
      refine Rn.step rfl ?_
      refine Rn.step rfl ?_
      refine Rn.step rfl ?_
      refine Rn.chk rfl (hm _) ?_
      refine Rn.step rfl ?_
      refine Rn.step rfl ?_
      refine Rn.step rfl ?_
      refine Rn.step rfl ?_
      rw [nI_succ] at k
      exact k
