/-! RUNS of the interpreter, with fuel and depth out of sight -/
section IFuel
variable {E : iExtT} {P : Nat → Option iMeth}
theorem iRun_fuel : ∀ (f f' d : Nat) (M : iMeth) (c : iCfg) (o : iRes), iRun E P f d M c = some o → f ≤ f' → iRun E P f' d M c = some o := by
  intro f
  induction f with
  | zero => intro f' d M c o h; cases h
  | succ f ih =>
    intro f' d M c o h hle
    obtain ⟨g, rfl⟩ : ∃ g, f' = g + 1 := ⟨f' - 1, by omega⟩
    have hle : f ≤ g := by omega
    simp only [iRun] at h ⊢
    split at h
    · cases h
    · rename_i c' hs
      exact ih _ _ _ _ _ h hle
    · exact h
    · rename_i n as c' hs
      split at h
      · cases h
      · rename_i d'
        split at h
        · cases h
        · rename_i C hPC
          cases hg : Nat.ble (iCat as) C.2.2.1 with
          | false => rw [hg] at h; cases h
          | true =>
            rw [hg] at h
            simp only [cond_true] at h ⊢
            split at h
            · cases h
            · rename_i r h' hr
              rw [ih _ _ _ _ _ hr hle]
              exact ih _ _ _ _ _ h hle
def iSetL (L : List (Nat × Value)) : iOut → iOut
  | .inl (pc, _, S, h) => .inl (pc, L, S, h)
  | .inr (.inl (n, as, (pc, _, S, h))) => .inr (.inl (n, as, (pc, L, S, h)))
  | .inr (.inr r) => .inr (.inr r)
def iLoc : Instr → Bool
  | .iload _ => true | .iload_n _ => true | .lload _ => true | .lload_n _ => true | .aload _ => true | .aload_n _ => true
  | .istore _ => true | .istore_n _ => true | .lstore _ => true | .lstore_n _ => true | .astore _ => true | .astore_n _ => true
  | .iinc _ _ => true
  | _ => false
theorem iEx_L {np nk : Nat → Nat} {ret : Option FieldType} {pc : Nat} {ins : Instr} {nx res : Nat} {val : Value} {pos : Nat} {S : List Value} {h : List va_E} (L : List (Nat × Value)) (hl : iLoc ins = false) : iEx E np nk ret pc (ins, nx, res, val, pos) L S h = (iEx E np nk ret pc (ins, nx, res, val, pos) [] S h).map (iSetL L) := by
  cases ins <;> first | (cases hl; done) | skip
  all_goals simp only [iEx, iBin, iBil, iUn, iGetf, iPutf, iAld, iAll, iAla, iAlen, iAst, iAsl, iAsa, iNewa, iNewq, iCopy, iMax, iMin, iOI, iSw, iCmp, iCallS, iCallI, iCallV, cond_eq_ite]
  all_goals (repeat' split)
  all_goals rfl
def iSub (L' L : List (Nat × Value)) : Prop := ∀ q ∈ L', iLget L q.1 = some q.2
def iSb : List (Nat × Value) → List (Nat × Value) → Prop
  | [], _ => True
  | (i, v) :: t, L => iLget L i = some v ∧ iSb t L
theorem iSb_sub {L L' : List (Nat × Value)} (h : iSb L' L) : iSub L' L := by
  induction L' with
  | nil => intro q hq; cases hq
  | cons q t ih =>
    obtain ⟨i, v⟩ := q
    intro r hr
    rcases List.mem_cons.mp hr with rfl | hr
    · exact h.1
    · exact ih h.2 r hr
theorem iLget_in {L : List (Nat × Value)} {i : Nat} {v : Value} (h : iLget L i = some v) : (i, v) ∈ L := by
  obtain ⟨k, hk⟩ := iLget_mem h
  exact List.mem_of_getElem? hk
theorem iSub_get {L' L : List (Nat × Value)} (hs : iSub L' L) {i : Nat} {v : Value} (h : iLget L' i = some v) : iLget L i = some v := hs _ (iLget_in h)
theorem iLget_filter {p : Nat × Value → Bool} {L : List (Nat × Value)} {i : Nat} {v : Value} (h : iLget L i = some v) (hp : p (i, v) = true) : iLget (L.filter p) i = some v := by
  induction L with
  | nil => cases h
  | cons q L ih =>
    obtain ⟨j, w⟩ := q
    simp only [iLget] at h
    by_cases hj : j = i
    · subst hj
      rw [if_pos rfl] at h
      cases h
      rw [List.filter_cons_of_pos hp]
      simp [iLget]
    · rw [if_neg hj] at h
      by_cases hq : p (j, w) = true
      · rw [List.filter_cons_of_pos hq]
        simp only [iLget, if_neg hj]
        exact ih h
      · rw [List.filter_cons_of_neg hq]
        exact ih h
theorem iSub_st {L' L : List (Nat × Value)} (hs : iSub L' L) (i : Nat) (x : Value) {p : Nat × Value → Bool} (hp : ∀ q, p q = true → q.1 ≠ i) : iSub ((i, x) :: L'.filter p) ((i, x) :: L.filter p) := by
  intro q hq
  rcases List.mem_cons.mp hq with rfl | hq
  · simp [iLget]
  · obtain ⟨h1, h2⟩ := List.mem_filter.mp hq
    have hne := hp q h2
    simp only [iLget, if_neg (Ne.symm hne)]
    exact iLget_filter (hs q h1) h2
theorem iP1_ne {i : Nat} (q : Nat × Value) (h : iP1 i q = true) : q.1 ≠ i := by
  intro he
  simp [iP1, he] at h
theorem iP2_ne {i : Nat} (q : Nat × Value) (h : iP2 i q = true) : q.1 ≠ i := by
  intro he
  simp [iP2, he] at h
theorem iEx_sub {np nk : Nat → Nat} {ret : Option FieldType} {pc : Nat} {en : iEnt} {L' L : List (Nat × Value)} {S : List Value} {h : List va_E} (hs : iSub L' L) {o' : iOut} (hx : iEx E np nk ret pc en L' S h = some o') : ∃ L1' L1 : List (Nat × Value), o' = iSetL L1' o' ∧ iSub L1' L1 ∧ iEx E np nk ret pc en L S h = some (iSetL L1 o') := by
  obtain ⟨ins, nx, res, val, pos⟩ := en
  cases hl : iLoc ins with
  | false =>
    rw [iEx_L L' hl] at hx
    rw [iEx_L L hl]
    cases h0 : iEx E np nk ret pc (ins, nx, res, val, pos) [] S h with
    | none => rw [h0] at hx; cases hx
    | some o0 =>
      rw [h0] at hx
      cases hx
      refine ⟨L', L, ?_, hs, ?_⟩
      · rcases o0 with ⟨a, b, c, d⟩ | ⟨a, b, c, d, e, f⟩ | r <;> rfl
      · rcases o0 with ⟨a, b, c, d⟩ | ⟨a, b, c, d, e, f⟩ | r <;> rfl
  | true =>
    cases ins <;> first | (cases hl; done) | skip
    all_goals simp only [iEx, iLdI, iLdL, iLdA, iStI, iStL, iStA, iLfl_eq] at hx ⊢
    all_goals (split at hx <;> first | (cases hx; done) | skip)
    all_goals first
      | (rename_i hg; cases hx; exact ⟨L', L, rfl, hs, by rw [iSub_get hs hg]; rfl⟩)
      | (cases hx; exact ⟨_, _, rfl, iSub_st hs _ _ iP1_ne, rfl⟩)
      | (cases hx; exact ⟨_, _, rfl, iSub_st hs _ _ iP2_ne, rfl⟩)
      | (rename_i hg; cases hx; exact ⟨_, _, rfl, iSub_st hs _ _ iP1_ne, by rw [iSub_get hs hg]; rfl⟩)
theorem iRun_sub : ∀ (f d : Nat) (M : iMeth) (pc : Nat) (L' L : List (Nat × Value)) (S : List Value) (h : List va_E) (o : iRes), iSub L' L → iRun E P f d M (pc, L', S, h) = some o → iRun E P f d M (pc, L, S, h) = some o := by
  intro f
  induction f with
  | zero => intro d M pc L' L S h o _ hr; cases hr
  | succ f ih =>
    intro d M pc L' L S h o hs hr
    simp only [iRun, iStep] at hr ⊢
    cases hf : iFetch M.2.2.2.2.2.2.2 pc with
    | none => rw [hf] at hr; cases hr
    | some en =>
      rw [hf] at hr
      dsimp only at hr ⊢
      cases hx : iEx E (iNp P) (iNk P) M.2.2.2.1 pc en L' S h with
      | none => rw [hx] at hr; cases hr
      | some o' =>
        obtain ⟨L1', L1, e1, hs1, e2⟩ := iEx_sub hs hx
        rw [hx] at hr
        rw [e2]
        rcases o' with ⟨a, b, c, d'⟩ | ⟨n, as, a, b, c, d'⟩ | r
        · cases e1
          exact ih _ _ _ _ _ _ _ _ hs1 hr
        · cases e1
          dsimp only [iSetL] at hr ⊢
          split at hr
          · cases hr
          · rename_i dd
            split at hr
            · cases hr
            · rename_i C hPC
              cases hg : Nat.ble (iCat as) C.2.2.1 with
              | false => rw [hg] at hr; cases hr
              | true =>
                rw [hg] at hr
                simp only [cond_true] at hr ⊢
                split at hr
                · cases hr
                · rename_i r h' hrC
                  exact ih _ _ _ _ _ _ _ _ hs1 hr
        · exact hr
end IFuel
def Rn (E : iExtT) (hh : Nat) (M : iMeth) (c : iCfg) (o : iRes) : Prop := ∃ f, ∀ d, hh ≤ d → iRun E iProg f d M c = some o
section IRn
variable {E : iExtT} {hh : Nat} {M : iMeth} {c c' c1 c2 : iCfg} {o : iRes} {r : Option Value} {p : Prop}
theorem Rn.step (h : iStep E iProg M c = some (.inl c')) (k : Rn E hh M c' o) : Rn E hh M c o := by
  obtain ⟨f, k⟩ := k
  exact ⟨f + 1, fun d hd => by simp only [iRun, h]; exact k d hd⟩
theorem Rn.ret (h : iStep E iProg M c = some (.inr (.inr r))) : Rn E hh M c (r, c.2.2.2) := ⟨1, fun d _ => by simp only [iRun, h]⟩
theorem Rn.retb [Decidable p] (h : iStep E iProg M c = if p then some (.inr (.inr r)) else none) (hp : p) : Rn E hh M c (r, c.2.2.2) := Rn.ret (by rw [h, if_pos hp])
theorem Rn.br [Decidable p] (h : iStep E iProg M c = if p then some (.inl c1) else some (.inl c2)) (k1 : p → Rn E hh M c1 o) (k2 : ¬ p → Rn E hh M c2 o) : Rn E hh M c o := by
  by_cases hp : p
  · exact Rn.step (by rw [h, if_pos hp]) (k1 hp)
  · exact Rn.step (by rw [h, if_neg hp]) (k2 hp)
theorem Rn.br1 [Decidable p] (h : iStep E iProg M c = if p then some (.inl c1) else some (.inl c2)) (hp : p) (k1 : Rn E hh M c1 o) : Rn E hh M c o := Rn.step (by rw [h, if_pos hp]) k1
theorem Rn.br2 [Decidable p] (h : iStep E iProg M c = if p then some (.inl c1) else some (.inl c2)) (hp : ¬ p) (k1 : Rn E hh M c2 o) : Rn E hh M c o := Rn.step (by rw [h, if_neg hp]) k1
theorem Rn.chk [Decidable p] (h : iStep E iProg M c = if p then some (.inl c1) else none) (hp : p) (k1 : Rn E hh M c1 o) : Rn E hh M c o := Rn.step (by rw [h, if_pos hp]) k1
theorem Rn.call {hc n : Nat} {as : List Value} {C : iMeth} {h' : List va_E} (h : iStep E iProg M c = some (.inr (.inl (n, as, c')))) (hP : iProg n = some C) (hg : Nat.ble (iCat as) C.2.2.1 = true) (hlt : hc + 1 ≤ hh) (k1 : Rn E hc C (0, lv_args 0 as, [], c'.2.2.2) (r, h')) (k2 : Rn E hh M (c'.1, c'.2.1, r.toList ++ c'.2.2.1, h') o) : Rn E hh M c o := by
  obtain ⟨f1, k1⟩ := k1
  obtain ⟨f2, k2⟩ := k2
  refine ⟨max f1 f2 + 1, fun d hd => ?_⟩
  obtain ⟨d', rfl⟩ : ∃ d', d = d' + 1 := ⟨d - 1, by omega⟩
  simp only [iRun, h, hP, hg, cond_true, iRun_fuel _ _ _ _ _ _ (k1 d' (by omega)) (Nat.le_max_left f1 f2)]
  exact iRun_fuel _ _ _ _ _ _ (k2 (d' + 1) hd) (Nat.le_max_right f1 f2)
theorem Rn.sub {pc : Nat} {L' L : List (Nat × Value)} {S : List Value} {h : List va_E} (hs : iSb L' L) (k : Rn E hh M (pc, L', S, h) o) : Rn E hh M (pc, L, S, h) o := by
  obtain ⟨f, k⟩ := k
  exact ⟨f, fun d hd => iRun_sub _ _ _ _ _ _ _ _ _ (iSb_sub hs) (k d hd)⟩
theorem Rn.eq {c : iCfg} (h : c = c') (k : Rn E hh M c' o) : Rn E hh M c o := h ▸ k
theorem Rn.out {o' : iRes} (h : o = o') (k : Rn E hh M c o) : Rn E hh M c o' := h ▸ k
end IRn
