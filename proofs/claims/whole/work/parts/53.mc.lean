section MCX
variable {E : iExtT} {ax : Nat → Nat → Int32} {vx : Nat → Int32} {tx : Nat → Nat → Int64} {c a : Nat → Nat → Int32} {v : Nat → Int32} {t : Nat → Nat → Int64} {n k q : Nat} {mn sm tt : Nat → Nat}
theorem va_two {α : Type} (f : Nat → α) (j : Nat) (x y : α) : va_up (va_up f j x) j y = va_up f j y := by
  funext i
  show (if i = j then y else if i = j then x else f i) = if i = j then y else f i
  split <;> rfl
theorem va_id {α : Type} (f : Nat → α) (j : Nat) : va_up f j (f j) = f := by
  funext i
  show (if i = j then f j else f i) = f i
  split
  · rename_i h; rw [h]
  · rfl
/-- another minute, draught for a log; another slope, feeder for a span -/
theorem MC.st (h : MC c a v n k q mn sm tt) {l : Nat} (hl : l < n) (x : Int32) : MC (va_up c 6 (upd (c 6) l x)) (va_up a 62 (upd (a 62) (3 * l) x)) v n k q mn sm tt := by
  obtain ⟨h1, h2, h3, h4, h5, h60, h61, h62, htt, hfe⟩ := h
  refine ⟨h1, h2, h3, h4, h5, h60, h61, fun l' hl' => ?_, htt, hfe⟩
  obtain ⟨e1, e2, e3, e4⟩ := h62 l' hl'
  show upd (a 62) (3 * l) x (3 * l') = upd (c 6) l x l' ∧ upd (a 62) (3 * l) x (3 * l' + 1) = c 7 l' ∧ upd (a 62) (3 * l) x (3 * l' + 2) = nI (tt l') ∧ c 8 l' = nI (tt l')
  refine ⟨?_, by rw [pk_un (by omega)]; exact e2, by rw [pk_un (by omega)]; exact e3, e4⟩
  by_cases hx : l' = l
  · subst hx; rw [pk_us, pk_us]
  · rw [pk_un (by omega), pk_un hx]; exact e1
theorem MC.de (h : MC c a v n k q mn sm tt) {l : Nat} (hl : l < n) (x : Int32) : MC (va_up c 7 (upd (c 7) l x)) (va_up a 62 (upd (a 62) (3 * l + 1) x)) v n k q mn sm tt := by
  obtain ⟨h1, h2, h3, h4, h5, h60, h61, h62, htt, hfe⟩ := h
  refine ⟨h1, h2, h3, h4, h5, h60, h61, fun l' hl' => ?_, htt, hfe⟩
  obtain ⟨e1, e2, e3, e4⟩ := h62 l' hl'
  show upd (a 62) (3 * l + 1) x (3 * l') = c 6 l' ∧ upd (a 62) (3 * l + 1) x (3 * l' + 1) = upd (c 7) l x l' ∧ upd (a 62) (3 * l + 1) x (3 * l' + 2) = nI (tt l') ∧ c 8 l' = nI (tt l')
  refine ⟨by rw [pk_un (by omega)]; exact e1, ?_, by rw [pk_un (by omega)]; exact e3, e4⟩
  by_cases hx : l' = l
  · subst hx; rw [pk_us, pk_us]
  · rw [pk_un (by omega), pk_un hx]; exact e2
theorem MC.sl (h : MC c a v n k q mn sm tt) (s : Nat) (x : Int32) : MC (va_up c 4 (upd (c 4) s x)) (va_up a 60 (upd (a 60) s x)) v n k q mn sm tt := by
  obtain ⟨h1, h2, h3, h4, h5, h60, h61, h62, htt, hfe⟩ := h
  refine ⟨h1, h2, h3, h4, h5, fun s' hs' => ?_, h61, h62, htt, hfe⟩
  show upd (a 60) s x s' = upd (c 4) s x s'
  by_cases hx : s' = s
  · subst hx; rw [pk_us, pk_us]
  · rw [pk_un hx, pk_un hx]; exact h60 s' hs'
theorem MC.fe (h : MC c a v n k q mn sm tt) (s : Nat) {f : Nat} (hf : f < 10) {x : Int32} (hx : x = nI f) : MC (va_up c 5 (upd (c 5) s x)) (va_up a 61 (upd (a 61) s x)) v n k q mn sm tt := by
  obtain ⟨h1, h2, h3, h4, h5, h60, h61, h62, htt, hfe⟩ := h
  refine ⟨h1, h2, h3, h4, h5, h60, fun s' hs' => ?_, h62, htt, fun s' hs' => ?_⟩
  · show upd (a 61) s x s' = upd (c 5) s x s'
    by_cases hx : s' = s
    · subst hx; rw [pk_us, pk_us]
    · rw [pk_un hx, pk_un hx]; exact h61 s' hs'
  · show ∃ f, f < 10 ∧ upd (c 5) s x s' = nI f
    by_cases hx2 : s' = s
    · subst hx2; exact ⟨f, hf, by rw [pk_us]; exact hx⟩
    · rw [pk_un hx2]; exact hfe s' hs'
abbrev rowsM : List Nat := [60, 61, 62, 64, 65, 66, 67, 68, 69, 70, 71, 72]
theorem ev_all : ∀ k, k < 9 → ∀ e, e < k → (bt (evB k) e ↔ ¬ bt 0 e) := by decide +kernel
theorem lesser_eq (x y : Int32) : (if x < y then x else y) = if y < x then y else x := by
  by_cases h1 : x < y
  · rw [if_pos h1, if_neg (Int32.not_lt.mpr (Int32.le_of_lt h1))]
  · rw [if_neg h1]
    by_cases h2 : y < x
    · rw [if_pos h2]
    · rw [if_neg h2]
      exact Int32.le_antisymm (Int32.not_lt.mp h1) (Int32.not_lt.mp h2)
theorem up_out {f : Nat → Nat → Int32} {g : Nat → Int32} {i j : Nat} (h : j ≠ i) : va_up f i g j = f j := if_neg h
theorem m_sendOf (hC : MC c a v n k q mn sm tt) (h33 : v 33 = 0) {l : Nat} (hl : l < n) (w : Int32) : ∃ a', Rn E 7 mX8_sendOf (0, [(0, .ref 53), (1, .int (nI l)), (2, .int w)], [], wY ax vx tx a v t) (some (.int (if w = 0 then (sdF (c 10) (c 12) mn k n (c 4) (c 7) (c 8) (c 6) (cW c mn k) l).1 else (sdF (c 10) (c 12) mn k n (c 4) (c 7) (c 8) (c 6) (cW c mn k) l).2)), wY ax vx tx a' v t) ∧ (∀ j, j ∉ rowsM → a' j = a j) ∧ MC c a' v n k q mn sm tt := by
  obtain ⟨⟨hn, hv⟩, ⟨hk, -⟩, -, -, -, -, -, h62, -, -⟩ := id hC
  have hstep : ∀ (m : Nat) (s : (Nat → Nat → Int32) × (Int32 × Int32)), m < 24 → (((∃ y, MC (va_up c 6 (upd (c 6) l y)) s.1 v n k q mn sm tt) ∧ ∀ j, j ∉ rowsM → s.1 j = a j) ∧ s.2 = lp (fun m x => bs x (nI m) (bcF (obF (crn (c 10) (c 12) mn k n (c 4) (c 7) (c 8) (upd (c 6) l (nI m)) (cW c mn k) (evB k)).1 n))) 0 m (-1, -1)) → ∃ s' : (Nat → Nat → Int32) × (Int32 × Int32), (((∃ y, MC (va_up c 6 (upd (c 6) l y)) s'.1 v n k q mn sm tt) ∧ ∀ j, j ∉ rowsM → s'.1 j = a j) ∧ s'.2 = lp (fun m x => bs x (nI m) (bcF (obF (crn (c 10) (c 12) mn k n (c 4) (c 7) (c 8) (upd (c 6) l (nI m)) (cW c mn k) (evB k)).1 n))) 0 (m + 1) (-1, -1)) ∧ ∀ o, Rn E 7 mX8_sendOf (18, [(6, .int (nI (m + 1))), (5, .int s'.2.2), (4, .int s'.2.1), (3, .int (c 6 l)), (0, .ref 53), (1, .int (nI l)), (2, .int w)], [], wY ax vx tx s'.1 v t) o → Rn E 7 mX8_sendOf (18, [(6, .int (nI m)), (5, .int s.2.2), (4, .int s.2.1), (3, .int (c 6 l)), (0, .ref 53), (1, .int (nI l)), (2, .int w)], [], wY ax vx tx s.1 v t) o := by
    rintro m ⟨a1, x⟩ hm ⟨⟨⟨y, hI⟩, hf⟩, hx⟩
    dsimp only at hI hf hx
    have hI2 := hI.st hl (nI m)
    have e6 : (va_up c 6 (upd (c 6) l y)) 6 = upd (c 6) l y := rfl
    rw [e6, va_two, upd_upd] at hI2
    obtain ⟨a2, hr, hf2, hC2, hL2⟩ := m_livesM (E := E) (ax := ax) (vx := vx) (tx := tx) (t := t) hI2 (kp := evB k) (fun e he => by rw [h33]; exact ev_all k (by omega) e he)
    have hmo := m_manyOut (E := E) (ax := ax) (vx := vx) (tx := tx) (t := t) hC2 hL2
    obtain ⟨o1, ho1⟩ : ∃ o1, o1 = bcF (obF (crn (c 10) (c 12) mn k n (c 4) (c 7) (c 8) (upd (c 6) l (nI m)) (cW c mn k) (evB k)).1 n) := ⟨_, rfl⟩
    have hmo : Rn E 0 mX8_manyOut (0, [(0, .ref 53)], [], wY ax vx tx a2 v t) (some (.int o1), wY ax vx tx a2 v t) := by rw [ho1]; exact hmo
    refine ⟨(a2, bs x (nI m) o1), ⟨⟨⟨nI m, hC2⟩, fun j hj => ?_⟩, by rw [lp_end, ← hx, Nat.zero_add, ho1]⟩, fun o kk => ?_⟩
    · dsimp only
      rw [hf2 j (by intro q; apply hj; simp only [List.mem_cons, List.not_mem_nil, or_false] at q ⊢; omega), up_out (by intro q; apply hj; simp only [List.mem_cons, List.not_mem_nil, or_false]; omega)]
      exact hf j hj
    · dsimp only at kk ⊢
      rw [nI_succ] at kk
      iterate 2 refine Rn.step rfl ?_
      refine Rn.br2 rfl (nle hm (by decide)) ?_
      iterate 6 refine Rn.step rfl ?_
      refine Rn.ast (3 * l) rfl (pk_mul 3 l) (by omega) (by decide) (h3 := wY ax vx tx (va_up a1 62 (upd (a1 62) (3 * l) (nI m))) v t) rfl ?_
      iterate 1 refine Rn.step rfl ?_
      refine Rn.callv rfl rfl rfl (by decide) hr ?_
      iterate 1 refine Rn.step rfl ?_
      refine Rn.calli rfl rfl rfl (by decide) hmo (fun z f => ?_)
      rw [f]
      iterate 3 refine Rn.step rfl ?_
      refine Rn.br rfl (fun h1 => ?_) (fun h1 => ?_)
      · rw [show bs x (nI m) o1 = x from if_neg (fun p => p h1)] at kk
        iterate 4 refine Rn.step rfl ?_
        refine Rn.calli rfl rfl rfl (by decide) (m_greater o1 x.2 _) (fun z f => ?_)
        rw [if_neg (Int32.not_lt.mpr h1)] at f
        rw [f]
        iterate 3 refine Rn.step rfl ?_
        exact Rn.sub (by exact ⟨rfl, rfl, rfl, rfl, rfl, rfl, rfl, trivial⟩) kk
      · rw [show bs x (nI m) o1 = (nI m, o1) from if_pos h1] at kk
        iterate 5 refine Rn.step rfl ?_
        refine Rn.calli rfl rfl rfl (by decide) (m_greater o1 x.2 _) (fun z f => ?_)
        rw [if_pos (Int32.not_le.mp h1)] at f
        rw [f]
        iterate 3 refine Rn.step rfl ?_
        exact Rn.sub (by exact ⟨rfl, rfl, rfl, rfl, rfl, rfl, rfl, trivial⟩) kk
  obtain ⟨⟨a1, x⟩, ⟨⟨⟨y, hI⟩, hf⟩, hx⟩, hgo⟩ := Rn.lpx (E := E) (hh := 7) (M := mX8_sendOf) (σ := (Nat → Nat → Int32) × (Int32 × Int32)) (cfg := fun m s => (18, [(6, .int (nI m)), (5, .int s.2.2), (4, .int s.2.1), (3, .int (c 6 l)), (0, .ref 53), (1, .int (nI l)), (2, .int w)], [], wY ax vx tx s.1 v t)) (n := 24) (fun m s => ((∃ y, MC (va_up c 6 (upd (c 6) l y)) s.1 v n k q mn sm tt) ∧ ∀ j, j ∉ rowsM → s.1 j = a j) ∧ s.2 = lp (fun m x => bs x (nI m) (bcF (obF (crn (c 10) (c 12) mn k n (c 4) (c 7) (c 8) (upd (c 6) l (nI m)) (cW c mn k) (evB k)).1 n))) 0 m (-1, -1)) hstep 24 0 (a, (-1, -1)) rfl ⟨⟨⟨c 6 l, by rw [upd_self, va_id]; exact hC⟩, fun _ _ => rfl⟩, rfl⟩
  dsimp only at hI hf hx hgo
  have hx : x = sdF (c 10) (c 12) mn k n (c 4) (c 7) (c 8) (c 6) (cW c mn k) l := hx
  have hI2 := hI.st hl (c 6 l)
  have e6 : (va_up c 6 (upd (c 6) l y)) 6 = upd (c 6) l y := rfl
  rw [e6, va_two, upd_upd, upd_self, va_id] at hI2
  refine ⟨va_up a1 62 (upd (a1 62) (3 * l) (c 6 l)), ?_, fun j hj => ?_, hI2⟩
  · rw [← hx]
    iterate 5 refine Rn.step rfl ?_
    refine Rn.ald (3 * l) rfl (pk_mul 3 l) (by omega) (by decide) ?_
    rw [(h62 l hl).1]
    iterate 7 refine Rn.step rfl ?_
    refine hgo _ ?_
    iterate 2 refine Rn.step rfl ?_
    refine Rn.step rfl ?_
    iterate 6 refine Rn.step rfl ?_
    refine Rn.ast (3 * l) rfl (pk_mul 3 l) (by omega) (by decide) (h3 := wY ax vx tx (va_up a1 62 (upd (a1 62) (3 * l) (c 6 l))) v t) rfl ?_
    iterate 1 refine Rn.step rfl ?_
    refine Rn.br rfl (fun h1 => ?_) (fun h1 => ?_)
    · rw [if_neg h1]
      iterate 1 refine Rn.step rfl ?_
      exact Rn.ret rfl
    · rw [if_pos (Decidable.not_not.mp h1)]
      iterate 2 refine Rn.step rfl ?_
      exact Rn.ret rfl
  · rw [up_out (by intro q; apply hj; simp only [List.mem_cons, List.not_mem_nil, or_false]; omega)]
    exact hf j hj
theorem m_steepBy (hC : MC c a v n k q mn sm tt) (h33 : v 33 = 0) (w : Int32) : ∃ a', Rn E 7 mX8_steepBy (0, [(0, .ref 53), (1, .int w)], [], wY ax vx tx a v t) (some (.int (if w = 0 then (spF (c 10) (c 12) mn k n (c 4) (c 7) (c 8) (c 6) (cW c mn k)).1 else (spF (c 10) (c 12) mn k n (c 4) (c 7) (c 8) (c 6) (cW c mn k)).2)), wY ax vx tx a' v t) ∧ (∀ j, j ∉ rowsM → a' j = a j) ∧ MC c a' v n k q mn sm tt := by
  obtain ⟨⟨hn, hv⟩, ⟨hk, -⟩, -⟩ := id hC
  have hstep : ∀ (m : Nat) (s : (Nat → Nat → Int32) × (Int32 × Int32)), m < 16 → ((MC c s.1 v n k q mn sm tt ∧ ∀ j, j ∉ rowsM → s.1 j = a j) ∧ s.2 = lp (fun s x => bs x (nI s) (bcF (obF (crn (c 10) (c 12) mn k n (upd (c 4) s (if 3 < c 4 s + 1 then 3 else c 4 s + 1)) (c 7) (c 8) (c 6) (cW c mn k) (evB k)).1 n))) 0 m (-1, -1)) → ∃ s' : (Nat → Nat → Int32) × (Int32 × Int32), ((MC c s'.1 v n k q mn sm tt ∧ ∀ j, j ∉ rowsM → s'.1 j = a j) ∧ s'.2 = lp (fun s x => bs x (nI s) (bcF (obF (crn (c 10) (c 12) mn k n (upd (c 4) s (if 3 < c 4 s + 1 then 3 else c 4 s + 1)) (c 7) (c 8) (c 6) (cW c mn k) (evB k)).1 n))) 0 (m + 1) (-1, -1)) ∧ ∀ o, Rn E 7 mX8_steepBy (7, [(4, .int (nI (m + 1))), (3, .int s'.2.2), (2, .int s'.2.1), (0, .ref 53), (1, .int w)], [], wY ax vx tx s'.1 v t) o → Rn E 7 mX8_steepBy (7, [(4, .int (nI m)), (3, .int s.2.2), (2, .int s.2.1), (0, .ref 53), (1, .int w)], [], wY ax vx tx s.1 v t) o := by
    rintro m ⟨a1, x⟩ hm ⟨⟨hI, hf⟩, hx⟩
    dsimp only at hI hf hx
    obtain ⟨NV, hNV⟩ : ∃ x : Int32, x = if 3 < c 4 m + 1 then 3 else c 4 m + 1 := ⟨_, rfl⟩
    have h60 : a1 60 m = c 4 m := hI.2.2.2.2.2.1 m hm
    have hI2 := hI.sl m NV
    obtain ⟨a2, hr, hf2, hC2, hL2⟩ := m_livesM (E := E) (ax := ax) (vx := vx) (tx := tx) (t := t) hI2 (kp := evB k) (fun e he => by rw [h33]; exact ev_all k (by omega) e he)
    have hmo := m_manyOut (E := E) (ax := ax) (vx := vx) (tx := tx) (t := t) hC2 hL2
    obtain ⟨o1, ho1⟩ : ∃ o1, o1 = bcF (obF (crn (c 10) (c 12) mn k n (upd (c 4) m NV) (c 7) (c 8) (c 6) (cW c mn k) (evB k)).1 n) := ⟨_, rfl⟩
    have hmo : Rn E 0 mX8_manyOut (0, [(0, .ref 53)], [], wY ax vx tx a2 v t) (some (.int o1), wY ax vx tx a2 v t) := by rw [ho1]; exact hmo
    have hI3 := hC2.sl m (c 4 m)
    have e4 : (va_up c 4 (upd (c 4) m NV)) 4 = upd (c 4) m NV := rfl
    rw [e4, va_two, upd_upd, upd_self, va_id] at hI3
    refine ⟨(va_up a2 60 (upd (a2 60) m (c 4 m)), bs x (nI m) o1), ⟨⟨hI3, fun j hj => ?_⟩, by rw [lp_end, ← hx, Nat.zero_add, ho1, hNV]⟩, fun o kk => ?_⟩
    · dsimp only
      rw [up_out (by intro q; apply hj; simp only [List.mem_cons, List.not_mem_nil, or_false]; omega), hf2 j (by intro q; apply hj; simp only [List.mem_cons, List.not_mem_nil, or_false] at q ⊢; omega), up_out (by intro q; apply hj; simp only [List.mem_cons, List.not_mem_nil, or_false]; omega)]
      exact hf j hj
    · dsimp only at kk ⊢
      rw [nI_succ] at kk
      iterate 2 refine Rn.step rfl ?_
      refine Rn.br2 rfl (nle hm (by decide)) ?_
      iterate 3 refine Rn.step rfl ?_
      refine Rn.ald m rfl rfl (by omega) (by decide) ?_
      rw [h60]
      iterate 8 refine Rn.step rfl ?_
      refine Rn.calli rfl rfl rfl (by decide) (m_lesser (c 4 m + 1) 3 _) (fun z f => ?_)
      rw [lesser_eq, ← hNV] at f
      rw [f]
      refine Rn.ast m rfl rfl (by omega) (by decide) (h3 := wY ax vx tx (va_up a1 60 (upd (a1 60) m NV)) v t) rfl ?_
      iterate 1 refine Rn.step rfl ?_
      refine Rn.callv rfl rfl rfl (by decide) hr ?_
      iterate 1 refine Rn.step rfl ?_
      refine Rn.calli rfl rfl rfl (by decide) hmo (fun z f => ?_)
      rw [f]
      iterate 3 refine Rn.step rfl ?_
      refine Rn.br rfl (fun h1 => ?_) (fun h1 => ?_)
      · rw [show bs x (nI m) o1 = x from if_neg (fun p => p h1)] at kk
        iterate 4 refine Rn.step rfl ?_
        refine Rn.calli rfl rfl rfl (by decide) (m_greater o1 x.2 _) (fun z f => ?_)
        rw [if_neg (Int32.not_lt.mpr h1)] at f
        rw [f]
        iterate 5 refine Rn.step rfl ?_
        refine Rn.ast m rfl rfl (by omega) (by decide) (h3 := wY ax vx tx (va_up a2 60 (upd (a2 60) m (c 4 m))) v t) rfl ?_
        iterate 2 refine Rn.step rfl ?_
        exact Rn.sub (by exact ⟨rfl, rfl, rfl, rfl, rfl, trivial⟩) kk
      · rw [show bs x (nI m) o1 = (nI m, o1) from if_pos h1] at kk
        iterate 5 refine Rn.step rfl ?_
        refine Rn.calli rfl rfl rfl (by decide) (m_greater o1 x.2 _) (fun z f => ?_)
        rw [if_pos (Int32.not_le.mp h1)] at f
        rw [f]
        iterate 5 refine Rn.step rfl ?_
        refine Rn.ast m rfl rfl (by omega) (by decide) (h3 := wY ax vx tx (va_up a2 60 (upd (a2 60) m (c 4 m))) v t) rfl ?_
        iterate 2 refine Rn.step rfl ?_
        exact Rn.sub (by exact ⟨rfl, rfl, rfl, rfl, rfl, trivial⟩) kk
  obtain ⟨⟨a1, x⟩, ⟨⟨hI, hf⟩, hx⟩, hgo⟩ := Rn.lpx (E := E) (hh := 7) (M := mX8_steepBy) (σ := (Nat → Nat → Int32) × (Int32 × Int32)) (cfg := fun m s => (7, [(4, .int (nI m)), (3, .int s.2.2), (2, .int s.2.1), (0, .ref 53), (1, .int w)], [], wY ax vx tx s.1 v t)) (n := 16) (fun m s => (MC c s.1 v n k q mn sm tt ∧ ∀ j, j ∉ rowsM → s.1 j = a j) ∧ s.2 = lp (fun s x => bs x (nI s) (bcF (obF (crn (c 10) (c 12) mn k n (upd (c 4) s (if 3 < c 4 s + 1 then 3 else c 4 s + 1)) (c 7) (c 8) (c 6) (cW c mn k) (evB k)).1 n))) 0 m (-1, -1)) hstep 16 0 (a, (-1, -1)) rfl ⟨⟨hC, fun _ _ => rfl⟩, rfl⟩
  dsimp only at hI hf hx hgo
  have hx : x = spF (c 10) (c 12) mn k n (c 4) (c 7) (c 8) (c 6) (cW c mn k) := hx
  refine ⟨a1, ?_, hf, hI⟩
  rw [← hx]
  iterate 6 refine Rn.step rfl ?_
  refine hgo _ ?_
  iterate 2 refine Rn.step rfl ?_
  refine Rn.step rfl ?_
  iterate 1 refine Rn.step rfl ?_
  refine Rn.br rfl (fun h1 => ?_) (fun h1 => ?_)
  · rw [if_neg h1]
    iterate 1 refine Rn.step rfl ?_
    exact Rn.ret rfl
  · rw [if_pos (Decidable.not_not.mp h1)]
    iterate 2 refine Rn.step rfl ?_
    exact Rn.ret rfl
theorem m_fillBy (hC : MC c a v n k q mn sm tt) (h33 : v 33 = 0) (w : Int32) : ∃ a', Rn E 7 mX8_fillBy (0, [(0, .ref 53), (1, .int w)], [], wY ax vx tx a v t) (some (.int (if w = 0 then (flF (c 10) (c 12) mn k n (c 4) (c 5) (c 7) (c 8) (c 6)).1 else (flF (c 10) (c 12) mn k n (c 4) (c 5) (c 7) (c 8) (c 6)).2)), wY ax vx tx a' v t) ∧ (∀ j, j ∉ rowsM → a' j = a j) ∧ MC c a' v n k q mn sm tt := by
  obtain ⟨⟨hn, hv⟩, ⟨hk, -⟩, -⟩ := id hC
  have hstep : ∀ (m : Nat) (s : (Nat → Nat → Int32) × (Int32 × Int32)), m < 16 → ((MC c s.1 v n k q mn sm tt ∧ ∀ j, j ∉ rowsM → s.1 j = a j) ∧ s.2 = lp (fun s x => bs x (nI s) (bcF (obF (crn (c 10) (c 12) mn k n (c 4) (c 7) (c 8) (c 6) (cwl (c 10) (c 12) mn k (upd (c 5) s (if 9 < c 5 s + 2 then 9 else c 5 s + 2)) (evB k)) (evB k)).1 n))) 0 m (-1, -1)) → ∃ s' : (Nat → Nat → Int32) × (Int32 × Int32), ((MC c s'.1 v n k q mn sm tt ∧ ∀ j, j ∉ rowsM → s'.1 j = a j) ∧ s'.2 = lp (fun s x => bs x (nI s) (bcF (obF (crn (c 10) (c 12) mn k n (c 4) (c 7) (c 8) (c 6) (cwl (c 10) (c 12) mn k (upd (c 5) s (if 9 < c 5 s + 2 then 9 else c 5 s + 2)) (evB k)) (evB k)).1 n))) 0 (m + 1) (-1, -1)) ∧ ∀ o, Rn E 7 mX8_fillBy (7, [(4, .int (nI (m + 1))), (3, .int s'.2.2), (2, .int s'.2.1), (0, .ref 53), (1, .int w)], [], wY ax vx tx s'.1 v t) o → Rn E 7 mX8_fillBy (7, [(4, .int (nI m)), (3, .int s.2.2), (2, .int s.2.1), (0, .ref 53), (1, .int w)], [], wY ax vx tx s.1 v t) o := by
    rintro m ⟨a1, x⟩ hm ⟨⟨hI, hf⟩, hx⟩
    dsimp only at hI hf hx
    obtain ⟨NV, hNV⟩ : ∃ x : Int32, x = if 9 < c 5 m + 2 then 9 else c 5 m + 2 := ⟨_, rfl⟩
    have h61 : a1 61 m = c 5 m := hI.2.2.2.2.2.2.1 m hm
    obtain ⟨u, hu, e5⟩ := hI.2.2.2.2.2.2.2.2.2 m hm
    obtain ⟨u2, hu2, eN⟩ : ∃ u, u < 10 ∧ NV = nI u := by
      rw [hNV, e5, show nI u + 2 = nI (u + 2) from nI_add u 2]
      by_cases h9 : 9 < u + 2
      · exact ⟨9, by decide, if_pos (nI_lt h9 (by omega))⟩
      · exact ⟨u + 2, by omega, if_neg (nI_nlt (a := 9) (by omega) (by omega))⟩
    have hI2 := hI.fe m hu2 eN
    obtain ⟨a2, hr, hf2, hC2, hL2⟩ := m_livesM (E := E) (ax := ax) (vx := vx) (tx := tx) (t := t) hI2 (kp := evB k) (fun e he => by rw [h33]; exact ev_all k (by omega) e he)
    have hmo := m_manyOut (E := E) (ax := ax) (vx := vx) (tx := tx) (t := t) hC2 hL2
    obtain ⟨o1, ho1⟩ : ∃ o1, o1 = bcF (obF (crn (c 10) (c 12) mn k n (c 4) (c 7) (c 8) (c 6) (cwl (c 10) (c 12) mn k (upd (c 5) m NV) (evB k)) (evB k)).1 n) := ⟨_, rfl⟩
    have hmo : Rn E 0 mX8_manyOut (0, [(0, .ref 53)], [], wY ax vx tx a2 v t) (some (.int o1), wY ax vx tx a2 v t) := by rw [ho1]; exact hmo
    have hI3 := hC2.fe m hu e5
    have e4 : (va_up c 5 (upd (c 5) m NV)) 5 = upd (c 5) m NV := rfl
    rw [e4, va_two, upd_upd, upd_self, va_id] at hI3
    refine ⟨(va_up a2 61 (upd (a2 61) m (c 5 m)), bs x (nI m) o1), ⟨⟨hI3, fun j hj => ?_⟩, by rw [lp_end, ← hx, Nat.zero_add, ho1, hNV]⟩, fun o kk => ?_⟩
    · dsimp only
      rw [up_out (by intro q; apply hj; simp only [List.mem_cons, List.not_mem_nil, or_false]; omega), hf2 j (by intro q; apply hj; simp only [List.mem_cons, List.not_mem_nil, or_false] at q ⊢; omega), up_out (by intro q; apply hj; simp only [List.mem_cons, List.not_mem_nil, or_false]; omega)]
      exact hf j hj
    · dsimp only at kk ⊢
      rw [nI_succ] at kk
      iterate 2 refine Rn.step rfl ?_
      refine Rn.br2 rfl (nle hm (by decide)) ?_
      iterate 3 refine Rn.step rfl ?_
      refine Rn.ald m rfl rfl (by omega) (by decide) ?_
      rw [h61]
      iterate 8 refine Rn.step rfl ?_
      refine Rn.calli rfl rfl rfl (by decide) (m_lesser (c 5 m + 2) 9 _) (fun z f => ?_)
      rw [lesser_eq, ← hNV] at f
      rw [f]
      refine Rn.ast m rfl rfl (by omega) (by decide) (h3 := wY ax vx tx (va_up a1 61 (upd (a1 61) m NV)) v t) rfl ?_
      iterate 1 refine Rn.step rfl ?_
      refine Rn.callv rfl rfl rfl (by decide) hr ?_
      iterate 1 refine Rn.step rfl ?_
      refine Rn.calli rfl rfl rfl (by decide) hmo (fun z f => ?_)
      rw [f]
      iterate 3 refine Rn.step rfl ?_
      refine Rn.br rfl (fun h1 => ?_) (fun h1 => ?_)
      · rw [show bs x (nI m) o1 = x from if_neg (fun p => p h1)] at kk
        iterate 4 refine Rn.step rfl ?_
        refine Rn.calli rfl rfl rfl (by decide) (m_greater o1 x.2 _) (fun z f => ?_)
        rw [if_neg (Int32.not_lt.mpr h1)] at f
        rw [f]
        iterate 5 refine Rn.step rfl ?_
        refine Rn.ast m rfl rfl (by omega) (by decide) (h3 := wY ax vx tx (va_up a2 61 (upd (a2 61) m (c 5 m))) v t) rfl ?_
        iterate 2 refine Rn.step rfl ?_
        exact Rn.sub (by exact ⟨rfl, rfl, rfl, rfl, rfl, trivial⟩) kk
      · rw [show bs x (nI m) o1 = (nI m, o1) from if_pos h1] at kk
        iterate 5 refine Rn.step rfl ?_
        refine Rn.calli rfl rfl rfl (by decide) (m_greater o1 x.2 _) (fun z f => ?_)
        rw [if_pos (Int32.not_le.mp h1)] at f
        rw [f]
        iterate 5 refine Rn.step rfl ?_
        refine Rn.ast m rfl rfl (by omega) (by decide) (h3 := wY ax vx tx (va_up a2 61 (upd (a2 61) m (c 5 m))) v t) rfl ?_
        iterate 2 refine Rn.step rfl ?_
        exact Rn.sub (by exact ⟨rfl, rfl, rfl, rfl, rfl, trivial⟩) kk
  obtain ⟨⟨a1, x⟩, ⟨⟨hI, hf⟩, hx⟩, hgo⟩ := Rn.lpx (E := E) (hh := 7) (M := mX8_fillBy) (σ := (Nat → Nat → Int32) × (Int32 × Int32)) (cfg := fun m s => (7, [(4, .int (nI m)), (3, .int s.2.2), (2, .int s.2.1), (0, .ref 53), (1, .int w)], [], wY ax vx tx s.1 v t)) (n := 16) (fun m s => (MC c s.1 v n k q mn sm tt ∧ ∀ j, j ∉ rowsM → s.1 j = a j) ∧ s.2 = lp (fun s x => bs x (nI s) (bcF (obF (crn (c 10) (c 12) mn k n (c 4) (c 7) (c 8) (c 6) (cwl (c 10) (c 12) mn k (upd (c 5) s (if 9 < c 5 s + 2 then 9 else c 5 s + 2)) (evB k)) (evB k)).1 n))) 0 m (-1, -1)) hstep 16 0 (a, (-1, -1)) rfl ⟨⟨hC, fun _ _ => rfl⟩, rfl⟩
  dsimp only at hI hf hx hgo
  have hx : x = flF (c 10) (c 12) mn k n (c 4) (c 5) (c 7) (c 8) (c 6) := hx
  refine ⟨a1, ?_, hf, hI⟩
  rw [← hx]
  iterate 6 refine Rn.step rfl ?_
  refine hgo _ ?_
  iterate 2 refine Rn.step rfl ?_
  refine Rn.step rfl ?_
  iterate 1 refine Rn.step rfl ?_
  refine Rn.br rfl (fun h1 => ?_) (fun h1 => ?_)
  · rw [if_neg h1]
    iterate 1 refine Rn.step rfl ?_
    exact Rn.ret rfl
  · rw [if_pos (Decidable.not_not.mp h1)]
    iterate 2 refine Rn.step rfl ?_
    exact Rn.ret rfl
end MCX
