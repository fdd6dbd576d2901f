section MDX
variable {E : iExtT} {ax : Nat → Nat → Int32} {vx : Nat → Int32} {tx : Nat → Nat → Int64} {c a : Nat → Nat → Int32} {v : Nat → Int32} {t : Nat → Nat → Int64} {n k q : Nat} {mn sm tt : Nat → Nat}
theorem v_back {v : Nat → Int32} (h : v 33 = 0) (x : Int32) : upd (upd v 33 x) 33 0 = v := by
  rw [upd_upd, ← h, upd_self]
theorem m_isSpared (hC : MC c a v n k q mn sm tt) (h33 : v 33 = 0) {x kp : Int32} (hg : ∀ e, e < k → (bt kp e ↔ ¬ bt x e)) : ∃ a', Rn E 7 mX8_isSpared (0, [(0, .ref 53), (1, .int x)], [], wY ax vx tx a v t) (some (.int (ib (oC c mn k n kp = evB n))), wY ax vx tx a' v t) ∧ (∀ j, j ∉ rowsM → a' j = a j) ∧ MC c a' v n k q mn sm tt := by
  obtain ⟨⟨hn, hv⟩, -⟩ := id hC
  have hC1 : MC c a (upd v 33 x) n k q mn sm tt := hC.moved (fun _ _ => rfl) (fun j hj => pk_un (by simp only [List.mem_cons, List.not_mem_nil, or_false] at hj; omega))
  obtain ⟨a2, hr, hf2, hC2, hL2⟩ := m_livesM (E := E) (ax := ax) (vx := vx) (tx := tx) (t := t) hC1 (kp := kp) (fun e he => by rw [pk_us]; exact hg e he)
  have hC3 : MC c a2 v n k q mn sm tt := hC2.moved (fun _ _ => rfl) (fun j hj => (pk_un (by simp only [List.mem_cons, List.not_mem_nil, or_false] at hj; omega)).symm)
  have hla := m_lateNow (E := E) (ax := ax) (vx := vx) (tx := tx) (t := t) hC3 hL2
  refine ⟨a2, ?_, fun j hj => hf2 j (by intro q; apply hj; simp only [List.mem_cons, List.not_mem_nil, or_false] at q ⊢; omega), hC3⟩
  iterate 3 refine Rn.step rfl ?_
  refine Rn.hp (h2 := wY ax vx tx a (upd v 33 x) t) rfl ?_
  iterate 1 refine Rn.step rfl ?_
  refine Rn.callv rfl rfl rfl (by decide) hr ?_
  iterate 3 refine Rn.step rfl ?_
  refine Rn.hp (h2 := wY ax vx tx a2 v t) (by rw [← v_back h33 x, upd_upd, upd_upd]; rfl) ?_
  iterate 1 refine Rn.step rfl ?_
  refine Rn.calli rfl rfl rfl (by decide) hla (fun z f => ?_)
  have e0 : z = 0 ↔ oC c mn k n kp = evB n := by rw [f]; exact late_0 hn
  refine Rn.br rfl (fun h1 => ?_) (fun h1 => ?_)
  · rw [ib_f (fun p => h1 (e0.mpr p))]
    iterate 1 refine Rn.step rfl ?_
    exact Rn.ret rfl
  · rw [ib_t (e0.mp (Decidable.not_not.mp h1))]
    iterate 2 refine Rn.step rfl ?_
    exact Rn.ret rfl
theorem ev_one : ∀ k, k < 9 → ∀ x, x < k → ∀ e, e < k → (bt (evB k &&& (sh1 (nI x) ^^^ -1)) e ↔ ¬ bt (sh1 (nI x)) e) := by decide +kernel
theorem ev_two : ∀ k, k < 9 → ∀ x, x < k → ∀ y, y < k → ∀ e, e < k → (bt (evB k &&& ((sh1 (nI x) ||| sh1 (nI y)) ^^^ -1)) e ↔ ¬ bt (sh1 (nI x) ||| sh1 (nI y)) e) := by decide +kernel
theorem sq_0 : sqF 0 (-1) = 0 ∧ sqF 0 0 = -1 ∧ sqF 0 1 = -1 := by decide +kernel
theorem sq_1 : ∀ x, x < 8 → sqF (sh1 (nI x)) (-1) = 1 ∧ sqF (sh1 (nI x)) 0 = nI x ∧ sqF (sh1 (nI x)) 1 = -1 := by decide +kernel
theorem sq_2 : ∀ x, x < 8 → ∀ y, y < 8 → x < y → sqF (sh1 (nI x) ||| sh1 (nI y)) (-1) = 2 ∧ sqF (sh1 (nI x) ||| sh1 (nI y)) 0 = nI x ∧ sqF (sh1 (nI x) ||| sh1 (nI y)) 1 = nI y := by decide +kernel
abbrev ansO (x : Int32) (o : Option Int32) (d : Int32) : Int32 := match o with
  | some b => sqF b x
  | none => d
theorem m_spareBy (hC : MC c a v n k q mn sm tt) (h33 : v 33 = 0) {x : Int32} (hx : x = -1 ∨ x = 0 ∨ x = 1) : ∃ a', Rn E 8 mX8_spareBy (0, [(0, .ref 53), (1, .int x)], [], wY ax vx tx a v t) (some (.int (sqF (spE (oC c mn k n) k (evB n)) x)), wY ax vx tx a' v t) ∧ (∀ j, j ∉ rowsM → a' j = a j) ∧ MC c a' v n k q mn sm tt := by
  obtain ⟨-, ⟨hk, hv2⟩, -⟩ := id hC
  have key2 : ∀ (i : Nat), i < k → ∀ (d : Int32), (∀ a1, (∀ j, j ∉ rowsM → a1 j = a j) ∧ MC c a1 v n k q mn sm tt → ∃ a', Rn E 8 mX8_spareBy (66, [(2, .int (nI (i + 1))), (0, .ref 53), (1, .int x)], [], wY ax vx tx a1 v t) (some (.int d), wY ax vx tx a' v t) ∧ (∀ j, j ∉ rowsM → a' j = a j) ∧ MC c a' v n k q mn sm tt) → ∀ j b a1, b + j = k → i < b → (∀ j, j ∉ rowsM → a1 j = a j) ∧ MC c a1 v n k q mn sm tt → ∃ a', Rn E 8 mX8_spareBy (78, [(3, .int (nI b)), (2, .int (nI i)), (0, .ref 53), (1, .int x)], [], wY ax vx tx a1 v t) (some (.int (ansO x (sp2 (oC c mn k n) k (evB n) i b j) d)), wY ax vx tx a' v t) ∧ (∀ j, j ∉ rowsM → a' j = a j) ∧ MC c a' v n k q mn sm tt := by
    intro i hi d hd j
    induction j with
    | zero =>
      intro b a1 hb hib hA
      obtain rfl : b = k := by omega
      obtain ⟨a', hr, hA'⟩ := hd a1 hA
      refine ⟨a', ?_, hA'⟩
      show Rn E 8 mX8_spareBy _ (some (.int d), wY ax vx tx a' v t)
      rw [nI_succ] at hr
      iterate 3 refine Rn.step rfl ?_
      refine Rn.br1 rfl (by rw [hv2]; exact nI_le (by omega) (by omega)) ?_
      iterate 2 refine Rn.step rfl ?_
      exact Rn.sub (by exact ⟨rfl, rfl, rfl, trivial⟩) hr
    | succ j ih =>
      intro b a1 hb hib hA
      obtain ⟨a2, hr2, hf2, hC2⟩ := m_isSpared (E := E) (ax := ax) (vx := vx) (tx := tx) (t := t) hA.2 h33 (x := sh1 (nI i) ||| sh1 (nI b)) (kp := evB k &&& ((sh1 (nI i) ||| sh1 (nI b)) ^^^ -1)) (fun e he => ev_two k (by omega) i hi b (by omega) e he)
      have hA2 : (∀ j, j ∉ rowsM → a2 j = a j) ∧ MC c a2 v n k q mn sm tt := ⟨fun j hj => (hf2 j hj).trans (hA.1 j hj), hC2⟩
      have es : sp2 (oC c mn k n) k (evB n) i b (j + 1) = if oC c mn k n (evB k &&& ((sh1 (nI i) ||| sh1 (nI b)) ^^^ -1)) = evB n then some (sh1 (nI i) ||| sh1 (nI b)) else sp2 (oC c mn k n) k (evB n) i (b + 1) j := rfl
      rw [es]
      by_cases hp : oC c mn k n (evB k &&& ((sh1 (nI i) ||| sh1 (nI b)) ^^^ -1)) = evB n
      · rw [if_pos hp]
        refine ⟨a2, ?_, hA2⟩
        obtain ⟨s1, s2, s3⟩ := sq_2 i (by omega) b (by omega) hib
        iterate 3 refine Rn.step rfl ?_
        refine Rn.br2 rfl (by rw [hv2]; exact nle (by omega) (by omega)) ?_
        iterate 8 refine Rn.step rfl ?_
        refine Rn.calli rfl rfl rfl (by decide) hr2 (fun z f => ?_)
        rw [ib_t hp] at f
        subst f
        refine Rn.step rfl ?_
        iterate 2 refine Rn.step rfl ?_
        rcases hx with rfl | rfl | rfl
        · refine Rn.step rfl ?_
          iterate 2 refine Rn.step rfl ?_
          show Rn E 8 mX8_spareBy _ (some (.int (sqF (sh1 (nI i) ||| sh1 (nI b)) (-1))), _)
          rw [s1]
          exact Rn.ret rfl
        · refine Rn.step rfl ?_
          iterate 1 refine Rn.step rfl ?_
          refine Rn.step rfl ?_
          iterate 2 refine Rn.step rfl ?_
          show Rn E 8 mX8_spareBy _ (some (.int (sqF (sh1 (nI i) ||| sh1 (nI b)) 0)), _)
          rw [s2]
          exact Rn.ret rfl
        · refine Rn.step rfl ?_
          iterate 1 refine Rn.step rfl ?_
          refine Rn.step rfl ?_
          iterate 1 refine Rn.step rfl ?_
          show Rn E 8 mX8_spareBy _ (some (.int (sqF (sh1 (nI i) ||| sh1 (nI b)) 1)), _)
          rw [s3]
          exact Rn.ret rfl
      · rw [if_neg hp]
        obtain ⟨a', hr', hA'⟩ := ih (b + 1) a2 (by omega) (by omega) hA2
        refine ⟨a', ?_, hA'⟩
        rw [nI_succ] at hr'
        iterate 3 refine Rn.step rfl ?_
        refine Rn.br2 rfl (by rw [hv2]; exact nle (by omega) (by omega)) ?_
        iterate 8 refine Rn.step rfl ?_
        refine Rn.calli rfl rfl rfl (by decide) hr2 (fun z f => ?_)
        rw [ib_f hp] at f
        subst f
        refine Rn.step rfl ?_
        iterate 2 refine Rn.step rfl ?_
        exact hr'
  have key3 : ∀ j i a1, i + j = k → (∀ j, j ∉ rowsM → a1 j = a j) ∧ MC c a1 v n k q mn sm tt → ∃ a', Rn E 8 mX8_spareBy (66, [(2, .int (nI i)), (0, .ref 53), (1, .int x)], [], wY ax vx tx a1 v t) (some (.int (ansO x (sp3 (oC c mn k n) k (evB n) i j) (-1))), wY ax vx tx a' v t) ∧ (∀ j, j ∉ rowsM → a' j = a j) ∧ MC c a' v n k q mn sm tt := by
    intro j
    induction j with
    | zero =>
      intro i a1 hi hA
      obtain rfl : i = k := by omega
      refine ⟨a1, ?_, hA⟩
      show Rn E 8 mX8_spareBy _ (some (.int (-1)), _)
      iterate 3 refine Rn.step rfl ?_
      refine Rn.br1 rfl (by rw [hv2]; exact nI_le (by omega) (by omega)) ?_
      iterate 1 refine Rn.step rfl ?_
      exact Rn.ret rfl
    | succ j ih =>
      intro i a1 hi hA
      obtain ⟨a', hr, hA'⟩ := key2 i (by omega) (ansO x (sp3 (oC c mn k n) k (evB n) (i + 1) j) (-1)) (fun a1 h1 => ih (i + 1) a1 (by omega) h1) (k - (i + 1)) (i + 1) a1 (by omega) (by omega) hA
      refine ⟨a', ?_, hA'⟩
      have es : ansO x (sp3 (oC c mn k n) k (evB n) i (j + 1)) (-1) = ansO x (sp2 (oC c mn k n) k (evB n) i (i + 1) (k - (i + 1))) (ansO x (sp3 (oC c mn k n) k (evB n) (i + 1) j) (-1)) := by
        show ansO x (match sp2 (oC c mn k n) k (evB n) i (i + 1) (k - (i + 1)) with | some b => some b | none => sp3 (oC c mn k n) k (evB n) (i + 1) j) (-1) = _
        cases sp2 (oC c mn k n) k (evB n) i (i + 1) (k - (i + 1)) <;> rfl
      rw [es]
      rw [nI_succ] at hr
      iterate 3 refine Rn.step rfl ?_
      refine Rn.br2 rfl (by rw [hv2]; exact nle (by omega) (by omega)) ?_
      iterate 4 refine Rn.step rfl ?_
      exact hr
  have key1 : ∀ j i a1, i + j = k → (∀ j, j ∉ rowsM → a1 j = a j) ∧ MC c a1 v n k q mn sm tt → ∃ a', Rn E 8 mX8_spareBy (21, [(2, .int (nI i)), (0, .ref 53), (1, .int x)], [], wY ax vx tx a1 v t) (some (.int (ansO x (sp1 (oC c mn k n) k (evB n) i j) (ansO x (sp3 (oC c mn k n) k (evB n) 0 k) (-1)))), wY ax vx tx a' v t) ∧ (∀ j, j ∉ rowsM → a' j = a j) ∧ MC c a' v n k q mn sm tt := by
    intro j
    induction j with
    | zero =>
      intro i a1 hi hA
      obtain rfl : i = k := by omega
      obtain ⟨a', hr, hA'⟩ := key3 i 0 a1 (by omega) hA
      refine ⟨a', ?_, hA'⟩
      show Rn E 8 mX8_spareBy _ (some (.int (ansO x (sp3 (oC c mn i n) i (evB n) 0 i) (-1))), _)
      iterate 3 refine Rn.step rfl ?_
      refine Rn.br1 rfl (by rw [hv2]; exact nI_le (by omega) (by omega)) ?_
      iterate 2 refine Rn.step rfl ?_
      exact hr
    | succ j ih =>
      intro i a1 hi hA
      obtain ⟨a2, hr2, hf2, hC2⟩ := m_isSpared (E := E) (ax := ax) (vx := vx) (tx := tx) (t := t) hA.2 h33 (x := sh1 (nI i)) (kp := evB k &&& (sh1 (nI i) ^^^ -1)) (fun e he => ev_one k (by omega) i (by omega) e he)
      have hA2 : (∀ j, j ∉ rowsM → a2 j = a j) ∧ MC c a2 v n k q mn sm tt := ⟨fun j hj => (hf2 j hj).trans (hA.1 j hj), hC2⟩
      have es : sp1 (oC c mn k n) k (evB n) i (j + 1) = if oC c mn k n (evB k &&& (sh1 (nI i) ^^^ -1)) = evB n then some (sh1 (nI i)) else sp1 (oC c mn k n) k (evB n) (i + 1) j := rfl
      rw [es]
      by_cases hp : oC c mn k n (evB k &&& (sh1 (nI i) ^^^ -1)) = evB n
      · rw [if_pos hp]
        refine ⟨a2, ?_, hA2⟩
        obtain ⟨s1, s2, s3⟩ := sq_1 i (by omega)
        iterate 3 refine Rn.step rfl ?_
        refine Rn.br2 rfl (by rw [hv2]; exact nle (by omega) (by omega)) ?_
        iterate 4 refine Rn.step rfl ?_
        refine Rn.calli rfl rfl rfl (by decide) hr2 (fun z f => ?_)
        rw [ib_t hp] at f
        subst f
        refine Rn.step rfl ?_
        iterate 2 refine Rn.step rfl ?_
        rcases hx with rfl | rfl | rfl
        · refine Rn.step rfl ?_
          iterate 2 refine Rn.step rfl ?_
          show Rn E 8 mX8_spareBy _ (some (.int (sqF (sh1 (nI i)) (-1))), _)
          rw [s1]
          exact Rn.ret rfl
        · refine Rn.step rfl ?_
          iterate 1 refine Rn.step rfl ?_
          refine Rn.step rfl ?_
          iterate 2 refine Rn.step rfl ?_
          show Rn E 8 mX8_spareBy _ (some (.int (sqF (sh1 (nI i)) 0)), _)
          rw [s2]
          exact Rn.ret rfl
        · refine Rn.step rfl ?_
          iterate 1 refine Rn.step rfl ?_
          refine Rn.step rfl ?_
          iterate 1 refine Rn.step rfl ?_
          show Rn E 8 mX8_spareBy _ (some (.int (sqF (sh1 (nI i)) 1)), _)
          rw [s3]
          exact Rn.ret rfl
      · rw [if_neg hp]
        obtain ⟨a', hr', hA'⟩ := ih (i + 1) a2 (by omega) hA2
        refine ⟨a', ?_, hA'⟩
        rw [nI_succ] at hr'
        iterate 3 refine Rn.step rfl ?_
        refine Rn.br2 rfl (by rw [hv2]; exact nle (by omega) (by omega)) ?_
        iterate 4 refine Rn.step rfl ?_
        refine Rn.calli rfl rfl rfl (by decide) hr2 (fun z f => ?_)
        rw [ib_f hp] at f
        subst f
        refine Rn.step rfl ?_
        iterate 2 refine Rn.step rfl ?_
        exact hr'
  obtain ⟨a2, hr2, hf2, hC2⟩ := m_isSpared (E := E) (ax := ax) (vx := vx) (tx := tx) (t := t) hC h33 (x := 0) (kp := evB k) (fun e he => ev_all k (by omega) e he)
  by_cases hp : oC c mn k n (evB k) = evB n
  · refine ⟨a2, ?_, hf2, hC2⟩
    have es : spE (oC c mn k n) k (evB n) = 0 := if_pos hp
    rw [es]
    obtain ⟨s1, s2, s3⟩ := sq_0
    iterate 2 refine Rn.step rfl ?_
    refine Rn.calli rfl rfl rfl (by decide) hr2 (fun z f => ?_)
    rw [ib_t hp] at f
    subst f
    refine Rn.step rfl ?_
    iterate 2 refine Rn.step rfl ?_
    rcases hx with rfl | rfl | rfl
    · rw [s1]
      refine Rn.step rfl ?_
      iterate 2 refine Rn.step rfl ?_
      exact Rn.ret rfl
    · rw [s2]
      refine Rn.step rfl ?_
      iterate 1 refine Rn.step rfl ?_
      exact Rn.ret rfl
    · rw [s3]
      refine Rn.step rfl ?_
      iterate 1 refine Rn.step rfl ?_
      exact Rn.ret rfl
  · obtain ⟨a', hr', hA'⟩ := key1 k 0 a2 (by omega) ⟨hf2, hC2⟩
    refine ⟨a', ?_, hA'⟩
    have es : sqF (spE (oC c mn k n) k (evB n)) x = ansO x (sp1 (oC c mn k n) k (evB n) 0 k) (ansO x (sp3 (oC c mn k n) k (evB n) 0 k) (-1)) := by
      unfold spE
      rw [if_neg hp]
      cases sp1 (oC c mn k n) k (evB n) 0 k with
      | some b => rfl
      | none =>
        cases sp3 (oC c mn k n) k (evB n) 0 k with
        | some b => rfl
        | none => exact if_pos rfl
    rw [es]
    iterate 2 refine Rn.step rfl ?_
    refine Rn.calli rfl rfl rfl (by decide) hr2 (fun z f => ?_)
    rw [ib_f hp] at f
    subst f
    refine Rn.step rfl ?_
    iterate 2 refine Rn.step rfl ?_
    exact hr'
theorem m_neverNow (hC : MC c a v n k q mn sm tt) (h33 : v 33 = 0) : ∃ a', Rn E 8 mX8_neverNow (0, [(0, .ref 53)], [], wY ax vx tx a v t) (some (.int (neF c n k q mn sm)), wY ax vx tx a' v t) ∧ (∀ j, j ∉ rowsM → a' j = a j) ∧ MC c a' v n k q mn sm tt := by
  obtain ⟨-, ⟨hk, hv2⟩, -⟩ := id hC
  have hstep : ∀ (m : Nat) (s : ((Nat → Nat → Int32) × Int32) × Int32), m < k → ((MC c s.1.1 v n k q mn sm tt ∧ ∀ j, j ∉ rowsM → s.1.1 j = a j) ∧ s.2 = lp (fun e b => if ftX c n q sm (crn (c 10) (c 12) mn k n (c 4) (c 7) (c 8) (c 6) (cwl (c 10) (c 12) mn k (c 5) (evB k &&& (sh1 (nI e) ^^^ -1))) (evB k &&& (sh1 (nI e) ^^^ -1))) = true then b ||| sh1 (nI e) else b) 0 m 0) → ∃ s' : ((Nat → Nat → Int32) × Int32) × Int32, ((MC c s'.1.1 v n k q mn sm tt ∧ ∀ j, j ∉ rowsM → s'.1.1 j = a j) ∧ s'.2 = lp (fun e b => if ftX c n q sm (crn (c 10) (c 12) mn k n (c 4) (c 7) (c 8) (c 6) (cwl (c 10) (c 12) mn k (c 5) (evB k &&& (sh1 (nI e) ^^^ -1))) (evB k &&& (sh1 (nI e) ^^^ -1))) = true then b ||| sh1 (nI e) else b) 0 (m + 1) 0) ∧ ∀ o, Rn E 8 mX8_neverNow (4, [(2, .int (nI (m + 1))), (1, .int s'.2), (0, .ref 53)], [], wY ax vx tx s'.1.1 (upd v 33 s'.1.2) t) o → Rn E 8 mX8_neverNow (4, [(2, .int (nI m)), (1, .int s.2), (0, .ref 53)], [], wY ax vx tx s.1.1 (upd v 33 s.1.2) t) o := by
    rintro m ⟨⟨a1, y⟩, b⟩ hm ⟨⟨hI, hf⟩, hb⟩
    dsimp only at hI hf hb
    have hI1 : MC c a1 (upd v 33 (sh1 (nI m))) n k q mn sm tt := hI.moved (fun _ _ => rfl) (fun j hj => pk_un (by simp only [List.mem_cons, List.not_mem_nil, or_false] at hj; omega))
    obtain ⟨a2, hr, hf2, hC2, -⟩ := m_isSeen (E := E) (ax := ax) (vx := vx) (tx := tx) (t := t) hI1 (kp := evB k &&& (sh1 (nI m) ^^^ -1)) (fun e he => by rw [pk_us]; exact ev_one k (by omega) m hm e he)
    have hC3 : MC c a2 v n k q mn sm tt := hC2.moved (fun _ _ => rfl) (fun j hj => (pk_un (by simp only [List.mem_cons, List.not_mem_nil, or_false] at hj; omega)).symm)
    refine ⟨((a2, sh1 (nI m)), if ftX c n q sm (crn (c 10) (c 12) mn k n (c 4) (c 7) (c 8) (c 6) (cwl (c 10) (c 12) mn k (c 5) (evB k &&& (sh1 (nI m) ^^^ -1))) (evB k &&& (sh1 (nI m) ^^^ -1))) = true then b ||| sh1 (nI m) else b), ⟨⟨hC3, fun j hj => ?_⟩, by rw [lp_end, ← hb, Nat.zero_add]⟩, fun o kk => ?_⟩
    · show a2 j = a j
      rw [hf2 j (by intro q; apply hj; simp only [List.mem_cons, List.not_mem_nil, or_false] at q ⊢; omega)]
      exact hf j hj
    · dsimp only at kk ⊢
      rw [nI_succ] at kk
      iterate 3 refine Rn.step rfl ?_
      refine Rn.br2 rfl (by show ¬ v 32 ≤ nI m; rw [hv2]; exact nle hm (by omega)) ?_
      iterate 5 refine Rn.step rfl ?_
      refine Rn.hp (h2 := wY ax vx tx a1 (upd v 33 (sh1 (nI m))) t) (by rw [← upd_upd v 33 y (sh1 (nI m))]; rfl) ?_
      iterate 2 refine Rn.step rfl ?_
      refine Rn.calli rfl rfl rfl (by decide) hr (fun z f => ?_)
      refine Rn.br rfl (fun h1 => ?_) (fun h1 => ?_)
      · rw [f, ib_eq0] at h1
        rw [if_neg h1] at kk
        iterate 2 refine Rn.step rfl ?_
        refine Rn.top (x' := b) (by show b ||| 0 = b; simp) ?_
        iterate 3 refine Rn.step rfl ?_
        exact kk
      · rw [f, ib_ne0] at h1
        rw [if_pos h1] at kk
        iterate 8 refine Rn.step rfl ?_
        exact kk
  obtain ⟨⟨⟨a1, y⟩, b⟩, ⟨⟨hI, hf⟩, hb⟩, hgo⟩ := Rn.lpx (E := E) (hh := 8) (M := mX8_neverNow) (σ := ((Nat → Nat → Int32) × Int32) × Int32) (cfg := fun m s => (4, [(2, .int (nI m)), (1, .int s.2), (0, .ref 53)], [], wY ax vx tx s.1.1 (upd v 33 s.1.2) t)) (n := k) (fun m s => (MC c s.1.1 v n k q mn sm tt ∧ ∀ j, j ∉ rowsM → s.1.1 j = a j) ∧ s.2 = lp (fun e b => if ftX c n q sm (crn (c 10) (c 12) mn k n (c 4) (c 7) (c 8) (c 6) (cwl (c 10) (c 12) mn k (c 5) (evB k &&& (sh1 (nI e) ^^^ -1))) (evB k &&& (sh1 (nI e) ^^^ -1))) = true then b ||| sh1 (nI e) else b) 0 m 0) hstep k 0 ((a, 0), 0) (by omega) ⟨⟨hC, fun _ _ => rfl⟩, rfl⟩
  dsimp only at hI hf hb hgo
  have hb : b = neF c n k q mn sm := hb
  refine ⟨a1, ?_, hf, hI⟩
  rw [← hb]
  iterate 4 refine Rn.step rfl ?_
  refine Rn.hp (h2 := wY ax vx tx a (upd v 33 0) t) (by rw [← h33, upd_self]) ?_
  refine hgo _ ?_
  iterate 3 refine Rn.step rfl ?_
  refine Rn.br1 rfl (by show v 32 ≤ nI k; rw [hv2]; exact nI_le (by omega) (by omega)) ?_
  iterate 3 refine Rn.step rfl ?_
  refine Rn.hp (h2 := wY ax vx tx a1 v t) (by rw [← v_back h33 y]; rfl) ?_
  iterate 1 refine Rn.step rfl ?_
  exact Rn.ret rfl
theorem m_gradeOf (hC : MC c a v n k q mn sm tt) (h33 : v 33 = 0) {s : Nat} (hs : s < 16) : ∃ a', Rn E 8 mX8_gradeOf (0, [(0, .ref 53), (1, .int (nI s))], [], wY ax vx tx a v t) (some (.int (grF c n k q mn sm s)), wY ax vx tx a' v t) ∧ (∀ j, j ∉ rowsM → a' j = a j) ∧ MC c a' v n k q mn sm tt := by
  obtain ⟨-, ⟨hk, hv2⟩, -, -, -, h60, -⟩ := id hC
  have hstep : ∀ (m : Nat) (w : (Nat → Nat → Int32) × Int32), m < 3 → (((∃ y, MC (va_up c 4 (upd (c 4) s y)) w.1 v n k q mn sm tt) ∧ ∀ j, j ∉ rowsM → w.1 j = a j) ∧ w.2 = lp (fun i b => if ftX c n q sm (crn (c 10) (c 12) mn k n (upd (c 4) s (nI (i + 1))) (c 7) (c 8) (c 6) (cW c mn k) (evB k)) = true then b ||| sh1 (nI (i + 1)) else b) 0 m 0) → ∃ w' : (Nat → Nat → Int32) × Int32, (((∃ y, MC (va_up c 4 (upd (c 4) s y)) w'.1 v n k q mn sm tt) ∧ ∀ j, j ∉ rowsM → w'.1 j = a j) ∧ w'.2 = lp (fun i b => if ftX c n q sm (crn (c 10) (c 12) mn k n (upd (c 4) s (nI (i + 1))) (c 7) (c 8) (c 6) (cW c mn k) (evB k)) = true then b ||| sh1 (nI (i + 1)) else b) 0 (m + 1) 0) ∧ ∀ o, Rn E 8 mX8_gradeOf (12, [(4, .int (nI ((m + 1) + 1))), (3, .int w'.2), (2, .int (c 4 s)), (0, .ref 53), (1, .int (nI s))], [], wY ax vx tx w'.1 v t) o → Rn E 8 mX8_gradeOf (12, [(4, .int (nI (m + 1))), (3, .int w.2), (2, .int (c 4 s)), (0, .ref 53), (1, .int (nI s))], [], wY ax vx tx w.1 v t) o := by
    rintro m ⟨a1, b⟩ hm ⟨⟨⟨y, hI⟩, hf⟩, hb⟩
    dsimp only at hI hf hb
    have hI2 := hI.sl s (nI (m + 1))
    have e4 : (va_up c 4 (upd (c 4) s y)) 4 = upd (c 4) s y := rfl
    rw [e4, va_two, upd_upd] at hI2
    obtain ⟨a2, hr, hf2, hC2, -⟩ := m_isSeen (E := E) (ax := ax) (vx := vx) (tx := tx) (t := t) hI2 (kp := evB k) (fun e he => by rw [h33]; exact ev_all k (by omega) e he)
    obtain ⟨B, hB⟩ : ∃ B, B = ftX c n q sm (crn (c 10) (c 12) mn k n (upd (c 4) s (nI (m + 1))) (c 7) (c 8) (c 6) (cW c mn k) (evB k)) := ⟨_, rfl⟩
    have hr : Rn E 7 mX8_isSeen (0, [(0, .ref 53)], [], wY ax vx tx (va_up a1 60 (upd (a1 60) s (nI (m + 1)))) v t) (some (.int (ib (B = true))), wY ax vx tx a2 v t) := by rw [hB]; exact hr
    refine ⟨(a2, if B = true then b ||| sh1 (nI (m + 1)) else b), ⟨⟨⟨nI (m + 1), hC2⟩, fun j hj => ?_⟩, by rw [lp_end, ← hb, Nat.zero_add, hB]⟩, fun o kk => ?_⟩
    · dsimp only
      rw [hf2 j (by intro q; apply hj; simp only [List.mem_cons, List.not_mem_nil, or_false] at q ⊢; omega), up_out (by intro q; apply hj; simp only [List.mem_cons, List.not_mem_nil, or_false]; omega)]
      exact hf j hj
    · dsimp only at kk ⊢
      rw [nI_succ] at kk
      iterate 2 refine Rn.step rfl ?_
      refine Rn.br2 rfl (nle (n := 4) (i := m + 1) (by omega) (by decide)) ?_
      iterate 4 refine Rn.step rfl ?_
      refine Rn.ast s rfl rfl hs (by decide) (h3 := wY ax vx tx (va_up a1 60 (upd (a1 60) s (nI (m + 1)))) v t) rfl ?_
      iterate 2 refine Rn.step rfl ?_
      refine Rn.calli rfl rfl rfl (by decide) hr (fun z f => ?_)
      refine Rn.br rfl (fun h1 => ?_) (fun h1 => ?_)
      · rw [f, ib_eq0] at h1
        rw [if_neg h1] at kk
        iterate 2 refine Rn.step rfl ?_
        refine Rn.top (x' := b) (by show b ||| 0 = b; simp) ?_
        iterate 3 refine Rn.step rfl ?_
        exact kk
      · rw [f, ib_ne0] at h1
        rw [if_pos h1] at kk
        iterate 8 refine Rn.step rfl ?_
        exact kk
  obtain ⟨⟨a1, b⟩, ⟨⟨⟨y, hI⟩, hf⟩, hb⟩, hgo⟩ := Rn.lpx (E := E) (hh := 8) (M := mX8_gradeOf) (σ := (Nat → Nat → Int32) × Int32) (cfg := fun m w => (12, [(4, .int (nI (m + 1))), (3, .int w.2), (2, .int (c 4 s)), (0, .ref 53), (1, .int (nI s))], [], wY ax vx tx w.1 v t)) (n := 3) (fun m w => ((∃ y, MC (va_up c 4 (upd (c 4) s y)) w.1 v n k q mn sm tt) ∧ ∀ j, j ∉ rowsM → w.1 j = a j) ∧ w.2 = lp (fun i b => if ftX c n q sm (crn (c 10) (c 12) mn k n (upd (c 4) s (nI (i + 1))) (c 7) (c 8) (c 6) (cW c mn k) (evB k)) = true then b ||| sh1 (nI (i + 1)) else b) 0 m 0) hstep 3 0 (a, 0) rfl ⟨⟨⟨c 4 s, by rw [upd_self, va_id]; exact hC⟩, fun _ _ => rfl⟩, rfl⟩
  dsimp only at hI hf hb hgo
  have hb : b = grF c n k q mn sm s := hb
  have hI2 := hI.sl s (c 4 s)
  have e4 : (va_up c 4 (upd (c 4) s y)) 4 = upd (c 4) s y := rfl
  rw [e4, va_two, upd_upd, upd_self, va_id] at hI2
  refine ⟨va_up a1 60 (upd (a1 60) s (c 4 s)), ?_, fun j hj => ?_, hI2⟩
  · rw [← hb]
    iterate 3 refine Rn.step rfl ?_
    refine Rn.ald s rfl rfl hs (by decide) ?_
    rw [h60 s hs]
    iterate 5 refine Rn.step rfl ?_
    refine hgo _ ?_
    iterate 2 refine Rn.step rfl ?_
    refine Rn.step rfl ?_
    iterate 4 refine Rn.step rfl ?_
    refine Rn.ast s rfl rfl hs (by decide) (h3 := wY ax vx tx (va_up a1 60 (upd (a1 60) s (c 4 s))) v t) rfl ?_
    iterate 1 refine Rn.step rfl ?_
    exact Rn.ret rfl
  · rw [up_out (by intro q; apply hj; simp only [List.mem_cons, List.not_mem_nil, or_false]; omega)]
    exact hf j hj
end MDX
