section M2
variable {E : iExtT} {ax : Nat → Nat → Int32} {vx : Nat → Int32} {tx : Nat → Nat → Int64} {a : Nat → Nat → Int32} {v : Nat → Int32} {t : Nat → Nat → Int64}
def lgF (k : Nat) (b : Int32) : Int32 := match k with
  | 0 => if 97 ≤ b ∧ b ≤ 120 then b - 97 else -9
  | 1 => if b < 49 ∨ 57 < b then -9 else b - 48
  | 2 => if b = 115 then 0 else if b = 108 then 1 else -9
  | _ => if b = 59 then 0 else -9
theorem m_logOf {k : Nat} (hk : k < 4) (b : Int32) (h : List va_E) : Rn E 2 mX8_logOf (0, [(0, .int (nI k)), (1, .int b)], [], h) (some (.int (lgF k b)), h) := by
  obtain rfl | rfl | rfl | rfl : k = 0 ∨ k = 1 ∨ k = 2 ∨ k = 3 := by omega
  · unfold lgF
    repeat refine Rn.step rfl ?_
    refine Rn.calli rfl rfl rfl (by decide) (m_in _ _ _ _) (fun z f => ?_)
    have f : z = ib ((97 : Int32).toInt64 ≤ b.toInt64 ∧ b.toInt64 ≤ (120 : Int32).toInt64) := f
    rw [ib_congr (and_congr i64_le i64_le)] at f
    refine Rn.br rfl (fun h1 => ?_) (fun h1 => ?_)
    · rw [f, ib_eq0] at h1
      rw [if_neg h1]
      repeat refine Rn.step rfl ?_
      exact Rn.ret rfl
    · rw [f, ib_ne0] at h1
      rw [if_pos h1]
      repeat refine Rn.step rfl ?_
      exact Rn.ret rfl
  · repeat refine Rn.step rfl ?_
    refine Rn.calli rfl rfl rfl (by decide) (m_figureOf b 1 9 (by decide) (by decide) h) (fun z f => ?_)
    have f : z = lgF 1 b := f
    rw [← f]
    exact Rn.ret rfl
  · unfold lgF
    repeat refine Rn.step rfl ?_
    refine Rn.br rfl (fun h1 => ?_) (fun h1 => ?_)
    · rw [if_neg h1]
      repeat refine Rn.step rfl ?_
      refine Rn.br rfl (fun h2 => ?_) (fun h2 => ?_)
      · rw [if_neg h2]
        repeat refine Rn.step rfl ?_
        exact Rn.ret rfl
      · rw [if_pos (Decidable.not_not.mp h2)]
        repeat refine Rn.step rfl ?_
        exact Rn.ret rfl
    · rw [if_pos (Decidable.not_not.mp h1)]
      repeat refine Rn.step rfl ?_
      exact Rn.ret rfl
  · unfold lgF
    repeat refine Rn.step rfl ?_
    refine Rn.br rfl (fun h1 => ?_) (fun h1 => ?_)
    · rw [if_neg h1]
      repeat refine Rn.step rfl ?_
      exact Rn.ret rfl
    · rw [if_pos (Decidable.not_not.mp h1)]
      repeat refine Rn.step rfl ?_
      exact Rn.ret rfl
theorem sub_ne9 {b c lo : Int32} (h : lo ≤ b) (hd : ¬ lo ≤ -9 + c) : ¬ b - c = -9 := by
  intro q
  rw [show b = (b - c) + c from (Int32.sub_add_cancel _ _).symm, q] at h
  exact hd h
theorem msB0 (b : Int32) : msB 0 b = (decide (97 ≤ b) && decide (b ≤ 120)) := rfl
theorem msB1 (b : Int32) : msB 1 b = (decide (49 ≤ b) && decide (b ≤ 57)) := rfl
theorem msB2 (b : Int32) : msB 2 b = (decide (b = 115) || decide (b = 108)) := rfl
theorem msB3 (b : Int32) : msB 3 b = decide (b = 59) := rfl
theorem lgF0 (b : Int32) : lgF 0 b = if 97 ≤ b ∧ b ≤ 120 then b - 97 else -9 := rfl
theorem lgF1 (b : Int32) : lgF 1 b = if b < 49 ∨ 57 < b then -9 else b - 48 := rfl
theorem lgF2 (b : Int32) : lgF 2 b = if b = 115 then 0 else if b = 108 then 1 else -9 := rfl
theorem lgF3 (b : Int32) : lgF 3 b = if b = 59 then 0 else -9 := rfl
theorem lgF_ms {k : Nat} (hk : k < 4) (b : Int32) : msB k b = true ↔ ¬ lgF k b = -9 := by
  obtain rfl | rfl | rfl | rfl : k = 0 ∨ k = 1 ∨ k = 2 ∨ k = 3 := by omega
  · rw [msB0, lgF0]
    rw [Bool.and_eq_true, decide_eq_true_eq, decide_eq_true_eq]
    by_cases h : 97 ≤ b ∧ b ≤ 120
    · rw [if_pos h]; exact ⟨fun _ => sub_ne9 h.1 (by decide), fun _ => h⟩
    · rw [if_neg h]; exact ⟨fun q => absurd q h, fun q => absurd rfl q⟩
  · rw [msB1, lgF1]
    rw [Bool.and_eq_true, decide_eq_true_eq, decide_eq_true_eq]
    by_cases h : b < 49 ∨ 57 < b
    · rw [if_pos h]
      refine ⟨fun q => ?_, fun q => absurd rfl q⟩
      rcases h with h | h
      · exact absurd q.1 (Int32.not_le.mpr h)
      · exact absurd q.2 (Int32.not_le.mpr h)
    · rw [if_neg h]
      have h1 : 49 ≤ b := Int32.not_lt.mp (fun q => h (Or.inl q))
      exact ⟨fun _ => sub_ne9 h1 (by decide), fun _ => ⟨h1, Int32.not_lt.mp (fun q => h (Or.inr q))⟩⟩
  · rw [msB2, lgF2]
    rw [Bool.or_eq_true, decide_eq_true_eq, decide_eq_true_eq]
    by_cases h : b = 115
    · rw [if_pos h]; exact ⟨fun _ => by decide, fun _ => Or.inl h⟩
    · rw [if_neg h]
      by_cases h2 : b = 108
      · rw [if_pos h2]; exact ⟨fun _ => by decide, fun _ => Or.inr h2⟩
      · rw [if_neg h2]; exact ⟨fun q => absurd q (by rintro (q | q); exact h q; exact h2 q), fun q => absurd rfl q⟩
  · rw [msB3, lgF3]
    rw [decide_eq_true_eq]
    by_cases h : b = 59
    · rw [if_pos h]; exact ⟨fun _ => by decide, fun _ => h⟩
    · rw [if_neg h]; exact ⟨fun q => absurd q h, fun q => absurd rfl q⟩
theorem m_readsLogs {z : Nat} (hz : a 59 2 = nI z) (hz2 : z ≤ 31) : ∃ (g : Nat → Int32) (c : Nat), Rn E 3 mX8_readsLogs (0, [(0, .ref 53)], [], wY ax vx tx a v t) (some (.int (flg (fun i => a 58 (64 + i)) z 0 z)), wY ax vx tx (va_up a 62 g) (upd v 31 (nI c)) t) ∧ (flg (fun i => a 58 (64 + i)) z 0 z = -1 → c = (z + 1) / 4 ∧ ∀ l, l < c → g (3 * l) = a 58 (64 + 4 * l) - 97 ∧ g (3 * l + 1) = a 58 (64 + (4 * l + 1)) - 48 ∧ g (3 * l + 2) = if a 58 (64 + (4 * l + 2)) = 108 then 1 else 0) ∧ (¬ flg (fun i => a 58 (64 + i)) z 0 z = -1 → c = 0) := by
  obtain ⟨b, hb⟩ : ∃ b : Nat → Int32, b = fun i => a 58 (64 + i) := ⟨_, rfl⟩
  have hbi : ∀ i, a 58 (64 + i) = b i := fun i => by rw [hb]
  rw [← hb]
  simp only [hbi]
  have key : ∀ (j i : Nat) (g : Nat → Int32), i + j = z → (∀ i', i' < i → msB (i' % 4) (b i') = true ∧ (i' % 4 < 3 → g (3 * (i' / 4) + i' % 4) = lgF (i' % 4) (b i'))) → ∃ (g' : Nat → Int32) (c : Nat), Rn E 3 mX8_readsLogs (14, [(2, .int (nI i)), (1, .int (nI z)), (0, .ref 53)], [], wY ax vx tx (va_up a 62 g) (upd v 31 (nI ((i + 1) / 4))) t) (some (.int (flg b z i j)), wY ax vx tx (va_up a 62 g') (upd v 31 (nI c)) t) ∧ (flg b z i j = -1 → c = (z + 1) / 4 ∧ ∀ i', i' < z → msB (i' % 4) (b i') = true ∧ (i' % 4 < 3 → g' (3 * (i' / 4) + i' % 4) = lgF (i' % 4) (b i'))) ∧ (¬ flg b z i j = -1 → c = 0) := by
    intro j
    induction j with
    | zero =>
      intro i g hi hg
      obtain rfl : i = z := by omega
      have hz3 : nI i - nI i / nI 4 * nI 4 = nI (i % 4) := pk_rem (by omega) (by decide) (by decide)
      unfold flg
      by_cases h0 : i = 0
      · rw [if_pos (Or.inl h0)]
        refine ⟨g, (i + 1) / 4, ?_, fun _ => ⟨rfl, hg⟩, fun q => absurd rfl q⟩
        iterate 2 refine Rn.step rfl ?_
        refine Rn.br1 rfl (nI_le (by omega) (by omega)) ?_
        refine Rn.step rfl ?_
        refine Rn.br1 rfl (by subst h0; decide) ?_
        repeat refine Rn.step rfl ?_
        exact Rn.ret rfl
      · by_cases h3 : i % 4 = 3
        · rw [if_pos (Or.inr h3)]
          refine ⟨g, (i + 1) / 4, ?_, fun _ => ⟨rfl, hg⟩, fun q => absurd rfl q⟩
          iterate 2 refine Rn.step rfl ?_
          refine Rn.br1 rfl (nI_le (by omega) (by omega)) ?_
          refine Rn.step rfl ?_
          refine Rn.br2 rfl (nI_nle (by omega) (by omega)) ?_
          iterate 3 refine Rn.step rfl ?_
          refine Rn.top (x' := nI 3) (by rw [← h3]; exact hz3) ?_
          repeat refine Rn.step rfl ?_
          exact Rn.ret rfl
        · rw [if_neg (by rintro (q | q); exact h0 q; exact h3 q)]
          refine ⟨g, 0, ?_, fun q => absurd q (nI_ne1 (by omega)), fun _ => rfl⟩
          iterate 2 refine Rn.step rfl ?_
          refine Rn.br1 rfl (nI_le (by omega) (by omega)) ?_
          refine Rn.step rfl ?_
          refine Rn.br2 rfl (nI_nle (by omega) (by omega)) ?_
          iterate 3 refine Rn.step rfl ?_
          refine Rn.top (x' := nI (i % 4)) hz3 ?_
          refine Rn.step rfl ?_
          refine Rn.br2 rfl (fun q => h3 ((nI_eq (b := 3) (by omega) (by decide)).mp q)) ?_
          iterate 3 refine Rn.step rfl ?_
          refine Rn.hp (h2 := wY ax vx tx (va_up a 62 g) (upd v 31 (nI 0)) t) (by rw [← upd_upd v 31 (nI ((i + 1) / 4)) (nI 0)]; rfl) ?_
          repeat refine Rn.step rfl ?_
          exact Rn.ret rfl
    | succ j ih =>
      intro i g hi hg
      have hz3 : nI i - nI i / nI 4 * nI 4 = nI (i % 4) := pk_rem (by omega) (by decide) (by decide)
      have hk : i % 4 < 4 := Nat.mod_lt _ (by decide)
      have hrun : ∀ o, Rn E 3 mX8_readsLogs (38, [(4, .int (lgF (i % 4) (b i))), (3, .int (nI (i % 4))), (2, .int (nI i)), (1, .int (nI z)), (0, .ref 53)], [], wY ax vx tx (va_up a 62 g) (upd v 31 (nI ((i + 1) / 4))) t) o → Rn E 3 mX8_readsLogs (14, [(2, .int (nI i)), (1, .int (nI z)), (0, .ref 53)], [], wY ax vx tx (va_up a 62 g) (upd v 31 (nI ((i + 1) / 4))) t) o := by
        intro o kk
        iterate 2 refine Rn.step rfl ?_
        refine Rn.br2 rfl (nle (by omega) (by omega)) ?_
        iterate 3 refine Rn.step rfl ?_
        refine Rn.top (x' := nI (i % 4)) hz3 ?_
        iterate 7 refine Rn.step rfl ?_
        refine Rn.ald (64 + i) rfl (nI_add 64 i) (by omega) (by decide) ?_
        refine Rn.top (x' := b i) (hbi i) ?_
        refine Rn.calli rfl rfl rfl (by decide) (m_logOf hk (b i) _) (fun z1 f1 => ?_)
        rw [← f1] at kk
        refine Rn.step rfl ?_
        exact kk
      unfold flg
      by_cases hm : msB (i % 4) (b i) = true
      · rw [if_pos hm]
        have hne := (lgF_ms hk (b i)).mp hm
        obtain ⟨g1, hg1⟩ : ∃ g1, g1 = (if i % 4 < 3 then upd g (3 * (i / 4) + i % 4) (lgF (i % 4) (b i)) else g) := ⟨_, rfl⟩
        obtain ⟨g', c, hr, hc1, hc2⟩ := ih (i + 1) g1 (by omega) (fun i' hi' => by
          by_cases hii : i' = i
          · subst hii
            refine ⟨hm, fun h3 => ?_⟩
            rw [hg1, if_pos h3]; exact pk_us
          · refine ⟨(hg i' (by omega)).1, fun h3 => ?_⟩
            rw [hg1]
            by_cases h4 : i % 4 < 3
            · rw [if_pos h4, pk_un (by omega)]; exact (hg i' (by omega)).2 h3
            · rw [if_neg h4]; exact (hg i' (by omega)).2 h3)
        refine ⟨g', c, hrun _ ?_, hc1, hc2⟩
        iterate 2 refine Rn.step rfl ?_
        refine Rn.br1 rfl hne ?_
        iterate 2 refine Rn.step rfl ?_
        have htail : Rn E 3 mX8_readsLogs (71, [(4, .int (lgF (i % 4) (b i))), (3, .int (nI (i % 4))), (2, .int (nI i)), (1, .int (nI z)), (0, .ref 53)], [], wY ax vx tx (va_up a 62 g1) (upd v 31 (nI ((i + 1) / 4))) t) (some (.int (flg b z (i + 1) j)), wY ax vx tx (va_up a 62 g') (upd v 31 (nI c)) t) := by
          have hfin : ∀ x : Nat, (i + 1 + 1) / 4 = (i + 1) / 4 + x → Rn E 3 mX8_readsLogs (86, [(4, .int (lgF (i % 4) (b i))), (3, .int (nI (i % 4))), (2, .int (nI i)), (1, .int (nI z)), (0, .ref 53)], [.int (nI x), .int (nI ((i + 1) / 4)), .ref 53], wY ax vx tx (va_up a 62 g1) (upd v 31 (nI ((i + 1) / 4))) t) (some (.int (flg b z (i + 1) j)), wY ax vx tx (va_up a 62 g') (upd v 31 (nI c)) t) := by
            intro x hx
            refine Rn.step rfl ?_
            refine Rn.top (x' := nI ((i + 1 + 1) / 4)) (by rw [hx]; exact nI_add _ _) ?_
            refine Rn.step rfl ?_
            refine Rn.hp (h2 := wY ax vx tx (va_up a 62 g1) (upd v 31 (nI ((i + 1 + 1) / 4))) t) (by rw [← upd_upd v 31 (nI ((i + 1) / 4)) (nI ((i + 1 + 1) / 4))]; rfl) ?_
            iterate 2 refine Rn.step rfl ?_
            rw [nI_succ i] at hr
            exact Rn.sub (by exact ⟨rfl, rfl, rfl, trivial⟩) hr
          iterate 5 refine Rn.step rfl ?_
          by_cases h2 : i % 4 = 2
          · refine Rn.br2 rfl (fun q => q (by rw [h2]; rfl)) ?_
            iterate 2 refine Rn.step rfl ?_
            exact hfin 1 (by omega)
          · refine Rn.br1 rfl (fun q => h2 ((nI_eq (b := 2) (by omega) (by decide)).mp q)) ?_
            refine Rn.step rfl ?_
            exact hfin 0 (by omega)
        by_cases h3 : i % 4 < 3
        · refine Rn.br2 rfl (nle (n := 3) h3 (by decide)) ?_
          iterate 5 refine Rn.step rfl ?_
          refine Rn.step rfl ?_
          refine Rn.top (x' := nI (i / 4)) (pk_div (d := 4) (by omega) (by decide) (by decide)) ?_
          iterate 4 refine Rn.step rfl ?_
          refine Rn.ast (3 * (i / 4) + i % 4) rfl (ix_am 3 (i / 4) (i % 4)) (by omega) (by decide) (h3 := wY ax vx tx (va_up a 62 g1) (upd v 31 (nI ((i + 1) / 4))) t) (by rw [hg1, if_pos h3]; rfl) ?_
          exact htail
        · refine Rn.br1 rfl (nI_le (a := 3) (by omega) (by omega)) ?_
          rw [show g1 = g from by rw [hg1, if_neg h3]] at htail
          exact htail
      · rw [if_neg hm]
        have heq : lgF (i % 4) (b i) = -9 := Decidable.not_not.mp (fun q => hm ((lgF_ms hk (b i)).mpr q))
        rw [heq] at hrun
        refine ⟨g, 0, hrun _ ?_, fun q => absurd q (nI_ne1 (by omega)), fun _ => rfl⟩
        iterate 6 refine Rn.step rfl ?_
        refine Rn.hp (h2 := wY ax vx tx (va_up a 62 g) (upd v 31 (nI 0)) t) (by rw [← upd_upd v 31 (nI ((i + 1) / 4)) (nI 0)]; rfl) ?_
        repeat refine Rn.step rfl ?_
        exact Rn.ret rfl
  obtain ⟨g', c, hr, hc1, hc2⟩ := key z 0 (a 62) (by omega) (fun i' hi' => absurd hi' (Nat.not_lt_zero _))
  refine ⟨g', c, ?_, fun hf => ?_, hc2⟩
  · iterate 3 refine Rn.step rfl ?_
    iterate 4 refine Rn.step rfl ?_
    refine Rn.top (x' := nI z) hz ?_
    iterate 3 refine Rn.step rfl ?_
    exact hr
  · obtain ⟨hc, hg⟩ := hc1 hf
    refine ⟨hc, fun l hl => ?_⟩
    have hzz := flg_ok (by omega) hf
    have g0 := hg (4 * l) (by omega)
    have g1 := hg (4 * l + 1) (by omega)
    have g2 := hg (4 * l + 2) (by omega)
    rw [show 4 * l % 4 = 0 by omega, show 4 * l / 4 = l by omega] at g0
    rw [show (4 * l + 1) % 4 = 1 by omega, show (4 * l + 1) / 4 = l by omega] at g1
    rw [show (4 * l + 2) % 4 = 2 by omega, show (4 * l + 2) / 4 = l by omega] at g2
    refine ⟨?_, ?_, ?_⟩
    · rw [show 3 * l = 3 * l + 0 from rfl, g0.2 (by decide)]
      have q := g0.1
      rw [msB0, Bool.and_eq_true, decide_eq_true_eq, decide_eq_true_eq] at q
      rw [lgF0]
      rw [if_pos q]
    · rw [g1.2 (by decide)]
      have q := g1.1
      rw [msB1, Bool.and_eq_true, decide_eq_true_eq, decide_eq_true_eq] at q
      rw [lgF1]
      rw [if_neg (by rintro (h | h); exact absurd q.1 (Int32.not_le.mpr h); exact absurd q.2 (Int32.not_le.mpr h))]
    · rw [g2.2 (by decide)]
      have q := g2.1
      rw [msB2, Bool.or_eq_true, decide_eq_true_eq, decide_eq_true_eq] at q
      rw [lgF2]
      by_cases h : b (4 * l + 2) = 115
      · rw [if_pos h, h]; decide
      · rw [if_neg h, if_pos (q.resolve_left h), if_pos (q.resolve_left h)]
end M2
