section DFC
/-- what is so of a drive's heads -/
def DF (n : Nat) (ta : Nat → Int32) (m : Nat) (H : Nat → Int32) : Prop := (∀ i l, i < m → l < n → H (i * 8 + l) = -1 ∨ ∃ h, h ≤ 16 ∧ H (i * 8 + l) = nI h) ∧ (∀ i s, i < m → s < 16 → ∀ l l', l < n → l' < n → liP H ta i (nI s) l → liP H ta i (nI s) l' → l = l')
theorem li_nat {H ta : Nat → Int32} {m s l h u : Nat} (hH : H (m * 8 + l) = nI h) (hta : ta l = nI u) (hh : h ≤ 16) (hu : u ≤ 1) (hs : s < 16) : liP H ta m (nI s) l ↔ h < 16 ∧ s ≤ h ∧ h - u ≤ s := by
  show (¬ H (m * 8 + l) = 16 ∧ ¬ H (m * 8 + l) < nI s ∧ ¬ nI s < H (m * 8 + l) - ta l) ↔ _
  rw [hH, hta, nI_ltI (by omega) (by omega)]
  have e16 : nI h = 16 ↔ h = 16 := nI_eq (b := 16) (by omega) (by decide)
  rw [e16]
  have e : nI s < nI h - nI u ↔ ¬ h - u ≤ s := by
    rcases Nat.lt_or_ge h u with q | q
    · obtain rfl : h = 0 := by omega
      obtain rfl : u = 1 := by omega
      have : ¬ nI s < nI 0 - nI 1 := fun k => absurd (nI_pos' (n := s) (by omega)) (Int32.not_le.mpr (Int32.lt_trans k (by decide)))
      exact ⟨fun k => absurd k this, fun k => absurd (by omega) k⟩
    · rw [pk_sub q, nI_ltI (by omega) (by omega)]; omega
  rw [e]
  omega
theorem li_m1 {H ta : Nat → Int32} {m s l : Nat} (hs : s < 16) (hH : H (m * 8 + l) = -1) : ¬ liP H ta m (nI s) l := by
  rintro ⟨_, h2, _⟩
  rw [hH] at h2
  exact h2 (Int32.lt_of_lt_of_le (by decide) (nI_pos' (n := s) (by omega)))
theorem DF_row {n m : Nat} {tt : Nat → Nat} {ta : Nat → Int32} (hta : ∀ l, l < n → ta l = nI (tt l)) {X : dS} (hD : DI n (m + 1) tt X) (hP : DF n ta m X.1) : DF n ta (m + 1) X.1 := by
  obtain ⟨ln, x, ⟨l1, l2, l3, l4, l5⟩, hLN, hoff, -, -⟩ := hD
  have hrow : ∀ l, hxr (m + 1) X.1 l = X.1 (m * 8 + l) := fun l => by unfold hxr; rw [if_pos (Nat.succ_pos m)]; rfl
  simp only [hrow] at hLN hoff
  have hpos : ∀ l, l < n → X.1 (m * 8 + l) = -1 ∨ ∃ c, c < X.2.2.2.1 ∧ ln c = l := by
    intro l hl
    by_cases hin : ∃ c, c < X.2.2.2.1 ∧ ln c = l
    · exact Or.inr hin
    · exact Or.inl (hoff l hl (fun c hc q => hin ⟨c, hc, q⟩))
  refine ⟨fun i l hi hl => ?_, fun i s hi hs l l' hl hl' h1 h2 => ?_⟩
  · by_cases h : i < m
    · exact hP.1 i l h hl
    · obtain rfl : i = m := by omega
      rcases hpos l hl with q | ⟨c, hc, rfl⟩
      · exact Or.inl q
      · exact Or.inr ⟨x c, l4 c hc, (hLN c hc).2⟩
  · by_cases h : i < m
    · exact hP.2 i s h hs l l' hl hl' h1 h2
    · obtain rfl : i = m := by omega
      rcases hpos l hl with q | ⟨c, hc, rfl⟩
      · exact absurd h1 (li_m1 hs q)
      · rcases hpos l' hl' with q | ⟨c', hc', rfl⟩
        · exact absurd h2 (li_m1 hs q)
        · rw [li_nat (hLN c hc).2 (hta _ hl) (l4 c hc) (l5 _ hl) hs] at h1
          rw [li_nat (hLN c' hc').2 (hta _ hl') (l4 c' hc') (l5 _ hl') hs] at h2
          rcases Nat.lt_trichotomy c c' with k | k | k
          · have := l3 c c' k hc'; omega
          · rw [k]
          · have := l3 c' c k hc; omega
theorem drive_facts {n : Nat} (hn : n ≤ 8) {tt : Nat → Nat} {sl de ta st wl po : Nat → Int32} (hta : ∀ l, l < n → ta l = nI (tt l)) (htt : ∀ l, l < n → tt l ≤ 1) : ∀ m, m ≤ 24 →
    DI n m tt (lp (mnF n sl de ta st wl po) 0 m (z0, z0, z0, 0, sh1 (nI n) - 1)) ∧ DF n ta m (lp (mnF n sl de ta st wl po) 0 m (z0, z0, z0, 0, sh1 (nI n) - 1)).1 ∧
    (∀ l, l < n → (hxr m (lp (mnF n sl de ta st wl po) 0 m (z0, z0, z0, 0, sh1 (nI n) - 1)).1 l = 16 ↔ ¬ moF (lp (mnF n sl de ta st wl po) 0 m (z0, z0, z0, 0, sh1 (nI n) - 1)).1 l 0 m = -1)) := by
  intro m
  induction m with
  | zero =>
    intro _
    refine ⟨DI_init hn htt _ _ _, ⟨fun i l hi => absurd hi (Nat.not_lt_zero _), fun i s hi => absurd hi (Nat.not_lt_zero _)⟩, fun l hl => ?_⟩
    show ((-1 : Int32) = 16 ↔ ¬ (-1 : Int32) = -1)
    decide
  | succ m ih =>
    intro hm
    obtain ⟨i1, i2, i3⟩ := ih (by omega)
    rw [lp_end, Nat.zero_add]
    revert i1 i2 i3
    generalize lp (mnF n sl de ta st wl po) 0 m (z0, z0, z0, 0, sh1 (nI n) - 1) = X
    intro i1 i2 i3
    obtain ⟨k1, k2, -, k4⟩ := minute (sl := sl) (de := de) (ta := ta) (st := st) (wl := wl) (po := po) (slm := sl) (wt := fun h => wl (m * 16 + h)) (lo := fun j => if j % 3 = 0 then st (j / 3) else if j % 3 = 1 then de (j / 3) else ta (j / 3)) (tt := tt) hn (show m < 24 by omega) (fun l hl => by
      rw [show 3 * l % 3 = 0 by omega, show (3 * l + 1) % 3 = 1 by omega, show (3 * l + 2) % 3 = 2 by omega, show 3 * l / 3 = l by omega, show (3 * l + 1) / 3 = l by omega, show (3 * l + 2) / 3 = l by omega]
      exact ⟨rfl, rfl, hta l hl, hta l hl⟩) (fun h hh => rfl) (fun h hh => rfl) i1 (s := (fun l => hxr m X.1 l, z0, z0, z0, z0)) (fun l hl => rfl)
    revert k1 k2 k4
    generalize mnF n sl de ta st wl po m X = X'
    intro k1 k2 k4
    have hrow : ∀ l, hxr (m + 1) X'.1 l = X'.1 (m * 8 + l) := fun l => by unfold hxr; rw [if_pos (Nat.succ_pos m)]; rfl
    refine ⟨k1, DF_row hta k1 ⟨fun i l hi hl => ?_, fun i s hi hs l l' hl hl' h1 h2 => ?_⟩, fun l hl => ?_⟩
    · rw [(k2 _ (by omega)).1]; exact i2.1 i l hi hl
    · refine i2.2 i s hi hs l l' hl hl' ?_ ?_
      · have h1 : ¬ X'.1 (i * 8 + l) = 16 ∧ ¬ X'.1 (i * 8 + l) < nI s ∧ ¬ nI s < X'.1 (i * 8 + l) - ta l := h1
        rw [(k2 _ (by omega)).1] at h1; exact h1
      · have h2 : ¬ X'.1 (i * 8 + l') = 16 ∧ ¬ X'.1 (i * 8 + l') < nI s ∧ ¬ nI s < X'.1 (i * 8 + l') - ta l' := h2
        rw [(k2 _ (by omega)).1] at h2; exact h2
    · have ecut : moF X'.1 l 0 m = moF X.1 l 0 m := moF_cut (m := m) (fun i hi => (k2 _ (by omega)).1) m 0 (by omega)
      rw [hrow, moF_snoc m 0 (by omega), ecut, Nat.zero_add]
      by_cases h1 : moF X.1 l 0 m = -1
      · rw [if_pos h1]
        by_cases h3 : X'.1 (m * 8 + l) = 16
        · rw [if_pos h3]; exact ⟨fun _ => nI_ne1 (by omega), fun _ => h3⟩
        · rw [if_neg h3]; exact ⟨fun q => absurd q h3, fun q => absurd rfl q⟩
      · rw [if_neg h1]
        exact ⟨fun _ => h1, fun _ => k4 l hl ((i3 l hl).mpr h1)⟩
/-- the facts of a drive, at its end -/
def DE (n : Nat) (ta : Nat → Int32) (D : dS) : Prop := DF n ta 24 D.1 ∧ ∀ l, l < n → (D.1 (23 * 8 + l) = 16 ↔ ¬ moF D.1 l 0 24 = -1)
theorem crn_DE {n : Nat} (hn : n ≤ 8) {tt : Nat → Nat} {sl de ta st wl kda nu : Nat → Int32} {mn : Nat → Nat} {k : Nat} {kp : Int32} (hta : ∀ l, l < n → ta l = nI (tt l)) (htt : ∀ l, l < n → tt l ≤ 1) : DE n ta (crn kda nu mn k n sl de ta st wl kp) := by
  obtain ⟨-, h2, h3⟩ := drive_facts (sl := sl) (de := de) (st := st) (wl := wl) (po := cmk kda nu mn k 0 kp) hn hta htt 24 (Nat.le_refl _)
  have hD : crn kda nu mn k n sl de ta st wl kp = lp (mnF n sl de ta st wl (cmk kda nu mn k 0 kp)) 0 24 (z0, z0, z0, 0, sh1 (nI n) - 1) := rfl
  rw [hD]
  revert h2 h3
  generalize lp (mnF n sl de ta st wl (cmk kda nu mn k 0 kp)) 0 24 (z0, z0, z0, 0, sh1 (nI n) - 1) = D
  intro h2 h3
  exact ⟨h2, fun l hl => h3 l hl⟩
/-- last as first, where there is but one -/
theorem who_eq {P : Nat → Prop} [DecidablePred P] {f : Nat → Nat → Int32} (f0 : ∀ i, f i 0 = -1) (fs : ∀ i j, f i (j + 1) = if P i then nI i else f (i + 1) j) : ∀ n, n < 2 ^ 31 → (∀ l l', l < n → l' < n → P l → P l' → l = l') → lp (fun j (w : Int32) => if P j then nI j else w) 0 n (-1) = f 0 n := by
  have hnone : ∀ j i, (∀ l, i ≤ l → l < i + j → ¬ P l) → f i j = -1 := by
    intro j
    induction j with
    | zero => intro i _; exact f0 i
    | succ j ih =>
      intro i h
      rw [fs, if_neg (h i (Nat.le_refl _) (by omega))]
      exact ih (i + 1) (fun l q1 q2 => h l (by omega) (by omega))
  have hone : ∀ j i l, i ≤ l → l < i + j → P l → (∀ l', i ≤ l' → l' < l → ¬ P l') → f i j = nI l := by
    intro j
    induction j with
    | zero => intro i l h1 h2; omega
    | succ j ih =>
      intro i l h1 h2 h3 h4
      rw [fs]
      by_cases q : i = l
      · subst q; rw [if_pos h3]
      · rw [if_neg (h4 i (Nat.le_refl _) (by omega))]
        exact ih (i + 1) l (by omega) (by omega) h3 (fun l' k1 k2 => h4 l' (by omega) k2)
  intro n hn hu
  by_cases hin : ∃ l, l < n ∧ P l
  · obtain ⟨l, hl, hP⟩ := hin
    rw [hone n 0 l (by omega) (by omega) hP (fun l' _ k hp => by have := hu l l' hl (by omega) hP hp; omega)]
    have := lp_inv (f := fun j (w : Int32) => if P j then nI j else w) (fun c w => (c ≤ l → w = -1) ∧ (l < c → w = nI l)) (i := 0) (j := n) (s := (-1 : Int32)) ⟨fun _ => rfl, fun q => absurd q (Nat.not_lt_zero _)⟩ (fun c w _ hc hI => by
      rcases Nat.lt_trichotomy c l with q | q | q
      · refine ⟨fun _ => ?_, fun k => by omega⟩
        rw [if_neg (fun hp => by have := hu l c hl (by omega) hP hp; omega)]; exact hI.1 (by omega)
      · subst q
        refine ⟨fun k => by omega, fun _ => ?_⟩
        rw [if_pos hP]
      · refine ⟨fun k => by omega, fun _ => ?_⟩
        rw [if_neg (fun hp => by have := hu l c hl (by omega) hP hp; omega)]; exact hI.2 q)
    exact this.2 (by omega)
  · rw [hnone n 0 (fun l _ hl hp => hin ⟨l, by omega, hp⟩)]
    exact (last_none n hn).mpr (fun j hj hp => hin ⟨j, hj, hp⟩)
end DFC
