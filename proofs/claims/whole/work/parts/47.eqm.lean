section EQM
section INNER
variable {slm wt lo : Nat → Int32} {n m : Nat} {po : Int32} {sp : Nat}
theorem gk_none {s : g5} {d : Int32} (h : ∀ k, k < n → ¬ (s.1 k = nI sp ∧ ¬ bt d k)) : lp (fun k x => gkF slm wt lo n m po sp k x) 0 n (s, d) = (s, d) := by
  have := lp_inv (f := fun k x => gkF slm wt lo n m po sp k x) (fun _ x => x = (s, d)) (i := 0) (j := n) (s := (s, d)) rfl (fun k x _ hk hI => by
    rw [hI]; unfold gkF; exact if_neg (h k (by omega)))
  exact this
theorem gk_one {s : g5} {d : Int32} (hn : n ≤ 8) {k0 : Nat} (hk0 : k0 < n) (h0 : s.1 k0 = nI sp ∧ ¬ bt d k0) (h : ∀ k, k < n → ¬ k = k0 → ¬ (s.1 k = nI sp ∧ ¬ bt d k)) : lp (fun k x => gkF slm wt lo n m po sp k x) 0 n (s, d) = (g5u m k0 s (mvF (decide (bt po k0)) wt (lo (3 * k0 + 1)) (gbk s.1 lo n k0) (slm sp + ib (bt po k0)) 17 0 sp), d ||| sh1 (nI k0)) := by
  have := lp_inv (f := fun k x => gkF slm wt lo n m po sp k x) (fun c x => (c ≤ k0 → x = (s, d)) ∧ (k0 < c → x = (g5u m k0 s (mvF (decide (bt po k0)) wt (lo (3 * k0 + 1)) (gbk s.1 lo n k0) (slm sp + ib (bt po k0)) 17 0 sp), d ||| sh1 (nI k0)))) (i := 0) (j := n) (s := (s, d)) ⟨fun _ => rfl, fun q => absurd q (Nat.not_lt_zero _)⟩ (fun k x _ hk hI => by
    rcases Nat.lt_trichotomy k k0 with q | q | q
    · refine ⟨fun _ => ?_, fun q2 => by omega⟩
      rw [hI.1 (by omega)]; unfold gkF; exact if_neg (h k (by omega) (by omega))
    · refine ⟨fun q2 => by omega, fun _ => ?_⟩
      rw [hI.1 (by omega), q]; unfold gkF; exact if_pos h0
    · refine ⟨fun q2 => by omega, fun _ => ?_⟩
      rw [hI.2 q]; unfold gkF
      refine if_neg (fun hc => h k (by omega) (by omega) ?_)
      obtain ⟨c1, c2⟩ := hc
      have hne : ¬ k = k0 := by omega
      unfold g5u at c1
      dsimp only at c1 c2
      rw [pk_un hne] at c1
      rw [bt_or (by omega) (by omega)] at c2
      exact ⟨c1, fun q => c2 (Or.inl q)⟩)
  exact this.2 (by omega)
end INNER
section SPANS
variable {n m z : Nat} {ln x tt : Nat → Nat} {H0 O0 A0 B0 : Nat → Int32} {sl de ta wl slm wt lo LN : Nat → Int32} {po : Int32}
theorem out_first (x : Nat → Nat) : ∀ z, (∀ c, c < z → x c ≤ 16) → ∃ i, i ≤ z ∧ (∀ c, c < i → x c = 16) ∧ (i = z ∨ x i < 16) := by
  intro z
  induction z with
  | zero => intro _; exact ⟨0, Nat.le_refl _, fun c hc => absurd hc (Nat.not_lt_zero _), Or.inl rfl⟩
  | succ z ih =>
    intro h
    obtain ⟨i, h1, h2, h3⟩ := ih (fun c hc => h c (by omega))
    rcases h3 with rfl | h3
    · have := h i (by omega)
      by_cases q : x i = 16
      · refine ⟨i + 1, Nat.le_refl _, fun c hc => ?_, Or.inl rfl⟩
        by_cases k : c = i
        · subst k; exact q
        · exact h2 c (by omega)
      · exact ⟨i, by omega, h2, Or.inr (by omega)⟩
    · exact ⟨i, by omega, h2, Or.inr h3⟩
theorem spans (hn : n ≤ 8) (hL : LF n z ln x tt) (hlo : ∀ l, l < n → lo (3 * l + 1) = de l ∧ lo (3 * l + 2) = nI (tt l) ∧ ta l = nI (tt l)) (hwt : ∀ h, h < 16 → wl (m * 16 + h) = wt h) (hsl : ∀ h, h < 16 → slm h = sl h) (hLN : ∀ c, c < z → LN c = nI (ln c)) (hH0 : ∀ c, c < z → H0 (ln c) = nI (x c)) {Y0 : y3} {s0 : g5} (hC : CI n m z 0 ln x tt x 17 Y0) (hM : MR5 n m H0 O0 A0 B0 s0 Y0) : ∃ y b, CI n m z z ln x tt y b (lp (lnF sl de ta wl po m LN) 0 z Y0) ∧ MR5 n m H0 O0 A0 B0 (gsF slm wt lo n m po (s0, 0) 16).1 (lp (lnF sl de ta wl po m LN) 0 z Y0) := by
  obtain ⟨l1, l2, l3, l4, l5⟩ := id hL
  have key : ∀ j, j ≤ 16 → ∃ i y b, i ≤ z ∧ (∀ c, c < z → (c < i ↔ 16 ≤ x c + j)) ∧ CI n m z i ln x tt y b (lp (lnF sl de ta wl po m LN) 0 i Y0) ∧ MR5 n m H0 O0 A0 B0 (gsF slm wt lo n m po (s0, 0) j).1 (lp (lnF sl de ta wl po m LN) 0 i Y0) ∧ (∀ l, l < n → (bt (gsF slm wt lo n m po (s0, 0) j).2 l ↔ ∃ c, c < z ∧ ln c = l ∧ x c < 16 ∧ 16 ≤ x c + j)) := by
    intro j
    induction j with
    | zero =>
      intro _
      obtain ⟨i0, h1, h2, h3⟩ := out_first x z l4
      have hpre : ∀ i, i ≤ i0 → lp (lnF sl de ta wl po m LN) 0 i Y0 = Y0 ∧ CI n m z i ln x tt x 17 Y0 := by
        intro i
        induction i with
        | zero => intro _; exact ⟨rfl, hC⟩
        | succ i ih =>
          intro hi
          obtain ⟨e, hc⟩ := ih (by omega)
          refine ⟨?_, CI_skip hL (by omega) (h2 i (by omega)) hc⟩
          rw [lp_end, e, Nat.zero_add]
          unfold lnF
          rw [hLN i (by omega), nI_clamp (by have := l1 i (by omega); omega), (hc.1 i (by omega)).1, h2 i (by omega)]
          exact if_neg (by decide)
      obtain ⟨e, hc⟩ := hpre i0 (Nat.le_refl _)
      refine ⟨i0, x, 17, h1, fun c hc => ?_, by rw [e]; exact hc, by rw [e]; exact hM, fun l hl => ?_⟩
      · constructor
        · intro q; have := h2 c q; omega
        · intro q
          rcases Nat.lt_or_ge c i0 with k | k
          · exact k
          · exfalso
            rcases h3 with h3 | h3
            · omega
            · rcases Nat.lt_or_ge i0 c with k2 | k2
              · have := l3 i0 c k2 hc; omega
              · have : c = i0 := by omega
                subst this; omega
      · constructor
        · intro q
          exfalso
          have : bt 0 l := q
          rw [bt_gb (by omega), gb_0] at this
          cases this
        · rintro ⟨c, q1, q2, q3, q4⟩; omega
    | succ j ih =>
      intro hj
      obtain ⟨i, y, b, h1, h2, h3, h4, h5⟩ := ih (by omega)
      have egs : gsF slm wt lo n m po (s0, 0) (j + 1) = lp (fun k x => gkF slm wt lo n m po (15 - j) k x) 0 n (gsF slm wt lo n m po (s0, 0) j) := by
        unfold gsF; rw [lp_end, Nat.zero_add]
      rw [egs]
      clear egs
      revert h4 h5
      generalize gsF slm wt lo n m po (s0, 0) j = sd
      obtain ⟨s, d⟩ := sd
      intro h4 h5
      dsimp only at h4 h5
      have hpos : ∀ k, k < n → s.1 k = nI (15 - j) → ¬ bt d k → ∃ c, c < z ∧ i ≤ c ∧ ln c = k ∧ x c = 15 - j := by
        intro k hk hsk hdk
        rw [(h4 k hk).1] at hsk
        by_cases hin : ∃ c, c < z ∧ ln c = k
        · obtain ⟨c, hc, rfl⟩ := hin
          rw [(h3.1 c hc).1] at hsk
          have hy := (h3.1 c hc).2
          have e := (nI_eq (by omega) (by omega)).mp hsk
          rcases Nat.lt_or_ge c i with q | q
          · exfalso
            have q2 := (h2 c hc).mp q
            by_cases q3 : x c < 16
            · exact hdk ((h5 _ hk).mpr ⟨c, hc, rfl, q3, q2⟩)
            · omega
          · exact ⟨c, hc, q, rfl, by have := (hy.2.2 q).1; omega⟩
        · have := (h3.2.1 k hk (fun c hc q => hin ⟨c, hc, q⟩)).1
          rw [this] at hsk
          exact absurd hsk.symm (nI_ne1 (by omega))
      have hgt : ∀ c, i < c → c < z → x c < 15 - j := by
        intro c q1 q2
        have q3 := l3 i c q1 q2
        have q5 : ¬ 16 ≤ x i + j := fun q => Nat.lt_irrefl i ((h2 i (by omega)).mpr q)
        omega
      by_cases hA : i < z ∧ x i = 15 - j
      · obtain ⟨hiz, hxi⟩ := hA
        have hdi : ¬ bt d (ln i) := by
          rw [h5 _ (l1 i hiz)]
          rintro ⟨c, q1, q2, q3, q4⟩
          rcases Nat.lt_trichotomy c i with k | k | k
          · exact l2 c i k hiz q2
          · subst k; omega
          · exact l2 i c k q1 q2.symm
        have hsi : s.1 (ln i) = nI (15 - j) := by
          rw [(h4 _ (l1 i hiz)).1, (h3.1 i hiz).1, ((h3.1 i hiz).2.2.2 (Nat.le_refl _)).1, hxi]
        rw [gk_one hn (l1 i hiz) ⟨hsi, hdi⟩ (fun k hk hne hc => by
          obtain ⟨c, q1, q2, q3, q4⟩ := hpos k hk hc.1 hc.2
          rcases Nat.lt_or_ge i c with q | q
          · have := hgt c q q1; omega
          · exact hne (by rw [← q3, show c = i by omega]))]
        obtain ⟨y', b', k1, k2⟩ := CI_step (sl := sl) (de := de) (ta := ta) (wl := wl) (slm := slm) (wt := wt) (lo := lo) (LN := LN) (po := po) hn hL hlo hwt hsl hLN hH0 hiz (by omega) h3 h4
        rw [hxi] at k2
        refine ⟨i + 1, y', b', by omega, fun c hc => ?_, by rw [lp_end, Nat.zero_add]; exact k1, by rw [lp_end, Nat.zero_add]; exact k2, fun l hl => ?_⟩
        · have q1 := h2 c hc
          constructor
          · intro q
            by_cases k : c = i
            · subst k; omega
            · have := q1.mp (by omega); omega
          · intro q
            rcases Nat.lt_or_ge i c with k | k
            · have := hgt c k hc; omega
            · omega
        · dsimp only
          rw [bt_or (by have := l1 i hiz; omega) (by omega), h5 l hl]
          constructor
          · rintro (⟨c, q1, q2, q3, q4⟩ | q)
            · exact ⟨c, q1, q2, q3, by omega⟩
            · exact ⟨i, hiz, q.symm, by omega, by omega⟩
          · rintro ⟨c, q1, q2, q3, q4⟩
            by_cases q5 : 16 ≤ x c + j
            · exact Or.inl ⟨c, q1, q2, q3, q5⟩
            · right
              rcases Nat.lt_trichotomy c i with k | k | k
              · exact absurd ((h2 c q1).mp k) q5
              · rw [← q2, k]
              · have := hgt c k q1; omega
      · rw [gk_none (fun k hk hc => by
          obtain ⟨c, q1, q2, q3, q4⟩ := hpos k hk hc.1 hc.2
          rcases Nat.lt_or_ge i c with q | q
          · have := hgt c q q1; omega
          · obtain rfl : c = i := by omega
            exact hA ⟨q1, q4⟩)]
        refine ⟨i, y, b, h1, fun c hc => ?_, h3, h4, fun l hl => ?_⟩
        · have q1 := h2 c hc
          constructor
          · intro q; have := q1.mp q; omega
          · intro q
            by_cases k0 : c < i
            · exact k0
            · exfalso
              have k1 : ¬ 16 ≤ x c + j := fun q => k0 (q1.mpr q)
              rcases Nat.lt_or_ge i c with k | k
              · have := hgt c k hc; omega
              · obtain rfl : c = i := by omega
                exact hA ⟨hc, by omega⟩
        · rw [h5 l hl]
          constructor
          · rintro ⟨c, q1, q2, q3, q4⟩; exact ⟨c, q1, q2, q3, by omega⟩
          · rintro ⟨c, q1, q2, q3, q4⟩
            refine ⟨c, q1, q2, q3, ?_⟩
            by_cases k0 : c < i
            · exact (h2 c q1).mp k0
            · exfalso
              have k1 : ¬ 16 ≤ x c + j := fun q => k0 ((h2 c q1).mpr q)
              rcases Nat.lt_or_ge i c with k | k
              · have := hgt c k q1; omega
              · obtain rfl : c = i := by omega
                exact hA ⟨q1, by omega⟩
  obtain ⟨i, y, b, h1, h2, h3, h4, h5⟩ := key 16 (Nat.le_refl _)
  obtain rfl : i = z := by
    rcases Nat.lt_or_ge i z with q | q
    · have := (h2 i q).mpr (by omega); omega
    · omega
  exact ⟨y, b, h3, h4⟩
end SPANS
section PUT
variable {n m z : Nat} {lo st : Nat → Int32} {wq : Int32}
theorem gp_blocked {H : Nat → Int32} (hn : n ≤ 8) (h : ∃ j, j < n ∧ ¬ H j = -1 ∧ lsP (H j) (lo (3 * j + 2) = 1) 0) : ∀ j i, i + j = n → lp (fun k H => if (H k = -1 ∧ ¬ nI m < lo (3 * k)) ∧ wbF H lo n k 0 = -1 then upd H k 0 else H) i j H = H := by
  obtain ⟨j0, h1, h2, h3⟩ := h
  intro j
  induction j with
  | zero => intro i _; rfl
  | succ j ih =>
    intro i hi
    show lp _ (i + 1) j (if (H i = -1 ∧ ¬ nI m < lo (3 * i)) ∧ wbF H lo n i 0 = -1 then upd H i 0 else H) = H
    rw [if_neg (fun q => by
      have q2 := (wb_none hn).mp q.2 j0 h1
      by_cases k : j0 = i
      · subst k; exact h2 q.1.1
      · exact q2 ⟨k, h3⟩)]
    exact ih (i + 1) (by omega)
theorem gp_first {H : Nat → Int32} (hn : n ≤ 8) (hst : ∀ l, l < n → lo (3 * l) = st l) (hN : ∀ j, j < n → ¬ lsP (H j) (lo (3 * j + 2) = 1) 0) (hw : ∀ l, l < n → (bt wq l ↔ H l = -1)) (hz : ∀ l, l < n → H l = -1 → z < 8) : ∀ j i, i + j = n → lp (fun k H => if (H k = -1 ∧ ¬ nI m < lo (3 * k)) ∧ wbF H lo n k 0 = -1 then upd H k 0 else H) i j H = match piF m st z wq i j with
    | none => H
    | some l => upd H l 0 := by
  intro j
  induction j with
  | zero => intro i _; rfl
  | succ j ih =>
    intro i hi
    show lp _ (i + 1) j (if (H i = -1 ∧ ¬ nI m < lo (3 * i)) ∧ wbF H lo n i 0 = -1 then upd H i 0 else H) = _
    unfold piF
    by_cases hc : bt wq i ∧ ¬ nI m < st i ∧ z < 8
    · rw [if_pos hc, if_pos ⟨⟨(hw i (by omega)).mp hc.1, by rw [hst i (by omega)]; exact hc.2.1⟩, (wb_none hn).mpr (fun j hj q => hN j hj q.2)⟩]
      exact gp_blocked hn ⟨i, by omega, by rw [pk_us]; decide, by rw [pk_us]; exact ⟨by decide, Or.inl rfl⟩⟩ j (i + 1) (by omega)
    · rw [if_neg hc, if_neg (fun q => hc ⟨(hw i (by omega)).mpr q.1.1, by rw [← hst i (by omega)]; exact q.1.2, hz i (by omega) q.1.1⟩)]
      exact ih (i + 1) (by omega)
end PUT
end EQM
