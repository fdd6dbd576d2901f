section EQL
def cntB (p : Nat → Bool) : Nat → Nat
  | 0 => 0
  | n + 1 => cntB p n + if p n = true then 1 else 0
theorem cnt_congr {p q : Nat → Bool} : ∀ n, (∀ l, l < n → p l = q l) → cntB p n = cntB q n := by
  intro n
  induction n with
  | zero => intro _; rfl
  | succ n ih =>
    intro h
    unfold cntB
    rw [ih (fun l hl => h l (by omega)), h n (by omega)]
theorem cnt_del {p q : Nat → Bool} {l : Nat} : ∀ n, l < n → p l = true → q l = false → (∀ j, j < n → ¬ j = l → q j = p j) → cntB p n = cntB q n + 1 := by
  intro n
  induction n with
  | zero => intro h; omega
  | succ n ih =>
    intro h1 h2 h3 h4
    unfold cntB
    by_cases hl : l = n
    · subst hl
      rw [h2, h3, cnt_congr (p := p) (q := q) l (fun j hj => (h4 j (by omega) (by omega)).symm)]
      simp
    · rw [ih (by omega) h2 h3 (fun j hj => h4 j (by omega)), h4 n (by omega) (by omega)]
      omega
theorem cnt_all {p : Nat → Bool} : ∀ n, (∀ l, l < n → p l = true) → cntB p n = n := by
  intro n
  induction n with
  | zero => intro _; rfl
  | succ n ih =>
    intro h
    unfold cntB
    rw [ih (fun l hl => h l (by omega)), h n (by omega)]
    rfl
theorem cnt_pos {p : Nat → Bool} {l : Nat} : ∀ n, l < n → p l = true → 1 ≤ cntB p n := by
  intro n
  induction n with
  | zero => intro h; omega
  | succ n ih =>
    intro h1 h2
    unfold cntB
    by_cases hl : l = n
    · subst hl; rw [h2]; simp
    · have := ih (by omega) h2; omega
/-- a log's head at the beginning of minute m -/
def hxr (m : Nat) (H : Nat → Int32) (l : Nat) : Int32 := if 0 < m then H ((m - 1) * 8 + l) else -1
/-- the drive at the beginning of minute m -/
def DI (n m : Nat) (tt : Nat → Nat) (X : dS) : Prop := ∃ ln x : Nat → Nat, LF n X.2.2.2.1 ln x tt ∧ (∀ c, c < X.2.2.2.1 → X.2.2.1 c = nI (ln c) ∧ hxr m X.1 (ln c) = nI (x c)) ∧ (∀ l, l < n → (∀ c, c < X.2.2.2.1 → ¬ ln c = l) → hxr m X.1 l = -1) ∧ (∀ l, l < n → (bt X.2.2.2.2 l ↔ ∀ c, c < X.2.2.2.1 → ¬ ln c = l)) ∧ X.2.2.2.1 + cntB (fun l => decide (bt X.2.2.2.2 l)) n = n
theorem DI_0 : ∀ n, n < 9 → ∀ l, l < n → bt (sh1 (nI n) - 1) l := by decide
theorem DI_init {n : Nat} (hn : n ≤ 8) {tt : Nat → Nat} (htt : ∀ l, l < n → tt l ≤ 1) (H S LN : Nat → Int32) : DI n 0 tt (H, S, LN, 0, sh1 (nI n) - 1) := by
  refine ⟨fun _ => 0, fun _ => 0, ⟨fun c hc => absurd hc (Nat.not_lt_zero _), fun c c' _ hc => absurd hc (Nat.not_lt_zero _), fun c c' _ hc => absurd hc (Nat.not_lt_zero _), fun c hc => absurd hc (Nat.not_lt_zero _), htt⟩, fun c hc => absurd hc (Nat.not_lt_zero _), fun l _ _ => rfl, fun l hl => ⟨fun _ c hc => absurd hc (Nat.not_lt_zero _), fun _ => DI_0 n (by omega) l hl⟩, ?_⟩
  show 0 + cntB _ n = n
  rw [Nat.zero_add]
  exact cnt_all n (fun l hl => decide_eq_true (DI_0 n (by omega) l hl))
theorem bm_in {n m : Nat} (hn : n ≤ 8) (H S : Nat → Int32) : (∀ l, l < n → (bmF n m (H, S)).1 (m * 8 + l) = hxr m H l ∧ (bmF n m (H, S)).2 (m * 8 + l) = 0) ∧ ∀ j, j < m * 8 → (bmF n m (H, S)).1 j = H j ∧ (bmF n m (H, S)).2 j = S j := by
  have h := lp_inv (f := fun l (s : f2) => (upd s.1 (m * 8 + l) (if 0 < m then s.1 ((m - 1) * 8 + l) else -1), upd s.2 (m * 8 + l) 0)) (fun c s => (∀ l, l < c → s.1 (m * 8 + l) = hxr m H l ∧ s.2 (m * 8 + l) = 0) ∧ ∀ j, j < m * 8 → s.1 j = H j ∧ s.2 j = S j) (i := 0) (j := n) (s := (H, S)) ⟨fun l hl => absurd hl (Nat.not_lt_zero _), fun j _ => ⟨rfl, rfl⟩⟩ (fun c s _ hc hI => by
    refine ⟨fun l hl => ?_, fun j hj => ?_⟩
    · dsimp only
      by_cases hx : l = c
      · subst hx
        rw [pk_us, pk_us]
        refine ⟨?_, rfl⟩
        unfold hxr
        by_cases hm : 0 < m
        · rw [if_pos hm, if_pos hm]; exact (hI.2 _ (by omega)).1
        · rw [if_neg hm, if_neg hm]
      · rw [pk_un (by omega), pk_un (by omega)]; exact hI.1 l (by omega)
    · dsimp only
      rw [pk_un (by omega), pk_un (by omega)]; exact hI.2 j hj)
  refine ⟨fun l hl => ?_, h.2⟩
  have := h.1 l
  rw [Nat.zero_add] at this
  exact this hl
theorem ln_keep {sl de ta wl LN : Nat → Int32} {po : Int32} {m : Nat} (z : Nat) (Y : y3) : ∀ j, j < m * 8 → (lp (lnF sl de ta wl po m LN) 0 z Y).1 j = Y.1 j ∧ (lp (lnF sl de ta wl po m LN) 0 z Y).2.1 j = Y.2.1 j := by
  intro j hj
  have h := lp_inv (f := lnF sl de ta wl po m LN) (fun _ s => s.1 j = Y.1 j ∧ s.2.1 j = Y.2.1 j) (i := 0) (j := z) (s := Y) ⟨rfl, rfl⟩ (fun c s _ _ hI => by
    unfold lnF
    split
    · dsimp only
      rw [pk_un (by omega)]
      refine ⟨hI.1, ?_⟩
      split
      · exact hI.2
      · rw [pk_un (by omega)]; exact hI.2
    · exact hI)
  exact h
theorem pn_keep {n m : Nat} {st : Nat → Int32} {X : dS} {j : Nat} (hj : j < m * 8) : (pnF n m st X).1 j = X.1 j ∧ (pnF n m st X).2.1 j = X.2.1 j := by
  unfold pnF
  split
  · exact ⟨rfl, rfl⟩
  · exact ⟨pk_un (by omega), rfl⟩
theorem piF_some {m : Nat} {st : Nat → Int32} {z : Nat} {wt : Int32} : ∀ (j i l : Nat), piF m st z wt i j = some l → bt wt l ∧ i ≤ l := by
  intro j
  induction j with
  | zero => intro i l h; cases h
  | succ j ih =>
    intro i l h
    unfold piF at h
    by_cases hc : bt wt i ∧ ¬ nI m < st i ∧ z < 8
    · rw [if_pos hc] at h
      cases h
      exact ⟨hc.1, Nat.le_refl _⟩
    · rw [if_neg hc] at h
      have := ih (i + 1) l h
      exact ⟨this.1, by omega⟩
theorem bt_del {x : Int32} {k j : Nat} (hk : k < 32) (hj : j < 32) : bt (x &&& (sh1 (nI k) ^^^ -1)) j ↔ bt x j ∧ ¬ j = k := by
  rw [bt_gb hj, bt_gb hj, gb_and, gb_not hj, gb_sh1 hk hj, Bool.and_eq_true]
  simp
theorem minute {n m : Nat} (hn : n ≤ 8) (hm : m < 24) {tt : Nat → Nat} {sl de ta st wl po slm wt lo : Nat → Int32} (hlo : ∀ l, l < n → lo (3 * l) = st l ∧ lo (3 * l + 1) = de l ∧ lo (3 * l + 2) = nI (tt l) ∧ ta l = nI (tt l)) (hwt : ∀ h, h < 16 → wl (m * 16 + h) = wt h) (hsl : ∀ h, h < 16 → slm h = sl h) {X : dS} (hD : DI n m tt X) {s : g5} (hs : ∀ l, l < n → s.1 l = hxr m X.1 l) : DI n (m + 1) tt (mnF n sl de ta st wl po m X) ∧ (∀ j, j < m * 8 → (mnF n sl de ta st wl po m X).1 j = X.1 j ∧ (mnF n sl de ta st wl po m X).2.1 j = X.2.1 j) ∧ MR5 n m (hxr m X.1) s.2.2.1 s.2.2.2.1 s.2.2.2.2 (lgA slm wt lo n m (po m) s) ((mnF n sl de ta st wl po m X).1, (mnF n sl de ta st wl po m X).2.1, 0) ∧ ∀ l, l < n → hxr m X.1 l = 16 → (mnF n sl de ta st wl po m X).1 (m * 8 + l) = 16 := by
  obtain ⟨ln, x, hL, hLN, hoff, hbits, hcnt⟩ := hD
  obtain ⟨l1, l2, l3, l4, l5⟩ := id hL
  obtain ⟨H, S, LN, z, wq⟩ := X
  dsimp only at hL hLN hoff hbits hcnt l1 l2 l3 l4 l5 hs ⊢
  have hbm := bm_in (m := m) hn H S
  obtain ⟨Y0, hY0⟩ : ∃ Y0 : y3, Y0 = ((bmF n m (H, S)).1, (bmF n m (H, S)).2, 17) := ⟨_, rfl⟩
  have hC0 : CI n m z 0 ln x tt x 17 Y0 := by
    rw [hY0]
    refine ⟨fun c hc => ?_, fun l hl hno => ?_, rfl, Nat.le_refl _, fun c hc => absurd hc (Nat.not_lt_zero _), Or.inl rfl, fun c _ hc => Or.inr (by have := l4 c hc; omega), fun c c' _ hc => absurd hc (Nat.not_lt_zero _)⟩
    · exact ⟨((hbm.1 _ (l1 c hc)).1).trans (hLN c hc).2, l4 c hc, Nat.le_refl _, fun _ => ⟨rfl, (hbm.1 _ (l1 c hc)).2⟩⟩
    · exact ⟨((hbm.1 l hl).1).trans (hoff l hl hno), (hbm.1 l hl).2⟩
  have hM0 : MR5 n m (hxr m H) s.2.2.1 s.2.2.2.1 s.2.2.2.2 (s.1, zrT n s.2.1, s.2.2) Y0 := by
    intro l hl
    rw [hY0]
    dsimp only
    simp only [(hbm.1 l hl).1, (hbm.1 l hl).2]
    refine ⟨hs l hl, zrT_0 _ hl, ?_, ?_, ?_⟩
    · rw [if_neg (fun q => q.2 q.1)]
    · rw [if_neg (by decide)]
    · rw [if_neg (by decide)]
  obtain ⟨y, b, hCz, hMz⟩ := spans (sl := sl) (de := de) (ta := ta) (wl := wl) (slm := slm) (wt := wt) (lo := lo) (LN := LN) (po := po m) (H0 := hxr m H) hn hL (fun l hl => (hlo l hl).2) hwt hsl (fun c hc => (hLN c hc).1) (fun c hc => (hLN c hc).2) hC0 hM0
  have hk1 := ln_keep (sl := sl) (de := de) (ta := ta) (wl := wl) (LN := LN) (po := po m) (m := m) z Y0
  obtain ⟨Y, hY⟩ : ∃ Y, Y = lp (lnF sl de ta wl (po m) m LN) 0 z Y0 := ⟨_, rfl⟩
  rw [← hY] at hCz hMz hk1
  have hmn : mnF n sl de ta st wl po m (H, S, LN, z, wq) = if 0 < Y.2.2 then pnF n m st (Y.1, Y.2.1, LN, z, wq) else (Y.1, Y.2.1, LN, z, wq) := by
    unfold mnF mnY
    dsimp only
    rw [← hY0, ← hY]
  have hkeep0 : ∀ j, j < m * 8 → Y.1 j = H j ∧ Y.2.1 j = S j := fun j hj => by
    rw [(hk1 j hj).1, (hk1 j hj).2, hY0]; exact hbm.2 j hj
  obtain ⟨g1, g2, g3, g4, g5', g6, g7, g8⟩ := id hCz
  obtain ⟨T, hT⟩ : ∃ T, T = (gsF slm wt lo n m (po m) ((s.1, zrT n s.2.1, s.2.2), 0) 16).1 := ⟨_, rfl⟩
  rw [← hT] at hMz
  have elg : lgA slm wt lo n m (po m) s = (gpF lo n m T.1 n, T.2) := by unfold lgA; rw [← hT]
  have hrow : ∀ (Z : Nat → Int32) l, hxr (m + 1) Z l = Z (m * 8 + l) := fun Z l => by unfold hxr; rw [if_pos (Nat.succ_pos m)]; rfl
  have hkeepO : ∀ l, l < n → hxr m H l = 16 → Y.1 (m * 8 + l) = 16 := by
    intro l hl h16
    by_cases hin : ∃ c, c < z ∧ ln c = l
    · obtain ⟨c, hc, rfl⟩ := hin
      rw [(hLN c hc).2] at h16
      have e := (nI_eq (b := 16) (by have := l4 c hc; omega) (by decide)).mp h16
      rw [(g1 c hc).1, show y c = 16 by have := (g1 c hc).2; omega]; rfl
    · rw [hoff l hl (fun c hc q => hin ⟨c, hc, q⟩)] at h16
      exact absurd h16 (by decide)
  -- nothing is put in
  have hstay : gpF lo n m T.1 n = T.1 → mnF n sl de ta st wl po m (H, S, LN, z, wq) = (Y.1, Y.2.1, LN, z, wq) → DI n (m + 1) tt (mnF n sl de ta st wl po m (H, S, LN, z, wq)) ∧ (∀ j, j < m * 8 → (mnF n sl de ta st wl po m (H, S, LN, z, wq)).1 j = H j ∧ (mnF n sl de ta st wl po m (H, S, LN, z, wq)).2.1 j = S j) ∧ MR5 n m (hxr m H) s.2.2.1 s.2.2.2.1 s.2.2.2.2 (lgA slm wt lo n m (po m) s) ((mnF n sl de ta st wl po m (H, S, LN, z, wq)).1, (mnF n sl de ta st wl po m (H, S, LN, z, wq)).2.1, 0) ∧ ∀ l, l < n → hxr m H l = 16 → (mnF n sl de ta st wl po m (H, S, LN, z, wq)).1 (m * 8 + l) = 16 := by
    intro e1 e2
    rw [e2, elg, e1]
    refine ⟨⟨ln, y, ⟨l1, l2, fun c c' q1 q2 => g8 c c' q1 q2, fun c hc => (g1 c hc).2.1, l5⟩, fun c hc => ⟨(hLN c hc).1, ?_⟩, fun l hl hno => ?_, hbits, hcnt⟩, hkeep0, hMz, hkeepO⟩
    · dsimp only; rw [hrow]; exact (g1 c hc).1
    · dsimp only; rw [hrow]; exact (g2 l hl hno).1
  rcases Nat.eq_zero_or_pos b with hb0 | hbp
  · -- span 0 isn't free
    have hbar : ¬ 0 < Y.2.2 := by rw [g3, hb0]; decide
    obtain ⟨c, hc, hyc, hbc⟩ := g6.resolve_left (by omega)
    refine hstay ?_ (by rw [hmn, if_neg hbar])
    have hln := l1 c hc
    refine gp_blocked hn ⟨ln c, hln, ?_, ?_⟩ n 0 (by omega)
    · rw [(hMz _ hln).1, (g1 c hc).1]; exact nI_ne1 (by omega)
    · rw [(hMz _ hln).1, (g1 c hc).1, show (0 : Int32) = nI 0 from rfl, ls_nat (by omega) (by omega), (hlo _ hln).2.2.1]
      have := l5 _ hln
      refine ⟨hyc, ?_⟩
      rcases Nat.lt_or_ge 0 (y c) with q | q
      · right; refine ⟨?_, q, by omega⟩
        rw [show tt (ln c) = 1 by omega]; rfl
      · left; omega
  · have hbar : 0 < Y.2.2 := by rw [g3]; exact nI_lt (a := 0) hbp (by omega)
    have hN : ∀ j, j < n → ¬ lsP (T.1 j) (lo (3 * j + 2) = 1) 0 := by
      intro j hj hls
      rw [(hMz j hj).1] at hls
      by_cases hin : ∃ c, c < z ∧ ln c = j
      · obtain ⟨c, hc, rfl⟩ := hin
        have hy16 := (g1 c hc).2.1
        rw [(g1 c hc).1, show (0 : Int32) = nI 0 from rfl, ls_nat (by omega) (by omega), (hlo _ hj).2.2.1] at hls
        have := g5' c hc
        rcases hls with ⟨a1, a2 | ⟨a3, a4, a5⟩⟩
        · omega
        · have := (nI_eq (b := 1) (by have := l5 _ hj; omega) (by decide)).mp a3
          omega
      · rw [(g2 j hj (fun c hc q => hin ⟨c, hc, q⟩)).1] at hls
        exact absurd hls.1 (by decide)
    have hw : ∀ l, l < n → (bt wq l ↔ T.1 l = -1) := by
      intro l hl
      rw [hbits l hl, (hMz l hl).1]
      constructor
      · intro h; exact (g2 l hl h).1
      · intro h c hc q
        rw [← q, (g1 c hc).1] at h
        exact nI_ne1 (by have := (g1 c hc).2.1; omega) h
    have hz8 : ∀ l, l < n → T.1 l = -1 → z < 8 := by
      intro l hl h
      have := cnt_pos (p := fun l => decide (bt wq l)) n hl (decide_eq_true ((hw l hl).mpr h))
      omega
    have hgp := gp_first (m := m) (z := z) hn (fun l hl => (hlo l hl).1) hN hw hz8 n 0 (by omega)
    have hgp : gpF lo n m T.1 n = match piF m st z wq 0 n with
      | none => T.1
      | some l => upd T.1 l 0 := hgp
    cases hpi : piF m st z wq 0 n with
    | none =>
      rw [hpi] at hgp
      refine hstay hgp ?_
      rw [hmn, if_pos hbar]
      unfold pnF
      dsimp only
      rw [hpi]
    | some l =>
      rw [hpi] at hgp
      have hlt := piF_lt _ _ _ hpi
      have hbl := (piF_some _ _ _ hpi).1
      have hln : l < n := by omega
      have hoffl := (hbits l hln).mp hbl
      have e2 : mnF n sl de ta st wl po m (H, S, LN, z, wq) = (upd Y.1 (m * 8 + l) 0, Y.2.1, upd LN z (nI l), z + 1, wq &&& (sh1 (nI l) ^^^ -1)) := by
        rw [hmn, if_pos hbar]
        unfold pnF
        dsimp only
        rw [hpi]
      rw [e2, elg, hgp]
      dsimp only
      refine ⟨⟨fun c => if c = z then l else ln c, fun c => if c = z then 0 else y c, ⟨fun c hc => ?_, fun c c' q1 q2 => ?_, fun c c' q1 q2 => ?_, fun c hc => ?_, l5⟩, fun c hc => ?_, fun l' hl' hno => ?_, fun l' hl' => ?_, ?_⟩, fun j hj => ?_, fun l' hl' => ?_, fun l' hl' h16 => ?_⟩
      · dsimp only at hc ⊢
        split
        · exact hln
        · exact l1 c (by omega)
      · dsimp only at q2 ⊢
        rw [if_neg (by omega)]
        by_cases q : c' = z
        · rw [if_pos q]; exact hoffl c (by omega)
        · rw [if_neg q]; exact l2 c c' q1 (by omega)
      · dsimp only at q2 ⊢
        rw [if_neg (show ¬ c = z by omega), if_neg (show ¬ c = z by omega)]
        by_cases q : c' = z
        · rw [if_pos q]
          rcases g5' c (by omega) with k | k
          · exact Or.inl k
          · right; omega
        · rw [if_neg q]; exact g8 c c' q1 (by omega)
      · dsimp only at hc ⊢
        split
        · omega
        · exact (g1 c (by omega)).2.1
      · dsimp only at hc ⊢
        rw [hrow]
        by_cases q : c = z
        · subst q
          rw [if_pos rfl, if_pos rfl, pk_us, pk_us]
          exact ⟨rfl, rfl⟩
        · rw [if_neg q, if_neg q, pk_un q, pk_un (by have := hoffl c (by omega); omega)]
          exact ⟨(hLN c (by omega)).1, (g1 c (by omega)).1⟩
      · dsimp only at hno ⊢
        rw [hrow]
        have hne : ¬ l' = l := fun q => by
          have := hno z (by omega)
          rw [if_pos rfl] at this
          exact this q.symm
        rw [pk_un (by omega)]
        refine (g2 l' hl' (fun c hc => ?_)).1
        have := hno c (by omega)
        rw [if_neg (by omega)] at this
        exact this
      · dsimp only
        rw [bt_del (by omega) (by omega), hbits l' hl']
        constructor
        · rintro ⟨q1, q2⟩ c hc
          by_cases q : c = z
          · rw [if_pos q]; exact fun k => q2 k.symm
          · rw [if_neg q]; exact q1 c (by omega)
        · intro q
          refine ⟨fun c hc => ?_, fun k => ?_⟩
          · have := q c (by omega)
            rw [if_neg (by omega)] at this
            exact this
          · have := q z (by omega)
            rw [if_pos rfl] at this
            exact this k.symm
      · dsimp only
        have := cnt_del (p := fun l => decide (bt wq l)) (q := fun j => decide (bt (wq &&& (sh1 (nI l) ^^^ -1)) j)) n hln (decide_eq_true hbl) (decide_eq_false (fun q => ((bt_del (by omega) (by omega)).mp q).2 rfl)) (fun j hj hne => decide_eq_decide.mpr (by rw [bt_del (by omega) (by omega)]; exact ⟨fun q => q.1, fun q => ⟨q, hne⟩⟩))
        omega
      · rw [pk_un (by omega)]; exact hkeep0 j hj
      · obtain ⟨k1, k2, k3, k4, k5⟩ := hMz l' hl'
        dsimp only
        by_cases q : l' = l
        · subst q
          have e0 : upd Y.1 (m * 8 + l') 0 (m * 8 + l') = 0 := pk_us
          have ey := (g2 l' hl' hoffl).1
          simp only [e0]
          rw [ey] at k3
          rw [if_neg (fun q => absurd q.1 (by decide))] at k3
          refine ⟨pk_us, k2, ?_, k4, k5⟩
          rw [k3, if_neg (fun q => absurd q.1 (by decide))]
        · have e0 : upd Y.1 (m * 8 + l) 0 (m * 8 + l') = Y.1 (m * 8 + l') := pk_un (by omega)
          simp only [e0]
          exact ⟨(pk_un q).trans k1, k2, k3, k4, k5⟩
      · have hne : ¬ l' = l := fun q => by
          subst q
          rw [hoff l' hl' hoffl] at h16
          exact absurd h16 (by decide)
        rw [pk_un (by omega)]
        exact hkeepO l' hl' h16
end EQL
