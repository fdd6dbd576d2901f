/-! what was there before doesn't matter: rows are written anew -/
theorem lp_rel {σ τ : Type} {f : Nat → σ → σ} {g : Nat → τ → τ} (R : Nat → σ → τ → Prop) {i j : Nat} {s : σ} {u : τ} (h0 : R i s u) (h : ∀ k s u, i ≤ k → k < i + j → R k s u → R (k + 1) (f k s) (g k u)) : R (i + j) (lp f i j s) (lp g i j u) := by
  induction j with
  | zero => exact h0
  | succ j ih =>
    rw [lp_end, lp_end]
    exact h (i + j) _ _ (by omega) (by omega) (ih (fun k s u h1 h2 => h k s u h1 (by omega)))
theorem upd_in {f : Nat → Int32} {k j : Nat} {x : Int32} : upd f k x j = if j = k then x else f j := rfl
theorem zero_row (f : Nat → Int32) {m : Nat} (hm : m < 24) : lp (fun m g => upd g m 0) 0 24 f m = 0 := by
  have h := lp_inv (f := fun m g => upd g m 0) (fun i g => ∀ m, m < i → g m = 0) (i := 0) (j := 24) (s := f) (fun m h => absurd h (Nat.not_lt_zero _)) (fun k g _ _ hI m hm => by
    by_cases hx : m = k
    · subst hx; exact pk_us
    · rw [pk_un hx]; exact hI m (by omega))
  exact h m (by omega)
theorem mk_ind {kda : Nat → Int32} {mn : Nat → Nat} {nu : Nat → Int32} {k : Nat} {kd kp : Int32} (f g : Nat → Int32) {m : Nat} (hm : m < 24) (hmn : ∀ e, e < k → mn e < 24) : mkA kda mn nu k kd kp f m = mkA kda mn nu k kd kp g m := by
  unfold mkA
  have key := lp_rel (σ := Nat → Int32) (τ := Nat → Int32) (f := fun e g => if kda e = kd ∧ bt kp e then upd g (mn e) (g (mn e) ||| sh1 (nu e)) else g) (g := fun e g => if kda e = kd ∧ bt kp e then upd g (mn e) (g (mn e) ||| sh1 (nu e)) else g) (fun _ s u => ∀ m, m < 24 → s m = u m) (i := 0) (j := k) (s := lp (fun m g => upd g m 0) 0 24 f) (u := lp (fun m g => upd g m 0) 0 24 g) (fun m hm => by rw [zero_row f hm, zero_row g hm]) (fun e s u _ he hR m hm => ?_)
  · exact key m hm
  · have he' := hmn e (by omega)
    split
    · by_cases hx : m = mn e
      · subst hx; rw [pk_us, pk_us, hR _ he']
      · rw [pk_un hx, pk_un hx]; exact hR m hm
    · exact hR m hm
theorem cel_ind {fe sh bu fe' sh' bu' : Nat → Int32} {m s : Nat} {g g' : Nat → Int32} (hfe : fe s = fe' s) (hsh : sh m = sh' m) (hbu : bu m = bu' m) (hg : 0 < m → 0 < s → g ((m - 1) * 16 + (s - 1)) = g' ((m - 1) * 16 + (s - 1))) : cel fe sh bu m s g = cel fe' sh' bu' m s g' := by
  have e0 : cel0 m s g = cel0 m s g' := by
    unfold cel0
    split
    · rename_i h; exact hg h.1 h.2
    · rfl
  unfold cel cel2
  rw [e0, hfe, hsh, hbu]
theorem wl_ind {fe sh bu fe' sh' bu' : Nat → Int32} (f g : Nat → Int32) (hfe : ∀ s, s < 16 → fe s = fe' s) (hsh : ∀ m, m < 24 → sh m = sh' m) (hbu : ∀ m, m < 24 → bu m = bu' m) {j : Nat} (hj : j < 384) : wlA fe sh bu f j = wlA fe' sh' bu' g j := by
  unfold wlA
  have key := lp_rel (f := fun m g => lp (fun s g => upd g (m * 16 + s) (cel fe sh bu m s g)) 0 16 g) (g := fun m g => lp (fun s g => upd g (m * 16 + s) (cel fe' sh' bu' m s g)) 0 16 g) (fun m s u => ∀ j, j < m * 16 → s j = u j) (i := 0) (j := 24) (s := f) (u := g) (fun j h => absurd h (by omega)) (fun m s u _ hm hR => ?_)
  · exact key j (by omega)
  · have k2 := lp_rel (f := fun s g => upd g (m * 16 + s) (cel fe sh bu m s g)) (g := fun s g => upd g (m * 16 + s) (cel fe' sh' bu' m s g)) (fun c s u => ∀ j, j < m * 16 + c → s j = u j) (i := 0) (j := 16) (s := s) (u := u) (fun j h => hR j (by omega)) (fun c s u _ hc hR2 j hj => ?_)
    · intro j hj
      exact k2 j (by omega)
    · have ec : cel fe sh bu m c s = cel fe' sh' bu' m c u := cel_ind (hfe c (by omega)) (hsh m (by omega)) (hbu m (by omega)) (fun h1 h2 => hR2 _ (by omega))
      rw [ec]
      by_cases hx : j = m * 16 + c
      · subst hx; rw [pk_us, pk_us]
      · rw [pk_un hx, pk_un hx]; exact hR2 j (by omega)
/-- two drives agree on what is told of n logs before minute m -/
def dRel (n m : Nat) (x y : dS) : Prop := (∀ i l, i < m → l < n → x.1 (i * 8 + l) = y.1 (i * 8 + l) ∧ x.2.1 (i * 8 + l) = y.2.1 (i * 8 + l)) ∧ (∀ i, i < x.2.2.2.1 → x.2.2.1 i = y.2.2.1 i) ∧ x.2.2.2.1 = y.2.2.2.1 ∧ x.2.2.2.2 = y.2.2.2.2
theorem row_ne {m i l l' : Nat} (h1 : l < 8) (h2 : l' < 8) (h : i < m) : i * 8 + l ≠ m * 8 + l' := by omega
theorem bm_rel {n m : Nat} (hn : n ≤ 8) {x y : f2} (h : ∀ i l, i < m → l < n → x.1 (i * 8 + l) = y.1 (i * 8 + l) ∧ x.2 (i * 8 + l) = y.2 (i * 8 + l)) : ∀ i l, i < m + 1 → l < n → (bmF n m x).1 (i * 8 + l) = (bmF n m y).1 (i * 8 + l) ∧ (bmF n m x).2 (i * 8 + l) = (bmF n m y).2 (i * 8 + l) := by
  unfold bmF
  have key := lp_rel (f := fun l (s : f2) => (upd s.1 (m * 8 + l) (if 0 < m then s.1 ((m - 1) * 8 + l) else -1), upd s.2 (m * 8 + l) 0)) (g := fun l (s : f2) => (upd s.1 (m * 8 + l) (if 0 < m then s.1 ((m - 1) * 8 + l) else -1), upd s.2 (m * 8 + l) 0)) (fun c s u => (∀ i l, i < m → l < n → s.1 (i * 8 + l) = u.1 (i * 8 + l) ∧ s.2 (i * 8 + l) = u.2 (i * 8 + l)) ∧ ∀ l, l < c → s.1 (m * 8 + l) = u.1 (m * 8 + l) ∧ s.2 (m * 8 + l) = u.2 (m * 8 + l)) (i := 0) (j := n) (s := x) (u := y) ⟨h, fun l hl => absurd hl (Nat.not_lt_zero _)⟩ (fun c s u _ hc hR => ?_)
  · intro i l hi hl
    rcases Nat.lt_or_ge i m with q | q
    · exact key.1 i l q hl
    · obtain rfl : i = m := by omega
      exact key.2 l (by omega)
  · dsimp only
    refine ⟨fun i l hi hl => ?_, fun l hl => ?_⟩
    · have hne := row_ne (l := l) (l' := c) (by omega) (by omega) hi
      rw [pk_un hne, pk_un hne, pk_un hne, pk_un hne]
      exact hR.1 i l hi hl
    · by_cases hx : l = c
      · subst hx
        rw [pk_us, pk_us, pk_us, pk_us]
        refine ⟨?_, rfl⟩
        split
        · exact (hR.1 (m - 1) l (by omega) (by omega)).1
        · rfl
      · have hne : m * 8 + l ≠ m * 8 + c := by omega
        rw [pk_un hne, pk_un hne, pk_un hne, pk_un hne]
        exact hR.2 l (by omega)
theorem mvF_congr {po : Bool} {wl wl' : Nat → Int32} {de : Int32} {blk : Nat → Bool} {steps : Int32} (h : ∀ k, k < 16 → wl k = wl' k) : ∀ (f k hd : Nat), mvF po wl de blk steps f k hd = mvF po wl' de blk steps f k hd := by
  intro f
  induction f with
  | zero => intro k hd; rfl
  | succ f ih =>
    intro k hd
    unfold mvF
    by_cases hc : steps ≤ nI k ∨ 16 ≤ hd
    · rw [if_pos hc, if_pos hc]
    · rw [if_neg hc, if_neg hc, h hd (by omega), ih]
abbrev y3 : Type := (Nat → Int32) × (Nat → Int32) × Int32
def yRel (n m : Nat) (x y : y3) : Prop := (∀ i l, i < m + 1 → l < n → x.1 (i * 8 + l) = y.1 (i * 8 + l) ∧ x.2.1 (i * 8 + l) = y.2.1 (i * 8 + l)) ∧ x.2.2 = y.2.2
/-- the drive's data agree, where a drive of n logs looks -/
def tRel (n : Nat) (sl de ta st wl po sl' de' ta' st' wl' po' : Nat → Int32) : Prop := (∀ s, s < 16 → sl s = sl' s) ∧ (∀ l, l < n → de l = de' l ∧ ta l = ta' l ∧ st l = st' l) ∧ (∀ j, j < 384 → wl j = wl' j) ∧ ∀ m, m < 24 → po m = po' m
theorem ln_rel {n m : Nat} (hn : n ≤ 8) (hm : m < 24) {sl de ta st wl po sl' de' ta' st' wl' po' : Nat → Int32} (hT : tRel n sl de ta st wl po sl' de' ta' st' wl' po') {LN LN' : Nat → Int32} {i l : Nat} (hl : l < n) (e1 : LN i = nI l) (e2 : LN' i = nI l) {x y : y3} (h : yRel n m x y) : yRel n m (lnF sl de ta wl (po m) m LN i x) (lnF sl' de' ta' wl' (po' m) m LN' i y) := by
  have c1 : (LN i).toNatClampNeg = l := by rw [e1]; exact nI_clamp (by omega)
  have c2 : (LN' i).toNatClampNeg = l := by rw [e2]; exact nI_clamp (by omega)
  have eH := (h.1 m l (by omega) hl).1
  unfold lnF
  rw [c1, c2, ← eH, ← h.2]
  split
  · rename_i hB
    obtain ⟨hd, hh, ehd⟩ := inB_ex (n := 16) (by decide) hB
    have ecl : (x.1 (m * 8 + l)).toNatClampNeg = hd := by rw [ehd]; exact nI_clamp (by omega)
    have eq : mvQ sl' de' wl' (po' m) m l x.2.2 (x.1 (m * 8 + l)) = mvQ sl de wl (po m) m l x.2.2 (x.1 (m * 8 + l)) := by
      unfold mvQ
      rw [ecl, ← hT.1 hd hh, ← (hT.2.1 l hl).1, ← hT.2.2.2 m hm]
      exact mvF_congr (fun k hk => (hT.2.2.1 _ (by omega)).symm) _ _ _
    rw [eq, ← (hT.2.1 l hl).2.1]
    refine ⟨fun i' l' hi hl' => ?_, rfl⟩
    by_cases hx : i' * 8 + l' = m * 8 + l
    · dsimp only
      rw [hx]
      refine ⟨by rw [pk_us, pk_us], ?_⟩
      split
      · exact (h.1 m l (by omega) hl).2
      · rw [pk_us, pk_us]
    · dsimp only
      refine ⟨by rw [pk_un hx, pk_un hx]; exact (h.1 i' l' hi hl').1, ?_⟩
      split
      · exact (h.1 i' l' hi hl').2
      · rw [pk_un hx, pk_un hx]; exact (h.1 i' l' hi hl').2
  · exact h
theorem pi_rel {n m : Nat} {st st' : Nat → Int32} {z : Nat} {wt : Int32} (h : ∀ l, l < n → st l = st' l) : ∀ j i, i + j ≤ n → piF m st z wt i j = piF m st' z wt i j := by
  intro j
  induction j with
  | zero => intro i _; rfl
  | succ j ih =>
    intro i hi
    unfold piF
    rw [h i (by omega), ih (i + 1) (by omega)]
theorem mn_rel {n m : Nat} (hn : n ≤ 8) (hm : m < 24) {sl de ta st wl po sl' de' ta' st' wl' po' : Nat → Int32} (hT : tRel n sl de ta st wl po sl' de' ta' st' wl' po') {x y : dS} (hx : lnOk n x) (h : dRel n m x y) : dRel n (m + 1) (mnF n sl de ta st wl po m x) (mnF n sl' de' ta' st' wl' po' m y) := by
  obtain ⟨h1, h2, h3, h4⟩ := h
  have hY : yRel n m (mnY n sl de ta wl po m x) (mnY n sl' de' ta' wl' po' m y) := by
    unfold mnY
    rw [← h3]
    have hb := bm_rel (n := n) (m := m) hn (x := (x.1, x.2.1)) (y := (y.1, y.2.1)) h1
    have k := lp_rel (f := lnF sl de ta wl (po m) m x.2.2.1) (g := lnF sl' de' ta' wl' (po' m) m y.2.2.1) (fun _ s u => yRel n m s u) (i := 0) (j := x.2.2.2.1) (s := ((bmF n m (x.1, x.2.1)).1, (bmF n m (x.1, x.2.1)).2, 17)) (u := ((bmF n m (y.1, y.2.1)).1, (bmF n m (y.1, y.2.1)).2, 17)) ⟨hb, rfl⟩ (fun i s u _ hi hR => ?_)
    · exact k
    · obtain ⟨l, hl, el⟩ := hx.2 i (by omega)
      exact ln_rel hn hm hT hl el ((h2 i (by omega)).symm.trans el) hR
  unfold mnF
  rw [← hY.2]
  split
  · unfold pnF
    dsimp only
    rw [← h3, ← h4, ← pi_rel (fun l hl => (hT.2.1 l hl).2.2) n 0 (by omega)]
    split
    · exact ⟨hY.1, h2, h3, h4⟩
    · rename_i l hl
      refine ⟨fun i l' hi hl' => ⟨?_, (hY.1 i l' hi hl').2⟩, fun i hi => ?_, rfl, rfl⟩
      · dsimp only
        by_cases hq : i * 8 + l' = m * 8 + l
        · rw [hq, pk_us, pk_us]
        · rw [pk_un hq, pk_un hq]; exact (hY.1 i l' hi hl').1
      · dsimp only at hi ⊢
        by_cases hq : i = x.2.2.2.1
        · rw [hq, pk_us, pk_us]
        · rw [pk_un hq, pk_un hq]; exact h2 i (by omega)
  · exact ⟨hY.1, h2, h3, h4⟩
theorem rn_rel {n : Nat} (hn : n ≤ 8) {sl de ta st wl po sl' de' ta' st' wl' po' : Nat → Int32} (hT : tRel n sl de ta st wl po sl' de' ta' st' wl' po') {x y : dS} (hx : lnOk n x) (h : dRel n 0 x y) : dRel n 24 (rnF n sl de ta st wl po x) (rnF n sl' de' ta' st' wl' po' y) := by
  have k := lp_rel (f := mnF n sl de ta st wl po) (g := mnF n sl' de' ta' st' wl' po') (fun m s u => lnOk n s ∧ dRel n m s u) (i := 0) (j := 24) (s := x) (u := y) ⟨hx, h⟩ (fun m s u _ hm hR => ⟨mnF_ok hR.1, mn_rel hn (by omega) hT hR.1 hR.2⟩)
  exact k.2
