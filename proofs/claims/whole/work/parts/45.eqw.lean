section EQW
/-- the model's events are the class's, and gone are those that are not kept -/
def evR (ev kda nu : Nat → Int32) (mn : Nat → Nat) (k : Nat) (kp gn : Int32) : Prop := ∀ e, e < k → (ev (3 * e) = kda e ∧ ev (3 * e + 1) = nI (mn e) ∧ ev (3 * e + 2) = nu e) ∧ mn e < 24 ∧ (bt kp e ↔ ¬ bt gn e)
theorem td_mk {ev kda nu : Nat → Int32} {mn : Nat → Nat} {k : Nat} {kp gn : Int32} (hR : evR ev kda nu mn k kp gn) (kd : Int32) {m : Nat} (hm : m < 24) : tdF ev k gn kd (nI m) = cmk kda nu mn k kd kp m := by
  have h := lp_rel (f := fun i (b : Int32) => b ||| (if (ev (3 * i) = kd ∧ ev (3 * i + 1) = nI m) ∧ ¬ bt gn i then sh1 (ev (3 * i + 2)) else 0)) (g := fun e (g : Nat → Int32) => if kda e = kd ∧ bt kp e then upd g (mn e) (g (mn e) ||| sh1 (nu e)) else g) (fun _ b g => b = g m) (i := 0) (j := k) (s := 0) (u := lp (fun m g => upd g m 0) 0 24 z0) (zero_row _ hm).symm (fun e b g _ he hI => by
    obtain ⟨⟨h1, h2, h3⟩, h4, h5⟩ := hR e (by omega)
    rw [h1, h2, h3]
    by_cases hc : kda e = kd ∧ bt kp e
    · rw [if_pos hc]
      by_cases hmm : m = mn e
      · subst hmm
        rw [if_pos ⟨⟨hc.1, rfl⟩, h5.mp hc.2⟩, pk_us, hI]
      · rw [if_neg (fun q => hmm ((nI_eq (by omega) (by omega)).mp q.1.2).symm), pk_un hmm, hI, Int32.or_zero]
    · rw [if_neg hc, if_neg (fun q => hc ⟨q.1.1, h5.mpr q.2⟩), hI, Int32.or_zero])
  exact h
theorem wlA_rec (fe sh bu f : Nat → Int32) : ∀ j, j < 384 → wlA fe sh bu f j = cel fe sh bu (j / 16) (j % 16) (wlA fe sh bu f) := by
  have hc : ∀ (c j : Nat) (g : Nat → Int32) (x : Int32), j ≤ c → cel fe sh bu (j / 16) (j % 16) (upd g c x) = cel fe sh bu (j / 16) (j % 16) g := fun c j g x hj => by
    refine cel_ind rfl rfl rfl (fun h1 h2 => ?_)
    rw [pk_un (by omega)]
  have h := lp_inv (f := fun m g => lp (fun s g => upd g (m * 16 + s) (cel fe sh bu m s g)) 0 16 g) (fun c g => ∀ j, j < c * 16 → g j = cel fe sh bu (j / 16) (j % 16) g) (i := 0) (j := 24) (s := f) (fun j hj => absurd hj (by omega)) (fun m g _ _ hI => by
    have h2 := lp_inv (f := fun s g => upd g (m * 16 + s) (cel fe sh bu m s g)) (fun c g => ∀ j, j < m * 16 + c → g j = cel fe sh bu (j / 16) (j % 16) g) (i := 0) (j := 16) (s := g) hI (fun s g _ hs hI j hj => by
      by_cases hx : j = m * 16 + s
      · subst hx
        rw [hc _ _ _ _ (Nat.le_refl _), pk_us, show (m * 16 + s) / 16 = m by omega, show (m * 16 + s) % 16 = s by omega]
      · rw [pk_un hx, hc _ _ _ _ (by omega)]
        exact hI j (by omega))
    intro j hj
    exact h2 j (by omega))
  intro j hj
  exact h j (by omega)
theorem flA_in (fe : Nat → Int32) (sh bu : Int32) (w : Nat → Int32) {i : Nat} (hi : i < 16) : flA fe sh bu w i = flC fe sh bu w i := by
  have hd : ∀ (g : Nat → Int32) (i : Nat), (∀ j, j < i → g j = w j) → flC fe sh bu g i = flC fe sh bu w i := fun g i hg => by
    unfold flC fl1
    by_cases h : i = 0
    · rw [if_pos h, if_pos h]
    · rw [if_neg h, if_neg h, hg (i - 1) (by omega)]
  have h := lp_inv (f := fun j w => upd w (15 - j) (flC fe sh bu w (15 - j))) (fun c g => (∀ i, i < 16 → i + c < 16 → g i = w i) ∧ ∀ i, i < 16 → 16 ≤ i + c → g i = flC fe sh bu w i) (i := 0) (j := 16) (s := w) ⟨fun _ _ _ => rfl, fun i h1 h2 => by omega⟩ (fun c g _ hc hI => by
    refine ⟨fun i h1 h2 => ?_, fun i h1 h2 => ?_⟩
    · rw [pk_un (by omega)]; exact hI.1 i h1 (by omega)
    · by_cases hx : i = 15 - c
      · subst hx
        rw [pk_us]
        exact hd g _ (fun j hj => hI.1 j (by omega) (by omega))
      · rw [pk_un hx]; exact hI.2 i h1 (by omega))
  exact h.2 i hi (by omega)
/-- a feeder's figures -/
def feR (fe : Nat → Int32) : Prop := ∀ s, s < 16 → ∃ f, f < 10 ∧ fe s = nI f
theorem cel_rng {fe sh bu : Nat → Int32} (hfe : feR fe) {m s : Nat} (hs : s < 16) {g : Nat → Int32} (hg : 0 < m → 0 < s → ∃ u, u ≤ 20 ∧ g ((m - 1) * 16 + (s - 1)) = nI u) : ∃ u, u ≤ 20 ∧ cel fe sh bu m s g = nI u := by
  have h0 : ∃ u, u ≤ 20 ∧ cel0 m s g = nI u := by
    unfold cel0
    by_cases h : 0 < m ∧ 0 < s
    · rw [if_pos h]; exact hg h.1 h.2
    · rw [if_neg h]; exact ⟨0, by decide, rfl⟩
  obtain ⟨u0, hu0, e0⟩ := h0
  have h1 : ∃ u, u ≤ 20 ∧ cel1 (cel0 m s g) = nI u := by
    unfold cel1
    rw [e0]
    by_cases h : 0 < nI u0
    · rw [if_pos h]
      have : 0 < u0 := (nI_ltI (a := 0) (by decide) (by omega)).mp h
      exact ⟨u0 - 1, by omega, by have q := nI_pred (u0 - 1); rw [show u0 - 1 + 1 = u0 by omega] at q; rw [← Int32.sub_eq_add_neg]; exact q⟩
    · rw [if_neg h]; exact ⟨u0, hu0, rfl⟩
  obtain ⟨u1, hu1, e1⟩ := h1
  obtain ⟨f, hf, ef⟩ := hfe s hs
  unfold cel cel2
  rw [e1, ef]
  by_cases hb : b0 (bu m) s
  · rw [if_pos hb]
    by_cases hb2 : b0 (sh m) s
    · rw [if_pos hb2, nI_add]
      by_cases h : 20 < nI (u1 + f)
      · rw [if_pos h]; exact ⟨20, by decide, rfl⟩
      · rw [if_neg h]
        exact ⟨u1 + f, by have q : ¬ 20 < u1 + f := fun q => h (nI_lt (a := 20) q (by omega)); omega, rfl⟩
    · rw [if_neg hb2]; exact ⟨u1, hu1, rfl⟩
  · rw [if_neg hb]; exact ⟨0, by decide, rfl⟩
theorem wl_rng {fe sh bu f : Nat → Int32} (hfe : feR fe) : ∀ j, j < 384 → ∃ u, u ≤ 20 ∧ wlA fe sh bu f j = nI u := by
  intro j
  induction j using Nat.strongRecOn with
  | _ j ih =>
    intro hj
    rw [wlA_rec fe sh bu f j hj]
    exact cel_rng hfe (Nat.mod_lt _ (by decide)) (fun h1 h2 => ih _ (by omega) (by omega))
/-- the model's water is the class's -/
theorem flC_cel {fe sh bu g w : Nat → Int32} (hfe : feR fe) {m s : Nat} (hs : s < 16) (hg : 0 < m → 0 < s → ∃ u, u ≤ 20 ∧ g ((m - 1) * 16 + (s - 1)) = nI u) (hw : 0 < s → w (s - 1) = if 0 < m then g ((m - 1) * 16 + (s - 1)) else 0) : flC fe (sh m) (bu m) w s = cel fe sh bu m s g := by
  have e0 : fl1 w s = cel0 m s g := by
    unfold fl1 cel0
    by_cases h : s = 0
    · rw [if_pos h, if_neg (by omega)]
    · rw [if_neg h, hw (by omega)]
      by_cases h2 : 0 < m
      · rw [if_pos h2, if_pos ⟨h2, by omega⟩]
      · rw [if_neg h2, if_neg (by omega)]
  have h0 : ∃ u, u ≤ 20 ∧ cel0 m s g = nI u := by
    unfold cel0
    by_cases h : 0 < m ∧ 0 < s
    · rw [if_pos h]; exact hg h.1 h.2
    · rw [if_neg h]; exact ⟨0, by decide, rfl⟩
  obtain ⟨u0, hu0, eu⟩ := h0
  have e1 : fl2 (fl1 w s) = cel1 (cel0 m s g) := by
    rw [e0]
    unfold fl2 cel1
    by_cases h : 0 < cel0 m s g
    · rw [if_pos h, if_pos h, Int32.sub_eq_add_neg]
    · rw [if_neg h, if_neg h]
      rw [eu] at h ⊢
      have : ¬ 0 < u0 := fun q => h (nI_lt (a := 0) q (by omega))
      rw [show u0 = 0 by omega]; rfl
  unfold flC cel
  rw [e1]
  by_cases hb : bt (bu m) s
  · rw [if_pos hb, if_neg (fun q => (b0_bt (by omega)).mp q hb)]
  · rw [if_neg hb, if_pos ((b0_bt (by omega)).mpr hb)]
    unfold fl3 cel2
    by_cases hb2 : bt (sh m) s
    · rw [if_pos hb2, if_neg (fun q => (b0_bt (by omega)).mp q hb2)]
    · rw [if_neg hb2, if_pos ((b0_bt (by omega)).mpr hb2)]
      by_cases h : cel1 (cel0 m s g) + fe s < 20
      · rw [if_pos h, if_neg (Int32.not_lt.mpr (Int32.le_of_lt h))]
      · rw [if_neg h]
        by_cases h2 : 20 < cel1 (cel0 m s g) + fe s
        · rw [if_pos h2]
        · rw [if_neg h2]; exact Int32.le_antisymm (Int32.not_lt.mp h) (Int32.not_lt.mp h2)
end EQW
