section EQV
theorem moF_snoc {H : Nat → Int32} {l : Nat} : ∀ j i, i + j < 2 ^ 31 → moF H l i (j + 1) = if moF H l i j = -1 then (if H ((i + j) * 8 + l) = 16 then nI (i + j) else -1) else moF H l i j := by
  intro j
  induction j with
  | zero =>
    intro i _
    show (if H (i * 8 + l) = 16 then nI i else -1) = if (-1 : Int32) = -1 then (if H ((i + 0) * 8 + l) = 16 then nI (i + 0) else -1) else -1
    rw [if_pos rfl]; rfl
  | succ j ih =>
    intro i hi
    have e := ih (i + 1) (by omega)
    rw [show i + 1 + j = i + (j + 1) by omega] at e
    have u1 : moF H l i (j + 1 + 1) = if H (i * 8 + l) = 16 then nI i else moF H l (i + 1) (j + 1) := rfl
    have u2 : moF H l i (j + 1) = if H (i * 8 + l) = 16 then nI i else moF H l (i + 1) j := rfl
    rw [u1, u2, e]
    by_cases h : H (i * 8 + l) = 16
    · rw [if_pos h, if_pos h, if_neg (nI_ne1 (by omega))]
    · rw [if_neg h, if_neg h]
theorem moF_cut {H H' : Nat → Int32} {l m : Nat} (h : ∀ i, i < m → H (i * 8 + l) = H' (i * 8 + l)) : ∀ j i, i + j ≤ m → moF H l i j = moF H' l i j := by
  intro j
  induction j with
  | zero => intro i _; rfl
  | succ j ih =>
    intro i hi
    unfold moF
    rw [h i (by omega), ih (i + 1) (by omega)]
def miP (S : Nat → Int32) (l : Nat) (s : Int32) (m : Nat) : Int32 := lp (fun m x => if S (m * 8 + l) = s then x + 1 else x) 0 m 0
theorem miP_cut {S S' : Nat → Int32} {l m : Nat} {s : Int32} (h : ∀ i, i < m → S (i * 8 + l) = S' (i * 8 + l)) : miP S l s m = miP S' l s m := lp_congr (fun i x _ hi => by rw [h i (by omega)])
theorem miP_s (S : Nat → Int32) (l : Nat) (s : Int32) (m : Nat) : miP S l s (m + 1) = if S (m * 8 + l) = s then miP S l s m + 1 else miP S l s m := by
  unfold miP; rw [lp_end, Nat.zero_add]
theorem cp1_in {m : Nat} {w B : Nat → Int32} : (∀ i, i < 16 → cp1 m w B (16 * m + i) = w i) ∧ ∀ j, j < 16 * m → cp1 m w B j = B j := by
  have h := lp_inv (f := fun i B => upd B (16 * m + i) (w i)) (fun c B' => (∀ i, i < c → B' (16 * m + i) = w i) ∧ ∀ j, j < 16 * m → B' j = B j) (i := 0) (j := 16) (s := B) ⟨fun i hi => absurd hi (Nat.not_lt_zero _), fun _ _ => rfl⟩ (fun c B' _ _ hI => by
    refine ⟨fun i hi => ?_, fun j hj => ?_⟩
    · by_cases hx : i = c
      · subst hx; exact pk_us
      · rw [pk_un (by omega)]; exact hI.1 i (by omega)
    · rw [pk_un (by omega)]; exact hI.2 j hj)
  exact h
theorem cp2_in {n m : Nat} {H T : Nat → Int32} {B : f2} : (∀ i, i < n → (cp2 n m H T B).1 (8 * m + i) = H i ∧ (cp2 n m H T B).2 (8 * m + i) = T i) ∧ ∀ j, j < 8 * m → (cp2 n m H T B).1 j = B.1 j ∧ (cp2 n m H T B).2 j = B.2 j := by
  have h := lp_inv (f := fun k (B : f2) => (upd B.1 (8 * m + k) (H k), upd B.2 (8 * m + k) (T k))) (fun c B' => (∀ i, i < c → B'.1 (8 * m + i) = H i ∧ B'.2 (8 * m + i) = T i) ∧ ∀ j, j < 8 * m → B'.1 j = B.1 j ∧ B'.2 j = B.2 j) (i := 0) (j := n) (s := B) ⟨fun i hi => absurd hi (Nat.not_lt_zero _), fun _ _ => ⟨rfl, rfl⟩⟩ (fun c B' _ _ hI => by
    refine ⟨fun i hi => ?_, fun j hj => ?_⟩
    · dsimp only
      by_cases hx : i = c
      · subst hx; rw [pk_us, pk_us]; exact ⟨rfl, rfl⟩
      · rw [pk_un (by omega), pk_un (by omega)]; exact hI.1 i (by omega)
    · dsimp only
      rw [pk_un (by omega), pk_un (by omega)]; exact hI.2 j hj)
  rw [Nat.zero_add] at h
  exact h
theorem flC_fe {f g : Nat → Int32} {sh bu : Int32} {w : Nat → Int32} {i : Nat} (h : f i = g i) : flC f sh bu w i = flC g sh bu w i := by
  unfold flC fl3; rw [h]
/-- the rows that the model lives by -/
def loR (n : Nat) (tt : Nat → Nat) (a : Nat → Nat → Int32) (sl fe st de ta : Nat → Int32) : Prop := (∀ s, s < 16 → a 60 s = sl s) ∧ (∀ s, s < 16 → a 61 s = fe s) ∧ (∀ l, l < n → a 62 (3 * l) = st l ∧ a 62 (3 * l + 1) = de l ∧ a 62 (3 * l + 2) = nI (tt l) ∧ ta l = nI (tt l)) ∧ (∀ l, l < n → tt l ≤ 1) ∧ feR fe
/-- the model has lived: W the water, D the drive -/
def LV (a : Nat → Nat → Int32) (n : Nat) (W : Nat → Int32) (D : dS) : Prop := (∀ j, j < 384 → a 70 j = W j) ∧ (∀ i l, i < 24 → l < n → a 71 (8 * i + l) = D.1 (i * 8 + l) ∧ a 72 (8 * i + l) = D.2.1 (i * 8 + l)) ∧ ∀ l, l < n → a 67 l = moF D.1 l 0 24 ∧ a 68 l = miF D.2.1 l 1 ∧ a 69 l = miF D.2.1 l 2
theorem lives_eq {a : Nat → Nat → Int32} {n k : Nat} (hn : n ≤ 8) {tt : Nat → Nat} {sl fe st de ta kda nu : Nat → Int32} {mn : Nat → Nat} {kp gn : Int32} (hR : loR n tt a sl fe st de ta) (hE : evR (a 63) kda nu mn k kp gn) {W : Nat → Int32} (hW : W = cwl kda nu mn k fe kp) : ∀ m, m ≤ 24 →
    (∀ i, i < 16 → (lvF a n k gn m).1 i = if 0 < m then W ((m - 1) * 16 + i) else 0) ∧
    DI n m tt (lp (mnF n sl de ta st W (cmk kda nu mn k 0 kp)) 0 m (z0, z0, z0, 0, sh1 (nI n) - 1)) ∧
    (∀ l, l < n → (lvF a n k gn m).2.1.1 l = hxr m (lp (mnF n sl de ta st W (cmk kda nu mn k 0 kp)) 0 m (z0, z0, z0, 0, sh1 (nI n) - 1)).1 l ∧ (lvF a n k gn m).2.1.2.2.1 l = moF (lp (mnF n sl de ta st W (cmk kda nu mn k 0 kp)) 0 m (z0, z0, z0, 0, sh1 (nI n) - 1)).1 l 0 m ∧ (lvF a n k gn m).2.1.2.2.2.1 l = miP (lp (mnF n sl de ta st W (cmk kda nu mn k 0 kp)) 0 m (z0, z0, z0, 0, sh1 (nI n) - 1)).2.1 l 1 m ∧ (lvF a n k gn m).2.1.2.2.2.2 l = miP (lp (mnF n sl de ta st W (cmk kda nu mn k 0 kp)) 0 m (z0, z0, z0, 0, sh1 (nI n) - 1)).2.1 l 2 m ∧ (hxr m (lp (mnF n sl de ta st W (cmk kda nu mn k 0 kp)) 0 m (z0, z0, z0, 0, sh1 (nI n) - 1)).1 l = 16 ↔ ¬ moF (lp (mnF n sl de ta st W (cmk kda nu mn k 0 kp)) 0 m (z0, z0, z0, 0, sh1 (nI n) - 1)).1 l 0 m = -1)) ∧
    (∀ j, j < 16 * m → (lvF a n k gn m).2.2.1 j = W j) ∧
    (∀ i l, i < m → l < n → (lvF a n k gn m).2.2.2.1 (8 * i + l) = (lp (mnF n sl de ta st W (cmk kda nu mn k 0 kp)) 0 m (z0, z0, z0, 0, sh1 (nI n) - 1)).1 (i * 8 + l) ∧ (lvF a n k gn m).2.2.2.2 (8 * i + l) = (lp (mnF n sl de ta st W (cmk kda nu mn k 0 kp)) 0 m (z0, z0, z0, 0, sh1 (nI n) - 1)).2.1 (i * 8 + l)) := by
  obtain ⟨h60, h61, h62, htt, hfe⟩ := hR
  intro m
  induction m with
  | zero =>
    intro _
    refine ⟨fun i hi => cs_in _ hi, DI_init hn htt _ _ _, fun l hl => ⟨cs_in _ (by omega), cs_in _ (by omega), cs_in _ (by omega), cs_in _ (by omega), ?_⟩, fun j hj => absurd hj (by omega), fun i l hi => absurd hi (Nat.not_lt_zero _)⟩
    show ((-1 : Int32) = 16 ↔ ¬ (-1 : Int32) = -1)
    decide
  | succ m ih =>
    intro hm
    obtain ⟨i1, i2, i3, i4, i5⟩ := ih (by omega)
    have ey : lvF a n k gn (m + 1) = psF (a 60) (a 61) (a 62) (a 63) n k gn m (lvF a n k gn m) := by unfold lvF; rw [lp_end, Nat.zero_add]
    have eD : lp (mnF n sl de ta st W (cmk kda nu mn k 0 kp)) 0 (m + 1) (z0, z0, z0, 0, sh1 (nI n) - 1) = mnF n sl de ta st W (cmk kda nu mn k 0 kp) m (lp (mnF n sl de ta st W (cmk kda nu mn k 0 kp)) 0 m (z0, z0, z0, 0, sh1 (nI n) - 1)) := by rw [lp_end, Nat.zero_add]
    rw [ey, eD]
    clear ey eD
    revert i1 i2 i3 i4 i5
    generalize lvF a n k gn m = y
    generalize lp (mnF n sl de ta st W (cmk kda nu mn k 0 kp)) 0 m (z0, z0, z0, 0, sh1 (nI n) - 1) = X
    intro i1 i2 i3 i4 i5
    unfold psF
    dsimp only
    rw [td_mk hE 0 (by omega), td_mk hE 1 (by omega), td_mk hE 2 (by omega)]
    obtain ⟨w, hw⟩ : ∃ w, w = flA (a 61) (cmk kda nu mn k 1 kp m) (cmk kda nu mn k 2 kp m) y.1 := ⟨_, rfl⟩
    rw [← hw]
    have hwW : ∀ i, i < 16 → w i = W (m * 16 + i) := by
      intro i hi
      rw [hw, flA_in _ _ _ _ hi, flC_fe (h61 i hi), hW]
      have hrec := wlA_rec fe (cmk kda nu mn k 1 kp) (cmk kda nu mn k 2 kp) z0 (m * 16 + i) (by omega)
      rw [show (m * 16 + i) / 16 = m by omega, show (m * 16 + i) % 16 = i by omega] at hrec
      refine (flC_cel hfe hi (fun q1 q2 => wl_rng hfe _ (by omega)) (fun q => ?_)).trans hrec.symm
      rw [i1 (i - 1) (by omega), hW]
      rfl
    obtain ⟨k1, k2, k3, k4⟩ := minute (sl := sl) (de := de) (ta := ta) (st := st) (wl := W) (po := cmk kda nu mn k 0 kp) (slm := a 60) (wt := w) (lo := a 62) (tt := tt) hn (show m < 24 by omega) h62 (fun h hh => (hwW h hh).symm) h60 i2 (s := y.2.1) (fun l hl => (i3 l hl).1)
    revert k1 k2 k3 k4
    generalize mnF n sl de ta st W (cmk kda nu mn k 0 kp) m X = X'
    generalize lgA (a 60) w (a 62) n m (cmk kda nu mn k 0 kp m) y.2.1 = s'
    intro k1 k2 k3 k4
    have hrow : ∀ l, hxr (m + 1) X'.1 l = X'.1 (m * 8 + l) := fun l => by unfold hxr; rw [if_pos (Nat.succ_pos m)]; rfl
    refine ⟨fun i hi => ?_, k1, fun l hl => ?_, fun j hj => ?_, fun i l hi hl => ?_⟩
    · rw [if_pos (Nat.succ_pos m)]; exact hwW i hi
    · obtain ⟨j1, j2, j3, j4, j5⟩ := i3 l hl
      obtain ⟨q1, q2, q3, q4, q5⟩ := k3 l hl
      dsimp only at q1 q2 q3 q4 q5
      have ecut : moF X'.1 l 0 m = moF X.1 l 0 m := moF_cut (m := m) (fun i hi => (k2 _ (by omega)).1) m 0 (by omega)
      have esn : moF X'.1 l 0 (m + 1) = if moF X.1 l 0 m = -1 then (if X'.1 (m * 8 + l) = 16 then nI m else -1) else moF X.1 l 0 m := by
        rw [moF_snoc m 0 (by omega), ecut, Nat.zero_add]
      refine ⟨by rw [hrow]; exact q1, ?_, ?_, ?_, ?_⟩
      · rw [q3, esn, j2]
        by_cases h1 : moF X.1 l 0 m = -1
        · rw [if_pos h1]
          have h2 : ¬ hxr m X.1 l = 16 := fun q => j5.mp q h1
          by_cases h3 : X'.1 (m * 8 + l) = 16
          · rw [if_pos ⟨h3, h2⟩, if_pos h3]
          · rw [if_neg (fun q => h3 q.1), if_neg h3, h1]
        · rw [if_neg h1, if_neg (fun q => q.2 (j5.mpr h1))]
      · rw [q4, miP_s, j3, miP_cut (S := X'.2.1) (S' := X.2.1) (fun i hi => (k2 _ (by omega)).2)]
      · rw [q5, miP_s, j4, miP_cut (S := X'.2.1) (S' := X.2.1) (fun i hi => (k2 _ (by omega)).2)]
      · rw [hrow, esn]
        by_cases h1 : moF X.1 l 0 m = -1
        · rw [if_pos h1]
          by_cases h3 : X'.1 (m * 8 + l) = 16
          · rw [if_pos h3]; exact ⟨fun _ => nI_ne1 (by omega), fun _ => h3⟩
          · rw [if_neg h3]; exact ⟨fun q => absurd q h3, fun q => absurd rfl q⟩
        · rw [if_neg h1]
          exact ⟨fun _ => h1, fun _ => k4 l hl (j5.mpr h1)⟩
    · by_cases h : j < 16 * m
      · rw [cp1_in.2 j h]; exact i4 j h
      · have e := cp1_in (m := m) (w := w) (B := y.2.2.1).1 (j - 16 * m) (by omega)
        rw [show 16 * m + (j - 16 * m) = j by omega] at e
        rw [e, hwW _ (by omega)]
        congr 1
        omega
    · by_cases h : i < m
      · have e := cp2_in (n := n) (m := m) (H := s'.1) (T := s'.2.1) (B := y.2.2.2).2 (8 * i + l) (by omega)
        rw [e.1, e.2, (k2 _ (by omega)).1, (k2 _ (by omega)).2]
        exact i5 i l h hl
      · obtain rfl : i = m := by omega
        have e := cp2_in (n := n) (m := i) (H := s'.1) (T := s'.2.1) (B := y.2.2.2).1 l hl
        obtain ⟨q1, q2, q3, q4, q5⟩ := k3 l hl
        rw [e.1, e.2]
        exact ⟨q1, q2⟩
theorem m_livesR {E : iExtT} {ax : Nat → Nat → Int32} {vx : Nat → Int32} {tx : Nat → Nat → Int64} {a : Nat → Nat → Int32} {v : Nat → Int32} {t : Nat → Nat → Int64} {n k : Nat} (hn : n ≤ 8) (hv : v 31 = nI n) (hk : k ≤ 8) (hv2 : v 32 = nI k) {tt : Nat → Nat} {sl fe st de ta kda nu : Nat → Int32} {mn : Nat → Nat} {kp : Int32} (hR : loR n tt a sl fe st de ta) (hE : evR (a 63) kda nu mn k kp (v 33)) : ∃ a', Rn E 6 mX8_lives (0, [(0, .ref 53)], [], wY ax vx tx a v t) (none, wY ax vx tx a' v t) ∧ (∀ j, j ∉ [64, 65, 66, 67, 68, 69, 70, 71, 72] → a' j = a j) ∧ LV a' n (cwl kda nu mn k fe kp) (crn kda nu mn k n sl de ta st (cwl kda nu mn k fe kp) kp) := by
  obtain ⟨W, hW⟩ : ∃ W, W = cwl kda nu mn k fe kp := ⟨_, rfl⟩
  obtain ⟨h1, h2, h3, h4, h5⟩ := lives_eq hn hR hE hW 24 (Nat.le_refl _)
  have hl := m_lives (E := E) (ax := ax) (vx := vx) (tx := tx) (t := t) hn hv hk hv2 (y := lvF a n k (v 33) 24) rfl
  rw [← hW]
  have hD : crn kda nu mn k n sl de ta st W kp = lp (mnF n sl de ta st W (cmk kda nu mn k 0 kp)) 0 24 (z0, z0, z0, 0, sh1 (nI n) - 1) := rfl
  rw [hD]
  revert h1 h2 h3 h4 h5 hl
  generalize lp (mnF n sl de ta st W (cmk kda nu mn k 0 kp)) 0 24 (z0, z0, z0, 0, sh1 (nI n) - 1) = D
  generalize lvF a n k (v 33) 24 = y
  intro h1 h2 h3 h4 h5 hl
  refine ⟨w9 a y.1 y.2.1 y.2.2, hl, fun j hj => ?_, fun j hj => h4 j (by omega), fun i l hi hl => h5 i l hi hl, fun l hl => ⟨(h3 l hl).2.1, (h3 l hl).2.2.1, (h3 l hl).2.2.2.1⟩⟩
  simp only [List.mem_cons, List.not_mem_nil, or_false, not_or] at hj
  obtain ⟨j0, j1, j2, j3, j4, j5, j6, j7, j8⟩ := hj
  show (if j = 72 then _ else if j = 71 then _ else if j = 70 then _ else if j = 69 then _ else if j = 68 then _ else if j = 67 then _ else if j = 66 then _ else if j = 65 then _ else if j = 64 then _ else a j) = a j
  rw [if_neg j8, if_neg j7, if_neg j6, if_neg j5, if_neg j4, if_neg j3, if_neg j2, if_neg j1, if_neg j0]
end EQV
