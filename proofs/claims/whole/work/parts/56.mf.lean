section MFX
variable {E : iExtT} {ax : Nat → Nat → Int32} {vx : Nat → Int32} {tx : Nat → Nat → Int64} {c a : Nat → Nat → Int32} {v : Nat → Int32} {t : Nat → Nat → Int64} {n k q : Nat} {mn sm tt : Nat → Nat}
theorem m_part {A B : Nat} (hA : A < 2 ^ 62) (hB : B < 2 ^ 62) (hp : 0 < B) (w : Int32) (h : List va_E) : Rn E 0 mX8_part (0, [(0, .long (lN A)), (2, .long (lN B)), (4, .int w)], [], h) (some (.long (if w = 0 then lN (A / Nat.gcd A B) else lN (B / Nat.gcd A B))), h) := by
  have key : ∀ b x, x < 2 ^ 62 → b < 2 ^ 62 → (0 < x ∨ 0 < b) → Nat.gcd x b = Nat.gcd A B → Rn E 0 mX8_part (6, [(7, .long (lN b)), (5, .long (lN x)), (0, .long (lN A)), (2, .long (lN B)), (4, .int w)], [], h) (some (.long (if w = 0 then lN (A / Nat.gcd A B) else lN (B / Nat.gcd A B))), h) := by
    intro b
    induction b using Nat.strongRecOn with
    | _ b ih =>
      intro x hx hb h0 hg
      by_cases hb0 : b = 0
      · subst hb0
        rw [Nat.gcd_zero_right] at hg
        rw [← hg]
        have hx0 : 0 < x := by omega
        have hne : ¬ lN x = 0 := fun p => by have := (pk_lEQ (a := x) (b := 0) (by omega) (by decide)).mp p; omega
        iterate 3 refine Rn.step rfl ?_
        refine Rn.step rfl ?_
        iterate 1 refine Rn.step rfl ?_
        refine Rn.br rfl (fun h1 => ?_) (fun h1 => ?_)
        · rw [if_neg h1]
          iterate 2 refine Rn.step rfl ?_
          refine Rn.chk rfl hne ?_
          rw [pk_lDiv (by omega) hx0 (by omega)]
          exact Rn.ret rfl
        · rw [if_pos (Decidable.not_not.mp h1)]
          iterate 3 refine Rn.step rfl ?_
          refine Rn.chk rfl hne ?_
          rw [pk_lDiv (by omega) hx0 (by omega)]
          exact Rn.ret rfl
      · have hne : ¬ lN b = 0 := fun p => hb0 ((pk_lEQ (a := b) (b := 0) (by omega) (by decide)).mp p)
        have hm : x % b < b := Nat.mod_lt _ (by omega)
        have hr := ih (x % b) hm b hb (by omega) (Or.inl (by omega)) (by rw [← hg, Nat.gcd_comm x b, Nat.gcd_rec b x, Nat.gcd_comm])
        iterate 3 refine Rn.step rfl ?_
        refine Rn.br2 rfl (fun p => hne ((lg_cmp_eq _ _).mp p)) ?_
        iterate 2 refine Rn.step rfl ?_
        refine Rn.chk rfl hne ?_
        rw [pk_lRem (by omega) (by omega) (by omega)]
        iterate 6 refine Rn.step rfl ?_
        exact Rn.sub (by exact ⟨rfl, rfl, rfl, rfl, rfl, trivial⟩) hr
  iterate 4 refine Rn.step rfl ?_
  exact key B A hA hB (Or.inr hp) rfl
theorem odd_gcd {A : Nat} (h : A % 2 = 1) (e : Nat) : Nat.gcd A (2 ^ e) = 1 := by
  have h1 : Nat.Coprime A 2 := by
    show Nat.gcd A 2 = 1
    rw [Nat.gcd_comm, Nat.gcd_rec, h]; rfl
  exact Nat.Coprime.pow_right e h1
theorem l2_even {A : Nat} (hA : A < 2 ^ 62) : lN A - lN A / 2 * 2 = 0 ↔ A % 2 = 0 := by
  rw [show (2 : Int64) = lN 2 from rfl, pk_lRem (by omega) (by decide) (by decide)]
  exact pk_lEQ (b := 0) (by omega) (by decide)
theorem hv_gcd : ∀ f e A, e ≤ f → A < 2 ^ 62 → 0 < A → e ≤ 61 → hvF f (lN A) (lN (2 ^ e)) = (lN (A / Nat.gcd A (2 ^ e)), lN (2 ^ e / Nat.gcd A (2 ^ e))) := by
  intro f
  induction f with
  | zero =>
    intro e A he _ _ _
    obtain rfl : e = 0 := by omega
    rw [Nat.pow_zero, Nat.gcd_one_right, Nat.div_one, Nat.div_one]; rfl
  | succ f ih =>
    intro e A he hA h0 h61
    have he62 : 2 ^ e < 2 ^ 62 := Nat.pow_lt_pow_right (by decide) (by omega)
    unfold hvF
    by_cases h1 : A % 2 = 0
    · cases e with
      | zero =>
        rw [if_neg (fun p => by have := (l2_even (by omega)).mp p.2; revert this; decide), Nat.pow_zero, Nat.gcd_one_right, Nat.div_one, Nat.div_one]
      | succ e =>
        have e1 : 2 ^ (e + 1) = 2 * 2 ^ e := by rw [Nat.pow_succ, Nat.mul_comm]
        rw [if_pos ⟨(l2_even hA).mpr h1, (l2_even he62).mpr (by rw [e1]; omega)⟩, show (2 : Int64) = lN 2 from rfl, pk_lDiv (by omega) (by decide) (by decide), pk_lDiv (by omega) (by decide) (by decide)]
        have e2 : 2 ^ (e + 1) / 2 = 2 ^ e := by rw [e1]; exact Nat.mul_div_cancel_left _ (by decide)
        rw [e2, ih e (A / 2) (by omega) (by omega) (by omega) (by omega)]
        have e3 : A = 2 * (A / 2) := by omega
        have e4 : Nat.gcd A (2 ^ (e + 1)) = 2 * Nat.gcd (A / 2) (2 ^ e) := by
          rw [e1]
          conv => lhs; rw [e3]
          exact Nat.gcd_mul_left 2 (A / 2) (2 ^ e)
        rw [e4, e1, ← Nat.div_div_eq_div_mul, ← Nat.div_div_eq_div_mul, Nat.mul_div_cancel_left _ (by decide)]
    · rw [if_neg (fun p => h1 ((l2_even hA).mp p.1)), odd_gcd (by omega) e, Nat.div_one, Nat.div_one]
theorem ch_pow : ∀ k, k < 9 → (1 : Int64) <<< ((4 * nI k).toInt64 &&& 63) = lN (2 ^ (4 * k)) := by decide +kernel
theorem ch_gcd {A : Nat} (hk : k ≤ 8) (hA : A < 2 ^ 62) : chF k (lN A) = (lN (A / Nat.gcd A (2 ^ (4 * k))), lN (2 ^ (4 * k) / Nat.gcd A (2 ^ (4 * k)))) := by
  unfold chF
  by_cases h0 : A = 0
  · subst h0
    rw [if_pos (show lN 0 = 0 from rfl), Nat.gcd_zero_left, Nat.zero_div, Nat.div_self (Nat.two_pow_pos _)]; rfl
  · rw [if_neg (show ¬ lN A = 0 from fun p => h0 ((pk_lEQ (b := 0) (by omega) (by decide)).mp p)), ch_pow k (by omega)]
    exact hv_gcd 32 (4 * k) A (by omega) hA (by omega) (by omega)
theorem wt_nat {x : Nat} (hx : x < 17) (kp : Int32) : ∀ k, k ≤ 8 → ∃ u, u ≤ 16 ^ k ∧ wtF k (nI x) kp = lN u := by
  intro k
  induction k with
  | zero => intro _; exact ⟨1, by decide, rfl⟩
  | succ k ih =>
    intro hk
    obtain ⟨u, hu, e⟩ := ih (by omega)
    have e1 : wtF (k + 1) (nI x) kp = wtF k (nI x) kp * (if bt kp k then (nI x).toInt64 else (16 - nI x).toInt64) := by
      unfold wtF; rw [lp_end, Nat.zero_add]
    rw [e1, e, show (16 : Int32) - nI x = nI (16 - x) from pk_sub (a := 16) (by omega), nI_l (by omega), nI_l (by omega)]
    split
    · refine ⟨u * x, ?_, lN_mul u x⟩
      rw [Nat.pow_succ]; exact Nat.mul_le_mul hu (by omega)
    · refine ⟨u * (16 - x), ?_, lN_mul u _⟩
      rw [Nat.pow_succ]; exact Nat.mul_le_mul hu (by omega)
/-- what a choice of events adds -/
def chT (c : Nat → Nat → Int32) (mn : Nat → Nat) (k n : Nat) (x : Int32) (l p : Nat) : Int64 := if bt (oC c mn k n (nI p)) l then wtF k x (nI p) else 0
theorem sx_sum {x : Int32} {l m : Nat} : sxF c mn k n x l m = lp (fun p s => s + chT c mn k n x l p) 0 m 0 := lp_congr (fun p s _ _ => by
  unfold chT
  by_cases h1 : bt (oC c mn k n (nI p)) l
  · rw [if_pos h1]
    by_cases h2 : wtF k x (nI p) = 0
    · rw [if_neg (fun p => p.1 h2), h2]; simp
    · rw [if_pos ⟨h2, h1⟩]
  · rw [if_neg h1, if_neg (fun p => h1 p.2)]; simp)
theorem sx_nat {x l : Nat} (hx : x < 17) (hk : k ≤ 8) : ∃ A, A < 2 ^ 62 ∧ sxF c mn k n (nI x) l (2 ^ k) = lN A := by
  rw [sx_sum]
  have hkk : 16 ^ k ≤ 16 ^ 8 := Nat.pow_le_pow_right (by decide) hk
  have h := lp_inv (f := fun p (s : Int64) => s + chT c mn k n (nI x) l p) (fun m s => ∃ A, A ≤ m * 16 ^ 8 ∧ s = lN A) (i := 0) (j := 2 ^ k) (s := 0) ⟨0, by decide, rfl⟩ (fun m s _ _ hI => by
    obtain ⟨A, hA, rfl⟩ := hI
    unfold chT
    split
    · obtain ⟨u, hu, e⟩ := wt_nat hx (nI m) k hk
      rw [e, lN_add]
      exact ⟨A + u, by rw [Nat.add_mul]; omega, rfl⟩
    · exact ⟨A, Nat.le_trans hA (Nat.mul_le_mul_right _ (Nat.le_succ m)), Int64.add_zero _⟩)
  obtain ⟨A, hA, e⟩ := h
  have h2 : 2 ^ k ≤ 2 ^ 8 := Nat.pow_le_pow_right (by decide) hk
  exact ⟨A, by rw [Nat.zero_add] at hA; have := Nat.mul_le_mul_right (16 ^ 8) h2; omega, e⟩
theorem lp_sum (G : Nat → Int64) : ∀ j i s, lp (fun g (s : Int64) => s + G g) i j s = s + lp (fun g (s : Int64) => s + G g) i j 0 := by
  intro j
  induction j with
  | zero => intro i s; show s = s + 0; simp
  | succ j ih =>
    intro i s
    rw [lp_front, lp_front, ih (i + 1) (s + G i), ih (i + 1) (0 + G i), Int64.zero_add, Int64.add_assoc]
theorem lp_shift {σ : Type} (f : Nat → σ → σ) : ∀ j i s, lp f (i + 1) j s = lp (fun g => f (g + 1)) i j s := by
  intro j
  induction j with
  | zero => intro i s; rfl
  | succ j ih => intro i s; rw [lp_front, lp_front]; exact ih (i + 1) _
theorem lp_rev (F : Nat → Int64) : ∀ N, lp (fun g (s : Int64) => s + F (N - 1 - g)) 0 N 0 = lp (fun p (s : Int64) => s + F p) 0 N 0 := by
  intro N
  induction N with
  | zero => rfl
  | succ N ih =>
    rw [lp_front, lp_shift, lp_end, ← ih, lp_sum, Int64.zero_add, Nat.zero_add, Int64.add_comm]
    congr 1
    exact lp_congr (fun g s _ hg => by rw [show N + 1 - 1 - (g + 1) = N - 1 - g by omega])
theorem sh_pow : ∀ k, k < 9 → sh1 (nI k) = nI (2 ^ k) := by decide +kernel
theorem ev_rev : ∀ k, k < 9 → ∀ g, g < 2 ^ k → ∀ e, e < k → (bt (nI (2 ^ k - 1 - g)) e ↔ ¬ bt (nI g) e) := by decide +kernel
theorem wt_rev {x : Int32} {g kp : Int32} (h : ∀ e, e < k → (bt kp e ↔ ¬ bt g e)) (w : Int64) : lp (fun e (w : Int64) => w * (if bt g e then (16 - x).toInt64 else x.toInt64)) 0 k w = w * wtF k x kp := by
  have key : ∀ m, m ≤ k → lp (fun e (w : Int64) => w * (if bt g e then (16 - x).toInt64 else x.toInt64)) 0 m w = w * wtF m x kp := by
    intro m
    induction m with
    | zero => intro _; show w = w * 1; simp
    | succ m ih =>
      intro hm
      have e1 : wtF (m + 1) x kp = wtF m x kp * (if bt kp m then x.toInt64 else (16 - x).toInt64) := by
        unfold wtF; rw [lp_end, Nat.zero_add]
      rw [lp_end, ih (by omega), Nat.zero_add, e1, Int64.mul_assoc]
      congr 1
      congr 1
      have := h m (by omega)
      by_cases p : bt g m
      · rw [if_pos p, if_neg (fun r => this.mp r p)]
      · rw [if_neg p, if_pos (this.mpr p)]
  exact key k (Nat.le_refl _)
theorem out_bit {ta W : Nat → Int32} {D : dS} (hn : n ≤ 8) (hL : LW a n ta W D) {l : Nat} (hl : l < n) : ¬ a 67 l = -1 ↔ bt (obF D.1 n) l := by
  rw [(hL.1.2.2 l hl).1, bt_gb (by omega)]
  refine Iff.trans (hL.2.1.2 l hl).symm (Iff.trans ?_ (ob_bit hn (by omega)).symm)
  exact ⟨fun p => ⟨hl, p⟩, fun p => p.2⟩
theorem m_chanceOf (hC : MC c a v n k q mn sm tt) (h33 : v 33 = 0) {x l : Nat} (hx : x < 17) (hl : l < n) (w : Int32) : ∃ a', Rn E 7 mX8_chanceOf (0, [(0, .ref 53), (1, .int (nI x)), (2, .int (nI l)), (3, .int w)], [], wY ax vx tx a v t) (some (.long (if w = 0 then (chF k (sxF c mn k n (nI x) l (2 ^ k))).1 else (chF k (sxF c mn k n (nI x) l (2 ^ k))).2)), wY ax vx tx a' v t) ∧ (∀ j, j ∉ rowsM → a' j = a j) ∧ MC c a' v n k q mn sm tt := by
  obtain ⟨⟨hn, hv⟩, ⟨hk, hv2⟩, -⟩ := id hC
  have hN : 2 ^ k ≤ 256 := by have := Nat.pow_le_pow_right (n := 2) (by decide) hk; omega
  have hstep : ∀ (g : Nat) (s : ((Nat → Nat → Int32) × Int32) × Int64), g < 2 ^ k → ((MC c s.1.1 v n k q mn sm tt ∧ ∀ j, j ∉ rowsM → s.1.1 j = a j) ∧ s.2 = lp (fun g s => s + chT c mn k n (nI x) l (2 ^ k - 1 - g)) 0 g 0) → ∃ s' : ((Nat → Nat → Int32) × Int32) × Int64, ((MC c s'.1.1 v n k q mn sm tt ∧ ∀ j, j ∉ rowsM → s'.1.1 j = a j) ∧ s'.2 = lp (fun g s => s + chT c mn k n (nI x) l (2 ^ k - 1 - g)) 0 (g + 1) 0) ∧ ∀ o, Rn E 7 mX8_chanceOf (6, [(6, .int (nI (g + 1))), (4, .long s'.2), (0, .ref 53), (1, .int (nI x)), (2, .int (nI l)), (3, .int w)], [], wY ax vx tx s'.1.1 (upd v 33 s'.1.2) t) o → Rn E 7 mX8_chanceOf (6, [(6, .int (nI g)), (4, .long s.2), (0, .ref 53), (1, .int (nI x)), (2, .int (nI l)), (3, .int w)], [], wY ax vx tx s.1.1 (upd v 33 s.1.2) t) o := by
    rintro g ⟨⟨a1, y⟩, ab⟩ hg ⟨⟨hI, hf⟩, hb⟩
    dsimp only at hI hf hb
    obtain ⟨kp, hkp⟩ : ∃ kp, kp = 2 ^ k - 1 - g := ⟨_, rfl⟩
    have hrev : ∀ e, e < k → (bt (nI kp) e ↔ ¬ bt (nI g) e) := fun e he => by rw [hkp]; exact ev_rev k (by omega) g hg e he
    have hI1 : MC c a1 (upd v 33 (nI g)) n k q mn sm tt := hI.moved (fun _ _ => rfl) (fun j hj => pk_un (by simp only [List.mem_cons, List.not_mem_nil, or_false] at hj; omega))
    obtain ⟨a2, hr, hf2, hC2, hL2⟩ := m_livesM (E := E) (ax := ax) (vx := vx) (tx := tx) (t := t) hI1 (kp := nI kp) (fun e he => by rw [pk_us]; exact hrev e he)
    have hC3 : MC c a2 v n k q mn sm tt := hC2.moved (fun _ _ => rfl) (fun j hj => (pk_un (by simp only [List.mem_cons, List.not_mem_nil, or_false] at hj; omega)).symm)
    have hout : ¬ a2 67 l = -1 ↔ bt (oC c mn k n (nI kp)) l := out_bit hn hL2 hl
    obtain ⟨w0, hw0⟩ : ∃ w0 : Int64, w0 = if ¬ a2 67 l = -1 then 1 else 0 := ⟨_, rfl⟩
    have hT : w0 * wtF k (nI x) (nI kp) = chT c mn k n (nI x) l kp := by
      unfold chT
      rw [hw0]
      by_cases p : bt (oC c mn k n (nI kp)) l
      · rw [if_pos p, if_pos (hout.mpr p)]; simp
      · rw [if_neg p, if_neg (fun r => p (hout.mp r))]; simp
    refine ⟨((a2, nI g), ab + chT c mn k n (nI x) l kp), ⟨⟨hC3, fun j hj => ?_⟩, by rw [lp_end, ← hb, Nat.zero_add, hkp]⟩, fun o kk => ?_⟩
    · show a2 j = a j
      rw [hf2 j (by intro q; apply hj; simp only [List.mem_cons, List.not_mem_nil, or_false] at q ⊢; omega)]
      exact hf j hj
    · dsimp only at kk ⊢
      rw [nI_succ] at kk
      have h42 : Rn E 7 mX8_chanceOf (42, [(6, .int (nI g)), (4, .long ab), (0, .ref 53), (1, .int (nI x)), (2, .int (nI l)), (3, .int w)], [.long w0], wY ax vx tx a2 (upd v 33 (nI g)) t) o := by
        iterate 3 refine Rn.step rfl ?_
        refine Rn.lp (σ := Int64) (cfg := fun e z => (47, [(9, .int (nI e)), (7, .long z), (6, .int (nI g)), (4, .long ab), (0, .ref 53), (1, .int (nI x)), (2, .int (nI l)), (3, .int w)], [], wY ax vx tx a2 (upd v 33 (nI g)) t)) (f := fun e z => z * (if bt (nI g) e then (16 - nI x).toInt64 else (nI x).toInt64)) (n := k) (fun _ _ => True) (fun e z he _ => ⟨trivial, fun k2 => ?_⟩) k 0 w0 (by omega) trivial (fun z0 hz0 _ => ?_)
        · rw [nI_succ] at k2
          iterate 3 refine Rn.step rfl ?_
          refine Rn.br2 rfl (by show ¬ v 32 ≤ nI e; rw [hv2]; exact nle he (by omega)) ?_
          iterate 3 refine Rn.step rfl ?_
          refine Rn.calli rfl rfl rfl (by decide) (m_isIn (nI g) e _) (fun z1 f1 => ?_)
          refine Rn.br rfl (fun h1 => ?_) (fun h1 => ?_)
          · rw [f1, ib_eq0] at h1
            rw [if_neg h1] at k2
            iterate 6 refine Rn.step rfl ?_
            exact k2
          · rw [f1, ib_ne0] at h1
            rw [if_pos h1] at k2
            iterate 9 refine Rn.step rfl ?_
            exact k2
        · rw [wt_rev hrev, hT] at hz0
          rw [← hz0] at kk
          iterate 3 refine Rn.step rfl ?_
          refine Rn.br1 rfl (by show v 32 ≤ nI k; rw [hv2]; exact nI_le (by omega) (by omega)) ?_
          iterate 6 refine Rn.step rfl ?_
          exact Rn.sub (by exact ⟨rfl, rfl, rfl, rfl, rfl, rfl, trivial⟩) kk
      iterate 5 refine Rn.step rfl ?_
      refine Rn.br2 rfl (by show ¬ sh1 (v 32) ≤ nI g; rw [hv2, sh_pow k (by omega)]; exact nle hg (by omega)) ?_
      iterate 3 refine Rn.step rfl ?_
      refine Rn.hp (h2 := wY ax vx tx a1 (upd v 33 (nI g)) t) (by rw [← upd_upd v 33 y (nI g)]; rfl) ?_
      iterate 1 refine Rn.step rfl ?_
      refine Rn.callv rfl rfl rfl (by decide) hr ?_
      iterate 3 refine Rn.step rfl ?_
      refine Rn.ald l rfl rfl (by omega) (by decide) ?_
      iterate 1 refine Rn.step rfl ?_
      refine Rn.br rfl (fun h1 => ?_) (fun h1 => ?_)
      · rw [if_neg (fun p => p h1)] at hw0
        iterate 1 refine Rn.step rfl ?_
        rw [← hw0]
        exact h42
      · rw [if_pos h1] at hw0
        iterate 2 refine Rn.step rfl ?_
        rw [← hw0]
        exact h42
  obtain ⟨⟨⟨a1, y⟩, ab⟩, ⟨⟨hI, hf⟩, hb⟩, hgo⟩ := Rn.lpx (E := E) (hh := 7) (M := mX8_chanceOf) (σ := ((Nat → Nat → Int32) × Int32) × Int64) (cfg := fun g s => (6, [(6, .int (nI g)), (4, .long s.2), (0, .ref 53), (1, .int (nI x)), (2, .int (nI l)), (3, .int w)], [], wY ax vx tx s.1.1 (upd v 33 s.1.2) t)) (n := 2 ^ k) (fun g s => (MC c s.1.1 v n k q mn sm tt ∧ ∀ j, j ∉ rowsM → s.1.1 j = a j) ∧ s.2 = lp (fun g s => s + chT c mn k n (nI x) l (2 ^ k - 1 - g)) 0 g 0) hstep (2 ^ k) 0 ((a, 0), 0) (by omega) ⟨⟨hC, fun _ _ => rfl⟩, rfl⟩
  dsimp only at hI hf hb hgo
  rw [lp_rev, ← sx_sum] at hb
  obtain ⟨A, hA, eA⟩ := sx_nat (c := c) (mn := mn) (n := n) (l := l) hx hk
  rw [eA] at hb ⊢
  rw [ch_gcd hk hA]
  refine ⟨a1, ?_, hf, hI⟩
  iterate 4 refine Rn.step rfl ?_
  refine Rn.hp (h2 := wY ax vx tx a (upd v 33 0) t) (by rw [← h33, upd_self]) ?_
  refine hgo _ ?_
  iterate 5 refine Rn.step rfl ?_
  refine Rn.br1 rfl (by show sh1 (v 32) ≤ nI (2 ^ k); rw [hv2, sh_pow k (by omega)]; exact nI_le (by omega) (by omega)) ?_
  iterate 3 refine Rn.step rfl ?_
  refine Rn.hp (h2 := wY ax vx tx a1 v t) (by rw [← v_back h33 y]; rfl) ?_
  iterate 7 refine Rn.step rfl ?_
  refine Rn.topl (x' := lN (2 ^ (4 * k))) (by show (1 : Int64) <<< ((4 * v 32).toInt64 &&& 63) = _; rw [hv2]; exact ch_pow k (by omega)) ?_
  iterate 1 refine Rn.step rfl ?_
  rw [hb]
  refine Rn.calll rfl rfl rfl (by decide) (m_part (A := A) (B := 2 ^ (4 * k)) hA (by have := Nat.pow_le_pow_right (n := 2) (by decide) (show 4 * k ≤ 32 by omega); omega) (Nat.two_pow_pos _) w _) (fun z f => ?_)
  rw [← f]
  exact Rn.ret rfl
end MFX
