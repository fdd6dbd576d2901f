section X1
variable {E : iExtT} {a : Nat → Nat → Int32} {v : Nat → Int32} {t : Nat → Nat → Int64} {r : List va_E}
/-- the bit test of the code -/
abbrev bt (x : Int32) (e : Nat) : Prop := (x >>> (nI e &&& 31)) &&& 1 = 1
abbrev sh1 (x : Int32) : Int32 := 1 <<< (x &&& 31)
def mkA (kda : Nat → Int32) (mn : Nat → Nat) (nu : Nat → Int32) (k : Nat) (kd kp : Int32) (f0 : Nat → Int32) : Nat → Int32 :=
  lp (fun e g => if kda e = kd ∧ bt kp e then upd g (mn e) (g (mn e) ||| sh1 (nu e)) else g) 0 k (lp (fun m g => upd g m 0) 0 24 f0)
theorem r_mark {K : Nat} (hK : K = 20 ∨ K = 21 ∨ K = 25 ∨ K = 29 ∨ K = 30 ∨ K = 34) (kd kp : Int32) {k : Nat} (hk : k ≤ 8) (hv : v 5 = nI k) {mn : Nat → Nat} (hmn : ∀ e, e < k → a 11 e = nI (mn e) ∧ mn e < 24) : Rn E 0 mX1_mark (0, [(0, .ref 9), (1, .int kd), (2, .int kp), (3, .ref K)], [], wX a v t r) (none, wX (va_up a K (mkA (a 10) mn (a 12) k kd kp (a K))) v t r) := by
  rcases hK with rfl | rfl | rfl | rfl | rfl | rfl
  · skip
    iterate 2 refine Rn.step rfl ?_
    refine Rn.lp (σ := Nat → Int32) (cfg := fun i g => (3, [(4, .int (nI i)), (0, .ref 9), (1, .int kd), (2, .int kp), (3, .ref 20)], [], wX (va_up a 20 g) v t r)) (f := fun m g => upd g m 0) (n := 24) (fun _ _ => True) (fun i g hi _ => ⟨trivial, fun k => ?_⟩) 24 0 (a 20) rfl trivial (fun g0 hg0 _ => ?_)
    · repeat refine Rn.step rfl ?_
      refine Rn.br2 rfl (nle hi (by decide)) ?_
      repeat refine Rn.step rfl ?_
      refine Rn.ast i rfl rfl hi (by decide) (h3 := wX (va_up a 20 (upd g i 0)) v t r) rfl ?_
      iterate 2 refine Rn.step rfl ?_
      rw [nI_succ] at k
      exact k
    · iterate 6 refine Rn.step rfl ?_
      refine Rn.lp (σ := Nat → Int32) (cfg := fun e g => (24, [(4, .int (nI e)), (0, .ref 9), (1, .int kd), (2, .int kp), (3, .ref 20)], [], wX (va_up a 20 g) v t r)) (f := fun e g => if a 10 e = kd ∧ bt kp e then upd g (mn e) (g (mn e) ||| sh1 (a 12 e)) else g) (n := k) (fun _ _ => True) (fun e g he _ => ⟨trivial, fun kk => ?_⟩) k 0 g0 (by omega) trivial (fun g1 hg1 _ => ?_)
      · rw [nI_succ] at kk
        repeat refine Rn.step rfl ?_
        refine Rn.br2 rfl (by show ¬ v 5 ≤ nI e; rw [hv]; exact nle he (by omega)) ?_
        repeat refine Rn.step rfl ?_
        refine Rn.br2 rfl (nle (n := 8) (by omega) (by decide)) ?_
        repeat refine Rn.step rfl ?_
        refine Rn.ald e rfl rfl (by omega) (by decide) ?_
        repeat refine Rn.step rfl ?_
        refine Rn.ald e rfl rfl (by omega) (by decide) ?_
        repeat refine Rn.step rfl ?_
        refine Rn.br rfl (fun h1 => ?_) (fun h1 => ?_)
        · rw [if_neg (fun q => h1 q.1)] at kk
          iterate 2 refine Rn.step rfl ?_
          exact Rn.sub (by exact ⟨rfl, rfl, rfl, rfl, rfl, trivial⟩) kk
        · repeat refine Rn.step rfl ?_
          refine Rn.br rfl (fun h2 => ?_) (fun h2 => ?_)
          · rw [if_neg (fun q => h2 q.2)] at kk
            iterate 2 refine Rn.step rfl ?_
            exact Rn.sub (by exact ⟨rfl, rfl, rfl, rfl, rfl, trivial⟩) kk
          · rw [if_pos ⟨Decidable.not_not.mp h1, Decidable.not_not.mp h2⟩] at kk
            repeat refine Rn.step rfl ?_
            refine Rn.br2 rfl (by show ¬ a 11 e < 0; rw [(hmn e he).1]; exact nI_pos (by have := (hmn e he).2; omega)) ?_
            repeat refine Rn.step rfl ?_
            refine Rn.br2 rfl (by show ¬ nI 24 ≤ a 11 e; rw [(hmn e he).1]; exact nle (hmn e he).2 (by decide)) ?_
            repeat refine Rn.step rfl ?_
            refine Rn.ald (mn e) rfl (hmn e he).1 (hmn e he).2 (by decide) ?_
            repeat refine Rn.step rfl ?_
            refine Rn.ald e rfl rfl (by omega) (by decide) ?_
            repeat refine Rn.step rfl ?_
            refine Rn.ast (mn e) rfl (hmn e he).1 (hmn e he).2 (by decide) (h3 := wX (va_up a 20 (upd g (mn e) (g (mn e) ||| sh1 (a 12 e)))) v t r) rfl ?_
            iterate 2 refine Rn.step rfl ?_
            exact Rn.sub (by exact ⟨rfl, rfl, rfl, rfl, rfl, trivial⟩) kk
      · repeat refine Rn.step rfl ?_
        refine Rn.br1 rfl (by show v 5 ≤ nI k; rw [hv]; exact Int32.le_refl _) ?_
        subst hg0
        subst hg1
        exact Rn.ret rfl
  · skip
    iterate 2 refine Rn.step rfl ?_
    refine Rn.lp (σ := Nat → Int32) (cfg := fun i g => (3, [(4, .int (nI i)), (0, .ref 9), (1, .int kd), (2, .int kp), (3, .ref 21)], [], wX (va_up a 21 g) v t r)) (f := fun m g => upd g m 0) (n := 24) (fun _ _ => True) (fun i g hi _ => ⟨trivial, fun k => ?_⟩) 24 0 (a 21) rfl trivial (fun g0 hg0 _ => ?_)
    · repeat refine Rn.step rfl ?_
      refine Rn.br2 rfl (nle hi (by decide)) ?_
      repeat refine Rn.step rfl ?_
      refine Rn.ast i rfl rfl hi (by decide) (h3 := wX (va_up a 21 (upd g i 0)) v t r) rfl ?_
      iterate 2 refine Rn.step rfl ?_
      rw [nI_succ] at k
      exact k
    · iterate 6 refine Rn.step rfl ?_
      refine Rn.lp (σ := Nat → Int32) (cfg := fun e g => (24, [(4, .int (nI e)), (0, .ref 9), (1, .int kd), (2, .int kp), (3, .ref 21)], [], wX (va_up a 21 g) v t r)) (f := fun e g => if a 10 e = kd ∧ bt kp e then upd g (mn e) (g (mn e) ||| sh1 (a 12 e)) else g) (n := k) (fun _ _ => True) (fun e g he _ => ⟨trivial, fun kk => ?_⟩) k 0 g0 (by omega) trivial (fun g1 hg1 _ => ?_)
      · rw [nI_succ] at kk
        repeat refine Rn.step rfl ?_
        refine Rn.br2 rfl (by show ¬ v 5 ≤ nI e; rw [hv]; exact nle he (by omega)) ?_
        repeat refine Rn.step rfl ?_
        refine Rn.br2 rfl (nle (n := 8) (by omega) (by decide)) ?_
        repeat refine Rn.step rfl ?_
        refine Rn.ald e rfl rfl (by omega) (by decide) ?_
        repeat refine Rn.step rfl ?_
        refine Rn.ald e rfl rfl (by omega) (by decide) ?_
        repeat refine Rn.step rfl ?_
        refine Rn.br rfl (fun h1 => ?_) (fun h1 => ?_)
        · rw [if_neg (fun q => h1 q.1)] at kk
          iterate 2 refine Rn.step rfl ?_
          exact Rn.sub (by exact ⟨rfl, rfl, rfl, rfl, rfl, trivial⟩) kk
        · repeat refine Rn.step rfl ?_
          refine Rn.br rfl (fun h2 => ?_) (fun h2 => ?_)
          · rw [if_neg (fun q => h2 q.2)] at kk
            iterate 2 refine Rn.step rfl ?_
            exact Rn.sub (by exact ⟨rfl, rfl, rfl, rfl, rfl, trivial⟩) kk
          · rw [if_pos ⟨Decidable.not_not.mp h1, Decidable.not_not.mp h2⟩] at kk
            repeat refine Rn.step rfl ?_
            refine Rn.br2 rfl (by show ¬ a 11 e < 0; rw [(hmn e he).1]; exact nI_pos (by have := (hmn e he).2; omega)) ?_
            repeat refine Rn.step rfl ?_
            refine Rn.br2 rfl (by show ¬ nI 24 ≤ a 11 e; rw [(hmn e he).1]; exact nle (hmn e he).2 (by decide)) ?_
            repeat refine Rn.step rfl ?_
            refine Rn.ald (mn e) rfl (hmn e he).1 (hmn e he).2 (by decide) ?_
            repeat refine Rn.step rfl ?_
            refine Rn.ald e rfl rfl (by omega) (by decide) ?_
            repeat refine Rn.step rfl ?_
            refine Rn.ast (mn e) rfl (hmn e he).1 (hmn e he).2 (by decide) (h3 := wX (va_up a 21 (upd g (mn e) (g (mn e) ||| sh1 (a 12 e)))) v t r) rfl ?_
            iterate 2 refine Rn.step rfl ?_
            exact Rn.sub (by exact ⟨rfl, rfl, rfl, rfl, rfl, trivial⟩) kk
      · repeat refine Rn.step rfl ?_
        refine Rn.br1 rfl (by show v 5 ≤ nI k; rw [hv]; exact Int32.le_refl _) ?_
        subst hg0
        subst hg1
        exact Rn.ret rfl
  · skip
    iterate 2 refine Rn.step rfl ?_
    refine Rn.lp (σ := Nat → Int32) (cfg := fun i g => (3, [(4, .int (nI i)), (0, .ref 9), (1, .int kd), (2, .int kp), (3, .ref 25)], [], wX (va_up a 25 g) v t r)) (f := fun m g => upd g m 0) (n := 24) (fun _ _ => True) (fun i g hi _ => ⟨trivial, fun k => ?_⟩) 24 0 (a 25) rfl trivial (fun g0 hg0 _ => ?_)
    · repeat refine Rn.step rfl ?_
      refine Rn.br2 rfl (nle hi (by decide)) ?_
      repeat refine Rn.step rfl ?_
      refine Rn.ast i rfl rfl hi (by decide) (h3 := wX (va_up a 25 (upd g i 0)) v t r) rfl ?_
      iterate 2 refine Rn.step rfl ?_
      rw [nI_succ] at k
      exact k
    · iterate 6 refine Rn.step rfl ?_
      refine Rn.lp (σ := Nat → Int32) (cfg := fun e g => (24, [(4, .int (nI e)), (0, .ref 9), (1, .int kd), (2, .int kp), (3, .ref 25)], [], wX (va_up a 25 g) v t r)) (f := fun e g => if a 10 e = kd ∧ bt kp e then upd g (mn e) (g (mn e) ||| sh1 (a 12 e)) else g) (n := k) (fun _ _ => True) (fun e g he _ => ⟨trivial, fun kk => ?_⟩) k 0 g0 (by omega) trivial (fun g1 hg1 _ => ?_)
      · rw [nI_succ] at kk
        repeat refine Rn.step rfl ?_
        refine Rn.br2 rfl (by show ¬ v 5 ≤ nI e; rw [hv]; exact nle he (by omega)) ?_
        repeat refine Rn.step rfl ?_
        refine Rn.br2 rfl (nle (n := 8) (by omega) (by decide)) ?_
        repeat refine Rn.step rfl ?_
        refine Rn.ald e rfl rfl (by omega) (by decide) ?_
        repeat refine Rn.step rfl ?_
        refine Rn.ald e rfl rfl (by omega) (by decide) ?_
        repeat refine Rn.step rfl ?_
        refine Rn.br rfl (fun h1 => ?_) (fun h1 => ?_)
        · rw [if_neg (fun q => h1 q.1)] at kk
          iterate 2 refine Rn.step rfl ?_
          exact Rn.sub (by exact ⟨rfl, rfl, rfl, rfl, rfl, trivial⟩) kk
        · repeat refine Rn.step rfl ?_
          refine Rn.br rfl (fun h2 => ?_) (fun h2 => ?_)
          · rw [if_neg (fun q => h2 q.2)] at kk
            iterate 2 refine Rn.step rfl ?_
            exact Rn.sub (by exact ⟨rfl, rfl, rfl, rfl, rfl, trivial⟩) kk
          · rw [if_pos ⟨Decidable.not_not.mp h1, Decidable.not_not.mp h2⟩] at kk
            repeat refine Rn.step rfl ?_
            refine Rn.br2 rfl (by show ¬ a 11 e < 0; rw [(hmn e he).1]; exact nI_pos (by have := (hmn e he).2; omega)) ?_
            repeat refine Rn.step rfl ?_
            refine Rn.br2 rfl (by show ¬ nI 24 ≤ a 11 e; rw [(hmn e he).1]; exact nle (hmn e he).2 (by decide)) ?_
            repeat refine Rn.step rfl ?_
            refine Rn.ald (mn e) rfl (hmn e he).1 (hmn e he).2 (by decide) ?_
            repeat refine Rn.step rfl ?_
            refine Rn.ald e rfl rfl (by omega) (by decide) ?_
            repeat refine Rn.step rfl ?_
            refine Rn.ast (mn e) rfl (hmn e he).1 (hmn e he).2 (by decide) (h3 := wX (va_up a 25 (upd g (mn e) (g (mn e) ||| sh1 (a 12 e)))) v t r) rfl ?_
            iterate 2 refine Rn.step rfl ?_
            exact Rn.sub (by exact ⟨rfl, rfl, rfl, rfl, rfl, trivial⟩) kk
      · repeat refine Rn.step rfl ?_
        refine Rn.br1 rfl (by show v 5 ≤ nI k; rw [hv]; exact Int32.le_refl _) ?_
        subst hg0
        subst hg1
        exact Rn.ret rfl
  · skip
    iterate 2 refine Rn.step rfl ?_
    refine Rn.lp (σ := Nat → Int32) (cfg := fun i g => (3, [(4, .int (nI i)), (0, .ref 9), (1, .int kd), (2, .int kp), (3, .ref 29)], [], wX (va_up a 29 g) v t r)) (f := fun m g => upd g m 0) (n := 24) (fun _ _ => True) (fun i g hi _ => ⟨trivial, fun k => ?_⟩) 24 0 (a 29) rfl trivial (fun g0 hg0 _ => ?_)
    · repeat refine Rn.step rfl ?_
      refine Rn.br2 rfl (nle hi (by decide)) ?_
      repeat refine Rn.step rfl ?_
      refine Rn.ast i rfl rfl hi (by decide) (h3 := wX (va_up a 29 (upd g i 0)) v t r) rfl ?_
      iterate 2 refine Rn.step rfl ?_
      rw [nI_succ] at k
      exact k
    · iterate 6 refine Rn.step rfl ?_
      refine Rn.lp (σ := Nat → Int32) (cfg := fun e g => (24, [(4, .int (nI e)), (0, .ref 9), (1, .int kd), (2, .int kp), (3, .ref 29)], [], wX (va_up a 29 g) v t r)) (f := fun e g => if a 10 e = kd ∧ bt kp e then upd g (mn e) (g (mn e) ||| sh1 (a 12 e)) else g) (n := k) (fun _ _ => True) (fun e g he _ => ⟨trivial, fun kk => ?_⟩) k 0 g0 (by omega) trivial (fun g1 hg1 _ => ?_)
      · rw [nI_succ] at kk
        repeat refine Rn.step rfl ?_
        refine Rn.br2 rfl (by show ¬ v 5 ≤ nI e; rw [hv]; exact nle he (by omega)) ?_
        repeat refine Rn.step rfl ?_
        refine Rn.br2 rfl (nle (n := 8) (by omega) (by decide)) ?_
        repeat refine Rn.step rfl ?_
        refine Rn.ald e rfl rfl (by omega) (by decide) ?_
        repeat refine Rn.step rfl ?_
        refine Rn.ald e rfl rfl (by omega) (by decide) ?_
        repeat refine Rn.step rfl ?_
        refine Rn.br rfl (fun h1 => ?_) (fun h1 => ?_)
        · rw [if_neg (fun q => h1 q.1)] at kk
          iterate 2 refine Rn.step rfl ?_
          exact Rn.sub (by exact ⟨rfl, rfl, rfl, rfl, rfl, trivial⟩) kk
        · repeat refine Rn.step rfl ?_
          refine Rn.br rfl (fun h2 => ?_) (fun h2 => ?_)
          · rw [if_neg (fun q => h2 q.2)] at kk
            iterate 2 refine Rn.step rfl ?_
            exact Rn.sub (by exact ⟨rfl, rfl, rfl, rfl, rfl, trivial⟩) kk
          · rw [if_pos ⟨Decidable.not_not.mp h1, Decidable.not_not.mp h2⟩] at kk
            repeat refine Rn.step rfl ?_
            refine Rn.br2 rfl (by show ¬ a 11 e < 0; rw [(hmn e he).1]; exact nI_pos (by have := (hmn e he).2; omega)) ?_
            repeat refine Rn.step rfl ?_
            refine Rn.br2 rfl (by show ¬ nI 24 ≤ a 11 e; rw [(hmn e he).1]; exact nle (hmn e he).2 (by decide)) ?_
            repeat refine Rn.step rfl ?_
            refine Rn.ald (mn e) rfl (hmn e he).1 (hmn e he).2 (by decide) ?_
            repeat refine Rn.step rfl ?_
            refine Rn.ald e rfl rfl (by omega) (by decide) ?_
            repeat refine Rn.step rfl ?_
            refine Rn.ast (mn e) rfl (hmn e he).1 (hmn e he).2 (by decide) (h3 := wX (va_up a 29 (upd g (mn e) (g (mn e) ||| sh1 (a 12 e)))) v t r) rfl ?_
            iterate 2 refine Rn.step rfl ?_
            exact Rn.sub (by exact ⟨rfl, rfl, rfl, rfl, rfl, trivial⟩) kk
      · repeat refine Rn.step rfl ?_
        refine Rn.br1 rfl (by show v 5 ≤ nI k; rw [hv]; exact Int32.le_refl _) ?_
        subst hg0
        subst hg1
        exact Rn.ret rfl
  · skip
    iterate 2 refine Rn.step rfl ?_
    refine Rn.lp (σ := Nat → Int32) (cfg := fun i g => (3, [(4, .int (nI i)), (0, .ref 9), (1, .int kd), (2, .int kp), (3, .ref 30)], [], wX (va_up a 30 g) v t r)) (f := fun m g => upd g m 0) (n := 24) (fun _ _ => True) (fun i g hi _ => ⟨trivial, fun k => ?_⟩) 24 0 (a 30) rfl trivial (fun g0 hg0 _ => ?_)
    · repeat refine Rn.step rfl ?_
      refine Rn.br2 rfl (nle hi (by decide)) ?_
      repeat refine Rn.step rfl ?_
      refine Rn.ast i rfl rfl hi (by decide) (h3 := wX (va_up a 30 (upd g i 0)) v t r) rfl ?_
      iterate 2 refine Rn.step rfl ?_
      rw [nI_succ] at k
      exact k
    · iterate 6 refine Rn.step rfl ?_
      refine Rn.lp (σ := Nat → Int32) (cfg := fun e g => (24, [(4, .int (nI e)), (0, .ref 9), (1, .int kd), (2, .int kp), (3, .ref 30)], [], wX (va_up a 30 g) v t r)) (f := fun e g => if a 10 e = kd ∧ bt kp e then upd g (mn e) (g (mn e) ||| sh1 (a 12 e)) else g) (n := k) (fun _ _ => True) (fun e g he _ => ⟨trivial, fun kk => ?_⟩) k 0 g0 (by omega) trivial (fun g1 hg1 _ => ?_)
      · rw [nI_succ] at kk
        repeat refine Rn.step rfl ?_
        refine Rn.br2 rfl (by show ¬ v 5 ≤ nI e; rw [hv]; exact nle he (by omega)) ?_
        repeat refine Rn.step rfl ?_
        refine Rn.br2 rfl (nle (n := 8) (by omega) (by decide)) ?_
        repeat refine Rn.step rfl ?_
        refine Rn.ald e rfl rfl (by omega) (by decide) ?_
        repeat refine Rn.step rfl ?_
        refine Rn.ald e rfl rfl (by omega) (by decide) ?_
        repeat refine Rn.step rfl ?_
        refine Rn.br rfl (fun h1 => ?_) (fun h1 => ?_)
        · rw [if_neg (fun q => h1 q.1)] at kk
          iterate 2 refine Rn.step rfl ?_
          exact Rn.sub (by exact ⟨rfl, rfl, rfl, rfl, rfl, trivial⟩) kk
        · repeat refine Rn.step rfl ?_
          refine Rn.br rfl (fun h2 => ?_) (fun h2 => ?_)
          · rw [if_neg (fun q => h2 q.2)] at kk
            iterate 2 refine Rn.step rfl ?_
            exact Rn.sub (by exact ⟨rfl, rfl, rfl, rfl, rfl, trivial⟩) kk
          · rw [if_pos ⟨Decidable.not_not.mp h1, Decidable.not_not.mp h2⟩] at kk
            repeat refine Rn.step rfl ?_
            refine Rn.br2 rfl (by show ¬ a 11 e < 0; rw [(hmn e he).1]; exact nI_pos (by have := (hmn e he).2; omega)) ?_
            repeat refine Rn.step rfl ?_
            refine Rn.br2 rfl (by show ¬ nI 24 ≤ a 11 e; rw [(hmn e he).1]; exact nle (hmn e he).2 (by decide)) ?_
            repeat refine Rn.step rfl ?_
            refine Rn.ald (mn e) rfl (hmn e he).1 (hmn e he).2 (by decide) ?_
            repeat refine Rn.step rfl ?_
            refine Rn.ald e rfl rfl (by omega) (by decide) ?_
            repeat refine Rn.step rfl ?_
            refine Rn.ast (mn e) rfl (hmn e he).1 (hmn e he).2 (by decide) (h3 := wX (va_up a 30 (upd g (mn e) (g (mn e) ||| sh1 (a 12 e)))) v t r) rfl ?_
            iterate 2 refine Rn.step rfl ?_
            exact Rn.sub (by exact ⟨rfl, rfl, rfl, rfl, rfl, trivial⟩) kk
      · repeat refine Rn.step rfl ?_
        refine Rn.br1 rfl (by show v 5 ≤ nI k; rw [hv]; exact Int32.le_refl _) ?_
        subst hg0
        subst hg1
        exact Rn.ret rfl
  · skip
    iterate 2 refine Rn.step rfl ?_
    refine Rn.lp (σ := Nat → Int32) (cfg := fun i g => (3, [(4, .int (nI i)), (0, .ref 9), (1, .int kd), (2, .int kp), (3, .ref 34)], [], wX (va_up a 34 g) v t r)) (f := fun m g => upd g m 0) (n := 24) (fun _ _ => True) (fun i g hi _ => ⟨trivial, fun k => ?_⟩) 24 0 (a 34) rfl trivial (fun g0 hg0 _ => ?_)
    · repeat refine Rn.step rfl ?_
      refine Rn.br2 rfl (nle hi (by decide)) ?_
      repeat refine Rn.step rfl ?_
      refine Rn.ast i rfl rfl hi (by decide) (h3 := wX (va_up a 34 (upd g i 0)) v t r) rfl ?_
      iterate 2 refine Rn.step rfl ?_
      rw [nI_succ] at k
      exact k
    · iterate 6 refine Rn.step rfl ?_
      refine Rn.lp (σ := Nat → Int32) (cfg := fun e g => (24, [(4, .int (nI e)), (0, .ref 9), (1, .int kd), (2, .int kp), (3, .ref 34)], [], wX (va_up a 34 g) v t r)) (f := fun e g => if a 10 e = kd ∧ bt kp e then upd g (mn e) (g (mn e) ||| sh1 (a 12 e)) else g) (n := k) (fun _ _ => True) (fun e g he _ => ⟨trivial, fun kk => ?_⟩) k 0 g0 (by omega) trivial (fun g1 hg1 _ => ?_)
      · rw [nI_succ] at kk
        repeat refine Rn.step rfl ?_
        refine Rn.br2 rfl (by show ¬ v 5 ≤ nI e; rw [hv]; exact nle he (by omega)) ?_
        repeat refine Rn.step rfl ?_
        refine Rn.br2 rfl (nle (n := 8) (by omega) (by decide)) ?_
        repeat refine Rn.step rfl ?_
        refine Rn.ald e rfl rfl (by omega) (by decide) ?_
        repeat refine Rn.step rfl ?_
        refine Rn.ald e rfl rfl (by omega) (by decide) ?_
        repeat refine Rn.step rfl ?_
        refine Rn.br rfl (fun h1 => ?_) (fun h1 => ?_)
        · rw [if_neg (fun q => h1 q.1)] at kk
          iterate 2 refine Rn.step rfl ?_
          exact Rn.sub (by exact ⟨rfl, rfl, rfl, rfl, rfl, trivial⟩) kk
        · repeat refine Rn.step rfl ?_
          refine Rn.br rfl (fun h2 => ?_) (fun h2 => ?_)
          · rw [if_neg (fun q => h2 q.2)] at kk
            iterate 2 refine Rn.step rfl ?_
            exact Rn.sub (by exact ⟨rfl, rfl, rfl, rfl, rfl, trivial⟩) kk
          · rw [if_pos ⟨Decidable.not_not.mp h1, Decidable.not_not.mp h2⟩] at kk
            repeat refine Rn.step rfl ?_
            refine Rn.br2 rfl (by show ¬ a 11 e < 0; rw [(hmn e he).1]; exact nI_pos (by have := (hmn e he).2; omega)) ?_
            repeat refine Rn.step rfl ?_
            refine Rn.br2 rfl (by show ¬ nI 24 ≤ a 11 e; rw [(hmn e he).1]; exact nle (hmn e he).2 (by decide)) ?_
            repeat refine Rn.step rfl ?_
            refine Rn.ald (mn e) rfl (hmn e he).1 (hmn e he).2 (by decide) ?_
            repeat refine Rn.step rfl ?_
            refine Rn.ald e rfl rfl (by omega) (by decide) ?_
            repeat refine Rn.step rfl ?_
            refine Rn.ast (mn e) rfl (hmn e he).1 (hmn e he).2 (by decide) (h3 := wX (va_up a 34 (upd g (mn e) (g (mn e) ||| sh1 (a 12 e)))) v t r) rfl ?_
            iterate 2 refine Rn.step rfl ?_
            exact Rn.sub (by exact ⟨rfl, rfl, rfl, rfl, rfl, trivial⟩) kk
      · repeat refine Rn.step rfl ?_
        refine Rn.br1 rfl (by show v 5 ≤ nI k; rw [hv]; exact Int32.le_refl _) ?_
        subst hg0
        subst hg1
        exact Rn.ret rfl
theorem r_bits : Rn E 0 mX1_bits (0, [(0, .ref 9)], [], wX a v t r) (some (.int (sh1 (v 5) - 1)), wX a v t r) := by
  repeat refine Rn.step rfl ?_
  exact Rn.ret rfl
theorem r_logBits : Rn E 0 mX5_logBits (0, [(0, .ref 3)], [], wX a v t r) (some (.int (sh1 (v 4) - 1)), wX a v t r) := by
  repeat refine Rn.step rfl ?_
  exact Rn.ret rfl
abbrev inB (x : Int32) (b : Int32) : Prop := 0 ≤ x ∧ x < b
theorem r_mayBe (x y z : Int32) (h : List va_E) : Rn E 1 mX1_mayBe (0, [(0, .int x), (1, .int y), (2, .int z)], [], h) (some (.int (ib (inB x 3 ∧ inB y 24 ∧ inB z 16))), h) := by
  repeat refine Rn.step rfl ?_
  refine Rn.calli rfl rfl rfl (by decide) (r_within x 3 h) (fun x1 e1 => ?_)
  refine Rn.br rfl (fun h1 => ?_) (fun h1 => ?_)
  · refine Rn.step rfl ?_
    rw [ib_f (fun q => ib_eq0.mp (e1 ▸ h1) q.1)]
    exact Rn.ret rfl
  repeat refine Rn.step rfl ?_
  refine Rn.calli rfl rfl rfl (by decide) (r_within y 24 h) (fun x2 e2 => ?_)
  refine Rn.br rfl (fun h2 => ?_) (fun h2 => ?_)
  · refine Rn.step rfl ?_
    rw [ib_f (fun q => ib_eq0.mp (e2 ▸ h2) q.2.1)]
    exact Rn.ret rfl
  repeat refine Rn.step rfl ?_
  refine Rn.calli rfl rfl rfl (by decide) (r_within z 16 h) (fun x3 e3 => ?_)
  refine Rn.br rfl (fun h3 => ?_) (fun h3 => ?_)
  · refine Rn.step rfl ?_
    rw [ib_f (fun q => ib_eq0.mp (e3 ▸ h3) q.2.2)]
    exact Rn.ret rfl
  iterate 2 refine Rn.step rfl ?_
  rw [ib_t ⟨ib_ne0.mp (e1 ▸ h1), ib_ne0.mp (e2 ▸ h2), ib_ne0.mp (e3 ▸ h3)⟩]
  exact Rn.ret rfl
theorem inB_nI {k n : Nat} (h : k < n) (hn : n < 2 ^ 31) : inB (nI k) (nI n) := ⟨nI_pos' (by omega), nI_lt h hn⟩
theorem inB_ex {x : Int32} {n : Nat} (hn : n < 2 ^ 31) (h : inB x (nI n)) : ∃ k, k < n ∧ x = nI k := by
  obtain ⟨j, hj, rfl⟩ := nI_of (Int32.not_lt.mpr h.1)
  exact ⟨j, (nI_ltI hj hn).mp h.2, rfl⟩
theorem r_evFull (x y z : Int32) (hv : v 5 = nI 8) : Rn E 1 mX1_append (0, [(0, .ref 9), (1, .int x), (2, .int y), (3, .int z)], [], wX a v t r) (some (.int 0), wX a v t r) := by
  repeat refine Rn.step rfl ?_
  refine Rn.calli rfl rfl rfl (by decide) (r_within (v 5) 8 _) (fun x1 e1 => ?_)
  refine Rn.br2 rfl (by
    rw [e1, ib_ne0, hv]
    decide) ?_
  refine Rn.step rfl ?_
  exact Rn.ret rfl
theorem r_evAppend (x y z : Int32) {k : Nat} (hk : k < 8) (hv : v 5 = nI k) : Rn E 1 mX1_append (0, [(0, .ref 9), (1, .int x), (2, .int y), (3, .int z)], [], wX a v t r) (some (.int 1), wX (va_up (va_up (va_up a 10 (upd (a 10) k x)) 11 (upd (a 11) k y)) 12 (upd (a 12) k z)) (upd v 5 (nI (k + 1))) t r) := by
  repeat refine Rn.step rfl ?_
  refine Rn.calli rfl rfl rfl (by decide) (r_within (v 5) 8 _) (fun x1 e1 => ?_)
  refine Rn.br1 rfl (by
    rw [e1, ib_ne0, hv]
    exact inB_nI hk (by decide)) ?_
  repeat refine Rn.step rfl ?_
  refine Rn.ast k rfl hv hk (by decide) (h3 := wX (va_up a 10 (upd (a 10) k x)) v t r) rfl ?_
  repeat refine Rn.step rfl ?_
  refine Rn.ast k rfl hv hk (by decide) (h3 := wX (va_up (va_up a 10 (upd (a 10) k x)) 11 (upd (a 11) k y)) v t r) rfl ?_
  repeat refine Rn.step rfl ?_
  refine Rn.ast k rfl hv hk (by decide) (h3 := wX (va_up (va_up (va_up a 10 (upd (a 10) k x)) 11 (upd (a 11) k y)) 12 (upd (a 12) k z)) v t r) rfl ?_
  iterate 5 refine Rn.step rfl ?_
  refine Rn.top (x' := nI (k + 1)) (by show v 5 + 1 = _; rw [hv, nI_1]) ?_
  iterate 2 refine Rn.step rfl ?_
  exact Rn.ret rfl
end X1
