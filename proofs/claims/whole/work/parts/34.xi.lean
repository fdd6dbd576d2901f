section XI
variable {E : iExtT} {a : Nat → Nat → Int32} {v : Nat → Int32} {t : Nat → Nat → Int64} {r : List va_E}
theorem r_copy_bad (x i y j n : Int32) (hb : ¬ (inB x 4 ∧ inB y 4)) : Rn E 2 mX7_copy (0, [(0, .ref 0), (1, .int x), (2, .int i), (3, .int y), (4, .int j), (5, .int n)], [], wX a v t r) ((some (.int (-2))), wX a v t r) := by
  repeat refine Rn.step rfl ?_
  refine Rn.calli rfl rfl rfl (by decide) (r_within x 4 _) (fun x0 e0 => ?_)
  refine Rn.br rfl (fun h0 => ?_) (fun h0 => ?_)
  · repeat refine Rn.step rfl ?_
    exact Rn.ret rfl
  repeat refine Rn.step rfl ?_
  refine Rn.calli rfl rfl rfl (by decide) (r_within y 4 _) (fun x1 e1 => ?_)
  refine Rn.br2 rfl (fun h1 => hb (⟨ib_ne0.mp (e0 ▸ h0), ib_ne0.mp (e1 ▸ h1)⟩)) ?_
  repeat refine Rn.step rfl ?_
  exact Rn.ret rfl
theorem r_copy_null {s u : Nat} (hs : s = 0 ∨ s = 1 ∨ s = 2 ∨ s = 3) (hu : u = 0 ∨ u = 1 ∨ u = 2 ∨ u = 3) (hz : v (18 + s) = -1 ∨ v (18 + u) = -1) (i j n : Int32) : Rn E 2 mX7_copy (0, [(0, .ref 0), (1, .int (nI s)), (2, .int i), (3, .int (nI u)), (4, .int j), (5, .int n)], [], wX a v t r) (some (.int (-11)), wX a (upd v 0 1) t r) := by
  have hs0 := hs
  have hu0 := hu
  rcases hs with rfl | rfl | rfl | rfl
  · rcases hu with rfl | rfl | rfl | rfl
    · repeat refine Rn.step rfl ?_
      refine Rn.calli rfl rfl rfl (by decide) (r_within (nI _) 4 _) (fun z1 f1 => ?_)
      refine Rn.br2 rfl (by rw [f1, ib_eq0]; exact fun q => q (by decide)) ?_
      repeat refine Rn.step rfl ?_
      refine Rn.calli rfl rfl rfl (by decide) (r_within (nI _) 4 _) (fun z2 f2 => ?_)
      refine Rn.br1 rfl (by rw [f2, ib_ne0]; decide) ?_
      repeat refine Rn.step rfl ?_
      refine Rn.calli rfl rfl rfl (by decide) (r_isLost hs0) (fun z3 f3 => ?_)
      refine Rn.br rfl (fun h1 => ?_) (fun h1 => ?_)
      · repeat refine Rn.step rfl ?_
        refine Rn.calli rfl rfl rfl (by decide) (r_found 1) (fun z9 f9 => ?_)
        subst f9
        exact Rn.ret rfl
      · rw [f3, ib_ne0] at h1
        repeat refine Rn.step rfl ?_
        refine Rn.calli rfl rfl rfl (by decide) (r_isLost hu0) (fun z4 f4 => ?_)
        refine Rn.br2 rfl (by rw [f4, ib_eq0]; exact fun q => q (hz.resolve_left h1)) ?_
        repeat refine Rn.step rfl ?_
        refine Rn.calli rfl rfl rfl (by decide) (r_found 1) (fun z9 f9 => ?_)
        subst f9
        exact Rn.ret rfl
    · repeat refine Rn.step rfl ?_
      refine Rn.calli rfl rfl rfl (by decide) (r_within (nI _) 4 _) (fun z1 f1 => ?_)
      refine Rn.br2 rfl (by rw [f1, ib_eq0]; exact fun q => q (by decide)) ?_
      repeat refine Rn.step rfl ?_
      refine Rn.calli rfl rfl rfl (by decide) (r_within (nI _) 4 _) (fun z2 f2 => ?_)
      refine Rn.br1 rfl (by rw [f2, ib_ne0]; decide) ?_
      repeat refine Rn.step rfl ?_
      refine Rn.calli rfl rfl rfl (by decide) (r_isLost hs0) (fun z3 f3 => ?_)
      refine Rn.br rfl (fun h1 => ?_) (fun h1 => ?_)
      · repeat refine Rn.step rfl ?_
        refine Rn.calli rfl rfl rfl (by decide) (r_found 1) (fun z9 f9 => ?_)
        subst f9
        exact Rn.ret rfl
      · rw [f3, ib_ne0] at h1
        repeat refine Rn.step rfl ?_
        refine Rn.calli rfl rfl rfl (by decide) (r_isLost hu0) (fun z4 f4 => ?_)
        refine Rn.br2 rfl (by rw [f4, ib_eq0]; exact fun q => q (hz.resolve_left h1)) ?_
        repeat refine Rn.step rfl ?_
        refine Rn.calli rfl rfl rfl (by decide) (r_found 1) (fun z9 f9 => ?_)
        subst f9
        exact Rn.ret rfl
    · repeat refine Rn.step rfl ?_
      refine Rn.calli rfl rfl rfl (by decide) (r_within (nI _) 4 _) (fun z1 f1 => ?_)
      refine Rn.br2 rfl (by rw [f1, ib_eq0]; exact fun q => q (by decide)) ?_
      repeat refine Rn.step rfl ?_
      refine Rn.calli rfl rfl rfl (by decide) (r_within (nI _) 4 _) (fun z2 f2 => ?_)
      refine Rn.br1 rfl (by rw [f2, ib_ne0]; decide) ?_
      repeat refine Rn.step rfl ?_
      refine Rn.calli rfl rfl rfl (by decide) (r_isLost hs0) (fun z3 f3 => ?_)
      refine Rn.br rfl (fun h1 => ?_) (fun h1 => ?_)
      · repeat refine Rn.step rfl ?_
        refine Rn.calli rfl rfl rfl (by decide) (r_found 1) (fun z9 f9 => ?_)
        subst f9
        exact Rn.ret rfl
      · rw [f3, ib_ne0] at h1
        repeat refine Rn.step rfl ?_
        refine Rn.calli rfl rfl rfl (by decide) (r_isLost hu0) (fun z4 f4 => ?_)
        refine Rn.br2 rfl (by rw [f4, ib_eq0]; exact fun q => q (hz.resolve_left h1)) ?_
        repeat refine Rn.step rfl ?_
        refine Rn.calli rfl rfl rfl (by decide) (r_found 1) (fun z9 f9 => ?_)
        subst f9
        exact Rn.ret rfl
    · repeat refine Rn.step rfl ?_
      refine Rn.calli rfl rfl rfl (by decide) (r_within (nI _) 4 _) (fun z1 f1 => ?_)
      refine Rn.br2 rfl (by rw [f1, ib_eq0]; exact fun q => q (by decide)) ?_
      repeat refine Rn.step rfl ?_
      refine Rn.calli rfl rfl rfl (by decide) (r_within (nI _) 4 _) (fun z2 f2 => ?_)
      refine Rn.br1 rfl (by rw [f2, ib_ne0]; decide) ?_
      repeat refine Rn.step rfl ?_
      refine Rn.calli rfl rfl rfl (by decide) (r_isLost hs0) (fun z3 f3 => ?_)
      refine Rn.br rfl (fun h1 => ?_) (fun h1 => ?_)
      · repeat refine Rn.step rfl ?_
        refine Rn.calli rfl rfl rfl (by decide) (r_found 1) (fun z9 f9 => ?_)
        subst f9
        exact Rn.ret rfl
      · rw [f3, ib_ne0] at h1
        repeat refine Rn.step rfl ?_
        refine Rn.calli rfl rfl rfl (by decide) (r_isLost hu0) (fun z4 f4 => ?_)
        refine Rn.br2 rfl (by rw [f4, ib_eq0]; exact fun q => q (hz.resolve_left h1)) ?_
        repeat refine Rn.step rfl ?_
        refine Rn.calli rfl rfl rfl (by decide) (r_found 1) (fun z9 f9 => ?_)
        subst f9
        exact Rn.ret rfl
  · rcases hu with rfl | rfl | rfl | rfl
    · repeat refine Rn.step rfl ?_
      refine Rn.calli rfl rfl rfl (by decide) (r_within (nI _) 4 _) (fun z1 f1 => ?_)
      refine Rn.br2 rfl (by rw [f1, ib_eq0]; exact fun q => q (by decide)) ?_
      repeat refine Rn.step rfl ?_
      refine Rn.calli rfl rfl rfl (by decide) (r_within (nI _) 4 _) (fun z2 f2 => ?_)
      refine Rn.br1 rfl (by rw [f2, ib_ne0]; decide) ?_
      repeat refine Rn.step rfl ?_
      refine Rn.calli rfl rfl rfl (by decide) (r_isLost hs0) (fun z3 f3 => ?_)
      refine Rn.br rfl (fun h1 => ?_) (fun h1 => ?_)
      · repeat refine Rn.step rfl ?_
        refine Rn.calli rfl rfl rfl (by decide) (r_found 1) (fun z9 f9 => ?_)
        subst f9
        exact Rn.ret rfl
      · rw [f3, ib_ne0] at h1
        repeat refine Rn.step rfl ?_
        refine Rn.calli rfl rfl rfl (by decide) (r_isLost hu0) (fun z4 f4 => ?_)
        refine Rn.br2 rfl (by rw [f4, ib_eq0]; exact fun q => q (hz.resolve_left h1)) ?_
        repeat refine Rn.step rfl ?_
        refine Rn.calli rfl rfl rfl (by decide) (r_found 1) (fun z9 f9 => ?_)
        subst f9
        exact Rn.ret rfl
    · repeat refine Rn.step rfl ?_
      refine Rn.calli rfl rfl rfl (by decide) (r_within (nI _) 4 _) (fun z1 f1 => ?_)
      refine Rn.br2 rfl (by rw [f1, ib_eq0]; exact fun q => q (by decide)) ?_
      repeat refine Rn.step rfl ?_
      refine Rn.calli rfl rfl rfl (by decide) (r_within (nI _) 4 _) (fun z2 f2 => ?_)
      refine Rn.br1 rfl (by rw [f2, ib_ne0]; decide) ?_
      repeat refine Rn.step rfl ?_
      refine Rn.calli rfl rfl rfl (by decide) (r_isLost hs0) (fun z3 f3 => ?_)
      refine Rn.br rfl (fun h1 => ?_) (fun h1 => ?_)
      · repeat refine Rn.step rfl ?_
        refine Rn.calli rfl rfl rfl (by decide) (r_found 1) (fun z9 f9 => ?_)
        subst f9
        exact Rn.ret rfl
      · rw [f3, ib_ne0] at h1
        repeat refine Rn.step rfl ?_
        refine Rn.calli rfl rfl rfl (by decide) (r_isLost hu0) (fun z4 f4 => ?_)
        refine Rn.br2 rfl (by rw [f4, ib_eq0]; exact fun q => q (hz.resolve_left h1)) ?_
        repeat refine Rn.step rfl ?_
        refine Rn.calli rfl rfl rfl (by decide) (r_found 1) (fun z9 f9 => ?_)
        subst f9
        exact Rn.ret rfl
    · repeat refine Rn.step rfl ?_
      refine Rn.calli rfl rfl rfl (by decide) (r_within (nI _) 4 _) (fun z1 f1 => ?_)
      refine Rn.br2 rfl (by rw [f1, ib_eq0]; exact fun q => q (by decide)) ?_
      repeat refine Rn.step rfl ?_
      refine Rn.calli rfl rfl rfl (by decide) (r_within (nI _) 4 _) (fun z2 f2 => ?_)
      refine Rn.br1 rfl (by rw [f2, ib_ne0]; decide) ?_
      repeat refine Rn.step rfl ?_
      refine Rn.calli rfl rfl rfl (by decide) (r_isLost hs0) (fun z3 f3 => ?_)
      refine Rn.br rfl (fun h1 => ?_) (fun h1 => ?_)
      · repeat refine Rn.step rfl ?_
        refine Rn.calli rfl rfl rfl (by decide) (r_found 1) (fun z9 f9 => ?_)
        subst f9
        exact Rn.ret rfl
      · rw [f3, ib_ne0] at h1
        repeat refine Rn.step rfl ?_
        refine Rn.calli rfl rfl rfl (by decide) (r_isLost hu0) (fun z4 f4 => ?_)
        refine Rn.br2 rfl (by rw [f4, ib_eq0]; exact fun q => q (hz.resolve_left h1)) ?_
        repeat refine Rn.step rfl ?_
        refine Rn.calli rfl rfl rfl (by decide) (r_found 1) (fun z9 f9 => ?_)
        subst f9
        exact Rn.ret rfl
    · repeat refine Rn.step rfl ?_
      refine Rn.calli rfl rfl rfl (by decide) (r_within (nI _) 4 _) (fun z1 f1 => ?_)
      refine Rn.br2 rfl (by rw [f1, ib_eq0]; exact fun q => q (by decide)) ?_
      repeat refine Rn.step rfl ?_
      refine Rn.calli rfl rfl rfl (by decide) (r_within (nI _) 4 _) (fun z2 f2 => ?_)
      refine Rn.br1 rfl (by rw [f2, ib_ne0]; decide) ?_
      repeat refine Rn.step rfl ?_
      refine Rn.calli rfl rfl rfl (by decide) (r_isLost hs0) (fun z3 f3 => ?_)
      refine Rn.br rfl (fun h1 => ?_) (fun h1 => ?_)
      · repeat refine Rn.step rfl ?_
        refine Rn.calli rfl rfl rfl (by decide) (r_found 1) (fun z9 f9 => ?_)
        subst f9
        exact Rn.ret rfl
      · rw [f3, ib_ne0] at h1
        repeat refine Rn.step rfl ?_
        refine Rn.calli rfl rfl rfl (by decide) (r_isLost hu0) (fun z4 f4 => ?_)
        refine Rn.br2 rfl (by rw [f4, ib_eq0]; exact fun q => q (hz.resolve_left h1)) ?_
        repeat refine Rn.step rfl ?_
        refine Rn.calli rfl rfl rfl (by decide) (r_found 1) (fun z9 f9 => ?_)
        subst f9
        exact Rn.ret rfl
  · rcases hu with rfl | rfl | rfl | rfl
    · repeat refine Rn.step rfl ?_
      refine Rn.calli rfl rfl rfl (by decide) (r_within (nI _) 4 _) (fun z1 f1 => ?_)
      refine Rn.br2 rfl (by rw [f1, ib_eq0]; exact fun q => q (by decide)) ?_
      repeat refine Rn.step rfl ?_
      refine Rn.calli rfl rfl rfl (by decide) (r_within (nI _) 4 _) (fun z2 f2 => ?_)
      refine Rn.br1 rfl (by rw [f2, ib_ne0]; decide) ?_
      repeat refine Rn.step rfl ?_
      refine Rn.calli rfl rfl rfl (by decide) (r_isLost hs0) (fun z3 f3 => ?_)
      refine Rn.br rfl (fun h1 => ?_) (fun h1 => ?_)
      · repeat refine Rn.step rfl ?_
        refine Rn.calli rfl rfl rfl (by decide) (r_found 1) (fun z9 f9 => ?_)
        subst f9
        exact Rn.ret rfl
      · rw [f3, ib_ne0] at h1
        repeat refine Rn.step rfl ?_
        refine Rn.calli rfl rfl rfl (by decide) (r_isLost hu0) (fun z4 f4 => ?_)
        refine Rn.br2 rfl (by rw [f4, ib_eq0]; exact fun q => q (hz.resolve_left h1)) ?_
        repeat refine Rn.step rfl ?_
        refine Rn.calli rfl rfl rfl (by decide) (r_found 1) (fun z9 f9 => ?_)
        subst f9
        exact Rn.ret rfl
    · repeat refine Rn.step rfl ?_
      refine Rn.calli rfl rfl rfl (by decide) (r_within (nI _) 4 _) (fun z1 f1 => ?_)
      refine Rn.br2 rfl (by rw [f1, ib_eq0]; exact fun q => q (by decide)) ?_
      repeat refine Rn.step rfl ?_
      refine Rn.calli rfl rfl rfl (by decide) (r_within (nI _) 4 _) (fun z2 f2 => ?_)
      refine Rn.br1 rfl (by rw [f2, ib_ne0]; decide) ?_
      repeat refine Rn.step rfl ?_
      refine Rn.calli rfl rfl rfl (by decide) (r_isLost hs0) (fun z3 f3 => ?_)
      refine Rn.br rfl (fun h1 => ?_) (fun h1 => ?_)
      · repeat refine Rn.step rfl ?_
        refine Rn.calli rfl rfl rfl (by decide) (r_found 1) (fun z9 f9 => ?_)
        subst f9
        exact Rn.ret rfl
      · rw [f3, ib_ne0] at h1
        repeat refine Rn.step rfl ?_
        refine Rn.calli rfl rfl rfl (by decide) (r_isLost hu0) (fun z4 f4 => ?_)
        refine Rn.br2 rfl (by rw [f4, ib_eq0]; exact fun q => q (hz.resolve_left h1)) ?_
        repeat refine Rn.step rfl ?_
        refine Rn.calli rfl rfl rfl (by decide) (r_found 1) (fun z9 f9 => ?_)
        subst f9
        exact Rn.ret rfl
    · repeat refine Rn.step rfl ?_
      refine Rn.calli rfl rfl rfl (by decide) (r_within (nI _) 4 _) (fun z1 f1 => ?_)
      refine Rn.br2 rfl (by rw [f1, ib_eq0]; exact fun q => q (by decide)) ?_
      repeat refine Rn.step rfl ?_
      refine Rn.calli rfl rfl rfl (by decide) (r_within (nI _) 4 _) (fun z2 f2 => ?_)
      refine Rn.br1 rfl (by rw [f2, ib_ne0]; decide) ?_
      repeat refine Rn.step rfl ?_
      refine Rn.calli rfl rfl rfl (by decide) (r_isLost hs0) (fun z3 f3 => ?_)
      refine Rn.br rfl (fun h1 => ?_) (fun h1 => ?_)
      · repeat refine Rn.step rfl ?_
        refine Rn.calli rfl rfl rfl (by decide) (r_found 1) (fun z9 f9 => ?_)
        subst f9
        exact Rn.ret rfl
      · rw [f3, ib_ne0] at h1
        repeat refine Rn.step rfl ?_
        refine Rn.calli rfl rfl rfl (by decide) (r_isLost hu0) (fun z4 f4 => ?_)
        refine Rn.br2 rfl (by rw [f4, ib_eq0]; exact fun q => q (hz.resolve_left h1)) ?_
        repeat refine Rn.step rfl ?_
        refine Rn.calli rfl rfl rfl (by decide) (r_found 1) (fun z9 f9 => ?_)
        subst f9
        exact Rn.ret rfl
    · repeat refine Rn.step rfl ?_
      refine Rn.calli rfl rfl rfl (by decide) (r_within (nI _) 4 _) (fun z1 f1 => ?_)
      refine Rn.br2 rfl (by rw [f1, ib_eq0]; exact fun q => q (by decide)) ?_
      repeat refine Rn.step rfl ?_
      refine Rn.calli rfl rfl rfl (by decide) (r_within (nI _) 4 _) (fun z2 f2 => ?_)
      refine Rn.br1 rfl (by rw [f2, ib_ne0]; decide) ?_
      repeat refine Rn.step rfl ?_
      refine Rn.calli rfl rfl rfl (by decide) (r_isLost hs0) (fun z3 f3 => ?_)
      refine Rn.br rfl (fun h1 => ?_) (fun h1 => ?_)
      · repeat refine Rn.step rfl ?_
        refine Rn.calli rfl rfl rfl (by decide) (r_found 1) (fun z9 f9 => ?_)
        subst f9
        exact Rn.ret rfl
      · rw [f3, ib_ne0] at h1
        repeat refine Rn.step rfl ?_
        refine Rn.calli rfl rfl rfl (by decide) (r_isLost hu0) (fun z4 f4 => ?_)
        refine Rn.br2 rfl (by rw [f4, ib_eq0]; exact fun q => q (hz.resolve_left h1)) ?_
        repeat refine Rn.step rfl ?_
        refine Rn.calli rfl rfl rfl (by decide) (r_found 1) (fun z9 f9 => ?_)
        subst f9
        exact Rn.ret rfl
  · rcases hu with rfl | rfl | rfl | rfl
    · repeat refine Rn.step rfl ?_
      refine Rn.calli rfl rfl rfl (by decide) (r_within (nI _) 4 _) (fun z1 f1 => ?_)
      refine Rn.br2 rfl (by rw [f1, ib_eq0]; exact fun q => q (by decide)) ?_
      repeat refine Rn.step rfl ?_
      refine Rn.calli rfl rfl rfl (by decide) (r_within (nI _) 4 _) (fun z2 f2 => ?_)
      refine Rn.br1 rfl (by rw [f2, ib_ne0]; decide) ?_
      repeat refine Rn.step rfl ?_
      refine Rn.calli rfl rfl rfl (by decide) (r_isLost hs0) (fun z3 f3 => ?_)
      refine Rn.br rfl (fun h1 => ?_) (fun h1 => ?_)
      · repeat refine Rn.step rfl ?_
        refine Rn.calli rfl rfl rfl (by decide) (r_found 1) (fun z9 f9 => ?_)
        subst f9
        exact Rn.ret rfl
      · rw [f3, ib_ne0] at h1
        repeat refine Rn.step rfl ?_
        refine Rn.calli rfl rfl rfl (by decide) (r_isLost hu0) (fun z4 f4 => ?_)
        refine Rn.br2 rfl (by rw [f4, ib_eq0]; exact fun q => q (hz.resolve_left h1)) ?_
        repeat refine Rn.step rfl ?_
        refine Rn.calli rfl rfl rfl (by decide) (r_found 1) (fun z9 f9 => ?_)
        subst f9
        exact Rn.ret rfl
    · repeat refine Rn.step rfl ?_
      refine Rn.calli rfl rfl rfl (by decide) (r_within (nI _) 4 _) (fun z1 f1 => ?_)
      refine Rn.br2 rfl (by rw [f1, ib_eq0]; exact fun q => q (by decide)) ?_
      repeat refine Rn.step rfl ?_
      refine Rn.calli rfl rfl rfl (by decide) (r_within (nI _) 4 _) (fun z2 f2 => ?_)
      refine Rn.br1 rfl (by rw [f2, ib_ne0]; decide) ?_
      repeat refine Rn.step rfl ?_
      refine Rn.calli rfl rfl rfl (by decide) (r_isLost hs0) (fun z3 f3 => ?_)
      refine Rn.br rfl (fun h1 => ?_) (fun h1 => ?_)
      · repeat refine Rn.step rfl ?_
        refine Rn.calli rfl rfl rfl (by decide) (r_found 1) (fun z9 f9 => ?_)
        subst f9
        exact Rn.ret rfl
      · rw [f3, ib_ne0] at h1
        repeat refine Rn.step rfl ?_
        refine Rn.calli rfl rfl rfl (by decide) (r_isLost hu0) (fun z4 f4 => ?_)
        refine Rn.br2 rfl (by rw [f4, ib_eq0]; exact fun q => q (hz.resolve_left h1)) ?_
        repeat refine Rn.step rfl ?_
        refine Rn.calli rfl rfl rfl (by decide) (r_found 1) (fun z9 f9 => ?_)
        subst f9
        exact Rn.ret rfl
    · repeat refine Rn.step rfl ?_
      refine Rn.calli rfl rfl rfl (by decide) (r_within (nI _) 4 _) (fun z1 f1 => ?_)
      refine Rn.br2 rfl (by rw [f1, ib_eq0]; exact fun q => q (by decide)) ?_
      repeat refine Rn.step rfl ?_
      refine Rn.calli rfl rfl rfl (by decide) (r_within (nI _) 4 _) (fun z2 f2 => ?_)
      refine Rn.br1 rfl (by rw [f2, ib_ne0]; decide) ?_
      repeat refine Rn.step rfl ?_
      refine Rn.calli rfl rfl rfl (by decide) (r_isLost hs0) (fun z3 f3 => ?_)
      refine Rn.br rfl (fun h1 => ?_) (fun h1 => ?_)
      · repeat refine Rn.step rfl ?_
        refine Rn.calli rfl rfl rfl (by decide) (r_found 1) (fun z9 f9 => ?_)
        subst f9
        exact Rn.ret rfl
      · rw [f3, ib_ne0] at h1
        repeat refine Rn.step rfl ?_
        refine Rn.calli rfl rfl rfl (by decide) (r_isLost hu0) (fun z4 f4 => ?_)
        refine Rn.br2 rfl (by rw [f4, ib_eq0]; exact fun q => q (hz.resolve_left h1)) ?_
        repeat refine Rn.step rfl ?_
        refine Rn.calli rfl rfl rfl (by decide) (r_found 1) (fun z9 f9 => ?_)
        subst f9
        exact Rn.ret rfl
    · repeat refine Rn.step rfl ?_
      refine Rn.calli rfl rfl rfl (by decide) (r_within (nI _) 4 _) (fun z1 f1 => ?_)
      refine Rn.br2 rfl (by rw [f1, ib_eq0]; exact fun q => q (by decide)) ?_
      repeat refine Rn.step rfl ?_
      refine Rn.calli rfl rfl rfl (by decide) (r_within (nI _) 4 _) (fun z2 f2 => ?_)
      refine Rn.br1 rfl (by rw [f2, ib_ne0]; decide) ?_
      repeat refine Rn.step rfl ?_
      refine Rn.calli rfl rfl rfl (by decide) (r_isLost hs0) (fun z3 f3 => ?_)
      refine Rn.br rfl (fun h1 => ?_) (fun h1 => ?_)
      · repeat refine Rn.step rfl ?_
        refine Rn.calli rfl rfl rfl (by decide) (r_found 1) (fun z9 f9 => ?_)
        subst f9
        exact Rn.ret rfl
      · rw [f3, ib_ne0] at h1
        repeat refine Rn.step rfl ?_
        refine Rn.calli rfl rfl rfl (by decide) (r_isLost hu0) (fun z4 f4 => ?_)
        refine Rn.br2 rfl (by rw [f4, ib_eq0]; exact fun q => q (hz.resolve_left h1)) ?_
        repeat refine Rn.step rfl ?_
        refine Rn.calli rfl rfl rfl (by decide) (r_found 1) (fun z9 f9 => ?_)
        subst f9
        exact Rn.ret rfl
theorem r_copy_store {s u : Nat} (hs : s = 0 ∨ s = 1 ∨ s = 2 ∨ s = 3) (hu : u = 0 ∨ u = 1 ∨ u = 2 ∨ u = 3) (hz : ¬ v (18 + s) = -1) (hw : ¬ v (18 + u) = -1) (hf : ¬ v (14 + s) = v (14 + u)) (i j n : Int32) : Rn E 2 mX7_copy (0, [(0, .ref 0), (1, .int (nI s)), (2, .int i), (3, .int (nI u)), (4, .int j), (5, .int n)], [], wX a v t r) (some (.int (-14)), wX a (upd v 0 4) t r) := by
  have hs0 := hs
  have hu0 := hu
  rcases hs with rfl | rfl | rfl | rfl
  · rcases hu with rfl | rfl | rfl | rfl
    · first
      | exact absurd rfl hf
      | (repeat refine Rn.step rfl ?_
         refine Rn.calli rfl rfl rfl (by decide) (r_within (nI _) 4 _) (fun z1 f1 => ?_)
         refine Rn.br2 rfl (by rw [f1, ib_eq0]; exact fun q => q (by decide)) ?_
         repeat refine Rn.step rfl ?_
         refine Rn.calli rfl rfl rfl (by decide) (r_within (nI _) 4 _) (fun z2 f2 => ?_)
         refine Rn.br1 rfl (by rw [f2, ib_ne0]; decide) ?_
         repeat refine Rn.step rfl ?_
         refine Rn.calli rfl rfl rfl (by decide) (r_isLost hs0) (fun z3 f3 => ?_)
         refine Rn.br2 rfl (by rw [f3, ib_ne0]; exact hz) ?_
         repeat refine Rn.step rfl ?_
         refine Rn.calli rfl rfl rfl (by decide) (r_isLost hu0) (fun z4 f4 => ?_)
         refine Rn.br1 rfl (by rw [f4, ib_eq0]; exact hw) ?_
         repeat refine Rn.step rfl ?_
         refine Rn.br2 rfl hf ?_
         repeat refine Rn.step rfl ?_
         refine Rn.calli rfl rfl rfl (by decide) (r_found 4) (fun z9 f9 => ?_)
         subst f9
         exact Rn.ret rfl)
    · first
      | exact absurd rfl hf
      | (repeat refine Rn.step rfl ?_
         refine Rn.calli rfl rfl rfl (by decide) (r_within (nI _) 4 _) (fun z1 f1 => ?_)
         refine Rn.br2 rfl (by rw [f1, ib_eq0]; exact fun q => q (by decide)) ?_
         repeat refine Rn.step rfl ?_
         refine Rn.calli rfl rfl rfl (by decide) (r_within (nI _) 4 _) (fun z2 f2 => ?_)
         refine Rn.br1 rfl (by rw [f2, ib_ne0]; decide) ?_
         repeat refine Rn.step rfl ?_
         refine Rn.calli rfl rfl rfl (by decide) (r_isLost hs0) (fun z3 f3 => ?_)
         refine Rn.br2 rfl (by rw [f3, ib_ne0]; exact hz) ?_
         repeat refine Rn.step rfl ?_
         refine Rn.calli rfl rfl rfl (by decide) (r_isLost hu0) (fun z4 f4 => ?_)
         refine Rn.br1 rfl (by rw [f4, ib_eq0]; exact hw) ?_
         repeat refine Rn.step rfl ?_
         refine Rn.br2 rfl hf ?_
         repeat refine Rn.step rfl ?_
         refine Rn.calli rfl rfl rfl (by decide) (r_found 4) (fun z9 f9 => ?_)
         subst f9
         exact Rn.ret rfl)
    · first
      | exact absurd rfl hf
      | (repeat refine Rn.step rfl ?_
         refine Rn.calli rfl rfl rfl (by decide) (r_within (nI _) 4 _) (fun z1 f1 => ?_)
         refine Rn.br2 rfl (by rw [f1, ib_eq0]; exact fun q => q (by decide)) ?_
         repeat refine Rn.step rfl ?_
         refine Rn.calli rfl rfl rfl (by decide) (r_within (nI _) 4 _) (fun z2 f2 => ?_)
         refine Rn.br1 rfl (by rw [f2, ib_ne0]; decide) ?_
         repeat refine Rn.step rfl ?_
         refine Rn.calli rfl rfl rfl (by decide) (r_isLost hs0) (fun z3 f3 => ?_)
         refine Rn.br2 rfl (by rw [f3, ib_ne0]; exact hz) ?_
         repeat refine Rn.step rfl ?_
         refine Rn.calli rfl rfl rfl (by decide) (r_isLost hu0) (fun z4 f4 => ?_)
         refine Rn.br1 rfl (by rw [f4, ib_eq0]; exact hw) ?_
         repeat refine Rn.step rfl ?_
         refine Rn.br2 rfl hf ?_
         repeat refine Rn.step rfl ?_
         refine Rn.calli rfl rfl rfl (by decide) (r_found 4) (fun z9 f9 => ?_)
         subst f9
         exact Rn.ret rfl)
    · first
      | exact absurd rfl hf
      | (repeat refine Rn.step rfl ?_
         refine Rn.calli rfl rfl rfl (by decide) (r_within (nI _) 4 _) (fun z1 f1 => ?_)
         refine Rn.br2 rfl (by rw [f1, ib_eq0]; exact fun q => q (by decide)) ?_
         repeat refine Rn.step rfl ?_
         refine Rn.calli rfl rfl rfl (by decide) (r_within (nI _) 4 _) (fun z2 f2 => ?_)
         refine Rn.br1 rfl (by rw [f2, ib_ne0]; decide) ?_
         repeat refine Rn.step rfl ?_
         refine Rn.calli rfl rfl rfl (by decide) (r_isLost hs0) (fun z3 f3 => ?_)
         refine Rn.br2 rfl (by rw [f3, ib_ne0]; exact hz) ?_
         repeat refine Rn.step rfl ?_
         refine Rn.calli rfl rfl rfl (by decide) (r_isLost hu0) (fun z4 f4 => ?_)
         refine Rn.br1 rfl (by rw [f4, ib_eq0]; exact hw) ?_
         repeat refine Rn.step rfl ?_
         refine Rn.br2 rfl hf ?_
         repeat refine Rn.step rfl ?_
         refine Rn.calli rfl rfl rfl (by decide) (r_found 4) (fun z9 f9 => ?_)
         subst f9
         exact Rn.ret rfl)
  · rcases hu with rfl | rfl | rfl | rfl
    · first
      | exact absurd rfl hf
      | (repeat refine Rn.step rfl ?_
         refine Rn.calli rfl rfl rfl (by decide) (r_within (nI _) 4 _) (fun z1 f1 => ?_)
         refine Rn.br2 rfl (by rw [f1, ib_eq0]; exact fun q => q (by decide)) ?_
         repeat refine Rn.step rfl ?_
         refine Rn.calli rfl rfl rfl (by decide) (r_within (nI _) 4 _) (fun z2 f2 => ?_)
         refine Rn.br1 rfl (by rw [f2, ib_ne0]; decide) ?_
         repeat refine Rn.step rfl ?_
         refine Rn.calli rfl rfl rfl (by decide) (r_isLost hs0) (fun z3 f3 => ?_)
         refine Rn.br2 rfl (by rw [f3, ib_ne0]; exact hz) ?_
         repeat refine Rn.step rfl ?_
         refine Rn.calli rfl rfl rfl (by decide) (r_isLost hu0) (fun z4 f4 => ?_)
         refine Rn.br1 rfl (by rw [f4, ib_eq0]; exact hw) ?_
         repeat refine Rn.step rfl ?_
         refine Rn.br2 rfl hf ?_
         repeat refine Rn.step rfl ?_
         refine Rn.calli rfl rfl rfl (by decide) (r_found 4) (fun z9 f9 => ?_)
         subst f9
         exact Rn.ret rfl)
    · first
      | exact absurd rfl hf
      | (repeat refine Rn.step rfl ?_
         refine Rn.calli rfl rfl rfl (by decide) (r_within (nI _) 4 _) (fun z1 f1 => ?_)
         refine Rn.br2 rfl (by rw [f1, ib_eq0]; exact fun q => q (by decide)) ?_
         repeat refine Rn.step rfl ?_
         refine Rn.calli rfl rfl rfl (by decide) (r_within (nI _) 4 _) (fun z2 f2 => ?_)
         refine Rn.br1 rfl (by rw [f2, ib_ne0]; decide) ?_
         repeat refine Rn.step rfl ?_
         refine Rn.calli rfl rfl rfl (by decide) (r_isLost hs0) (fun z3 f3 => ?_)
         refine Rn.br2 rfl (by rw [f3, ib_ne0]; exact hz) ?_
         repeat refine Rn.step rfl ?_
         refine Rn.calli rfl rfl rfl (by decide) (r_isLost hu0) (fun z4 f4 => ?_)
         refine Rn.br1 rfl (by rw [f4, ib_eq0]; exact hw) ?_
         repeat refine Rn.step rfl ?_
         refine Rn.br2 rfl hf ?_
         repeat refine Rn.step rfl ?_
         refine Rn.calli rfl rfl rfl (by decide) (r_found 4) (fun z9 f9 => ?_)
         subst f9
         exact Rn.ret rfl)
    · first
      | exact absurd rfl hf
      | (repeat refine Rn.step rfl ?_
         refine Rn.calli rfl rfl rfl (by decide) (r_within (nI _) 4 _) (fun z1 f1 => ?_)
         refine Rn.br2 rfl (by rw [f1, ib_eq0]; exact fun q => q (by decide)) ?_
         repeat refine Rn.step rfl ?_
         refine Rn.calli rfl rfl rfl (by decide) (r_within (nI _) 4 _) (fun z2 f2 => ?_)
         refine Rn.br1 rfl (by rw [f2, ib_ne0]; decide) ?_
         repeat refine Rn.step rfl ?_
         refine Rn.calli rfl rfl rfl (by decide) (r_isLost hs0) (fun z3 f3 => ?_)
         refine Rn.br2 rfl (by rw [f3, ib_ne0]; exact hz) ?_
         repeat refine Rn.step rfl ?_
         refine Rn.calli rfl rfl rfl (by decide) (r_isLost hu0) (fun z4 f4 => ?_)
         refine Rn.br1 rfl (by rw [f4, ib_eq0]; exact hw) ?_
         repeat refine Rn.step rfl ?_
         refine Rn.br2 rfl hf ?_
         repeat refine Rn.step rfl ?_
         refine Rn.calli rfl rfl rfl (by decide) (r_found 4) (fun z9 f9 => ?_)
         subst f9
         exact Rn.ret rfl)
    · first
      | exact absurd rfl hf
      | (repeat refine Rn.step rfl ?_
         refine Rn.calli rfl rfl rfl (by decide) (r_within (nI _) 4 _) (fun z1 f1 => ?_)
         refine Rn.br2 rfl (by rw [f1, ib_eq0]; exact fun q => q (by decide)) ?_
         repeat refine Rn.step rfl ?_
         refine Rn.calli rfl rfl rfl (by decide) (r_within (nI _) 4 _) (fun z2 f2 => ?_)
         refine Rn.br1 rfl (by rw [f2, ib_ne0]; decide) ?_
         repeat refine Rn.step rfl ?_
         refine Rn.calli rfl rfl rfl (by decide) (r_isLost hs0) (fun z3 f3 => ?_)
         refine Rn.br2 rfl (by rw [f3, ib_ne0]; exact hz) ?_
         repeat refine Rn.step rfl ?_
         refine Rn.calli rfl rfl rfl (by decide) (r_isLost hu0) (fun z4 f4 => ?_)
         refine Rn.br1 rfl (by rw [f4, ib_eq0]; exact hw) ?_
         repeat refine Rn.step rfl ?_
         refine Rn.br2 rfl hf ?_
         repeat refine Rn.step rfl ?_
         refine Rn.calli rfl rfl rfl (by decide) (r_found 4) (fun z9 f9 => ?_)
         subst f9
         exact Rn.ret rfl)
  · rcases hu with rfl | rfl | rfl | rfl
    · first
      | exact absurd rfl hf
      | (repeat refine Rn.step rfl ?_
         refine Rn.calli rfl rfl rfl (by decide) (r_within (nI _) 4 _) (fun z1 f1 => ?_)
         refine Rn.br2 rfl (by rw [f1, ib_eq0]; exact fun q => q (by decide)) ?_
         repeat refine Rn.step rfl ?_
         refine Rn.calli rfl rfl rfl (by decide) (r_within (nI _) 4 _) (fun z2 f2 => ?_)
         refine Rn.br1 rfl (by rw [f2, ib_ne0]; decide) ?_
         repeat refine Rn.step rfl ?_
         refine Rn.calli rfl rfl rfl (by decide) (r_isLost hs0) (fun z3 f3 => ?_)
         refine Rn.br2 rfl (by rw [f3, ib_ne0]; exact hz) ?_
         repeat refine Rn.step rfl ?_
         refine Rn.calli rfl rfl rfl (by decide) (r_isLost hu0) (fun z4 f4 => ?_)
         refine Rn.br1 rfl (by rw [f4, ib_eq0]; exact hw) ?_
         repeat refine Rn.step rfl ?_
         refine Rn.br2 rfl hf ?_
         repeat refine Rn.step rfl ?_
         refine Rn.calli rfl rfl rfl (by decide) (r_found 4) (fun z9 f9 => ?_)
         subst f9
         exact Rn.ret rfl)
    · first
      | exact absurd rfl hf
      | (repeat refine Rn.step rfl ?_
         refine Rn.calli rfl rfl rfl (by decide) (r_within (nI _) 4 _) (fun z1 f1 => ?_)
         refine Rn.br2 rfl (by rw [f1, ib_eq0]; exact fun q => q (by decide)) ?_
         repeat refine Rn.step rfl ?_
         refine Rn.calli rfl rfl rfl (by decide) (r_within (nI _) 4 _) (fun z2 f2 => ?_)
         refine Rn.br1 rfl (by rw [f2, ib_ne0]; decide) ?_
         repeat refine Rn.step rfl ?_
         refine Rn.calli rfl rfl rfl (by decide) (r_isLost hs0) (fun z3 f3 => ?_)
         refine Rn.br2 rfl (by rw [f3, ib_ne0]; exact hz) ?_
         repeat refine Rn.step rfl ?_
         refine Rn.calli rfl rfl rfl (by decide) (r_isLost hu0) (fun z4 f4 => ?_)
         refine Rn.br1 rfl (by rw [f4, ib_eq0]; exact hw) ?_
         repeat refine Rn.step rfl ?_
         refine Rn.br2 rfl hf ?_
         repeat refine Rn.step rfl ?_
         refine Rn.calli rfl rfl rfl (by decide) (r_found 4) (fun z9 f9 => ?_)
         subst f9
         exact Rn.ret rfl)
    · first
      | exact absurd rfl hf
      | (repeat refine Rn.step rfl ?_
         refine Rn.calli rfl rfl rfl (by decide) (r_within (nI _) 4 _) (fun z1 f1 => ?_)
         refine Rn.br2 rfl (by rw [f1, ib_eq0]; exact fun q => q (by decide)) ?_
         repeat refine Rn.step rfl ?_
         refine Rn.calli rfl rfl rfl (by decide) (r_within (nI _) 4 _) (fun z2 f2 => ?_)
         refine Rn.br1 rfl (by rw [f2, ib_ne0]; decide) ?_
         repeat refine Rn.step rfl ?_
         refine Rn.calli rfl rfl rfl (by decide) (r_isLost hs0) (fun z3 f3 => ?_)
         refine Rn.br2 rfl (by rw [f3, ib_ne0]; exact hz) ?_
         repeat refine Rn.step rfl ?_
         refine Rn.calli rfl rfl rfl (by decide) (r_isLost hu0) (fun z4 f4 => ?_)
         refine Rn.br1 rfl (by rw [f4, ib_eq0]; exact hw) ?_
         repeat refine Rn.step rfl ?_
         refine Rn.br2 rfl hf ?_
         repeat refine Rn.step rfl ?_
         refine Rn.calli rfl rfl rfl (by decide) (r_found 4) (fun z9 f9 => ?_)
         subst f9
         exact Rn.ret rfl)
    · first
      | exact absurd rfl hf
      | (repeat refine Rn.step rfl ?_
         refine Rn.calli rfl rfl rfl (by decide) (r_within (nI _) 4 _) (fun z1 f1 => ?_)
         refine Rn.br2 rfl (by rw [f1, ib_eq0]; exact fun q => q (by decide)) ?_
         repeat refine Rn.step rfl ?_
         refine Rn.calli rfl rfl rfl (by decide) (r_within (nI _) 4 _) (fun z2 f2 => ?_)
         refine Rn.br1 rfl (by rw [f2, ib_ne0]; decide) ?_
         repeat refine Rn.step rfl ?_
         refine Rn.calli rfl rfl rfl (by decide) (r_isLost hs0) (fun z3 f3 => ?_)
         refine Rn.br2 rfl (by rw [f3, ib_ne0]; exact hz) ?_
         repeat refine Rn.step rfl ?_
         refine Rn.calli rfl rfl rfl (by decide) (r_isLost hu0) (fun z4 f4 => ?_)
         refine Rn.br1 rfl (by rw [f4, ib_eq0]; exact hw) ?_
         repeat refine Rn.step rfl ?_
         refine Rn.br2 rfl hf ?_
         repeat refine Rn.step rfl ?_
         refine Rn.calli rfl rfl rfl (by decide) (r_found 4) (fun z9 f9 => ?_)
         subst f9
         exact Rn.ret rfl)
  · rcases hu with rfl | rfl | rfl | rfl
    · first
      | exact absurd rfl hf
      | (repeat refine Rn.step rfl ?_
         refine Rn.calli rfl rfl rfl (by decide) (r_within (nI _) 4 _) (fun z1 f1 => ?_)
         refine Rn.br2 rfl (by rw [f1, ib_eq0]; exact fun q => q (by decide)) ?_
         repeat refine Rn.step rfl ?_
         refine Rn.calli rfl rfl rfl (by decide) (r_within (nI _) 4 _) (fun z2 f2 => ?_)
         refine Rn.br1 rfl (by rw [f2, ib_ne0]; decide) ?_
         repeat refine Rn.step rfl ?_
         refine Rn.calli rfl rfl rfl (by decide) (r_isLost hs0) (fun z3 f3 => ?_)
         refine Rn.br2 rfl (by rw [f3, ib_ne0]; exact hz) ?_
         repeat refine Rn.step rfl ?_
         refine Rn.calli rfl rfl rfl (by decide) (r_isLost hu0) (fun z4 f4 => ?_)
         refine Rn.br1 rfl (by rw [f4, ib_eq0]; exact hw) ?_
         repeat refine Rn.step rfl ?_
         refine Rn.br2 rfl hf ?_
         repeat refine Rn.step rfl ?_
         refine Rn.calli rfl rfl rfl (by decide) (r_found 4) (fun z9 f9 => ?_)
         subst f9
         exact Rn.ret rfl)
    · first
      | exact absurd rfl hf
      | (repeat refine Rn.step rfl ?_
         refine Rn.calli rfl rfl rfl (by decide) (r_within (nI _) 4 _) (fun z1 f1 => ?_)
         refine Rn.br2 rfl (by rw [f1, ib_eq0]; exact fun q => q (by decide)) ?_
         repeat refine Rn.step rfl ?_
         refine Rn.calli rfl rfl rfl (by decide) (r_within (nI _) 4 _) (fun z2 f2 => ?_)
         refine Rn.br1 rfl (by rw [f2, ib_ne0]; decide) ?_
         repeat refine Rn.step rfl ?_
         refine Rn.calli rfl rfl rfl (by decide) (r_isLost hs0) (fun z3 f3 => ?_)
         refine Rn.br2 rfl (by rw [f3, ib_ne0]; exact hz) ?_
         repeat refine Rn.step rfl ?_
         refine Rn.calli rfl rfl rfl (by decide) (r_isLost hu0) (fun z4 f4 => ?_)
         refine Rn.br1 rfl (by rw [f4, ib_eq0]; exact hw) ?_
         repeat refine Rn.step rfl ?_
         refine Rn.br2 rfl hf ?_
         repeat refine Rn.step rfl ?_
         refine Rn.calli rfl rfl rfl (by decide) (r_found 4) (fun z9 f9 => ?_)
         subst f9
         exact Rn.ret rfl)
    · first
      | exact absurd rfl hf
      | (repeat refine Rn.step rfl ?_
         refine Rn.calli rfl rfl rfl (by decide) (r_within (nI _) 4 _) (fun z1 f1 => ?_)
         refine Rn.br2 rfl (by rw [f1, ib_eq0]; exact fun q => q (by decide)) ?_
         repeat refine Rn.step rfl ?_
         refine Rn.calli rfl rfl rfl (by decide) (r_within (nI _) 4 _) (fun z2 f2 => ?_)
         refine Rn.br1 rfl (by rw [f2, ib_ne0]; decide) ?_
         repeat refine Rn.step rfl ?_
         refine Rn.calli rfl rfl rfl (by decide) (r_isLost hs0) (fun z3 f3 => ?_)
         refine Rn.br2 rfl (by rw [f3, ib_ne0]; exact hz) ?_
         repeat refine Rn.step rfl ?_
         refine Rn.calli rfl rfl rfl (by decide) (r_isLost hu0) (fun z4 f4 => ?_)
         refine Rn.br1 rfl (by rw [f4, ib_eq0]; exact hw) ?_
         repeat refine Rn.step rfl ?_
         refine Rn.br2 rfl hf ?_
         repeat refine Rn.step rfl ?_
         refine Rn.calli rfl rfl rfl (by decide) (r_found 4) (fun z9 f9 => ?_)
         subst f9
         exact Rn.ret rfl)
    · first
      | exact absurd rfl hf
      | (repeat refine Rn.step rfl ?_
         refine Rn.calli rfl rfl rfl (by decide) (r_within (nI _) 4 _) (fun z1 f1 => ?_)
         refine Rn.br2 rfl (by rw [f1, ib_eq0]; exact fun q => q (by decide)) ?_
         repeat refine Rn.step rfl ?_
         refine Rn.calli rfl rfl rfl (by decide) (r_within (nI _) 4 _) (fun z2 f2 => ?_)
         refine Rn.br1 rfl (by rw [f2, ib_ne0]; decide) ?_
         repeat refine Rn.step rfl ?_
         refine Rn.calli rfl rfl rfl (by decide) (r_isLost hs0) (fun z3 f3 => ?_)
         refine Rn.br2 rfl (by rw [f3, ib_ne0]; exact hz) ?_
         repeat refine Rn.step rfl ?_
         refine Rn.calli rfl rfl rfl (by decide) (r_isLost hu0) (fun z4 f4 => ?_)
         refine Rn.br1 rfl (by rw [f4, ib_eq0]; exact hw) ?_
         repeat refine Rn.step rfl ?_
         refine Rn.br2 rfl hf ?_
         repeat refine Rn.step rfl ?_
         refine Rn.calli rfl rfl rfl (by decide) (r_found 4) (fun z9 f9 => ?_)
         subst f9
         exact Rn.ret rfl)
theorem r_copy_index {s u : Nat} (hs : s = 0 ∨ s = 1 ∨ s = 2 ∨ s = 3) (hu : u = 0 ∨ u = 1 ∨ u = 2 ∨ u = 3) (hz : ¬ v (18 + s) = -1) (hw : ¬ v (18 + u) = -1) (hf : v (14 + s) = v (14 + u)) {i j n : Int32} (hi : ¬ (hrP (v (18 + s)) i n ∧ hrP (v (18 + u)) j n)) : Rn E 2 mX7_copy (0, [(0, .ref 0), (1, .int (nI s)), (2, .int i), (3, .int (nI u)), (4, .int j), (5, .int n)], [], wX a v t r) (some (.int (-12)), wX a (upd v 0 2) t r) := by
  have hs0 := hs
  have hu0 := hu
  rcases hs with rfl | rfl | rfl | rfl
  · rcases hu with rfl | rfl | rfl | rfl
    · repeat refine Rn.step rfl ?_
      refine Rn.calli rfl rfl rfl (by decide) (r_within (nI _) 4 _) (fun z1 f1 => ?_)
      refine Rn.br2 rfl (by rw [f1, ib_eq0]; exact fun q => q (by decide)) ?_
      repeat refine Rn.step rfl ?_
      refine Rn.calli rfl rfl rfl (by decide) (r_within (nI _) 4 _) (fun z2 f2 => ?_)
      refine Rn.br1 rfl (by rw [f2, ib_ne0]; decide) ?_
      repeat refine Rn.step rfl ?_
      refine Rn.calli rfl rfl rfl (by decide) (r_isLost hs0) (fun z3 f3 => ?_)
      refine Rn.br2 rfl (by rw [f3, ib_ne0]; exact hz) ?_
      repeat refine Rn.step rfl ?_
      refine Rn.calli rfl rfl rfl (by decide) (r_isLost hu0) (fun z4 f4 => ?_)
      refine Rn.br1 rfl (by rw [f4, ib_eq0]; exact hw) ?_
      repeat refine Rn.step rfl ?_
      first
        | refine Rn.br1 rfl hf ?_
        | skip
      repeat refine Rn.step rfl ?_
      refine Rn.calli rfl rfl rfl (by decide) (r_hasRun hs0 i n) (fun z5 f5 => ?_)
      refine Rn.br rfl (fun h1 => ?_) (fun h1 => ?_)
      · repeat refine Rn.step rfl ?_
        refine Rn.calli rfl rfl rfl (by decide) (r_found 2) (fun z9 f9 => ?_)
        subst f9
        exact Rn.ret rfl
      · rw [f5, ib_ne0] at h1
        repeat refine Rn.step rfl ?_
        refine Rn.calli rfl rfl rfl (by decide) (r_hasRun hu0 j n) (fun z6 f6 => ?_)
        refine Rn.br2 rfl (by rw [f6, ib_ne0]; exact fun q => hi ⟨h1, q⟩) ?_
        repeat refine Rn.step rfl ?_
        refine Rn.calli rfl rfl rfl (by decide) (r_found 2) (fun z9 f9 => ?_)
        subst f9
        exact Rn.ret rfl
    · repeat refine Rn.step rfl ?_
      refine Rn.calli rfl rfl rfl (by decide) (r_within (nI _) 4 _) (fun z1 f1 => ?_)
      refine Rn.br2 rfl (by rw [f1, ib_eq0]; exact fun q => q (by decide)) ?_
      repeat refine Rn.step rfl ?_
      refine Rn.calli rfl rfl rfl (by decide) (r_within (nI _) 4 _) (fun z2 f2 => ?_)
      refine Rn.br1 rfl (by rw [f2, ib_ne0]; decide) ?_
      repeat refine Rn.step rfl ?_
      refine Rn.calli rfl rfl rfl (by decide) (r_isLost hs0) (fun z3 f3 => ?_)
      refine Rn.br2 rfl (by rw [f3, ib_ne0]; exact hz) ?_
      repeat refine Rn.step rfl ?_
      refine Rn.calli rfl rfl rfl (by decide) (r_isLost hu0) (fun z4 f4 => ?_)
      refine Rn.br1 rfl (by rw [f4, ib_eq0]; exact hw) ?_
      repeat refine Rn.step rfl ?_
      first
        | refine Rn.br1 rfl hf ?_
        | skip
      repeat refine Rn.step rfl ?_
      refine Rn.calli rfl rfl rfl (by decide) (r_hasRun hs0 i n) (fun z5 f5 => ?_)
      refine Rn.br rfl (fun h1 => ?_) (fun h1 => ?_)
      · repeat refine Rn.step rfl ?_
        refine Rn.calli rfl rfl rfl (by decide) (r_found 2) (fun z9 f9 => ?_)
        subst f9
        exact Rn.ret rfl
      · rw [f5, ib_ne0] at h1
        repeat refine Rn.step rfl ?_
        refine Rn.calli rfl rfl rfl (by decide) (r_hasRun hu0 j n) (fun z6 f6 => ?_)
        refine Rn.br2 rfl (by rw [f6, ib_ne0]; exact fun q => hi ⟨h1, q⟩) ?_
        repeat refine Rn.step rfl ?_
        refine Rn.calli rfl rfl rfl (by decide) (r_found 2) (fun z9 f9 => ?_)
        subst f9
        exact Rn.ret rfl
    · repeat refine Rn.step rfl ?_
      refine Rn.calli rfl rfl rfl (by decide) (r_within (nI _) 4 _) (fun z1 f1 => ?_)
      refine Rn.br2 rfl (by rw [f1, ib_eq0]; exact fun q => q (by decide)) ?_
      repeat refine Rn.step rfl ?_
      refine Rn.calli rfl rfl rfl (by decide) (r_within (nI _) 4 _) (fun z2 f2 => ?_)
      refine Rn.br1 rfl (by rw [f2, ib_ne0]; decide) ?_
      repeat refine Rn.step rfl ?_
      refine Rn.calli rfl rfl rfl (by decide) (r_isLost hs0) (fun z3 f3 => ?_)
      refine Rn.br2 rfl (by rw [f3, ib_ne0]; exact hz) ?_
      repeat refine Rn.step rfl ?_
      refine Rn.calli rfl rfl rfl (by decide) (r_isLost hu0) (fun z4 f4 => ?_)
      refine Rn.br1 rfl (by rw [f4, ib_eq0]; exact hw) ?_
      repeat refine Rn.step rfl ?_
      first
        | refine Rn.br1 rfl hf ?_
        | skip
      repeat refine Rn.step rfl ?_
      refine Rn.calli rfl rfl rfl (by decide) (r_hasRun hs0 i n) (fun z5 f5 => ?_)
      refine Rn.br rfl (fun h1 => ?_) (fun h1 => ?_)
      · repeat refine Rn.step rfl ?_
        refine Rn.calli rfl rfl rfl (by decide) (r_found 2) (fun z9 f9 => ?_)
        subst f9
        exact Rn.ret rfl
      · rw [f5, ib_ne0] at h1
        repeat refine Rn.step rfl ?_
        refine Rn.calli rfl rfl rfl (by decide) (r_hasRun hu0 j n) (fun z6 f6 => ?_)
        refine Rn.br2 rfl (by rw [f6, ib_ne0]; exact fun q => hi ⟨h1, q⟩) ?_
        repeat refine Rn.step rfl ?_
        refine Rn.calli rfl rfl rfl (by decide) (r_found 2) (fun z9 f9 => ?_)
        subst f9
        exact Rn.ret rfl
    · repeat refine Rn.step rfl ?_
      refine Rn.calli rfl rfl rfl (by decide) (r_within (nI _) 4 _) (fun z1 f1 => ?_)
      refine Rn.br2 rfl (by rw [f1, ib_eq0]; exact fun q => q (by decide)) ?_
      repeat refine Rn.step rfl ?_
      refine Rn.calli rfl rfl rfl (by decide) (r_within (nI _) 4 _) (fun z2 f2 => ?_)
      refine Rn.br1 rfl (by rw [f2, ib_ne0]; decide) ?_
      repeat refine Rn.step rfl ?_
      refine Rn.calli rfl rfl rfl (by decide) (r_isLost hs0) (fun z3 f3 => ?_)
      refine Rn.br2 rfl (by rw [f3, ib_ne0]; exact hz) ?_
      repeat refine Rn.step rfl ?_
      refine Rn.calli rfl rfl rfl (by decide) (r_isLost hu0) (fun z4 f4 => ?_)
      refine Rn.br1 rfl (by rw [f4, ib_eq0]; exact hw) ?_
      repeat refine Rn.step rfl ?_
      first
        | refine Rn.br1 rfl hf ?_
        | skip
      repeat refine Rn.step rfl ?_
      refine Rn.calli rfl rfl rfl (by decide) (r_hasRun hs0 i n) (fun z5 f5 => ?_)
      refine Rn.br rfl (fun h1 => ?_) (fun h1 => ?_)
      · repeat refine Rn.step rfl ?_
        refine Rn.calli rfl rfl rfl (by decide) (r_found 2) (fun z9 f9 => ?_)
        subst f9
        exact Rn.ret rfl
      · rw [f5, ib_ne0] at h1
        repeat refine Rn.step rfl ?_
        refine Rn.calli rfl rfl rfl (by decide) (r_hasRun hu0 j n) (fun z6 f6 => ?_)
        refine Rn.br2 rfl (by rw [f6, ib_ne0]; exact fun q => hi ⟨h1, q⟩) ?_
        repeat refine Rn.step rfl ?_
        refine Rn.calli rfl rfl rfl (by decide) (r_found 2) (fun z9 f9 => ?_)
        subst f9
        exact Rn.ret rfl
  · rcases hu with rfl | rfl | rfl | rfl
    · repeat refine Rn.step rfl ?_
      refine Rn.calli rfl rfl rfl (by decide) (r_within (nI _) 4 _) (fun z1 f1 => ?_)
      refine Rn.br2 rfl (by rw [f1, ib_eq0]; exact fun q => q (by decide)) ?_
      repeat refine Rn.step rfl ?_
      refine Rn.calli rfl rfl rfl (by decide) (r_within (nI _) 4 _) (fun z2 f2 => ?_)
      refine Rn.br1 rfl (by rw [f2, ib_ne0]; decide) ?_
      repeat refine Rn.step rfl ?_
      refine Rn.calli rfl rfl rfl (by decide) (r_isLost hs0) (fun z3 f3 => ?_)
      refine Rn.br2 rfl (by rw [f3, ib_ne0]; exact hz) ?_
      repeat refine Rn.step rfl ?_
      refine Rn.calli rfl rfl rfl (by decide) (r_isLost hu0) (fun z4 f4 => ?_)
      refine Rn.br1 rfl (by rw [f4, ib_eq0]; exact hw) ?_
      repeat refine Rn.step rfl ?_
      first
        | refine Rn.br1 rfl hf ?_
        | skip
      repeat refine Rn.step rfl ?_
      refine Rn.calli rfl rfl rfl (by decide) (r_hasRun hs0 i n) (fun z5 f5 => ?_)
      refine Rn.br rfl (fun h1 => ?_) (fun h1 => ?_)
      · repeat refine Rn.step rfl ?_
        refine Rn.calli rfl rfl rfl (by decide) (r_found 2) (fun z9 f9 => ?_)
        subst f9
        exact Rn.ret rfl
      · rw [f5, ib_ne0] at h1
        repeat refine Rn.step rfl ?_
        refine Rn.calli rfl rfl rfl (by decide) (r_hasRun hu0 j n) (fun z6 f6 => ?_)
        refine Rn.br2 rfl (by rw [f6, ib_ne0]; exact fun q => hi ⟨h1, q⟩) ?_
        repeat refine Rn.step rfl ?_
        refine Rn.calli rfl rfl rfl (by decide) (r_found 2) (fun z9 f9 => ?_)
        subst f9
        exact Rn.ret rfl
    · repeat refine Rn.step rfl ?_
      refine Rn.calli rfl rfl rfl (by decide) (r_within (nI _) 4 _) (fun z1 f1 => ?_)
      refine Rn.br2 rfl (by rw [f1, ib_eq0]; exact fun q => q (by decide)) ?_
      repeat refine Rn.step rfl ?_
      refine Rn.calli rfl rfl rfl (by decide) (r_within (nI _) 4 _) (fun z2 f2 => ?_)
      refine Rn.br1 rfl (by rw [f2, ib_ne0]; decide) ?_
      repeat refine Rn.step rfl ?_
      refine Rn.calli rfl rfl rfl (by decide) (r_isLost hs0) (fun z3 f3 => ?_)
      refine Rn.br2 rfl (by rw [f3, ib_ne0]; exact hz) ?_
      repeat refine Rn.step rfl ?_
      refine Rn.calli rfl rfl rfl (by decide) (r_isLost hu0) (fun z4 f4 => ?_)
      refine Rn.br1 rfl (by rw [f4, ib_eq0]; exact hw) ?_
      repeat refine Rn.step rfl ?_
      first
        | refine Rn.br1 rfl hf ?_
        | skip
      repeat refine Rn.step rfl ?_
      refine Rn.calli rfl rfl rfl (by decide) (r_hasRun hs0 i n) (fun z5 f5 => ?_)
      refine Rn.br rfl (fun h1 => ?_) (fun h1 => ?_)
      · repeat refine Rn.step rfl ?_
        refine Rn.calli rfl rfl rfl (by decide) (r_found 2) (fun z9 f9 => ?_)
        subst f9
        exact Rn.ret rfl
      · rw [f5, ib_ne0] at h1
        repeat refine Rn.step rfl ?_
        refine Rn.calli rfl rfl rfl (by decide) (r_hasRun hu0 j n) (fun z6 f6 => ?_)
        refine Rn.br2 rfl (by rw [f6, ib_ne0]; exact fun q => hi ⟨h1, q⟩) ?_
        repeat refine Rn.step rfl ?_
        refine Rn.calli rfl rfl rfl (by decide) (r_found 2) (fun z9 f9 => ?_)
        subst f9
        exact Rn.ret rfl
    · repeat refine Rn.step rfl ?_
      refine Rn.calli rfl rfl rfl (by decide) (r_within (nI _) 4 _) (fun z1 f1 => ?_)
      refine Rn.br2 rfl (by rw [f1, ib_eq0]; exact fun q => q (by decide)) ?_
      repeat refine Rn.step rfl ?_
      refine Rn.calli rfl rfl rfl (by decide) (r_within (nI _) 4 _) (fun z2 f2 => ?_)
      refine Rn.br1 rfl (by rw [f2, ib_ne0]; decide) ?_
      repeat refine Rn.step rfl ?_
      refine Rn.calli rfl rfl rfl (by decide) (r_isLost hs0) (fun z3 f3 => ?_)
      refine Rn.br2 rfl (by rw [f3, ib_ne0]; exact hz) ?_
      repeat refine Rn.step rfl ?_
      refine Rn.calli rfl rfl rfl (by decide) (r_isLost hu0) (fun z4 f4 => ?_)
      refine Rn.br1 rfl (by rw [f4, ib_eq0]; exact hw) ?_
      repeat refine Rn.step rfl ?_
      first
        | refine Rn.br1 rfl hf ?_
        | skip
      repeat refine Rn.step rfl ?_
      refine Rn.calli rfl rfl rfl (by decide) (r_hasRun hs0 i n) (fun z5 f5 => ?_)
      refine Rn.br rfl (fun h1 => ?_) (fun h1 => ?_)
      · repeat refine Rn.step rfl ?_
        refine Rn.calli rfl rfl rfl (by decide) (r_found 2) (fun z9 f9 => ?_)
        subst f9
        exact Rn.ret rfl
      · rw [f5, ib_ne0] at h1
        repeat refine Rn.step rfl ?_
        refine Rn.calli rfl rfl rfl (by decide) (r_hasRun hu0 j n) (fun z6 f6 => ?_)
        refine Rn.br2 rfl (by rw [f6, ib_ne0]; exact fun q => hi ⟨h1, q⟩) ?_
        repeat refine Rn.step rfl ?_
        refine Rn.calli rfl rfl rfl (by decide) (r_found 2) (fun z9 f9 => ?_)
        subst f9
        exact Rn.ret rfl
    · repeat refine Rn.step rfl ?_
      refine Rn.calli rfl rfl rfl (by decide) (r_within (nI _) 4 _) (fun z1 f1 => ?_)
      refine Rn.br2 rfl (by rw [f1, ib_eq0]; exact fun q => q (by decide)) ?_
      repeat refine Rn.step rfl ?_
      refine Rn.calli rfl rfl rfl (by decide) (r_within (nI _) 4 _) (fun z2 f2 => ?_)
      refine Rn.br1 rfl (by rw [f2, ib_ne0]; decide) ?_
      repeat refine Rn.step rfl ?_
      refine Rn.calli rfl rfl rfl (by decide) (r_isLost hs0) (fun z3 f3 => ?_)
      refine Rn.br2 rfl (by rw [f3, ib_ne0]; exact hz) ?_
      repeat refine Rn.step rfl ?_
      refine Rn.calli rfl rfl rfl (by decide) (r_isLost hu0) (fun z4 f4 => ?_)
      refine Rn.br1 rfl (by rw [f4, ib_eq0]; exact hw) ?_
      repeat refine Rn.step rfl ?_
      first
        | refine Rn.br1 rfl hf ?_
        | skip
      repeat refine Rn.step rfl ?_
      refine Rn.calli rfl rfl rfl (by decide) (r_hasRun hs0 i n) (fun z5 f5 => ?_)
      refine Rn.br rfl (fun h1 => ?_) (fun h1 => ?_)
      · repeat refine Rn.step rfl ?_
        refine Rn.calli rfl rfl rfl (by decide) (r_found 2) (fun z9 f9 => ?_)
        subst f9
        exact Rn.ret rfl
      · rw [f5, ib_ne0] at h1
        repeat refine Rn.step rfl ?_
        refine Rn.calli rfl rfl rfl (by decide) (r_hasRun hu0 j n) (fun z6 f6 => ?_)
        refine Rn.br2 rfl (by rw [f6, ib_ne0]; exact fun q => hi ⟨h1, q⟩) ?_
        repeat refine Rn.step rfl ?_
        refine Rn.calli rfl rfl rfl (by decide) (r_found 2) (fun z9 f9 => ?_)
        subst f9
        exact Rn.ret rfl
  · rcases hu with rfl | rfl | rfl | rfl
    · repeat refine Rn.step rfl ?_
      refine Rn.calli rfl rfl rfl (by decide) (r_within (nI _) 4 _) (fun z1 f1 => ?_)
      refine Rn.br2 rfl (by rw [f1, ib_eq0]; exact fun q => q (by decide)) ?_
      repeat refine Rn.step rfl ?_
      refine Rn.calli rfl rfl rfl (by decide) (r_within (nI _) 4 _) (fun z2 f2 => ?_)
      refine Rn.br1 rfl (by rw [f2, ib_ne0]; decide) ?_
      repeat refine Rn.step rfl ?_
      refine Rn.calli rfl rfl rfl (by decide) (r_isLost hs0) (fun z3 f3 => ?_)
      refine Rn.br2 rfl (by rw [f3, ib_ne0]; exact hz) ?_
      repeat refine Rn.step rfl ?_
      refine Rn.calli rfl rfl rfl (by decide) (r_isLost hu0) (fun z4 f4 => ?_)
      refine Rn.br1 rfl (by rw [f4, ib_eq0]; exact hw) ?_
      repeat refine Rn.step rfl ?_
      first
        | refine Rn.br1 rfl hf ?_
        | skip
      repeat refine Rn.step rfl ?_
      refine Rn.calli rfl rfl rfl (by decide) (r_hasRun hs0 i n) (fun z5 f5 => ?_)
      refine Rn.br rfl (fun h1 => ?_) (fun h1 => ?_)
      · repeat refine Rn.step rfl ?_
        refine Rn.calli rfl rfl rfl (by decide) (r_found 2) (fun z9 f9 => ?_)
        subst f9
        exact Rn.ret rfl
      · rw [f5, ib_ne0] at h1
        repeat refine Rn.step rfl ?_
        refine Rn.calli rfl rfl rfl (by decide) (r_hasRun hu0 j n) (fun z6 f6 => ?_)
        refine Rn.br2 rfl (by rw [f6, ib_ne0]; exact fun q => hi ⟨h1, q⟩) ?_
        repeat refine Rn.step rfl ?_
        refine Rn.calli rfl rfl rfl (by decide) (r_found 2) (fun z9 f9 => ?_)
        subst f9
        exact Rn.ret rfl
    · repeat refine Rn.step rfl ?_
      refine Rn.calli rfl rfl rfl (by decide) (r_within (nI _) 4 _) (fun z1 f1 => ?_)
      refine Rn.br2 rfl (by rw [f1, ib_eq0]; exact fun q => q (by decide)) ?_
      repeat refine Rn.step rfl ?_
      refine Rn.calli rfl rfl rfl (by decide) (r_within (nI _) 4 _) (fun z2 f2 => ?_)
      refine Rn.br1 rfl (by rw [f2, ib_ne0]; decide) ?_
      repeat refine Rn.step rfl ?_
      refine Rn.calli rfl rfl rfl (by decide) (r_isLost hs0) (fun z3 f3 => ?_)
      refine Rn.br2 rfl (by rw [f3, ib_ne0]; exact hz) ?_
      repeat refine Rn.step rfl ?_
      refine Rn.calli rfl rfl rfl (by decide) (r_isLost hu0) (fun z4 f4 => ?_)
      refine Rn.br1 rfl (by rw [f4, ib_eq0]; exact hw) ?_
      repeat refine Rn.step rfl ?_
      first
        | refine Rn.br1 rfl hf ?_
        | skip
      repeat refine Rn.step rfl ?_
      refine Rn.calli rfl rfl rfl (by decide) (r_hasRun hs0 i n) (fun z5 f5 => ?_)
      refine Rn.br rfl (fun h1 => ?_) (fun h1 => ?_)
      · repeat refine Rn.step rfl ?_
        refine Rn.calli rfl rfl rfl (by decide) (r_found 2) (fun z9 f9 => ?_)
        subst f9
        exact Rn.ret rfl
      · rw [f5, ib_ne0] at h1
        repeat refine Rn.step rfl ?_
        refine Rn.calli rfl rfl rfl (by decide) (r_hasRun hu0 j n) (fun z6 f6 => ?_)
        refine Rn.br2 rfl (by rw [f6, ib_ne0]; exact fun q => hi ⟨h1, q⟩) ?_
        repeat refine Rn.step rfl ?_
        refine Rn.calli rfl rfl rfl (by decide) (r_found 2) (fun z9 f9 => ?_)
        subst f9
        exact Rn.ret rfl
    · repeat refine Rn.step rfl ?_
      refine Rn.calli rfl rfl rfl (by decide) (r_within (nI _) 4 _) (fun z1 f1 => ?_)
      refine Rn.br2 rfl (by rw [f1, ib_eq0]; exact fun q => q (by decide)) ?_
      repeat refine Rn.step rfl ?_
      refine Rn.calli rfl rfl rfl (by decide) (r_within (nI _) 4 _) (fun z2 f2 => ?_)
      refine Rn.br1 rfl (by rw [f2, ib_ne0]; decide) ?_
      repeat refine Rn.step rfl ?_
      refine Rn.calli rfl rfl rfl (by decide) (r_isLost hs0) (fun z3 f3 => ?_)
      refine Rn.br2 rfl (by rw [f3, ib_ne0]; exact hz) ?_
      repeat refine Rn.step rfl ?_
      refine Rn.calli rfl rfl rfl (by decide) (r_isLost hu0) (fun z4 f4 => ?_)
      refine Rn.br1 rfl (by rw [f4, ib_eq0]; exact hw) ?_
      repeat refine Rn.step rfl ?_
      first
        | refine Rn.br1 rfl hf ?_
        | skip
      repeat refine Rn.step rfl ?_
      refine Rn.calli rfl rfl rfl (by decide) (r_hasRun hs0 i n) (fun z5 f5 => ?_)
      refine Rn.br rfl (fun h1 => ?_) (fun h1 => ?_)
      · repeat refine Rn.step rfl ?_
        refine Rn.calli rfl rfl rfl (by decide) (r_found 2) (fun z9 f9 => ?_)
        subst f9
        exact Rn.ret rfl
      · rw [f5, ib_ne0] at h1
        repeat refine Rn.step rfl ?_
        refine Rn.calli rfl rfl rfl (by decide) (r_hasRun hu0 j n) (fun z6 f6 => ?_)
        refine Rn.br2 rfl (by rw [f6, ib_ne0]; exact fun q => hi ⟨h1, q⟩) ?_
        repeat refine Rn.step rfl ?_
        refine Rn.calli rfl rfl rfl (by decide) (r_found 2) (fun z9 f9 => ?_)
        subst f9
        exact Rn.ret rfl
    · repeat refine Rn.step rfl ?_
      refine Rn.calli rfl rfl rfl (by decide) (r_within (nI _) 4 _) (fun z1 f1 => ?_)
      refine Rn.br2 rfl (by rw [f1, ib_eq0]; exact fun q => q (by decide)) ?_
      repeat refine Rn.step rfl ?_
      refine Rn.calli rfl rfl rfl (by decide) (r_within (nI _) 4 _) (fun z2 f2 => ?_)
      refine Rn.br1 rfl (by rw [f2, ib_ne0]; decide) ?_
      repeat refine Rn.step rfl ?_
      refine Rn.calli rfl rfl rfl (by decide) (r_isLost hs0) (fun z3 f3 => ?_)
      refine Rn.br2 rfl (by rw [f3, ib_ne0]; exact hz) ?_
      repeat refine Rn.step rfl ?_
      refine Rn.calli rfl rfl rfl (by decide) (r_isLost hu0) (fun z4 f4 => ?_)
      refine Rn.br1 rfl (by rw [f4, ib_eq0]; exact hw) ?_
      repeat refine Rn.step rfl ?_
      first
        | refine Rn.br1 rfl hf ?_
        | skip
      repeat refine Rn.step rfl ?_
      refine Rn.calli rfl rfl rfl (by decide) (r_hasRun hs0 i n) (fun z5 f5 => ?_)
      refine Rn.br rfl (fun h1 => ?_) (fun h1 => ?_)
      · repeat refine Rn.step rfl ?_
        refine Rn.calli rfl rfl rfl (by decide) (r_found 2) (fun z9 f9 => ?_)
        subst f9
        exact Rn.ret rfl
      · rw [f5, ib_ne0] at h1
        repeat refine Rn.step rfl ?_
        refine Rn.calli rfl rfl rfl (by decide) (r_hasRun hu0 j n) (fun z6 f6 => ?_)
        refine Rn.br2 rfl (by rw [f6, ib_ne0]; exact fun q => hi ⟨h1, q⟩) ?_
        repeat refine Rn.step rfl ?_
        refine Rn.calli rfl rfl rfl (by decide) (r_found 2) (fun z9 f9 => ?_)
        subst f9
        exact Rn.ret rfl
  · rcases hu with rfl | rfl | rfl | rfl
    · repeat refine Rn.step rfl ?_
      refine Rn.calli rfl rfl rfl (by decide) (r_within (nI _) 4 _) (fun z1 f1 => ?_)
      refine Rn.br2 rfl (by rw [f1, ib_eq0]; exact fun q => q (by decide)) ?_
      repeat refine Rn.step rfl ?_
      refine Rn.calli rfl rfl rfl (by decide) (r_within (nI _) 4 _) (fun z2 f2 => ?_)
      refine Rn.br1 rfl (by rw [f2, ib_ne0]; decide) ?_
      repeat refine Rn.step rfl ?_
      refine Rn.calli rfl rfl rfl (by decide) (r_isLost hs0) (fun z3 f3 => ?_)
      refine Rn.br2 rfl (by rw [f3, ib_ne0]; exact hz) ?_
      repeat refine Rn.step rfl ?_
      refine Rn.calli rfl rfl rfl (by decide) (r_isLost hu0) (fun z4 f4 => ?_)
      refine Rn.br1 rfl (by rw [f4, ib_eq0]; exact hw) ?_
      repeat refine Rn.step rfl ?_
      first
        | refine Rn.br1 rfl hf ?_
        | skip
      repeat refine Rn.step rfl ?_
      refine Rn.calli rfl rfl rfl (by decide) (r_hasRun hs0 i n) (fun z5 f5 => ?_)
      refine Rn.br rfl (fun h1 => ?_) (fun h1 => ?_)
      · repeat refine Rn.step rfl ?_
        refine Rn.calli rfl rfl rfl (by decide) (r_found 2) (fun z9 f9 => ?_)
        subst f9
        exact Rn.ret rfl
      · rw [f5, ib_ne0] at h1
        repeat refine Rn.step rfl ?_
        refine Rn.calli rfl rfl rfl (by decide) (r_hasRun hu0 j n) (fun z6 f6 => ?_)
        refine Rn.br2 rfl (by rw [f6, ib_ne0]; exact fun q => hi ⟨h1, q⟩) ?_
        repeat refine Rn.step rfl ?_
        refine Rn.calli rfl rfl rfl (by decide) (r_found 2) (fun z9 f9 => ?_)
        subst f9
        exact Rn.ret rfl
    · repeat refine Rn.step rfl ?_
      refine Rn.calli rfl rfl rfl (by decide) (r_within (nI _) 4 _) (fun z1 f1 => ?_)
      refine Rn.br2 rfl (by rw [f1, ib_eq0]; exact fun q => q (by decide)) ?_
      repeat refine Rn.step rfl ?_
      refine Rn.calli rfl rfl rfl (by decide) (r_within (nI _) 4 _) (fun z2 f2 => ?_)
      refine Rn.br1 rfl (by rw [f2, ib_ne0]; decide) ?_
      repeat refine Rn.step rfl ?_
      refine Rn.calli rfl rfl rfl (by decide) (r_isLost hs0) (fun z3 f3 => ?_)
      refine Rn.br2 rfl (by rw [f3, ib_ne0]; exact hz) ?_
      repeat refine Rn.step rfl ?_
      refine Rn.calli rfl rfl rfl (by decide) (r_isLost hu0) (fun z4 f4 => ?_)
      refine Rn.br1 rfl (by rw [f4, ib_eq0]; exact hw) ?_
      repeat refine Rn.step rfl ?_
      first
        | refine Rn.br1 rfl hf ?_
        | skip
      repeat refine Rn.step rfl ?_
      refine Rn.calli rfl rfl rfl (by decide) (r_hasRun hs0 i n) (fun z5 f5 => ?_)
      refine Rn.br rfl (fun h1 => ?_) (fun h1 => ?_)
      · repeat refine Rn.step rfl ?_
        refine Rn.calli rfl rfl rfl (by decide) (r_found 2) (fun z9 f9 => ?_)
        subst f9
        exact Rn.ret rfl
      · rw [f5, ib_ne0] at h1
        repeat refine Rn.step rfl ?_
        refine Rn.calli rfl rfl rfl (by decide) (r_hasRun hu0 j n) (fun z6 f6 => ?_)
        refine Rn.br2 rfl (by rw [f6, ib_ne0]; exact fun q => hi ⟨h1, q⟩) ?_
        repeat refine Rn.step rfl ?_
        refine Rn.calli rfl rfl rfl (by decide) (r_found 2) (fun z9 f9 => ?_)
        subst f9
        exact Rn.ret rfl
    · repeat refine Rn.step rfl ?_
      refine Rn.calli rfl rfl rfl (by decide) (r_within (nI _) 4 _) (fun z1 f1 => ?_)
      refine Rn.br2 rfl (by rw [f1, ib_eq0]; exact fun q => q (by decide)) ?_
      repeat refine Rn.step rfl ?_
      refine Rn.calli rfl rfl rfl (by decide) (r_within (nI _) 4 _) (fun z2 f2 => ?_)
      refine Rn.br1 rfl (by rw [f2, ib_ne0]; decide) ?_
      repeat refine Rn.step rfl ?_
      refine Rn.calli rfl rfl rfl (by decide) (r_isLost hs0) (fun z3 f3 => ?_)
      refine Rn.br2 rfl (by rw [f3, ib_ne0]; exact hz) ?_
      repeat refine Rn.step rfl ?_
      refine Rn.calli rfl rfl rfl (by decide) (r_isLost hu0) (fun z4 f4 => ?_)
      refine Rn.br1 rfl (by rw [f4, ib_eq0]; exact hw) ?_
      repeat refine Rn.step rfl ?_
      first
        | refine Rn.br1 rfl hf ?_
        | skip
      repeat refine Rn.step rfl ?_
      refine Rn.calli rfl rfl rfl (by decide) (r_hasRun hs0 i n) (fun z5 f5 => ?_)
      refine Rn.br rfl (fun h1 => ?_) (fun h1 => ?_)
      · repeat refine Rn.step rfl ?_
        refine Rn.calli rfl rfl rfl (by decide) (r_found 2) (fun z9 f9 => ?_)
        subst f9
        exact Rn.ret rfl
      · rw [f5, ib_ne0] at h1
        repeat refine Rn.step rfl ?_
        refine Rn.calli rfl rfl rfl (by decide) (r_hasRun hu0 j n) (fun z6 f6 => ?_)
        refine Rn.br2 rfl (by rw [f6, ib_ne0]; exact fun q => hi ⟨h1, q⟩) ?_
        repeat refine Rn.step rfl ?_
        refine Rn.calli rfl rfl rfl (by decide) (r_found 2) (fun z9 f9 => ?_)
        subst f9
        exact Rn.ret rfl
    · repeat refine Rn.step rfl ?_
      refine Rn.calli rfl rfl rfl (by decide) (r_within (nI _) 4 _) (fun z1 f1 => ?_)
      refine Rn.br2 rfl (by rw [f1, ib_eq0]; exact fun q => q (by decide)) ?_
      repeat refine Rn.step rfl ?_
      refine Rn.calli rfl rfl rfl (by decide) (r_within (nI _) 4 _) (fun z2 f2 => ?_)
      refine Rn.br1 rfl (by rw [f2, ib_ne0]; decide) ?_
      repeat refine Rn.step rfl ?_
      refine Rn.calli rfl rfl rfl (by decide) (r_isLost hs0) (fun z3 f3 => ?_)
      refine Rn.br2 rfl (by rw [f3, ib_ne0]; exact hz) ?_
      repeat refine Rn.step rfl ?_
      refine Rn.calli rfl rfl rfl (by decide) (r_isLost hu0) (fun z4 f4 => ?_)
      refine Rn.br1 rfl (by rw [f4, ib_eq0]; exact hw) ?_
      repeat refine Rn.step rfl ?_
      first
        | refine Rn.br1 rfl hf ?_
        | skip
      repeat refine Rn.step rfl ?_
      refine Rn.calli rfl rfl rfl (by decide) (r_hasRun hs0 i n) (fun z5 f5 => ?_)
      refine Rn.br rfl (fun h1 => ?_) (fun h1 => ?_)
      · repeat refine Rn.step rfl ?_
        refine Rn.calli rfl rfl rfl (by decide) (r_found 2) (fun z9 f9 => ?_)
        subst f9
        exact Rn.ret rfl
      · rw [f5, ib_ne0] at h1
        repeat refine Rn.step rfl ?_
        refine Rn.calli rfl rfl rfl (by decide) (r_hasRun hu0 j n) (fun z6 f6 => ?_)
        refine Rn.br2 rfl (by rw [f6, ib_ne0]; exact fun q => hi ⟨h1, q⟩) ?_
        repeat refine Rn.step rfl ?_
        refine Rn.calli rfl rfl rfl (by decide) (r_found 2) (fun z9 f9 => ?_)
        subst f9
        exact Rn.ret rfl
theorem r_copy {s u : Nat} (hs : s = 0 ∨ s = 1 ∨ s = 2 ∨ s = 3) (hu : u = 0 ∨ u = 1 ∨ u = 2 ∨ u = 3) (hz : ¬ v (18 + s) = -1) (hw : ¬ v (18 + u) = -1) (hf : v (14 + s) = v (14 + u)) {i j n : Nat} (hi : hrP (v (18 + s)) (nI i) (nI n)) (hj : hrP (v (18 + u)) (nI j) (nI n)) (hin : i + n ≤ 60) (hjn : j + n ≤ 60) : Rn E 2 mX7_copy (0, [(0, .ref 0), (1, .int (nI s)), (2, .int (nI i)), (3, .int (nI u)), (4, .int (nI j)), (5, .int (nI n))], [], wX a v t r) (some (.int 1), wX (va_up a (shI u) (va_cpy (a (shI s)) (a (shI u)) i j n)) v t r) := by
  have hs0 := hs
  have hu0 := hu
  have c1 : (nI i).toNatClampNeg = i := nI_clamp (by omega)
  have c2 : (nI j).toNatClampNeg = j := nI_clamp (by omega)
  have c3 : (nI n).toNatClampNeg = n := nI_clamp (by omega)
  have cc : (¬ nI i < 0 ∧ ¬ nI j < 0 ∧ ¬ nI n < 0) ∧ (nI i).toNatClampNeg + (nI n).toNatClampNeg ≤ 60 ∧ (nI j).toNatClampNeg + (nI n).toNatClampNeg ≤ 60 := by rw [c1, c2, c3]; exact ⟨⟨nI_pos (by omega), nI_pos (by omega), nI_pos (by omega)⟩, hin, hjn⟩
  rcases hs with rfl | rfl | rfl | rfl
  · rcases hu with rfl | rfl | rfl | rfl
    · repeat refine Rn.step rfl ?_
      refine Rn.calli rfl rfl rfl (by decide) (r_within (nI _) 4 _) (fun z1 f1 => ?_)
      refine Rn.br2 rfl (by rw [f1, ib_eq0]; exact fun q => q (by decide)) ?_
      repeat refine Rn.step rfl ?_
      refine Rn.calli rfl rfl rfl (by decide) (r_within (nI _) 4 _) (fun z2 f2 => ?_)
      refine Rn.br1 rfl (by rw [f2, ib_ne0]; decide) ?_
      repeat refine Rn.step rfl ?_
      refine Rn.calli rfl rfl rfl (by decide) (r_isLost hs0) (fun z3 f3 => ?_)
      refine Rn.br2 rfl (by rw [f3, ib_ne0]; exact hz) ?_
      repeat refine Rn.step rfl ?_
      refine Rn.calli rfl rfl rfl (by decide) (r_isLost hu0) (fun z4 f4 => ?_)
      refine Rn.br1 rfl (by rw [f4, ib_eq0]; exact hw) ?_
      repeat refine Rn.step rfl ?_
      first
        | refine Rn.br1 rfl hf ?_
        | skip
      repeat refine Rn.step rfl ?_
      refine Rn.calli rfl rfl rfl (by decide) (r_hasRun hs0 (nI i) (nI n)) (fun z5 f5 => ?_)
      refine Rn.br2 rfl (by rw [f5, ib_eq0]; exact fun q => q hi) ?_
      repeat refine Rn.step rfl ?_
      refine Rn.calli rfl rfl rfl (by decide) (r_hasRun hu0 (nI j) (nI n)) (fun z6 f6 => ?_)
      refine Rn.br1 rfl (by rw [f6, ib_ne0]; exact hj) ?_
      repeat refine Rn.step rfl ?_
      refine Rn.chk rfl cc ?_
      rw [c1, c2, c3]
      repeat refine Rn.step rfl ?_
      exact Rn.ret rfl
    · repeat refine Rn.step rfl ?_
      refine Rn.calli rfl rfl rfl (by decide) (r_within (nI _) 4 _) (fun z1 f1 => ?_)
      refine Rn.br2 rfl (by rw [f1, ib_eq0]; exact fun q => q (by decide)) ?_
      repeat refine Rn.step rfl ?_
      refine Rn.calli rfl rfl rfl (by decide) (r_within (nI _) 4 _) (fun z2 f2 => ?_)
      refine Rn.br1 rfl (by rw [f2, ib_ne0]; decide) ?_
      repeat refine Rn.step rfl ?_
      refine Rn.calli rfl rfl rfl (by decide) (r_isLost hs0) (fun z3 f3 => ?_)
      refine Rn.br2 rfl (by rw [f3, ib_ne0]; exact hz) ?_
      repeat refine Rn.step rfl ?_
      refine Rn.calli rfl rfl rfl (by decide) (r_isLost hu0) (fun z4 f4 => ?_)
      refine Rn.br1 rfl (by rw [f4, ib_eq0]; exact hw) ?_
      repeat refine Rn.step rfl ?_
      first
        | refine Rn.br1 rfl hf ?_
        | skip
      repeat refine Rn.step rfl ?_
      refine Rn.calli rfl rfl rfl (by decide) (r_hasRun hs0 (nI i) (nI n)) (fun z5 f5 => ?_)
      refine Rn.br2 rfl (by rw [f5, ib_eq0]; exact fun q => q hi) ?_
      repeat refine Rn.step rfl ?_
      refine Rn.calli rfl rfl rfl (by decide) (r_hasRun hu0 (nI j) (nI n)) (fun z6 f6 => ?_)
      refine Rn.br1 rfl (by rw [f6, ib_ne0]; exact hj) ?_
      repeat refine Rn.step rfl ?_
      refine Rn.chk rfl cc ?_
      rw [c1, c2, c3]
      repeat refine Rn.step rfl ?_
      exact Rn.ret rfl
    · repeat refine Rn.step rfl ?_
      refine Rn.calli rfl rfl rfl (by decide) (r_within (nI _) 4 _) (fun z1 f1 => ?_)
      refine Rn.br2 rfl (by rw [f1, ib_eq0]; exact fun q => q (by decide)) ?_
      repeat refine Rn.step rfl ?_
      refine Rn.calli rfl rfl rfl (by decide) (r_within (nI _) 4 _) (fun z2 f2 => ?_)
      refine Rn.br1 rfl (by rw [f2, ib_ne0]; decide) ?_
      repeat refine Rn.step rfl ?_
      refine Rn.calli rfl rfl rfl (by decide) (r_isLost hs0) (fun z3 f3 => ?_)
      refine Rn.br2 rfl (by rw [f3, ib_ne0]; exact hz) ?_
      repeat refine Rn.step rfl ?_
      refine Rn.calli rfl rfl rfl (by decide) (r_isLost hu0) (fun z4 f4 => ?_)
      refine Rn.br1 rfl (by rw [f4, ib_eq0]; exact hw) ?_
      repeat refine Rn.step rfl ?_
      first
        | refine Rn.br1 rfl hf ?_
        | skip
      repeat refine Rn.step rfl ?_
      refine Rn.calli rfl rfl rfl (by decide) (r_hasRun hs0 (nI i) (nI n)) (fun z5 f5 => ?_)
      refine Rn.br2 rfl (by rw [f5, ib_eq0]; exact fun q => q hi) ?_
      repeat refine Rn.step rfl ?_
      refine Rn.calli rfl rfl rfl (by decide) (r_hasRun hu0 (nI j) (nI n)) (fun z6 f6 => ?_)
      refine Rn.br1 rfl (by rw [f6, ib_ne0]; exact hj) ?_
      repeat refine Rn.step rfl ?_
      refine Rn.chk rfl cc ?_
      rw [c1, c2, c3]
      repeat refine Rn.step rfl ?_
      exact Rn.ret rfl
    · repeat refine Rn.step rfl ?_
      refine Rn.calli rfl rfl rfl (by decide) (r_within (nI _) 4 _) (fun z1 f1 => ?_)
      refine Rn.br2 rfl (by rw [f1, ib_eq0]; exact fun q => q (by decide)) ?_
      repeat refine Rn.step rfl ?_
      refine Rn.calli rfl rfl rfl (by decide) (r_within (nI _) 4 _) (fun z2 f2 => ?_)
      refine Rn.br1 rfl (by rw [f2, ib_ne0]; decide) ?_
      repeat refine Rn.step rfl ?_
      refine Rn.calli rfl rfl rfl (by decide) (r_isLost hs0) (fun z3 f3 => ?_)
      refine Rn.br2 rfl (by rw [f3, ib_ne0]; exact hz) ?_
      repeat refine Rn.step rfl ?_
      refine Rn.calli rfl rfl rfl (by decide) (r_isLost hu0) (fun z4 f4 => ?_)
      refine Rn.br1 rfl (by rw [f4, ib_eq0]; exact hw) ?_
      repeat refine Rn.step rfl ?_
      first
        | refine Rn.br1 rfl hf ?_
        | skip
      repeat refine Rn.step rfl ?_
      refine Rn.calli rfl rfl rfl (by decide) (r_hasRun hs0 (nI i) (nI n)) (fun z5 f5 => ?_)
      refine Rn.br2 rfl (by rw [f5, ib_eq0]; exact fun q => q hi) ?_
      repeat refine Rn.step rfl ?_
      refine Rn.calli rfl rfl rfl (by decide) (r_hasRun hu0 (nI j) (nI n)) (fun z6 f6 => ?_)
      refine Rn.br1 rfl (by rw [f6, ib_ne0]; exact hj) ?_
      repeat refine Rn.step rfl ?_
      refine Rn.chk rfl cc ?_
      rw [c1, c2, c3]
      repeat refine Rn.step rfl ?_
      exact Rn.ret rfl
  · rcases hu with rfl | rfl | rfl | rfl
    · repeat refine Rn.step rfl ?_
      refine Rn.calli rfl rfl rfl (by decide) (r_within (nI _) 4 _) (fun z1 f1 => ?_)
      refine Rn.br2 rfl (by rw [f1, ib_eq0]; exact fun q => q (by decide)) ?_
      repeat refine Rn.step rfl ?_
      refine Rn.calli rfl rfl rfl (by decide) (r_within (nI _) 4 _) (fun z2 f2 => ?_)
      refine Rn.br1 rfl (by rw [f2, ib_ne0]; decide) ?_
      repeat refine Rn.step rfl ?_
      refine Rn.calli rfl rfl rfl (by decide) (r_isLost hs0) (fun z3 f3 => ?_)
      refine Rn.br2 rfl (by rw [f3, ib_ne0]; exact hz) ?_
      repeat refine Rn.step rfl ?_
      refine Rn.calli rfl rfl rfl (by decide) (r_isLost hu0) (fun z4 f4 => ?_)
      refine Rn.br1 rfl (by rw [f4, ib_eq0]; exact hw) ?_
      repeat refine Rn.step rfl ?_
      first
        | refine Rn.br1 rfl hf ?_
        | skip
      repeat refine Rn.step rfl ?_
      refine Rn.calli rfl rfl rfl (by decide) (r_hasRun hs0 (nI i) (nI n)) (fun z5 f5 => ?_)
      refine Rn.br2 rfl (by rw [f5, ib_eq0]; exact fun q => q hi) ?_
      repeat refine Rn.step rfl ?_
      refine Rn.calli rfl rfl rfl (by decide) (r_hasRun hu0 (nI j) (nI n)) (fun z6 f6 => ?_)
      refine Rn.br1 rfl (by rw [f6, ib_ne0]; exact hj) ?_
      repeat refine Rn.step rfl ?_
      refine Rn.chk rfl cc ?_
      rw [c1, c2, c3]
      repeat refine Rn.step rfl ?_
      exact Rn.ret rfl
    · repeat refine Rn.step rfl ?_
      refine Rn.calli rfl rfl rfl (by decide) (r_within (nI _) 4 _) (fun z1 f1 => ?_)
      refine Rn.br2 rfl (by rw [f1, ib_eq0]; exact fun q => q (by decide)) ?_
      repeat refine Rn.step rfl ?_
      refine Rn.calli rfl rfl rfl (by decide) (r_within (nI _) 4 _) (fun z2 f2 => ?_)
      refine Rn.br1 rfl (by rw [f2, ib_ne0]; decide) ?_
      repeat refine Rn.step rfl ?_
      refine Rn.calli rfl rfl rfl (by decide) (r_isLost hs0) (fun z3 f3 => ?_)
      refine Rn.br2 rfl (by rw [f3, ib_ne0]; exact hz) ?_
      repeat refine Rn.step rfl ?_
      refine Rn.calli rfl rfl rfl (by decide) (r_isLost hu0) (fun z4 f4 => ?_)
      refine Rn.br1 rfl (by rw [f4, ib_eq0]; exact hw) ?_
      repeat refine Rn.step rfl ?_
      first
        | refine Rn.br1 rfl hf ?_
        | skip
      repeat refine Rn.step rfl ?_
      refine Rn.calli rfl rfl rfl (by decide) (r_hasRun hs0 (nI i) (nI n)) (fun z5 f5 => ?_)
      refine Rn.br2 rfl (by rw [f5, ib_eq0]; exact fun q => q hi) ?_
      repeat refine Rn.step rfl ?_
      refine Rn.calli rfl rfl rfl (by decide) (r_hasRun hu0 (nI j) (nI n)) (fun z6 f6 => ?_)
      refine Rn.br1 rfl (by rw [f6, ib_ne0]; exact hj) ?_
      repeat refine Rn.step rfl ?_
      refine Rn.chk rfl cc ?_
      rw [c1, c2, c3]
      repeat refine Rn.step rfl ?_
      exact Rn.ret rfl
    · repeat refine Rn.step rfl ?_
      refine Rn.calli rfl rfl rfl (by decide) (r_within (nI _) 4 _) (fun z1 f1 => ?_)
      refine Rn.br2 rfl (by rw [f1, ib_eq0]; exact fun q => q (by decide)) ?_
      repeat refine Rn.step rfl ?_
      refine Rn.calli rfl rfl rfl (by decide) (r_within (nI _) 4 _) (fun z2 f2 => ?_)
      refine Rn.br1 rfl (by rw [f2, ib_ne0]; decide) ?_
      repeat refine Rn.step rfl ?_
      refine Rn.calli rfl rfl rfl (by decide) (r_isLost hs0) (fun z3 f3 => ?_)
      refine Rn.br2 rfl (by rw [f3, ib_ne0]; exact hz) ?_
      repeat refine Rn.step rfl ?_
      refine Rn.calli rfl rfl rfl (by decide) (r_isLost hu0) (fun z4 f4 => ?_)
      refine Rn.br1 rfl (by rw [f4, ib_eq0]; exact hw) ?_
      repeat refine Rn.step rfl ?_
      first
        | refine Rn.br1 rfl hf ?_
        | skip
      repeat refine Rn.step rfl ?_
      refine Rn.calli rfl rfl rfl (by decide) (r_hasRun hs0 (nI i) (nI n)) (fun z5 f5 => ?_)
      refine Rn.br2 rfl (by rw [f5, ib_eq0]; exact fun q => q hi) ?_
      repeat refine Rn.step rfl ?_
      refine Rn.calli rfl rfl rfl (by decide) (r_hasRun hu0 (nI j) (nI n)) (fun z6 f6 => ?_)
      refine Rn.br1 rfl (by rw [f6, ib_ne0]; exact hj) ?_
      repeat refine Rn.step rfl ?_
      refine Rn.chk rfl cc ?_
      rw [c1, c2, c3]
      repeat refine Rn.step rfl ?_
      exact Rn.ret rfl
    · repeat refine Rn.step rfl ?_
      refine Rn.calli rfl rfl rfl (by decide) (r_within (nI _) 4 _) (fun z1 f1 => ?_)
      refine Rn.br2 rfl (by rw [f1, ib_eq0]; exact fun q => q (by decide)) ?_
      repeat refine Rn.step rfl ?_
      refine Rn.calli rfl rfl rfl (by decide) (r_within (nI _) 4 _) (fun z2 f2 => ?_)
      refine Rn.br1 rfl (by rw [f2, ib_ne0]; decide) ?_
      repeat refine Rn.step rfl ?_
      refine Rn.calli rfl rfl rfl (by decide) (r_isLost hs0) (fun z3 f3 => ?_)
      refine Rn.br2 rfl (by rw [f3, ib_ne0]; exact hz) ?_
      repeat refine Rn.step rfl ?_
      refine Rn.calli rfl rfl rfl (by decide) (r_isLost hu0) (fun z4 f4 => ?_)
      refine Rn.br1 rfl (by rw [f4, ib_eq0]; exact hw) ?_
      repeat refine Rn.step rfl ?_
      first
        | refine Rn.br1 rfl hf ?_
        | skip
      repeat refine Rn.step rfl ?_
      refine Rn.calli rfl rfl rfl (by decide) (r_hasRun hs0 (nI i) (nI n)) (fun z5 f5 => ?_)
      refine Rn.br2 rfl (by rw [f5, ib_eq0]; exact fun q => q hi) ?_
      repeat refine Rn.step rfl ?_
      refine Rn.calli rfl rfl rfl (by decide) (r_hasRun hu0 (nI j) (nI n)) (fun z6 f6 => ?_)
      refine Rn.br1 rfl (by rw [f6, ib_ne0]; exact hj) ?_
      repeat refine Rn.step rfl ?_
      refine Rn.chk rfl cc ?_
      rw [c1, c2, c3]
      repeat refine Rn.step rfl ?_
      exact Rn.ret rfl
  · rcases hu with rfl | rfl | rfl | rfl
    · repeat refine Rn.step rfl ?_
      refine Rn.calli rfl rfl rfl (by decide) (r_within (nI _) 4 _) (fun z1 f1 => ?_)
      refine Rn.br2 rfl (by rw [f1, ib_eq0]; exact fun q => q (by decide)) ?_
      repeat refine Rn.step rfl ?_
      refine Rn.calli rfl rfl rfl (by decide) (r_within (nI _) 4 _) (fun z2 f2 => ?_)
      refine Rn.br1 rfl (by rw [f2, ib_ne0]; decide) ?_
      repeat refine Rn.step rfl ?_
      refine Rn.calli rfl rfl rfl (by decide) (r_isLost hs0) (fun z3 f3 => ?_)
      refine Rn.br2 rfl (by rw [f3, ib_ne0]; exact hz) ?_
      repeat refine Rn.step rfl ?_
      refine Rn.calli rfl rfl rfl (by decide) (r_isLost hu0) (fun z4 f4 => ?_)
      refine Rn.br1 rfl (by rw [f4, ib_eq0]; exact hw) ?_
      repeat refine Rn.step rfl ?_
      first
        | refine Rn.br1 rfl hf ?_
        | skip
      repeat refine Rn.step rfl ?_
      refine Rn.calli rfl rfl rfl (by decide) (r_hasRun hs0 (nI i) (nI n)) (fun z5 f5 => ?_)
      refine Rn.br2 rfl (by rw [f5, ib_eq0]; exact fun q => q hi) ?_
      repeat refine Rn.step rfl ?_
      refine Rn.calli rfl rfl rfl (by decide) (r_hasRun hu0 (nI j) (nI n)) (fun z6 f6 => ?_)
      refine Rn.br1 rfl (by rw [f6, ib_ne0]; exact hj) ?_
      repeat refine Rn.step rfl ?_
      refine Rn.chk rfl cc ?_
      rw [c1, c2, c3]
      repeat refine Rn.step rfl ?_
      exact Rn.ret rfl
    · repeat refine Rn.step rfl ?_
      refine Rn.calli rfl rfl rfl (by decide) (r_within (nI _) 4 _) (fun z1 f1 => ?_)
      refine Rn.br2 rfl (by rw [f1, ib_eq0]; exact fun q => q (by decide)) ?_
      repeat refine Rn.step rfl ?_
      refine Rn.calli rfl rfl rfl (by decide) (r_within (nI _) 4 _) (fun z2 f2 => ?_)
      refine Rn.br1 rfl (by rw [f2, ib_ne0]; decide) ?_
      repeat refine Rn.step rfl ?_
      refine Rn.calli rfl rfl rfl (by decide) (r_isLost hs0) (fun z3 f3 => ?_)
      refine Rn.br2 rfl (by rw [f3, ib_ne0]; exact hz) ?_
      repeat refine Rn.step rfl ?_
      refine Rn.calli rfl rfl rfl (by decide) (r_isLost hu0) (fun z4 f4 => ?_)
      refine Rn.br1 rfl (by rw [f4, ib_eq0]; exact hw) ?_
      repeat refine Rn.step rfl ?_
      first
        | refine Rn.br1 rfl hf ?_
        | skip
      repeat refine Rn.step rfl ?_
      refine Rn.calli rfl rfl rfl (by decide) (r_hasRun hs0 (nI i) (nI n)) (fun z5 f5 => ?_)
      refine Rn.br2 rfl (by rw [f5, ib_eq0]; exact fun q => q hi) ?_
      repeat refine Rn.step rfl ?_
      refine Rn.calli rfl rfl rfl (by decide) (r_hasRun hu0 (nI j) (nI n)) (fun z6 f6 => ?_)
      refine Rn.br1 rfl (by rw [f6, ib_ne0]; exact hj) ?_
      repeat refine Rn.step rfl ?_
      refine Rn.chk rfl cc ?_
      rw [c1, c2, c3]
      repeat refine Rn.step rfl ?_
      exact Rn.ret rfl
    · repeat refine Rn.step rfl ?_
      refine Rn.calli rfl rfl rfl (by decide) (r_within (nI _) 4 _) (fun z1 f1 => ?_)
      refine Rn.br2 rfl (by rw [f1, ib_eq0]; exact fun q => q (by decide)) ?_
      repeat refine Rn.step rfl ?_
      refine Rn.calli rfl rfl rfl (by decide) (r_within (nI _) 4 _) (fun z2 f2 => ?_)
      refine Rn.br1 rfl (by rw [f2, ib_ne0]; decide) ?_
      repeat refine Rn.step rfl ?_
      refine Rn.calli rfl rfl rfl (by decide) (r_isLost hs0) (fun z3 f3 => ?_)
      refine Rn.br2 rfl (by rw [f3, ib_ne0]; exact hz) ?_
      repeat refine Rn.step rfl ?_
      refine Rn.calli rfl rfl rfl (by decide) (r_isLost hu0) (fun z4 f4 => ?_)
      refine Rn.br1 rfl (by rw [f4, ib_eq0]; exact hw) ?_
      repeat refine Rn.step rfl ?_
      first
        | refine Rn.br1 rfl hf ?_
        | skip
      repeat refine Rn.step rfl ?_
      refine Rn.calli rfl rfl rfl (by decide) (r_hasRun hs0 (nI i) (nI n)) (fun z5 f5 => ?_)
      refine Rn.br2 rfl (by rw [f5, ib_eq0]; exact fun q => q hi) ?_
      repeat refine Rn.step rfl ?_
      refine Rn.calli rfl rfl rfl (by decide) (r_hasRun hu0 (nI j) (nI n)) (fun z6 f6 => ?_)
      refine Rn.br1 rfl (by rw [f6, ib_ne0]; exact hj) ?_
      repeat refine Rn.step rfl ?_
      refine Rn.chk rfl cc ?_
      rw [c1, c2, c3]
      repeat refine Rn.step rfl ?_
      exact Rn.ret rfl
    · repeat refine Rn.step rfl ?_
      refine Rn.calli rfl rfl rfl (by decide) (r_within (nI _) 4 _) (fun z1 f1 => ?_)
      refine Rn.br2 rfl (by rw [f1, ib_eq0]; exact fun q => q (by decide)) ?_
      repeat refine Rn.step rfl ?_
      refine Rn.calli rfl rfl rfl (by decide) (r_within (nI _) 4 _) (fun z2 f2 => ?_)
      refine Rn.br1 rfl (by rw [f2, ib_ne0]; decide) ?_
      repeat refine Rn.step rfl ?_
      refine Rn.calli rfl rfl rfl (by decide) (r_isLost hs0) (fun z3 f3 => ?_)
      refine Rn.br2 rfl (by rw [f3, ib_ne0]; exact hz) ?_
      repeat refine Rn.step rfl ?_
      refine Rn.calli rfl rfl rfl (by decide) (r_isLost hu0) (fun z4 f4 => ?_)
      refine Rn.br1 rfl (by rw [f4, ib_eq0]; exact hw) ?_
      repeat refine Rn.step rfl ?_
      first
        | refine Rn.br1 rfl hf ?_
        | skip
      repeat refine Rn.step rfl ?_
      refine Rn.calli rfl rfl rfl (by decide) (r_hasRun hs0 (nI i) (nI n)) (fun z5 f5 => ?_)
      refine Rn.br2 rfl (by rw [f5, ib_eq0]; exact fun q => q hi) ?_
      repeat refine Rn.step rfl ?_
      refine Rn.calli rfl rfl rfl (by decide) (r_hasRun hu0 (nI j) (nI n)) (fun z6 f6 => ?_)
      refine Rn.br1 rfl (by rw [f6, ib_ne0]; exact hj) ?_
      repeat refine Rn.step rfl ?_
      refine Rn.chk rfl cc ?_
      rw [c1, c2, c3]
      repeat refine Rn.step rfl ?_
      exact Rn.ret rfl
  · rcases hu with rfl | rfl | rfl | rfl
    · repeat refine Rn.step rfl ?_
      refine Rn.calli rfl rfl rfl (by decide) (r_within (nI _) 4 _) (fun z1 f1 => ?_)
      refine Rn.br2 rfl (by rw [f1, ib_eq0]; exact fun q => q (by decide)) ?_
      repeat refine Rn.step rfl ?_
      refine Rn.calli rfl rfl rfl (by decide) (r_within (nI _) 4 _) (fun z2 f2 => ?_)
      refine Rn.br1 rfl (by rw [f2, ib_ne0]; decide) ?_
      repeat refine Rn.step rfl ?_
      refine Rn.calli rfl rfl rfl (by decide) (r_isLost hs0) (fun z3 f3 => ?_)
      refine Rn.br2 rfl (by rw [f3, ib_ne0]; exact hz) ?_
      repeat refine Rn.step rfl ?_
      refine Rn.calli rfl rfl rfl (by decide) (r_isLost hu0) (fun z4 f4 => ?_)
      refine Rn.br1 rfl (by rw [f4, ib_eq0]; exact hw) ?_
      repeat refine Rn.step rfl ?_
      first
        | refine Rn.br1 rfl hf ?_
        | skip
      repeat refine Rn.step rfl ?_
      refine Rn.calli rfl rfl rfl (by decide) (r_hasRun hs0 (nI i) (nI n)) (fun z5 f5 => ?_)
      refine Rn.br2 rfl (by rw [f5, ib_eq0]; exact fun q => q hi) ?_
      repeat refine Rn.step rfl ?_
      refine Rn.calli rfl rfl rfl (by decide) (r_hasRun hu0 (nI j) (nI n)) (fun z6 f6 => ?_)
      refine Rn.br1 rfl (by rw [f6, ib_ne0]; exact hj) ?_
      repeat refine Rn.step rfl ?_
      refine Rn.chk rfl cc ?_
      rw [c1, c2, c3]
      repeat refine Rn.step rfl ?_
      exact Rn.ret rfl
    · repeat refine Rn.step rfl ?_
      refine Rn.calli rfl rfl rfl (by decide) (r_within (nI _) 4 _) (fun z1 f1 => ?_)
      refine Rn.br2 rfl (by rw [f1, ib_eq0]; exact fun q => q (by decide)) ?_
      repeat refine Rn.step rfl ?_
      refine Rn.calli rfl rfl rfl (by decide) (r_within (nI _) 4 _) (fun z2 f2 => ?_)
      refine Rn.br1 rfl (by rw [f2, ib_ne0]; decide) ?_
      repeat refine Rn.step rfl ?_
      refine Rn.calli rfl rfl rfl (by decide) (r_isLost hs0) (fun z3 f3 => ?_)
      refine Rn.br2 rfl (by rw [f3, ib_ne0]; exact hz) ?_
      repeat refine Rn.step rfl ?_
      refine Rn.calli rfl rfl rfl (by decide) (r_isLost hu0) (fun z4 f4 => ?_)
      refine Rn.br1 rfl (by rw [f4, ib_eq0]; exact hw) ?_
      repeat refine Rn.step rfl ?_
      first
        | refine Rn.br1 rfl hf ?_
        | skip
      repeat refine Rn.step rfl ?_
      refine Rn.calli rfl rfl rfl (by decide) (r_hasRun hs0 (nI i) (nI n)) (fun z5 f5 => ?_)
      refine Rn.br2 rfl (by rw [f5, ib_eq0]; exact fun q => q hi) ?_
      repeat refine Rn.step rfl ?_
      refine Rn.calli rfl rfl rfl (by decide) (r_hasRun hu0 (nI j) (nI n)) (fun z6 f6 => ?_)
      refine Rn.br1 rfl (by rw [f6, ib_ne0]; exact hj) ?_
      repeat refine Rn.step rfl ?_
      refine Rn.chk rfl cc ?_
      rw [c1, c2, c3]
      repeat refine Rn.step rfl ?_
      exact Rn.ret rfl
    · repeat refine Rn.step rfl ?_
      refine Rn.calli rfl rfl rfl (by decide) (r_within (nI _) 4 _) (fun z1 f1 => ?_)
      refine Rn.br2 rfl (by rw [f1, ib_eq0]; exact fun q => q (by decide)) ?_
      repeat refine Rn.step rfl ?_
      refine Rn.calli rfl rfl rfl (by decide) (r_within (nI _) 4 _) (fun z2 f2 => ?_)
      refine Rn.br1 rfl (by rw [f2, ib_ne0]; decide) ?_
      repeat refine Rn.step rfl ?_
      refine Rn.calli rfl rfl rfl (by decide) (r_isLost hs0) (fun z3 f3 => ?_)
      refine Rn.br2 rfl (by rw [f3, ib_ne0]; exact hz) ?_
      repeat refine Rn.step rfl ?_
      refine Rn.calli rfl rfl rfl (by decide) (r_isLost hu0) (fun z4 f4 => ?_)
      refine Rn.br1 rfl (by rw [f4, ib_eq0]; exact hw) ?_
      repeat refine Rn.step rfl ?_
      first
        | refine Rn.br1 rfl hf ?_
        | skip
      repeat refine Rn.step rfl ?_
      refine Rn.calli rfl rfl rfl (by decide) (r_hasRun hs0 (nI i) (nI n)) (fun z5 f5 => ?_)
      refine Rn.br2 rfl (by rw [f5, ib_eq0]; exact fun q => q hi) ?_
      repeat refine Rn.step rfl ?_
      refine Rn.calli rfl rfl rfl (by decide) (r_hasRun hu0 (nI j) (nI n)) (fun z6 f6 => ?_)
      refine Rn.br1 rfl (by rw [f6, ib_ne0]; exact hj) ?_
      repeat refine Rn.step rfl ?_
      refine Rn.chk rfl cc ?_
      rw [c1, c2, c3]
      repeat refine Rn.step rfl ?_
      exact Rn.ret rfl
    · repeat refine Rn.step rfl ?_
      refine Rn.calli rfl rfl rfl (by decide) (r_within (nI _) 4 _) (fun z1 f1 => ?_)
      refine Rn.br2 rfl (by rw [f1, ib_eq0]; exact fun q => q (by decide)) ?_
      repeat refine Rn.step rfl ?_
      refine Rn.calli rfl rfl rfl (by decide) (r_within (nI _) 4 _) (fun z2 f2 => ?_)
      refine Rn.br1 rfl (by rw [f2, ib_ne0]; decide) ?_
      repeat refine Rn.step rfl ?_
      refine Rn.calli rfl rfl rfl (by decide) (r_isLost hs0) (fun z3 f3 => ?_)
      refine Rn.br2 rfl (by rw [f3, ib_ne0]; exact hz) ?_
      repeat refine Rn.step rfl ?_
      refine Rn.calli rfl rfl rfl (by decide) (r_isLost hu0) (fun z4 f4 => ?_)
      refine Rn.br1 rfl (by rw [f4, ib_eq0]; exact hw) ?_
      repeat refine Rn.step rfl ?_
      first
        | refine Rn.br1 rfl hf ?_
        | skip
      repeat refine Rn.step rfl ?_
      refine Rn.calli rfl rfl rfl (by decide) (r_hasRun hs0 (nI i) (nI n)) (fun z5 f5 => ?_)
      refine Rn.br2 rfl (by rw [f5, ib_eq0]; exact fun q => q hi) ?_
      repeat refine Rn.step rfl ?_
      refine Rn.calli rfl rfl rfl (by decide) (r_hasRun hu0 (nI j) (nI n)) (fun z6 f6 => ?_)
      refine Rn.br1 rfl (by rw [f6, ib_ne0]; exact hj) ?_
      repeat refine Rn.step rfl ?_
      refine Rn.chk rfl cc ?_
      rw [c1, c2, c3]
      repeat refine Rn.step rfl ?_
      exact Rn.ret rfl
theorem r_write_bad (x y : Int32) (hb : ¬ (inB x 24 ∧ inB y 4)) : Rn E 3 mX7_write (0, [(0, .ref 0), (1, .int x), (2, .int y)], [], wX a v t r) ((some (.int (-2))), wX a v t r) := by
  repeat refine Rn.step rfl ?_
  refine Rn.calli rfl rfl rfl (by decide) (r_within x 24 _) (fun x0 e0 => ?_)
  refine Rn.br rfl (fun h0 => ?_) (fun h0 => ?_)
  · repeat refine Rn.step rfl ?_
    exact Rn.ret rfl
  repeat refine Rn.step rfl ?_
  refine Rn.calli rfl rfl rfl (by decide) (r_within y 4 _) (fun x1 e1 => ?_)
  refine Rn.br2 rfl (fun h1 => hb (⟨ib_ne0.mp (e0 ▸ h0), ib_ne0.mp (e1 ▸ h1)⟩)) ?_
  repeat refine Rn.step rfl ?_
  exact Rn.ret rfl
theorem r_write_null {s : Nat} (hs : s = 0 ∨ s = 1 ∨ s = 2 ∨ s = 3) {m : Nat} (hm : m < 24) (hz : v (18 + s) = -1) : Rn E 3 mX7_write (0, [(0, .ref 0), (1, .int (nI m)), (2, .int (nI s))], [], wX a v t r) (some (.int (-11)), wX a (upd v 0 1) t r) := by
  have hs0 := hs
  rcases hs with rfl | rfl | rfl | rfl
  · repeat refine Rn.step rfl ?_
    refine Rn.calli rfl rfl rfl (by decide) (r_within (nI m) 24 _) (fun z1 f1 => ?_)
    refine Rn.br2 rfl (by rw [f1, ib_eq0]; exact fun q => q (inB_nI (n := 24) hm (by decide))) ?_
    repeat refine Rn.step rfl ?_
    refine Rn.calli rfl rfl rfl (by decide) (r_within (nI _) 4 _) (fun z2 f2 => ?_)
    refine Rn.br1 rfl (by rw [f2, ib_ne0]; decide) ?_
    repeat refine Rn.step rfl ?_
    refine Rn.calli rfl rfl rfl (by decide) (r_isLost hs0) (fun z3 f3 => ?_)
    refine Rn.br2 rfl (by rw [f3, ib_eq0]; exact fun q => q hz) ?_
    repeat refine Rn.step rfl ?_
    refine Rn.calli rfl rfl rfl (by decide) (r_found 1) (fun z9 f9 => ?_)
    subst f9
    exact Rn.ret rfl
  · repeat refine Rn.step rfl ?_
    refine Rn.calli rfl rfl rfl (by decide) (r_within (nI m) 24 _) (fun z1 f1 => ?_)
    refine Rn.br2 rfl (by rw [f1, ib_eq0]; exact fun q => q (inB_nI (n := 24) hm (by decide))) ?_
    repeat refine Rn.step rfl ?_
    refine Rn.calli rfl rfl rfl (by decide) (r_within (nI _) 4 _) (fun z2 f2 => ?_)
    refine Rn.br1 rfl (by rw [f2, ib_ne0]; decide) ?_
    repeat refine Rn.step rfl ?_
    refine Rn.calli rfl rfl rfl (by decide) (r_isLost hs0) (fun z3 f3 => ?_)
    refine Rn.br2 rfl (by rw [f3, ib_eq0]; exact fun q => q hz) ?_
    repeat refine Rn.step rfl ?_
    refine Rn.calli rfl rfl rfl (by decide) (r_found 1) (fun z9 f9 => ?_)
    subst f9
    exact Rn.ret rfl
  · repeat refine Rn.step rfl ?_
    refine Rn.calli rfl rfl rfl (by decide) (r_within (nI m) 24 _) (fun z1 f1 => ?_)
    refine Rn.br2 rfl (by rw [f1, ib_eq0]; exact fun q => q (inB_nI (n := 24) hm (by decide))) ?_
    repeat refine Rn.step rfl ?_
    refine Rn.calli rfl rfl rfl (by decide) (r_within (nI _) 4 _) (fun z2 f2 => ?_)
    refine Rn.br1 rfl (by rw [f2, ib_ne0]; decide) ?_
    repeat refine Rn.step rfl ?_
    refine Rn.calli rfl rfl rfl (by decide) (r_isLost hs0) (fun z3 f3 => ?_)
    refine Rn.br2 rfl (by rw [f3, ib_eq0]; exact fun q => q hz) ?_
    repeat refine Rn.step rfl ?_
    refine Rn.calli rfl rfl rfl (by decide) (r_found 1) (fun z9 f9 => ?_)
    subst f9
    exact Rn.ret rfl
  · repeat refine Rn.step rfl ?_
    refine Rn.calli rfl rfl rfl (by decide) (r_within (nI m) 24 _) (fun z1 f1 => ?_)
    refine Rn.br2 rfl (by rw [f1, ib_eq0]; exact fun q => q (inB_nI (n := 24) hm (by decide))) ?_
    repeat refine Rn.step rfl ?_
    refine Rn.calli rfl rfl rfl (by decide) (r_within (nI _) 4 _) (fun z2 f2 => ?_)
    refine Rn.br1 rfl (by rw [f2, ib_ne0]; decide) ?_
    repeat refine Rn.step rfl ?_
    refine Rn.calli rfl rfl rfl (by decide) (r_isLost hs0) (fun z3 f3 => ?_)
    refine Rn.br2 rfl (by rw [f3, ib_eq0]; exact fun q => q hz) ?_
    repeat refine Rn.step rfl ?_
    refine Rn.calli rfl rfl rfl (by decide) (r_found 1) (fun z9 f9 => ?_)
    subst f9
    exact Rn.ret rfl
/-- what write lays -/
def wrF (fm : Int32) (W : Nat → Int32) (m c : Nat) (g : Nat → Int32) : Nat → Int32 := lp (fun i g => upd g i (cutF fm (W (m * 16 + i)))) 0 c g
theorem mn16 (z : Nat) (hz : z ≤ 60) : (if (16 : Int32) < nI z then 16 else nI z) = nI (min z 16) := by
  show (if nI 16 < nI z then nI 16 else nI z) = _
  rcases Nat.lt_or_ge 16 z with h | h
  · rw [if_pos (nI_lt h (by omega)), Nat.min_eq_right (by omega)]
  · rw [if_neg (Int32.not_lt.mpr (nI_le h (by omega))), Nat.min_eq_left h]
theorem r_write {n k q : Nat} {mn sm : Nat → Nat} (hW : WfX a v n k q mn sm) (hS : SetX a v mn k n) {s : Nat} (hs : s = 0 ∨ s = 1 ∨ s = 2 ∨ s = 3) {m z : Nat} (hm : m < 24) (hz : v (18 + s) = nI z) (hz2 : z ≤ 60) : ∃ (a2 : Nat → Nat → Int32) (v2 : Nat → Int32), Rn E 3 mX7_write (0, [(0, .ref 0), (1, .int (nI m)), (2, .int (nI s))], [], wX a v t r) (some (.int (nI (min z 16))), wX (va_up a2 (shI s) (wrF (v (14 + s)) (cW a mn k) m (min z 16) (a (shI s)))) v2 t r) ∧ eqT a v a2 v2 ∧ v2 1 = 1 ∧ ValX a2 mn k n := by
  have hs0 := hs
  obtain ⟨a', v', hr, he, h1, hV⟩ := r_settle (E := E) (t := t) (r := r) hW hS
  refine ⟨a', v', ?_, he, h1, hV⟩
  have hV1 := hV.1
  rw [cW_eq he] at hV1
  have hne : ¬ v (18 + s) = -1 := by rw [hz]; exact nI_ne1 (by omega)
  have e18 : v' (18 + s) = nI z := by
    rw [← hz]; rcases hs with rfl | rfl | rfl | rfl <;> exact he.2 _ (by decide)
  have e14 : v' (14 + s) = v (14 + s) := by
    rcases hs with rfl | rfl | rfl | rfl <;> exact he.2 _ (by decide)
  have e46 : a' (shI s) = a (shI s) := by
    rcases hs with rfl | rfl | rfl | rfl <;> exact he.1 _ (by decide)
  rw [← e14, ← e46]
  have hc : min z 16 ≤ 16 := Nat.min_le_right _ _
  have hmn := mn16 z hz2
  obtain ⟨c, hcc⟩ : ∃ c, c = min z 16 := ⟨_, rfl⟩
  rw [← hcc] at hc hmn ⊢
  clear hz
  rcases hs with rfl | rfl | rfl | rfl
  · repeat refine Rn.step rfl ?_
    refine Rn.calli rfl rfl rfl (by decide) (r_within (nI m) 24 _) (fun z1 f1 => ?_)
    refine Rn.br2 rfl (by rw [f1, ib_eq0]; exact fun q => q (inB_nI (n := 24) hm (by decide))) ?_
    repeat refine Rn.step rfl ?_
    refine Rn.calli rfl rfl rfl (by decide) (r_within (nI _) 4 _) (fun z2 f2 => ?_)
    refine Rn.br1 rfl (by rw [f2, ib_ne0]; decide) ?_
    repeat refine Rn.step rfl ?_
    refine Rn.calli rfl rfl rfl (by decide) (r_isLost hs0) (fun z3 f3 => ?_)
    refine Rn.br1 rfl (by rw [f3, ib_eq0]; exact hne) ?_
    repeat refine Rn.step rfl ?_
    refine Rn.callv rfl rfl rfl (by decide) hr ?_
    iterate 5 refine Rn.step rfl ?_
    refine Rn.top e18 ?_
    iterate 2 refine Rn.step rfl ?_
    refine Rn.top hmn ?_
    iterate 3 refine Rn.step rfl ?_
    refine Rn.lp (σ := Nat → Int32) (cfg := fun i g => (60, [(4, .int (nI i)), (3, .int (nI c)), (0, .ref 0), (1, .int (nI m)), (2, .int (nI 0))], [], wX (va_up a' (shI 0) g) v' t r)) (f := fun i g => upd g i (cutF (v' (14 + 0)) (cW a mn k (m * 16 + i)))) (n := c) (fun _ _ => True) (fun i g hi _ => ⟨trivial, fun kk => ?_⟩) c 0 (a' (shI 0)) (by omega) trivial (fun g0 hg0 _ => ?_)
    · rw [nI_succ] at kk
      iterate 2 refine Rn.step rfl ?_
      refine Rn.br2 rfl (nle hi (by omega)) ?_
      repeat refine Rn.step rfl ?_
      refine Rn.ald (m * 16 + i) rfl (ix_ma m 16 i) (by omega) (by decide) ?_
      refine Rn.top (hV1 _ (by omega)) ?_
      refine Rn.callv rfl rfl rfl (by decide) (r_put hs0 (by omega) _) ?_
      refine Rn.hp (h2 := wX (va_up a' (shI 0) (upd g i (cutF (v' (14 + 0)) (cW a mn k (m * 16 + i))))) v' t r) rfl ?_
      iterate 2 refine Rn.step rfl ?_
      exact Rn.sub (by exact ⟨rfl, rfl, rfl, rfl, rfl, trivial⟩) kk
    · rw [show wrF (v' (14 + 0)) (cW a mn k) m c (a' (shI 0)) = g0 from hg0.symm]
      iterate 2 refine Rn.step rfl ?_
      refine Rn.br1 rfl (nI_le (by omega) (by omega)) ?_
      repeat refine Rn.step rfl ?_
      exact Rn.ret rfl
  · repeat refine Rn.step rfl ?_
    refine Rn.calli rfl rfl rfl (by decide) (r_within (nI m) 24 _) (fun z1 f1 => ?_)
    refine Rn.br2 rfl (by rw [f1, ib_eq0]; exact fun q => q (inB_nI (n := 24) hm (by decide))) ?_
    repeat refine Rn.step rfl ?_
    refine Rn.calli rfl rfl rfl (by decide) (r_within (nI _) 4 _) (fun z2 f2 => ?_)
    refine Rn.br1 rfl (by rw [f2, ib_ne0]; decide) ?_
    repeat refine Rn.step rfl ?_
    refine Rn.calli rfl rfl rfl (by decide) (r_isLost hs0) (fun z3 f3 => ?_)
    refine Rn.br1 rfl (by rw [f3, ib_eq0]; exact hne) ?_
    repeat refine Rn.step rfl ?_
    refine Rn.callv rfl rfl rfl (by decide) hr ?_
    iterate 5 refine Rn.step rfl ?_
    refine Rn.top e18 ?_
    iterate 2 refine Rn.step rfl ?_
    refine Rn.top hmn ?_
    iterate 3 refine Rn.step rfl ?_
    refine Rn.lp (σ := Nat → Int32) (cfg := fun i g => (60, [(4, .int (nI i)), (3, .int (nI c)), (0, .ref 0), (1, .int (nI m)), (2, .int (nI 1))], [], wX (va_up a' (shI 1) g) v' t r)) (f := fun i g => upd g i (cutF (v' (14 + 1)) (cW a mn k (m * 16 + i)))) (n := c) (fun _ _ => True) (fun i g hi _ => ⟨trivial, fun kk => ?_⟩) c 0 (a' (shI 1)) (by omega) trivial (fun g0 hg0 _ => ?_)
    · rw [nI_succ] at kk
      iterate 2 refine Rn.step rfl ?_
      refine Rn.br2 rfl (nle hi (by omega)) ?_
      repeat refine Rn.step rfl ?_
      refine Rn.ald (m * 16 + i) rfl (ix_ma m 16 i) (by omega) (by decide) ?_
      refine Rn.top (hV1 _ (by omega)) ?_
      refine Rn.callv rfl rfl rfl (by decide) (r_put hs0 (by omega) _) ?_
      refine Rn.hp (h2 := wX (va_up a' (shI 1) (upd g i (cutF (v' (14 + 1)) (cW a mn k (m * 16 + i))))) v' t r) rfl ?_
      iterate 2 refine Rn.step rfl ?_
      exact Rn.sub (by exact ⟨rfl, rfl, rfl, rfl, rfl, trivial⟩) kk
    · rw [show wrF (v' (14 + 1)) (cW a mn k) m c (a' (shI 1)) = g0 from hg0.symm]
      iterate 2 refine Rn.step rfl ?_
      refine Rn.br1 rfl (nI_le (by omega) (by omega)) ?_
      repeat refine Rn.step rfl ?_
      exact Rn.ret rfl
  · repeat refine Rn.step rfl ?_
    refine Rn.calli rfl rfl rfl (by decide) (r_within (nI m) 24 _) (fun z1 f1 => ?_)
    refine Rn.br2 rfl (by rw [f1, ib_eq0]; exact fun q => q (inB_nI (n := 24) hm (by decide))) ?_
    repeat refine Rn.step rfl ?_
    refine Rn.calli rfl rfl rfl (by decide) (r_within (nI _) 4 _) (fun z2 f2 => ?_)
    refine Rn.br1 rfl (by rw [f2, ib_ne0]; decide) ?_
    repeat refine Rn.step rfl ?_
    refine Rn.calli rfl rfl rfl (by decide) (r_isLost hs0) (fun z3 f3 => ?_)
    refine Rn.br1 rfl (by rw [f3, ib_eq0]; exact hne) ?_
    repeat refine Rn.step rfl ?_
    refine Rn.callv rfl rfl rfl (by decide) hr ?_
    iterate 5 refine Rn.step rfl ?_
    refine Rn.top e18 ?_
    iterate 2 refine Rn.step rfl ?_
    refine Rn.top hmn ?_
    iterate 3 refine Rn.step rfl ?_
    refine Rn.lp (σ := Nat → Int32) (cfg := fun i g => (60, [(4, .int (nI i)), (3, .int (nI c)), (0, .ref 0), (1, .int (nI m)), (2, .int (nI 2))], [], wX (va_up a' (shI 2) g) v' t r)) (f := fun i g => upd g i (cutF (v' (14 + 2)) (cW a mn k (m * 16 + i)))) (n := c) (fun _ _ => True) (fun i g hi _ => ⟨trivial, fun kk => ?_⟩) c 0 (a' (shI 2)) (by omega) trivial (fun g0 hg0 _ => ?_)
    · rw [nI_succ] at kk
      iterate 2 refine Rn.step rfl ?_
      refine Rn.br2 rfl (nle hi (by omega)) ?_
      repeat refine Rn.step rfl ?_
      refine Rn.ald (m * 16 + i) rfl (ix_ma m 16 i) (by omega) (by decide) ?_
      refine Rn.top (hV1 _ (by omega)) ?_
      refine Rn.callv rfl rfl rfl (by decide) (r_put hs0 (by omega) _) ?_
      refine Rn.hp (h2 := wX (va_up a' (shI 2) (upd g i (cutF (v' (14 + 2)) (cW a mn k (m * 16 + i))))) v' t r) rfl ?_
      iterate 2 refine Rn.step rfl ?_
      exact Rn.sub (by exact ⟨rfl, rfl, rfl, rfl, rfl, trivial⟩) kk
    · rw [show wrF (v' (14 + 2)) (cW a mn k) m c (a' (shI 2)) = g0 from hg0.symm]
      iterate 2 refine Rn.step rfl ?_
      refine Rn.br1 rfl (nI_le (by omega) (by omega)) ?_
      repeat refine Rn.step rfl ?_
      exact Rn.ret rfl
  · repeat refine Rn.step rfl ?_
    refine Rn.calli rfl rfl rfl (by decide) (r_within (nI m) 24 _) (fun z1 f1 => ?_)
    refine Rn.br2 rfl (by rw [f1, ib_eq0]; exact fun q => q (inB_nI (n := 24) hm (by decide))) ?_
    repeat refine Rn.step rfl ?_
    refine Rn.calli rfl rfl rfl (by decide) (r_within (nI _) 4 _) (fun z2 f2 => ?_)
    refine Rn.br1 rfl (by rw [f2, ib_ne0]; decide) ?_
    repeat refine Rn.step rfl ?_
    refine Rn.calli rfl rfl rfl (by decide) (r_isLost hs0) (fun z3 f3 => ?_)
    refine Rn.br1 rfl (by rw [f3, ib_eq0]; exact hne) ?_
    repeat refine Rn.step rfl ?_
    refine Rn.callv rfl rfl rfl (by decide) hr ?_
    iterate 5 refine Rn.step rfl ?_
    refine Rn.top e18 ?_
    iterate 2 refine Rn.step rfl ?_
    refine Rn.top hmn ?_
    iterate 3 refine Rn.step rfl ?_
    refine Rn.lp (σ := Nat → Int32) (cfg := fun i g => (60, [(4, .int (nI i)), (3, .int (nI c)), (0, .ref 0), (1, .int (nI m)), (2, .int (nI 3))], [], wX (va_up a' (shI 3) g) v' t r)) (f := fun i g => upd g i (cutF (v' (14 + 3)) (cW a mn k (m * 16 + i)))) (n := c) (fun _ _ => True) (fun i g hi _ => ⟨trivial, fun kk => ?_⟩) c 0 (a' (shI 3)) (by omega) trivial (fun g0 hg0 _ => ?_)
    · rw [nI_succ] at kk
      iterate 2 refine Rn.step rfl ?_
      refine Rn.br2 rfl (nle hi (by omega)) ?_
      repeat refine Rn.step rfl ?_
      refine Rn.ald (m * 16 + i) rfl (ix_ma m 16 i) (by omega) (by decide) ?_
      refine Rn.top (hV1 _ (by omega)) ?_
      refine Rn.callv rfl rfl rfl (by decide) (r_put hs0 (by omega) _) ?_
      refine Rn.hp (h2 := wX (va_up a' (shI 3) (upd g i (cutF (v' (14 + 3)) (cW a mn k (m * 16 + i))))) v' t r) rfl ?_
      iterate 2 refine Rn.step rfl ?_
      exact Rn.sub (by exact ⟨rfl, rfl, rfl, rfl, rfl, trivial⟩) kk
    · rw [show wrF (v' (14 + 3)) (cW a mn k) m c (a' (shI 3)) = g0 from hg0.symm]
      iterate 2 refine Rn.step rfl ?_
      refine Rn.br1 rfl (nI_le (by omega) (by omega)) ?_
      repeat refine Rn.step rfl ?_
      exact Rn.ret rfl
theorem r_read_bad (x : Int32) (hb : ¬ (inB x 4)) : Rn E 2 mX7_read (0, [(0, .ref 0), (1, .int x)], [], wX a v t r) ((some (.int (-2))), wX a v t r) := by
  repeat refine Rn.step rfl ?_
  refine Rn.calli rfl rfl rfl (by decide) (r_within x 4 _) (fun x0 e0 => ?_)
  refine Rn.br2 rfl (fun h0 => hb (ib_ne0.mp (e0 ▸ h0))) ?_
  repeat refine Rn.step rfl ?_
  exact Rn.ret rfl
theorem r_read_null {s : Nat} (hs : s = 0 ∨ s = 1 ∨ s = 2 ∨ s = 3) (hz : v (18 + s) = -1) : Rn E 2 mX7_read (0, [(0, .ref 0), (1, .int (nI s))], [], wX a v t r) (some (.int (-11)), wX a (upd v 0 1) t r) := by
  have hs0 := hs
  rcases hs with rfl | rfl | rfl | rfl
  · repeat refine Rn.step rfl ?_
    refine Rn.calli rfl rfl rfl (by decide) (r_within (nI _) 4 _) (fun z1 f1 => ?_)
    refine Rn.br1 rfl (by rw [f1, ib_ne0]; decide) ?_
    repeat refine Rn.step rfl ?_
    refine Rn.calli rfl rfl rfl (by decide) (r_isLost hs0) (fun z3 f3 => ?_)
    refine Rn.br2 rfl (by rw [f3, ib_eq0]; exact fun q => q hz) ?_
    repeat refine Rn.step rfl ?_
    refine Rn.calli rfl rfl rfl (by decide) (r_found 1) (fun z9 f9 => ?_)
    subst f9
    exact Rn.ret rfl
  · repeat refine Rn.step rfl ?_
    refine Rn.calli rfl rfl rfl (by decide) (r_within (nI _) 4 _) (fun z1 f1 => ?_)
    refine Rn.br1 rfl (by rw [f1, ib_ne0]; decide) ?_
    repeat refine Rn.step rfl ?_
    refine Rn.calli rfl rfl rfl (by decide) (r_isLost hs0) (fun z3 f3 => ?_)
    refine Rn.br2 rfl (by rw [f3, ib_eq0]; exact fun q => q hz) ?_
    repeat refine Rn.step rfl ?_
    refine Rn.calli rfl rfl rfl (by decide) (r_found 1) (fun z9 f9 => ?_)
    subst f9
    exact Rn.ret rfl
  · repeat refine Rn.step rfl ?_
    refine Rn.calli rfl rfl rfl (by decide) (r_within (nI _) 4 _) (fun z1 f1 => ?_)
    refine Rn.br1 rfl (by rw [f1, ib_ne0]; decide) ?_
    repeat refine Rn.step rfl ?_
    refine Rn.calli rfl rfl rfl (by decide) (r_isLost hs0) (fun z3 f3 => ?_)
    refine Rn.br2 rfl (by rw [f3, ib_eq0]; exact fun q => q hz) ?_
    repeat refine Rn.step rfl ?_
    refine Rn.calli rfl rfl rfl (by decide) (r_found 1) (fun z9 f9 => ?_)
    subst f9
    exact Rn.ret rfl
  · repeat refine Rn.step rfl ?_
    refine Rn.calli rfl rfl rfl (by decide) (r_within (nI _) 4 _) (fun z1 f1 => ?_)
    refine Rn.br1 rfl (by rw [f1, ib_ne0]; decide) ?_
    repeat refine Rn.step rfl ?_
    refine Rn.calli rfl rfl rfl (by decide) (r_isLost hs0) (fun z3 f3 => ?_)
    refine Rn.br2 rfl (by rw [f3, ib_eq0]; exact fun q => q hz) ?_
    repeat refine Rn.step rfl ?_
    refine Rn.calli rfl rfl rfl (by decide) (r_found 1) (fun z9 f9 => ?_)
    subst f9
    exact Rn.ret rfl
/-- what read brings: of row g from the c-th three on -/
abbrev rdP (g : Nat → Int32) (c k : Nat) : Prop := (inB (g (3 * c)) 3 ∧ inB (g (3 * c + 1)) 24 ∧ inB (g (3 * c + 2)) 16) ∧ k < 8
def rdF (g : Nat → Int32) : Nat → Nat → tl3 → Nat → tl3 × Nat × Nat
  | 0, c, s, k => (s, k, c)
  | j + 1, c, s, k => if rdP g c k then rdF g j (c + 1) (upd s.1 k (g (3 * c)), upd s.2.1 k (g (3 * c + 1)), upd s.2.2 k (g (3 * c + 2))) (k + 1) else (s, k, c)
abbrev w3e (a : Nat → Nat → Int32) (s : tl3) : Nat → Nat → Int32 := va_up (va_up (va_up a 10 s.1) 11 s.2.1) 12 s.2.2
theorem ix3 (c d : Nat) : nI (3 * c) + nI d = nI (3 * c + d) := nI_add _ _
theorem r_read0 {z k : Nat} (hz : v 18 = nI z) (hz2 : z ≤ 60) (hk : k ≤ 8) (hv5 : v 5 = nI k) : Rn E 2 mX7_read (0, [(0, .ref 0), (1, .int 0)], [], wX a v t r) (some (.int (nI (rdF (a 46) (z / 3) 0 (a 10, a 11, a 12) k).2.2)), wX (w3e a (rdF (a 46) (z / 3) 0 (a 10, a 11, a 12) k).1) (upd (upd v 5 (nI (rdF (a 46) (z / 3) 0 (a 10, a 11, a 12) k).2.1)) 1 0) t r) := by
  have key : ∀ (j c : Nat) (x : tl3) (k : Nat), c + j = z / 3 → k ≤ 8 → Rn E 2 mX7_read (36, [(4, .int (nI (3 * c))), (3, .int (nI c)), (2, .ref 45), (0, .ref 0), (1, .int 0)], [], wX (w3e a x) (upd v 5 (nI k)) t r) (some (.int (nI (rdF (a 46) j c x k).2.2)), wX (w3e a (rdF (a 46) j c x k).1) (upd (upd v 5 (nI (rdF (a 46) j c x k).2.1)) 1 0) t r) := by
    intro j
    induction j with
    | zero =>
      intro c x k hc hk
      iterate 2 refine Rn.step rfl ?_
      refine Rn.step rfl ?_
      refine Rn.top (x' := nI (3 * c + 2)) (ix3 c 2) ?_
      iterate 2 refine Rn.step rfl ?_
      refine Rn.br1 rfl (by show v 18 ≤ _; rw [hz]; exact nI_le (by omega) (by omega)) ?_
      repeat refine Rn.step rfl ?_
      refine Rn.callv rfl rfl rfl (by decide) r_unsettle ?_
      repeat refine Rn.step rfl ?_
      exact Rn.ret rfl
    | succ j ih =>
      intro c x k hc hk
      have hend : ∀ L, iSb [(3, .int (nI c)), (0, .ref 0)] L → Rn E 2 mX7_read (119, L, [], wX (w3e a x) (upd v 5 (nI k)) t r) (some (.int (nI c)), wX (w3e a x) (upd (upd v 5 (nI k)) 1 0) t r) := by
        intro L hL
        refine Rn.sub hL ?_
        repeat refine Rn.step rfl ?_
        refine Rn.callv rfl rfl rfl (by decide) r_unsettle ?_
        repeat refine Rn.step rfl ?_
        exact Rn.ret rfl
      unfold rdF
      iterate 3 refine Rn.step rfl ?_
      refine Rn.top (x' := nI (3 * c + 2)) (ix3 c 2) ?_
      iterate 2 refine Rn.step rfl ?_
      refine Rn.br2 rfl (by show ¬ v 18 ≤ _; rw [hz]; exact nle (by omega) (by omega)) ?_
      repeat refine Rn.step rfl ?_
      refine Rn.ald (3 * c) rfl rfl (by omega) (by decide) ?_
      repeat refine Rn.step rfl ?_
      refine Rn.ald (3 * c + 1) rfl (ix3 c 1) (by omega) (by decide) ?_
      repeat refine Rn.step rfl ?_
      refine Rn.ald (3 * c + 2) rfl (ix3 c 2) (by omega) (by decide) ?_
      refine Rn.calli rfl rfl rfl (by decide) (r_mayBe _ _ _ _) (fun z1 f1 => ?_)
      have f1 : z1 = ib (inB (a 46 (3 * c)) 3 ∧ inB (a 46 (3 * c + 1)) 24 ∧ inB (a 46 (3 * c + 2)) 16) := f1
      refine Rn.br rfl (fun h1 => ?_) (fun h1 => ?_)
      · rw [f1, ib_eq0] at h1
        rw [if_neg (fun q => h1 q.1)]
        exact hend _ ⟨rfl, rfl, trivial⟩
      · rw [f1, ib_ne0] at h1
        repeat refine Rn.step rfl ?_
        refine Rn.ald (3 * c) rfl rfl (by omega) (by decide) ?_
        repeat refine Rn.step rfl ?_
        refine Rn.ald (3 * c + 1) rfl (ix3 c 1) (by omega) (by decide) ?_
        repeat refine Rn.step rfl ?_
        refine Rn.ald (3 * c + 2) rfl (ix3 c 2) (by omega) (by decide) ?_
        by_cases h8 : k < 8
        · rw [if_pos ⟨h1, h8⟩]
          refine Rn.calli rfl rfl rfl (by decide) (r_evAppend _ _ _ h8 rfl) (fun z2 f2 => ?_)
          subst f2
          iterate 4 refine Rn.step rfl ?_
          have ih := ih (c + 1) (upd x.1 k (a 46 (3 * c)), upd x.2.1 k (a 46 (3 * c + 1)), upd x.2.2 k (a 46 (3 * c + 2))) (k + 1) (by omega) (by omega)
          rw [show nI (3 * (c + 1)) = nI (3 * c) + 3 from (nI_add (3 * c) 3).symm, nI_succ c] at ih
          refine Rn.hp (h2 := wX (w3e a (upd x.1 k (a 46 (3 * c)), upd x.2.1 k (a 46 (3 * c + 1)), upd x.2.2 k (a 46 (3 * c + 2)))) (upd v 5 (nI (k + 1))) t r) rfl ?_
          exact Rn.sub (by exact ⟨rfl, rfl, rfl, rfl, rfl, trivial⟩) ih
        · obtain rfl : k = 8 := by omega
          rw [if_neg (fun q => h8 q.2)]
          refine Rn.calli rfl rfl rfl (by decide) (r_evFull _ _ _ rfl) (fun z2 f2 => ?_)
          subst f2
          iterate 2 refine Rn.step rfl ?_
          exact hend _ ⟨rfl, rfl, trivial⟩
  have k0 := key (z / 3) 0 (a 10, a 11, a 12) k (by omega) hk
  rw [show upd v 5 (nI k) = v by rw [← hv5, upd_self]] at k0
  repeat refine Rn.step rfl ?_
  refine Rn.calli rfl rfl rfl (by decide) (r_within 0 4 _) (fun z1 f1 => ?_)
  refine Rn.br1 rfl (by rw [f1, ib_ne0]; decide) ?_
  repeat refine Rn.step rfl ?_
  refine Rn.calli rfl rfl rfl (by decide) (r_isLost (s := 0) (by decide)) (fun z3 f3 => ?_)
  refine Rn.br1 rfl (by rw [f3, ib_eq0]; show ¬ v 18 = -1; rw [hz]; exact nI_ne1 (by omega)) ?_
  iterate 4 refine Rn.step rfl ?_
  exact k0
theorem r_read1 {z k : Nat} (hz : v 19 = nI z) (hz2 : z ≤ 60) (hk : k ≤ 8) (hv5 : v 5 = nI k) : Rn E 2 mX7_read (0, [(0, .ref 0), (1, .int 1)], [], wX a v t r) (some (.int (nI (rdF (a 48) (z / 3) 0 (a 10, a 11, a 12) k).2.2)), wX (w3e a (rdF (a 48) (z / 3) 0 (a 10, a 11, a 12) k).1) (upd (upd v 5 (nI (rdF (a 48) (z / 3) 0 (a 10, a 11, a 12) k).2.1)) 1 0) t r) := by
  have key : ∀ (j c : Nat) (x : tl3) (k : Nat), c + j = z / 3 → k ≤ 8 → Rn E 2 mX7_read (36, [(4, .int (nI (3 * c))), (3, .int (nI c)), (2, .ref 47), (0, .ref 0), (1, .int 1)], [], wX (w3e a x) (upd v 5 (nI k)) t r) (some (.int (nI (rdF (a 48) j c x k).2.2)), wX (w3e a (rdF (a 48) j c x k).1) (upd (upd v 5 (nI (rdF (a 48) j c x k).2.1)) 1 0) t r) := by
    intro j
    induction j with
    | zero =>
      intro c x k hc hk
      iterate 2 refine Rn.step rfl ?_
      refine Rn.step rfl ?_
      refine Rn.top (x' := nI (3 * c + 2)) (ix3 c 2) ?_
      iterate 2 refine Rn.step rfl ?_
      refine Rn.br1 rfl (by show v 19 ≤ _; rw [hz]; exact nI_le (by omega) (by omega)) ?_
      repeat refine Rn.step rfl ?_
      refine Rn.callv rfl rfl rfl (by decide) r_unsettle ?_
      repeat refine Rn.step rfl ?_
      exact Rn.ret rfl
    | succ j ih =>
      intro c x k hc hk
      have hend : ∀ L, iSb [(3, .int (nI c)), (0, .ref 0)] L → Rn E 2 mX7_read (119, L, [], wX (w3e a x) (upd v 5 (nI k)) t r) (some (.int (nI c)), wX (w3e a x) (upd (upd v 5 (nI k)) 1 0) t r) := by
        intro L hL
        refine Rn.sub hL ?_
        repeat refine Rn.step rfl ?_
        refine Rn.callv rfl rfl rfl (by decide) r_unsettle ?_
        repeat refine Rn.step rfl ?_
        exact Rn.ret rfl
      unfold rdF
      iterate 3 refine Rn.step rfl ?_
      refine Rn.top (x' := nI (3 * c + 2)) (ix3 c 2) ?_
      iterate 2 refine Rn.step rfl ?_
      refine Rn.br2 rfl (by show ¬ v 19 ≤ _; rw [hz]; exact nle (by omega) (by omega)) ?_
      repeat refine Rn.step rfl ?_
      refine Rn.ald (3 * c) rfl rfl (by omega) (by decide) ?_
      repeat refine Rn.step rfl ?_
      refine Rn.ald (3 * c + 1) rfl (ix3 c 1) (by omega) (by decide) ?_
      repeat refine Rn.step rfl ?_
      refine Rn.ald (3 * c + 2) rfl (ix3 c 2) (by omega) (by decide) ?_
      refine Rn.calli rfl rfl rfl (by decide) (r_mayBe _ _ _ _) (fun z1 f1 => ?_)
      have f1 : z1 = ib (inB (a 48 (3 * c)) 3 ∧ inB (a 48 (3 * c + 1)) 24 ∧ inB (a 48 (3 * c + 2)) 16) := f1
      refine Rn.br rfl (fun h1 => ?_) (fun h1 => ?_)
      · rw [f1, ib_eq0] at h1
        rw [if_neg (fun q => h1 q.1)]
        exact hend _ ⟨rfl, rfl, trivial⟩
      · rw [f1, ib_ne0] at h1
        repeat refine Rn.step rfl ?_
        refine Rn.ald (3 * c) rfl rfl (by omega) (by decide) ?_
        repeat refine Rn.step rfl ?_
        refine Rn.ald (3 * c + 1) rfl (ix3 c 1) (by omega) (by decide) ?_
        repeat refine Rn.step rfl ?_
        refine Rn.ald (3 * c + 2) rfl (ix3 c 2) (by omega) (by decide) ?_
        by_cases h8 : k < 8
        · rw [if_pos ⟨h1, h8⟩]
          refine Rn.calli rfl rfl rfl (by decide) (r_evAppend _ _ _ h8 rfl) (fun z2 f2 => ?_)
          subst f2
          iterate 4 refine Rn.step rfl ?_
          have ih := ih (c + 1) (upd x.1 k (a 48 (3 * c)), upd x.2.1 k (a 48 (3 * c + 1)), upd x.2.2 k (a 48 (3 * c + 2))) (k + 1) (by omega) (by omega)
          rw [show nI (3 * (c + 1)) = nI (3 * c) + 3 from (nI_add (3 * c) 3).symm, nI_succ c] at ih
          refine Rn.hp (h2 := wX (w3e a (upd x.1 k (a 48 (3 * c)), upd x.2.1 k (a 48 (3 * c + 1)), upd x.2.2 k (a 48 (3 * c + 2)))) (upd v 5 (nI (k + 1))) t r) rfl ?_
          exact Rn.sub (by exact ⟨rfl, rfl, rfl, rfl, rfl, trivial⟩) ih
        · obtain rfl : k = 8 := by omega
          rw [if_neg (fun q => h8 q.2)]
          refine Rn.calli rfl rfl rfl (by decide) (r_evFull _ _ _ rfl) (fun z2 f2 => ?_)
          subst f2
          iterate 2 refine Rn.step rfl ?_
          exact hend _ ⟨rfl, rfl, trivial⟩
  have k0 := key (z / 3) 0 (a 10, a 11, a 12) k (by omega) hk
  rw [show upd v 5 (nI k) = v by rw [← hv5, upd_self]] at k0
  repeat refine Rn.step rfl ?_
  refine Rn.calli rfl rfl rfl (by decide) (r_within 1 4 _) (fun z1 f1 => ?_)
  refine Rn.br1 rfl (by rw [f1, ib_ne0]; decide) ?_
  repeat refine Rn.step rfl ?_
  refine Rn.calli rfl rfl rfl (by decide) (r_isLost (s := 1) (by decide)) (fun z3 f3 => ?_)
  refine Rn.br1 rfl (by rw [f3, ib_eq0]; show ¬ v 19 = -1; rw [hz]; exact nI_ne1 (by omega)) ?_
  iterate 4 refine Rn.step rfl ?_
  exact k0
theorem r_read2 {z k : Nat} (hz : v 20 = nI z) (hz2 : z ≤ 60) (hk : k ≤ 8) (hv5 : v 5 = nI k) : Rn E 2 mX7_read (0, [(0, .ref 0), (1, .int 2)], [], wX a v t r) (some (.int (nI (rdF (a 50) (z / 3) 0 (a 10, a 11, a 12) k).2.2)), wX (w3e a (rdF (a 50) (z / 3) 0 (a 10, a 11, a 12) k).1) (upd (upd v 5 (nI (rdF (a 50) (z / 3) 0 (a 10, a 11, a 12) k).2.1)) 1 0) t r) := by
  have key : ∀ (j c : Nat) (x : tl3) (k : Nat), c + j = z / 3 → k ≤ 8 → Rn E 2 mX7_read (36, [(4, .int (nI (3 * c))), (3, .int (nI c)), (2, .ref 49), (0, .ref 0), (1, .int 2)], [], wX (w3e a x) (upd v 5 (nI k)) t r) (some (.int (nI (rdF (a 50) j c x k).2.2)), wX (w3e a (rdF (a 50) j c x k).1) (upd (upd v 5 (nI (rdF (a 50) j c x k).2.1)) 1 0) t r) := by
    intro j
    induction j with
    | zero =>
      intro c x k hc hk
      iterate 2 refine Rn.step rfl ?_
      refine Rn.step rfl ?_
      refine Rn.top (x' := nI (3 * c + 2)) (ix3 c 2) ?_
      iterate 2 refine Rn.step rfl ?_
      refine Rn.br1 rfl (by show v 20 ≤ _; rw [hz]; exact nI_le (by omega) (by omega)) ?_
      repeat refine Rn.step rfl ?_
      refine Rn.callv rfl rfl rfl (by decide) r_unsettle ?_
      repeat refine Rn.step rfl ?_
      exact Rn.ret rfl
    | succ j ih =>
      intro c x k hc hk
      have hend : ∀ L, iSb [(3, .int (nI c)), (0, .ref 0)] L → Rn E 2 mX7_read (119, L, [], wX (w3e a x) (upd v 5 (nI k)) t r) (some (.int (nI c)), wX (w3e a x) (upd (upd v 5 (nI k)) 1 0) t r) := by
        intro L hL
        refine Rn.sub hL ?_
        repeat refine Rn.step rfl ?_
        refine Rn.callv rfl rfl rfl (by decide) r_unsettle ?_
        repeat refine Rn.step rfl ?_
        exact Rn.ret rfl
      unfold rdF
      iterate 3 refine Rn.step rfl ?_
      refine Rn.top (x' := nI (3 * c + 2)) (ix3 c 2) ?_
      iterate 2 refine Rn.step rfl ?_
      refine Rn.br2 rfl (by show ¬ v 20 ≤ _; rw [hz]; exact nle (by omega) (by omega)) ?_
      repeat refine Rn.step rfl ?_
      refine Rn.ald (3 * c) rfl rfl (by omega) (by decide) ?_
      repeat refine Rn.step rfl ?_
      refine Rn.ald (3 * c + 1) rfl (ix3 c 1) (by omega) (by decide) ?_
      repeat refine Rn.step rfl ?_
      refine Rn.ald (3 * c + 2) rfl (ix3 c 2) (by omega) (by decide) ?_
      refine Rn.calli rfl rfl rfl (by decide) (r_mayBe _ _ _ _) (fun z1 f1 => ?_)
      have f1 : z1 = ib (inB (a 50 (3 * c)) 3 ∧ inB (a 50 (3 * c + 1)) 24 ∧ inB (a 50 (3 * c + 2)) 16) := f1
      refine Rn.br rfl (fun h1 => ?_) (fun h1 => ?_)
      · rw [f1, ib_eq0] at h1
        rw [if_neg (fun q => h1 q.1)]
        exact hend _ ⟨rfl, rfl, trivial⟩
      · rw [f1, ib_ne0] at h1
        repeat refine Rn.step rfl ?_
        refine Rn.ald (3 * c) rfl rfl (by omega) (by decide) ?_
        repeat refine Rn.step rfl ?_
        refine Rn.ald (3 * c + 1) rfl (ix3 c 1) (by omega) (by decide) ?_
        repeat refine Rn.step rfl ?_
        refine Rn.ald (3 * c + 2) rfl (ix3 c 2) (by omega) (by decide) ?_
        by_cases h8 : k < 8
        · rw [if_pos ⟨h1, h8⟩]
          refine Rn.calli rfl rfl rfl (by decide) (r_evAppend _ _ _ h8 rfl) (fun z2 f2 => ?_)
          subst f2
          iterate 4 refine Rn.step rfl ?_
          have ih := ih (c + 1) (upd x.1 k (a 50 (3 * c)), upd x.2.1 k (a 50 (3 * c + 1)), upd x.2.2 k (a 50 (3 * c + 2))) (k + 1) (by omega) (by omega)
          rw [show nI (3 * (c + 1)) = nI (3 * c) + 3 from (nI_add (3 * c) 3).symm, nI_succ c] at ih
          refine Rn.hp (h2 := wX (w3e a (upd x.1 k (a 50 (3 * c)), upd x.2.1 k (a 50 (3 * c + 1)), upd x.2.2 k (a 50 (3 * c + 2)))) (upd v 5 (nI (k + 1))) t r) rfl ?_
          exact Rn.sub (by exact ⟨rfl, rfl, rfl, rfl, rfl, trivial⟩) ih
        · obtain rfl : k = 8 := by omega
          rw [if_neg (fun q => h8 q.2)]
          refine Rn.calli rfl rfl rfl (by decide) (r_evFull _ _ _ rfl) (fun z2 f2 => ?_)
          subst f2
          iterate 2 refine Rn.step rfl ?_
          exact hend _ ⟨rfl, rfl, trivial⟩
  have k0 := key (z / 3) 0 (a 10, a 11, a 12) k (by omega) hk
  rw [show upd v 5 (nI k) = v by rw [← hv5, upd_self]] at k0
  repeat refine Rn.step rfl ?_
  refine Rn.calli rfl rfl rfl (by decide) (r_within 2 4 _) (fun z1 f1 => ?_)
  refine Rn.br1 rfl (by rw [f1, ib_ne0]; decide) ?_
  repeat refine Rn.step rfl ?_
  refine Rn.calli rfl rfl rfl (by decide) (r_isLost (s := 2) (by decide)) (fun z3 f3 => ?_)
  refine Rn.br1 rfl (by rw [f3, ib_eq0]; show ¬ v 20 = -1; rw [hz]; exact nI_ne1 (by omega)) ?_
  iterate 4 refine Rn.step rfl ?_
  exact k0
theorem r_read3 {z k : Nat} (hz : v 21 = nI z) (hz2 : z ≤ 60) (hk : k ≤ 8) (hv5 : v 5 = nI k) : Rn E 2 mX7_read (0, [(0, .ref 0), (1, .int 3)], [], wX a v t r) (some (.int (nI (rdF (a 52) (z / 3) 0 (a 10, a 11, a 12) k).2.2)), wX (w3e a (rdF (a 52) (z / 3) 0 (a 10, a 11, a 12) k).1) (upd (upd v 5 (nI (rdF (a 52) (z / 3) 0 (a 10, a 11, a 12) k).2.1)) 1 0) t r) := by
  have key : ∀ (j c : Nat) (x : tl3) (k : Nat), c + j = z / 3 → k ≤ 8 → Rn E 2 mX7_read (36, [(4, .int (nI (3 * c))), (3, .int (nI c)), (2, .ref 51), (0, .ref 0), (1, .int 3)], [], wX (w3e a x) (upd v 5 (nI k)) t r) (some (.int (nI (rdF (a 52) j c x k).2.2)), wX (w3e a (rdF (a 52) j c x k).1) (upd (upd v 5 (nI (rdF (a 52) j c x k).2.1)) 1 0) t r) := by
    intro j
    induction j with
    | zero =>
      intro c x k hc hk
      iterate 2 refine Rn.step rfl ?_
      refine Rn.step rfl ?_
      refine Rn.top (x' := nI (3 * c + 2)) (ix3 c 2) ?_
      iterate 2 refine Rn.step rfl ?_
      refine Rn.br1 rfl (by show v 21 ≤ _; rw [hz]; exact nI_le (by omega) (by omega)) ?_
      repeat refine Rn.step rfl ?_
      refine Rn.callv rfl rfl rfl (by decide) r_unsettle ?_
      repeat refine Rn.step rfl ?_
      exact Rn.ret rfl
    | succ j ih =>
      intro c x k hc hk
      have hend : ∀ L, iSb [(3, .int (nI c)), (0, .ref 0)] L → Rn E 2 mX7_read (119, L, [], wX (w3e a x) (upd v 5 (nI k)) t r) (some (.int (nI c)), wX (w3e a x) (upd (upd v 5 (nI k)) 1 0) t r) := by
        intro L hL
        refine Rn.sub hL ?_
        repeat refine Rn.step rfl ?_
        refine Rn.callv rfl rfl rfl (by decide) r_unsettle ?_
        repeat refine Rn.step rfl ?_
        exact Rn.ret rfl
      unfold rdF
      iterate 3 refine Rn.step rfl ?_
      refine Rn.top (x' := nI (3 * c + 2)) (ix3 c 2) ?_
      iterate 2 refine Rn.step rfl ?_
      refine Rn.br2 rfl (by show ¬ v 21 ≤ _; rw [hz]; exact nle (by omega) (by omega)) ?_
      repeat refine Rn.step rfl ?_
      refine Rn.ald (3 * c) rfl rfl (by omega) (by decide) ?_
      repeat refine Rn.step rfl ?_
      refine Rn.ald (3 * c + 1) rfl (ix3 c 1) (by omega) (by decide) ?_
      repeat refine Rn.step rfl ?_
      refine Rn.ald (3 * c + 2) rfl (ix3 c 2) (by omega) (by decide) ?_
      refine Rn.calli rfl rfl rfl (by decide) (r_mayBe _ _ _ _) (fun z1 f1 => ?_)
      have f1 : z1 = ib (inB (a 52 (3 * c)) 3 ∧ inB (a 52 (3 * c + 1)) 24 ∧ inB (a 52 (3 * c + 2)) 16) := f1
      refine Rn.br rfl (fun h1 => ?_) (fun h1 => ?_)
      · rw [f1, ib_eq0] at h1
        rw [if_neg (fun q => h1 q.1)]
        exact hend _ ⟨rfl, rfl, trivial⟩
      · rw [f1, ib_ne0] at h1
        repeat refine Rn.step rfl ?_
        refine Rn.ald (3 * c) rfl rfl (by omega) (by decide) ?_
        repeat refine Rn.step rfl ?_
        refine Rn.ald (3 * c + 1) rfl (ix3 c 1) (by omega) (by decide) ?_
        repeat refine Rn.step rfl ?_
        refine Rn.ald (3 * c + 2) rfl (ix3 c 2) (by omega) (by decide) ?_
        by_cases h8 : k < 8
        · rw [if_pos ⟨h1, h8⟩]
          refine Rn.calli rfl rfl rfl (by decide) (r_evAppend _ _ _ h8 rfl) (fun z2 f2 => ?_)
          subst f2
          iterate 4 refine Rn.step rfl ?_
          have ih := ih (c + 1) (upd x.1 k (a 52 (3 * c)), upd x.2.1 k (a 52 (3 * c + 1)), upd x.2.2 k (a 52 (3 * c + 2))) (k + 1) (by omega) (by omega)
          rw [show nI (3 * (c + 1)) = nI (3 * c) + 3 from (nI_add (3 * c) 3).symm, nI_succ c] at ih
          refine Rn.hp (h2 := wX (w3e a (upd x.1 k (a 52 (3 * c)), upd x.2.1 k (a 52 (3 * c + 1)), upd x.2.2 k (a 52 (3 * c + 2)))) (upd v 5 (nI (k + 1))) t r) rfl ?_
          exact Rn.sub (by exact ⟨rfl, rfl, rfl, rfl, rfl, trivial⟩) ih
        · obtain rfl : k = 8 := by omega
          rw [if_neg (fun q => h8 q.2)]
          refine Rn.calli rfl rfl rfl (by decide) (r_evFull _ _ _ rfl) (fun z2 f2 => ?_)
          subst f2
          iterate 2 refine Rn.step rfl ?_
          exact hend _ ⟨rfl, rfl, trivial⟩
  have k0 := key (z / 3) 0 (a 10, a 11, a 12) k (by omega) hk
  rw [show upd v 5 (nI k) = v by rw [← hv5, upd_self]] at k0
  repeat refine Rn.step rfl ?_
  refine Rn.calli rfl rfl rfl (by decide) (r_within 3 4 _) (fun z1 f1 => ?_)
  refine Rn.br1 rfl (by rw [f1, ib_ne0]; decide) ?_
  repeat refine Rn.step rfl ?_
  refine Rn.calli rfl rfl rfl (by decide) (r_isLost (s := 3) (by decide)) (fun z3 f3 => ?_)
  refine Rn.br1 rfl (by rw [f3, ib_eq0]; show ¬ v 21 = -1; rw [hz]; exact nI_ne1 (by omega)) ?_
  iterate 4 refine Rn.step rfl ?_
  exact k0
theorem r_read {s : Nat} (hs : s = 0 ∨ s = 1 ∨ s = 2 ∨ s = 3) {z k : Nat} (hz : v (18 + s) = nI z) (hz2 : z ≤ 60) (hk : k ≤ 8) (hv5 : v 5 = nI k) : Rn E 2 mX7_read (0, [(0, .ref 0), (1, .int (nI s))], [], wX a v t r) (some (.int (nI (rdF (a (shI s)) (z / 3) 0 (a 10, a 11, a 12) k).2.2)), wX (w3e a (rdF (a (shI s)) (z / 3) 0 (a 10, a 11, a 12) k).1) (upd (upd v 5 (nI (rdF (a (shI s)) (z / 3) 0 (a 10, a 11, a 12) k).2.1)) 1 0) t r) := by
  rcases hs with rfl | rfl | rfl | rfl
  · exact r_read0 hz hz2 hk hv5
  · exact r_read1 hz hz2 hk hv5
  · exact r_read2 hz hz2 hk hv5
  · exact r_read3 hz hz2 hk hv5
theorem r_count0 {n k q : Nat} {mn sm : Nat → Nat} (hW : WfX a v n k q mn sm) (hS : SetX a v mn k n) : AX E 3 mX7_count [(0, .ref 0), (1, .int 0)] a v t r mn k n (some (.int (v 4))) := by
  obtain ⟨⟨hn, hv4⟩, -⟩ := id hW
  obtain ⟨a', v', hr, he, h1, hV⟩ := r_settle (E := E) (t := t) (r := r) hW hS
  have hW' := hW.moved he
  obtain ⟨⟨-, hv4'⟩, -⟩ := id hW'
  refine ⟨a', v', ?_, he, Or.inr ⟨h1, hV⟩⟩
  obtain ⟨hV1, hV2, hV3⟩ := hV
  rw [cW_eq he] at hV1
  rw [cDr_eq he] at hV2
  repeat refine Rn.step rfl ?_
  refine Rn.callv rfl rfl rfl (by decide) hr ?_
  repeat refine Rn.step rfl ?_
  rw [← he.2 4 (by decide)]
  exact Rn.ret rfl
theorem r_count1 {n k q : Nat} {mn sm : Nat → Nat} (hW : WfX a v n k q mn sm) (hS : SetX a v mn k n) : AX E 3 mX7_count [(0, .ref 0), (1, .int 1)] a v t r mn k n (some (.int (v 11 + v 12 + v 13))) := by
  obtain ⟨⟨hn, hv4⟩, -⟩ := id hW
  obtain ⟨a', v', hr, he, h1, hV⟩ := r_settle (E := E) (t := t) (r := r) hW hS
  have hW' := hW.moved he
  obtain ⟨⟨-, hv4'⟩, -⟩ := id hW'
  refine ⟨a', v', ?_, he, Or.inr ⟨h1, hV⟩⟩
  obtain ⟨hV1, hV2, hV3⟩ := hV
  rw [cW_eq he] at hV1
  rw [cDr_eq he] at hV2
  repeat refine Rn.step rfl ?_
  refine Rn.callv rfl rfl rfl (by decide) hr ?_
  repeat refine Rn.step rfl ?_
  rw [← he.2 11 (by decide), ← he.2 12 (by decide), ← he.2 13 (by decide)]
  exact Rn.ret rfl
theorem r_count2 {n k q : Nat} {mn sm : Nat → Nat} (hW : WfX a v n k q mn sm) (hS : SetX a v mn k n) : AX E 3 mX7_count [(0, .ref 0), (1, .int 2)] a v t r mn k n (some (.int (v 5))) := by
  obtain ⟨⟨hn, hv4⟩, -⟩ := id hW
  obtain ⟨a', v', hr, he, h1, hV⟩ := r_settle (E := E) (t := t) (r := r) hW hS
  have hW' := hW.moved he
  obtain ⟨⟨-, hv4'⟩, -⟩ := id hW'
  refine ⟨a', v', ?_, he, Or.inr ⟨h1, hV⟩⟩
  obtain ⟨hV1, hV2, hV3⟩ := hV
  rw [cW_eq he] at hV1
  rw [cDr_eq he] at hV2
  repeat refine Rn.step rfl ?_
  refine Rn.callv rfl rfl rfl (by decide) hr ?_
  repeat refine Rn.step rfl ?_
  rw [← he.2 5 (by decide)]
  exact Rn.ret rfl
theorem r_count3 {n k q : Nat} {mn sm : Nat → Nat} (hW : WfX a v n k q mn sm) (hS : SetX a v mn k n) : AX E 3 mX7_count [(0, .ref 0), (1, .int 3)] a v t r mn k n (some (.int (bcF (obF (cDr a mn k n).1 n)))) := by
  obtain ⟨⟨hn, hv4⟩, -⟩ := id hW
  obtain ⟨a', v', hr, he, h1, hV⟩ := r_settle (E := E) (t := t) (r := r) hW hS
  have hW' := hW.moved he
  obtain ⟨⟨-, hv4'⟩, -⟩ := id hW'
  refine ⟨a', v', ?_, he, Or.inr ⟨h1, hV⟩⟩
  obtain ⟨hV1, hV2, hV3⟩ := hV
  rw [cW_eq he] at hV1
  rw [cDr_eq he] at hV2
  repeat refine Rn.step rfl ?_
  refine Rn.callv rfl rfl rfl (by decide) hr ?_
  repeat refine Rn.step rfl ?_
  refine Rn.calli rfl rfl rfl (by decide) (r_outBits1 hn hv4') (fun z3 f3 => ?_)
  rw [obF_congr (fun l hl => (hV2 23 l (by decide) hl).1)] at f3
  refine Rn.calli rfl rfl rfl (by decide) (r_bitCount z3 _) (fun z4 f4 => ?_)
  rw [f3] at f4
  rw [← f4]
  exact Rn.ret rfl
theorem r_count4 {n k q : Nat} {mn sm : Nat → Nat} (hW : WfX a v n k q mn sm) (hS : SetX a v mn k n) : AX E 3 mX7_count [(0, .ref 0), (1, .int 4)] a v t r mn k n (some (.int (maF (cDr a mn k n).2.1 n 1))) := by
  obtain ⟨⟨hn, hv4⟩, -⟩ := id hW
  obtain ⟨a', v', hr, he, h1, hV⟩ := r_settle (E := E) (t := t) (r := r) hW hS
  have hW' := hW.moved he
  obtain ⟨⟨-, hv4'⟩, -⟩ := id hW'
  refine ⟨a', v', ?_, he, Or.inr ⟨h1, hV⟩⟩
  obtain ⟨hV1, hV2, hV3⟩ := hV
  rw [cW_eq he] at hV1
  rw [cDr_eq he] at hV2
  repeat refine Rn.step rfl ?_
  refine Rn.callv rfl rfl rfl (by decide) hr ?_
  repeat refine Rn.step rfl ?_
  refine Rn.calli rfl rfl rfl (by decide) (r_minAll1 hn hv4' 1) (fun z3 f3 => ?_)
  rw [maF_congr (fun i l hi hl => (hV2 i l hi hl).2)] at f3
  rw [← f3]
  exact Rn.ret rfl
theorem r_count5 {n k q : Nat} {mn sm : Nat → Nat} (hW : WfX a v n k q mn sm) (hS : SetX a v mn k n) : AX E 3 mX7_count [(0, .ref 0), (1, .int 5)] a v t r mn k n (some (.int (maF (cDr a mn k n).2.1 n 2))) := by
  obtain ⟨⟨hn, hv4⟩, -⟩ := id hW
  obtain ⟨a', v', hr, he, h1, hV⟩ := r_settle (E := E) (t := t) (r := r) hW hS
  have hW' := hW.moved he
  obtain ⟨⟨-, hv4'⟩, -⟩ := id hW'
  refine ⟨a', v', ?_, he, Or.inr ⟨h1, hV⟩⟩
  obtain ⟨hV1, hV2, hV3⟩ := hV
  rw [cW_eq he] at hV1
  rw [cDr_eq he] at hV2
  repeat refine Rn.step rfl ?_
  refine Rn.callv rfl rfl rfl (by decide) hr ?_
  repeat refine Rn.step rfl ?_
  refine Rn.calli rfl rfl rfl (by decide) (r_minAll1 hn hv4' 2) (fun z3 f3 => ?_)
  rw [maF_congr (fun i l hi hl => (hV2 i l hi hl).2)] at f3
  rw [← f3]
  exact Rn.ret rfl
theorem r_count6 {n k q : Nat} {mn sm : Nat → Nat} (hW : WfX a v n k q mn sm) (hS : SetX a v mn k n) : AX E 3 mX7_count [(0, .ref 0), (1, .int 6)] a v t r mn k n (some (.int (tog (cW a mn k) 23))) := by
  obtain ⟨⟨hn, hv4⟩, -⟩ := id hW
  obtain ⟨a', v', hr, he, h1, hV⟩ := r_settle (E := E) (t := t) (r := r) hW hS
  have hW' := hW.moved he
  obtain ⟨⟨-, hv4'⟩, -⟩ := id hW'
  refine ⟨a', v', ?_, he, Or.inr ⟨h1, hV⟩⟩
  obtain ⟨hV1, hV2, hV3⟩ := hV
  rw [cW_eq he] at hV1
  rw [cDr_eq he] at hV2
  repeat refine Rn.step rfl ?_
  refine Rn.callv rfl rfl rfl (by decide) hr ?_
  repeat refine Rn.step rfl ?_
  refine Rn.calli rfl rfl rfl (by decide) (r_together 23 (by decide)) (fun z3 f3 => ?_)
  rw [tog_congr (by decide) hV1] at f3
  rw [← f3]
  exact Rn.ret rfl
theorem r_count7 {n k q : Nat} {mn sm : Nat → Nat} (hW : WfX a v n k q mn sm) (hS : SetX a v mn k n) : AX E 3 mX7_count [(0, .ref 0), (1, .int 7)] a v t r mn k n (some (.int (v 6))) := by
  obtain ⟨⟨hn, hv4⟩, -⟩ := id hW
  obtain ⟨a', v', hr, he, h1, hV⟩ := r_settle (E := E) (t := t) (r := r) hW hS
  have hW' := hW.moved he
  obtain ⟨⟨-, hv4'⟩, -⟩ := id hW'
  refine ⟨a', v', ?_, he, Or.inr ⟨h1, hV⟩⟩
  obtain ⟨hV1, hV2, hV3⟩ := hV
  rw [cW_eq he] at hV1
  rw [cDr_eq he] at hV2
  repeat refine Rn.step rfl ?_
  refine Rn.callv rfl rfl rfl (by decide) hr ?_
  repeat refine Rn.step rfl ?_
  rw [← he.2 6 (by decide)]
  exact Rn.ret rfl
theorem r_count8 {n k q : Nat} {mn sm : Nat → Nat} (hW : WfX a v n k q mn sm) (hS : SetX a v mn k n) : AX E 3 mX7_count [(0, .ref 0), (1, .int 8)] a v t r mn k n (some (.int (v 0))) := by
  obtain ⟨⟨hn, hv4⟩, -⟩ := id hW
  obtain ⟨a', v', hr, he, h1, hV⟩ := r_settle (E := E) (t := t) (r := r) hW hS
  have hW' := hW.moved he
  obtain ⟨⟨-, hv4'⟩, -⟩ := id hW'
  refine ⟨a', v', ?_, he, Or.inr ⟨h1, hV⟩⟩
  obtain ⟨hV1, hV2, hV3⟩ := hV
  rw [cW_eq he] at hV1
  rw [cDr_eq he] at hV2
  repeat refine Rn.step rfl ?_
  refine Rn.callv rfl rfl rfl (by decide) hr ?_
  repeat refine Rn.step rfl ?_
  rw [← he.2 0 (by decide)]
  exact Rn.ret rfl
theorem r_count_bad {n k q : Nat} {mn sm : Nat → Nat} (hW : WfX a v n k q mn sm) (hS : SetX a v mn k n) (x : Int32) (hx : x.toInt < 0 ∨ 8 < x.toInt) : AX E 3 mX7_count [(0, .ref 0), (1, .int x)] a v t r mn k n (some (.int (-2))) := by
  obtain ⟨⟨hn, hv4⟩, -⟩ := id hW
  obtain ⟨a', v', hr, he, h1, hV⟩ := r_settle (E := E) (t := t) (r := r) hW hS
  have hW' := hW.moved he
  obtain ⟨⟨-, hv4'⟩, -⟩ := id hW'
  refine ⟨a', v', ?_, he, Or.inr ⟨h1, hV⟩⟩
  obtain ⟨hV1, hV2, hV3⟩ := hV
  rw [cW_eq he] at hV1
  rw [cDr_eq he] at hV2
  repeat refine Rn.step rfl ?_
  refine Rn.callv rfl rfl rfl (by decide) hr ?_
  refine Rn.step rfl ?_
  refine Rn.step (show iStep E iProg mX7_count (5, _, [.int x], _) = some (.inl (166, _, [], _)) by
    show (if x.toInt < 0 ∨ 8 < x.toInt then _ else _) = _
    rw [if_pos hx]; rfl) ?_
  repeat refine Rn.step rfl ?_
  exact Rn.ret rfl
end XI
