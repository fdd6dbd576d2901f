theorem law_pure (L : Nat) (xs : Nat → Int32) (hL : L ≤ 3072) : ∃ (f : Nat) (h' : List va_E), iRun (iExt L xs) iProg f 13 mL_law (0, [(0, .retAddr 0)], [], []) = some (some (.int 1), h') ∧ h'.length ≤ 600000 ∧ iSl h' ≤ 7302250 := by
  obtain ⟨ax, vx, tx, a, v, t, f, hf⟩ := lw_all (xs := xs) hL
  refine ⟨f, wY ax vx tx a v t, hf 13 (Nat.le_refl _), ?_, ?_⟩
  · simp [wX, wM]
  · simp [iSl, wX, wM, iSz]
