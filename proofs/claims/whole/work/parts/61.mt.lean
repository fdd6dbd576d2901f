section MTX
variable {E : iExtT} {c ax : Nat → Nat → Int32} {vc vx : Nat → Int32} {tx : Nat → Nat → Int64} {a : Nat → Nat → Int32} {v : Nat → Int32} {t : Nat → Nat → Int64} {n k q : Nat} {mn sm tt : Nat → Nat} {ya yb yc : Nat}
theorem m_sheet_bad (x y z : Int32) (hb : ¬ (inB x 4 ∧ inB y 3 ∧ z ≤ 60)) : Rn E 2 mX8_sheet (0, [(0, .ref 53), (1, .int x), (2, .int y), (3, .int z)], [], wY ax vx tx a v t) (some (.int (-2)), wY ax vx tx a v t) := by
  iterate 1 refine Rn.step rfl ?_
  refine Rn.calli rfl rfl rfl (by decide) (m_isSheet x _) (fun y0 f0 => ?_)
  refine Rn.br rfl (fun p0 => ?_) (fun p0 => ?_)
  · iterate 1 refine Rn.step rfl ?_
    exact Rn.ret rfl
  · rw [f0, ib_ne0] at p0
    iterate 4 refine Rn.step rfl ?_
    refine Rn.calli rfl rfl rfl (by decide) (m_inB y 2 (by decide) _) (fun y1 f1 => ?_)
    have f1 : y1 = ib (inB y 3) := f1
    refine Rn.br rfl (fun p1 => ?_) (fun p1 => ?_)
    · iterate 1 refine Rn.step rfl ?_
      exact Rn.ret rfl
    · rw [f1, ib_ne0] at p1
      iterate 2 refine Rn.step rfl ?_
      refine Rn.br2 rfl (fun p => hb ⟨p0, p1, p⟩) ?_
      iterate 1 refine Rn.step rfl ?_
      exact Rn.ret rfl
theorem m_sheet_pre {x y z : Int32} (hb : inB x 4 ∧ inB y 3 ∧ z ≤ 60) {o : iRes} (kk : Rn E 2 mX8_sheet (28, [(0, .ref 53), (1, .int x), (2, .int y), (3, .int z)], [], wY ax vx tx a v t) o) : Rn E 2 mX8_sheet (0, [(0, .ref 53), (1, .int x), (2, .int y), (3, .int z)], [], wY ax vx tx a v t) o := by
  iterate 1 refine Rn.step rfl ?_
  refine Rn.calli rfl rfl rfl (by decide) (m_isSheet x _) (fun y0 f0 => ?_)
  refine Rn.br2 rfl (by rw [f0]; exact ib_ne0.mpr hb.1) ?_
  iterate 4 refine Rn.step rfl ?_
  refine Rn.calli rfl rfl rfl (by decide) (m_inB y 2 (by decide) _) (fun y1 f1 => ?_)
  refine Rn.br2 rfl (by rw [f1]; exact ib_ne0.mpr hb.2.1) ?_
  iterate 2 refine Rn.step rfl ?_
  refine Rn.br1 rfl hb.2.2 ?_
  exact kk
theorem m_sheet_size {x y z : Int32} (hb : inB x 4 ∧ inB y 3 ∧ z ≤ 60) (hz : z < 0) : Rn E 2 mX8_sheet (0, [(0, .ref 53), (1, .int x), (2, .int y), (3, .int z)], [], wY ax vx tx a v t) (some (.int (-15)), wY ax vx tx a (upd v 30 5) t) := by
  refine m_sheet_pre hb ?_
  iterate 1 refine Rn.step rfl ?_
  refine Rn.br2 rfl (Int32.not_le.mpr hz) ?_
  iterate 2 refine Rn.step rfl ?_
  refine Rn.calli rfl rfl rfl (by decide) (m_finds 5) (fun w f => ?_)
  rw [f]
  exact Rn.ret rfl
def zi (s z : Nat) (f : Nat → Int32) : Nat → Int32 := lp (fun i g => upd g (60 * s + i) 0) 0 z f
theorem zi_in (s z : Nat) (f : Nat → Int32) : (∀ i, i < z → zi s z f (60 * s + i) = 0) ∧ ∀ j, (j < 60 * s ∨ 60 * s + z ≤ j) → zi s z f j = f j := by
  have h := lp_inv (f := fun i (g : Nat → Int32) => upd g (60 * s + i) 0) (fun z g => (∀ i, i < z → g (60 * s + i) = 0) ∧ ∀ j, (j < 60 * s ∨ 60 * s + z ≤ j) → g j = f j) (i := 0) (j := z) (s := f) ⟨fun i h => absurd h (Nat.not_lt_zero _), fun _ _ => rfl⟩ (fun i g _ _ hI => by
    refine ⟨fun i' hi' => ?_, fun j hj => ?_⟩
    · by_cases e : i' = i
      · subst e; exact pk_us
      · rw [pk_un (by omega)]; exact hI.1 i' (by omega)
    · rw [pk_un (by omega)]; exact hI.2 j (by omega))
  rw [Nat.zero_add] at h
  exact h
theorem m_sheet {s z : Nat} (hs : s < 4) {y : Int32} (hy : inB y 3) (hz : z ≤ 60) : Rn E 2 mX8_sheet (0, [(0, .ref 53), (1, .int (nI s)), (2, .int y), (3, .int (nI z))], [], wY ax vx tx a v t) (some (.int (nI z)), wY ax vx tx (va_up (va_up (va_up a 54 (upd (a 54) s y)) 55 (upd (a 55) s (nI z))) 56 (zi s z (a 56))) v t) := by
  refine m_sheet_pre ⟨inB_nI (n := 4) hs (by decide), hy, nI_le (b := 60) hz (by decide)⟩ ?_
  iterate 1 refine Rn.step rfl ?_
  refine Rn.br1 rfl (nI_pos' (by omega)) ?_
  iterate 4 refine Rn.step rfl ?_
  refine Rn.ast s rfl rfl hs (by decide) (h3 := wY ax vx tx (va_up a 54 (upd (a 54) s y)) v t) rfl ?_
  iterate 4 refine Rn.step rfl ?_
  refine Rn.ast s rfl rfl hs (by decide) (h3 := wY ax vx tx (va_up (va_up a 54 (upd (a 54) s y)) 55 (upd (a 55) s (nI z))) v t) rfl ?_
  iterate 2 refine Rn.step rfl ?_
  refine Rn.hp (h2 := wY ax vx tx (va_up (va_up (va_up a 54 (upd (a 54) s y)) 55 (upd (a 55) s (nI z))) 56 (a 56)) v t) (by rw [show a 56 = (va_up (va_up a 54 (upd (a 54) s y)) 55 (upd (a 55) s (nI z))) 56 from rfl, va_id]) ?_
  refine Rn.lp (σ := Nat → Int32) (cfg := fun i g => (55, [(4, .int (nI i)), (0, .ref 53), (1, .int (nI s)), (2, .int y), (3, .int (nI z))], [], wY ax vx tx (va_up (va_up (va_up a 54 (upd (a 54) s y)) 55 (upd (a 55) s (nI z))) 56 g) v t)) (f := fun i g => upd g (60 * s + i) 0) (n := z) (fun _ _ => True) (fun i g hi _ => ⟨trivial, fun kk => ?_⟩) z 0 (a 56) (by omega) trivial (fun s' hs' _ => ?_)
  · rw [nI_succ] at kk
    iterate 2 refine Rn.step rfl ?_
    refine Rn.br2 rfl (nle hi (by omega)) ?_
    iterate 8 refine Rn.step rfl ?_
    refine Rn.ast (60 * s + i) rfl (ix_am 60 s i) (by omega) (by decide) (h3 := wY ax vx tx (va_up (va_up (va_up a 54 (upd (a 54) s y)) 55 (upd (a 55) s (nI z))) 56 (upd g (60 * s + i) 0)) v t) (by rw [← va_two (va_up (va_up a 54 (upd (a 54) s y)) 55 (upd (a 55) s (nI z))) 56 g (upd g (60 * s + i) 0)]; rfl) ?_
    iterate 2 refine Rn.step rfl ?_
    exact kk
  · iterate 2 refine Rn.step rfl ?_
    refine Rn.br1 rfl (Int32.le_refl _) ?_
    subst hs'
    iterate 1 refine Rn.step rfl ?_
    exact Rn.ret rfl
theorem m_lose_bad (x : Int32) (hb : ¬ inB x 4) : Rn E 2 mX8_lose (0, [(0, .ref 53), (1, .int x)], [], wY ax vx tx a v t) (some (.int (-2)), wY ax vx tx a v t) := by
  iterate 1 refine Rn.step rfl ?_
  refine Rn.calli rfl rfl rfl (by decide) (m_isSheet x _) (fun y0 f0 => ?_)
  refine Rn.br2 rfl (by rw [f0]; exact fun q => q (ib_eq0.mpr hb)) ?_
  iterate 1 refine Rn.step rfl ?_
  exact Rn.ret rfl
theorem m_lose_null {s : Nat} (hs : s < 4) (hf : a 54 s < 0) : Rn E 2 mX8_lose (0, [(0, .ref 53), (1, .int (nI s))], [], wY ax vx tx a v t) (some (.int (-11)), wY ax vx tx a (upd v 30 1) t) := by
  iterate 1 refine Rn.step rfl ?_
  refine Rn.calli rfl rfl rfl (by decide) (m_isSheet (nI s) _) (fun y0 f0 => ?_)
  refine Rn.br1 rfl (by rw [f0]; exact ib_ne0.mpr (inB_nI (n := 4) hs (by decide))) ?_
  iterate 3 refine Rn.step rfl ?_
  refine Rn.ald s rfl rfl hs (by decide) ?_
  refine Rn.br2 rfl (Int32.not_le.mpr hf) ?_
  iterate 2 refine Rn.step rfl ?_
  refine Rn.calli rfl rfl rfl (by decide) (m_finds 1) (fun w f => ?_)
  rw [f]
  exact Rn.ret rfl
theorem m_lose {s : Nat} (hs : s < 4) (hf : 0 ≤ a 54 s) : Rn E 2 mX8_lose (0, [(0, .ref 53), (1, .int (nI s))], [], wY ax vx tx a v t) (some (.int (a 55 s)), wY ax vx tx (va_up a 54 (upd (a 54) s (-1))) v t) := by
  iterate 1 refine Rn.step rfl ?_
  refine Rn.calli rfl rfl rfl (by decide) (m_isSheet (nI s) _) (fun y0 f0 => ?_)
  refine Rn.br1 rfl (by rw [f0]; exact ib_ne0.mpr (inB_nI (n := 4) hs (by decide))) ?_
  iterate 3 refine Rn.step rfl ?_
  refine Rn.ald s rfl rfl hs (by decide) ?_
  refine Rn.br1 rfl hf ?_
  iterate 4 refine Rn.step rfl ?_
  refine Rn.ast s rfl rfl hs (by decide) (h3 := wY ax vx tx (va_up a 54 (upd (a 54) s (-1))) v t) rfl ?_
  iterate 3 refine Rn.step rfl ?_
  refine Rn.ald s rfl rfl hs (by decide) ?_
  exact Rn.ret rfl
theorem RS1.null {s : Nat} (h : RS1 c vc a s) : a 54 s < 0 ↔ vc (18 + s) = -1 := by
  rcases h with ⟨h1, h2⟩ | ⟨z, hz, h1, h2, h3, h4, -⟩
  · rw [h1, h2]; decide
  · rw [h1, h3]
    exact ⟨fun q => absurd q (Int32.not_lt.mpr h4.1), fun q => absurd q (nI_ne1 (by omega))⟩
abbrev fdA (F : Int32) : Int32 := if F = 0 then 0 else -10 - F
abbrev fdV (v : Nat → Int32) (F : Int32) : Nat → Int32 := if F = 0 then v else upd v 30 F
theorem m_lacks {s : Nat} (hs : s < 4) (h : RS1 c vc a s) (y i : Int32) {F : Int32} (hF : F = fdF (vc (14 + s)) (vc (18 + s)) y i) : Rn E 1 mX8_lacks (0, [(0, .ref 53), (1, .int (nI s)), (2, .int y), (3, .int i)], [], wY ax vx tx a v t) (some (.int (fdA F)), wY ax vx tx a (fdV v F) t) := by
  iterate 3 refine Rn.step rfl ?_
  refine Rn.ald s rfl rfl hs (by decide) ?_
  rcases h with ⟨h1, h2⟩ | ⟨z, hz, h1, h2, h3, h4, -⟩
  · have hF : F = 1 := by rw [hF]; unfold fdF; rw [if_pos h1]
    subst hF
    refine Rn.br2 rfl (by rw [h2]; decide) ?_
    iterate 2 refine Rn.step rfl ?_
    refine Rn.calli rfl rfl rfl (by decide) (m_finds 1) (fun w f => ?_)
    rw [f]
    exact Rn.ret rfl
  · rw [h1] at hF
    unfold fdF at hF
    rw [if_neg (nI_ne1 (by omega))] at hF
    refine Rn.br1 rfl (by rw [h3]; exact h4.1) ?_
    iterate 3 refine Rn.step rfl ?_
    refine Rn.ald s rfl rfl hs (by decide) ?_
    iterate 1 refine Rn.step rfl ?_
    refine Rn.br rfl (fun p => ?_) (fun p => ?_)
    · rw [if_pos (h3.symm.trans p)] at hF
      iterate 5 refine Rn.step rfl ?_
      iterate 1 refine Rn.step rfl ?_
      refine Rn.ald s rfl rfl hs (by decide) ?_
      iterate 2 refine Rn.step rfl ?_
      refine Rn.top (x' := nI z - nI 1) (by rw [h2]; rfl) ?_
      iterate 1 refine Rn.step rfl ?_
      refine Rn.calli rfl rfl rfl (by decide) (m_in _ _ _ _) (fun y0 f0 => ?_)
      have hiff : ((0 : Int64) ≤ i.toInt64 ∧ i.toInt64 ≤ (nI z - nI 1).toInt64) ↔ inB i (nI z) := by
        rw [show (0 : Int64) = (0 : Int32).toInt64 from rfl, i64_le, i64_le]
        by_cases hz0 : z = 0
        · subst hz0
          constructor
          · rintro ⟨q1, q2⟩; exact absurd (Int32.le_trans q1 q2) (by decide)
          · rintro ⟨q1, q2⟩; exact absurd q2 (Int32.not_lt.mpr q1)
        · obtain ⟨z', rfl⟩ : ∃ z', z = z' + 1 := ⟨z - 1, by omega⟩
          rw [show nI (z' + 1) - nI 1 = nI z' from nI_pred z']
          exact inB_iff (by omega)
      refine Rn.br rfl (fun p1 => ?_) (fun p1 => ?_)
      · rw [f0, ib_eq0, hiff] at p1
        rw [if_neg p1] at hF
        subst hF
        iterate 2 refine Rn.step rfl ?_
        refine Rn.calli rfl rfl rfl (by decide) (m_finds 2) (fun w f => ?_)
        rw [f]
        exact Rn.ret rfl
      · rw [f0, ib_ne0, hiff] at p1
        rw [if_pos p1] at hF
        subst hF
        iterate 2 refine Rn.step rfl ?_
        exact Rn.ret rfl
    · rw [if_neg (fun e => p (h3.trans e))] at hF
      subst hF
      iterate 2 refine Rn.step rfl ?_
      refine Rn.calli rfl rfl rfl (by decide) (m_finds 3) (fun w f => ?_)
      rw [f]
      exact Rn.ret rfl
theorem fdF_ne {fm sz y i : Int32} (h : ¬ fdF fm sz y i = 0) : ¬ -10 - fdF fm sz y i = 0 := by
  unfold fdF at h ⊢
  split at h
  · rw [if_pos (by assumption)]; decide
  · rename_i h1
    rw [if_neg h1]
    split at h
    · rename_i h2
      rw [if_pos h2]
      split at h
      · exact absurd rfl h
      · rename_i h3; rw [if_neg h3]; decide
    · rename_i h2; rw [if_neg h2]; decide
theorem m_lay_bad (x y i z : Int32) (hb : ¬ (inB x 4 ∧ inB y 3)) : Rn E 2 mX8_lay (0, [(0, .ref 53), (1, .int x), (2, .int y), (3, .int i), (4, .int z)], [], wY ax vx tx a v t) (some (.int (-2)), wY ax vx tx a v t) := by
  iterate 1 refine Rn.step rfl ?_
  refine Rn.calli rfl rfl rfl (by decide) (m_isSheet x _) (fun y0 f0 => ?_)
  refine Rn.br rfl (fun p0 => ?_) (fun p0 => ?_)
  · iterate 1 refine Rn.step rfl ?_
    exact Rn.ret rfl
  · rw [f0, ib_ne0] at p0
    iterate 4 refine Rn.step rfl ?_
    refine Rn.calli rfl rfl rfl (by decide) (m_inB y 2 (by decide) _) (fun y1 f1 => ?_)
    have f1 : y1 = ib (inB y 3) := f1
    refine Rn.br2 rfl (by rw [f1]; exact fun q => q (ib_eq0.mpr (fun p => hb ⟨p0, p⟩))) ?_
    iterate 1 refine Rn.step rfl ?_
    exact Rn.ret rfl
theorem m_lay_pre {s : Nat} (hs : s < 4) {y : Int32} (hy : inB y 3) {i z : Int32} {o : iRes} (kk : Rn E 2 mX8_lay (22, [(0, .ref 53), (1, .int (nI s)), (2, .int y), (3, .int i), (4, .int z)], [], wY ax vx tx a v t) o) : Rn E 2 mX8_lay (0, [(0, .ref 53), (1, .int (nI s)), (2, .int y), (3, .int i), (4, .int z)], [], wY ax vx tx a v t) o := by
  iterate 1 refine Rn.step rfl ?_
  refine Rn.calli rfl rfl rfl (by decide) (m_isSheet (nI s) _) (fun y0 f0 => ?_)
  refine Rn.br2 rfl (by rw [f0]; exact ib_ne0.mpr (inB_nI (n := 4) hs (by decide))) ?_
  iterate 4 refine Rn.step rfl ?_
  refine Rn.calli rfl rfl rfl (by decide) (m_inB y 2 (by decide) _) (fun y1 f1 => ?_)
  refine Rn.br1 rfl (by rw [f1]; exact ib_ne0.mpr hy) ?_
  exact kk
theorem m_lay_no {s : Nat} (hs : s < 4) (h : RS1 c vc a s) {y : Int32} (hy : inB y 3) (i z : Int32) {F : Int32} (hF : F = fdF (vc (14 + s)) (vc (18 + s)) y i) (h0 : ¬ F = 0) : Rn E 2 mX8_lay (0, [(0, .ref 53), (1, .int (nI s)), (2, .int y), (3, .int i), (4, .int z)], [], wY ax vx tx a v t) (some (.int (-10 - F)), wY ax vx tx a (upd v 30 F) t) := by
  refine m_lay_pre hs hy ?_
  have hr := m_lacks (E := E) (ax := ax) (vx := vx) (tx := tx) (v := v) (t := t) hs h y i hF
  rw [show fdA F = -10 - F from if_neg h0, show fdV v F = upd v 30 F from if_neg h0] at hr
  iterate 4 refine Rn.step rfl ?_
  refine Rn.calli rfl rfl rfl (by decide) hr (fun w f => ?_)
  iterate 2 refine Rn.step rfl ?_
  refine Rn.br2 rfl (by rw [f, hF]; exact fdF_ne (by rw [← hF]; exact h0)) ?_
  rw [f]
  iterate 1 refine Rn.step rfl ?_
  exact Rn.ret rfl
theorem m_lay {s : Nat} (hs : s < 4) (h : RS1 c vc a s) {y : Int32} (hy : inB y 3) {i : Nat} (hi : i < 60) (z : Int32) (hF : 0 = fdF (vc (14 + s)) (vc (18 + s)) y (nI i)) : Rn E 2 mX8_lay (0, [(0, .ref 53), (1, .int (nI s)), (2, .int y), (3, .int (nI i)), (4, .int z)], [], wY ax vx tx a v t) (some (.int 1), wY ax vx tx (va_up a 56 (upd (a 56) (60 * s + i) (cutF y z))) v t) := by
  refine m_lay_pre hs hy ?_
  have hr := m_lacks (E := E) (ax := ax) (vx := vx) (tx := tx) (v := v) (t := t) hs h y (nI i) hF
  iterate 4 refine Rn.step rfl ?_
  refine Rn.calli rfl rfl rfl (by decide) hr (fun w f => ?_)
  iterate 2 refine Rn.step rfl ?_
  refine Rn.br1 rfl f ?_
  iterate 9 refine Rn.step rfl ?_
  refine Rn.calli rfl rfl rfl (by decide) (m_cut y z _) (fun w f => ?_)
  rw [f]
  refine Rn.ast (60 * s + i) rfl (ix_am 60 s i) (by omega) (by decide) (h3 := wY ax vx tx (va_up a 56 (upd (a 56) (60 * s + i) (cutF y z))) v t) rfl ?_
  iterate 1 refine Rn.step rfl ?_
  exact Rn.ret rfl
theorem m_get_bad (x y i : Int32) (hb : ¬ (inB x 4 ∧ inB y 3)) : Rn E 2 mX8_get (0, [(0, .ref 53), (1, .int x), (2, .int y), (3, .int i)], [], wY ax vx tx a v t) (some (.int (-2147483648)), wY ax vx tx a v t) := by
  iterate 1 refine Rn.step rfl ?_
  refine Rn.calli rfl rfl rfl (by decide) (m_isSheet x _) (fun y0 f0 => ?_)
  refine Rn.br rfl (fun p0 => ?_) (fun p0 => ?_)
  · iterate 1 refine Rn.step rfl ?_
    exact Rn.ret rfl
  · rw [f0, ib_ne0] at p0
    iterate 4 refine Rn.step rfl ?_
    refine Rn.calli rfl rfl rfl (by decide) (m_inB y 2 (by decide) _) (fun y1 f1 => ?_)
    have f1 : y1 = ib (inB y 3) := f1
    refine Rn.br1 rfl (by rw [f1]; exact ib_eq0.mpr (fun p => hb ⟨p0, p⟩)) ?_
    iterate 1 refine Rn.step rfl ?_
    exact Rn.ret rfl
theorem m_get_pre {s : Nat} (hs : s < 4) {y : Int32} (hy : inB y 3) {i : Int32} {o : iRes} (kk : Rn E 2 mX8_get (19, [(0, .ref 53), (1, .int (nI s)), (2, .int y), (3, .int i)], [], wY ax vx tx a v t) o) : Rn E 2 mX8_get (0, [(0, .ref 53), (1, .int (nI s)), (2, .int y), (3, .int i)], [], wY ax vx tx a v t) o := by
  iterate 1 refine Rn.step rfl ?_
  refine Rn.calli rfl rfl rfl (by decide) (m_isSheet (nI s) _) (fun y0 f0 => ?_)
  refine Rn.br2 rfl (by rw [f0]; exact ib_ne0.mpr (inB_nI (n := 4) hs (by decide))) ?_
  iterate 4 refine Rn.step rfl ?_
  refine Rn.calli rfl rfl rfl (by decide) (m_inB y 2 (by decide) _) (fun y1 f1 => ?_)
  refine Rn.br2 rfl (by rw [f1]; exact ib_ne0.mpr hy) ?_
  exact kk
theorem m_get_no {s : Nat} (hs : s < 4) (h : RS1 c vc a s) {y : Int32} (hy : inB y 3) (i : Int32) {F : Int32} (hF : F = fdF (vc (14 + s)) (vc (18 + s)) y i) (h0 : ¬ F = 0) : Rn E 2 mX8_get (0, [(0, .ref 53), (1, .int (nI s)), (2, .int y), (3, .int i)], [], wY ax vx tx a v t) (some (.int (-2147483648)), wY ax vx tx a (upd v 30 F) t) := by
  refine m_get_pre hs hy ?_
  have hr := m_lacks (E := E) (ax := ax) (vx := vx) (tx := tx) (v := v) (t := t) hs h y i hF
  rw [show fdA F = -10 - F from if_neg h0, show fdV v F = upd v 30 F from if_neg h0] at hr
  iterate 4 refine Rn.step rfl ?_
  refine Rn.calli rfl rfl rfl (by decide) hr (fun w f => ?_)
  refine Rn.br2 rfl (by rw [f, hF]; exact fdF_ne (by rw [← hF]; exact h0)) ?_
  iterate 1 refine Rn.step rfl ?_
  exact Rn.ret rfl
theorem m_get {s : Nat} (hs : s < 4) (h : RS1 c vc a s) {y : Int32} (hy : inB y 3) {i : Nat} (hi : i < 60) (hF : 0 = fdF (vc (14 + s)) (vc (18 + s)) y (nI i)) : Rn E 2 mX8_get (0, [(0, .ref 53), (1, .int (nI s)), (2, .int y), (3, .int (nI i))], [], wY ax vx tx a v t) (some (.int (a 56 (60 * s + i))), wY ax vx tx a v t) := by
  refine m_get_pre hs hy ?_
  have hr := m_lacks (E := E) (ax := ax) (vx := vx) (tx := tx) (v := v) (t := t) hs h y (nI i) hF
  iterate 4 refine Rn.step rfl ?_
  refine Rn.calli rfl rfl rfl (by decide) hr (fun w f => ?_)
  refine Rn.br1 rfl f ?_
  iterate 7 refine Rn.step rfl ?_
  refine Rn.ald (60 * s + i) rfl (ix_am 60 s i) (by omega) (by decide) ?_
  exact Rn.ret rfl
end MTX
