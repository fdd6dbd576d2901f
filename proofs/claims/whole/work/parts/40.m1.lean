section M1
variable {E : iExtT} {ax : Nat → Nat → Int32} {vx : Nat → Int32} {tx : Nat → Nat → Int64} {a : Nat → Nat → Int32} {v : Nat → Int32} {t : Nat → Nat → Int64}
abbrev wY (ax : Nat → Nat → Int32) (vx : Nat → Int32) (tx : Nat → Nat → Int64) (a : Nat → Nat → Int32) (v : Nat → Int32) (t : Nat → Nat → Int64) : List va_E := wX ax vx tx (wM a v t)
theorem i64_le {x y : Int32} : x.toInt64 ≤ y.toInt64 ↔ x ≤ y := by rw [Int64.le_iff_toInt_le, Int32.le_iff_toInt_le, Int32.toInt_toInt64, Int32.toInt_toInt64]
theorem inB_iff {x : Int32} {c : Nat} (hc : c + 1 < 2 ^ 31) : (0 ≤ x ∧ x ≤ nI c) ↔ inB x (nI (c + 1)) := by
  rw [show inB x (nI (c + 1)) ↔ (0 ≤ x ∧ x < nI (c + 1)) from Iff.rfl, Int32.le_iff_toInt_le (x := x) (y := nI c), Int32.lt_iff_toInt_lt, nI_toInt (by omega), nI_toInt hc]
  have : ((c + 1 : Nat) : Int) = (c : Int) + 1 := rfl
  constructor <;> (rintro ⟨h1, h2⟩; exact ⟨h1, by omega⟩)
theorem in32 {x : Int32} {c : Nat} (hc : c + 1 < 2 ^ 31) : ((0 : Int64) ≤ x.toInt64 ∧ x.toInt64 ≤ lN c) ↔ inB x (nI (c + 1)) := by
  rw [← inB_iff hc, ← nI_l (n := c) (by omega), i64_le, show (0 : Int64) = (0 : Int32).toInt64 from rfl, i64_le]
theorem m_in (x lo hi : Int64) (h : List va_E) : Rn E 0 mX8_in (0, [(0, .long x), (2, .long lo), (4, .long hi)], [], h) (some (.int (ib (lo ≤ x ∧ x ≤ hi))), h) := by
  iterate 3 refine Rn.step rfl ?_
  refine Rn.br rfl (fun h1 => ?_) (fun h1 => ?_)
  · rw [ib_f (fun q => absurd q.1 (Int64.not_le.mpr ((lg_cmp_lt _ _).mp h1)))]
    repeat refine Rn.step rfl ?_
    exact Rn.ret rfl
  · iterate 3 refine Rn.step rfl ?_
    refine Rn.br rfl (fun h2 => ?_) (fun h2 => ?_)
    · rw [ib_f (fun q => absurd q.2 (Int64.not_le.mpr ((lg_cmp_gt _ _).mp h2)))]
      repeat refine Rn.step rfl ?_
      exact Rn.ret rfl
    · rw [ib_t ⟨Int64.not_lt.mp (fun q => h1 ((lg_cmp_lt _ _).mpr q)), Int64.not_lt.mp (fun q => h2 ((lg_cmp_gt _ _).mpr q))⟩]
      repeat refine Rn.step rfl ?_
      exact Rn.ret rfl
theorem m_inB (x : Int32) (c : Nat) (hc : c + 1 < 2 ^ 31) (h : List va_E) : Rn E 0 mX8_in (0, [(0, .long x.toInt64), (2, .long 0), (4, .long (lN c))], [], h) (some (.int (ib (inB x (nI (c + 1))))), h) := by
  have k := m_in (E := E) x.toInt64 0 (lN c) h
  rw [ib_congr (in32 hc)] at k
  exact k
theorem m_isTwo (x : Int32) (h : List va_E) : Rn E 1 mX8_isTwo (0, [(0, .int x)], [], h) (some (.int (ib (inB x 2))), h) := by
  repeat refine Rn.step rfl ?_
  refine Rn.calli rfl rfl rfl (by decide) (m_inB x 1 (by decide) h) (fun z f => ?_)
  have f : z = ib (inB x 2) := f
  rw [← f]
  exact Rn.retb rfl (by rw [f]; exact ib_01 _)
theorem m_isSheet (x : Int32) (h : List va_E) : Rn E 1 mX8_isSheet (0, [(0, .int x)], [], h) (some (.int (ib (inB x 4))), h) := by
  repeat refine Rn.step rfl ?_
  refine Rn.calli rfl rfl rfl (by decide) (m_inB x 3 (by decide) h) (fun z f => ?_)
  have f : z = ib (inB x 4) := f
  rw [← f]
  exact Rn.retb rfl (by rw [f]; exact ib_01 _)
theorem m_isText (x : Int32) (h : List va_E) : Rn E 1 mX8_isText (0, [(0, .int x)], [], h) (some (.int (ib (inB x 3))), h) := by
  repeat refine Rn.step rfl ?_
  refine Rn.calli rfl rfl rfl (by decide) (m_inB x 2 (by decide) h) (fun z f => ?_)
  have f : z = ib (inB x 3) := f
  rw [← f]
  exact Rn.retb rfl (by rw [f]; exact ib_01 _)
theorem m_isSpan (x : Int32) (h : List va_E) : Rn E 1 mX8_isSpan (0, [(0, .int x)], [], h) (some (.int (ib (inB x 16))), h) := by
  repeat refine Rn.step rfl ?_
  refine Rn.calli rfl rfl rfl (by decide) (m_inB x 15 (by decide) h) (fun z f => ?_)
  have f : z = ib (inB x 16) := f
  rw [← f]
  exact Rn.retb rfl (by rw [f]; exact ib_01 _)
theorem m_isMinute (x : Int32) (h : List va_E) : Rn E 1 mX8_isMinute (0, [(0, .int x)], [], h) (some (.int (ib (inB x 24))), h) := by
  repeat refine Rn.step rfl ?_
  refine Rn.calli rfl rfl rfl (by decide) (m_inB x 23 (by decide) h) (fun z f => ?_)
  have f : z = ib (inB x 24) := f
  rw [← f]
  exact Rn.retb rfl (by rw [f]; exact ib_01 _)
theorem m_isLog (x : Int32) {n : Nat} (hn : n ≤ 8) (hv : v 31 = nI n) : Rn E 1 mX8_isLog (0, [(0, .ref 53), (1, .int x)], [], wY ax vx tx a v t) (some (.int (ib (inB x (nI n)))), wY ax vx tx a v t) := by
  have e : ((0 : Int64) ≤ x.toInt64 ∧ x.toInt64 ≤ (v 31 - 1).toInt64) ↔ inB x (nI n) := by
    rw [hv, show (0 : Int64) = (0 : Int32).toInt64 from rfl, i64_le, i64_le]
    cases n with
    | zero =>
      rw [show nI 0 - 1 = -1 from rfl, show inB x (nI 0) ↔ (0 ≤ x ∧ x < nI 0) from Iff.rfl, Int32.le_iff_toInt_le, Int32.le_iff_toInt_le, Int32.lt_iff_toInt_lt]
      rw [show (nI 0).toInt = 0 from rfl, show (0 : Int32).toInt = 0 from rfl, show (-1 : Int32).toInt = -1 from rfl]
      constructor <;> (rintro ⟨h1, h2⟩; exact ⟨h1, by omega⟩)
    | succ c => rw [nI_pred]; exact inB_iff (by omega)
  iterate 8 refine Rn.step rfl ?_
  refine Rn.calli rfl rfl rfl (by decide) (m_in _ _ _ _) (fun z f => ?_)
  rw [ib_congr e] at f
  rw [← f]
  exact Rn.retb rfl (by rw [f]; exact ib_01 _)
theorem m_isIn (x : Int32) (e : Nat) (h : List va_E) : Rn E 0 mX8_isIn (0, [(0, .int x), (1, .int (nI e))], [], h) (some (.int (ib (bt x e))), h) := by
  iterate 6 refine Rn.step rfl ?_
  refine Rn.br rfl (fun h1 => ?_) (fun h1 => ?_)
  · rw [ib_f h1]
    repeat refine Rn.step rfl ?_
    exact Rn.ret rfl
  · rw [ib_t (Decidable.not_not.mp h1)]
    repeat refine Rn.step rfl ?_
    exact Rn.ret rfl
theorem m_lesser (x y : Int32) (h : List va_E) : Rn E 0 mX8_lesser (0, [(0, .int x), (1, .int y)], [], h) (some (.int (if x < y then x else y)), h) := by
  iterate 2 refine Rn.step rfl ?_
  refine Rn.br rfl (fun h1 => ?_) (fun h1 => ?_)
  · rw [if_neg (Int32.not_lt.mpr h1)]
    repeat refine Rn.step rfl ?_
    exact Rn.ret rfl
  · rw [if_pos (Int32.not_le.mp h1)]
    repeat refine Rn.step rfl ?_
    exact Rn.ret rfl
theorem m_greater (x y : Int32) (h : List va_E) : Rn E 0 mX8_greater (0, [(0, .int x), (1, .int y)], [], h) (some (.int (if y < x then x else y)), h) := by
  iterate 2 refine Rn.step rfl ?_
  refine Rn.br rfl (fun h1 => ?_) (fun h1 => ?_)
  · rw [if_neg (Int32.not_lt.mpr h1)]
    repeat refine Rn.step rfl ?_
    exact Rn.ret rfl
  · rw [if_pos (Int32.not_le.mp h1)]
    repeat refine Rn.step rfl ?_
    exact Rn.ret rfl
theorem m_no (x : Int32) (h : List va_E) : Rn E 0 mX8_no (0, [(0, .int x)], [], h) (some (.long (-9223372036854775808 - x.toInt64)), h) := by
  repeat refine Rn.step rfl ?_
  exact Rn.ret rfl
theorem m_finds (k : Int32) : Rn E 0 mX8_finds (0, [(0, .ref 53), (1, .int k)], [], wY ax vx tx a v t) (some (.int (-10 - k)), wY ax vx tx a (upd v 30 k) t) := by
  repeat refine Rn.step rfl ?_
  exact Rn.ret rfl
theorem m_cut (fm x : Int32) (h : List va_E) : Rn E 0 mX8_cut (0, [(0, .int fm), (1, .int x)], [], h) (some (.int (cutF fm x)), h) := by
  unfold cutF
  refine Rn.step rfl ?_
  refine Rn.br rfl (fun h1 => ?_) (fun h1 => ?_)
  · rw [if_neg h1]
    iterate 2 refine Rn.step rfl ?_
    refine Rn.br rfl (fun h2 => ?_) (fun h2 => ?_)
    · rw [if_neg h2]
      repeat refine Rn.step rfl ?_
      exact Rn.ret rfl
    · rw [if_pos (Decidable.not_not.mp h2)]
      repeat refine Rn.step rfl ?_
      exact Rn.ret rfl
  · rw [if_pos (Decidable.not_not.mp h1)]
    repeat refine Rn.step rfl ?_
    exact Rn.ret rfl
theorem m_type_bad (x b : Int32) (hb : ¬ (inB x 3 ∧ inB b 256)) : Rn E 2 mX8_type (0, [(0, .ref 53), (1, .int x), (2, .int b)], [], wY ax vx tx a v t) (some (.int (-2)), wY ax vx tx a v t) := by
  refine Rn.step rfl ?_
  refine Rn.calli rfl rfl rfl (by decide) (m_isText x _) (fun z1 f1 => ?_)
  refine Rn.br rfl (fun h1 => ?_) (fun h1 => ?_)
  · repeat refine Rn.step rfl ?_
    exact Rn.ret rfl
  · repeat refine Rn.step rfl ?_
    refine Rn.calli rfl rfl rfl (by decide) (m_inB b 255 (by decide) _) (fun z2 f2 => ?_)
    refine Rn.br2 rfl (fun h2 => hb ⟨ib_ne0.mp (f1 ▸ h1), ib_ne0.mp (f2 ▸ h2)⟩) ?_
    repeat refine Rn.step rfl ?_
    exact Rn.ret rfl
theorem m_wipe_bad (x : Int32) (hb : ¬ inB x 3) : Rn E 2 mX8_wipe (0, [(0, .ref 53), (1, .int x)], [], wY ax vx tx a v t) (some (.int (-2)), wY ax vx tx a v t) := by
  refine Rn.step rfl ?_
  refine Rn.calli rfl rfl rfl (by decide) (m_isText x _) (fun z1 f1 => ?_)
  refine Rn.br2 rfl (fun h1 => hb (ib_ne0.mp (f1 ▸ h1))) ?_
  repeat refine Rn.step rfl ?_
  exact Rn.ret rfl
theorem m_undo_bad (x : Int32) (hb : ¬ inB x 3) : Rn E 2 mX8_undo (0, [(0, .ref 53), (1, .int x)], [], wY ax vx tx a v t) (some (.int (-2)), wY ax vx tx a v t) := by
  refine Rn.step rfl ?_
  refine Rn.calli rfl rfl rfl (by decide) (m_isText x _) (fun z1 f1 => ?_)
  refine Rn.br2 rfl (fun h1 => hb (ib_ne0.mp (f1 ▸ h1))) ?_
  repeat refine Rn.step rfl ?_
  exact Rn.ret rfl
theorem m_type0_full (b : Int32) (hb : inB b 256) (hz : a 59 0 = nI 16) : Rn E 2 mX8_type (0, [(0, .ref 53), (1, .int 0), (2, .int b)], [], wY ax vx tx a v t) (some (.int (-4)), wY ax vx tx a v t) := by
  refine Rn.step rfl ?_
  refine Rn.calli rfl rfl rfl (by decide) (m_isText 0 _) (fun z1 f1 => ?_)
  refine Rn.br2 rfl (by rw [f1]; decide) ?_
  repeat refine Rn.step rfl ?_
  refine Rn.calli rfl rfl rfl (by decide) (m_inB b 255 (by decide) _) (fun z2 f2 => ?_)
  refine Rn.br1 rfl (by rw [f2, ib_ne0]; exact hb) ?_
  repeat refine Rn.step rfl ?_
  refine Rn.br2 rfl (fun q => q hz) ?_
  repeat refine Rn.step rfl ?_
  exact Rn.ret rfl
theorem m_type0 (b : Int32) (hb : inB b 256) {z : Nat} (hz : a 59 0 = nI z) (hz2 : z < 16) : Rn E 2 mX8_type (0, [(0, .ref 53), (1, .int 0), (2, .int b)], [], wY ax vx tx a v t) (some (.int (nI (z + 1))), wY ax vx tx (va_up (va_up a 58 (upd (a 58) (0 + z) b)) 59 (upd (a 59) 0 (nI (z + 1)))) v t) := by
  refine Rn.step rfl ?_
  refine Rn.calli rfl rfl rfl (by decide) (m_isText 0 _) (fun z1 f1 => ?_)
  refine Rn.br2 rfl (by rw [f1]; decide) ?_
  repeat refine Rn.step rfl ?_
  refine Rn.calli rfl rfl rfl (by decide) (m_inB b 255 (by decide) _) (fun z2 f2 => ?_)
  refine Rn.br1 rfl (by rw [f2, ib_ne0]; exact hb) ?_
  repeat refine Rn.step rfl ?_
  refine Rn.br1 rfl (by rw [show a 59 (Int32.toNatClampNeg 0) = nI z from hz]; exact fun q => absurd ((nI_eq (b := 16) (by omega) (by decide)).mp q) (by omega)) ?_
  iterate 9 refine Rn.step rfl ?_
  refine Rn.top (x' := nI z) hz ?_
  iterate 2 refine Rn.step rfl ?_
  refine Rn.ast (0 + z) rfl (nI_add 0 z) (by omega) (by decide) (h3 := wY ax vx tx (va_up a 58 (upd (a 58) (0 + z) b)) v t) rfl ?_
  iterate 5 refine Rn.step rfl ?_
  refine Rn.top (x' := nI z) hz ?_
  iterate 2 refine Rn.step rfl ?_
  refine Rn.top (nI_1 z) ?_
  refine Rn.step rfl ?_
  refine Rn.hp (h2 := wY ax vx tx (va_up (va_up a 58 (upd (a 58) (0 + z) b)) 59 (upd (a 59) 0 (nI (z + 1)))) v t) rfl ?_
  repeat refine Rn.step rfl ?_
  exact Rn.ret rfl
theorem m_wipe0 : Rn E 2 mX8_wipe (0, [(0, .ref 53), (1, .int 0)], [], wY ax vx tx a v t) (some (.int (a 59 0)), wY ax vx tx (va_up a 59 (upd (a 59) 0 0)) v t) := by
  refine Rn.step rfl ?_
  refine Rn.calli rfl rfl rfl (by decide) (m_isText 0 _) (fun z1 f1 => ?_)
  refine Rn.br1 rfl (by rw [f1]; decide) ?_
  repeat refine Rn.step rfl ?_
  exact Rn.ret rfl
theorem m_undo0_not (hz : a 59 0 = 0) : Rn E 2 mX8_undo (0, [(0, .ref 53), (1, .int 0)], [], wY ax vx tx a v t) (some (.int (-3)), wY ax vx tx a v t) := by
  refine Rn.step rfl ?_
  refine Rn.calli rfl rfl rfl (by decide) (m_isText 0 _) (fun z1 f1 => ?_)
  refine Rn.br1 rfl (by rw [f1]; decide) ?_
  repeat refine Rn.step rfl ?_
  refine Rn.br2 rfl (fun q => q hz) ?_
  repeat refine Rn.step rfl ?_
  exact Rn.ret rfl
theorem m_undo0 {z : Nat} (hz : a 59 0 = nI (z + 1)) (hz2 : z < 16) : Rn E 2 mX8_undo (0, [(0, .ref 53), (1, .int 0)], [], wY ax vx tx a v t) (some (.int (nI z)), wY ax vx tx (va_up a 59 (upd (a 59) 0 (nI z))) v t) := by
  refine Rn.step rfl ?_
  refine Rn.calli rfl rfl rfl (by decide) (m_isText 0 _) (fun z1 f1 => ?_)
  refine Rn.br1 rfl (by rw [f1]; decide) ?_
  repeat refine Rn.step rfl ?_
  refine Rn.br1 rfl (by rw [show a 59 (Int32.toNatClampNeg 0) = nI (z + 1) from hz]; exact nI_ne0 (by omega) (by omega)) ?_
  iterate 7 refine Rn.step rfl ?_
  refine Rn.top (x' := nI z) (by show a 59 0 - 1 = _; rw [hz]; exact nI_pred z) ?_
  refine Rn.step rfl ?_
  refine Rn.hp (h2 := wY ax vx tx (va_up a 59 (upd (a 59) 0 (nI z))) v t) rfl ?_
  repeat refine Rn.step rfl ?_
  exact Rn.ret rfl
theorem m_type1_full (b : Int32) (hb : inB b 256) (hz : a 59 1 = nI 16) : Rn E 2 mX8_type (0, [(0, .ref 53), (1, .int 1), (2, .int b)], [], wY ax vx tx a v t) (some (.int (-4)), wY ax vx tx a v t) := by
  refine Rn.step rfl ?_
  refine Rn.calli rfl rfl rfl (by decide) (m_isText 1 _) (fun z1 f1 => ?_)
  refine Rn.br2 rfl (by rw [f1]; decide) ?_
  repeat refine Rn.step rfl ?_
  refine Rn.calli rfl rfl rfl (by decide) (m_inB b 255 (by decide) _) (fun z2 f2 => ?_)
  refine Rn.br1 rfl (by rw [f2, ib_ne0]; exact hb) ?_
  repeat refine Rn.step rfl ?_
  refine Rn.br2 rfl (fun q => q hz) ?_
  repeat refine Rn.step rfl ?_
  exact Rn.ret rfl
theorem m_type1 (b : Int32) (hb : inB b 256) {z : Nat} (hz : a 59 1 = nI z) (hz2 : z < 16) : Rn E 2 mX8_type (0, [(0, .ref 53), (1, .int 1), (2, .int b)], [], wY ax vx tx a v t) (some (.int (nI (z + 1))), wY ax vx tx (va_up (va_up a 58 (upd (a 58) (32 + z) b)) 59 (upd (a 59) 1 (nI (z + 1)))) v t) := by
  refine Rn.step rfl ?_
  refine Rn.calli rfl rfl rfl (by decide) (m_isText 1 _) (fun z1 f1 => ?_)
  refine Rn.br2 rfl (by rw [f1]; decide) ?_
  repeat refine Rn.step rfl ?_
  refine Rn.calli rfl rfl rfl (by decide) (m_inB b 255 (by decide) _) (fun z2 f2 => ?_)
  refine Rn.br1 rfl (by rw [f2, ib_ne0]; exact hb) ?_
  repeat refine Rn.step rfl ?_
  refine Rn.br1 rfl (by rw [show a 59 (Int32.toNatClampNeg 1) = nI z from hz]; exact fun q => absurd ((nI_eq (b := 16) (by omega) (by decide)).mp q) (by omega)) ?_
  iterate 9 refine Rn.step rfl ?_
  refine Rn.top (x' := nI z) hz ?_
  iterate 2 refine Rn.step rfl ?_
  refine Rn.ast (32 + z) rfl (nI_add 32 z) (by omega) (by decide) (h3 := wY ax vx tx (va_up a 58 (upd (a 58) (32 + z) b)) v t) rfl ?_
  iterate 5 refine Rn.step rfl ?_
  refine Rn.top (x' := nI z) hz ?_
  iterate 2 refine Rn.step rfl ?_
  refine Rn.top (nI_1 z) ?_
  refine Rn.step rfl ?_
  refine Rn.hp (h2 := wY ax vx tx (va_up (va_up a 58 (upd (a 58) (32 + z) b)) 59 (upd (a 59) 1 (nI (z + 1)))) v t) rfl ?_
  repeat refine Rn.step rfl ?_
  exact Rn.ret rfl
theorem m_wipe1 : Rn E 2 mX8_wipe (0, [(0, .ref 53), (1, .int 1)], [], wY ax vx tx a v t) (some (.int (a 59 1)), wY ax vx tx (va_up a 59 (upd (a 59) 1 0)) v t) := by
  refine Rn.step rfl ?_
  refine Rn.calli rfl rfl rfl (by decide) (m_isText 1 _) (fun z1 f1 => ?_)
  refine Rn.br1 rfl (by rw [f1]; decide) ?_
  repeat refine Rn.step rfl ?_
  exact Rn.ret rfl
theorem m_undo1_not (hz : a 59 1 = 0) : Rn E 2 mX8_undo (0, [(0, .ref 53), (1, .int 1)], [], wY ax vx tx a v t) (some (.int (-3)), wY ax vx tx a v t) := by
  refine Rn.step rfl ?_
  refine Rn.calli rfl rfl rfl (by decide) (m_isText 1 _) (fun z1 f1 => ?_)
  refine Rn.br1 rfl (by rw [f1]; decide) ?_
  repeat refine Rn.step rfl ?_
  refine Rn.br2 rfl (fun q => q hz) ?_
  repeat refine Rn.step rfl ?_
  exact Rn.ret rfl
theorem m_undo1 {z : Nat} (hz : a 59 1 = nI (z + 1)) (hz2 : z < 16) : Rn E 2 mX8_undo (0, [(0, .ref 53), (1, .int 1)], [], wY ax vx tx a v t) (some (.int (nI z)), wY ax vx tx (va_up a 59 (upd (a 59) 1 (nI z))) v t) := by
  refine Rn.step rfl ?_
  refine Rn.calli rfl rfl rfl (by decide) (m_isText 1 _) (fun z1 f1 => ?_)
  refine Rn.br1 rfl (by rw [f1]; decide) ?_
  repeat refine Rn.step rfl ?_
  refine Rn.br1 rfl (by rw [show a 59 (Int32.toNatClampNeg 1) = nI (z + 1) from hz]; exact nI_ne0 (by omega) (by omega)) ?_
  iterate 7 refine Rn.step rfl ?_
  refine Rn.top (x' := nI z) (by show a 59 1 - 1 = _; rw [hz]; exact nI_pred z) ?_
  refine Rn.step rfl ?_
  refine Rn.hp (h2 := wY ax vx tx (va_up a 59 (upd (a 59) 1 (nI z))) v t) rfl ?_
  repeat refine Rn.step rfl ?_
  exact Rn.ret rfl
theorem m_type2_full (b : Int32) (hb : inB b 256) (hz : a 59 2 = nI 31) : Rn E 2 mX8_type (0, [(0, .ref 53), (1, .int 2), (2, .int b)], [], wY ax vx tx a v t) (some (.int (-4)), wY ax vx tx a v t) := by
  refine Rn.step rfl ?_
  refine Rn.calli rfl rfl rfl (by decide) (m_isText 2 _) (fun z1 f1 => ?_)
  refine Rn.br2 rfl (by rw [f1]; decide) ?_
  repeat refine Rn.step rfl ?_
  refine Rn.calli rfl rfl rfl (by decide) (m_inB b 255 (by decide) _) (fun z2 f2 => ?_)
  refine Rn.br1 rfl (by rw [f2, ib_ne0]; exact hb) ?_
  repeat refine Rn.step rfl ?_
  refine Rn.br2 rfl (fun q => q hz) ?_
  repeat refine Rn.step rfl ?_
  exact Rn.ret rfl
theorem m_type2 (b : Int32) (hb : inB b 256) {z : Nat} (hz : a 59 2 = nI z) (hz2 : z < 31) : Rn E 2 mX8_type (0, [(0, .ref 53), (1, .int 2), (2, .int b)], [], wY ax vx tx a v t) (some (.int (nI (z + 1))), wY ax vx tx (va_up (va_up a 58 (upd (a 58) (64 + z) b)) 59 (upd (a 59) 2 (nI (z + 1)))) v t) := by
  refine Rn.step rfl ?_
  refine Rn.calli rfl rfl rfl (by decide) (m_isText 2 _) (fun z1 f1 => ?_)
  refine Rn.br2 rfl (by rw [f1]; decide) ?_
  repeat refine Rn.step rfl ?_
  refine Rn.calli rfl rfl rfl (by decide) (m_inB b 255 (by decide) _) (fun z2 f2 => ?_)
  refine Rn.br1 rfl (by rw [f2, ib_ne0]; exact hb) ?_
  repeat refine Rn.step rfl ?_
  refine Rn.br1 rfl (by rw [show a 59 (Int32.toNatClampNeg 2) = nI z from hz]; exact fun q => absurd ((nI_eq (b := 31) (by omega) (by decide)).mp q) (by omega)) ?_
  iterate 9 refine Rn.step rfl ?_
  refine Rn.top (x' := nI z) hz ?_
  iterate 2 refine Rn.step rfl ?_
  refine Rn.ast (64 + z) rfl (nI_add 64 z) (by omega) (by decide) (h3 := wY ax vx tx (va_up a 58 (upd (a 58) (64 + z) b)) v t) rfl ?_
  iterate 5 refine Rn.step rfl ?_
  refine Rn.top (x' := nI z) hz ?_
  iterate 2 refine Rn.step rfl ?_
  refine Rn.top (nI_1 z) ?_
  refine Rn.step rfl ?_
  refine Rn.hp (h2 := wY ax vx tx (va_up (va_up a 58 (upd (a 58) (64 + z) b)) 59 (upd (a 59) 2 (nI (z + 1)))) v t) rfl ?_
  repeat refine Rn.step rfl ?_
  exact Rn.ret rfl
theorem m_wipe2 : Rn E 2 mX8_wipe (0, [(0, .ref 53), (1, .int 2)], [], wY ax vx tx a v t) (some (.int (a 59 2)), wY ax vx tx (va_up a 59 (upd (a 59) 2 0)) v t) := by
  refine Rn.step rfl ?_
  refine Rn.calli rfl rfl rfl (by decide) (m_isText 2 _) (fun z1 f1 => ?_)
  refine Rn.br1 rfl (by rw [f1]; decide) ?_
  repeat refine Rn.step rfl ?_
  exact Rn.ret rfl
theorem m_undo2_not (hz : a 59 2 = 0) : Rn E 2 mX8_undo (0, [(0, .ref 53), (1, .int 2)], [], wY ax vx tx a v t) (some (.int (-3)), wY ax vx tx a v t) := by
  refine Rn.step rfl ?_
  refine Rn.calli rfl rfl rfl (by decide) (m_isText 2 _) (fun z1 f1 => ?_)
  refine Rn.br1 rfl (by rw [f1]; decide) ?_
  repeat refine Rn.step rfl ?_
  refine Rn.br2 rfl (fun q => q hz) ?_
  repeat refine Rn.step rfl ?_
  exact Rn.ret rfl
theorem m_undo2 {z : Nat} (hz : a 59 2 = nI (z + 1)) (hz2 : z < 31) : Rn E 2 mX8_undo (0, [(0, .ref 53), (1, .int 2)], [], wY ax vx tx a v t) (some (.int (nI z)), wY ax vx tx (va_up a 59 (upd (a 59) 2 (nI z))) v t) := by
  refine Rn.step rfl ?_
  refine Rn.calli rfl rfl rfl (by decide) (m_isText 2 _) (fun z1 f1 => ?_)
  refine Rn.br1 rfl (by rw [f1]; decide) ?_
  repeat refine Rn.step rfl ?_
  refine Rn.br1 rfl (by rw [show a 59 (Int32.toNatClampNeg 2) = nI (z + 1) from hz]; exact nI_ne0 (by omega) (by omega)) ?_
  iterate 7 refine Rn.step rfl ?_
  refine Rn.top (x' := nI z) (by show a 59 2 - 1 = _; rw [hz]; exact nI_pred z) ?_
  refine Rn.step rfl ?_
  refine Rn.hp (h2 := wY ax vx tx (va_up a 59 (upd (a 59) 2 (nI z))) v t) rfl ?_
  repeat refine Rn.step rfl ?_
  exact Rn.ret rfl
theorem m_figureOf (b : Int32) (lo hi : Nat) (hlo : lo < 100) (hhi : hi < 100) (h : List va_E) : Rn E 1 mX8_figureOf (0, [(0, .int b), (1, .int (nI lo)), (2, .int (nI hi))], [], h) (some (.int (if b < nI (48 + lo) ∨ nI (48 + hi) < b then -9 else b - 48)), h) := by
  iterate 10 refine Rn.step rfl ?_
  refine Rn.calli rfl rfl rfl (by decide) (m_in _ _ _ _) (fun z f => ?_)
  rw [show (48 : Int32) = nI 48 from rfl] at f
  rw [show (((fun x y => x + y) (nI 48) (nI lo) : Int32)) = nI (48 + lo) from nI_add _ _, show (((fun x y => x + y) (nI 48) (nI hi) : Int32)) = nI (48 + hi) from nI_add _ _, ib_congr (and_congr i64_le i64_le)] at f
  refine Rn.br rfl (fun h1 => ?_) (fun h1 => ?_)
  · rw [f, ib_eq0] at h1
    rw [if_pos (by
      rcases Decidable.em (b < nI (48 + lo)) with q | q
      · exact Or.inl q
      · exact Or.inr (Int32.not_le.mp (fun q2 => h1 ⟨Int32.not_lt.mp q, q2⟩)))]
    repeat refine Rn.step rfl ?_
    exact Rn.ret rfl
  · rw [f, ib_ne0] at h1
    rw [if_neg (by rintro (q | q); exact absurd h1.1 (Int32.not_le.mpr q); exact absurd h1.2 (Int32.not_le.mpr q))]
    repeat refine Rn.step rfl ?_
    exact Rn.ret rfl
theorem m_gentle (f0 : Nat → Int32) (h : List va_E) (hh : h = wY ax vx tx (va_up a 60 f0) v t) : ∃ g, Rn E 0 mX8_gentle (0, [(0, .ref 53)], [], h) (none, wY ax vx tx (va_up a 60 g) v t) ∧ ∀ s, s < 16 → g s = 1 := by
  refine ⟨lp (fun i g => upd g i 1) 0 16 f0, ?_, fun s hs => ?_⟩
  · rw [hh]
    iterate 2 refine Rn.step rfl ?_
    refine Rn.lp (σ := Nat → Int32) (cfg := fun i g => (2, [(1, .int (nI i)), (0, .ref 53)], [], wY ax vx tx (va_up a 60 g) v t)) (f := fun i g => upd g i 1) (n := 16) (fun _ _ => True) (fun i g hi _ => ⟨trivial, fun kk => ?_⟩) 16 0 f0 rfl trivial (fun g0 hg0 _ => ?_)
    · rw [nI_succ] at kk
      iterate 2 refine Rn.step rfl ?_
      refine Rn.br2 rfl (nle hi (by decide)) ?_
      iterate 4 refine Rn.step rfl ?_
      refine Rn.ast i rfl rfl hi (by decide) (h3 := wY ax vx tx (va_up a 60 (upd g i 1)) v t) rfl ?_
      iterate 2 refine Rn.step rfl ?_
      exact kk
    · subst hg0
      repeat refine Rn.step rfl ?_
      exact Rn.ret rfl
  · have h := lp_inv (f := fun m (g : Nat → Int32) => upd g m 1) (fun i g => ∀ m, m < i → g m = 1) (i := 0) (j := 16) (s := f0) (fun m h => absurd h (Nat.not_lt_zero _)) (fun k g _ _ hI m hm => by
      by_cases hx : m = k
      · subst hx; exact pk_us
      · rw [pk_un hx]; exact hI m (by omega))
    exact h s (by omega)
theorem m_dries (f0 : Nat → Int32) (h : List va_E) (hh : h = wY ax vx tx (va_up a 61 f0) v t) : ∃ g, Rn E 0 mX8_dries (0, [(0, .ref 53)], [], h) (none, wY ax vx tx (va_up a 61 g) v t) ∧ ∀ s, s < 16 → g s = 0 := by
  refine ⟨lp (fun i g => upd g i 0) 0 16 f0, ?_, fun s hs => ?_⟩
  · rw [hh]
    iterate 2 refine Rn.step rfl ?_
    refine Rn.lp (σ := Nat → Int32) (cfg := fun i g => (2, [(1, .int (nI i)), (0, .ref 53)], [], wY ax vx tx (va_up a 61 g) v t)) (f := fun i g => upd g i 0) (n := 16) (fun _ _ => True) (fun i g hi _ => ⟨trivial, fun kk => ?_⟩) 16 0 f0 rfl trivial (fun g0 hg0 _ => ?_)
    · rw [nI_succ] at kk
      iterate 2 refine Rn.step rfl ?_
      refine Rn.br2 rfl (nle hi (by decide)) ?_
      iterate 4 refine Rn.step rfl ?_
      refine Rn.ast i rfl rfl hi (by decide) (h3 := wY ax vx tx (va_up a 61 (upd g i 0)) v t) rfl ?_
      iterate 2 refine Rn.step rfl ?_
      exact kk
    · subst hg0
      repeat refine Rn.step rfl ?_
      exact Rn.ret rfl
  · have h := lp_inv (f := fun m (g : Nat → Int32) => upd g m 0) (fun i g => ∀ m, m < i → g m = 0) (i := 0) (j := 16) (s := f0) (fun m h => absurd h (Nat.not_lt_zero _)) (fun k g _ _ hI m hm => by
      by_cases hx : m = k
      · subst hx; exact pk_us
      · rw [pk_un hx]; exact hI m (by omega))
    exact h s (by omega)
theorem m_readsSlopes {z : Nat} (hz : a 59 0 = nI z) (hz2 : z ≤ 16) : ∃ g, Rn E 2 mX8_readsSlopes (0, [(0, .ref 53)], [], wY ax vx tx a v t) (some (.int (ffg (a 58) 49 51 0 z)), wY ax vx tx (va_up a 60 g) v t) ∧ ∀ s, s < 16 → g s = rwF (a 58) z (ffg (a 58) 49 51 0 z) 1 s := by
  have key : ∀ (j i : Nat) (g : Nat → Int32), i + j = z → (∀ s, s < 16 → g s = if s < i then (a 58) s - 48 else 1) → ∃ g', Rn E 2 mX8_readsSlopes (6, [(1, .int (nI i)), (0, .ref 53)], [], wY ax vx tx (va_up a 60 g) v t) (some (.int (ffg (a 58) 49 51 i j)), wY ax vx tx (va_up a 60 g') v t) ∧ ∀ s, s < 16 → g' s = rwF (a 58) z (ffg (a 58) 49 51 i j) 1 s := by
    intro j
    induction j with
    | zero =>
      intro i g hi hg
      refine ⟨g, ?_, fun s hs => ?_⟩
      · iterate 4 refine Rn.step rfl ?_
        refine Rn.step rfl ?_
        refine Rn.br1 rfl (by show a 59 0 ≤ nI i; rw [hz]; exact nI_le (by omega) (by omega)) ?_
        repeat refine Rn.step rfl ?_
        exact Rn.ret rfl
      · rw [hg s hs, show i = z by omega]
        unfold rwF ffg
        by_cases h : s < z
        · rw [if_pos h, if_pos ⟨rfl, h⟩]
        · rw [if_neg h, if_neg (fun q => h q.2)]
    | succ j ih =>
      intro i g hi hg
      have hrun : ∀ o, Rn E 2 mX8_readsSlopes (28, [(2, .int (if a 58 i < 49 ∨ 51 < a 58 i then -9 else a 58 i - 48)), (1, .int (nI i)), (0, .ref 53)], [], wY ax vx tx (va_up a 60 g) v t) o → Rn E 2 mX8_readsSlopes (6, [(1, .int (nI i)), (0, .ref 53)], [], wY ax vx tx (va_up a 60 g) v t) o := by
        intro o k
        iterate 4 refine Rn.step rfl ?_
        refine Rn.step rfl ?_
        refine Rn.br2 rfl (by show ¬ a 59 0 ≤ nI i; rw [hz]; exact nle (by omega) (by omega)) ?_
        repeat refine Rn.step rfl ?_
        refine Rn.ald i rfl rfl (by omega) (by decide) ?_
        repeat refine Rn.step rfl ?_
        refine Rn.calli rfl rfl rfl (by decide) (m_figureOf (a 58 i) 1 3 (by decide) (by decide) _) (fun z1 f1 => ?_)
        have f1 : z1 = if a 58 i < 49 ∨ 51 < a 58 i then -9 else a 58 i - 48 := f1
        rw [← f1] at k
        refine Rn.step rfl ?_
        exact k
      unfold ffg
      by_cases hc : a 58 i < 49 ∨ 51 < a 58 i
      · rw [if_pos hc]
        rw [if_pos hc] at hrun
        obtain ⟨g', hr, hg'⟩ := m_gentle (E := E) (ax := ax) (vx := vx) (tx := tx) (a := a) (v := v) (t := t) g _ rfl
        refine ⟨g', hrun _ ?_, fun s hs => ?_⟩
        · repeat refine Rn.step rfl ?_
          refine Rn.callv rfl rfl rfl (by decide) hr ?_
          repeat refine Rn.step rfl ?_
          exact Rn.ret rfl
        · rw [hg' s hs]
          unfold rwF
          rw [if_neg (fun q => nI_ne1 (by omega) q.1)]
      · rw [if_neg hc]
        rw [if_neg hc] at hrun
        obtain ⟨g', hr, hg'⟩ := ih (i + 1) (upd g i (a 58 i - 48)) (by omega) (fun s hs => by
          by_cases h : s = i
          · subst h; rw [pk_us, if_pos (by omega)]
          · rw [pk_un h, hg s hs]
            by_cases h2 : s < i
            · rw [if_pos h2, if_pos (by omega)]
            · rw [if_neg h2, if_neg (by omega)])
        refine ⟨g', hrun _ ?_, hg'⟩
        have hne : ¬ (a 58 i - 48 = -9) := by
          intro q
          have q1 : ¬ a 58 i < 49 := fun h => hc (Or.inl h)
          rw [show a 58 i = (a 58 i - 48) + 48 from (Int32.sub_add_cancel _ _).symm, q] at q1
          exact q1 (by decide)
        iterate 2 refine Rn.step rfl ?_
        refine Rn.br1 rfl hne ?_
        iterate 4 refine Rn.step rfl ?_
        refine Rn.ast i rfl rfl (by omega) (by decide) (h3 := wY ax vx tx (va_up a 60 (upd g i (a 58 i - 48))) v t) rfl ?_
        iterate 2 refine Rn.step rfl ?_
        rw [nI_succ] at hr
        exact Rn.sub (by exact ⟨rfl, rfl, trivial⟩) hr
  obtain ⟨g0, hr0, hg0⟩ := m_gentle (E := E) (ax := ax) (vx := vx) (tx := tx) (a := a) (v := v) (t := t) (a 60) (wY ax vx tx a v t) rfl
  obtain ⟨g', hr, hg'⟩ := key z 0 g0 (by omega) (fun s hs => by rw [hg0 s hs, if_neg (Nat.not_lt_zero _)])
  refine ⟨g', ?_, hg'⟩
  refine Rn.step rfl ?_
  refine Rn.callv rfl rfl rfl (by decide) hr0 ?_
  iterate 2 refine Rn.step rfl ?_
  exact hr
theorem m_readsFeeders {z : Nat} (hz : a 59 1 = nI z) (hz2 : z ≤ 16) : ∃ g, Rn E 2 mX8_readsFeeders (0, [(0, .ref 53)], [], wY ax vx tx a v t) (some (.int (ffg (fun i => a 58 (32 + i)) 48 57 0 z)), wY ax vx tx (va_up a 61 g) v t) ∧ ∀ s, s < 16 → g s = rwF (fun i => a 58 (32 + i)) z (ffg (fun i => a 58 (32 + i)) 48 57 0 z) 0 s := by
  have key : ∀ (j i : Nat) (g : Nat → Int32), i + j = z → (∀ s, s < 16 → g s = if s < i then (fun i => a 58 (32 + i)) s - 48 else 0) → ∃ g', Rn E 2 mX8_readsFeeders (6, [(1, .int (nI i)), (0, .ref 53)], [], wY ax vx tx (va_up a 61 g) v t) (some (.int (ffg (fun i => a 58 (32 + i)) 48 57 i j)), wY ax vx tx (va_up a 61 g') v t) ∧ ∀ s, s < 16 → g' s = rwF (fun i => a 58 (32 + i)) z (ffg (fun i => a 58 (32 + i)) 48 57 i j) 0 s := by
    intro j
    induction j with
    | zero =>
      intro i g hi hg
      refine ⟨g, ?_, fun s hs => ?_⟩
      · iterate 4 refine Rn.step rfl ?_
        refine Rn.step rfl ?_
        refine Rn.br1 rfl (by show a 59 1 ≤ nI i; rw [hz]; exact nI_le (by omega) (by omega)) ?_
        repeat refine Rn.step rfl ?_
        exact Rn.ret rfl
      · rw [hg s hs, show i = z by omega]
        unfold rwF ffg
        by_cases h : s < z
        · rw [if_pos h, if_pos ⟨rfl, h⟩]
        · rw [if_neg h, if_neg (fun q => h q.2)]
    | succ j ih =>
      intro i g hi hg
      have hrun : ∀ o, Rn E 2 mX8_readsFeeders (32, [(2, .int (if a 58 (32 + i) < 48 ∨ 57 < a 58 (32 + i) then -9 else a 58 (32 + i) - 48)), (1, .int (nI i)), (0, .ref 53)], [], wY ax vx tx (va_up a 61 g) v t) o → Rn E 2 mX8_readsFeeders (6, [(1, .int (nI i)), (0, .ref 53)], [], wY ax vx tx (va_up a 61 g) v t) o := by
        intro o k
        iterate 4 refine Rn.step rfl ?_
        refine Rn.step rfl ?_
        refine Rn.br2 rfl (by show ¬ a 59 1 ≤ nI i; rw [hz]; exact nle (by omega) (by omega)) ?_
        repeat refine Rn.step rfl ?_
        refine Rn.ald (32 + i) rfl (nI_add 32 i) (by omega) (by decide) ?_
        repeat refine Rn.step rfl ?_
        refine Rn.calli rfl rfl rfl (by decide) (m_figureOf (a 58 (32 + i)) 0 9 (by decide) (by decide) _) (fun z1 f1 => ?_)
        have f1 : z1 = if a 58 (32 + i) < 48 ∨ 57 < a 58 (32 + i) then -9 else a 58 (32 + i) - 48 := f1
        rw [← f1] at k
        refine Rn.step rfl ?_
        exact k
      unfold ffg
      by_cases hc : a 58 (32 + i) < 48 ∨ 57 < a 58 (32 + i)
      · rw [if_pos hc]
        rw [if_pos hc] at hrun
        obtain ⟨g', hr, hg'⟩ := m_dries (E := E) (ax := ax) (vx := vx) (tx := tx) (a := a) (v := v) (t := t) g _ rfl
        refine ⟨g', hrun _ ?_, fun s hs => ?_⟩
        · repeat refine Rn.step rfl ?_
          refine Rn.callv rfl rfl rfl (by decide) hr ?_
          repeat refine Rn.step rfl ?_
          exact Rn.ret rfl
        · rw [hg' s hs]
          unfold rwF
          rw [if_neg (fun q => nI_ne1 (by omega) q.1)]
      · rw [if_neg hc]
        rw [if_neg hc] at hrun
        obtain ⟨g', hr, hg'⟩ := ih (i + 1) (upd g i (a 58 (32 + i) - 48)) (by omega) (fun s hs => by
          by_cases h : s = i
          · subst h; rw [pk_us, if_pos (by omega)]
          · rw [pk_un h, hg s hs]
            by_cases h2 : s < i
            · rw [if_pos h2, if_pos (by omega)]
            · rw [if_neg h2, if_neg (by omega)])
        refine ⟨g', hrun _ ?_, hg'⟩
        have hne : ¬ (a 58 (32 + i) - 48 = -9) := by
          intro q
          have q1 : ¬ a 58 (32 + i) < 48 := fun h => hc (Or.inl h)
          rw [show a 58 (32 + i) = (a 58 (32 + i) - 48) + 48 from (Int32.sub_add_cancel _ _).symm, q] at q1
          exact q1 (by decide)
        iterate 2 refine Rn.step rfl ?_
        refine Rn.br1 rfl hne ?_
        iterate 4 refine Rn.step rfl ?_
        refine Rn.ast i rfl rfl (by omega) (by decide) (h3 := wY ax vx tx (va_up a 61 (upd g i (a 58 (32 + i) - 48))) v t) rfl ?_
        iterate 2 refine Rn.step rfl ?_
        rw [nI_succ] at hr
        exact Rn.sub (by exact ⟨rfl, rfl, trivial⟩) hr
  obtain ⟨g0, hr0, hg0⟩ := m_dries (E := E) (ax := ax) (vx := vx) (tx := tx) (a := a) (v := v) (t := t) (a 61) (wY ax vx tx a v t) rfl
  obtain ⟨g', hr, hg'⟩ := key z 0 g0 (by omega) (fun s hs => by rw [hg0 s hs, if_neg (Nat.not_lt_zero _)])
  refine ⟨g', ?_, hg'⟩
  refine Rn.step rfl ?_
  refine Rn.callv rfl rfl rfl (by decide) hr0 ?_
  iterate 2 refine Rn.step rfl ?_
  exact hr
end M1
