section M3
variable {E : iExtT} {ax : Nat → Nat → Int32} {vx : Nat → Int32} {tx : Nat → Nat → Int64} {a : Nat → Nat → Int32} {v : Nat → Int32} {t : Nat → Nat → Int64}
/-- a count that goes down -/
abbrev dn (c j : Nat) : Int32 := nI c - nI j
theorem dn_le {c j : Nat} (h : j ≤ c) : dn c j = nI (c - j) := by
  rcases Nat.eq_zero_or_pos j with rfl | hj
  · show nI c - nI 0 = nI (c - 0)
    rw [show nI 0 = 0 from rfl, Int32.sub_zero]; rfl
  · have := nI_add (c - j) j
    rw [show c - j + j = c by omega] at this
    show nI c - nI j = _
    rw [← this]; exact Int32.add_sub_cancel _ _
theorem dn_succ (c j : Nat) : dn c j + -1 = dn c (j + 1) := by
  show nI c - nI j + -1 = nI c - nI (j + 1)
  rw [nI_succ, Int32.sub_eq_add_neg, Int32.sub_eq_add_neg, Int32.neg_add, Int32.add_assoc, Int32.sub_eq_add_neg]
theorem dn_end (c : Nat) : dn c (c + 1) = -1 := by
  rw [← dn_succ, dn_le (Nat.le_refl _), Nat.sub_self]; rfl
/-- the numbers of a kind in a minute, as bits -/
def tdF (ev : Nat → Int32) (k : Nat) (gn kd m : Int32) : Int32 := lp (fun i b => b ||| (if (ev (3 * i) = kd ∧ ev (3 * i + 1) = m) ∧ ¬ bt gn i then sh1 (ev (3 * i + 2)) else 0)) 0 k 0
theorem m_told (kd m : Int32) {k : Nat} (hk : k ≤ 8) (hv : v 32 = nI k) : Rn E 1 mX8_told (0, [(0, .ref 53), (1, .int kd), (2, .int m)], [], wY ax vx tx a v t) (some (.int (tdF (a 63) k (v 33) kd m)), wY ax vx tx a v t) := by
  iterate 4 refine Rn.step rfl ?_
  refine Rn.lp (σ := Int32) (cfg := fun i b => (5, [(4, .int (nI i)), (3, .int b), (0, .ref 53), (1, .int kd), (2, .int m)], [], wY ax vx tx a v t)) (f := fun i b => b ||| (if (a 63 (3 * i) = kd ∧ a 63 (3 * i + 1) = m) ∧ ¬ bt (v 33) i then sh1 (a 63 (3 * i + 2)) else 0)) (n := k) (fun _ _ => True) (fun i b hi _ => ⟨trivial, fun kk => ?_⟩) k 0 0 (by omega) trivial (fun b0 hb0 _ => ?_)
  · rw [nI_succ] at kk
    generalize ((some (Value.int (tdF (a 63) k (v 33) kd m)), wY ax vx tx a v t) : iRes) = o at kk ⊢
    have hend : ∀ x : Int32, x = (if (a 63 (3 * i) = kd ∧ a 63 (3 * i + 1) = m) ∧ ¬ bt (v 33) i then sh1 (a 63 (3 * i + 2)) else 0) → Rn E 1 mX8_told (72, [(4, .int (nI i)), (3, .int b), (0, .ref 53), (1, .int kd), (2, .int m)], [.int x, .int b], wY ax vx tx a v t) o := by
      intro x hx
      rw [← hx] at kk
      iterate 4 refine Rn.step rfl ?_
      exact Rn.sub (by exact ⟨rfl, rfl, rfl, rfl, rfl, trivial⟩) kk
    iterate 3 refine Rn.step rfl ?_
    refine Rn.br2 rfl (by rw [hv]; exact nle hi (by omega)) ?_
    iterate 6 refine Rn.step rfl ?_
    refine Rn.ald (3 * i) rfl (pk_mul 3 i) (by omega) (by decide) ?_
    refine Rn.step rfl ?_
    refine Rn.br rfl (fun h1 => ?_) (fun h1 => ?_)
    · refine Rn.step rfl ?_
      exact hend 0 (by rw [if_neg (fun q => h1 q.1.1)])
    · iterate 7 refine Rn.step rfl ?_
      refine Rn.ald (3 * i + 1) rfl (ix_am 3 i 1) (by omega) (by decide) ?_
      refine Rn.step rfl ?_
      refine Rn.br rfl (fun h2 => ?_) (fun h2 => ?_)
      · refine Rn.step rfl ?_
        exact hend 0 (by rw [if_neg (fun q => h2 q.1.2)])
      · iterate 3 refine Rn.step rfl ?_
        refine Rn.calli rfl rfl rfl (by decide) (m_isIn (v 33) i _) (fun z f => ?_)
        refine Rn.br rfl (fun h3 => ?_) (fun h3 => ?_)
        · rw [f, ib_ne0] at h3
          refine Rn.step rfl ?_
          exact hend 0 (by rw [if_neg (fun q => q.2 h3)])
        · have h3 := Decidable.not_not.mp h3
          rw [f, ib_eq0] at h3
          iterate 8 refine Rn.step rfl ?_
          refine Rn.ald (3 * i + 2) rfl (ix_am 3 i 2) (by omega) (by decide) ?_
          iterate 2 refine Rn.step rfl ?_
          exact hend _ (by rw [if_pos ⟨⟨Decidable.not_not.mp h1, Decidable.not_not.mp h2⟩, h3⟩])
  · have hb0 : b0 = tdF (a 63) k (v 33) kd m := hb0
    iterate 3 refine Rn.step rfl ?_
    refine Rn.br1 rfl (by rw [hv]; exact nI_le (by omega) (by omega)) ?_
    refine Rn.step rfl ?_
    rw [← hb0]
    exact Rn.ret rfl
def fl1 (w : Nat → Int32) (i : Nat) : Int32 := if i = 0 then 0 else w (i - 1)
def fl2 (x : Int32) : Int32 := if 0 < x then x - 1 else 0
def fl3 (fe : Nat → Int32) (sh : Int32) (i : Nat) (x : Int32) : Int32 := if bt sh i then x else (if x + fe i < 20 then x + fe i else 20)
def flC (fe : Nat → Int32) (sh bu : Int32) (w : Nat → Int32) (i : Nat) : Int32 := if bt bu i then 0 else fl3 fe sh i (fl2 (fl1 w i))
def flA (fe : Nat → Int32) (sh bu : Int32) (w : Nat → Int32) : Nat → Int32 := lp (fun j w => upd w (15 - j) (flC fe sh bu w (15 - j))) 0 16 w
theorem m_flows (m : Int32) {k : Nat} (hk : k ≤ 8) (hv : v 32 = nI k) : Rn E 2 mX8_flows (0, [(0, .ref 53), (1, .int m)], [], wY ax vx tx a v t) (none, wY ax vx tx (va_up a 64 (flA (a 61) (tdF (a 63) k (v 33) 1 m) (tdF (a 63) k (v 33) 2 m) (a 64))) v t) := by
  iterate 3 refine Rn.step rfl ?_
  refine Rn.calli rfl rfl rfl (by decide) (m_told 1 m hk hv) (fun sh fsh => ?_)
  rw [← fsh]
  iterate 4 refine Rn.step rfl ?_
  refine Rn.calli rfl rfl rfl (by decide) (m_told 2 m hk hv) (fun bu fbu => ?_)
  rw [← fbu]
  iterate 3 refine Rn.step rfl ?_
  refine Rn.lp (σ := Nat → Int32) (cfg := fun j w => (18, [(4, .int (dn 15 j)), (3, .int bu), (2, .int sh), (0, .ref 53), (1, .int m)], [], wY ax vx tx (va_up a 64 w) v t)) (f := fun j w => upd w (15 - j) (flC (a 61) sh bu w (15 - j))) (n := 16) (fun _ _ => True) (fun j w hj _ => ⟨trivial, fun kk => ?_⟩) 16 0 (a 64) rfl trivial (fun w0 hw0 _ => ?_)
  · rw [← dn_succ] at kk
    obtain ⟨i, hi⟩ : ∃ i, i = 15 - j := ⟨_, rfl⟩
    rw [dn_le (by omega), ← hi] at kk
    rw [dn_le (by omega), ← hi]
    generalize ((none, wY ax vx tx (va_up a 64 (flA (a 61) sh bu (a 64))) v t) : iRes) = o at kk ⊢
    have h4 : ∀ x : Int32, x = flC (a 61) sh bu w i → Rn E 2 mX8_flows (110, [(6, .int (fl3 (a 61) sh i (fl2 (fl1 w i)))), (5, .int (fl1 w i)), (4, .int (nI i)), (3, .int bu), (2, .int sh), (0, .ref 53), (1, .int m)], [.int x, .int (nI i), .ref 64], wY ax vx tx (va_up a 64 w) v t) o := by
      intro x hx
      rw [← hx] at kk
      refine Rn.ast i rfl rfl (by omega) (by decide) (h3 := wY ax vx tx (va_up a 64 (upd w i x)) v t) rfl ?_
      iterate 2 refine Rn.step rfl ?_
      exact Rn.sub (by exact ⟨rfl, rfl, rfl, rfl, rfl, trivial⟩) kk
    have h3 : ∀ x : Int32, x = fl3 (a 61) sh i (fl2 (fl1 w i)) → Rn E 2 mX8_flows (87, [(6, .int (fl2 (fl1 w i))), (5, .int (fl1 w i)), (4, .int (nI i)), (3, .int bu), (2, .int sh), (0, .ref 53), (1, .int m)], [.int x], wY ax vx tx (va_up a 64 w) v t) o := by
      intro x hx
      iterate 6 refine Rn.step rfl ?_
      refine Rn.calli rfl rfl rfl (by decide) (m_isIn bu i _) (fun z f => ?_)
      refine Rn.br rfl (fun h1 => ?_) (fun h1 => ?_)
      · rw [f, ib_eq0] at h1
        refine Rn.step rfl ?_
        rw [hx]
        exact h4 _ (by unfold flC; rw [if_neg h1])
      · rw [f, ib_ne0] at h1
        iterate 2 refine Rn.step rfl ?_
        rw [hx]
        exact h4 _ (by unfold flC; rw [if_pos h1])
    have h2 : ∀ x : Int32, x = fl2 (fl1 w i) → Rn E 2 mX8_flows (56, [(5, .int (fl1 w i)), (4, .int (nI i)), (3, .int bu), (2, .int sh), (0, .ref 53), (1, .int m)], [.int x], wY ax vx tx (va_up a 64 w) v t) o := by
      intro x hx
      iterate 3 refine Rn.step rfl ?_
      refine Rn.calli rfl rfl rfl (by decide) (m_isIn sh i _) (fun z f => ?_)
      rw [hx]
      refine Rn.br rfl (fun h1 => ?_) (fun h1 => ?_)
      · rw [f, ib_eq0] at h1
        iterate 4 refine Rn.step rfl ?_
        refine Rn.ald i rfl rfl (by omega) (by decide) ?_
        iterate 2 refine Rn.step rfl ?_
        refine Rn.calli rfl rfl rfl (by decide) (m_lesser _ _ _) (fun z1 f1 => ?_)
        exact h3 z1 (by rw [f1]; unfold fl3; rw [if_neg h1]; rfl)
      · rw [f, ib_ne0] at h1
        iterate 2 refine Rn.step rfl ?_
        exact h3 _ (by unfold fl3; rw [if_pos h1])
    have h1 : ∀ x : Int32, x = fl1 w i → Rn E 2 mX8_flows (41, [(4, .int (nI i)), (3, .int bu), (2, .int sh), (0, .ref 53), (1, .int m)], [.int x], wY ax vx tx (va_up a 64 w) v t) o := by
      intro x hx
      rw [hx]
      iterate 2 refine Rn.step rfl ?_
      refine Rn.br rfl (fun h1 => ?_) (fun h1 => ?_)
      · refine Rn.step rfl ?_
        exact h2 0 (by unfold fl2; rw [if_neg (Int32.not_lt.mpr h1)])
      · iterate 4 refine Rn.step rfl ?_
        exact h2 _ (by unfold fl2; rw [if_pos (Int32.not_le.mp h1)])
    iterate 1 refine Rn.step rfl ?_
    refine Rn.br2 rfl (nI_pos (by omega)) ?_
    refine Rn.step rfl ?_
    by_cases hz : i = 0
    · refine Rn.br2 rfl (fun q => q (by rw [hz]; rfl)) ?_
      iterate 2 refine Rn.step rfl ?_
      exact h1 0 (by unfold fl1; rw [if_pos hz])
    · refine Rn.br1 rfl (nI_ne0 (by omega) (by omega)) ?_
      iterate 5 refine Rn.step rfl ?_
      refine Rn.ald (i - 1) rfl (pk_sub (a := i) (b := 1) (by omega)) (by omega) (by decide) ?_
      exact h1 _ (by unfold fl1; rw [if_neg hz]; rfl)
  · have hw0 : w0 = flA (a 61) sh bu (a 64) := hw0
    rw [← hw0]
    refine Rn.step rfl ?_
    refine Rn.step rfl ?_
    exact Rn.ret rfl
/-- a log with its head at h lies in span s -/
abbrev lsP (h : Int32) (lg : Prop) (s : Int32) : Prop := inB h 16 ∧ (h = s ∨ (lg ∧ 0 < h ∧ h - 1 = s))
theorem m_lies (x l s : Int32) (h : List va_E) : Rn E 1 mX8_lies (0, [(0, .int x), (1, .int l), (2, .int s)], [], h) (some (.int (ib (lsP x (¬ l = 0) s))), h) := by
  iterate 4 refine Rn.step rfl ?_
  refine Rn.calli rfl rfl rfl (by decide) (m_inB x 15 (by decide) h) (fun z f => ?_)
  have f : z = ib (inB x 16) := f
  have hno : ∀ L, ¬ lsP x (¬ l = 0) s → Rn E 1 mX8_lies (36, L, [], h) (some (.int (ib (lsP x (¬ l = 0) s))), h) := by
    intro L hn
    rw [ib_f hn]
    iterate 1 refine Rn.step rfl ?_
    exact Rn.ret rfl
  have hyes : ∀ L, lsP x (¬ l = 0) s → Rn E 1 mX8_lies (32, L, [], h) (some (.int (ib (lsP x (¬ l = 0) s))), h) := by
    intro L hn
    rw [ib_t hn]
    iterate 2 refine Rn.step rfl ?_
    exact Rn.ret rfl
  refine Rn.br rfl (fun h1 => ?_) (fun h1 => ?_)
  · rw [f, ib_eq0] at h1
    exact hno _ (fun q => h1 q.1)
  · rw [f, ib_ne0] at h1
    iterate 2 refine Rn.step rfl ?_
    refine Rn.br rfl (fun h2 => ?_) (fun h2 => ?_)
    · exact hyes _ ⟨h1, Or.inl h2⟩
    · refine Rn.step rfl ?_
      refine Rn.br rfl (fun h3 => ?_) (fun h3 => ?_)
      · exact hno _ (fun q => q.2.elim h2 (fun q => q.1 h3))
      · refine Rn.step rfl ?_
        refine Rn.br rfl (fun h4 => ?_) (fun h4 => ?_)
        · exact hno _ (fun q => q.2.elim h2 (fun q => absurd q.2.1 (Int32.not_lt.mpr h4)))
        · iterate 4 refine Rn.step rfl ?_
          refine Rn.br rfl (fun h5 => ?_) (fun h5 => ?_)
          · exact hno _ (fun q => q.2.elim h2 (fun q => h5 q.2.2))
          · exact hyes _ ⟨h1, Or.inr ⟨h3, Int32.not_le.mp h4, Decidable.not_not.mp h5⟩⟩
/-- who lies in a span but log k -/
def wbF (hd lo : Nat → Int32) (n k : Nat) (s : Int32) : Int32 := lp (fun j w => if ¬ j = k ∧ lsP (hd j) (lo (3 * j + 2) = 1) s then nI j else w) 0 n (-1)
theorem m_whoBut {n k : Nat} (hn : n ≤ 8) (hv : v 31 = nI n) (hk : k < 8) (s : Int32) : Rn E 2 mX8_whoBut (0, [(0, .ref 53), (1, .int (nI k)), (2, .int s)], [], wY ax vx tx a v t) (some (.int (wbF (a 65) (a 62) n k s)), wY ax vx tx a v t) := by
  iterate 4 refine Rn.step rfl ?_
  refine Rn.lp (σ := Int32) (cfg := fun j w => (5, [(4, .int (nI j)), (3, .int w), (0, .ref 53), (1, .int (nI k)), (2, .int s)], [], wY ax vx tx a v t)) (f := fun j w => if ¬ j = k ∧ lsP (a 65 j) (a 62 (3 * j + 2) = 1) s then nI j else w) (n := n) (fun _ _ => True) (fun j w hj _ => ⟨trivial, fun kk => ?_⟩) n 0 (-1) (by omega) trivial (fun w0 hw0 _ => ?_)
  · rw [nI_succ] at kk
    generalize ((some (Value.int (wbF (a 65) (a 62) n k s)), wY ax vx tx a v t) : iRes) = o at kk ⊢
    iterate 3 refine Rn.step rfl ?_
    refine Rn.br2 rfl (by rw [hv]; exact nle hj (by omega)) ?_
    iterate 2 refine Rn.step rfl ?_
    by_cases hjk : j = k
    · refine Rn.br1 rfl (by rw [hjk]) ?_
      rw [if_neg (fun q => q.1 hjk)] at kk
      iterate 4 refine Rn.step rfl ?_
      exact Rn.sub (by exact ⟨rfl, rfl, rfl, rfl, rfl, trivial⟩) kk
    · refine Rn.br2 rfl (fun q => hjk ((nI_eq (by omega) (by omega)).mp q)) ?_
      iterate 3 refine Rn.step rfl ?_
      refine Rn.ald j rfl rfl (by omega) (by decide) ?_
      iterate 7 refine Rn.step rfl ?_
      refine Rn.ald (3 * j + 2) rfl (ix_am 3 j 2) (by omega) (by decide) ?_
      refine Rn.step rfl ?_
      have hx : ∀ x : Int32, (¬ x = 0 ↔ a 62 (3 * j + 2) = 1) → Rn E 2 mX8_whoBut (47, [(4, .int (nI j)), (3, .int w), (0, .ref 53), (1, .int (nI k)), (2, .int s)], [.int x, .int (a 65 j)], wY ax vx tx a v t) o := by
        intro x hx
        refine Rn.step rfl ?_
        refine Rn.calli rfl rfl rfl (by decide) (m_lies (a 65 j) x s _) (fun z f => ?_)
        have e : lsP (a 65 j) (¬ x = 0) s ↔ lsP (a 65 j) (a 62 (3 * j + 2) = 1) s := by unfold lsP; rw [hx]
        refine Rn.br rfl (fun h1 => ?_) (fun h1 => ?_)
        · rw [f, ib_eq0] at h1
          rw [if_neg (fun q => h1 (e.mpr q.2))] at kk
          iterate 4 refine Rn.step rfl ?_
          exact Rn.sub (by exact ⟨rfl, rfl, rfl, rfl, rfl, trivial⟩) kk
        · rw [f, ib_ne0] at h1
          rw [if_pos ⟨hjk, e.mp h1⟩] at kk
          iterate 5 refine Rn.step rfl ?_
          exact Rn.sub (by exact ⟨rfl, rfl, rfl, rfl, rfl, trivial⟩) kk
      refine Rn.br rfl (fun h1 => ?_) (fun h1 => ?_)
      · refine Rn.step rfl ?_
        exact hx 0 ⟨fun q => absurd rfl q, fun q => absurd q h1⟩
      · iterate 2 refine Rn.step rfl ?_
        exact hx 1 ⟨fun _ => Decidable.not_not.mp h1, fun _ => by decide⟩
  · have hw0 : w0 = wbF (a 65) (a 62) n k s := hw0
    iterate 3 refine Rn.step rfl ?_
    refine Rn.br1 rfl (by rw [hv]; exact nI_le (by omega) (by omega)) ?_
    refine Rn.step rfl ?_
    rw [← hw0]
    exact Rn.ret rfl
theorem wbF_upd {hd lo : Nat → Int32} {n k : Nat} {s x : Int32} : wbF (upd hd k x) lo n k s = wbF hd lo n k s := lp_congr (fun j w _ _ => by
  by_cases h : j = k
  · rw [if_neg (fun q => q.1 h), if_neg (fun q => q.1 h)]
  · rw [pk_un h])
abbrev g5 : Type := (Nat → Int32) × (Nat → Int32) × (Nat → Int32) × (Nat → Int32) × (Nat → Int32)
abbrev w5 (a : Nat → Nat → Int32) (s : g5) : Nat → Nat → Int32 := va_up (va_up (va_up (va_up (va_up a 65 s.1) 66 s.2.1) 67 s.2.2.1) 68 s.2.2.2.1) 69 s.2.2.2.2
/-- the next span isn't free -/
abbrev gbk (hd lo : Nat → Int32) (n k : Nat) : Nat → Bool := fun h => decide (h < 15 ∧ ¬ wbF hd lo n k (nI (h + 1)) = -1)
def g5u (m k : Nat) (s : g5) (r : Nat × Nat) : g5 := (upd s.1 k (nI r.1), if r.2 = 0 then s.2.1 else upd s.2.1 k (nI r.2), if r.1 = 16 then upd s.2.2.1 k (nI m) else s.2.2.1, if r.2 = 1 then upd s.2.2.2.1 k (s.2.2.2.1 k + 1) else s.2.2.2.1, if r.2 = 2 then upd s.2.2.2.2 k (s.2.2.2.2 k + 1) else s.2.2.2.2)
theorem mvF_2 {po : Bool} {wl : Nat → Int32} {de : Int32} {blk : Nat → Bool} {steps : Int32} : ∀ (f k h : Nat), h ≤ 16 → (mvF po wl de blk steps f k h).1 ≤ 16 ∧ ((mvF po wl de blk steps f k h).2 = 0 ∨ (mvF po wl de blk steps f k h).2 = 1 ∨ (mvF po wl de blk steps f k h).2 = 2) ∧ h ≤ (mvF po wl de blk steps f k h).1 := by
  intro f
  induction f with
  | zero => intro k h hh; exact ⟨hh, Or.inl rfl, Nat.le_refl _⟩
  | succ f ih =>
    intro k h hh
    unfold mvF
    by_cases h1 : steps ≤ nI k ∨ 16 ≤ h
    · rw [if_pos h1]; exact ⟨hh, Or.inl rfl, Nat.le_refl _⟩
    · rw [if_neg h1]
      by_cases h2 : po = false ∧ wl h < de
      · rw [if_pos h2]; exact ⟨hh, Or.inr (Or.inl rfl), Nat.le_refl _⟩
      · rw [if_neg h2]
        by_cases h3 : blk h = true
        · rw [if_pos h3]; exact ⟨hh, Or.inr (Or.inr rfl), Nat.le_refl _⟩
        · rw [if_neg h3]
          have := ih (k + 1) (h + 1) (by omega)
          exact ⟨this.1, this.2.1, by omega⟩
end M3
