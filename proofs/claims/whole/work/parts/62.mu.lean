section MUX
variable {E : iExtT} {c ax : Nat → Nat → Int32} {vc vx : Nat → Int32} {tx : Nat → Nat → Int64} {a : Nat → Nat → Int32} {v : Nat → Int32} {t : Nat → Nat → Int64} {n k q : Nat} {mn sm tt : Nat → Nat} {ya yb yc : Nat}
def pw (D : Nat → Nat) (F : Nat → Int32) (n : Nat) (G : Nat → Int32) : Nat → Int32 := lp (fun b g => upd g (D b) (F b)) 0 n G
theorem pw_in {D : Nat → Nat} {F : Nat → Int32} {n : Nat} {G : Nat → Int32} (hD : ∀ b b', D b = D b' → b = b') : (∀ b, b < n → pw D F n G (D b) = F b) ∧ ∀ p, (∀ b, b < n → p ≠ D b) → pw D F n G p = G p := by
  have h := lp_inv (f := fun b (g : Nat → Int32) => upd g (D b) (F b)) (fun m g => (∀ b, b < m → g (D b) = F b) ∧ ∀ p, (∀ b, b < m → p ≠ D b) → g p = G p) (i := 0) (j := n) (s := G) ⟨fun i h => absurd h (Nat.not_lt_zero _), fun _ _ => rfl⟩ (fun i g _ _ hI => by
    refine ⟨fun b hb => ?_, fun p hp => ?_⟩
    · by_cases e : b = i
      · subst e; exact pk_us
      · rw [pk_un (fun q => e (hD _ _ q))]; exact hI.1 b (by omega)
    · rw [pk_un (hp i (by omega))]; exact hI.2 p (fun b hb => hp b (by omega)))
  rw [Nat.zero_add] at h
  exact h
theorem m_copy_bad (x i y j l : Int32) (hb : ¬ (inB x 4 ∧ inB y 4)) : Rn E 2 mX8_copy (0, [(0, .ref 53), (1, .int x), (2, .int i), (3, .int y), (4, .int j), (5, .int l)], [], wY ax vx tx a v t) (some (.int (-2)), wY ax vx tx a v t) := by
  iterate 1 refine Rn.step rfl ?_
  refine Rn.calli rfl rfl rfl (by decide) (m_isSheet x _) (fun y0 f0 => ?_)
  refine Rn.br rfl (fun p0 => ?_) (fun p0 => ?_)
  · iterate 1 refine Rn.step rfl ?_
    exact Rn.ret rfl
  · rw [f0, ib_ne0] at p0
    iterate 1 refine Rn.step rfl ?_
    refine Rn.calli rfl rfl rfl (by decide) (m_isSheet y _) (fun y1 f1 => ?_)
    refine Rn.br2 rfl (by rw [f1]; exact fun q => q (ib_eq0.mpr (fun p => hb ⟨p0, p⟩))) ?_
    iterate 1 refine Rn.step rfl ?_
    exact Rn.ret rfl
theorem m_copy_p1 {s u : Nat} (hs : s < 4) (hu : u < 4) {i j l : Int32} {o : iRes} (kk : Rn E 2 mX8_copy (17, [(0, .ref 53), (1, .int (nI s)), (2, .int i), (3, .int (nI u)), (4, .int j), (5, .int l)], [], wY ax vx tx a v t) o) : Rn E 2 mX8_copy (0, [(0, .ref 53), (1, .int (nI s)), (2, .int i), (3, .int (nI u)), (4, .int j), (5, .int l)], [], wY ax vx tx a v t) o := by
  iterate 1 refine Rn.step rfl ?_
  refine Rn.calli rfl rfl rfl (by decide) (m_isSheet (nI s) _) (fun y0 f0 => ?_)
  refine Rn.br2 rfl (by rw [f0]; exact ib_ne0.mpr (inB_nI (n := 4) hs (by decide))) ?_
  iterate 1 refine Rn.step rfl ?_
  refine Rn.calli rfl rfl rfl (by decide) (m_isSheet (nI u) _) (fun y1 f1 => ?_)
  refine Rn.br1 rfl (by rw [f1]; exact ib_ne0.mpr (inB_nI (n := 4) hu (by decide))) ?_
  exact kk
theorem m_copy_null {s u : Nat} (hs : s < 4) (hu : u < 4) (hz : a 54 s < 0 ∨ a 54 u < 0) (i j l : Int32) : Rn E 2 mX8_copy (0, [(0, .ref 53), (1, .int (nI s)), (2, .int i), (3, .int (nI u)), (4, .int j), (5, .int l)], [], wY ax vx tx a v t) (some (.int (-11)), wY ax vx tx a (upd v 30 1) t) := by
  refine m_copy_p1 hs hu ?_
  iterate 3 refine Rn.step rfl ?_
  refine Rn.ald s rfl rfl hs (by decide) ?_
  refine Rn.br rfl (fun p => ?_) (fun p => ?_)
  · iterate 2 refine Rn.step rfl ?_
    refine Rn.calli rfl rfl rfl (by decide) (m_finds 1) (fun w f => ?_)
    rw [f]
    exact Rn.ret rfl
  · iterate 3 refine Rn.step rfl ?_
    refine Rn.ald u rfl rfl hu (by decide) ?_
    refine Rn.br2 rfl (Int32.not_le.mpr (hz.resolve_left p)) ?_
    iterate 2 refine Rn.step rfl ?_
    refine Rn.calli rfl rfl rfl (by decide) (m_finds 1) (fun w f => ?_)
    rw [f]
    exact Rn.ret rfl
theorem m_copy_p2 {s u : Nat} (hs : s < 4) (hu : u < 4) (h1 : 0 ≤ a 54 s) (h2 : 0 ≤ a 54 u) {i j l : Int32} {o : iRes} (kk : Rn E 2 mX8_copy (41, [(0, .ref 53), (1, .int (nI s)), (2, .int i), (3, .int (nI u)), (4, .int j), (5, .int l)], [], wY ax vx tx a v t) o) : Rn E 2 mX8_copy (0, [(0, .ref 53), (1, .int (nI s)), (2, .int i), (3, .int (nI u)), (4, .int j), (5, .int l)], [], wY ax vx tx a v t) o := by
  refine m_copy_p1 hs hu ?_
  iterate 3 refine Rn.step rfl ?_
  refine Rn.ald s rfl rfl hs (by decide) ?_
  refine Rn.br2 rfl (Int32.not_lt.mpr h1) ?_
  iterate 3 refine Rn.step rfl ?_
  refine Rn.ald u rfl rfl hu (by decide) ?_
  refine Rn.br1 rfl h2 ?_
  exact kk
theorem m_copy_store {s u : Nat} (hs : s < 4) (hu : u < 4) (h1 : 0 ≤ a 54 s) (h2 : 0 ≤ a 54 u) (hf : ¬ a 54 s = a 54 u) (i j l : Int32) : Rn E 2 mX8_copy (0, [(0, .ref 53), (1, .int (nI s)), (2, .int i), (3, .int (nI u)), (4, .int j), (5, .int l)], [], wY ax vx tx a v t) (some (.int (-14)), wY ax vx tx a (upd v 30 4) t) := by
  refine m_copy_p2 hs hu h1 h2 ?_
  iterate 3 refine Rn.step rfl ?_
  refine Rn.ald s rfl rfl hs (by decide) ?_
  iterate 3 refine Rn.step rfl ?_
  refine Rn.ald u rfl rfl hu (by decide) ?_
  refine Rn.br2 rfl hf ?_
  iterate 2 refine Rn.step rfl ?_
  refine Rn.calli rfl rfl rfl (by decide) (m_finds 4) (fun w f => ?_)
  rw [f]
  exact Rn.ret rfl
theorem m_copy_p3 {s u : Nat} (hs : s < 4) (hu : u < 4) (h1 : 0 ≤ a 54 s) (h2 : 0 ≤ a 54 u) (hf : a 54 s = a 54 u) {i j l : Int32} {o : iRes} (kk : Rn E 2 mX8_copy (62, [(0, .ref 53), (1, .int (nI s)), (2, .int i), (3, .int (nI u)), (4, .int j), (5, .int l)], [], wY ax vx tx a v t) o) : Rn E 2 mX8_copy (0, [(0, .ref 53), (1, .int (nI s)), (2, .int i), (3, .int (nI u)), (4, .int j), (5, .int l)], [], wY ax vx tx a v t) o := by
  refine m_copy_p2 hs hu h1 h2 ?_
  iterate 3 refine Rn.step rfl ?_
  refine Rn.ald s rfl rfl hs (by decide) ?_
  iterate 3 refine Rn.step rfl ?_
  refine Rn.ald u rfl rfl hu (by decide) ?_
  refine Rn.br1 rfl hf ?_
  exact kk
theorem m_copy_i {s u : Nat} {i j l : Int32} : Rn E 2 mX8_copy (111, [(0, .ref 53), (1, .int (nI s)), (2, .int i), (3, .int (nI u)), (4, .int j), (5, .int l)], [], wY ax vx tx a v t) (some (.int (-12)), wY ax vx tx a (upd v 30 2) t) := by
  iterate 2 refine Rn.step rfl ?_
  refine Rn.calli rfl rfl rfl (by decide) (m_finds 2) (fun w f => ?_)
  rw [f]
  exact Rn.ret rfl
theorem m_copy_index {s u : Nat} (hs : s < 4) (hu : u < 4) (h1 : 0 ≤ a 54 s) (h2 : 0 ≤ a 54 u) (hf : a 54 s = a 54 u) {i j l : Int32} (hi : ¬ (hrP (a 55 s) i l ∧ hrP (a 55 u) j l)) : Rn E 2 mX8_copy (0, [(0, .ref 53), (1, .int (nI s)), (2, .int i), (3, .int (nI u)), (4, .int j), (5, .int l)], [], wY ax vx tx a v t) (some (.int (-12)), wY ax vx tx a (upd v 30 2) t) := by
  refine m_copy_p3 hs hu h1 h2 hf ?_
  iterate 1 refine Rn.step rfl ?_
  refine Rn.br rfl (fun _ => m_copy_i) (fun p1 => ?_)
  iterate 1 refine Rn.step rfl ?_
  refine Rn.br rfl (fun _ => m_copy_i) (fun p2 => ?_)
  iterate 1 refine Rn.step rfl ?_
  refine Rn.br rfl (fun _ => m_copy_i) (fun p3 => ?_)
  iterate 8 refine Rn.step rfl ?_
  refine Rn.ald s rfl rfl hs (by decide) ?_
  iterate 2 refine Rn.step rfl ?_
  refine Rn.br rfl (fun _ => m_copy_i) (fun p4 => ?_)
  iterate 8 refine Rn.step rfl ?_
  refine Rn.ald u rfl rfl hu (by decide) ?_
  iterate 2 refine Rn.step rfl ?_
  refine Rn.br2 rfl (fun p5 => hi ⟨⟨Int32.not_lt.mp p1, Int32.not_lt.mp p3, Int64.not_lt.mp (fun q => p4 ((lg_cmp_gt _ _).mpr q))⟩, Int32.not_lt.mp p2, Int32.not_lt.mp p3, (lg_cmp_le _ _).mp p5⟩) ?_
  exact m_copy_i
theorem ix4 (s i b : Nat) : nI 60 * nI s + nI i + nI b = nI (60 * s + i + b) := by rw [ix_am, nI_add]
theorem m_copy {s u : Nat} (hs : s < 4) (hu : u < 4) (h1 : 0 ≤ a 54 s) (h2 : 0 ≤ a 54 u) (hf : a 54 s = a 54 u) {i j l : Nat} (hi : hrP (a 55 s) (nI i) (nI l)) (hj : hrP (a 55 u) (nI j) (nI l)) (hil : i + l ≤ 60) (hjl : j + l ≤ 60) {M : Nat → Int32} (hM : M = pw (fun b => b) (fun b => a 56 (60 * s + i + b)) l (a 57)) : Rn E 2 mX8_copy (0, [(0, .ref 53), (1, .int (nI s)), (2, .int (nI i)), (3, .int (nI u)), (4, .int (nI j)), (5, .int (nI l))], [], wY ax vx tx a v t) (some (.int 1), wY ax vx tx (va_up (va_up a 57 M) 56 (pw (fun b => 60 * u + j + b) M l (a 56))) v t) := by
  refine m_copy_p3 hs hu h1 h2 hf ?_
  iterate 1 refine Rn.step rfl ?_
  refine Rn.br2 rfl (Int32.not_lt.mpr hi.1) ?_
  iterate 1 refine Rn.step rfl ?_
  refine Rn.br2 rfl (Int32.not_lt.mpr hj.1) ?_
  iterate 1 refine Rn.step rfl ?_
  refine Rn.br2 rfl (Int32.not_lt.mpr hj.2.1) ?_
  iterate 8 refine Rn.step rfl ?_
  refine Rn.ald s rfl rfl hs (by decide) ?_
  iterate 2 refine Rn.step rfl ?_
  refine Rn.br2 rfl (fun p => absurd hi.2.2 (Int64.not_le.mpr ((lg_cmp_gt _ _).mp p))) ?_
  iterate 8 refine Rn.step rfl ?_
  refine Rn.ald u rfl rfl hu (by decide) ?_
  iterate 2 refine Rn.step rfl ?_
  refine Rn.br1 rfl ((lg_cmp_le _ _).mpr hj.2.2) ?_
  iterate 2 refine Rn.step rfl ?_
  refine Rn.hp (h2 := wY ax vx tx (va_up a 57 (a 57)) v t) (by rw [va_id]) ?_
  refine Rn.lp (σ := Nat → Int32) (cfg := fun b g => (120, [(6, .int (nI b)), (0, .ref 53), (1, .int (nI s)), (2, .int (nI i)), (3, .int (nI u)), (4, .int (nI j)), (5, .int (nI l))], [], wY ax vx tx (va_up a 57 g) v t)) (f := fun b g => upd g b (a 56 (60 * s + i + b))) (n := l) (fun _ _ => True) (fun b g hb _ => ⟨trivial, fun kk => ?_⟩) l 0 (a 57) (by omega) trivial (fun M' hM' _ => ?_)
  · rw [nI_succ] at kk
    iterate 2 refine Rn.step rfl ?_
    refine Rn.br2 rfl (nle hb (by omega)) ?_
    iterate 12 refine Rn.step rfl ?_
    refine Rn.ald (60 * s + i + b) rfl (ix4 s i b) (by omega) (by decide) ?_
    refine Rn.ast b rfl rfl (by omega) (by decide) (h3 := wY ax vx tx (va_up a 57 (upd g b (a 56 (60 * s + i + b)))) v t) (by rw [← va_two a 57 g (upd g b (a 56 (60 * s + i + b)))]; rfl) ?_
    iterate 2 refine Rn.step rfl ?_
    exact kk
  · have hMM : M' = M := by rw [hM', hM]; rfl
    rw [hMM]
    iterate 2 refine Rn.step rfl ?_
    refine Rn.br1 rfl (Int32.le_refl _) ?_
    iterate 2 refine Rn.step rfl ?_
    refine Rn.hp (h2 := wY ax vx tx (va_up (va_up a 57 M) 56 (a 56)) v t) (by rw [show a 56 = (va_up a 57 M) 56 from rfl, va_id]) ?_
    refine Rn.lp (σ := Nat → Int32) (cfg := fun b g => (157, [(6, .int (nI b)), (0, .ref 53), (1, .int (nI s)), (2, .int (nI i)), (3, .int (nI u)), (4, .int (nI j)), (5, .int (nI l))], [], wY ax vx tx (va_up (va_up a 57 M) 56 g) v t)) (f := fun b g => upd g (60 * u + j + b) (M b)) (n := l) (fun _ _ => True) (fun b g hb _ => ⟨trivial, fun kk => ?_⟩) l 0 (a 56) (by omega) trivial (fun G' hG' _ => ?_)
    · rw [nI_succ] at kk
      iterate 2 refine Rn.step rfl ?_
      refine Rn.br2 rfl (nle hb (by omega)) ?_
      iterate 12 refine Rn.step rfl ?_
      refine Rn.ald b rfl rfl (by omega) (by decide) ?_
      refine Rn.ast (60 * u + j + b) rfl (ix4 u j b) (by omega) (by decide) (h3 := wY ax vx tx (va_up (va_up a 57 M) 56 (upd g (60 * u + j + b) (M b))) v t) (by rw [← va_two (va_up a 57 M) 56 g (upd g (60 * u + j + b) (M b))]; rfl) ?_
      iterate 2 refine Rn.step rfl ?_
      exact kk
    · rw [hG']
      iterate 2 refine Rn.step rfl ?_
      refine Rn.br1 rfl (Int32.le_refl _) ?_
      iterate 1 refine Rn.step rfl ?_
      exact Rn.ret rfl
theorem m_read_bad (x : Int32) (hb : ¬ inB x 4) : Rn E 3 mX8_read (0, [(0, .ref 53), (1, .int x)], [], wY ax vx tx a v t) (some (.int (-2)), wY ax vx tx a v t) := by
  iterate 1 refine Rn.step rfl ?_
  refine Rn.calli rfl rfl rfl (by decide) (m_isSheet x _) (fun y0 f0 => ?_)
  refine Rn.br2 rfl (by rw [f0]; exact fun q => q (ib_eq0.mpr hb)) ?_
  iterate 1 refine Rn.step rfl ?_
  exact Rn.ret rfl
theorem m_read_null {s : Nat} (hs : s < 4) (hf : a 54 s < 0) : Rn E 3 mX8_read (0, [(0, .ref 53), (1, .int (nI s))], [], wY ax vx tx a v t) (some (.int (-11)), wY ax vx tx a (upd v 30 1) t) := by
  iterate 1 refine Rn.step rfl ?_
  refine Rn.calli rfl rfl rfl (by decide) (m_isSheet (nI s) _) (fun y0 f0 => ?_)
  refine Rn.br1 rfl (by rw [f0]; exact ib_ne0.mpr (inB_nI (n := 4) hs (by decide))) ?_
  iterate 3 refine Rn.step rfl ?_
  refine Rn.ald s rfl rfl hs (by decide) ?_
  refine Rn.br2 rfl (Int32.not_le.mpr hf) ?_
  iterate 2 refine Rn.step rfl ?_
  refine Rn.calli rfl rfl rfl (by decide) (m_finds 1) (fun w f => ?_)
  rw [f]
  exact Rn.ret rfl
def rdM (g : Nat → Int32) : Nat → Nat → (Nat → Int32) → Nat → (Nat → Int32) × Nat × Nat
  | 0, b, e, k => (e, k, b)
  | j + 1, b, e, k => if rdP g b k then rdM g j (b + 1) (ev3 e k (g (3 * b)) (g (3 * b + 1)) (g (3 * b + 2))) (k + 1) else (e, k, b)
theorem m_read {s z : Nat} (hs : s < 4) (hf : 0 ≤ a 54 s) (hz : a 55 s = nI z) (hz2 : z ≤ 60) (hk : k ≤ 8) (hv : v 32 = nI k) {g : Nat → Int32} (hg : g = fun p => a 56 (60 * s + p)) : Rn E 3 mX8_read (0, [(0, .ref 53), (1, .int (nI s))], [], wY ax vx tx a v t) (some (.int (nI (rdM g (z / 3) 0 (a 63) k).2.2)), wY ax vx tx (va_up a 63 (rdM g (z / 3) 0 (a 63) k).1) (upd v 32 (nI (rdM g (z / 3) 0 (a 63) k).2.1)) t) := by
  have key : ∀ (j b : Nat) (e : Nat → Int32) (y : Nat), b + j = z / 3 → y ≤ 8 → Rn E 3 mX8_read (29, [(3, .int 1), (2, .int (nI b)), (0, .ref 53), (1, .int (nI s))], [], wY ax vx tx (va_up a 63 e) (upd v 32 (nI y)) t) (some (.int (nI (rdM g j b e y).2.2)), wY ax vx tx (va_up a 63 (rdM g j b e y).1) (upd v 32 (nI (rdM g j b e y).2.1)) t) := by
    intro j
    induction j with
    | zero =>
      intro b e y hb hy
      iterate 1 refine Rn.step rfl ?_
      refine Rn.step rfl ?_
      iterate 5 refine Rn.step rfl ?_
      refine Rn.top (x' := nI (3 * b + 3)) (ix_am 3 b 3) ?_
      iterate 3 refine Rn.step rfl ?_
      refine Rn.ald s rfl rfl hs (by decide) ?_
      refine Rn.br1 rfl (by rw [show (va_up a 63 e) 55 s = nI z from hz]; exact nI_lt (by omega) (by omega)) ?_
      iterate 1 refine Rn.step rfl ?_
      exact Rn.ret rfl
    | succ j ih =>
      intro b e y hb hy
      iterate 1 refine Rn.step rfl ?_
      refine Rn.step rfl ?_
      iterate 5 refine Rn.step rfl ?_
      refine Rn.top (x' := nI (3 * b + 3)) (ix_am 3 b 3) ?_
      iterate 3 refine Rn.step rfl ?_
      refine Rn.ald s rfl rfl hs (by decide) ?_
      refine Rn.br2 rfl (by rw [show (va_up a 63 e) 55 s = nI z from hz]; exact nI_nlt (by omega) (by omega)) ?_
      iterate 7 refine Rn.step rfl ?_
      refine Rn.top (x' := nI (60 * s + 3 * b)) (by show nI 60 * nI s + nI 3 * nI b = _; rw [pk_mul, pk_mul, nI_add]) ?_
      iterate 5 refine Rn.step rfl ?_
      refine Rn.ald (60 * s + 3 * b) rfl rfl (by omega) (by decide) ?_
      refine Rn.top (x' := g (3 * b)) (by rw [hg]; rfl) ?_
      iterate 5 refine Rn.step rfl ?_
      refine Rn.ald (60 * s + 3 * b + 1) rfl (nI_add (60 * s + 3 * b) 1) (by omega) (by decide) ?_
      refine Rn.top (x' := g (3 * b + 1)) (by rw [hg]; rfl) ?_
      iterate 5 refine Rn.step rfl ?_
      refine Rn.ald (60 * s + 3 * b + 2) rfl (nI_add (60 * s + 3 * b) 2) (by omega) (by decide) ?_
      refine Rn.top (x' := g (3 * b + 2)) (by rw [hg]; rfl) ?_
      by_cases hP : inB (g (3 * b)) 3 ∧ inB (g (3 * b + 1)) 24 ∧ inB (g (3 * b + 2)) 16
      · by_cases hy8 : y < 8
        · have hstep : rdM g (j + 1) b e y = rdM g j (b + 1) (ev3 e y (g (3 * b)) (g (3 * b + 1)) (g (3 * b + 2))) (y + 1) := if_pos ⟨hP, hy8⟩
          rw [hstep]
          refine Rn.calli rfl rfl rfl (by decide) (m_event hP hy8 pk_us) (fun w f => ?_)
          refine Rn.hp (h2 := wY ax vx tx (va_up a 63 (ev3 e y (g (3 * b)) (g (3 * b + 1)) (g (3 * b + 2)))) (upd v 32 (nI (y + 1))) t) (by rw [← va_two a 63 e (ev3 e y (g (3 * b)) (g (3 * b + 1)) (g (3 * b + 2))), ← upd_upd v 32 (nI y) (nI (y + 1))]; rfl) ?_
          refine Rn.br2 rfl (by rw [f]; exact nI_pos (by omega)) ?_
          iterate 5 refine Rn.step rfl ?_
          refine Rn.step rfl ?_
          iterate 3 refine Rn.step rfl ?_
          refine Rn.top (x' := nI (b + 1)) (nI_1 b) ?_
          iterate 2 refine Rn.step rfl ?_
          exact Rn.sub (L' := [(3, .int 1), (2, .int (nI (b + 1))), (0, .ref 53), (1, .int (nI s))]) ⟨rfl, rfl, rfl, rfl, trivial⟩ (ih (b + 1) _ (y + 1) (by omega) (by omega))
        · have hy8 : y = 8 := by omega
          subst hy8
          have hstep : rdM g (j + 1) b e 8 = (e, 8, b) := if_neg (fun q => absurd q.2 (by decide))
          rw [hstep]
          refine Rn.calli rfl rfl rfl (by decide) (m_event_full hP pk_us) (fun w f => ?_)
          refine Rn.br1 rfl (by rw [f]; decide) ?_
          iterate 4 refine Rn.step rfl ?_
          refine Rn.step rfl ?_
          iterate 2 refine Rn.step rfl ?_
          refine Rn.top (x' := nI b) (Int32.add_zero _) ?_
          iterate 2 refine Rn.step rfl ?_
          iterate 1 refine Rn.step rfl ?_
          refine Rn.step rfl ?_
          iterate 1 refine Rn.step rfl ?_
          exact Rn.ret rfl
      · have hstep : rdM g (j + 1) b e y = (e, y, b) := if_neg (fun q => hP q.1)
        rw [hstep]
        refine Rn.calli rfl rfl rfl (by decide) (m_event_bad hP) (fun w f => ?_)
        refine Rn.br1 rfl (by rw [f]; decide) ?_
        iterate 4 refine Rn.step rfl ?_
        refine Rn.step rfl ?_
        iterate 2 refine Rn.step rfl ?_
        refine Rn.top (x' := nI b) (Int32.add_zero _) ?_
        iterate 2 refine Rn.step rfl ?_
        iterate 1 refine Rn.step rfl ?_
        refine Rn.step rfl ?_
        iterate 1 refine Rn.step rfl ?_
        exact Rn.ret rfl
  iterate 1 refine Rn.step rfl ?_
  refine Rn.calli rfl rfl rfl (by decide) (m_isSheet (nI s) _) (fun y0 f0 => ?_)
  refine Rn.br1 rfl (by rw [f0]; exact ib_ne0.mpr (inB_nI (n := 4) hs (by decide))) ?_
  iterate 3 refine Rn.step rfl ?_
  refine Rn.ald s rfl rfl hs (by decide) ?_
  refine Rn.br1 rfl hf ?_
  iterate 4 refine Rn.step rfl ?_
  refine Rn.hp (h2 := wY ax vx tx (va_up a 63 (a 63)) (upd v 32 (nI k)) t) (by rw [va_id, ← hv, upd_self]) ?_
  exact key (z / 3) 0 (a 63) k (by omega) hk
theorem m_write_bad (x y : Int32) (hb : ¬ (inB x 24 ∧ inB y 4)) : Rn E 8 mX8_write (0, [(0, .ref 53), (1, .int x), (2, .int y)], [], wY ax vx tx a v t) (some (.int (-2)), wY ax vx tx a v t) := by
  iterate 1 refine Rn.step rfl ?_
  refine Rn.calli rfl rfl rfl (by decide) (m_isMinute x _) (fun y0 f0 => ?_)
  refine Rn.br rfl (fun p0 => ?_) (fun p0 => ?_)
  · iterate 1 refine Rn.step rfl ?_
    exact Rn.ret rfl
  · rw [f0, ib_ne0] at p0
    iterate 1 refine Rn.step rfl ?_
    refine Rn.calli rfl rfl rfl (by decide) (m_isSheet y _) (fun y1 f1 => ?_)
    refine Rn.br2 rfl (by rw [f1]; exact fun q => q (ib_eq0.mpr (fun p => hb ⟨p0, p⟩))) ?_
    iterate 1 refine Rn.step rfl ?_
    exact Rn.ret rfl
theorem m_write_p1 {s m : Nat} (hs : s < 4) (hm : m < 24) {o : iRes} (kk : Rn E 8 mX8_write (17, [(0, .ref 53), (1, .int (nI m)), (2, .int (nI s))], [], wY ax vx tx a v t) o) : Rn E 8 mX8_write (0, [(0, .ref 53), (1, .int (nI m)), (2, .int (nI s))], [], wY ax vx tx a v t) o := by
  iterate 1 refine Rn.step rfl ?_
  refine Rn.calli rfl rfl rfl (by decide) (m_isMinute (nI m) _) (fun y0 f0 => ?_)
  refine Rn.br2 rfl (by rw [f0]; exact ib_ne0.mpr (inB_nI (n := 24) hm (by decide))) ?_
  iterate 1 refine Rn.step rfl ?_
  refine Rn.calli rfl rfl rfl (by decide) (m_isSheet (nI s) _) (fun y1 f1 => ?_)
  refine Rn.br1 rfl (by rw [f1]; exact ib_ne0.mpr (inB_nI (n := 4) hs (by decide))) ?_
  exact kk
theorem m_write_null {s m : Nat} (hs : s < 4) (hm : m < 24) (hf : a 54 s < 0) : Rn E 8 mX8_write (0, [(0, .ref 53), (1, .int (nI m)), (2, .int (nI s))], [], wY ax vx tx a v t) (some (.int (-11)), wY ax vx tx a (upd v 30 1) t) := by
  refine m_write_p1 hs hm ?_
  iterate 3 refine Rn.step rfl ?_
  refine Rn.ald s rfl rfl hs (by decide) ?_
  refine Rn.br2 rfl (Int32.not_le.mpr hf) ?_
  iterate 2 refine Rn.step rfl ?_
  refine Rn.calli rfl rfl rfl (by decide) (m_finds 1) (fun w f => ?_)
  rw [f]
  exact Rn.ret rfl
theorem m_write (h : REL c vc a v n k q mn sm tt ya yb yc) {s m z : Nat} (hs : s < 4) (hm : m < 24) (hf : 0 ≤ a 54 s) (hz : a 55 s = nI z) (hz2 : z ≤ 60) {W : Nat → Int32} (hW : W = cW c mn k) : ∃ (a1 : Nat → Nat → Int32) (v1 : Nat → Int32), Rn E 8 mX8_write (0, [(0, .ref 53), (1, .int (nI m)), (2, .int (nI s))], [], wY ax vx tx a v t) (some (.int (nI (min z 16))), wY ax vx tx (va_up a1 56 (pw (fun i => 60 * s + i) (fun i => cutF (a 54 s) (W (m * 16 + i))) (min z 16) (a 56))) v1 t) ∧ eqM a v a1 v1 := by
  obtain ⟨a1, v1, hr, he, hC, hL, h33⟩ := m_find (E := E) (ax := ax) (vx := vx) (tx := tx) (t := t) h
  rw [← hW] at hL
  refine ⟨a1, v1, ?_, he⟩
  have e54 : a1 54 = a 54 := he.1 54 (by decide)
  have e55 : a1 55 = a 55 := he.1 55 (by decide)
  have e56 : a1 56 = a 56 := he.1 56 (by decide)
  refine m_write_p1 hs hm ?_
  iterate 3 refine Rn.step rfl ?_
  refine Rn.ald s rfl rfl hs (by decide) ?_
  refine Rn.br1 rfl hf ?_
  iterate 1 refine Rn.step rfl ?_
  refine Rn.callv rfl rfl rfl (by decide) hr ?_
  iterate 3 refine Rn.step rfl ?_
  refine Rn.ald s rfl rfl hs (by decide) ?_
  refine Rn.top (x' := nI z) (by rw [e55]; exact hz) ?_
  iterate 1 refine Rn.step rfl ?_
  refine Rn.calli rfl rfl rfl (by decide) (m_lesser (nI z) 16 _) (fun w f => ?_)
  rw [lesser_eq, mn16 z hz2] at f
  rw [f]
  obtain ⟨y, hy⟩ : ∃ y, y = min z 16 := ⟨_, rfl⟩
  have hy16 : y ≤ 16 := by omega
  rw [← hy]
  iterate 3 refine Rn.step rfl ?_
  refine Rn.hp (h2 := wY ax vx tx (va_up a1 56 (a 56)) v1 t) (by rw [← e56, va_id]) ?_
  refine Rn.lp (σ := Nat → Int32) (cfg := fun i g => (51, [(4, .int (nI i)), (3, .int (nI y)), (0, .ref 53), (1, .int (nI m)), (2, .int (nI s))], [], wY ax vx tx (va_up a1 56 g) v1 t)) (f := fun i g => upd g (60 * s + i) (cutF (a 54 s) (W (m * 16 + i)))) (n := y) (fun _ _ => True) (fun i g hi _ => ⟨trivial, fun kk => ?_⟩) y 0 (a 56) (by omega) trivial (fun g' hg' _ => ?_)
  · rw [nI_succ] at kk
    iterate 2 refine Rn.step rfl ?_
    refine Rn.br2 rfl (nle hi (by omega)) ?_
    iterate 6 refine Rn.step rfl ?_
    iterate 1 refine Rn.step rfl ?_
    refine Rn.top (x' := nI (60 * s + i)) (ix_am 60 s i) ?_
    iterate 3 refine Rn.step rfl ?_
    refine Rn.ald s rfl rfl hs (by decide) ?_
    refine Rn.top (x' := a 54 s) (by rw [← e54]; rfl) ?_
    iterate 7 refine Rn.step rfl ?_
    refine Rn.ald (16 * m + i) rfl (ix_am 16 m i) (by omega) (by decide) ?_
    refine Rn.top (x' := W (m * 16 + i)) (by rw [Nat.mul_comm m 16]; exact hL.1.1 (16 * m + i) (by omega)) ?_
    refine Rn.calli rfl rfl rfl (by decide) (m_cut (a 54 s) (W (m * 16 + i)) _) (fun w f => ?_)
    rw [f]
    refine Rn.ast (60 * s + i) rfl rfl (by omega) (by decide) (h3 := wY ax vx tx (va_up a1 56 (upd g (60 * s + i) (cutF (a 54 s) (W (m * 16 + i))))) v1 t) (by rw [← va_two a1 56 g (upd g (60 * s + i) (cutF (a 54 s) (W (m * 16 + i))))]; rfl) ?_
    iterate 2 refine Rn.step rfl ?_
    exact kk
  · rw [hg']
    iterate 2 refine Rn.step rfl ?_
    refine Rn.br1 rfl (Int32.le_refl _) ?_
    iterate 1 refine Rn.step rfl ?_
    exact Rn.ret rfl
end MUX
