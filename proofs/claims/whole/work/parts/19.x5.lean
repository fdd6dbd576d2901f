section X5
variable {E : iExtT} {a : Nat → Nat → Int32} {v : Nat → Int32} {t : Nat → Nat → Int64} {r : List va_E}
/-- the water that comes to a span in a minute, out of what stands there -/
def cel0 (m s : Nat) (g : Nat → Int32) : Int32 := if 0 < m ∧ 0 < s then g ((m - 1) * 16 + (s - 1)) else 0
def cel1 (x : Int32) : Int32 := if 0 < x then x + -1 else x
abbrev b0 (x : Int32) (s : Nat) : Prop := (x >>> (nI s &&& 31)) &&& 1 = 0
def cel2 (fe : Nat → Int32) (sh : Int32) (s : Nat) (x : Int32) : Int32 := if b0 sh s then (if 20 < x + fe s then 20 else x + fe s) else x
def cel (fe sh bu : Nat → Int32) (m s : Nat) (g : Nat → Int32) : Int32 := if b0 (bu m) s then cel2 fe (sh m) s (cel1 (cel0 m s g)) else 0
def wlA (fe sh bu : Nat → Int32) (f0 : Nat → Int32) : Nat → Int32 := lp (fun m g => lp (fun s g => upd g (m * 16 + s) (cel fe sh bu m s g)) 0 16 g) 0 24 f0
theorem ix_pour {m s : Nat} (hm : 0 < m) (hs : 0 < s) : (nI m - nI 1) * nI 16 + nI s - nI 1 = nI ((m - 1) * 16 + (s - 1)) := by
  rw [pk_sub hm, pk_mul, nI_add, pk_sub (by omega)]
  congr 1
  omega
theorem npos {m : Nat} (h : m < 2 ^ 31) : (¬ nI m ≤ 0) ↔ 0 < m := by
  rw [show (0 : Int32) = nI 0 from rfl, nI_leI h (by decide)]
  omega
theorem r_pour1 (kp : Int32) {k : Nat} (hk : k ≤ 8) (hv : v 5 = nI k) {mn : Nat → Nat} (hmn : ∀ e, e < k → a 11 e = nI (mn e) ∧ mn e < 24) {SH BU : Nat → Int32} (hSH : SH = mkA (a 10) mn (a 12) k 1 kp (a 20)) (hBU : BU = mkA (a 10) mn (a 12) k 2 kp (a 21)) : Rn E 1 mX6_pour (0, [(0, .ref 18), (1, .ref 5), (2, .ref 9), (3, .int kp)], [], wX a v t r) (none, wX (va_up (va_up (va_up a 20 SH) 21 BU) 19 (wlA (a 5) SH BU (a 19))) v t r) := by
  repeat refine Rn.step rfl ?_
  refine Rn.callv rfl rfl rfl (by decide) (r_mark (K := 20) (by decide) 1 kp hk hv hmn) ?_
  rw [← hSH]
  repeat refine Rn.step rfl ?_
  refine Rn.callv rfl rfl rfl (by decide) (r_mark (a := (va_up a 20 SH)) (K := 21) (by decide) 2 kp hk hv hmn) ?_
  refine Rn.hp (h2 := wX (va_up (va_up a 20 SH) 21 BU) v t r) (by subst hBU; rfl) ?_
  iterate 2 refine Rn.step rfl ?_
  refine Rn.lp (σ := Nat → Int32) (cfg := fun m g => (23, [(4, .int (nI m)), (0, .ref 18), (1, .ref 5), (2, .ref 9), (3, .int kp)], [], wX (va_up (va_up (va_up a 20 SH) 21 BU) 19 g) v t r)) (f := fun m g => lp (fun s g => upd g (m * 16 + s) (cel (a 5) SH BU m s g)) 0 16 g) (n := 24) (fun _ _ => True) (fun m g hm _ => ⟨trivial, fun k1 => ?_⟩) 24 0 (a 19) rfl trivial (fun g0 hg0 _ => ?_)
  · rw [nI_succ] at k1
    repeat refine Rn.step rfl ?_
    refine Rn.br2 rfl (nle hm (by decide)) ?_
    iterate 2 refine Rn.step rfl ?_
    refine Rn.lp (σ := Nat → Int32) (cfg := fun s g => (33, [(5, .int (nI s)), (4, .int (nI m)), (0, .ref 18), (1, .ref 5), (2, .ref 9), (3, .int kp)], [], wX (va_up (va_up (va_up a 20 SH) 21 BU) 19 g) v t r)) (f := fun s g => upd g (m * 16 + s) (cel (a 5) SH BU m s g)) (n := 16) (fun _ _ => True) (fun s g hs _ => ⟨trivial, fun k2 => ?_⟩) 16 0 g rfl trivial (fun g1 hg1 _ => ?_)
    · rw [nI_succ] at k2
      have st4 : ∀ x : Int32, x = cel2 (a 5) (SH m) s (cel1 (cel0 m s g)) → Rn E 1 mX6_pour (117, [(6, .int x), (5, .int (nI s)), (4, .int (nI m)), (0, .ref 18), (1, .ref 5), (2, .ref 9), (3, .int kp)], [], wX (va_up (va_up (va_up a 20 SH) 21 BU) 19 g) v t r) (none, wX (va_up (va_up (va_up a 20 SH) 21 BU) 19 (wlA (a 5) SH BU (a 19))) v t r) := by
        intro x ex
        repeat refine Rn.step rfl ?_
        refine Rn.ald m rfl rfl hm (by decide) ?_
        repeat refine Rn.step rfl ?_
        refine Rn.br rfl (fun h1 => ?_) (fun h1 => ?_)
        · rw [show cel (a 5) SH BU m s g = 0 from if_neg h1] at k2
          refine Rn.step rfl ?_
          refine Rn.ast (m * 16 + s) rfl (ix_ma m 16 s) (by omega) (by decide) (h3 := wX (va_up (va_up (va_up a 20 SH) 21 BU) 19 (upd g (m * 16 + s) 0)) v t r) rfl ?_
          iterate 2 refine Rn.step rfl ?_
          exact Rn.sub (by exact ⟨rfl, rfl, rfl, rfl, rfl, rfl, trivial⟩) k2
        · rw [show cel (a 5) SH BU m s g = x from by rw [ex]; exact if_pos (Decidable.not_not.mp h1)] at k2
          iterate 2 refine Rn.step rfl ?_
          refine Rn.ast (m * 16 + s) rfl (ix_ma m 16 s) (by omega) (by decide) (h3 := wX (va_up (va_up (va_up a 20 SH) 21 BU) 19 (upd g (m * 16 + s) x)) v t r) rfl ?_
          iterate 2 refine Rn.step rfl ?_
          exact Rn.sub (by exact ⟨rfl, rfl, rfl, rfl, rfl, rfl, trivial⟩) k2
      have st3 : ∀ x : Int32, x = cel1 (cel0 m s g) → Rn E 1 mX6_pour (88, [(6, .int x), (5, .int (nI s)), (4, .int (nI m)), (0, .ref 18), (1, .ref 5), (2, .ref 9), (3, .int kp)], [], wX (va_up (va_up (va_up a 20 SH) 21 BU) 19 g) v t r) (none, wX (va_up (va_up (va_up a 20 SH) 21 BU) 19 (wlA (a 5) SH BU (a 19))) v t r) := by
        intro x ex
        repeat refine Rn.step rfl ?_
        refine Rn.ald m rfl rfl hm (by decide) ?_
        repeat refine Rn.step rfl ?_
        refine Rn.br rfl (fun h1 => ?_) (fun h1 => ?_)
        · exact st4 x (by rw [← ex]; exact (if_neg h1).symm)
        · repeat refine Rn.step rfl ?_
          refine Rn.ald s rfl rfl hs (by decide) ?_
          iterate 4 refine Rn.step rfl ?_
          exact st4 _ (by rw [← ex]; exact (if_pos (Decidable.not_not.mp h1)).symm)
      have st2 : ∀ x : Int32, x = cel0 m s g → Rn E 1 mX6_pour (78, [(5, .int (nI s)), (4, .int (nI m)), (0, .ref 18), (1, .ref 5), (2, .ref 9), (3, .int kp)], [.int x], wX (va_up (va_up (va_up a 20 SH) 21 BU) 19 g) v t r) (none, wX (va_up (va_up (va_up a 20 SH) 21 BU) 19 (wlA (a 5) SH BU (a 19))) v t r) := by
        intro x ex
        repeat refine Rn.step rfl ?_
        refine Rn.br rfl (fun h1 => ?_) (fun h1 => ?_)
        · exact st3 x (by rw [← ex]; exact (if_neg (Int32.not_lt.mpr h1)).symm)
        · refine Rn.step rfl ?_
          exact st3 _ (by rw [← ex]; exact (if_pos (Int32.not_le.mp h1)).symm)
      repeat refine Rn.step rfl ?_
      refine Rn.br2 rfl (nle hs (by decide)) ?_
      repeat refine Rn.step rfl ?_
      refine Rn.br2 rfl (nle (n := 16) hs (by decide)) ?_
      repeat refine Rn.step rfl ?_
      refine Rn.br rfl (fun h1 => ?_) (fun h1 => ?_)
      · refine Rn.step rfl ?_
        refine Rn.sub (by exact ⟨rfl, rfl, rfl, rfl, rfl, rfl, trivial⟩) (st2 0 ?_)
        exact (if_neg (fun q => (npos (by omega)).mpr q.1 h1)).symm
      · repeat refine Rn.step rfl ?_
        refine Rn.br rfl (fun h2 => ?_) (fun h2 => ?_)
        · refine Rn.step rfl ?_
          refine Rn.sub (by exact ⟨rfl, rfl, rfl, rfl, rfl, rfl, trivial⟩) (st2 0 ?_)
          exact (if_neg (fun q => (npos (by omega)).mpr q.2 h2)).symm
        · have p1 := (npos (by omega)).mp h1
          have p2 := (npos (by omega)).mp h2
          repeat refine Rn.step rfl ?_
          refine Rn.ald ((m - 1) * 16 + (s - 1)) rfl (ix_pour p1 p2) (by omega) (by decide) ?_
          refine Rn.step rfl ?_
          refine Rn.sub (by exact ⟨rfl, rfl, rfl, rfl, rfl, rfl, trivial⟩) (st2 _ ?_)
          exact (if_pos ⟨p1, p2⟩).symm
    · iterate 5 refine Rn.step rfl ?_
      subst hg1
      exact Rn.sub (by exact ⟨rfl, rfl, rfl, rfl, rfl, trivial⟩) k1
  · repeat refine Rn.step rfl ?_
    subst hg0
    exact Rn.ret rfl
theorem r_pour2 (kp : Int32) {k : Nat} (hk : k ≤ 8) (hv : v 5 = nI k) {mn : Nat → Nat} (hmn : ∀ e, e < k → a 11 e = nI (mn e) ∧ mn e < 24) {SH BU : Nat → Int32} (hSH : SH = mkA (a 10) mn (a 12) k 1 kp (a 29)) (hBU : BU = mkA (a 10) mn (a 12) k 2 kp (a 30)) : Rn E 1 mX6_pour (0, [(0, .ref 27), (1, .ref 5), (2, .ref 9), (3, .int kp)], [], wX a v t r) (none, wX (va_up (va_up (va_up a 29 SH) 30 BU) 28 (wlA (a 5) SH BU (a 28))) v t r) := by
  repeat refine Rn.step rfl ?_
  refine Rn.callv rfl rfl rfl (by decide) (r_mark (K := 29) (by decide) 1 kp hk hv hmn) ?_
  rw [← hSH]
  repeat refine Rn.step rfl ?_
  refine Rn.callv rfl rfl rfl (by decide) (r_mark (a := (va_up a 29 SH)) (K := 30) (by decide) 2 kp hk hv hmn) ?_
  refine Rn.hp (h2 := wX (va_up (va_up a 29 SH) 30 BU) v t r) (by subst hBU; rfl) ?_
  iterate 2 refine Rn.step rfl ?_
  refine Rn.lp (σ := Nat → Int32) (cfg := fun m g => (23, [(4, .int (nI m)), (0, .ref 27), (1, .ref 5), (2, .ref 9), (3, .int kp)], [], wX (va_up (va_up (va_up a 29 SH) 30 BU) 28 g) v t r)) (f := fun m g => lp (fun s g => upd g (m * 16 + s) (cel (a 5) SH BU m s g)) 0 16 g) (n := 24) (fun _ _ => True) (fun m g hm _ => ⟨trivial, fun k1 => ?_⟩) 24 0 (a 28) rfl trivial (fun g0 hg0 _ => ?_)
  · rw [nI_succ] at k1
    repeat refine Rn.step rfl ?_
    refine Rn.br2 rfl (nle hm (by decide)) ?_
    iterate 2 refine Rn.step rfl ?_
    refine Rn.lp (σ := Nat → Int32) (cfg := fun s g => (33, [(5, .int (nI s)), (4, .int (nI m)), (0, .ref 27), (1, .ref 5), (2, .ref 9), (3, .int kp)], [], wX (va_up (va_up (va_up a 29 SH) 30 BU) 28 g) v t r)) (f := fun s g => upd g (m * 16 + s) (cel (a 5) SH BU m s g)) (n := 16) (fun _ _ => True) (fun s g hs _ => ⟨trivial, fun k2 => ?_⟩) 16 0 g rfl trivial (fun g1 hg1 _ => ?_)
    · rw [nI_succ] at k2
      have st4 : ∀ x : Int32, x = cel2 (a 5) (SH m) s (cel1 (cel0 m s g)) → Rn E 1 mX6_pour (117, [(6, .int x), (5, .int (nI s)), (4, .int (nI m)), (0, .ref 27), (1, .ref 5), (2, .ref 9), (3, .int kp)], [], wX (va_up (va_up (va_up a 29 SH) 30 BU) 28 g) v t r) (none, wX (va_up (va_up (va_up a 29 SH) 30 BU) 28 (wlA (a 5) SH BU (a 28))) v t r) := by
        intro x ex
        repeat refine Rn.step rfl ?_
        refine Rn.ald m rfl rfl hm (by decide) ?_
        repeat refine Rn.step rfl ?_
        refine Rn.br rfl (fun h1 => ?_) (fun h1 => ?_)
        · rw [show cel (a 5) SH BU m s g = 0 from if_neg h1] at k2
          refine Rn.step rfl ?_
          refine Rn.ast (m * 16 + s) rfl (ix_ma m 16 s) (by omega) (by decide) (h3 := wX (va_up (va_up (va_up a 29 SH) 30 BU) 28 (upd g (m * 16 + s) 0)) v t r) rfl ?_
          iterate 2 refine Rn.step rfl ?_
          exact Rn.sub (by exact ⟨rfl, rfl, rfl, rfl, rfl, rfl, trivial⟩) k2
        · rw [show cel (a 5) SH BU m s g = x from by rw [ex]; exact if_pos (Decidable.not_not.mp h1)] at k2
          iterate 2 refine Rn.step rfl ?_
          refine Rn.ast (m * 16 + s) rfl (ix_ma m 16 s) (by omega) (by decide) (h3 := wX (va_up (va_up (va_up a 29 SH) 30 BU) 28 (upd g (m * 16 + s) x)) v t r) rfl ?_
          iterate 2 refine Rn.step rfl ?_
          exact Rn.sub (by exact ⟨rfl, rfl, rfl, rfl, rfl, rfl, trivial⟩) k2
      have st3 : ∀ x : Int32, x = cel1 (cel0 m s g) → Rn E 1 mX6_pour (88, [(6, .int x), (5, .int (nI s)), (4, .int (nI m)), (0, .ref 27), (1, .ref 5), (2, .ref 9), (3, .int kp)], [], wX (va_up (va_up (va_up a 29 SH) 30 BU) 28 g) v t r) (none, wX (va_up (va_up (va_up a 29 SH) 30 BU) 28 (wlA (a 5) SH BU (a 28))) v t r) := by
        intro x ex
        repeat refine Rn.step rfl ?_
        refine Rn.ald m rfl rfl hm (by decide) ?_
        repeat refine Rn.step rfl ?_
        refine Rn.br rfl (fun h1 => ?_) (fun h1 => ?_)
        · exact st4 x (by rw [← ex]; exact (if_neg h1).symm)
        · repeat refine Rn.step rfl ?_
          refine Rn.ald s rfl rfl hs (by decide) ?_
          iterate 4 refine Rn.step rfl ?_
          exact st4 _ (by rw [← ex]; exact (if_pos (Decidable.not_not.mp h1)).symm)
      have st2 : ∀ x : Int32, x = cel0 m s g → Rn E 1 mX6_pour (78, [(5, .int (nI s)), (4, .int (nI m)), (0, .ref 27), (1, .ref 5), (2, .ref 9), (3, .int kp)], [.int x], wX (va_up (va_up (va_up a 29 SH) 30 BU) 28 g) v t r) (none, wX (va_up (va_up (va_up a 29 SH) 30 BU) 28 (wlA (a 5) SH BU (a 28))) v t r) := by
        intro x ex
        repeat refine Rn.step rfl ?_
        refine Rn.br rfl (fun h1 => ?_) (fun h1 => ?_)
        · exact st3 x (by rw [← ex]; exact (if_neg (Int32.not_lt.mpr h1)).symm)
        · refine Rn.step rfl ?_
          exact st3 _ (by rw [← ex]; exact (if_pos (Int32.not_le.mp h1)).symm)
      repeat refine Rn.step rfl ?_
      refine Rn.br2 rfl (nle hs (by decide)) ?_
      repeat refine Rn.step rfl ?_
      refine Rn.br2 rfl (nle (n := 16) hs (by decide)) ?_
      repeat refine Rn.step rfl ?_
      refine Rn.br rfl (fun h1 => ?_) (fun h1 => ?_)
      · refine Rn.step rfl ?_
        refine Rn.sub (by exact ⟨rfl, rfl, rfl, rfl, rfl, rfl, trivial⟩) (st2 0 ?_)
        exact (if_neg (fun q => (npos (by omega)).mpr q.1 h1)).symm
      · repeat refine Rn.step rfl ?_
        refine Rn.br rfl (fun h2 => ?_) (fun h2 => ?_)
        · refine Rn.step rfl ?_
          refine Rn.sub (by exact ⟨rfl, rfl, rfl, rfl, rfl, rfl, trivial⟩) (st2 0 ?_)
          exact (if_neg (fun q => (npos (by omega)).mpr q.2 h2)).symm
        · have p1 := (npos (by omega)).mp h1
          have p2 := (npos (by omega)).mp h2
          repeat refine Rn.step rfl ?_
          refine Rn.ald ((m - 1) * 16 + (s - 1)) rfl (ix_pour p1 p2) (by omega) (by decide) ?_
          refine Rn.step rfl ?_
          refine Rn.sub (by exact ⟨rfl, rfl, rfl, rfl, rfl, rfl, trivial⟩) (st2 _ ?_)
          exact (if_pos ⟨p1, p2⟩).symm
    · iterate 5 refine Rn.step rfl ?_
      subst hg1
      exact Rn.sub (by exact ⟨rfl, rfl, rfl, rfl, rfl, trivial⟩) k1
  · repeat refine Rn.step rfl ?_
    subst hg0
    exact Rn.ret rfl
theorem r_pour3 (kp : Int32) {k : Nat} (hk : k ≤ 8) (hv : v 5 = nI k) {mn : Nat → Nat} (hmn : ∀ e, e < k → a 11 e = nI (mn e) ∧ mn e < 24) {SH BU : Nat → Int32} (hSH : SH = mkA (a 10) mn (a 12) k 1 kp (a 29)) (hBU : BU = mkA (a 10) mn (a 12) k 2 kp (a 30)) : Rn E 1 mX6_pour (0, [(0, .ref 27), (1, .ref 36), (2, .ref 9), (3, .int kp)], [], wX a v t r) (none, wX (va_up (va_up (va_up a 29 SH) 30 BU) 28 (wlA (a 36) SH BU (a 28))) v t r) := by
  repeat refine Rn.step rfl ?_
  refine Rn.callv rfl rfl rfl (by decide) (r_mark (K := 29) (by decide) 1 kp hk hv hmn) ?_
  rw [← hSH]
  repeat refine Rn.step rfl ?_
  refine Rn.callv rfl rfl rfl (by decide) (r_mark (a := (va_up a 29 SH)) (K := 30) (by decide) 2 kp hk hv hmn) ?_
  refine Rn.hp (h2 := wX (va_up (va_up a 29 SH) 30 BU) v t r) (by subst hBU; rfl) ?_
  iterate 2 refine Rn.step rfl ?_
  refine Rn.lp (σ := Nat → Int32) (cfg := fun m g => (23, [(4, .int (nI m)), (0, .ref 27), (1, .ref 36), (2, .ref 9), (3, .int kp)], [], wX (va_up (va_up (va_up a 29 SH) 30 BU) 28 g) v t r)) (f := fun m g => lp (fun s g => upd g (m * 16 + s) (cel (a 36) SH BU m s g)) 0 16 g) (n := 24) (fun _ _ => True) (fun m g hm _ => ⟨trivial, fun k1 => ?_⟩) 24 0 (a 28) rfl trivial (fun g0 hg0 _ => ?_)
  · rw [nI_succ] at k1
    repeat refine Rn.step rfl ?_
    refine Rn.br2 rfl (nle hm (by decide)) ?_
    iterate 2 refine Rn.step rfl ?_
    refine Rn.lp (σ := Nat → Int32) (cfg := fun s g => (33, [(5, .int (nI s)), (4, .int (nI m)), (0, .ref 27), (1, .ref 36), (2, .ref 9), (3, .int kp)], [], wX (va_up (va_up (va_up a 29 SH) 30 BU) 28 g) v t r)) (f := fun s g => upd g (m * 16 + s) (cel (a 36) SH BU m s g)) (n := 16) (fun _ _ => True) (fun s g hs _ => ⟨trivial, fun k2 => ?_⟩) 16 0 g rfl trivial (fun g1 hg1 _ => ?_)
    · rw [nI_succ] at k2
      have st4 : ∀ x : Int32, x = cel2 (a 36) (SH m) s (cel1 (cel0 m s g)) → Rn E 1 mX6_pour (117, [(6, .int x), (5, .int (nI s)), (4, .int (nI m)), (0, .ref 27), (1, .ref 36), (2, .ref 9), (3, .int kp)], [], wX (va_up (va_up (va_up a 29 SH) 30 BU) 28 g) v t r) (none, wX (va_up (va_up (va_up a 29 SH) 30 BU) 28 (wlA (a 36) SH BU (a 28))) v t r) := by
        intro x ex
        repeat refine Rn.step rfl ?_
        refine Rn.ald m rfl rfl hm (by decide) ?_
        repeat refine Rn.step rfl ?_
        refine Rn.br rfl (fun h1 => ?_) (fun h1 => ?_)
        · rw [show cel (a 36) SH BU m s g = 0 from if_neg h1] at k2
          refine Rn.step rfl ?_
          refine Rn.ast (m * 16 + s) rfl (ix_ma m 16 s) (by omega) (by decide) (h3 := wX (va_up (va_up (va_up a 29 SH) 30 BU) 28 (upd g (m * 16 + s) 0)) v t r) rfl ?_
          iterate 2 refine Rn.step rfl ?_
          exact Rn.sub (by exact ⟨rfl, rfl, rfl, rfl, rfl, rfl, trivial⟩) k2
        · rw [show cel (a 36) SH BU m s g = x from by rw [ex]; exact if_pos (Decidable.not_not.mp h1)] at k2
          iterate 2 refine Rn.step rfl ?_
          refine Rn.ast (m * 16 + s) rfl (ix_ma m 16 s) (by omega) (by decide) (h3 := wX (va_up (va_up (va_up a 29 SH) 30 BU) 28 (upd g (m * 16 + s) x)) v t r) rfl ?_
          iterate 2 refine Rn.step rfl ?_
          exact Rn.sub (by exact ⟨rfl, rfl, rfl, rfl, rfl, rfl, trivial⟩) k2
      have st3 : ∀ x : Int32, x = cel1 (cel0 m s g) → Rn E 1 mX6_pour (88, [(6, .int x), (5, .int (nI s)), (4, .int (nI m)), (0, .ref 27), (1, .ref 36), (2, .ref 9), (3, .int kp)], [], wX (va_up (va_up (va_up a 29 SH) 30 BU) 28 g) v t r) (none, wX (va_up (va_up (va_up a 29 SH) 30 BU) 28 (wlA (a 36) SH BU (a 28))) v t r) := by
        intro x ex
        repeat refine Rn.step rfl ?_
        refine Rn.ald m rfl rfl hm (by decide) ?_
        repeat refine Rn.step rfl ?_
        refine Rn.br rfl (fun h1 => ?_) (fun h1 => ?_)
        · exact st4 x (by rw [← ex]; exact (if_neg h1).symm)
        · repeat refine Rn.step rfl ?_
          refine Rn.ald s rfl rfl hs (by decide) ?_
          iterate 4 refine Rn.step rfl ?_
          exact st4 _ (by rw [← ex]; exact (if_pos (Decidable.not_not.mp h1)).symm)
      have st2 : ∀ x : Int32, x = cel0 m s g → Rn E 1 mX6_pour (78, [(5, .int (nI s)), (4, .int (nI m)), (0, .ref 27), (1, .ref 36), (2, .ref 9), (3, .int kp)], [.int x], wX (va_up (va_up (va_up a 29 SH) 30 BU) 28 g) v t r) (none, wX (va_up (va_up (va_up a 29 SH) 30 BU) 28 (wlA (a 36) SH BU (a 28))) v t r) := by
        intro x ex
        repeat refine Rn.step rfl ?_
        refine Rn.br rfl (fun h1 => ?_) (fun h1 => ?_)
        · exact st3 x (by rw [← ex]; exact (if_neg (Int32.not_lt.mpr h1)).symm)
        · refine Rn.step rfl ?_
          exact st3 _ (by rw [← ex]; exact (if_pos (Int32.not_le.mp h1)).symm)
      repeat refine Rn.step rfl ?_
      refine Rn.br2 rfl (nle hs (by decide)) ?_
      repeat refine Rn.step rfl ?_
      refine Rn.br2 rfl (nle (n := 16) hs (by decide)) ?_
      repeat refine Rn.step rfl ?_
      refine Rn.br rfl (fun h1 => ?_) (fun h1 => ?_)
      · refine Rn.step rfl ?_
        refine Rn.sub (by exact ⟨rfl, rfl, rfl, rfl, rfl, rfl, trivial⟩) (st2 0 ?_)
        exact (if_neg (fun q => (npos (by omega)).mpr q.1 h1)).symm
      · repeat refine Rn.step rfl ?_
        refine Rn.br rfl (fun h2 => ?_) (fun h2 => ?_)
        · refine Rn.step rfl ?_
          refine Rn.sub (by exact ⟨rfl, rfl, rfl, rfl, rfl, rfl, trivial⟩) (st2 0 ?_)
          exact (if_neg (fun q => (npos (by omega)).mpr q.2 h2)).symm
        · have p1 := (npos (by omega)).mp h1
          have p2 := (npos (by omega)).mp h2
          repeat refine Rn.step rfl ?_
          refine Rn.ald ((m - 1) * 16 + (s - 1)) rfl (ix_pour p1 p2) (by omega) (by decide) ?_
          refine Rn.step rfl ?_
          refine Rn.sub (by exact ⟨rfl, rfl, rfl, rfl, rfl, rfl, trivial⟩) (st2 _ ?_)
          exact (if_pos ⟨p1, p2⟩).symm
    · iterate 5 refine Rn.step rfl ?_
      subst hg1
      exact Rn.sub (by exact ⟨rfl, rfl, rfl, rfl, rfl, trivial⟩) k1
  · repeat refine Rn.step rfl ?_
    subst hg0
    exact Rn.ret rfl
end X5
