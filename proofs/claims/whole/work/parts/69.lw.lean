section LAWX
variable {L : Nat} {xs : Nat → Int32} {ax : Nat → Nat → Int32} {vx : Nat → Int32} {tx : Nat → Nat → Int64} {a : Nat → Nat → Int32} {v : Nat → Int32} {t : Nat → Nat → Int64} {i : Nat}
abbrev lwLo (i : Nat) : List (Nat × Value) := [(3, .int (nI i)), (2, .ref 53), (1, .ref 0), (0, .retAddr 0)]
/-- from here the law ends with 1 -/
def PLw (L : Nat) (xs : Nat → Int32) (c : iCfg) : Prop := ∃ (ax : Nat → Nat → Int32) (vx : Nat → Int32) (tx : Nat → Nat → Int64) (a : Nat → Nat → Int32) (v : Nat → Int32) (t : Nat → Nat → Int64), Rn (iExt L xs) 13 mL_law c (some (.int 1), wY ax vx tx a v t)
def KLw (L : Nat) (xs : Nat → Int32) (i : Nat) : Prop := ∀ (ax : Nat → Nat → Int32) (vx : Nat → Int32) (tx : Nat → Nat → Int64) (a : Nat → Nat → Int32) (v : Nat → Int32) (t : Nat → Nat → Int64), RLq ax vx a v → PLw L xs (1262, lwLo i, [], wY ax vx tx a v t)
theorem lw_c0 (hL : L ≤ 3072) (hi : i + 6 ≤ L) (h : RLq ax vx a v) (kk : KLw L xs i) : PLw L xs (192, lwLo i, [], wY ax vx tx a v t) := by
  obtain ⟨y, ax1, vx1, tx1, a1, v1, t1, hr1, hr2, hR⟩ := st_type (E := iExt L xs) (tx := tx) (t := t) h (xs (i + 1)) (xs (i + 2))
  obtain ⟨ax2, vx2, tx2, a2, v2, t2, hk⟩ := kk ax1 vx1 tx1 a1 v1 t1 hR
  refine ⟨ax2, vx2, tx2, a2, v2, t2, ?_⟩
  iterate 5 refine Rn.step rfl ?_
  refine Rn.ald (i + 1) rfl (nI_add i 1) (by omega) (by omega) ?_
  iterate 4 refine Rn.step rfl ?_
  refine Rn.ald (i + 2) rfl (nI_add i 2) (by omega) (by omega) ?_
  refine Rn.calli rfl rfl rfl (by decide) hr1 (fun z1 f1 => ?_)
  iterate 5 refine Rn.step rfl ?_
  refine Rn.ald (i + 1) rfl (nI_add i 1) (by omega) (by omega) ?_
  iterate 4 refine Rn.step rfl ?_
  refine Rn.ald (i + 2) rfl (nI_add i 2) (by omega) (by omega) ?_
  refine Rn.calli rfl rfl rfl (by decide) hr2 (fun z2 f2 => ?_)
  refine Rn.br1 rfl (f1.trans f2.symm) ?_
  exact hk
theorem lw_c1 (hL : L ≤ 3072) (hi : i + 6 ≤ L) (h : RLq ax vx a v) (kk : KLw L xs i) : PLw L xs (225, lwLo i, [], wY ax vx tx a v t) := by
  obtain ⟨y, ax1, vx1, tx1, a1, v1, t1, hr1, hr2, hR⟩ := st_wipe (E := iExt L xs) (tx := tx) (t := t) h (xs (i + 1))
  obtain ⟨ax2, vx2, tx2, a2, v2, t2, hk⟩ := kk ax1 vx1 tx1 a1 v1 t1 hR
  refine ⟨ax2, vx2, tx2, a2, v2, t2, ?_⟩
  iterate 5 refine Rn.step rfl ?_
  refine Rn.ald (i + 1) rfl (nI_add i 1) (by omega) (by omega) ?_
  refine Rn.calli rfl rfl rfl (by decide) hr1 (fun z1 f1 => ?_)
  iterate 5 refine Rn.step rfl ?_
  refine Rn.ald (i + 1) rfl (nI_add i 1) (by omega) (by omega) ?_
  refine Rn.calli rfl rfl rfl (by decide) hr2 (fun z2 f2 => ?_)
  refine Rn.br1 rfl (f1.trans f2.symm) ?_
  exact hk
theorem lw_c2 (hL : L ≤ 3072) (hi : i + 6 ≤ L) (h : RLq ax vx a v) (kk : KLw L xs i) : PLw L xs (248, lwLo i, [], wY ax vx tx a v t) := by
  obtain ⟨y, ax1, vx1, tx1, a1, v1, t1, hr1, hr2, hR⟩ := st_undo (E := iExt L xs) (tx := tx) (t := t) h (xs (i + 1))
  obtain ⟨ax2, vx2, tx2, a2, v2, t2, hk⟩ := kk ax1 vx1 tx1 a1 v1 t1 hR
  refine ⟨ax2, vx2, tx2, a2, v2, t2, ?_⟩
  iterate 5 refine Rn.step rfl ?_
  refine Rn.ald (i + 1) rfl (nI_add i 1) (by omega) (by omega) ?_
  refine Rn.calli rfl rfl rfl (by decide) hr1 (fun z1 f1 => ?_)
  iterate 5 refine Rn.step rfl ?_
  refine Rn.ald (i + 1) rfl (nI_add i 1) (by omega) (by omega) ?_
  refine Rn.calli rfl rfl rfl (by decide) hr2 (fun z2 f2 => ?_)
  refine Rn.br1 rfl (f1.trans f2.symm) ?_
  exact hk
theorem lw_c3 (hL : L ≤ 3072) (hi : i + 6 ≤ L) (h : RLq ax vx a v) (kk : KLw L xs i) : PLw L xs (271, lwLo i, [], wY ax vx tx a v t) := by
  obtain ⟨y, ax1, vx1, tx1, a1, v1, t1, hr1, hr2, hR⟩ := st_fault (E := iExt L xs) (tx := tx) (t := t) h (xs (i + 1))
  obtain ⟨ax2, vx2, tx2, a2, v2, t2, hk⟩ := kk ax1 vx1 tx1 a1 v1 t1 hR
  refine ⟨ax2, vx2, tx2, a2, v2, t2, ?_⟩
  iterate 5 refine Rn.step rfl ?_
  refine Rn.ald (i + 1) rfl (nI_add i 1) (by omega) (by omega) ?_
  refine Rn.calli rfl rfl rfl (by decide) hr1 (fun z1 f1 => ?_)
  iterate 5 refine Rn.step rfl ?_
  refine Rn.ald (i + 1) rfl (nI_add i 1) (by omega) (by omega) ?_
  refine Rn.calli rfl rfl rfl (by decide) hr2 (fun z2 f2 => ?_)
  refine Rn.br1 rfl (f1.trans f2.symm) ?_
  exact hk
theorem lw_c4 (hL : L ≤ 3072) (hi : i + 6 ≤ L) (h : RLq ax vx a v) (kk : KLw L xs i) : PLw L xs (294, lwLo i, [], wY ax vx tx a v t) := by
  obtain ⟨y, ax1, vx1, tx1, a1, v1, t1, hr1, hr2, hR⟩ := st_span (E := iExt L xs) (tx := tx) (t := t) h (xs (i + 1)) (xs (i + 2))
  obtain ⟨ax2, vx2, tx2, a2, v2, t2, hk⟩ := kk ax1 vx1 tx1 a1 v1 t1 hR
  refine ⟨ax2, vx2, tx2, a2, v2, t2, ?_⟩
  iterate 5 refine Rn.step rfl ?_
  refine Rn.ald (i + 1) rfl (nI_add i 1) (by omega) (by omega) ?_
  iterate 4 refine Rn.step rfl ?_
  refine Rn.ald (i + 2) rfl (nI_add i 2) (by omega) (by omega) ?_
  refine Rn.calli rfl rfl rfl (by decide) hr1 (fun z1 f1 => ?_)
  iterate 5 refine Rn.step rfl ?_
  refine Rn.ald (i + 1) rfl (nI_add i 1) (by omega) (by omega) ?_
  iterate 4 refine Rn.step rfl ?_
  refine Rn.ald (i + 2) rfl (nI_add i 2) (by omega) (by omega) ?_
  refine Rn.calli rfl rfl rfl (by decide) hr2 (fun z2 f2 => ?_)
  refine Rn.br1 rfl (f1.trans f2.symm) ?_
  exact hk
theorem lw_c5 (hL : L ≤ 3072) (hi : i + 6 ≤ L) (h : RLq ax vx a v) (kk : KLw L xs i) : PLw L xs (327, lwLo i, [], wY ax vx tx a v t) := by
  obtain ⟨y, ax1, vx1, tx1, a1, v1, t1, hr1, hr2, hR⟩ := st_log (E := iExt L xs) (tx := tx) (t := t) h (xs (i + 1)) (xs (i + 2))
  obtain ⟨ax2, vx2, tx2, a2, v2, t2, hk⟩ := kk ax1 vx1 tx1 a1 v1 t1 hR
  refine ⟨ax2, vx2, tx2, a2, v2, t2, ?_⟩
  iterate 5 refine Rn.step rfl ?_
  refine Rn.ald (i + 1) rfl (nI_add i 1) (by omega) (by omega) ?_
  iterate 4 refine Rn.step rfl ?_
  refine Rn.ald (i + 2) rfl (nI_add i 2) (by omega) (by omega) ?_
  refine Rn.calli rfl rfl rfl (by decide) hr1 (fun z1 f1 => ?_)
  iterate 5 refine Rn.step rfl ?_
  refine Rn.ald (i + 1) rfl (nI_add i 1) (by omega) (by omega) ?_
  iterate 4 refine Rn.step rfl ?_
  refine Rn.ald (i + 2) rfl (nI_add i 2) (by omega) (by omega) ?_
  refine Rn.calli rfl rfl rfl (by decide) hr2 (fun z2 f2 => ?_)
  refine Rn.br1 rfl (f1.trans f2.symm) ?_
  exact hk
theorem lw_c6 (hL : L ≤ 3072) (hi : i + 6 ≤ L) (h : RLq ax vx a v) (kk : KLw L xs i) : PLw L xs (360, lwLo i, [], wY ax vx tx a v t) := by
  obtain ⟨y, ax1, vx1, tx1, a1, v1, t1, hr1, hr2, hR⟩ := st_event (E := iExt L xs) (tx := tx) (t := t) h (xs (i + 1)) (xs (i + 2)) (xs (i + 3))
  obtain ⟨ax2, vx2, tx2, a2, v2, t2, hk⟩ := kk ax1 vx1 tx1 a1 v1 t1 hR
  refine ⟨ax2, vx2, tx2, a2, v2, t2, ?_⟩
  iterate 5 refine Rn.step rfl ?_
  refine Rn.ald (i + 1) rfl (nI_add i 1) (by omega) (by omega) ?_
  iterate 4 refine Rn.step rfl ?_
  refine Rn.ald (i + 2) rfl (nI_add i 2) (by omega) (by omega) ?_
  iterate 4 refine Rn.step rfl ?_
  refine Rn.ald (i + 3) rfl (nI_add i 3) (by omega) (by omega) ?_
  refine Rn.calli rfl rfl rfl (by decide) hr1 (fun z1 f1 => ?_)
  iterate 5 refine Rn.step rfl ?_
  refine Rn.ald (i + 1) rfl (nI_add i 1) (by omega) (by omega) ?_
  iterate 4 refine Rn.step rfl ?_
  refine Rn.ald (i + 2) rfl (nI_add i 2) (by omega) (by omega) ?_
  iterate 4 refine Rn.step rfl ?_
  refine Rn.ald (i + 3) rfl (nI_add i 3) (by omega) (by omega) ?_
  refine Rn.calli rfl rfl rfl (by decide) hr2 (fun z2 f2 => ?_)
  refine Rn.br1 rfl (f1.trans f2.symm) ?_
  exact hk
theorem lw_c7 (hL : L ≤ 3072) (hi : i + 6 ≤ L) (h : RLq ax vx a v) (kk : KLw L xs i) : PLw L xs (403, lwLo i, [], wY ax vx tx a v t) := by
  obtain ⟨y, ax1, vx1, tx1, a1, v1, t1, hr1, hr2, hR⟩ := st_back (E := iExt L xs) (tx := tx) (t := t) h
  obtain ⟨ax2, vx2, tx2, a2, v2, t2, hk⟩ := kk ax1 vx1 tx1 a1 v1 t1 hR
  refine ⟨ax2, vx2, tx2, a2, v2, t2, ?_⟩
  iterate 1 refine Rn.step rfl ?_
  refine Rn.calli rfl rfl rfl (by decide) hr1 (fun z1 f1 => ?_)
  iterate 1 refine Rn.step rfl ?_
  refine Rn.calli rfl rfl rfl (by decide) hr2 (fun z2 f2 => ?_)
  refine Rn.br1 rfl (f1.trans f2.symm) ?_
  exact hk
theorem lw_c8 (hL : L ≤ 3072) (hi : i + 6 ≤ L) (h : RLq ax vx a v) (kk : KLw L xs i) : PLw L xs (416, lwLo i, [], wY ax vx tx a v t) := by
  obtain ⟨y, ax1, vx1, tx1, a1, v1, t1, hr1, hr2, hR⟩ := st_read (E := iExt L xs) (tx := tx) (t := t) h (xs (i + 1))
  obtain ⟨ax2, vx2, tx2, a2, v2, t2, hk⟩ := kk ax1 vx1 tx1 a1 v1 t1 hR
  refine ⟨ax2, vx2, tx2, a2, v2, t2, ?_⟩
  iterate 5 refine Rn.step rfl ?_
  refine Rn.ald (i + 1) rfl (nI_add i 1) (by omega) (by omega) ?_
  refine Rn.calli rfl rfl rfl (by decide) hr1 (fun z1 f1 => ?_)
  iterate 5 refine Rn.step rfl ?_
  refine Rn.ald (i + 1) rfl (nI_add i 1) (by omega) (by omega) ?_
  refine Rn.calli rfl rfl rfl (by decide) hr2 (fun z2 f2 => ?_)
  refine Rn.br1 rfl (f1.trans f2.symm) ?_
  exact hk
theorem lw_c9 (hL : L ≤ 3072) (hi : i + 6 ≤ L) (h : RLq ax vx a v) (kk : KLw L xs i) : PLw L xs (439, lwLo i, [], wY ax vx tx a v t) := by
  obtain ⟨y, ax1, vx1, tx1, a1, v1, t1, hr1, hr2, hR⟩ := st_flume (E := iExt L xs) (tx := tx) (t := t) h (xs (i + 1)) (xs (i + 2)) (xs (i + 3))
  obtain ⟨ax2, vx2, tx2, a2, v2, t2, hk⟩ := kk ax1 vx1 tx1 a1 v1 t1 hR
  refine ⟨ax2, vx2, tx2, a2, v2, t2, ?_⟩
  iterate 5 refine Rn.step rfl ?_
  refine Rn.ald (i + 1) rfl (nI_add i 1) (by omega) (by omega) ?_
  iterate 4 refine Rn.step rfl ?_
  refine Rn.ald (i + 2) rfl (nI_add i 2) (by omega) (by omega) ?_
  iterate 4 refine Rn.step rfl ?_
  refine Rn.ald (i + 3) rfl (nI_add i 3) (by omega) (by omega) ?_
  refine Rn.calli rfl rfl rfl (by decide) hr1 (fun z1 f1 => ?_)
  iterate 5 refine Rn.step rfl ?_
  refine Rn.ald (i + 1) rfl (nI_add i 1) (by omega) (by omega) ?_
  iterate 4 refine Rn.step rfl ?_
  refine Rn.ald (i + 2) rfl (nI_add i 2) (by omega) (by omega) ?_
  iterate 4 refine Rn.step rfl ?_
  refine Rn.ald (i + 3) rfl (nI_add i 3) (by omega) (by omega) ?_
  refine Rn.calli rfl rfl rfl (by decide) hr2 (fun z2 f2 => ?_)
  refine Rn.br1 rfl (f1.trans f2.symm) ?_
  exact hk
theorem lw_c10 (hL : L ≤ 3072) (hi : i + 6 ≤ L) (h : RLq ax vx a v) (kk : KLw L xs i) : PLw L xs (482, lwLo i, [], wY ax vx tx a v t) := by
  obtain ⟨y, ax1, vx1, tx1, a1, v1, t1, hr1, hr2, hR⟩ := st_at (E := iExt L xs) (tx := tx) (t := t) h (xs (i + 1)) (xs (i + 2)) (xs (i + 3))
  obtain ⟨ax2, vx2, tx2, a2, v2, t2, hk⟩ := kk ax1 vx1 tx1 a1 v1 t1 hR
  refine ⟨ax2, vx2, tx2, a2, v2, t2, ?_⟩
  iterate 5 refine Rn.step rfl ?_
  refine Rn.ald (i + 1) rfl (nI_add i 1) (by omega) (by omega) ?_
  iterate 4 refine Rn.step rfl ?_
  refine Rn.ald (i + 2) rfl (nI_add i 2) (by omega) (by omega) ?_
  iterate 4 refine Rn.step rfl ?_
  refine Rn.ald (i + 3) rfl (nI_add i 3) (by omega) (by omega) ?_
  refine Rn.calli rfl rfl rfl (by decide) hr1 (fun z1 f1 => ?_)
  iterate 5 refine Rn.step rfl ?_
  refine Rn.ald (i + 1) rfl (nI_add i 1) (by omega) (by omega) ?_
  iterate 4 refine Rn.step rfl ?_
  refine Rn.ald (i + 2) rfl (nI_add i 2) (by omega) (by omega) ?_
  iterate 4 refine Rn.step rfl ?_
  refine Rn.ald (i + 3) rfl (nI_add i 3) (by omega) (by omega) ?_
  refine Rn.calli rfl rfl rfl (by decide) hr2 (fun z2 f2 => ?_)
  refine Rn.br1 rfl (f1.trans f2.symm) ?_
  exact hk
theorem lw_c11 (hL : L ≤ 3072) (hi : i + 6 ≤ L) (h : RLq ax vx a v) (kk : KLw L xs i) : PLw L xs (525, lwLo i, [], wY ax vx tx a v t) := by
  obtain ⟨y, ax1, vx1, tx1, a1, v1, t1, hr1, hr2, hR⟩ := st_all (E := iExt L xs) (tx := tx) (t := t) h (xs (i + 1)) (xs (i + 2))
  obtain ⟨ax2, vx2, tx2, a2, v2, t2, hk⟩ := kk ax1 vx1 tx1 a1 v1 t1 hR
  refine ⟨ax2, vx2, tx2, a2, v2, t2, ?_⟩
  iterate 5 refine Rn.step rfl ?_
  refine Rn.ald (i + 1) rfl (nI_add i 1) (by omega) (by omega) ?_
  iterate 4 refine Rn.step rfl ?_
  refine Rn.ald (i + 2) rfl (nI_add i 2) (by omega) (by omega) ?_
  refine Rn.calli rfl rfl rfl (by decide) hr1 (fun z1 f1 => ?_)
  iterate 5 refine Rn.step rfl ?_
  refine Rn.ald (i + 1) rfl (nI_add i 1) (by omega) (by omega) ?_
  iterate 4 refine Rn.step rfl ?_
  refine Rn.ald (i + 2) rfl (nI_add i 2) (by omega) (by omega) ?_
  refine Rn.calli rfl rfl rfl (by decide) hr2 (fun z2 f2 => ?_)
  refine Rn.br1 rfl (f1.trans f2.symm) ?_
  exact hk
theorem lw_c12 (hL : L ≤ 3072) (hi : i + 6 ≤ L) (h : RLq ax vx a v) (kk : KLw L xs i) : PLw L xs (558, lwLo i, [], wY ax vx tx a v t) := by
  obtain ⟨y, ax1, vx1, tx1, a1, v1, t1, hr1, hr2, hR⟩ := st_out (E := iExt L xs) (tx := tx) (t := t) h (xs (i + 1)) (xs (i + 2))
  obtain ⟨ax2, vx2, tx2, a2, v2, t2, hk⟩ := kk ax1 vx1 tx1 a1 v1 t1 hR
  refine ⟨ax2, vx2, tx2, a2, v2, t2, ?_⟩
  iterate 5 refine Rn.step rfl ?_
  refine Rn.ald (i + 1) rfl (nI_add i 1) (by omega) (by omega) ?_
  iterate 4 refine Rn.step rfl ?_
  refine Rn.ald (i + 2) rfl (nI_add i 2) (by omega) (by omega) ?_
  refine Rn.calli rfl rfl rfl (by decide) hr1 (fun z1 f1 => ?_)
  iterate 5 refine Rn.step rfl ?_
  refine Rn.ald (i + 1) rfl (nI_add i 1) (by omega) (by omega) ?_
  iterate 4 refine Rn.step rfl ?_
  refine Rn.ald (i + 2) rfl (nI_add i 2) (by omega) (by omega) ?_
  refine Rn.calli rfl rfl rfl (by decide) hr2 (fun z2 f2 => ?_)
  refine Rn.br1 rfl (f1.trans f2.symm) ?_
  exact hk
theorem lw_c13 (hL : L ≤ 3072) (hi : i + 6 ≤ L) (h : RLq ax vx a v) (kk : KLw L xs i) : PLw L xs (591, lwLo i, [], wY ax vx tx a v t) := by
  obtain ⟨y, ax1, vx1, tx1, a1, v1, t1, hr1, hr2, hR⟩ := st_jam (E := iExt L xs) (tx := tx) (t := t) h
  obtain ⟨ax2, vx2, tx2, a2, v2, t2, hk⟩ := kk ax1 vx1 tx1 a1 v1 t1 hR
  refine ⟨ax2, vx2, tx2, a2, v2, t2, ?_⟩
  iterate 1 refine Rn.step rfl ?_
  refine Rn.calli rfl rfl rfl (by decide) hr1 (fun z1 f1 => ?_)
  iterate 1 refine Rn.step rfl ?_
  refine Rn.calli rfl rfl rfl (by decide) hr2 (fun z2 f2 => ?_)
  refine Rn.br1 rfl (f1.trans f2.symm) ?_
  exact hk
theorem lw_c14 (hL : L ≤ 3072) (hi : i + 6 ≤ L) (h : RLq ax vx a v) (kk : KLw L xs i) : PLw L xs (604, lwLo i, [], wY ax vx tx a v t) := by
  obtain ⟨y, ax1, vx1, tx1, a1, v1, t1, hr1, hr2, hR⟩ := st_left (E := iExt L xs) (tx := tx) (t := t) h (xs (i + 1))
  obtain ⟨ax2, vx2, tx2, a2, v2, t2, hk⟩ := kk ax1 vx1 tx1 a1 v1 t1 hR
  refine ⟨ax2, vx2, tx2, a2, v2, t2, ?_⟩
  iterate 5 refine Rn.step rfl ?_
  refine Rn.ald (i + 1) rfl (nI_add i 1) (by omega) (by omega) ?_
  refine Rn.calli rfl rfl rfl (by decide) hr1 (fun z1 f1 => ?_)
  iterate 5 refine Rn.step rfl ?_
  refine Rn.ald (i + 1) rfl (nI_add i 1) (by omega) (by omega) ?_
  refine Rn.calli rfl rfl rfl (by decide) hr2 (fun z2 f2 => ?_)
  refine Rn.br1 rfl (f1.trans f2.symm) ?_
  exact hk
theorem lw_c15 (hL : L ≤ 3072) (hi : i + 6 ≤ L) (h : RLq ax vx a v) (kk : KLw L xs i) : PLw L xs (627, lwLo i, [], wY ax vx tx a v t) := by
  obtain ⟨y, ax1, vx1, tx1, a1, v1, t1, hr1, hr2, hR⟩ := st_worst (E := iExt L xs) (tx := tx) (t := t) h
  obtain ⟨ax2, vx2, tx2, a2, v2, t2, hk⟩ := kk ax1 vx1 tx1 a1 v1 t1 hR
  refine ⟨ax2, vx2, tx2, a2, v2, t2, ?_⟩
  iterate 1 refine Rn.step rfl ?_
  refine Rn.calli rfl rfl rfl (by decide) hr1 (fun z1 f1 => ?_)
  iterate 1 refine Rn.step rfl ?_
  refine Rn.calli rfl rfl rfl (by decide) hr2 (fun z2 f2 => ?_)
  refine Rn.br1 rfl (f1.trans f2.symm) ?_
  exact hk
theorem lw_c16 (hL : L ≤ 3072) (hi : i + 6 ≤ L) (h : RLq ax vx a v) (kk : KLw L xs i) : PLw L xs (640, lwLo i, [], wY ax vx tx a v t) := by
  obtain ⟨y, ax1, vx1, tx1, a1, v1, t1, hr1, hr2, hR⟩ := st_send (E := iExt L xs) (tx := tx) (t := t) h (xs (i + 1)) (xs (i + 2))
  obtain ⟨ax2, vx2, tx2, a2, v2, t2, hk⟩ := kk ax1 vx1 tx1 a1 v1 t1 hR
  refine ⟨ax2, vx2, tx2, a2, v2, t2, ?_⟩
  iterate 5 refine Rn.step rfl ?_
  refine Rn.ald (i + 1) rfl (nI_add i 1) (by omega) (by omega) ?_
  iterate 4 refine Rn.step rfl ?_
  refine Rn.ald (i + 2) rfl (nI_add i 2) (by omega) (by omega) ?_
  refine Rn.calli rfl rfl rfl (by decide) hr1 (fun z1 f1 => ?_)
  iterate 5 refine Rn.step rfl ?_
  refine Rn.ald (i + 1) rfl (nI_add i 1) (by omega) (by omega) ?_
  iterate 4 refine Rn.step rfl ?_
  refine Rn.ald (i + 2) rfl (nI_add i 2) (by omega) (by omega) ?_
  refine Rn.calli rfl rfl rfl (by decide) hr2 (fun z2 f2 => ?_)
  refine Rn.br1 rfl (f1.trans f2.symm) ?_
  exact hk
theorem lw_c17 (hL : L ≤ 3072) (hi : i + 6 ≤ L) (h : RLq ax vx a v) (kk : KLw L xs i) : PLw L xs (673, lwLo i, [], wY ax vx tx a v t) := by
  obtain ⟨y, ax1, vx1, tx1, a1, v1, t1, hr1, hr2, hR⟩ := st_steep (E := iExt L xs) (tx := tx) (t := t) h (xs (i + 1))
  obtain ⟨ax2, vx2, tx2, a2, v2, t2, hk⟩ := kk ax1 vx1 tx1 a1 v1 t1 hR
  refine ⟨ax2, vx2, tx2, a2, v2, t2, ?_⟩
  iterate 5 refine Rn.step rfl ?_
  refine Rn.ald (i + 1) rfl (nI_add i 1) (by omega) (by omega) ?_
  refine Rn.calli rfl rfl rfl (by decide) hr1 (fun z1 f1 => ?_)
  iterate 5 refine Rn.step rfl ?_
  refine Rn.ald (i + 1) rfl (nI_add i 1) (by omega) (by omega) ?_
  refine Rn.calli rfl rfl rfl (by decide) hr2 (fun z2 f2 => ?_)
  refine Rn.br1 rfl (f1.trans f2.symm) ?_
  exact hk
theorem lw_c18 (hL : L ≤ 3072) (hi : i + 6 ≤ L) (h : RLq ax vx a v) (kk : KLw L xs i) : PLw L xs (696, lwLo i, [], wY ax vx tx a v t) := by
  obtain ⟨y, ax1, vx1, tx1, a1, v1, t1, hr1, hr2, hR⟩ := st_fill (E := iExt L xs) (tx := tx) (t := t) h (xs (i + 1))
  obtain ⟨ax2, vx2, tx2, a2, v2, t2, hk⟩ := kk ax1 vx1 tx1 a1 v1 t1 hR
  refine ⟨ax2, vx2, tx2, a2, v2, t2, ?_⟩
  iterate 5 refine Rn.step rfl ?_
  refine Rn.ald (i + 1) rfl (nI_add i 1) (by omega) (by omega) ?_
  refine Rn.calli rfl rfl rfl (by decide) hr1 (fun z1 f1 => ?_)
  iterate 5 refine Rn.step rfl ?_
  refine Rn.ald (i + 1) rfl (nI_add i 1) (by omega) (by omega) ?_
  refine Rn.calli rfl rfl rfl (by decide) hr2 (fun z2 f2 => ?_)
  refine Rn.br1 rfl (f1.trans f2.symm) ?_
  exact hk
theorem lw_c19 (hL : L ≤ 3072) (hi : i + 6 ≤ L) (h : RLq ax vx a v) (kk : KLw L xs i) : PLw L xs (719, lwLo i, [], wY ax vx tx a v t) := by
  obtain ⟨y, ax1, vx1, tx1, a1, v1, t1, hr1, hr2, hR⟩ := st_spare (E := iExt L xs) (tx := tx) (t := t) h (xs (i + 1))
  obtain ⟨ax2, vx2, tx2, a2, v2, t2, hk⟩ := kk ax1 vx1 tx1 a1 v1 t1 hR
  refine ⟨ax2, vx2, tx2, a2, v2, t2, ?_⟩
  iterate 5 refine Rn.step rfl ?_
  refine Rn.ald (i + 1) rfl (nI_add i 1) (by omega) (by omega) ?_
  refine Rn.calli rfl rfl rfl (by decide) hr1 (fun z1 f1 => ?_)
  iterate 5 refine Rn.step rfl ?_
  refine Rn.ald (i + 1) rfl (nI_add i 1) (by omega) (by omega) ?_
  refine Rn.calli rfl rfl rfl (by decide) hr2 (fun z2 f2 => ?_)
  refine Rn.br1 rfl (f1.trans f2.symm) ?_
  exact hk
theorem lw_c20 (hL : L ≤ 3072) (hi : i + 6 ≤ L) (h : RLq ax vx a v) (kk : KLw L xs i) : PLw L xs (742, lwLo i, [], wY ax vx tx a v t) := by
  obtain ⟨y, ax1, vx1, tx1, a1, v1, t1, hr1, hr2, hR⟩ := st_seen (E := iExt L xs) (tx := tx) (t := t) h (xs (i + 1)) (xs (i + 2)) (xs (i + 3))
  obtain ⟨ax2, vx2, tx2, a2, v2, t2, hk⟩ := kk ax1 vx1 tx1 a1 v1 t1 hR
  refine ⟨ax2, vx2, tx2, a2, v2, t2, ?_⟩
  iterate 5 refine Rn.step rfl ?_
  refine Rn.ald (i + 1) rfl (nI_add i 1) (by omega) (by omega) ?_
  iterate 4 refine Rn.step rfl ?_
  refine Rn.ald (i + 2) rfl (nI_add i 2) (by omega) (by omega) ?_
  iterate 4 refine Rn.step rfl ?_
  refine Rn.ald (i + 3) rfl (nI_add i 3) (by omega) (by omega) ?_
  refine Rn.calli rfl rfl rfl (by decide) hr1 (fun z1 f1 => ?_)
  iterate 5 refine Rn.step rfl ?_
  refine Rn.ald (i + 1) rfl (nI_add i 1) (by omega) (by omega) ?_
  iterate 4 refine Rn.step rfl ?_
  refine Rn.ald (i + 2) rfl (nI_add i 2) (by omega) (by omega) ?_
  iterate 4 refine Rn.step rfl ?_
  refine Rn.ald (i + 3) rfl (nI_add i 3) (by omega) (by omega) ?_
  refine Rn.calli rfl rfl rfl (by decide) hr2 (fun z2 f2 => ?_)
  refine Rn.br1 rfl (f1.trans f2.symm) ?_
  exact hk
theorem lw_c21 (hL : L ≤ 3072) (hi : i + 6 ≤ L) (h : RLq ax vx a v) (kk : KLw L xs i) : PLw L xs (785, lwLo i, [], wY ax vx tx a v t) := by
  obtain ⟨y, ax1, vx1, tx1, a1, v1, t1, hr1, hr2, hR⟩ := st_forget (E := iExt L xs) (tx := tx) (t := t) h
  obtain ⟨ax2, vx2, tx2, a2, v2, t2, hk⟩ := kk ax1 vx1 tx1 a1 v1 t1 hR
  refine ⟨ax2, vx2, tx2, a2, v2, t2, ?_⟩
  iterate 1 refine Rn.step rfl ?_
  refine Rn.calli rfl rfl rfl (by decide) hr1 (fun z1 f1 => ?_)
  iterate 1 refine Rn.step rfl ?_
  refine Rn.calli rfl rfl rfl (by decide) hr2 (fun z2 f2 => ?_)
  refine Rn.br1 rfl (f1.trans f2.symm) ?_
  exact hk
theorem lw_c22 (hL : L ≤ 3072) (hi : i + 6 ≤ L) (h : RLq ax vx a v) (kk : KLw L xs i) : PLw L xs (798, lwLo i, [], wY ax vx tx a v t) := by
  obtain ⟨y, ax1, vx1, tx1, a1, v1, t1, hr1, hr2, hR⟩ := st_never (E := iExt L xs) (tx := tx) (t := t) h
  obtain ⟨ax2, vx2, tx2, a2, v2, t2, hk⟩ := kk ax1 vx1 tx1 a1 v1 t1 hR
  refine ⟨ax2, vx2, tx2, a2, v2, t2, ?_⟩
  iterate 1 refine Rn.step rfl ?_
  refine Rn.calli rfl rfl rfl (by decide) hr1 (fun z1 f1 => ?_)
  iterate 1 refine Rn.step rfl ?_
  refine Rn.calli rfl rfl rfl (by decide) hr2 (fun z2 f2 => ?_)
  refine Rn.br1 rfl (f1.trans f2.symm) ?_
  exact hk
theorem lw_c23 (hL : L ≤ 3072) (hi : i + 6 ≤ L) (h : RLq ax vx a v) (kk : KLw L xs i) : PLw L xs (811, lwLo i, [], wY ax vx tx a v t) := by
  obtain ⟨y, ax1, vx1, tx1, a1, v1, t1, hr1, hr2, hR⟩ := st_draughts (E := iExt L xs) (tx := tx) (t := t) h (xs (i + 1))
  obtain ⟨ax2, vx2, tx2, a2, v2, t2, hk⟩ := kk ax1 vx1 tx1 a1 v1 t1 hR
  refine ⟨ax2, vx2, tx2, a2, v2, t2, ?_⟩
  iterate 5 refine Rn.step rfl ?_
  refine Rn.ald (i + 1) rfl (nI_add i 1) (by omega) (by omega) ?_
  refine Rn.calli rfl rfl rfl (by decide) hr1 (fun z1 f1 => ?_)
  iterate 5 refine Rn.step rfl ?_
  refine Rn.ald (i + 1) rfl (nI_add i 1) (by omega) (by omega) ?_
  refine Rn.calli rfl rfl rfl (by decide) hr2 (fun z2 f2 => ?_)
  refine Rn.br1 rfl (f1.trans f2.symm) ?_
  exact hk
theorem lw_c24 (hL : L ≤ 3072) (hi : i + 6 ≤ L) (h : RLq ax vx a v) (kk : KLw L xs i) : PLw L xs (834, lwLo i, [], wY ax vx tx a v t) := by
  obtain ⟨y, ax1, vx1, tx1, a1, v1, t1, hr1, hr2, hR⟩ := st_grade (E := iExt L xs) (tx := tx) (t := t) h (xs (i + 1))
  obtain ⟨ax2, vx2, tx2, a2, v2, t2, hk⟩ := kk ax1 vx1 tx1 a1 v1 t1 hR
  refine ⟨ax2, vx2, tx2, a2, v2, t2, ?_⟩
  iterate 5 refine Rn.step rfl ?_
  refine Rn.ald (i + 1) rfl (nI_add i 1) (by omega) (by omega) ?_
  refine Rn.calli rfl rfl rfl (by decide) hr1 (fun z1 f1 => ?_)
  iterate 5 refine Rn.step rfl ?_
  refine Rn.ald (i + 1) rfl (nI_add i 1) (by omega) (by omega) ?_
  refine Rn.calli rfl rfl rfl (by decide) hr2 (fun z2 f2 => ?_)
  refine Rn.br1 rfl (f1.trans f2.symm) ?_
  exact hk
theorem lw_c25 (hL : L ≤ 3072) (hi : i + 6 ≤ L) (h : RLq ax vx a v) (kk : KLw L xs i) : PLw L xs (857, lwLo i, [], wY ax vx tx a v t) := by
  obtain ⟨y, ax1, vx1, tx1, a1, v1, t1, hr1, hr2, hR⟩ := st_ask (E := iExt L xs) (tx := tx) (t := t) h (xs (i + 1))
  obtain ⟨ax2, vx2, tx2, a2, v2, t2, hk⟩ := kk ax1 vx1 tx1 a1 v1 t1 hR
  refine ⟨ax2, vx2, tx2, a2, v2, t2, ?_⟩
  iterate 5 refine Rn.step rfl ?_
  refine Rn.ald (i + 1) rfl (nI_add i 1) (by omega) (by omega) ?_
  refine Rn.calli rfl rfl rfl (by decide) hr1 (fun z1 f1 => ?_)
  iterate 5 refine Rn.step rfl ?_
  refine Rn.ald (i + 1) rfl (nI_add i 1) (by omega) (by omega) ?_
  refine Rn.calli rfl rfl rfl (by decide) hr2 (fun z2 f2 => ?_)
  refine Rn.br1 rfl (f1.trans f2.symm) ?_
  exact hk
theorem lw_c26 (hL : L ≤ 3072) (hi : i + 6 ≤ L) (h : RLq ax vx a v) (kk : KLw L xs i) : PLw L xs (880, lwLo i, [], wY ax vx tx a v t) := by
  obtain ⟨y, ax1, vx1, tx1, a1, v1, t1, hr1, hr2, hR⟩ := st_chance (E := iExt L xs) (tx := tx) (t := t) h (xs (i + 1)) (xs (i + 2)) (xs (i + 3))
  obtain ⟨ax2, vx2, tx2, a2, v2, t2, hk⟩ := kk ax1 vx1 tx1 a1 v1 t1 hR
  refine ⟨ax2, vx2, tx2, a2, v2, t2, ?_⟩
  iterate 5 refine Rn.step rfl ?_
  refine Rn.ald (i + 1) rfl (nI_add i 1) (by omega) (by omega) ?_
  iterate 4 refine Rn.step rfl ?_
  refine Rn.ald (i + 2) rfl (nI_add i 2) (by omega) (by omega) ?_
  iterate 4 refine Rn.step rfl ?_
  refine Rn.ald (i + 3) rfl (nI_add i 3) (by omega) (by omega) ?_
  refine Rn.calll rfl rfl rfl (by decide) hr1 (fun z1 f1 => ?_)
  iterate 5 refine Rn.step rfl ?_
  refine Rn.ald (i + 1) rfl (nI_add i 1) (by omega) (by omega) ?_
  iterate 4 refine Rn.step rfl ?_
  refine Rn.ald (i + 2) rfl (nI_add i 2) (by omega) (by omega) ?_
  iterate 4 refine Rn.step rfl ?_
  refine Rn.ald (i + 3) rfl (nI_add i 3) (by omega) (by omega) ?_
  refine Rn.calll rfl rfl rfl (by decide) hr2 (fun z2 f2 => ?_)
  iterate 1 refine Rn.step rfl ?_
  refine Rn.br1 rfl ((lg_cmp_eq _ _).mpr (f1.trans f2.symm)) ?_
  exact hk
theorem lw_c27 (hL : L ≤ 3072) (hi : i + 6 ≤ L) (h : RLq ax vx a v) (kk : KLw L xs i) : PLw L xs (924, lwLo i, [], wY ax vx tx a v t) := by
  obtain ⟨y, ax1, vx1, tx1, a1, v1, t1, hr1, hr2, hR⟩ := st_seasons (E := iExt L xs) (tx := tx) (t := t) h (xs (i + 1)) (xs (i + 2)) (xs (i + 3))
  obtain ⟨ax2, vx2, tx2, a2, v2, t2, hk⟩ := kk ax1 vx1 tx1 a1 v1 t1 hR
  refine ⟨ax2, vx2, tx2, a2, v2, t2, ?_⟩
  iterate 5 refine Rn.step rfl ?_
  refine Rn.ald (i + 1) rfl (nI_add i 1) (by omega) (by omega) ?_
  iterate 4 refine Rn.step rfl ?_
  refine Rn.ald (i + 2) rfl (nI_add i 2) (by omega) (by omega) ?_
  iterate 4 refine Rn.step rfl ?_
  refine Rn.ald (i + 3) rfl (nI_add i 3) (by omega) (by omega) ?_
  refine Rn.calli rfl rfl rfl (by decide) hr1 (fun z1 f1 => ?_)
  iterate 5 refine Rn.step rfl ?_
  refine Rn.ald (i + 1) rfl (nI_add i 1) (by omega) (by omega) ?_
  iterate 4 refine Rn.step rfl ?_
  refine Rn.ald (i + 2) rfl (nI_add i 2) (by omega) (by omega) ?_
  iterate 4 refine Rn.step rfl ?_
  refine Rn.ald (i + 3) rfl (nI_add i 3) (by omega) (by omega) ?_
  refine Rn.calli rfl rfl rfl (by decide) hr2 (fun z2 f2 => ?_)
  refine Rn.br1 rfl (f1.trans f2.symm) ?_
  exact hk
theorem lw_c28 (hL : L ≤ 3072) (hi : i + 6 ≤ L) (h : RLq ax vx a v) (kk : KLw L xs i) : PLw L xs (967, lwLo i, [], wY ax vx tx a v t) := by
  obtain ⟨y, ax1, vx1, tx1, a1, v1, t1, hr1, hr2, hR⟩ := st_sheet (E := iExt L xs) (tx := tx) (t := t) h (xs (i + 1)) (xs (i + 2)) (xs (i + 3))
  obtain ⟨ax2, vx2, tx2, a2, v2, t2, hk⟩ := kk ax1 vx1 tx1 a1 v1 t1 hR
  refine ⟨ax2, vx2, tx2, a2, v2, t2, ?_⟩
  iterate 5 refine Rn.step rfl ?_
  refine Rn.ald (i + 1) rfl (nI_add i 1) (by omega) (by omega) ?_
  iterate 4 refine Rn.step rfl ?_
  refine Rn.ald (i + 2) rfl (nI_add i 2) (by omega) (by omega) ?_
  iterate 4 refine Rn.step rfl ?_
  refine Rn.ald (i + 3) rfl (nI_add i 3) (by omega) (by omega) ?_
  refine Rn.calli rfl rfl rfl (by decide) hr1 (fun z1 f1 => ?_)
  iterate 5 refine Rn.step rfl ?_
  refine Rn.ald (i + 1) rfl (nI_add i 1) (by omega) (by omega) ?_
  iterate 4 refine Rn.step rfl ?_
  refine Rn.ald (i + 2) rfl (nI_add i 2) (by omega) (by omega) ?_
  iterate 4 refine Rn.step rfl ?_
  refine Rn.ald (i + 3) rfl (nI_add i 3) (by omega) (by omega) ?_
  refine Rn.calli rfl rfl rfl (by decide) hr2 (fun z2 f2 => ?_)
  refine Rn.br1 rfl (f1.trans f2.symm) ?_
  exact hk
theorem lw_c29 (hL : L ≤ 3072) (hi : i + 6 ≤ L) (h : RLq ax vx a v) (kk : KLw L xs i) : PLw L xs (1010, lwLo i, [], wY ax vx tx a v t) := by
  obtain ⟨y, ax1, vx1, tx1, a1, v1, t1, hr1, hr2, hR⟩ := st_lose (E := iExt L xs) (tx := tx) (t := t) h (xs (i + 1))
  obtain ⟨ax2, vx2, tx2, a2, v2, t2, hk⟩ := kk ax1 vx1 tx1 a1 v1 t1 hR
  refine ⟨ax2, vx2, tx2, a2, v2, t2, ?_⟩
  iterate 5 refine Rn.step rfl ?_
  refine Rn.ald (i + 1) rfl (nI_add i 1) (by omega) (by omega) ?_
  refine Rn.calli rfl rfl rfl (by decide) hr1 (fun z1 f1 => ?_)
  iterate 5 refine Rn.step rfl ?_
  refine Rn.ald (i + 1) rfl (nI_add i 1) (by omega) (by omega) ?_
  refine Rn.calli rfl rfl rfl (by decide) hr2 (fun z2 f2 => ?_)
  refine Rn.br1 rfl (f1.trans f2.symm) ?_
  exact hk
theorem lw_c30 (hL : L ≤ 3072) (hi : i + 6 ≤ L) (h : RLq ax vx a v) (kk : KLw L xs i) : PLw L xs (1033, lwLo i, [], wY ax vx tx a v t) := by
  obtain ⟨y, ax1, vx1, tx1, a1, v1, t1, hr1, hr2, hR⟩ := st_lay (E := iExt L xs) (tx := tx) (t := t) h (xs (i + 1)) (xs (i + 2)) (xs (i + 3)) (xs (i + 4))
  obtain ⟨ax2, vx2, tx2, a2, v2, t2, hk⟩ := kk ax1 vx1 tx1 a1 v1 t1 hR
  refine ⟨ax2, vx2, tx2, a2, v2, t2, ?_⟩
  iterate 5 refine Rn.step rfl ?_
  refine Rn.ald (i + 1) rfl (nI_add i 1) (by omega) (by omega) ?_
  iterate 4 refine Rn.step rfl ?_
  refine Rn.ald (i + 2) rfl (nI_add i 2) (by omega) (by omega) ?_
  iterate 4 refine Rn.step rfl ?_
  refine Rn.ald (i + 3) rfl (nI_add i 3) (by omega) (by omega) ?_
  iterate 4 refine Rn.step rfl ?_
  refine Rn.ald (i + 4) rfl (nI_add i 4) (by omega) (by omega) ?_
  refine Rn.calli rfl rfl rfl (by decide) hr1 (fun z1 f1 => ?_)
  iterate 5 refine Rn.step rfl ?_
  refine Rn.ald (i + 1) rfl (nI_add i 1) (by omega) (by omega) ?_
  iterate 4 refine Rn.step rfl ?_
  refine Rn.ald (i + 2) rfl (nI_add i 2) (by omega) (by omega) ?_
  iterate 4 refine Rn.step rfl ?_
  refine Rn.ald (i + 3) rfl (nI_add i 3) (by omega) (by omega) ?_
  iterate 4 refine Rn.step rfl ?_
  refine Rn.ald (i + 4) rfl (nI_add i 4) (by omega) (by omega) ?_
  refine Rn.calli rfl rfl rfl (by decide) hr2 (fun z2 f2 => ?_)
  refine Rn.br1 rfl (f1.trans f2.symm) ?_
  exact hk
theorem lw_c31 (hL : L ≤ 3072) (hi : i + 6 ≤ L) (h : RLq ax vx a v) (kk : KLw L xs i) : PLw L xs (1086, lwLo i, [], wY ax vx tx a v t) := by
  obtain ⟨y, ax1, vx1, tx1, a1, v1, t1, hr1, hr2, hR⟩ := st_get (E := iExt L xs) (tx := tx) (t := t) h (xs (i + 1)) (xs (i + 2)) (xs (i + 3))
  obtain ⟨ax2, vx2, tx2, a2, v2, t2, hk⟩ := kk ax1 vx1 tx1 a1 v1 t1 hR
  refine ⟨ax2, vx2, tx2, a2, v2, t2, ?_⟩
  iterate 5 refine Rn.step rfl ?_
  refine Rn.ald (i + 1) rfl (nI_add i 1) (by omega) (by omega) ?_
  iterate 4 refine Rn.step rfl ?_
  refine Rn.ald (i + 2) rfl (nI_add i 2) (by omega) (by omega) ?_
  iterate 4 refine Rn.step rfl ?_
  refine Rn.ald (i + 3) rfl (nI_add i 3) (by omega) (by omega) ?_
  refine Rn.calli rfl rfl rfl (by decide) hr1 (fun z1 f1 => ?_)
  iterate 5 refine Rn.step rfl ?_
  refine Rn.ald (i + 1) rfl (nI_add i 1) (by omega) (by omega) ?_
  iterate 4 refine Rn.step rfl ?_
  refine Rn.ald (i + 2) rfl (nI_add i 2) (by omega) (by omega) ?_
  iterate 4 refine Rn.step rfl ?_
  refine Rn.ald (i + 3) rfl (nI_add i 3) (by omega) (by omega) ?_
  refine Rn.calli rfl rfl rfl (by decide) hr2 (fun z2 f2 => ?_)
  refine Rn.br1 rfl (f1.trans f2.symm) ?_
  exact hk
theorem lw_c32 (hL : L ≤ 3072) (hi : i + 6 ≤ L) (h : RLq ax vx a v) (kk : KLw L xs i) : PLw L xs (1129, lwLo i, [], wY ax vx tx a v t) := by
  obtain ⟨y, ax1, vx1, tx1, a1, v1, t1, hr1, hr2, hR⟩ := st_copy (E := iExt L xs) (tx := tx) (t := t) h (xs (i + 1)) (xs (i + 2)) (xs (i + 3)) (xs (i + 4)) (xs (i + 5))
  obtain ⟨ax2, vx2, tx2, a2, v2, t2, hk⟩ := kk ax1 vx1 tx1 a1 v1 t1 hR
  refine ⟨ax2, vx2, tx2, a2, v2, t2, ?_⟩
  iterate 5 refine Rn.step rfl ?_
  refine Rn.ald (i + 1) rfl (nI_add i 1) (by omega) (by omega) ?_
  iterate 4 refine Rn.step rfl ?_
  refine Rn.ald (i + 2) rfl (nI_add i 2) (by omega) (by omega) ?_
  iterate 4 refine Rn.step rfl ?_
  refine Rn.ald (i + 3) rfl (nI_add i 3) (by omega) (by omega) ?_
  iterate 4 refine Rn.step rfl ?_
  refine Rn.ald (i + 4) rfl (nI_add i 4) (by omega) (by omega) ?_
  iterate 4 refine Rn.step rfl ?_
  refine Rn.ald (i + 5) rfl (nI_add i 5) (by omega) (by omega) ?_
  refine Rn.calli rfl rfl rfl (by decide) hr1 (fun z1 f1 => ?_)
  iterate 5 refine Rn.step rfl ?_
  refine Rn.ald (i + 1) rfl (nI_add i 1) (by omega) (by omega) ?_
  iterate 4 refine Rn.step rfl ?_
  refine Rn.ald (i + 2) rfl (nI_add i 2) (by omega) (by omega) ?_
  iterate 4 refine Rn.step rfl ?_
  refine Rn.ald (i + 3) rfl (nI_add i 3) (by omega) (by omega) ?_
  iterate 4 refine Rn.step rfl ?_
  refine Rn.ald (i + 4) rfl (nI_add i 4) (by omega) (by omega) ?_
  iterate 4 refine Rn.step rfl ?_
  refine Rn.ald (i + 5) rfl (nI_add i 5) (by omega) (by omega) ?_
  refine Rn.calli rfl rfl rfl (by decide) hr2 (fun z2 f2 => ?_)
  refine Rn.br1 rfl (f1.trans f2.symm) ?_
  exact hk
theorem lw_c33 (hL : L ≤ 3072) (hi : i + 6 ≤ L) (h : RLq ax vx a v) (kk : KLw L xs i) : PLw L xs (1192, lwLo i, [], wY ax vx tx a v t) := by
  obtain ⟨y, ax1, vx1, tx1, a1, v1, t1, hr1, hr2, hR⟩ := st_write (E := iExt L xs) (tx := tx) (t := t) h (xs (i + 1)) (xs (i + 2))
  obtain ⟨ax2, vx2, tx2, a2, v2, t2, hk⟩ := kk ax1 vx1 tx1 a1 v1 t1 hR
  refine ⟨ax2, vx2, tx2, a2, v2, t2, ?_⟩
  iterate 5 refine Rn.step rfl ?_
  refine Rn.ald (i + 1) rfl (nI_add i 1) (by omega) (by omega) ?_
  iterate 4 refine Rn.step rfl ?_
  refine Rn.ald (i + 2) rfl (nI_add i 2) (by omega) (by omega) ?_
  refine Rn.calli rfl rfl rfl (by decide) hr1 (fun z1 f1 => ?_)
  iterate 5 refine Rn.step rfl ?_
  refine Rn.ald (i + 1) rfl (nI_add i 1) (by omega) (by omega) ?_
  iterate 4 refine Rn.step rfl ?_
  refine Rn.ald (i + 2) rfl (nI_add i 2) (by omega) (by omega) ?_
  refine Rn.calli rfl rfl rfl (by decide) hr2 (fun z2 f2 => ?_)
  refine Rn.br1 rfl (f1.trans f2.symm) ?_
  exact hk
theorem lw_c34 (hL : L ≤ 3072) (hi : i + 6 ≤ L) (h : RLq ax vx a v) (kk : KLw L xs i) : PLw L xs (1225, lwLo i, [], wY ax vx tx a v t) := by
  obtain ⟨y, ax1, vx1, tx1, a1, v1, t1, hr1, hr2, hR⟩ := st_count (E := iExt L xs) (tx := tx) (t := t) h (xs (i + 1))
  obtain ⟨ax2, vx2, tx2, a2, v2, t2, hk⟩ := kk ax1 vx1 tx1 a1 v1 t1 hR
  refine ⟨ax2, vx2, tx2, a2, v2, t2, ?_⟩
  iterate 5 refine Rn.step rfl ?_
  refine Rn.ald (i + 1) rfl (nI_add i 1) (by omega) (by omega) ?_
  refine Rn.calli rfl rfl rfl (by decide) hr1 (fun z1 f1 => ?_)
  iterate 5 refine Rn.step rfl ?_
  refine Rn.ald (i + 1) rfl (nI_add i 1) (by omega) (by omega) ?_
  refine Rn.calli rfl rfl rfl (by decide) hr2 (fun z2 f2 => ?_)
  refine Rn.br1 rfl (f1.trans f2.symm) ?_
  exact hk
theorem lw_c35 (hL : L ≤ 3072) (hi : i + 6 ≤ L) (h : RLq ax vx a v) (kk : KLw L xs i) : PLw L xs (1248, lwLo i, [], wY ax vx tx a v t) := by
  obtain ⟨y, ax1, vx1, tx1, a1, v1, t1, hr1, hr2, hR⟩ := st_digest (L := L) (xs := xs) (tx := tx) (t := t) h
  obtain ⟨ax2, vx2, tx2, a2, v2, t2, hk⟩ := kk ax1 vx1 tx1 a1 v1 t1 hR
  refine ⟨ax2, vx2, tx2, a2, v2, t2, ?_⟩
  iterate 1 refine Rn.step rfl ?_
  refine Rn.calll rfl rfl rfl (by decide) hr1 (fun z1 f1 => ?_)
  iterate 1 refine Rn.step rfl ?_
  refine Rn.calll rfl rfl rfl (by decide) hr2 (fun z2 f2 => ?_)
  iterate 1 refine Rn.step rfl ?_
  refine Rn.br1 rfl ((lg_cmp_eq _ _).mpr (f1.trans f2.symm)) ?_
  exact hk
theorem lw_sw (hL : L ≤ 3072) (hi : i + 6 ≤ L) {j p : Nat} (e : xs i &&& 63 = nI j) (hs : iStep (iExt L xs) iProg mL_law (33, lwLo i, [.int (nI j)], wY ax vx tx a v t) = some (.inl (p, lwLo i, [], wY ax vx tx a v t))) (h : PLw L xs (p, lwLo i, [], wY ax vx tx a v t)) : PLw L xs (27, lwLo i, [], wY ax vx tx a v t) := by
  obtain ⟨ax2, vx2, tx2, a2, v2, t2, hk⟩ := h
  refine ⟨ax2, vx2, tx2, a2, v2, t2, ?_⟩
  iterate 2 refine Rn.step rfl ?_
  refine Rn.ald i rfl rfl (by omega) (by omega) ?_
  iterate 2 refine Rn.step rfl ?_
  refine Rn.top (x' := nI j) e ?_
  exact Rn.step hs hk
theorem lw_iter (hL : L ≤ 3072) (hi : i + 6 ≤ L) (h : RLq ax vx a v) (kk : KLw L xs i) : PLw L xs (27, lwLo i, [], wY ax vx tx a v t) := by
  obtain ⟨j, hj, e⟩ := pk_andE (xs i) (m := 63) 6 (by decide)
  obtain rfl | rfl | rfl | rfl | rfl | rfl | rfl | rfl | rfl | rfl | rfl | rfl | rfl | rfl | rfl | rfl | rfl | rfl | rfl | rfl | rfl | rfl | rfl | rfl | rfl | rfl | rfl | rfl | rfl | rfl | rfl | rfl | rfl | rfl | rfl | rfl | hj2 : j = 0 ∨ j = 1 ∨ j = 2 ∨ j = 3 ∨ j = 4 ∨ j = 5 ∨ j = 6 ∨ j = 7 ∨ j = 8 ∨ j = 9 ∨ j = 10 ∨ j = 11 ∨ j = 12 ∨ j = 13 ∨ j = 14 ∨ j = 15 ∨ j = 16 ∨ j = 17 ∨ j = 18 ∨ j = 19 ∨ j = 20 ∨ j = 21 ∨ j = 22 ∨ j = 23 ∨ j = 24 ∨ j = 25 ∨ j = 26 ∨ j = 27 ∨ j = 28 ∨ j = 29 ∨ j = 30 ∨ j = 31 ∨ j = 32 ∨ j = 33 ∨ j = 34 ∨ j = 35 ∨ 36 ≤ j := by omega
  · exact lw_sw hL hi e rfl (lw_c0 hL hi h kk)
  · exact lw_sw hL hi e rfl (lw_c1 hL hi h kk)
  · exact lw_sw hL hi e rfl (lw_c2 hL hi h kk)
  · exact lw_sw hL hi e rfl (lw_c3 hL hi h kk)
  · exact lw_sw hL hi e rfl (lw_c4 hL hi h kk)
  · exact lw_sw hL hi e rfl (lw_c5 hL hi h kk)
  · exact lw_sw hL hi e rfl (lw_c6 hL hi h kk)
  · exact lw_sw hL hi e rfl (lw_c7 hL hi h kk)
  · exact lw_sw hL hi e rfl (lw_c8 hL hi h kk)
  · exact lw_sw hL hi e rfl (lw_c9 hL hi h kk)
  · exact lw_sw hL hi e rfl (lw_c10 hL hi h kk)
  · exact lw_sw hL hi e rfl (lw_c11 hL hi h kk)
  · exact lw_sw hL hi e rfl (lw_c12 hL hi h kk)
  · exact lw_sw hL hi e rfl (lw_c13 hL hi h kk)
  · exact lw_sw hL hi e rfl (lw_c14 hL hi h kk)
  · exact lw_sw hL hi e rfl (lw_c15 hL hi h kk)
  · exact lw_sw hL hi e rfl (lw_c16 hL hi h kk)
  · exact lw_sw hL hi e rfl (lw_c17 hL hi h kk)
  · exact lw_sw hL hi e rfl (lw_c18 hL hi h kk)
  · exact lw_sw hL hi e rfl (lw_c19 hL hi h kk)
  · exact lw_sw hL hi e rfl (lw_c20 hL hi h kk)
  · exact lw_sw hL hi e rfl (lw_c21 hL hi h kk)
  · exact lw_sw hL hi e rfl (lw_c22 hL hi h kk)
  · exact lw_sw hL hi e rfl (lw_c23 hL hi h kk)
  · exact lw_sw hL hi e rfl (lw_c24 hL hi h kk)
  · exact lw_sw hL hi e rfl (lw_c25 hL hi h kk)
  · exact lw_sw hL hi e rfl (lw_c26 hL hi h kk)
  · exact lw_sw hL hi e rfl (lw_c27 hL hi h kk)
  · exact lw_sw hL hi e rfl (lw_c28 hL hi h kk)
  · exact lw_sw hL hi e rfl (lw_c29 hL hi h kk)
  · exact lw_sw hL hi e rfl (lw_c30 hL hi h kk)
  · exact lw_sw hL hi e rfl (lw_c31 hL hi h kk)
  · exact lw_sw hL hi e rfl (lw_c32 hL hi h kk)
  · exact lw_sw hL hi e rfl (lw_c33 hL hi h kk)
  · exact lw_sw hL hi e rfl (lw_c34 hL hi h kk)
  · exact lw_sw hL hi e rfl (lw_c35 hL hi h kk)
  · refine lw_sw hL hi (p := 1262) e ?_ (kk ax vx tx a v t h)
    have hx : (nI j).toInt < 0 ∨ 35 < (nI j).toInt := by
      rw [nI_toInt (by omega)]; omega
    show (if (nI j).toInt < 0 ∨ 35 < (nI j).toInt then _ else _) = _
    rw [if_pos hx]; rfl
theorem lw_loop (hL : L ≤ 3072) : ∀ (j i : Nat) (ax : Nat → Nat → Int32) (vx : Nat → Int32) (tx : Nat → Nat → Int64) (a : Nat → Nat → Int32) (v : Nat → Int32) (t : Nat → Nat → Int64), i ≤ L → L < i + 6 * j + 6 → RLq ax vx a v → PLw L xs (18, lwLo i, [], wY ax vx tx a v t) := by
  intro j
  induction j with
  | zero =>
    intro i ax vx tx a v t hi hj h
    refine ⟨ax, vx, tx, a, v, t, ?_⟩
    have hc : nI L - nI 6 < nI i := by
      rw [Int32.lt_iff_toInt_lt, pk_sub_toInt (by omega) (by decide), nI_toInt (by omega)]; omega
    iterate 5 refine Rn.step rfl ?_
    refine Rn.br1 rfl hc ?_
    iterate 1 refine Rn.step rfl ?_
    exact Rn.ret rfl
  | succ j ih =>
    intro i ax vx tx a v t hi hj h
    by_cases hx : L < i + 6
    · refine ⟨ax, vx, tx, a, v, t, ?_⟩
      have hc : nI L - nI 6 < nI i := by
        rw [Int32.lt_iff_toInt_lt, pk_sub_toInt (by omega) (by decide), nI_toInt (by omega)]; omega
      iterate 5 refine Rn.step rfl ?_
      refine Rn.br1 rfl hc ?_
      iterate 1 refine Rn.step rfl ?_
      exact Rn.ret rfl
    · have hk : KLw L xs i := by
        intro ax vx tx a v t hR
        obtain ⟨ax2, vx2, tx2, a2, v2, t2, hk⟩ := ih (i + 6) ax vx tx a v t (by omega) (by omega) hR
        refine ⟨ax2, vx2, tx2, a2, v2, t2, ?_⟩
        unfold lwLo at hk
        rw [← nI_add] at hk
        iterate 2 refine Rn.step rfl ?_
        exact hk
      obtain ⟨ax2, vx2, tx2, a2, v2, t2, hk⟩ := lw_iter (tx := tx) (t := t) hL (by omega) h hk
      refine ⟨ax2, vx2, tx2, a2, v2, t2, ?_⟩
      have hc : ¬ nI L - nI 6 < nI i := by
        rw [Int32.lt_iff_toInt_lt, pk_sub_toInt (by omega) (by decide), nI_toInt (by omega)]; omega
      iterate 5 refine Rn.step rfl ?_
      refine Rn.br2 rfl hc ?_
      exact hk
theorem lw_all (hL : L ≤ 3072) : PLw L xs (0, [(0, .retAddr 0)], [], []) := by
  obtain ⟨ax2, vx2, tx2, a2, v2, t2, hk⟩ := lw_loop (xs := xs) hL L 0 ax1 vx0 tx0 am0 vm0 tx0 (by omega) (by omega) i_rel
  refine ⟨ax2, vx2, tx2, a2, v2, t2, ?_⟩
  iterate 2 refine Rn.step rfl ?_
  refine Rn.hp (h2 := [.inr (7, iDfl 7)]) rfl ?_
  refine Rn.callv rfl rfl rfl (by decide) i_class ?_
  iterate 3 refine Rn.step rfl ?_
  refine Rn.hp (h2 := wX ax1 vx0 tx0 [.inr (8, iDfl 8)]) rfl ?_
  refine Rn.callv rfl rfl rfl (by decide) (i_model _ _ _) ?_
  iterate 3 refine Rn.step rfl ?_
  exact hk
end LAWX
