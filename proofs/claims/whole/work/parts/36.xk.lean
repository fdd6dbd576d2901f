section XK
variable {L : Nat} {xs : Nat → Int32} {a : Nat → Nat → Int32} {v : Nat → Int32} {t : Nat → Nat → Int64} {r : List va_E}
theorem mSpan_eq {a' : Nat → Nat → Int32} {v' : Nat → Int32} (he : eqT a v a' v') (n k q : Nat) (mn sm : Nat → Nat) (h : Int64) (s : Nat) : mSpan a' v' n k q mn sm h s = mSpan a v n k q mn sm h s := by
  unfold mSpan
  simp only [qS0_eq he, qS1_eq he, qL0_eq he, qL1_eq he, qL2_eq he, qF_eq he, qFl0_eq he, qFl1_eq he, qAt0_eq he, qAt1_eq he, qAl0_eq he, qAl1_eq he, qOu0_eq he, qOu1_eq he, qOu2_eq he, qJam_eq he, qLe0_eq he, qLe1_eq he, qWo_eq he, qSe0_eq he, qSe1_eq he, qSt0_eq he, qSt1_eq he, qFi0_eq he, qFi1_eq he, qSp_eq he, qNe_eq he, qDr_eq he, qGr_eq he, qAs_eq he, qCh0_eq he, qCh1_eq he, qSn0_eq he, qSn1_eq he, qC0_eq he, qC1_eq he, qC2_eq he, qC3_eq he, qC4_eq he, qC5_eq he, qC6_eq he, qC7_eq he, qC8_eq he]
theorem mLogM_eq {a' : Nat → Nat → Int32} {v' : Nat → Int32} (he : eqT a v a' v') (n k q : Nat) (mn sm : Nat → Nat) (h : Int64) (s : Nat) : mLogM a' v' n k q mn sm h s = mLogM a v n k q mn sm h s := by
  unfold mLogM
  simp only [qS0_eq he, qS1_eq he, qL0_eq he, qL1_eq he, qL2_eq he, qF_eq he, qFl0_eq he, qFl1_eq he, qAt0_eq he, qAt1_eq he, qAl0_eq he, qAl1_eq he, qOu0_eq he, qOu1_eq he, qOu2_eq he, qJam_eq he, qLe0_eq he, qLe1_eq he, qWo_eq he, qSe0_eq he, qSe1_eq he, qSt0_eq he, qSt1_eq he, qFi0_eq he, qFi1_eq he, qSp_eq he, qNe_eq he, qDr_eq he, qGr_eq he, qAs_eq he, qCh0_eq he, qCh1_eq he, qSn0_eq he, qSn1_eq he, qC0_eq he, qC1_eq he, qC2_eq he, qC3_eq he, qC4_eq he, qC5_eq he, qC6_eq he, qC7_eq he, qC8_eq he]
theorem mLogP_eq {a' : Nat → Nat → Int32} {v' : Nat → Int32} (he : eqT a v a' v') (n k q : Nat) (mn sm : Nat → Nat) (h : Int64) (s : Nat) : mLogP a' v' n k q mn sm h s = mLogP a v n k q mn sm h s := by
  unfold mLogP
  simp only [qS0_eq he, qS1_eq he, qL0_eq he, qL1_eq he, qL2_eq he, qF_eq he, qFl0_eq he, qFl1_eq he, qAt0_eq he, qAt1_eq he, qAl0_eq he, qAl1_eq he, qOu0_eq he, qOu1_eq he, qOu2_eq he, qJam_eq he, qLe0_eq he, qLe1_eq he, qWo_eq he, qSe0_eq he, qSe1_eq he, qSt0_eq he, qSt1_eq he, qFi0_eq he, qFi1_eq he, qSp_eq he, qNe_eq he, qDr_eq he, qGr_eq he, qAs_eq he, qCh0_eq he, qCh1_eq he, qSn0_eq he, qSn1_eq he, qC0_eq he, qC1_eq he, qC2_eq he, qC3_eq he, qC4_eq he, qC5_eq he, qC6_eq he, qC7_eq he, qC8_eq he]
theorem mWhole_eq {a' : Nat → Nat → Int32} {v' : Nat → Int32} (he : eqT a v a' v') (n k q : Nat) (mn sm : Nat → Nat) (h : Int64) : mWhole a' v' n k q mn sm h = mWhole a v n k q mn sm h := by
  unfold mWhole
  simp only [qS0_eq he, qS1_eq he, qL0_eq he, qL1_eq he, qL2_eq he, qF_eq he, qFl0_eq he, qFl1_eq he, qAt0_eq he, qAt1_eq he, qAl0_eq he, qAl1_eq he, qOu0_eq he, qOu1_eq he, qOu2_eq he, qJam_eq he, qLe0_eq he, qLe1_eq he, qWo_eq he, qSe0_eq he, qSe1_eq he, qSt0_eq he, qSt1_eq he, qFi0_eq he, qFi1_eq he, qSp_eq he, qNe_eq he, qDr_eq he, qGr_eq he, qAs_eq he, qCh0_eq he, qCh1_eq he, qSn0_eq he, qSn1_eq he, qC0_eq he, qC1_eq he, qC2_eq he, qC3_eq he, qC4_eq he, qC5_eq he, qC6_eq he, qC7_eq he, qC8_eq he]
def mHead (a : Nat → Nat → Int32) (v : Nat → Int32) (n k q : Nat) (mn sm : Nat → Nat) : Int64 := mx (mx (mx (mx (mx (mx (mx (mx (mx (mx (mx (17) (qC0 a v n k q mn sm)) (qC1 a v n k q mn sm)) (qC2 a v n k q mn sm)) (qC3 a v n k q mn sm)) (qC4 a v n k q mn sm)) (qC5 a v n k q mn sm)) (qC6 a v n k q mn sm)) (qC7 a v n k q mn sm)) (qF a v n k q mn sm 0)) (qF a v n k q mn sm 1)) (qF a v n k q mn sm 2)
def mMin (a : Nat → Nat → Int32) (v : Nat → Int32) (n k q : Nat) (mn sm : Nat → Nat) (h : Int64) (m : Nat) : Int64 := mx (mx h (qAl0 a v n k q mn sm m)) (qAl1 a v n k q mn sm m)
def mDig (a : Nat → Nat → Int32) (v : Nat → Int32) (n k q : Nat) (mn sm : Nat → Nat) : Int64 := mWhole a v n k q mn sm (lp (fun l h => mLogP a v n k q mn sm (mLogM a v n k q mn sm h l) l) 0 n (lp (fun s h => mSpan a v n k q mn sm h s) 0 16 (lp (fun m h => mMin a v n k q mn sm h m) 0 24 (mHead a v n k q mn sm))))
theorem dgMin {n k q : Nat} {mn sm : Nat → Nat} (hW : WfX a v n k q mn sm) (h0 : Int64) (m : Nat) (w : ((Nat → Nat → Int32) × (Nat → Int32) × (Nat → Nat → Int64)) × Int64) (hm : m < 24) (hI : (eqT a v w.1.1 w.1.2.1 ∧ SetX w.1.1 w.1.2.1 mn k n) ∧ w.2 = lp (fun m h => mMin a v n k q mn sm h m) 0 m h0) : ∃ w' : ((Nat → Nat → Int32) × (Nat → Int32) × (Nat → Nat → Int64)) × Int64, ((eqT a v w'.1.1 w'.1.2.1 ∧ SetX w'.1.1 w'.1.2.1 mn k n) ∧ w'.2 = lp (fun m h => mMin a v n k q mn sm h m) 0 (m + 1) h0) ∧ ∀ o, Rn (iExt L xs) 7 mX7_digest (59, [(3, .int (nI (m + 1))), (1, .long w'.2), (0, .ref 0)], [], wX w'.1.1 w'.1.2.1 w'.1.2.2 r) o → Rn (iExt L xs) 7 mX7_digest (59, [(3, .int (nI m)), (1, .long w.2), (0, .ref 0)], [], wX w.1.1 w.1.2.1 w.1.2.2 r) o := by
  obtain ⟨⟨a0, v0, t0⟩, h⟩ := w
  obtain ⟨⟨he0, hS0⟩, hh⟩ := hI
  dsimp only at he0 hS0 hh ⊢
  have hW0 := hW.moved he0
  obtain ⟨⟨hn, hv4⟩, -⟩ := id hW0
  obtain ⟨a1, v1, t1, hr1, hd1, hS1⟩ := (r_all0 (E := iExt L xs) (t := t0) (r := r) hW0 hS0 hm).toT
  have he1 := he0.trans hd1
  obtain ⟨a2, v2, t2, hr2, hd2, hS2⟩ := (r_all1 (E := iExt L xs) (t := t1) (r := r) (hW.moved he1) hS1 hm).toT
  have he2 := he1.trans hd2
  have e1 := qAl0_eq he0 n k q mn sm m
  have e2 := qAl1_eq he1 n k q mn sm m
  unfold qAl0 at e1
  unfold qAl1 at e2
  rw [e1] at hr1
  rw [e2] at hr2
  refine ⟨((a2, v2, t2), mx (mx h (tog (cW a mn k) m)) (aflF (cDr a mn k n).1 m n)), ⟨⟨he2, hS2⟩, by rw [lp_end, ← hh, Nat.zero_add]; rfl⟩, fun o kk => ?_⟩
  dsimp only at kk
  rw [nI_succ] at kk
  iterate 2 refine Rn.step rfl ?_
  refine Rn.br2 rfl (nle hm (by decide)) ?_
  repeat refine Rn.step rfl ?_
  refine Rn.calli rfl rfl rfl (by decide) hr1 (fun z1 f1 => ?_)
  rw [← f1] at kk
  repeat refine Rn.step rfl ?_
  refine Rn.calli rfl rfl rfl (by decide) hr2 (fun z2 f2 => ?_)
  rw [← f2] at kk
  iterate 5 refine Rn.step rfl ?_
  exact kk
theorem dgSpan {n k q : Nat} {mn sm : Nat → Nat} (hW : WfX a v n k q mn sm) (h0 : Int64) (m : Nat) (w : ((Nat → Nat → Int32) × (Nat → Int32) × (Nat → Nat → Int64)) × Int64) (hm : m < 16) (hI : (eqT a v w.1.1 w.1.2.1 ∧ SetX w.1.1 w.1.2.1 mn k n) ∧ w.2 = lp (fun s h => mSpan a v n k q mn sm h s) 0 m h0) : ∃ w' : ((Nat → Nat → Int32) × (Nat → Int32) × (Nat → Nat → Int64)) × Int64, ((eqT a v w'.1.1 w'.1.2.1 ∧ SetX w'.1.1 w'.1.2.1 mn k n) ∧ w'.2 = lp (fun s h => mSpan a v n k q mn sm h s) 0 (m + 1) h0) ∧ ∀ o, Rn (iExt L xs) 7 mX7_digest (101, [(3, .int (nI (m + 1))), (1, .long w'.2), (0, .ref 0)], [], wX w'.1.1 w'.1.2.1 w'.1.2.2 r) o → Rn (iExt L xs) 7 mX7_digest (101, [(3, .int (nI m)), (1, .long w.2), (0, .ref 0)], [], wX w.1.1 w.1.2.1 w.1.2.2 r) o := by
  obtain ⟨⟨a0, v0, t0⟩, h⟩ := w
  obtain ⟨⟨he0, hS0⟩, hh⟩ := hI
  dsimp only at he0 hS0 hh ⊢
  have hW0 := hW.moved he0
  obtain ⟨⟨hn, hv4⟩, -⟩ := id hW0
  obtain ⟨a1, v1, t1, hr1, hd1, hS1⟩ := r_mixSpan (L := L) (xs := xs) (t := t0) (r := r) hW0 hS0 h hm
  have he1 := he0.trans hd1
  rw [mSpan_eq he0] at hr1
  refine ⟨((a1, v1, t1), mSpan a v n k q mn sm h m), ⟨⟨he1, hS1⟩, by rw [lp_end, ← hh, Nat.zero_add]⟩, fun o kk => ?_⟩
  dsimp only at kk
  rw [nI_succ] at kk
  iterate 2 refine Rn.step rfl ?_
  refine Rn.br2 rfl (nle hm (by decide)) ?_
  repeat refine Rn.step rfl ?_
  refine Rn.calll rfl rfl rfl (by decide) hr1 (fun z1 f1 => ?_)
  rw [← f1] at kk
  iterate 3 refine Rn.step rfl ?_
  exact kk
theorem dgLog {n k q : Nat} {mn sm : Nat → Nat} (hW : WfX a v n k q mn sm) (h0 : Int64) (m : Nat) (w : ((Nat → Nat → Int32) × (Nat → Int32) × (Nat → Nat → Int64)) × Int64) (hm : m < n) (hI : (eqT a v w.1.1 w.1.2.1 ∧ SetX w.1.1 w.1.2.1 mn k n) ∧ w.2 = lp (fun l h => mLogP a v n k q mn sm (mLogM a v n k q mn sm h l) l) 0 m h0) : ∃ w' : ((Nat → Nat → Int32) × (Nat → Int32) × (Nat → Nat → Int64)) × Int64, ((eqT a v w'.1.1 w'.1.2.1 ∧ SetX w'.1.1 w'.1.2.1 mn k n) ∧ w'.2 = lp (fun l h => mLogP a v n k q mn sm (mLogM a v n k q mn sm h l) l) 0 (m + 1) h0) ∧ ∀ o, Rn (iExt L xs) 7 mX7_digest (122, [(3, .int (nI (m + 1))), (1, .long w'.2), (0, .ref 0)], [], wX w'.1.1 w'.1.2.1 w'.1.2.2 r) o → Rn (iExt L xs) 7 mX7_digest (122, [(3, .int (nI m)), (1, .long w.2), (0, .ref 0)], [], wX w.1.1 w.1.2.1 w.1.2.2 r) o := by
  obtain ⟨⟨a0, v0, t0⟩, h⟩ := w
  obtain ⟨⟨he0, hS0⟩, hh⟩ := hI
  dsimp only at he0 hS0 hh ⊢
  have hW0 := hW.moved he0
  obtain ⟨⟨hn, hv4⟩, -⟩ := id hW0
  obtain ⟨a1, v1, t1, hr1, hd1, hS1⟩ := r_mixLogM (L := L) (xs := xs) (t := t0) (r := r) hW0 hS0 h hm
  have he1 := he0.trans hd1
  rw [mLogM_eq he0] at hr1
  obtain ⟨h1, hh1⟩ : ∃ h1, h1 = mLogM a v n k q mn sm h m := ⟨_, rfl⟩
  rw [← hh1] at hr1
  obtain ⟨a2, v2, t2, hr2, hd2, hS2⟩ := r_mixLogP (L := L) (xs := xs) (t := t1) (r := r) (hW.moved he1) hS1 h1 hm
  have he2 := he1.trans hd2
  rw [mLogP_eq he1] at hr2
  refine ⟨((a2, v2, t2), mLogP a v n k q mn sm h1 m), ⟨⟨he2, hS2⟩, by rw [lp_end, ← hh, Nat.zero_add, hh1]⟩, fun o kk => ?_⟩
  dsimp only at kk
  rw [nI_succ] at kk
  repeat refine Rn.step rfl ?_
  refine Rn.br2 rfl (by rw [hv4]; exact nle hm (by omega)) ?_
  repeat refine Rn.step rfl ?_
  refine Rn.calll rfl rfl rfl (by decide) hr1 (fun z1 f1 => ?_)
  subst f1
  repeat refine Rn.step rfl ?_
  refine Rn.calll rfl rfl rfl (by decide) hr2 (fun z2 f2 => ?_)
  rw [← f2] at kk
  iterate 3 refine Rn.step rfl ?_
  exact kk
theorem r_digest {n k q : Nat} {mn sm : Nat → Nat} (hW : WfX a v n k q mn sm) (hS : SetX a v mn k n) : AXt (iExt L xs) 7 mX7_digest [(0, .ref 0)] a v t r mn k n (some (.long (mDig a v n k q mn sm))) := by
  obtain ⟨⟨hn, hv4⟩, -⟩ := id hW
  have he0 : eqT a v a v := eqT.rf
  have hW0 := hW
  have hS0 := hS
  obtain ⟨a1, v1, t1, hr0, hd1, hS1⟩ := (r_count0 (E := iExt L xs) (t := t) (r := r) hW0 hS0).toT
  obtain ⟨y0, hy0⟩ : ∃ y, y = qC0 a v n k q mn sm := ⟨_, rfl⟩
  rw [show v 4 = y0 from (hy0.trans (qC0_eq he0 n k q mn sm).symm).symm] at hr0
  have he1 := he0.trans hd1
  have hW1 := hW.moved he1
  obtain ⟨a2, v2, t2, hr1, hd2, hS2⟩ := (r_count1 (E := iExt L xs) (t := t1) (r := r) hW1 hS1).toT
  obtain ⟨y1, hy1⟩ : ∃ y, y = qC1 a v n k q mn sm := ⟨_, rfl⟩
  rw [show v1 11 + v1 12 + v1 13 = y1 from (hy1.trans (qC1_eq he1 n k q mn sm).symm).symm] at hr1
  have he2 := he1.trans hd2
  have hW2 := hW.moved he2
  obtain ⟨a3, v3, t3, hr2, hd3, hS3⟩ := (r_count2 (E := iExt L xs) (t := t2) (r := r) hW2 hS2).toT
  obtain ⟨y2, hy2⟩ : ∃ y, y = qC2 a v n k q mn sm := ⟨_, rfl⟩
  rw [show v2 5 = y2 from (hy2.trans (qC2_eq he2 n k q mn sm).symm).symm] at hr2
  have he3 := he2.trans hd3
  have hW3 := hW.moved he3
  obtain ⟨a4, v4, t4, hr3, hd4, hS4⟩ := (r_count3 (E := iExt L xs) (t := t3) (r := r) hW3 hS3).toT
  obtain ⟨y3, hy3⟩ : ∃ y, y = qC3 a v n k q mn sm := ⟨_, rfl⟩
  rw [show bcF (obF (cDr a3 mn k n).1 n) = y3 from (hy3.trans (qC3_eq he3 n k q mn sm).symm).symm] at hr3
  have he4 := he3.trans hd4
  have hW4 := hW.moved he4
  obtain ⟨a5, v5, t5, hr4, hd5, hS5⟩ := (r_count4 (E := iExt L xs) (t := t4) (r := r) hW4 hS4).toT
  obtain ⟨y4, hy4⟩ : ∃ y, y = qC4 a v n k q mn sm := ⟨_, rfl⟩
  rw [show maF (cDr a4 mn k n).2.1 n 1 = y4 from (hy4.trans (qC4_eq he4 n k q mn sm).symm).symm] at hr4
  have he5 := he4.trans hd5
  have hW5 := hW.moved he5
  obtain ⟨a6, v6, t6, hr5, hd6, hS6⟩ := (r_count5 (E := iExt L xs) (t := t5) (r := r) hW5 hS5).toT
  obtain ⟨y5, hy5⟩ : ∃ y, y = qC5 a v n k q mn sm := ⟨_, rfl⟩
  rw [show maF (cDr a5 mn k n).2.1 n 2 = y5 from (hy5.trans (qC5_eq he5 n k q mn sm).symm).symm] at hr5
  have he6 := he5.trans hd6
  have hW6 := hW.moved he6
  obtain ⟨a7, v7, t7, hr6, hd7, hS7⟩ := (r_count6 (E := iExt L xs) (t := t6) (r := r) hW6 hS6).toT
  obtain ⟨y6, hy6⟩ : ∃ y, y = qC6 a v n k q mn sm := ⟨_, rfl⟩
  rw [show tog (cW a6 mn k) 23 = y6 from (hy6.trans (qC6_eq he6 n k q mn sm).symm).symm] at hr6
  have he7 := he6.trans hd7
  have hW7 := hW.moved he7
  obtain ⟨a8, v8, t8, hr7, hd8, hS8⟩ := (r_count7 (E := iExt L xs) (t := t7) (r := r) hW7 hS7).toT
  obtain ⟨y7, hy7⟩ : ∃ y, y = qC7 a v n k q mn sm := ⟨_, rfl⟩
  rw [show v7 6 = y7 from (hy7.trans (qC7_eq he7 n k q mn sm).symm).symm] at hr7
  have he8 := he7.trans hd8
  have hW8 := hW.moved he8
  have hr8 := r_fault (E := iExt L xs) (a := a8) (v := v8) (t := t8) (r := r) (i := 0) (by decide)
  obtain ⟨y8, hy8⟩ : ∃ y, y = qF a v n k q mn sm 0 := ⟨_, rfl⟩
  rw [show a8 2 0 = y8 from (hy8.trans (qF_eq he8 n k q mn sm 0).symm).symm] at hr8
  have hr9 := r_fault (E := iExt L xs) (a := a8) (v := v8) (t := t8) (r := r) (i := 1) (by decide)
  obtain ⟨y9, hy9⟩ : ∃ y, y = qF a v n k q mn sm 1 := ⟨_, rfl⟩
  rw [show a8 2 1 = y9 from (hy9.trans (qF_eq he8 n k q mn sm 1).symm).symm] at hr9
  have hr10 := r_fault (E := iExt L xs) (a := a8) (v := v8) (t := t8) (r := r) (i := 2) (by decide)
  obtain ⟨y10, hy10⟩ : ∃ y, y = qF a v n k q mn sm 2 := ⟨_, rfl⟩
  rw [show a8 2 2 = y10 from (hy10.trans (qF_eq he8 n k q mn sm 2).symm).symm] at hr10
  have hH : mHead a v n k q mn sm = mx (mx (mx (mx (mx (mx (mx (mx (mx (mx (mx (17) y0) y1) y2) y3) y4) y5) y6) y7) y8) y9) y10 := by unfold mHead; rw [hy0, hy1, hy2, hy3, hy4, hy5, hy6, hy7, hy8, hy9, hy10]
  obtain ⟨⟨⟨aA, vA, tA⟩, hA⟩, ⟨⟨heA, hSA⟩, hhA⟩, hgoA⟩ := Rn.lpx (E := iExt L xs) (hh := 7) (M := mX7_digest) (σ := ((Nat → Nat → Int32) × (Nat → Int32) × (Nat → Nat → Int64)) × Int64) (cfg := fun m w => (59, [(3, .int (nI m)), (1, .long w.2), (0, .ref 0)], [], wX w.1.1 w.1.2.1 w.1.2.2 r)) (n := 24) (fun m w => (eqT a v w.1.1 w.1.2.1 ∧ SetX w.1.1 w.1.2.1 mn k n) ∧ w.2 = lp (fun m h => mMin a v n k q mn sm h m) 0 m (mHead a v n k q mn sm)) (fun m w hm hI => dgMin hW (mHead a v n k q mn sm) m w hm hI) 24 0 ((a8, v8, t8), mHead a v n k q mn sm) (by omega) ⟨⟨he8, hS8⟩, rfl⟩
  dsimp only at heA hSA hhA hgoA
  obtain ⟨⟨⟨aB, vB, tB⟩, hB⟩, ⟨⟨heB, hSB⟩, hhB⟩, hgoB⟩ := Rn.lpx (E := iExt L xs) (hh := 7) (M := mX7_digest) (σ := ((Nat → Nat → Int32) × (Nat → Int32) × (Nat → Nat → Int64)) × Int64) (cfg := fun m w => (101, [(3, .int (nI m)), (1, .long w.2), (0, .ref 0)], [], wX w.1.1 w.1.2.1 w.1.2.2 r)) (n := 16) (fun m w => (eqT a v w.1.1 w.1.2.1 ∧ SetX w.1.1 w.1.2.1 mn k n) ∧ w.2 = lp (fun s h => mSpan a v n k q mn sm h s) 0 m hA) (fun m w hm hI => dgSpan hW hA m w hm hI) 16 0 ((aA, vA, tA), hA) (by omega) ⟨⟨heA, hSA⟩, rfl⟩
  dsimp only at heB hSB hhB hgoB
  obtain ⟨⟨⟨aC, vC, tC⟩, hC⟩, ⟨⟨heC, hSC⟩, hhC⟩, hgoC⟩ := Rn.lpx (E := iExt L xs) (hh := 7) (M := mX7_digest) (σ := ((Nat → Nat → Int32) × (Nat → Int32) × (Nat → Nat → Int64)) × Int64) (cfg := fun m w => (122, [(3, .int (nI m)), (1, .long w.2), (0, .ref 0)], [], wX w.1.1 w.1.2.1 w.1.2.2 r)) (n := n) (fun m w => (eqT a v w.1.1 w.1.2.1 ∧ SetX w.1.1 w.1.2.1 mn k n) ∧ w.2 = lp (fun l h => mLogP a v n k q mn sm (mLogM a v n k q mn sm h l) l) 0 m hB) (fun m w hm hI => dgLog hW hB m w hm hI) n 0 ((aB, vB, tB), hB) (by omega) ⟨⟨heB, hSB⟩, rfl⟩
  dsimp only at heC hSC hhC hgoC
  have hWC := hW.moved heC
  obtain ⟨a9, v9, t9, hr, hd9, hS9⟩ := r_mixWhole (L := L) (xs := xs) (t := tC) (r := r) hWC hSC hC
  rw [mWhole_eq heC] at hr
  have hfin : mDig a v n k q mn sm = mWhole a v n k q mn sm hC := by unfold mDig; rw [hhC, hhB, hhA]
  obtain ⟨⟨-, hvC4⟩, -⟩ := id hWC
  rw [hfin]
  rw [hH] at hgoA
  refine ⟨a9, v9, t9, ?_, heC.trans hd9, hS9⟩
  repeat refine Rn.step rfl ?_
  refine Rn.calli rfl rfl rfl (by decide) hr0 (fun z0 f0 => ?_)
  subst f0
  repeat refine Rn.step rfl ?_
  refine Rn.calli rfl rfl rfl (by decide) hr1 (fun z1 f1 => ?_)
  subst f1
  repeat refine Rn.step rfl ?_
  refine Rn.calli rfl rfl rfl (by decide) hr2 (fun z2 f2 => ?_)
  subst f2
  repeat refine Rn.step rfl ?_
  refine Rn.calli rfl rfl rfl (by decide) hr3 (fun z3 f3 => ?_)
  subst f3
  repeat refine Rn.step rfl ?_
  refine Rn.calli rfl rfl rfl (by decide) hr4 (fun z4 f4 => ?_)
  subst f4
  repeat refine Rn.step rfl ?_
  refine Rn.calli rfl rfl rfl (by decide) hr5 (fun z5 f5 => ?_)
  subst f5
  repeat refine Rn.step rfl ?_
  refine Rn.calli rfl rfl rfl (by decide) hr6 (fun z6 f6 => ?_)
  subst f6
  repeat refine Rn.step rfl ?_
  refine Rn.calli rfl rfl rfl (by decide) hr7 (fun z7 f7 => ?_)
  subst f7
  repeat refine Rn.step rfl ?_
  refine Rn.calli rfl rfl rfl (by decide) hr8 (fun z8 f8 => ?_)
  subst f8
  repeat refine Rn.step rfl ?_
  refine Rn.calli rfl rfl rfl (by decide) hr9 (fun z9 f9 => ?_)
  subst f9
  repeat refine Rn.step rfl ?_
  refine Rn.calli rfl rfl rfl (by decide) hr10 (fun z10 f10 => ?_)
  subst f10
  iterate 5 refine Rn.step rfl ?_
  iterate 3 refine Rn.step rfl ?_
  iterate 2 refine Rn.step rfl ?_
  refine hgoA _ ?_
  iterate 5 refine Rn.step rfl ?_
  refine hgoB _ ?_
  iterate 5 refine Rn.step rfl ?_
  refine hgoC _ ?_
  repeat refine Rn.step rfl ?_
  refine Rn.br1 rfl (by rw [hvC4]; exact nI_le (by omega) (by omega)) ?_
  repeat refine Rn.step rfl ?_
  refine Rn.calll rfl rfl rfl (by decide) hr (fun z f => ?_)
  rw [← f]
  exact Rn.ret rfl
end XK
