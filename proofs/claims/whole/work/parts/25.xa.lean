section XA
variable {E : iExtT} {a : Nat → Nat → Int32} {v : Nat → Int32} {t : Nat → Nat → Int64} {r : List va_E}
theorem liF_congr {H H' ta : Nat → Int32} {m : Nat} {sp : Int32} {n : Nat} (h : ∀ l, l < n → H (m * 8 + l) = H' (m * 8 + l)) : ∀ j i, i + j ≤ n → liF H ta m sp i j = liF H' ta m sp i j := by
  intro j
  induction j with
  | zero => intro i _; rfl
  | succ j ih =>
    intro i hi
    unfold liF liP
    rw [h i (by omega), ih (i + 1) (by omega)]
theorem tog_congr {f g : Nat → Int32} {m : Nat} (hm : m < 24) (h : ∀ j, j < 384 → f j = g j) : tog f m = tog g m := lp_congr (fun s x _ hs => by rw [h _ (by omega)])
theorem afl_congr {f g : Nat → Int32} {m n : Nat} (h : ∀ l, l < n → f (m * 8 + l) = g (m * 8 + l)) : aflF f m n = aflF g m n := lp_congr (fun s x _ hs => by rw [h s (by omega)])
theorem moF_congr {H H' : Nat → Int32} {l : Nat} (h : ∀ i, i < 24 → H (i * 8 + l) = H' (i * 8 + l)) : ∀ j i, i + j ≤ 24 → moF H l i j = moF H' l i j := by
  intro j
  induction j with
  | zero => intro i _; rfl
  | succ j ih =>
    intro i hi
    unfold moF
    rw [h i (by omega), ih (i + 1) (by omega)]
theorem miF_congr {f g : Nat → Int32} {l : Nat} {s : Int32} (h : ∀ i, i < 24 → f (i * 8 + l) = g (i * 8 + l)) : miF f l s = miF g l s := lp_congr (fun i x _ hs => by rw [h i (by omega)])
theorem maF_congr {f g : Nat → Int32} {n : Nat} {s : Int32} (h : ∀ i l, i < 24 → l < n → f (i * 8 + l) = g (i * 8 + l)) : maF f n s = maF g n s := lp_congr (fun l x _ hs => by rw [miF_congr (fun i hi => h i l hi (by omega))])
theorem obF_congr {f g : Nat → Int32} {n : Nat} (h : ∀ l, l < n → f (23 * 8 + l) = g (23 * 8 + l)) : obF f n = obF g n := lp_congr (fun l x _ hs => by rw [show 184 + l = 23 * 8 + l from rfl, h l (by omega)])
theorem drF_congr {f g : Nat → Int32} (h : ∀ j, j < 384 → f j = g j) : drF f = drF g := lp_congr (fun m x _ hm => lp_congr (fun s x _ hs => by rw [h _ (by omega)]))
/-- a method that tells: its answer, what is told stays, what is settled is so -/
def AX (E : iExtT) (hh : Nat) (M : iMeth) (L : List (Nat × Value)) (a : Nat → Nat → Int32) (v : Nat → Int32) (t : Nat → Nat → Int64) (r : List va_E) (mn : Nat → Nat) (k n : Nat) (ans : Option Value) : Prop := ∃ (a' : Nat → Nat → Int32) (v' : Nat → Int32), Rn E hh M (0, L, [], wX a v t r) (ans, wX a' v' t r) ∧ eqT a v a' v' ∧ SetX a' v' mn k n
theorem r_flume_bad (x y z : Int32) (hb : ¬ (inB x 24 ∧ inB y 16 ∧ inB z 2)) : Rn E 3 mX7_flume (0, [(0, .ref 0), (1, .int x), (2, .int y), (3, .int z)], [], wX a v t r) ((some (.int (-2))), wX a v t r) := by
  repeat refine Rn.step rfl ?_
  refine Rn.calli rfl rfl rfl (by decide) (r_within x 24 _) (fun x0 e0 => ?_)
  refine Rn.br rfl (fun h0 => ?_) (fun h0 => ?_)
  · repeat refine Rn.step rfl ?_
    exact Rn.ret rfl
  repeat refine Rn.step rfl ?_
  refine Rn.calli rfl rfl rfl (by decide) (r_within y 16 _) (fun x1 e1 => ?_)
  refine Rn.br rfl (fun h1 => ?_) (fun h1 => ?_)
  · repeat refine Rn.step rfl ?_
    exact Rn.ret rfl
  repeat refine Rn.step rfl ?_
  refine Rn.calli rfl rfl rfl (by decide) (r_within z 2 _) (fun x2 e2 => ?_)
  refine Rn.br2 rfl (fun h2 => hb (⟨ib_ne0.mp (e0 ▸ h0), ib_ne0.mp (e1 ▸ h1), ib_ne0.mp (e2 ▸ h2)⟩)) ?_
  repeat refine Rn.step rfl ?_
  exact Rn.ret rfl
theorem r_flume0 {n k q : Nat} {mn sm : Nat → Nat} (hW : WfX a v n k q mn sm) (hS : SetX a v mn k n) {m s : Nat} (hm : m < 24) (hs : s < 16) : AX E 3 mX7_flume [(0, .ref 0), (1, .int (nI m)), (2, .int (nI s)), (3, .int 0)] a v t r mn k n (some (.int (cW a mn k (m * 16 + s)))) := by
  obtain ⟨⟨hn, hv4⟩, -⟩ := id hW
  obtain ⟨a', v', hr, he, h1, hV⟩ := r_settle (E := E) (t := t) (r := r) hW hS
  have hW' := hW.moved he
  obtain ⟨⟨-, hv4'⟩, -⟩ := id hW'
  refine ⟨a', v', ?_, he, Or.inr ⟨h1, hV⟩⟩
  obtain ⟨hV1, hV2, hV3⟩ := hV
  rw [cW_eq he] at hV1
  rw [cDr_eq he] at hV2
  repeat refine Rn.step rfl ?_
  refine Rn.calli rfl rfl rfl (by decide) (r_within (nI m) 24 _) (fun x0 e0 => ?_)
  refine Rn.br2 rfl (by rw [e0, ib_eq0]; exact fun q => q (inB_nI (n := 24) hm (by decide))) ?_
  repeat refine Rn.step rfl ?_
  refine Rn.calli rfl rfl rfl (by decide) (r_within (nI s) 16 _) (fun x1 e1 => ?_)
  refine Rn.br2 rfl (by rw [e1, ib_eq0]; exact fun q => q (inB_nI (n := 16) hs (by decide))) ?_
  repeat refine Rn.step rfl ?_
  refine Rn.calli rfl rfl rfl (by decide) (r_within 0 2 _) (fun x2 e2 => ?_)
  refine Rn.br1 rfl (by rw [e2, ib_ne0]; exact by decide) ?_
  repeat refine Rn.step rfl ?_
  refine Rn.callv rfl rfl rfl (by decide) hr ?_
  repeat refine Rn.step rfl ?_
  refine Rn.ald (m * 16 + s) rfl (ix_ma m 16 s) (by omega) (by decide) ?_
  refine Rn.top (hV1 _ (by omega)) ?_
  repeat refine Rn.step rfl ?_
  exact Rn.ret rfl
theorem r_flume1 {n k q : Nat} {mn sm : Nat → Nat} (hW : WfX a v n k q mn sm) (hS : SetX a v mn k n) {m s : Nat} (hm : m < 24) (hs : s < 16) : AX E 3 mX7_flume [(0, .ref 0), (1, .int (nI m)), (2, .int (nI s)), (3, .int 1)] a v t r mn k n (some (.int (liF (cDr a mn k n).1 (a 8) m (nI s) 0 n))) := by
  obtain ⟨⟨hn, hv4⟩, -⟩ := id hW
  obtain ⟨a', v', hr, he, h1, hV⟩ := r_settle (E := E) (t := t) (r := r) hW hS
  have hW' := hW.moved he
  obtain ⟨⟨-, hv4'⟩, -⟩ := id hW'
  refine ⟨a', v', ?_, he, Or.inr ⟨h1, hV⟩⟩
  obtain ⟨hV1, hV2, hV3⟩ := hV
  rw [cW_eq he] at hV1
  rw [cDr_eq he] at hV2
  repeat refine Rn.step rfl ?_
  refine Rn.calli rfl rfl rfl (by decide) (r_within (nI m) 24 _) (fun x0 e0 => ?_)
  refine Rn.br2 rfl (by rw [e0, ib_eq0]; exact fun q => q (inB_nI (n := 24) hm (by decide))) ?_
  repeat refine Rn.step rfl ?_
  refine Rn.calli rfl rfl rfl (by decide) (r_within (nI s) 16 _) (fun x1 e1 => ?_)
  refine Rn.br2 rfl (by rw [e1, ib_eq0]; exact fun q => q (inB_nI (n := 16) hs (by decide))) ?_
  repeat refine Rn.step rfl ?_
  refine Rn.calli rfl rfl rfl (by decide) (r_within 1 2 _) (fun x2 e2 => ?_)
  refine Rn.br1 rfl (by rw [e2, ib_ne0]; exact by decide) ?_
  repeat refine Rn.step rfl ?_
  refine Rn.callv rfl rfl rfl (by decide) hr ?_
  repeat refine Rn.step rfl ?_
  refine Rn.calli rfl rfl rfl (by decide) (r_lier1 hn hv4' hm (nI s)) (fun z1 f1 => ?_)
  rw [liF_congr (fun l hl => (hV2 m l hm hl).1) n 0 (by omega), he.1 8 (by decide)] at f1
  rw [← f1]
  exact Rn.ret rfl
theorem r_at_bad (x y z : Int32) (hb : ¬ (inB x 24 ∧ inB y (v 4) ∧ inB z 2)) : Rn E 3 mX7_at (0, [(0, .ref 0), (1, .int x), (2, .int y), (3, .int z)], [], wX a v t r) ((some (.int (-2))), wX a v t r) := by
  repeat refine Rn.step rfl ?_
  refine Rn.calli rfl rfl rfl (by decide) (r_within x 24 _) (fun x0 e0 => ?_)
  refine Rn.br rfl (fun h0 => ?_) (fun h0 => ?_)
  · repeat refine Rn.step rfl ?_
    exact Rn.ret rfl
  repeat refine Rn.step rfl ?_
  refine Rn.calli rfl rfl rfl (by decide) (r_isLog y) (fun x1 e1 => ?_)
  refine Rn.br rfl (fun h1 => ?_) (fun h1 => ?_)
  · repeat refine Rn.step rfl ?_
    exact Rn.ret rfl
  repeat refine Rn.step rfl ?_
  refine Rn.calli rfl rfl rfl (by decide) (r_within z 2 _) (fun x2 e2 => ?_)
  refine Rn.br2 rfl (fun h2 => hb (⟨ib_ne0.mp (e0 ▸ h0), ib_ne0.mp (e1 ▸ h1), ib_ne0.mp (e2 ▸ h2)⟩)) ?_
  repeat refine Rn.step rfl ?_
  exact Rn.ret rfl
theorem r_at0 {n k q : Nat} {mn sm : Nat → Nat} (hW : WfX a v n k q mn sm) (hS : SetX a v mn k n) {m l : Nat} (hm : m < 24) (hl : l < n) : AX E 3 mX7_at [(0, .ref 0), (1, .int (nI m)), (2, .int (nI l)), (3, .int 0)] a v t r mn k n (some (.int ((cDr a mn k n).1 (m * 8 + l)))) := by
  obtain ⟨⟨hn, hv4⟩, -⟩ := id hW
  obtain ⟨a', v', hr, he, h1, hV⟩ := r_settle (E := E) (t := t) (r := r) hW hS
  have hW' := hW.moved he
  obtain ⟨⟨-, hv4'⟩, -⟩ := id hW'
  refine ⟨a', v', ?_, he, Or.inr ⟨h1, hV⟩⟩
  obtain ⟨hV1, hV2, hV3⟩ := hV
  rw [cW_eq he] at hV1
  rw [cDr_eq he] at hV2
  repeat refine Rn.step rfl ?_
  refine Rn.calli rfl rfl rfl (by decide) (r_within (nI m) 24 _) (fun x0 e0 => ?_)
  refine Rn.br2 rfl (by rw [e0, ib_eq0]; exact fun q => q (inB_nI (n := 24) hm (by decide))) ?_
  repeat refine Rn.step rfl ?_
  refine Rn.calli rfl rfl rfl (by decide) (r_isLog (nI l)) (fun x1 e1 => ?_)
  refine Rn.br2 rfl (by rw [e1, ib_eq0]; exact fun q => q (by rw [hv4]; exact inB_nI hl (by omega))) ?_
  repeat refine Rn.step rfl ?_
  refine Rn.calli rfl rfl rfl (by decide) (r_within 0 2 _) (fun x2 e2 => ?_)
  refine Rn.br1 rfl (by rw [e2, ib_ne0]; exact by decide) ?_
  repeat refine Rn.step rfl ?_
  refine Rn.callv rfl rfl rfl (by decide) hr ?_
  iterate 5 refine Rn.step rfl ?_
  refine Rn.top (ix_ma m 8 l) ?_
  repeat refine Rn.step rfl ?_
  refine Rn.ald (m * 8 + l) rfl rfl (by omega) (by decide) ?_
  refine Rn.top (hV2 m l hm hl).1 ?_
  repeat refine Rn.step rfl ?_
  exact Rn.ret rfl
theorem r_at1 {n k q : Nat} {mn sm : Nat → Nat} (hW : WfX a v n k q mn sm) (hS : SetX a v mn k n) {m l : Nat} (hm : m < 24) (hl : l < n) : AX E 3 mX7_at [(0, .ref 0), (1, .int (nI m)), (2, .int (nI l)), (3, .int 1)] a v t r mn k n (some (.int ((cDr a mn k n).2.1 (m * 8 + l)))) := by
  obtain ⟨⟨hn, hv4⟩, -⟩ := id hW
  obtain ⟨a', v', hr, he, h1, hV⟩ := r_settle (E := E) (t := t) (r := r) hW hS
  have hW' := hW.moved he
  obtain ⟨⟨-, hv4'⟩, -⟩ := id hW'
  refine ⟨a', v', ?_, he, Or.inr ⟨h1, hV⟩⟩
  obtain ⟨hV1, hV2, hV3⟩ := hV
  rw [cW_eq he] at hV1
  rw [cDr_eq he] at hV2
  repeat refine Rn.step rfl ?_
  refine Rn.calli rfl rfl rfl (by decide) (r_within (nI m) 24 _) (fun x0 e0 => ?_)
  refine Rn.br2 rfl (by rw [e0, ib_eq0]; exact fun q => q (inB_nI (n := 24) hm (by decide))) ?_
  repeat refine Rn.step rfl ?_
  refine Rn.calli rfl rfl rfl (by decide) (r_isLog (nI l)) (fun x1 e1 => ?_)
  refine Rn.br2 rfl (by rw [e1, ib_eq0]; exact fun q => q (by rw [hv4]; exact inB_nI hl (by omega))) ?_
  repeat refine Rn.step rfl ?_
  refine Rn.calli rfl rfl rfl (by decide) (r_within 1 2 _) (fun x2 e2 => ?_)
  refine Rn.br1 rfl (by rw [e2, ib_ne0]; exact by decide) ?_
  repeat refine Rn.step rfl ?_
  refine Rn.callv rfl rfl rfl (by decide) hr ?_
  iterate 5 refine Rn.step rfl ?_
  refine Rn.top (ix_ma m 8 l) ?_
  repeat refine Rn.step rfl ?_
  refine Rn.ald (m * 8 + l) rfl rfl (by omega) (by decide) ?_
  refine Rn.top (hV2 m l hm hl).2 ?_
  repeat refine Rn.step rfl ?_
  exact Rn.ret rfl
theorem r_all_bad (x y : Int32) (hb : ¬ (inB x 24 ∧ inB y 2)) : Rn E 3 mX7_all (0, [(0, .ref 0), (1, .int x), (2, .int y)], [], wX a v t r) ((some (.int (-2))), wX a v t r) := by
  repeat refine Rn.step rfl ?_
  refine Rn.calli rfl rfl rfl (by decide) (r_within x 24 _) (fun x0 e0 => ?_)
  refine Rn.br rfl (fun h0 => ?_) (fun h0 => ?_)
  · repeat refine Rn.step rfl ?_
    exact Rn.ret rfl
  repeat refine Rn.step rfl ?_
  refine Rn.calli rfl rfl rfl (by decide) (r_within y 2 _) (fun x1 e1 => ?_)
  refine Rn.br2 rfl (fun h1 => hb (⟨ib_ne0.mp (e0 ▸ h0), ib_ne0.mp (e1 ▸ h1)⟩)) ?_
  repeat refine Rn.step rfl ?_
  exact Rn.ret rfl
theorem r_all0 {n k q : Nat} {mn sm : Nat → Nat} (hW : WfX a v n k q mn sm) (hS : SetX a v mn k n) {m : Nat} (hm : m < 24) : AX E 3 mX7_all [(0, .ref 0), (1, .int (nI m)), (2, .int 0)] a v t r mn k n (some (.int (tog (cW a mn k) m))) := by
  obtain ⟨⟨hn, hv4⟩, -⟩ := id hW
  obtain ⟨a', v', hr, he, h1, hV⟩ := r_settle (E := E) (t := t) (r := r) hW hS
  have hW' := hW.moved he
  obtain ⟨⟨-, hv4'⟩, -⟩ := id hW'
  refine ⟨a', v', ?_, he, Or.inr ⟨h1, hV⟩⟩
  obtain ⟨hV1, hV2, hV3⟩ := hV
  rw [cW_eq he] at hV1
  rw [cDr_eq he] at hV2
  repeat refine Rn.step rfl ?_
  refine Rn.calli rfl rfl rfl (by decide) (r_within (nI m) 24 _) (fun x0 e0 => ?_)
  refine Rn.br2 rfl (by rw [e0, ib_eq0]; exact fun q => q (inB_nI (n := 24) hm (by decide))) ?_
  repeat refine Rn.step rfl ?_
  refine Rn.calli rfl rfl rfl (by decide) (r_within 0 2 _) (fun x1 e1 => ?_)
  refine Rn.br1 rfl (by rw [e1, ib_ne0]; exact by decide) ?_
  repeat refine Rn.step rfl ?_
  refine Rn.callv rfl rfl rfl (by decide) hr ?_
  repeat refine Rn.step rfl ?_
  refine Rn.calli rfl rfl rfl (by decide) (r_together m hm) (fun z1 f1 => ?_)
  rw [tog_congr hm hV1] at f1
  refine Rn.step rfl ?_
  rw [← f1]
  exact Rn.ret rfl
theorem r_all1 {n k q : Nat} {mn sm : Nat → Nat} (hW : WfX a v n k q mn sm) (hS : SetX a v mn k n) {m : Nat} (hm : m < 24) : AX E 3 mX7_all [(0, .ref 0), (1, .int (nI m)), (2, .int 1)] a v t r mn k n (some (.int (aflF (cDr a mn k n).1 m n))) := by
  obtain ⟨⟨hn, hv4⟩, -⟩ := id hW
  obtain ⟨a', v', hr, he, h1, hV⟩ := r_settle (E := E) (t := t) (r := r) hW hS
  have hW' := hW.moved he
  obtain ⟨⟨-, hv4'⟩, -⟩ := id hW'
  refine ⟨a', v', ?_, he, Or.inr ⟨h1, hV⟩⟩
  obtain ⟨hV1, hV2, hV3⟩ := hV
  rw [cW_eq he] at hV1
  rw [cDr_eq he] at hV2
  repeat refine Rn.step rfl ?_
  refine Rn.calli rfl rfl rfl (by decide) (r_within (nI m) 24 _) (fun x0 e0 => ?_)
  refine Rn.br2 rfl (by rw [e0, ib_eq0]; exact fun q => q (inB_nI (n := 24) hm (by decide))) ?_
  repeat refine Rn.step rfl ?_
  refine Rn.calli rfl rfl rfl (by decide) (r_within 1 2 _) (fun x1 e1 => ?_)
  refine Rn.br1 rfl (by rw [e1, ib_ne0]; exact by decide) ?_
  repeat refine Rn.step rfl ?_
  refine Rn.callv rfl rfl rfl (by decide) hr ?_
  repeat refine Rn.step rfl ?_
  refine Rn.calli rfl rfl rfl (by decide) (r_afloat hn hv4' hm) (fun z1 f1 => ?_)
  rw [afl_congr (fun l hl => (hV2 m l hm hl).1)] at f1
  rw [← f1]
  exact Rn.ret rfl
theorem r_out_bad (x y : Int32) (hb : ¬ (inB x (v 4) ∧ inB y 3)) : Rn E 3 mX7_out (0, [(0, .ref 0), (1, .int x), (2, .int y)], [], wX a v t r) ((some (.int (-2))), wX a v t r) := by
  repeat refine Rn.step rfl ?_
  refine Rn.calli rfl rfl rfl (by decide) (r_isLog x) (fun x0 e0 => ?_)
  refine Rn.br rfl (fun h0 => ?_) (fun h0 => ?_)
  · repeat refine Rn.step rfl ?_
    exact Rn.ret rfl
  repeat refine Rn.step rfl ?_
  refine Rn.calli rfl rfl rfl (by decide) (r_within y 3 _) (fun x1 e1 => ?_)
  refine Rn.br2 rfl (fun h1 => hb (⟨ib_ne0.mp (e0 ▸ h0), ib_ne0.mp (e1 ▸ h1)⟩)) ?_
  repeat refine Rn.step rfl ?_
  exact Rn.ret rfl
theorem r_out0 {n k q : Nat} {mn sm : Nat → Nat} (hW : WfX a v n k q mn sm) (hS : SetX a v mn k n) {l : Nat} (hl : l < n) : AX E 3 mX7_out [(0, .ref 0), (1, .int (nI l)), (2, .int 0)] a v t r mn k n (some (.int (moF (cDr a mn k n).1 l 0 24))) := by
  obtain ⟨⟨hn, hv4⟩, -⟩ := id hW
  obtain ⟨a', v', hr, he, h1, hV⟩ := r_settle (E := E) (t := t) (r := r) hW hS
  have hW' := hW.moved he
  obtain ⟨⟨-, hv4'⟩, -⟩ := id hW'
  refine ⟨a', v', ?_, he, Or.inr ⟨h1, hV⟩⟩
  obtain ⟨hV1, hV2, hV3⟩ := hV
  rw [cW_eq he] at hV1
  rw [cDr_eq he] at hV2
  repeat refine Rn.step rfl ?_
  refine Rn.calli rfl rfl rfl (by decide) (r_isLog (nI l)) (fun x0 e0 => ?_)
  refine Rn.br2 rfl (by rw [e0, ib_eq0]; exact fun q => q (by rw [hv4]; exact inB_nI hl (by omega))) ?_
  repeat refine Rn.step rfl ?_
  refine Rn.calli rfl rfl rfl (by decide) (r_within 0 3 _) (fun x1 e1 => ?_)
  refine Rn.br1 rfl (by rw [e1, ib_ne0]; exact by decide) ?_
  repeat refine Rn.step rfl ?_
  refine Rn.callv rfl rfl rfl (by decide) hr ?_
  repeat refine Rn.step rfl ?_
  refine Rn.calli rfl rfl rfl (by decide) (r_minOut (l := l) (by omega)) (fun z1 f1 => ?_)
  rw [moF_congr (fun i hi => (hV2 i l hi hl).1) 24 0 (by omega)] at f1
  rw [← f1]
  exact Rn.ret rfl
theorem r_out1 {n k q : Nat} {mn sm : Nat → Nat} (hW : WfX a v n k q mn sm) (hS : SetX a v mn k n) {l : Nat} (hl : l < n) : AX E 3 mX7_out [(0, .ref 0), (1, .int (nI l)), (2, .int 1)] a v t r mn k n (some (.int (miF (cDr a mn k n).2.1 l 1))) := by
  obtain ⟨⟨hn, hv4⟩, -⟩ := id hW
  obtain ⟨a', v', hr, he, h1, hV⟩ := r_settle (E := E) (t := t) (r := r) hW hS
  have hW' := hW.moved he
  obtain ⟨⟨-, hv4'⟩, -⟩ := id hW'
  refine ⟨a', v', ?_, he, Or.inr ⟨h1, hV⟩⟩
  obtain ⟨hV1, hV2, hV3⟩ := hV
  rw [cW_eq he] at hV1
  rw [cDr_eq he] at hV2
  repeat refine Rn.step rfl ?_
  refine Rn.calli rfl rfl rfl (by decide) (r_isLog (nI l)) (fun x0 e0 => ?_)
  refine Rn.br2 rfl (by rw [e0, ib_eq0]; exact fun q => q (by rw [hv4]; exact inB_nI hl (by omega))) ?_
  repeat refine Rn.step rfl ?_
  refine Rn.calli rfl rfl rfl (by decide) (r_within 1 3 _) (fun x1 e1 => ?_)
  refine Rn.br1 rfl (by rw [e1, ib_ne0]; exact by decide) ?_
  repeat refine Rn.step rfl ?_
  refine Rn.callv rfl rfl rfl (by decide) hr ?_
  repeat refine Rn.step rfl ?_
  refine Rn.calli rfl rfl rfl (by decide) (r_minIn1 (l := l) (by omega) 1) (fun z1 f1 => ?_)
  rw [miF_congr (fun i hi => (hV2 i l hi hl).2)] at f1
  rw [← f1]
  exact Rn.ret rfl
theorem r_out2 {n k q : Nat} {mn sm : Nat → Nat} (hW : WfX a v n k q mn sm) (hS : SetX a v mn k n) {l : Nat} (hl : l < n) : AX E 3 mX7_out [(0, .ref 0), (1, .int (nI l)), (2, .int 2)] a v t r mn k n (some (.int (miF (cDr a mn k n).2.1 l 2))) := by
  obtain ⟨⟨hn, hv4⟩, -⟩ := id hW
  obtain ⟨a', v', hr, he, h1, hV⟩ := r_settle (E := E) (t := t) (r := r) hW hS
  have hW' := hW.moved he
  obtain ⟨⟨-, hv4'⟩, -⟩ := id hW'
  refine ⟨a', v', ?_, he, Or.inr ⟨h1, hV⟩⟩
  obtain ⟨hV1, hV2, hV3⟩ := hV
  rw [cW_eq he] at hV1
  rw [cDr_eq he] at hV2
  repeat refine Rn.step rfl ?_
  refine Rn.calli rfl rfl rfl (by decide) (r_isLog (nI l)) (fun x0 e0 => ?_)
  refine Rn.br2 rfl (by rw [e0, ib_eq0]; exact fun q => q (by rw [hv4]; exact inB_nI hl (by omega))) ?_
  repeat refine Rn.step rfl ?_
  refine Rn.calli rfl rfl rfl (by decide) (r_within 2 3 _) (fun x1 e1 => ?_)
  refine Rn.br1 rfl (by rw [e1, ib_ne0]; exact by decide) ?_
  repeat refine Rn.step rfl ?_
  refine Rn.callv rfl rfl rfl (by decide) hr ?_
  repeat refine Rn.step rfl ?_
  refine Rn.calli rfl rfl rfl (by decide) (r_minIn1 (l := l) (by omega) 2) (fun z1 f1 => ?_)
  rw [miF_congr (fun i hi => (hV2 i l hi hl).2)] at f1
  rw [← f1]
  exact Rn.ret rfl
theorem r_left_bad (x : Int32) (hb : ¬ (inB x 2)) : Rn E 3 mX7_left (0, [(0, .ref 0), (1, .int x)], [], wX a v t r) ((some (.int (-2))), wX a v t r) := by
  repeat refine Rn.step rfl ?_
  refine Rn.calli rfl rfl rfl (by decide) (r_within x 2 _) (fun x0 e0 => ?_)
  refine Rn.br2 rfl (fun h0 => hb (ib_ne0.mp (e0 ▸ h0))) ?_
  repeat refine Rn.step rfl ?_
  exact Rn.ret rfl
theorem r_left0 {n k q : Nat} {mn sm : Nat → Nat} (hW : WfX a v n k q mn sm) (hS : SetX a v mn k n) : AX E 3 mX7_left [(0, .ref 0), (1, .int 0)] a v t r mn k n (some (.int (drF (cW a mn k)))) := by
  obtain ⟨⟨hn, hv4⟩, -⟩ := id hW
  obtain ⟨a', v', hr, he, h1, hV⟩ := r_settle (E := E) (t := t) (r := r) hW hS
  have hW' := hW.moved he
  obtain ⟨⟨-, hv4'⟩, -⟩ := id hW'
  refine ⟨a', v', ?_, he, Or.inr ⟨h1, hV⟩⟩
  obtain ⟨hV1, hV2, hV3⟩ := hV
  rw [cW_eq he] at hV1
  rw [cDr_eq he] at hV2
  repeat refine Rn.step rfl ?_
  refine Rn.calli rfl rfl rfl (by decide) (r_within 0 2 _) (fun x0 e0 => ?_)
  refine Rn.br1 rfl (by rw [e0, ib_ne0]; exact by decide) ?_
  repeat refine Rn.step rfl ?_
  refine Rn.callv rfl rfl rfl (by decide) hr ?_
  repeat refine Rn.step rfl ?_
  refine Rn.calli rfl rfl rfl (by decide) r_dryBits (fun z1 f1 => ?_)
  rw [drF_congr hV1] at f1
  refine Rn.step rfl ?_
  rw [← f1]
  exact Rn.ret rfl
theorem r_left1 {n k q : Nat} {mn sm : Nat → Nat} (hW : WfX a v n k q mn sm) (hS : SetX a v mn k n) : AX E 3 mX7_left [(0, .ref 0), (1, .int 1)] a v t r mn k n (some (.int (evB n &&& (obF (cDr a mn k n).1 n ^^^ -1)))) := by
  obtain ⟨⟨hn, hv4⟩, -⟩ := id hW
  obtain ⟨a', v', hr, he, h1, hV⟩ := r_settle (E := E) (t := t) (r := r) hW hS
  have hW' := hW.moved he
  obtain ⟨⟨-, hv4'⟩, -⟩ := id hW'
  refine ⟨a', v', ?_, he, Or.inr ⟨h1, hV⟩⟩
  obtain ⟨hV1, hV2, hV3⟩ := hV
  rw [cW_eq he] at hV1
  rw [cDr_eq he] at hV2
  repeat refine Rn.step rfl ?_
  refine Rn.calli rfl rfl rfl (by decide) (r_within 1 2 _) (fun x0 e0 => ?_)
  refine Rn.br1 rfl (by rw [e0, ib_ne0]; exact by decide) ?_
  repeat refine Rn.step rfl ?_
  refine Rn.callv rfl rfl rfl (by decide) hr ?_
  repeat refine Rn.step rfl ?_
  refine Rn.calli rfl rfl rfl (by decide) r_logBits (fun z1 f1 => ?_)
  repeat refine Rn.step rfl ?_
  refine Rn.calli rfl rfl rfl (by decide) (r_outBits1 hn hv4') (fun z2 f2 => ?_)
  rw [hv4'] at f1
  rw [obF_congr (fun l hl => (hV2 23 l (by decide) hl).1)] at f2
  repeat refine Rn.step rfl ?_
  rw [← f2, show evB n = z1 from f1.symm]
  exact Rn.ret rfl
/-- the first minute with a state 2 -/
def jmR (S : Nat → Int32) (m : Nat) : Nat → Nat → Bool
  | _, 0 => false
  | i, j + 1 => decide (S (m * 8 + i) = 2) || jmR S m (i + 1) j
def jmF (S : Nat → Int32) (n : Nat) : Nat → Nat → Int32
  | _, 0 => -1
  | i, j + 1 => if jmR S i 0 n = true then nI i else jmF S n (i + 1) j
theorem jmR_congr {S S' : Nat → Int32} {m n : Nat} (h : ∀ l, l < n → S (m * 8 + l) = S' (m * 8 + l)) : ∀ j i, i + j ≤ n → jmR S m i j = jmR S' m i j := by
  intro j
  induction j with
  | zero => intro i _; rfl
  | succ j ih =>
    intro i hi
    unfold jmR
    rw [h i (by omega), ih (i + 1) (by omega)]
theorem jmF_congr {S S' : Nat → Int32} {n : Nat} (h : ∀ m l, m < 24 → l < n → S (m * 8 + l) = S' (m * 8 + l)) : ∀ j i, i + j ≤ 24 → jmF S n i j = jmF S' n i j := by
  intro j
  induction j with
  | zero => intro i _; rfl
  | succ j ih =>
    intro i hi
    unfold jmF
    rw [jmR_congr (fun l hl => h i l (by omega) hl) n 0 (by omega), ih (i + 1) (by omega)]
theorem r_jam {n k q : Nat} {mn sm : Nat → Nat} (hW : WfX a v n k q mn sm) (hS : SetX a v mn k n) : AX E 3 mX7_jam [(0, .ref 0)] a v t r mn k n (some (.int (jmF (cDr a mn k n).2.1 n 0 24))) := by
  obtain ⟨⟨hn, hv4⟩, -⟩ := id hW
  obtain ⟨a', v', hr, he, h1, hV⟩ := r_settle (E := E) (t := t) (r := r) hW hS
  have hW' := hW.moved he
  obtain ⟨⟨-, hv4'⟩, -⟩ := id hW'
  refine ⟨a', v', ?_, he, Or.inr ⟨h1, hV⟩⟩
  obtain ⟨hV1, hV2, hV3⟩ := hV
  rw [cW_eq he] at hV1
  rw [cDr_eq he] at hV2
  repeat refine Rn.step rfl ?_
  refine Rn.callv rfl rfl rfl (by decide) hr ?_
  rw [← jmF_congr (fun m l hm hl => (hV2 m l hm hl).2) 24 0 (by omega)]
  have key : ∀ j i, i + j = 24 → Rn E 3 mX7_jam (6, [(1, .int (nI i)), (0, .ref 0)], [], wX a' v' t r) (some (.int (jmF (a' 24) n i j)), wX a' v' t r) := by
    intro j
    induction j with
    | zero =>
      intro i hi
      obtain rfl : i = 24 := by omega
      repeat refine Rn.step rfl ?_
      exact Rn.ret rfl
    | succ j ih =>
      intro i hi
      have k3 := ih (i + 1) (by omega)
      rw [nI_succ] at k3
      have key2 : ∀ c l, l + c = n → jmR (a' 24) i 0 n = jmR (a' 24) i l c → Rn E 3 mX7_jam (14, [(2, .int (nI l)), (1, .int (nI i)), (0, .ref 0)], [], wX a' v' t r) (some (.int (jmF (a' 24) n i (j + 1))), wX a' v' t r) := by
        intro c
        induction c with
        | zero =>
          intro l hl hq
          repeat refine Rn.step rfl ?_
          refine Rn.br1 rfl (by rw [hv4']; exact nI_le (by omega) (by omega)) ?_
          rw [show jmF (a' 24) n i (j + 1) = jmF (a' 24) n (i + 1) j from if_neg (by rw [hq]; exact Bool.false_ne_true)]
          iterate 2 refine Rn.step rfl ?_
          exact Rn.sub (by exact ⟨rfl, rfl, trivial⟩) k3
        | succ c ih2 =>
          intro l hl hq
          repeat refine Rn.step rfl ?_
          refine Rn.br2 rfl (by rw [hv4']; exact nle (by omega) (by omega)) ?_
          repeat refine Rn.step rfl ?_
          refine Rn.ald (i * 8 + l) rfl (ix_ma i 8 l) (by omega) (by decide) ?_
          repeat refine Rn.step rfl ?_
          refine Rn.br rfl (fun g1 => ?_) (fun g1 => ?_)
          · iterate 2 refine Rn.step rfl ?_
            have k4 := ih2 (l + 1) (by omega) (by rw [hq]; show (decide (a' 24 (i * 8 + l) = 2) || _) = _; rw [decide_eq_false g1, Bool.false_or])
            rw [nI_succ] at k4
            exact k4
          · rw [show jmF (a' 24) n i (j + 1) = nI i from if_pos (by rw [hq]; show (decide (a' 24 (i * 8 + l) = 2) || _) = _; rw [decide_eq_true (Decidable.not_not.mp g1), Bool.true_or])]
            repeat refine Rn.step rfl ?_
            exact Rn.ret rfl
      repeat refine Rn.step rfl ?_
      refine Rn.br2 rfl (nle (n := 24) (by omega) (by decide)) ?_
      iterate 2 refine Rn.step rfl ?_
      exact key2 n 0 (by omega) rfl
  iterate 2 refine Rn.step rfl ?_
  exact key 24 0 rfl
def woF (S : Nat → Int32) (n : Nat) : Int32 × Int32 := lp (fun l (x : Int32 × Int32) => if ¬ miF S l 1 ≤ x.2 then (nI l, miF S l 1) else x) 0 n (-1, 0)
theorem woF_congr {f g : Nat → Int32} {n : Nat} (h : ∀ i l, i < 24 → l < n → f (i * 8 + l) = g (i * 8 + l)) : woF f n = woF g n := lp_congr (fun l x _ hs => by rw [miF_congr (fun i hi => h i l hi (by omega))])
theorem r_worst {n k q : Nat} {mn sm : Nat → Nat} (hW : WfX a v n k q mn sm) (hS : SetX a v mn k n) : AX E 3 mX7_worst [(0, .ref 0)] a v t r mn k n (some (.int ((woF (cDr a mn k n).2.1 n).1))) := by
  obtain ⟨⟨hn, hv4⟩, -⟩ := id hW
  obtain ⟨a', v', hr, he, h1, hV⟩ := r_settle (E := E) (t := t) (r := r) hW hS
  have hW' := hW.moved he
  obtain ⟨⟨-, hv4'⟩, -⟩ := id hW'
  refine ⟨a', v', ?_, he, Or.inr ⟨h1, hV⟩⟩
  obtain ⟨hV1, hV2, hV3⟩ := hV
  rw [cW_eq he] at hV1
  rw [cDr_eq he] at hV2
  repeat refine Rn.step rfl ?_
  refine Rn.callv rfl rfl rfl (by decide) hr ?_
  rw [← woF_congr (fun i l hi hl => (hV2 i l hi hl).2)]
  iterate 6 refine Rn.step rfl ?_
  refine Rn.lp (σ := Int32 × Int32) (cfg := fun l x => (10, [(3, .int (nI l)), (2, .int x.2), (1, .int x.1), (0, .ref 0)], [], wX a' v' t r)) (f := fun l (x : Int32 × Int32) => if ¬ miF (a' 24) l 1 ≤ x.2 then (nI l, miF (a' 24) l 1) else x) (n := n) (fun _ _ => True) (fun l x hl _ => ⟨trivial, fun k => ?_⟩) n 0 (-1, 0) (by omega) trivial (fun x0 hx0 _ => ?_)
  · rw [nI_succ] at k
    repeat refine Rn.step rfl ?_
    refine Rn.br2 rfl (by rw [hv4']; exact nle hl (by omega)) ?_
    repeat refine Rn.step rfl ?_
    refine Rn.calli rfl rfl rfl (by decide) (r_minIn1 (l := l) (by omega) 1) (fun z1 f1 => ?_)
    repeat refine Rn.step rfl ?_
    refine Rn.br rfl (fun g1 => ?_) (fun g1 => ?_)
    · rw [f1] at g1
      rw [if_neg (fun q => q g1)] at k
      iterate 2 refine Rn.step rfl ?_
      exact Rn.sub (by exact ⟨rfl, rfl, rfl, rfl, trivial⟩) k
    · rw [f1] at g1
      rw [if_pos g1] at k
      iterate 6 refine Rn.step rfl ?_
      rw [f1]
      exact Rn.sub (by exact ⟨rfl, rfl, rfl, rfl, trivial⟩) k
  · repeat refine Rn.step rfl ?_
    refine Rn.br1 rfl (by rw [hv4']; exact Int32.le_refl _) ?_
    repeat refine Rn.step rfl ?_
    have e0 : x0 = woF (a' 24) n := hx0
    rw [← e0]
    exact Rn.ret rfl
end XA
