section XF
variable {E : iExtT} {a : Nat → Nat → Int32} {v : Nat → Int32} {t : Nat → Nat → Int64} {r : List va_E}
theorem ftB_congr {H H' ta : Nat → Int32} {n k : Nat} {sm : Nat → Nat} {ss sl : Nat → Int32} (hsm : ∀ i, i < k → sm i < 24) (h : ∀ i l, i < 24 → l < n → H (i * 8 + l) = H' (i * 8 + l)) : ∀ j i, i + j ≤ k → ftB H ta n sm ss sl i j = ftB H' ta n sm ss sl i j := by
  intro j
  induction j with
  | zero => intro i _; rfl
  | succ j ih =>
    intro i hi
    unfold ftB
    rw [liF_congr (fun l hl => h (sm i) l (hsm i (by omega)) hl) n 0 (by omega), ih (i + 1) (by omega)]
theorem trF_congr {f g : Nat → Int32} {m n : Nat} (h : ∀ l, l < n → f (m * 8 + l) = g (m * 8 + l)) : trF f n m = trF g n m := lp_congr (fun s x _ hs => by rw [h s (by omega)])
/-- what was seen fits a drive -/
abbrev ftX (a : Nat → Nat → Int32) (n q : Nat) (sm : Nat → Nat) (x : dS) : Bool := ftB x.1 (a 8) n sm (a 15) (a 16) 0 q
theorem r_fitX {a0 : Nat → Nat → Int32} {v0 : Nat → Int32} {n k q : Nat} {mn sm : Nat → Nat} (hW : WfX a0 v0 n k q mn sm) (e8 : a 8 = a0 8) (e14 : a 14 = a0 14) (e15 : a 15 = a0 15) (e16 : a 16 = a0 16) (e4 : v 4 = v0 4) (e6 : v 6 = v0 6) {x : dS} (hH : HdS a n x) : Rn E 1 mX3_fit (0, [(0, .ref 13), (1, .ref 3), (2, .ref 31)], [], wX a v t r) (some (.int (ib (ftX a0 n q sm x = true))), wX a v t r) := by
  obtain ⟨⟨hn, hv4⟩, -, hq, hv6, hsm⟩ := id hW
  have h := r_fit (E := E) (a := a) (v := v) (t := t) (r := r) hn (e4.trans hv4) hq (e6.trans hv6) (sm := sm) (by rw [e14]; exact hsm)
  rw [ftB_congr (fun i hi => (hsm i hi).2) (fun i l hi hl => (hH i l hi hl).1) q 0 (by omega), e8, e15, e16] at h
  exact h
/-- never -/
def neF (a : Nat → Nat → Int32) (n k q : Nat) (mn sm : Nat → Nat) : Int32 := lp (fun e b => if ftX a n q sm (crn (a 10) (a 12) mn k n (a 4) (a 7) (a 8) (a 6) (cwl (a 10) (a 12) mn k (a 5) (evB k &&& (sh1 (nI e) ^^^ -1))) (evB k &&& (sh1 (nI e) ^^^ -1))) = true then b ||| sh1 (nI e) else b) 0 k 0
def grF (a : Nat → Nat → Int32) (n k q : Nat) (mn sm : Nat → Nat) (s : Nat) : Int32 := lp (fun i b => if ftX a n q sm (crn (a 10) (a 12) mn k n (upd (a 4) s (nI (i + 1))) (a 7) (a 8) (a 6) (cW a mn k) (evB k)) = true then b ||| sh1 (nI (i + 1)) else b) 0 3 0
abbrev dgX (a : Nat → Nat → Int32) (n k : Nat) (mn : Nat → Nat) (l d : Nat) : dS := crn (a 10) (a 12) mn k n (a 4) (upd (a 7) l (nI d)) (a 8) (a 6) (cW a mn k) (evB k)
def dgB (a : Nat → Nat → Int32) (n k q : Nat) (mn sm : Nat → Nat) (l : Nat) (m : Nat) : Int32 := lp (fun i b => if ftX a n q sm (dgX a n k mn l (i + 1)) = true then b ||| sh1 (nI (i + 1)) else b) 0 m 0
theorem SetX_congr {a' : Nat → Nat → Int32} {v' : Nat → Int32} {mn : Nat → Nat} {k n : Nat} (h : ∀ j ∈ [4, 5, 6, 7, 8, 10, 12, 19, 23, 24, 37], a' j = a j) (hv : v' 1 = v 1) (hS : SetX a v mn k n) : SetX a' v' mn k n := by
  rcases hS with h0 | ⟨h1, hV⟩
  · exact Or.inl (hv.trans h0)
  · exact Or.inr ⟨hv.trans h1, ValX_congr h hV⟩
theorem r_never {n k q : Nat} {mn sm : Nat → Nat} (hW : WfX a v n k q mn sm) (hS : SetX a v mn k n) : AX E 2 mX7_never [(0, .ref 0)] a v t r mn k n (some (.int (neF a n k q mn sm))) := by
  obtain ⟨⟨hn, hv4⟩, ⟨hk, hv5, hmn⟩, -⟩ := id hW
  have eB : sh1 (v 5) - 1 = evB k := by rw [hv5]; rfl
  have hstep : ∀ (m : Nat) (s : ((Nat → Nat → Int32) × (Nat → Int32)) × Int32), m < k → (eqS a v s.1.1 s.1.2 ∧ s.2 = lp (fun e b => if ftX a n q sm (crn (a 10) (a 12) mn k n (a 4) (a 7) (a 8) (a 6) (cwl (a 10) (a 12) mn k (a 5) (evB k &&& (sh1 (nI e) ^^^ -1))) (evB k &&& (sh1 (nI e) ^^^ -1))) = true then b ||| sh1 (nI e) else b) 0 m 0) → ∃ s' : ((Nat → Nat → Int32) × (Nat → Int32)) × Int32, (eqS a v s'.1.1 s'.1.2 ∧ s'.2 = lp (fun e b => if ftX a n q sm (crn (a 10) (a 12) mn k n (a 4) (a 7) (a 8) (a 6) (cwl (a 10) (a 12) mn k (a 5) (evB k &&& (sh1 (nI e) ^^^ -1))) (evB k &&& (sh1 (nI e) ^^^ -1))) = true then b ||| sh1 (nI e) else b) 0 (m + 1) 0) ∧ ∀ o, Rn E 2 mX7_never (4, [(2, .int (nI (m + 1))), (1, .int s'.2), (0, .ref 0)], [], wX s'.1.1 s'.1.2 t r) o → Rn E 2 mX7_never (4, [(2, .int (nI m)), (1, .int s.2), (0, .ref 0)], [], wX s.1.1 s.1.2 t r) o := by
    intro m ⟨⟨a1, v1⟩, b⟩ hm ⟨hI, hb⟩
    have hI : eqS a v a1 v1 := hI
    have hb : b = lp _ 0 m 0 := hb
    obtain ⟨kp, hkp⟩ : ∃ kp, kp = evB k &&& (sh1 (nI m) ^^^ -1) := ⟨_, rfl⟩
    have i11 := hI.1 11 (by decide)
    obtain ⟨a2, hr2, hs2, hw2⟩ := r_oPour (E := E) (a := a1) (v := v1) (t := t) (r := r) kp (F := 5) (Or.inl rfl) hk ((hI.2 5 (by decide)).trans hv5) (mn := mn) (by rw [i11]; exact hmn)
    rw [hI.1 10 (by decide), hI.1 12 (by decide), hI.1 5 (by decide)] at hw2
    have h2 := hI.trans hs2
    have j11 := h2.1 11 (by decide)
    obtain ⟨a3, v3, hr3, hs3, -, -, hH⟩ := r_oRun (E := E) (a := a2) (v := v1) (t := t) (r := r) (W := 27) (Or.inr rfl) kp hn ((hI.2 4 (by decide)).trans hv4) hk ((hI.2 5 (by decide)).trans hv5) (mn := mn) (by rw [j11]; exact hmn) (wl := cwl (a 10) (a 12) mn k (a 5) kp) hw2
    rw [h2.1 10 (by decide), h2.1 12 (by decide), h2.1 4 (by decide), h2.1 7 (by decide), h2.1 8 (by decide), h2.1 6 (by decide)] at hH
    have h3 := h2.trans hs3
    have hF := r_fitX (E := E) (t := t) (r := r) hW (h3.1 8 (by decide)) (h3.1 14 (by decide)) (h3.1 15 (by decide)) (h3.1 16 (by decide)) (h3.2 4 (by decide)) (h3.2 6 (by decide)) hH
    refine ⟨((a3, v3), if ftX a n q sm (crn (a 10) (a 12) mn k n (a 4) (a 7) (a 8) (a 6) (cwl (a 10) (a 12) mn k (a 5) kp) kp) = true then b ||| sh1 (nI m) else b), ⟨h3, by rw [lp_end, ← hb, Nat.zero_add, hkp]⟩, fun o kk => ?_⟩
    dsimp only at kk ⊢
    rw [nI_succ] at kk
    repeat refine Rn.step rfl ?_
    refine Rn.br2 rfl (by rw [hI.2 5 (by decide), hv5]; exact nle hm (by omega)) ?_
    repeat refine Rn.step rfl ?_
    refine Rn.calli rfl rfl rfl (by decide) r_bits (fun z1 f1 => ?_)
    rw [hI.2 5 (by decide), eB] at f1
    subst f1
    iterate 6 refine Rn.step rfl ?_
    refine Rn.top hkp.symm ?_
    repeat refine Rn.step rfl ?_
    refine Rn.callv rfl rfl rfl (by decide) hr2 ?_
    repeat refine Rn.step rfl ?_
    refine Rn.callv rfl rfl rfl (by decide) hr3 ?_
    repeat refine Rn.step rfl ?_
    refine Rn.calli rfl rfl rfl (by decide) hF (fun z2 f2 => ?_)
    refine Rn.br rfl (fun h1 => ?_) (fun h1 => ?_)
    · rw [f2, ib_eq0] at h1
      rw [if_neg h1] at kk
      iterate 2 refine Rn.step rfl ?_
      exact Rn.sub (by exact ⟨rfl, rfl, rfl, trivial⟩) kk
    · rw [f2, ib_ne0] at h1
      rw [if_pos h1] at kk
      iterate 8 refine Rn.step rfl ?_
      exact Rn.sub (by exact ⟨rfl, rfl, rfl, trivial⟩) kk
  obtain ⟨⟨⟨a', v'⟩, b⟩, ⟨hI, hb⟩, hgo⟩ := Rn.lpx (E := E) (hh := 2) (M := mX7_never) (σ := ((Nat → Nat → Int32) × (Nat → Int32)) × Int32) (cfg := fun m s => (4, [(2, .int (nI m)), (1, .int s.2), (0, .ref 0)], [], wX s.1.1 s.1.2 t r)) (n := k) (fun m s => eqS a v s.1.1 s.1.2 ∧ s.2 = lp (fun e b => if ftX a n q sm (crn (a 10) (a 12) mn k n (a 4) (a 7) (a 8) (a 6) (cwl (a 10) (a 12) mn k (a 5) (evB k &&& (sh1 (nI e) ^^^ -1))) (evB k &&& (sh1 (nI e) ^^^ -1))) = true then b ||| sh1 (nI e) else b) 0 m 0) hstep k 0 ((a, v), 0) (by omega) ⟨eqS.rf, rfl⟩
  dsimp only at hgo
  have hI : eqS a v a' v' := hI
  have hb : b = neF a n k q mn sm := hb
  refine ⟨a', v', ?_, hI.eqT, SetX_congr (fun j hj => hI.1 j (by intro q; simp only [List.mem_cons, List.not_mem_nil, or_false] at hj q; omega)) (hI.2 1 (by decide)) hS⟩
  iterate 4 refine Rn.step rfl ?_
  refine hgo _ ?_
  repeat refine Rn.step rfl ?_
  refine Rn.br1 rfl (by rw [hI.2 5 (by decide), hv5]; exact nI_le (by omega) (by omega)) ?_
  repeat refine Rn.step rfl ?_
  rw [← hb]
  exact Rn.ret rfl
theorem r_grade_bad (x : Int32) (hb : ¬ (inB x 16)) : Rn E 3 mX7_grade (0, [(0, .ref 0), (1, .int x)], [], wX a v t r) ((some (.int (-2))), wX a v t r) := by
  repeat refine Rn.step rfl ?_
  refine Rn.calli rfl rfl rfl (by decide) (r_within x 16 _) (fun x0 e0 => ?_)
  refine Rn.br2 rfl (fun h0 => hb (ib_ne0.mp (e0 ▸ h0))) ?_
  repeat refine Rn.step rfl ?_
  exact Rn.ret rfl
theorem r_grade {n k q : Nat} {mn sm : Nat → Nat} (hW : WfX a v n k q mn sm) (hS : SetX a v mn k n) {s : Nat} (hs : s < 16) : AX E 3 mX7_grade [(0, .ref 0), (1, .int (nI s))] a v t r mn k n (some (.int (grF a n k q mn sm s))) := by
  obtain ⟨a', v', hr, he, h1, hV⟩ := r_settle (E := E) (t := t) (r := r) hW hS
  have hW' := hW.moved he
  obtain ⟨⟨hn, hv4⟩, ⟨hk, hv5, hmn⟩, -⟩ := id hW'
  have hV1 := hV.1
  rw [cW_eq he] at hV1
  have eB : sh1 (v' 5) - 1 = evB k := by rw [hv5]; rfl
  have e10 := he.1 10 (by decide)
  have e12 := he.1 12 (by decide)
  have e4 := he.1 4 (by decide)
  have e5 := he.1 5 (by decide)
  have e6 := he.1 6 (by decide)
  have e7 := he.1 7 (by decide)
  have e8 := he.1 8 (by decide)
  have hstep : ∀ (m : Nat) (w : ((Nat → Nat → Int32) × (Nat → Int32)) × Int32), m < 3 → ((∃ c, SrI 4 a' v' (upd (a' 4) s c) w.1) ∧ w.2 = lp (fun i b => if ftX a n q sm (crn (a 10) (a 12) mn k n (upd (a 4) s (nI (i + 1))) (a 7) (a 8) (a 6) (cW a mn k) (evB k)) = true then b ||| sh1 (nI (i + 1)) else b) 0 m 0) → ∃ w' : ((Nat → Nat → Int32) × (Nat → Int32)) × Int32, ((∃ c, SrI 4 a' v' (upd (a' 4) s c) w'.1) ∧ w'.2 = lp (fun i b => if ftX a n q sm (crn (a 10) (a 12) mn k n (upd (a 4) s (nI (i + 1))) (a 7) (a 8) (a 6) (cW a mn k) (evB k)) = true then b ||| sh1 (nI (i + 1)) else b) 0 (m + 1) 0) ∧ ∀ o, Rn E 3 mX7_grade (31, [(4, .int (nI ((m + 1) + 1))), (3, .int w'.2), (2, .int (a' 4 s)), (0, .ref 0), (1, .int (nI s))], [], wX w'.1.1 w'.1.2 t r) o → Rn E 3 mX7_grade (31, [(4, .int (nI (m + 1))), (3, .int w.2), (2, .int (a' 4 s)), (0, .ref 0), (1, .int (nI s))], [], wX w.1.1 w.1.2 t r) o := by
    intro m ⟨⟨s1, s2⟩, b⟩ hm ⟨⟨c, hI1⟩, hb⟩
    have hb : b = lp _ 0 m 0 := hb
    have hX : s1 4 = upd (a' 4) s c := hI1.1
    have hJ := hI1.up (upd (a' 4) s (nI (m + 1)))
    obtain ⟨a1, ha1⟩ : ∃ a1, a1 = va_up s1 4 (upd (a' 4) s (nI (m + 1))) := ⟨_, rfl⟩
    rw [← ha1] at hJ
    have jA : a1 4 = upd (a' 4) s (nI (m + 1)) := hJ.1
    have jB : ∀ k, k ∉ [28, 29, 30, 32, 33, 34, 35, 36] → k ≠ 4 → a1 k = a' k := hJ.2.1
    have g11 := jB 11 (by decide) (by decide)
    have g19 := jB 19 (by decide) (by decide)
    have jV : ∀ k, k ∉ [2, 3, 9, 10] → s2 k = v' k := hI1.2.2
    obtain ⟨a2, v2, hr2, hs2, -, -, hH⟩ := r_oRun (E := E) (a := a1) (v := s2) (t := t) (r := r) (W := 18) (Or.inl rfl) (evB k) hn ((jV 4 (by decide)).trans hv4) hk ((jV 5 (by decide)).trans hv5) (mn := mn) (by rw [g11]; exact hmn) (wl := cW a mn k) (by show ∀ j, j < 384 → a1 19 j = _; rw [g19]; exact hV1)
    rw [jB 10 (by decide) (by decide), jB 12 (by decide) (by decide), jA, jB 7 (by decide) (by decide), jB 8 (by decide) (by decide), jB 6 (by decide) (by decide), e10, e12, e4, e7, e8, e6] at hH
    have hK : SrI 4 a' v' (upd (a' 4) s (nI (m + 1))) (a2, v2) := hJ.eqS (by decide) hs2
    have kB : ∀ k, k ∉ [28, 29, 30, 32, 33, 34, 35, 36] → k ≠ 4 → a2 k = a' k := hK.2.1
    have kV : ∀ k, k ∉ [2, 3, 9, 10] → v2 k = v' k := hK.2.2
    have hF := r_fitX (E := E) (t := t) (r := r) hW ((kB 8 (by decide) (by decide)).trans e8) ((kB 14 (by decide) (by decide)).trans (he.1 14 (by decide))) ((kB 15 (by decide) (by decide)).trans (he.1 15 (by decide))) ((kB 16 (by decide) (by decide)).trans (he.1 16 (by decide))) ((kV 4 (by decide)).trans (he.2 4 (by decide))) ((kV 6 (by decide)).trans (he.2 6 (by decide))) hH
    refine ⟨((a2, v2), if ftX a n q sm (crn (a 10) (a 12) mn k n (upd (a 4) s (nI (m + 1))) (a 7) (a 8) (a 6) (cW a mn k) (evB k)) = true then b ||| sh1 (nI (m + 1)) else b), ⟨⟨nI (m + 1), hK⟩, by rw [lp_end, ← hb, Nat.zero_add]⟩, fun o kk => ?_⟩
    dsimp only at kk ⊢
    rw [nI_succ] at kk
    repeat refine Rn.step rfl ?_
    refine Rn.br2 rfl (fun q => absurd (show nI 3 < nI (m + 1) from q) (Int32.not_lt.mpr (nI_le (by omega) (by decide)))) ?_
    repeat refine Rn.step rfl ?_
    refine Rn.ast s rfl rfl hs (by decide) (h3 := wX a1 s2 t r) (by rw [hX, upd_upd, ha1]; rfl) ?_
    repeat refine Rn.step rfl ?_
    refine Rn.calli rfl rfl rfl (by decide) r_bits (fun z1 f1 => ?_)
    rw [jV 5 (by decide), eB] at f1
    subst f1
    refine Rn.callv rfl rfl rfl (by decide) hr2 ?_
    repeat refine Rn.step rfl ?_
    refine Rn.calli rfl rfl rfl (by decide) hF (fun z2 f2 => ?_)
    refine Rn.br rfl (fun h1 => ?_) (fun h1 => ?_)
    · rw [f2, ib_eq0] at h1
      rw [if_neg h1] at kk
      iterate 2 refine Rn.step rfl ?_
      exact Rn.sub (by exact ⟨rfl, rfl, rfl, rfl, rfl, trivial⟩) kk
    · rw [f2, ib_ne0] at h1
      rw [if_pos h1] at kk
      iterate 8 refine Rn.step rfl ?_
      exact Rn.sub (by exact ⟨rfl, rfl, rfl, rfl, rfl, trivial⟩) kk
  obtain ⟨⟨⟨s1, s2⟩, b⟩, ⟨⟨c, hI1⟩, hb⟩, hgo⟩ := Rn.lpx (E := E) (hh := 3) (M := mX7_grade) (σ := ((Nat → Nat → Int32) × (Nat → Int32)) × Int32) (cfg := fun m w => (31, [(4, .int (nI (m + 1))), (3, .int w.2), (2, .int (a' 4 s)), (0, .ref 0), (1, .int (nI s))], [], wX w.1.1 w.1.2 t r)) (n := 3) (fun m w => (∃ c, SrI 4 a' v' (upd (a' 4) s c) w.1) ∧ w.2 = lp (fun i b => if ftX a n q sm (crn (a 10) (a 12) mn k n (upd (a 4) s (nI (i + 1))) (a 7) (a 8) (a 6) (cW a mn k) (evB k)) = true then b ||| sh1 (nI (i + 1)) else b) 0 m 0) hstep 3 0 ((a', v'), 0) rfl ⟨⟨a' 4 s, (upd_self _ _).symm, fun _ _ _ => rfl, fun _ _ => rfl⟩, rfl⟩
  dsimp only at hgo
  have hb : b = grF a n k q mn sm s := hb
  have hX : s1 4 = upd (a' 4) s c := hI1.1
  have hfin := (hI1.up (a' 4)).2.1
  have hE : eqT a v (va_up s1 4 (a' 4)) s2 := by
    refine ⟨fun j hj => ?_, fun j hj => ?_⟩
    · rw [← he.1 j hj]
      by_cases h6 : j = 4
      · subst h6; rfl
      · exact hfin j (by intro q; simp only [List.mem_cons, List.not_mem_nil, or_false] at hj q; omega) h6
    · rw [← he.2 j hj]
      exact hI1.2.2 j (by intro q; simp only [List.mem_cons, List.not_mem_nil, or_false] at hj q; omega)
  have hVV : ValX (va_up s1 4 (a' 4)) mn k n := by
    refine ValX_congr (fun j hj => ?_) hV
    by_cases h6 : j = 4
    · subst h6; rfl
    · exact hfin j (by intro q; simp only [List.mem_cons, List.not_mem_nil, or_false] at hj q; omega) h6
  refine ⟨va_up s1 4 (a' 4), s2, ?_, hE, Or.inr ⟨(hI1.2.2 1 (by decide)).trans h1, hVV⟩⟩
  repeat refine Rn.step rfl ?_
  refine Rn.calli rfl rfl rfl (by decide) (r_within (nI s) 16 _) (fun x0 e0 => ?_)
  refine Rn.br1 rfl (by rw [e0, ib_ne0]; exact inB_nI (n := 16) hs (by decide)) ?_
  repeat refine Rn.step rfl ?_
  refine Rn.callv rfl rfl rfl (by decide) hr ?_
  repeat refine Rn.step rfl ?_
  refine Rn.ald s rfl rfl hs (by decide) ?_
  iterate 5 refine Rn.step rfl ?_
  refine hgo _ ?_
  repeat refine Rn.step rfl ?_
  refine Rn.ast s rfl rfl hs (by decide) (h3 := wX (va_up s1 4 (a' 4)) s2 t r) (by rw [hX, upd_back]; rfl) ?_
  repeat refine Rn.step rfl ?_
  rw [← hb]
  exact Rn.ret rfl
/-- the traces of the draughts that fit -/
def TrX (a : Nat → Nat → Int32) (n k q : Nat) (mn sm : Nat → Nat) (l m : Nat) (T : Nat → Int64) : Prop := ∀ d, d < m → ftX a n q sm (dgX a n k mn l (d + 1)) = true → ∀ i, i < 24 → T ((d + 1) * 24 + i) = trF (dgX a n k mn l (d + 1)).1 n i
theorem trA_in {H : Nat → Int32} {n fr : Nat} {T : Nat → Int64} (i : Nat) (hi : i < 24) : trA H n fr T (fr + i) = trF H n i := by
  have h := lp_inv (f := fun m T => vp_updL T (fr + m) (trF H n m)) (fun c T => ∀ i, i < c → T (fr + i) = trF H n i) (i := 0) (j := 24) (s := T) (fun i hi => absurd hi (Nat.not_lt_zero _)) (fun c T _ _ hT i hi => by
    show (if fr + i = fr + c then trF H n c else T (fr + i)) = _
    by_cases hc : i = c
    · subst hc; rw [if_pos rfl]
    · rw [if_neg (by omega)]; exact hT i (by omega))
  exact h i (by omega)
theorem trA_off {H : Nat → Int32} {n fr : Nat} {T : Nat → Int64} (j : Nat) (hj : j < fr) : trA H n fr T j = T j := by
  have h := lp_inv (f := fun m T => vp_updL T (fr + m) (trF H n m)) (fun c T' => T' j = T j) (i := 0) (j := 24) (s := T) rfl (fun c T' _ _ hT => by
    show (if j = fr + c then trF H n c else T' j) = _
    rw [if_neg (by omega)]; exact hT)
  exact h
theorem r_traceDraughts {n k q : Nat} {mn sm : Nat → Nat} (hW : WfX a v n k q mn sm) (hS : SetX a v mn k n) {l : Nat} (hl : l < n) : ∃ (a' : Nat → Nat → Int32) (v' : Nat → Int32) (T : Nat → Int64), Rn E 3 mX7_traceDraughts (0, [(0, .ref 0), (1, .int (nI l))], [], wX a v t r) (some (.int (dgB a n k q mn sm l 9)), wX a' v' (va_up t 0 T) r) ∧ eqT a v a' v' ∧ v' 1 = 1 ∧ ValX a' mn k n ∧ TrX a n k q mn sm l 9 T := by
  obtain ⟨a', v', hr, he, h1, hV⟩ := r_settle (E := E) (t := t) (r := r) hW hS
  have hW' := hW.moved he
  obtain ⟨⟨hn, hv4⟩, ⟨hk, hv5, hmn⟩, -⟩ := id hW'
  have hV1 := hV.1
  rw [cW_eq he] at hV1
  have eB : sh1 (v' 5) - 1 = evB k := by rw [hv5]; rfl
  have e10 := he.1 10 (by decide)
  have e12 := he.1 12 (by decide)
  have e4 := he.1 4 (by decide)
  have e5 := he.1 5 (by decide)
  have e6 := he.1 6 (by decide)
  have e7 := he.1 7 (by decide)
  have e8 := he.1 8 (by decide)
  have hstep : ∀ (m : Nat) (w : (((Nat → Nat → Int32) × (Nat → Int32)) × Int32) × (Nat → Int64)), m < 9 → ((∃ c, SrI 7 a' v' (upd (a' 7) l c) w.1.1) ∧ w.1.2 = dgB a n k q mn sm l m ∧ TrX a n k q mn sm l m w.2) → ∃ w' : (((Nat → Nat → Int32) × (Nat → Int32)) × Int32) × (Nat → Int64), ((∃ c, SrI 7 a' v' (upd (a' 7) l c) w'.1.1) ∧ w'.1.2 = dgB a n k q mn sm l (m + 1) ∧ TrX a n k q mn sm l (m + 1) w'.2) ∧ ∀ o, Rn E 3 mX7_traceDraughts (19, [(4, .int (nI ((m + 1) + 1))), (3, .int w'.1.2), (2, .int (a' 7 l)), (0, .ref 0), (1, .int (nI l))], [], wX w'.1.1.1 w'.1.1.2 (va_up t 0 w'.2) r) o → Rn E 3 mX7_traceDraughts (19, [(4, .int (nI (m + 1))), (3, .int w.1.2), (2, .int (a' 7 l)), (0, .ref 0), (1, .int (nI l))], [], wX w.1.1.1 w.1.1.2 (va_up t 0 w.2) r) o := by
    intro m ⟨⟨⟨s1, s2⟩, b⟩, T⟩ hm ⟨⟨c, hI1⟩, hb, hT⟩
    have hb : b = dgB a n k q mn sm l m := hb
    have hT : TrX a n k q mn sm l m T := hT
    have hX : s1 7 = upd (a' 7) l c := hI1.1
    have hJ := hI1.up (upd (a' 7) l (nI (m + 1)))
    obtain ⟨a1, ha1⟩ : ∃ a1, a1 = va_up s1 7 (upd (a' 7) l (nI (m + 1))) := ⟨_, rfl⟩
    rw [← ha1] at hJ
    have jA : a1 7 = upd (a' 7) l (nI (m + 1)) := hJ.1
    have jB : ∀ k, k ∉ [28, 29, 30, 32, 33, 34, 35, 36] → k ≠ 7 → a1 k = a' k := hJ.2.1
    have g11 := jB 11 (by decide) (by decide)
    have g19 := jB 19 (by decide) (by decide)
    have jV : ∀ k, k ∉ [2, 3, 9, 10] → s2 k = v' k := hI1.2.2
    obtain ⟨a2, v2, hr2, hs2, -, -, hH⟩ := r_oRun (E := E) (a := a1) (v := s2) (t := va_up t 0 T) (r := r) (W := 18) (Or.inl rfl) (evB k) hn ((jV 4 (by decide)).trans hv4) hk ((jV 5 (by decide)).trans hv5) (mn := mn) (by rw [g11]; exact hmn) (wl := cW a mn k) (by show ∀ j, j < 384 → a1 19 j = _; rw [g19]; exact hV1)
    rw [jB 10 (by decide) (by decide), jB 12 (by decide) (by decide), jB 4 (by decide) (by decide), jA, jB 8 (by decide) (by decide), jB 6 (by decide) (by decide), e10, e12, e4, e7, e8, e6] at hH
    have hK : SrI 7 a' v' (upd (a' 7) l (nI (m + 1))) (a2, v2) := hJ.eqS (by decide) hs2
    have kB : ∀ k, k ∉ [28, 29, 30, 32, 33, 34, 35, 36] → k ≠ 7 → a2 k = a' k := hK.2.1
    have kV : ∀ k, k ∉ [2, 3, 9, 10] → v2 k = v' k := hK.2.2
    have hF := r_fitX (E := E) (t := va_up t 0 T) (r := r) hW ((kB 8 (by decide) (by decide)).trans e8) ((kB 14 (by decide) (by decide)).trans (he.1 14 (by decide))) ((kB 15 (by decide) (by decide)).trans (he.1 15 (by decide))) ((kB 16 (by decide) (by decide)).trans (he.1 16 (by decide))) ((kV 4 (by decide)).trans (he.2 4 (by decide))) ((kV 6 (by decide)).trans (he.2 6 (by decide))) hH
    have hH' : HdS a2 n (dgX a n k mn l (m + 1)) := hH
    by_cases hf : ftX a n q sm (dgX a n k mn l (m + 1)) = true
    · have hTr : TrX a n k q mn sm l (m + 1) (trA (a2 32) n ((m + 1) * 24) T) := by
        intro d hd hfd i hi
        by_cases hdm : d = m
        · subst hdm
          rw [trA_in i hi]
          exact trF_congr (fun l' hl' => (hH' i l' hi hl').1)
        · rw [trA_off _ (by omega)]
          exact hT d (by omega) hfd i hi
      refine ⟨(((a2, v2), b ||| sh1 (nI (m + 1))), trA (a2 32) n ((m + 1) * 24) T), ⟨⟨nI (m + 1), hK⟩, by unfold dgB; rw [lp_end, Nat.zero_add, if_pos hf, hb]; rfl, hTr⟩, fun o kk => ?_⟩
      dsimp only at kk ⊢
      rw [nI_succ] at kk
      repeat refine Rn.step rfl ?_
      refine Rn.br2 rfl (fun q => absurd (show nI 9 < nI (m + 1) from q) (Int32.not_lt.mpr (nI_le (by omega) (by decide)))) ?_
      repeat refine Rn.step rfl ?_
      refine Rn.ast l rfl rfl (by omega) (by decide) (h3 := wX a1 s2 (va_up t 0 T) r) (by rw [hX, upd_upd, ha1]; rfl) ?_
      repeat refine Rn.step rfl ?_
      refine Rn.calli rfl rfl rfl (by decide) r_bits (fun z1 f1 => ?_)
      rw [jV 5 (by decide), eB] at f1
      subst f1
      refine Rn.callv rfl rfl rfl (by decide) hr2 ?_
      repeat refine Rn.step rfl ?_
      refine Rn.calli rfl rfl rfl (by decide) hF (fun z2 f2 => ?_)
      refine Rn.br2 rfl (by rw [f2, ib_eq0]; exact fun q => q hf) ?_
      iterate 15 refine Rn.step rfl ?_
      refine Rn.top (x' := nI ((m + 1) * 24)) (by rw [← pk_mul]; rfl) ?_
      refine Rn.callv rfl rfl rfl (by decide) (r_trace hn ((kV 4 (by decide)).trans hv4) (by omega)) ?_
      iterate 2 refine Rn.step rfl ?_
      refine Rn.hp (h2 := wX a2 v2 (va_up t 0 (trA (a2 32) n ((m + 1) * 24) T)) r) rfl ?_
      exact Rn.sub (by exact ⟨rfl, rfl, rfl, rfl, rfl, trivial⟩) kk
    · have hTr : TrX a n k q mn sm l (m + 1) T := by
        intro d hd hfd i hi
        by_cases hdm : d = m
        · subst hdm
          exact absurd hfd hf
        · exact hT d (by omega) hfd i hi
      refine ⟨(((a2, v2), b), T), ⟨⟨nI (m + 1), hK⟩, by unfold dgB; rw [lp_end, Nat.zero_add, if_neg hf, hb]; rfl, hTr⟩, fun o kk => ?_⟩
      dsimp only at kk ⊢
      rw [nI_succ] at kk
      repeat refine Rn.step rfl ?_
      refine Rn.br2 rfl (fun q => absurd (show nI 9 < nI (m + 1) from q) (Int32.not_lt.mpr (nI_le (by omega) (by decide)))) ?_
      repeat refine Rn.step rfl ?_
      refine Rn.ast l rfl rfl (by omega) (by decide) (h3 := wX a1 s2 (va_up t 0 T) r) (by rw [hX, upd_upd, ha1]; rfl) ?_
      repeat refine Rn.step rfl ?_
      refine Rn.calli rfl rfl rfl (by decide) r_bits (fun z1 f1 => ?_)
      rw [jV 5 (by decide), eB] at f1
      subst f1
      refine Rn.callv rfl rfl rfl (by decide) hr2 ?_
      repeat refine Rn.step rfl ?_
      refine Rn.calli rfl rfl rfl (by decide) hF (fun z2 f2 => ?_)
      refine Rn.br1 rfl (by rw [f2, ib_eq0]; exact hf) ?_
      iterate 2 refine Rn.step rfl ?_
      exact Rn.sub (by exact ⟨rfl, rfl, rfl, rfl, rfl, trivial⟩) kk
  obtain ⟨⟨⟨⟨s1, s2⟩, b⟩, T⟩, ⟨⟨c, hI1⟩, hb, hT⟩, hgo⟩ := Rn.lpx (E := E) (hh := 3) (M := mX7_traceDraughts) (σ := (((Nat → Nat → Int32) × (Nat → Int32)) × Int32) × (Nat → Int64)) (cfg := fun m w => (19, [(4, .int (nI (m + 1))), (3, .int w.1.2), (2, .int (a' 7 l)), (0, .ref 0), (1, .int (nI l))], [], wX w.1.1.1 w.1.1.2 (va_up t 0 w.2) r)) (n := 9) (fun m w => (∃ c, SrI 7 a' v' (upd (a' 7) l c) w.1.1) ∧ w.1.2 = dgB a n k q mn sm l m ∧ TrX a n k q mn sm l m w.2) hstep 9 0 (((a', v'), 0), t 0) rfl ⟨⟨a' 7 l, (upd_self _ _).symm, fun _ _ _ => rfl, fun _ _ => rfl⟩, rfl, fun d hd => absurd hd (Nat.not_lt_zero _)⟩
  dsimp only at hgo
  have hb : b = dgB a n k q mn sm l 9 := hb
  have hT : TrX a n k q mn sm l 9 T := hT
  have hX : s1 7 = upd (a' 7) l c := hI1.1
  have hfin := (hI1.up (a' 7)).2.1
  have hE : eqT a v (va_up s1 7 (a' 7)) s2 := by
    refine ⟨fun j hj => ?_, fun j hj => ?_⟩
    · rw [← he.1 j hj]
      by_cases h6 : j = 7
      · subst h6; rfl
      · exact hfin j (by intro q; simp only [List.mem_cons, List.not_mem_nil, or_false] at hj q; omega) h6
    · rw [← he.2 j hj]
      exact hI1.2.2 j (by intro q; simp only [List.mem_cons, List.not_mem_nil, or_false] at hj q; omega)
  have hVV : ValX (va_up s1 7 (a' 7)) mn k n := by
    refine ValX_congr (fun j hj => ?_) hV
    by_cases h6 : j = 7
    · subst h6; rfl
    · exact hfin j (by intro q; simp only [List.mem_cons, List.not_mem_nil, or_false] at hj q; omega) h6
  refine ⟨va_up s1 7 (a' 7), s2, T, ?_, hE, (hI1.2.2 1 (by decide)).trans h1, hVV, hT⟩
  repeat refine Rn.step rfl ?_
  refine Rn.callv rfl rfl rfl (by decide) hr ?_
  repeat refine Rn.step rfl ?_
  refine Rn.ald l rfl rfl (by omega) (by decide) ?_
  iterate 5 refine Rn.step rfl ?_
  refine Rn.hp (h2 := wX a' v' (va_up t 0 (t 0)) r) rfl ?_
  refine hgo _ ?_
  repeat refine Rn.step rfl ?_
  refine Rn.ast l rfl rfl (by omega) (by decide) (h3 := wX (va_up s1 7 (a' 7)) s2 (va_up t 0 T) r) (by rw [hX, upd_back]; rfl) ?_
  repeat refine Rn.step rfl ?_
  rw [← hb]
  exact Rn.ret rfl
end XF
