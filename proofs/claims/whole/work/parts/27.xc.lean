section XC
variable {E : iExtT} {a : Nat → Nat → Int32} {v : Nat → Int32} {t : Nat → Nat → Int64} {r : List va_E}
theorem ValX_congr {a' : Nat → Nat → Int32} {mn : Nat → Nat} {k n : Nat} (h : ∀ j ∈ [4, 5, 6, 7, 8, 10, 12, 19, 23, 24, 37], a' j = a j) (hV : ValX a mn k n) : ValX a' mn k n := by
  unfold ValX cW cDr oC at hV ⊢
  rw [h 4 (by decide), h 5 (by decide), h 6 (by decide), h 7 (by decide), h 8 (by decide), h 10 (by decide), h 12 (by decide), h 19 (by decide), h 23 (by decide), h 24 (by decide), h 37 (by decide)]
  exact hV
/-- the state of a search: what has changed is row R at place p (X: the row as it was), the rest as a', v' -/
def SrI (R : Nat) (a' : Nat → Nat → Int32) (v' : Nat → Int32) (X : Nat → Int32) (s : (Nat → Nat → Int32) × (Nat → Int32)) : Prop := s.1 R = X ∧ (∀ k, k ∉ [28, 29, 30, 32, 33, 34, 35, 36] → k ≠ R → s.1 k = a' k) ∧ ∀ k, k ∉ [2, 3, 9, 10] → s.2 k = v' k
theorem SrI.up {R : Nat} {a' : Nat → Nat → Int32} {v' : Nat → Int32} {X : Nat → Int32} {s : (Nat → Nat → Int32) × (Nat → Int32)} (h : SrI R a' v' X s) (Y : Nat → Int32) : SrI R a' v' Y (va_up s.1 R Y, s.2) := ⟨if_pos rfl, fun k h1 h2 => by show (if k = R then Y else s.1 k) = _; rw [if_neg h2]; exact h.2.1 k h1 h2, h.2.2⟩
theorem SrI.eqS {R : Nat} (hR : R ∉ [28, 29, 30, 32, 33, 34, 35, 36]) {a' : Nat → Nat → Int32} {v' : Nat → Int32} {X : Nat → Int32} {s : (Nat → Nat → Int32) × (Nat → Int32)} (h : SrI R a' v' X s) {a2 : Nat → Nat → Int32} {v2 : Nat → Int32} (he : eqS s.1 s.2 a2 v2) : SrI R a' v' X (a2, v2) := ⟨(he.1 R hR).trans h.1, fun k h1 h2 => (he.1 k h1).trans (h.2.1 k h1 h2), fun k h1 => (he.2 k h1).trans (h.2.2 k h1)⟩
theorem SrI.upv {R : Nat} {a' : Nat → Nat → Int32} {v' : Nat → Int32} {X : Nat → Int32} {a2 : Nat → Nat → Int32} {v2 v3 : Nat → Int32} (h : SrI R a' v' X (a2, v2)) (he : ∀ k, k ∉ [2, 3, 9, 10] → v3 k = v2 k) : SrI R a' v' X (a2, v3) := ⟨h.1, h.2.1, fun k h1 => (he k h1).trans (h.2.2 k h1)⟩
theorem wg_v (v2 : Nat → Int32) (o c : Int32) : (∀ k, k ∉ [2, 3, 9, 10] → (if ¬ o ≤ v2 3 then upd (upd v2 3 o) 2 c else v2) k = v2 k) ∧ ((if ¬ o ≤ v2 3 then upd (upd v2 3 o) 2 c else v2) 2, (if ¬ o ≤ v2 3 then upd (upd v2 3 o) 2 c else v2) 3) = bs (v2 2, v2 3) c o := by
  by_cases h : o ≤ v2 3
  · have e : (if ¬ o ≤ v2 3 then upd (upd v2 3 o) 2 c else v2) = v2 := if_neg (fun q => q h)
    rw [e]
    exact ⟨fun _ _ => rfl, (if_neg (fun q => q h)).symm⟩
  · have e : (if ¬ o ≤ v2 3 then upd (upd v2 3 o) 2 c else v2) = upd (upd v2 3 o) 2 c := if_pos h
    rw [e]
    refine ⟨fun k hk => ?_, (if_pos h).symm⟩
    have h2 : k ≠ 2 ∧ k ≠ 3 := by
      simp only [List.mem_cons, List.not_mem_nil, or_false] at hk
      omega
    rw [pk_un h2.1, pk_un h2.2]
theorem r_searchSend {n k q : Nat} {mn sm : Nat → Nat} (hW : WfX a v n k q mn sm) (hS : SetX a v mn k n) {l : Nat} (hl : l < n) : ∃ (a' : Nat → Nat → Int32) (v' : Nat → Int32), Rn E 4 mX7_searchSend (0, [(0, .ref 0), (1, .int (nI l))], [], wX a v t r) (none, wX a' v' t r) ∧ eqT a v a' v' ∧ v' 1 = 1 ∧ ValX a' mn k n ∧ (v' 2, v' 3) = sdF (a 10) (a 12) mn k n (a 4) (a 7) (a 8) (a 6) (cW a mn k) l := by
  obtain ⟨a', v', hr, he, h1, hV, hb2, hb3⟩ := r_startSearch (E := E) (t := t) (r := r) hW hS
  have hW' := hW.moved he
  obtain ⟨⟨hn, hv4⟩, ⟨hk, hv5, hmn⟩, -⟩ := id hW'
  have hV1 := hV.1
  rw [cW_eq he] at hV1
  have eB : sh1 (v' 5) - 1 = evB k := by rw [hv5]; rfl
  have e10 := he.1 10 (by decide)
  have e12 := he.1 12 (by decide)
  have e4 := he.1 4 (by decide)
  have e5 := he.1 5 (by decide)
  have e6 := he.1 6 (by decide)
  have e7 := he.1 7 (by decide)
  have e8 := he.1 8 (by decide)
  have hstep : ∀ (m : Nat) (s : (Nat → Nat → Int32) × (Nat → Int32)), m < 24 → ((∃ c, SrI 6 a' v' (upd (a' 6) l c) s) ∧ (s.2 2, s.2 3) = lp (fun m x => bs x (nI m) (bcF (obF (crn (a 10) (a 12) mn k n (a 4) (a 7) (a 8) (upd (a 6) l (nI m)) (cW a mn k) (evB k)).1 n))) 0 m (-1, -1)) → ∃ s' : (Nat → Nat → Int32) × (Nat → Int32), ((∃ c, SrI 6 a' v' (upd (a' 6) l c) s') ∧ (s'.2 2, s'.2 3) = lp (fun m x => bs x (nI m) (bcF (obF (crn (a 10) (a 12) mn k n (a 4) (a 7) (a 8) (upd (a 6) l (nI m)) (cW a mn k) (evB k)).1 n))) 0 (m + 1) (-1, -1)) ∧ ∀ o, Rn E 4 mX7_searchSend ((16, [(3, .int (nI (m + 1))), (2, .int (a' 6 l)), (0, .ref 0), (1, .int (nI l))], [], wX s'.1 s'.2 t r)) o → Rn E 4 mX7_searchSend ((16, [(3, .int (nI m)), (2, .int (a' 6 l)), (0, .ref 0), (1, .int (nI l))], [], wX s.1 s.2 t r)) o := by
    intro m s hm hI
    obtain ⟨⟨c, hI1⟩, hI2⟩ := hI
    have hJ := hI1.up (upd (a' 6) l (nI m))
    obtain ⟨a1, ha1⟩ : ∃ a1, a1 = va_up s.1 6 (upd (a' 6) l (nI m)) := ⟨_, rfl⟩
    rw [← ha1] at hJ
    have jA : a1 6 = upd (a' 6) l (nI m) := hJ.1
    have jB : ∀ k, k ∉ [28, 29, 30, 32, 33, 34, 35, 36] → k ≠ 6 → a1 k = a' k := hJ.2.1
    have g11 := jB 11 (by decide) (by decide)
    have g19 := jB 19 (by decide) (by decide)
    obtain ⟨a2, v2, hr2, hs2, hq2, hq3, hH⟩ := r_oRun (E := E) (a := a1) (v := s.2) (t := t) (r := r) (W := 18) (Or.inl rfl) (evB k) hn ((hI1.2.2 4 (by decide)).trans hv4) hk ((hI1.2.2 5 (by decide)).trans hv5) (mn := mn) (by rw [g11]; exact hmn) (wl := cW a mn k) (by show ∀ j, j < 384 → a1 19 j = _; rw [g19]; exact hV1)
    rw [jB 10 (by decide) (by decide), jB 12 (by decide) (by decide), jB 4 (by decide) (by decide), jB 7 (by decide) (by decide), jB 8 (by decide) (by decide), jA, e10, e12, e4, e7, e8, e6] at hH
    have hK := hJ.eqS (by decide) hs2
    have hv42 : v2 4 = nI n := (hK.2.2 4 (by decide)).trans hv4
    obtain ⟨o, ho⟩ : ∃ o, o = bcF (obF (crn (a 10) (a 12) mn k n (a 4) (a 7) (a 8) (upd (a 6) l (nI m)) (cW a mn k) (evB k)).1 n) := ⟨_, rfl⟩
    have hw := wg_v v2 o (nI m)
    refine ⟨(a2, if ¬ o ≤ v2 3 then upd (upd v2 3 o) 2 (nI m) else v2), ⟨⟨nI m, hK.upv hw.1⟩, ?_⟩, fun oo kk => ?_⟩
    · rw [lp_end, ← hI2, ho]
      rw [ho] at hw
      rw [hw.2, hq2, hq3, Nat.zero_add]
    · rw [nI_succ] at kk
      repeat refine Rn.step rfl ?_
      refine Rn.br2 rfl (nle hm (by decide)) ?_
      repeat refine Rn.step rfl ?_
      refine Rn.ast l rfl rfl (by omega) (by decide) (h3 := wX a1 s.2 t r) (by rw [hI1.1, upd_upd, ha1]; rfl) ?_
      repeat refine Rn.step rfl ?_
      refine Rn.calli rfl rfl rfl (by decide) r_bits (fun z1 f1 => ?_)
      rw [hI1.2.2 5 (by decide), eB] at f1
      subst f1
      refine Rn.callv rfl rfl rfl (by decide) hr2 ?_
      repeat refine Rn.step rfl ?_
      refine Rn.callv rfl rfl rfl (by decide) (r_weigh hn hv42 (nI m) hH) ?_
      iterate 2 refine Rn.step rfl ?_
      rw [← ho]
      exact kk
  obtain ⟨s', ⟨⟨c, hI1⟩, hI2⟩, hgo⟩ := Rn.lpx (E := E) (hh := 4) (M := mX7_searchSend) (σ := (Nat → Nat → Int32) × (Nat → Int32)) (cfg := fun m s => (16, [(3, .int (nI m)), (2, .int (a' 6 l)), (0, .ref 0), (1, .int (nI l))], [], wX s.1 s.2 t r)) (n := 24) (fun m s => (∃ c, SrI 6 a' v' (upd (a' 6) l c) s) ∧ (s.2 2, s.2 3) = lp (fun m x => bs x (nI m) (bcF (obF (crn (a 10) (a 12) mn k n (a 4) (a 7) (a 8) (upd (a 6) l (nI m)) (cW a mn k) (evB k)).1 n))) 0 m (-1, -1)) hstep 24 0 (a', v') rfl ⟨⟨a' 6 l, (upd_self _ _).symm, fun _ _ _ => rfl, fun _ _ => rfl⟩, by show (v' 2, v' 3) = (-1, -1); rw [hb2, hb3]⟩
  have hfin := (hI1.up (a' 6)).2.1
  refine ⟨va_up s'.1 6 (a' 6), s'.2, ?_, ?_, ?_, ?_, ?_⟩
  · repeat refine Rn.step rfl ?_
    refine Rn.callv rfl rfl rfl (by decide) hr ?_
    repeat refine Rn.step rfl ?_
    refine Rn.ald l rfl rfl (by omega) (by decide) ?_
    iterate 3 refine Rn.step rfl ?_
    refine hgo _ ?_
    repeat refine Rn.step rfl ?_
    refine Rn.ast l rfl rfl (by omega) (by decide) (h3 := wX (va_up s'.1 6 (a' 6)) s'.2 t r) (by rw [hI1.1, upd_back]; rfl) ?_
    exact Rn.ret rfl
  · refine ⟨fun j hj => ?_, fun j hj => ?_⟩
    · rw [← he.1 j hj]
      by_cases h6 : j = 6
      · subst h6; rfl
      · exact hfin j (by intro q; simp only [List.mem_cons, List.not_mem_nil, or_false] at hj q; omega) h6
    · rw [← he.2 j hj]
      exact hI1.2.2 j (by intro q; simp only [List.mem_cons, List.not_mem_nil, or_false] at hj q; omega)
  · rw [hI1.2.2 1 (by decide)]; exact h1
  · refine ValX_congr (fun j hj => ?_) hV
    by_cases h6 : j = 6
    · subst h6; rfl
    · exact hfin j (by intro q; simp only [List.mem_cons, List.not_mem_nil, or_false] at hj q; omega) h6
  · exact hI2
theorem r_searchSteep {n k q : Nat} {mn sm : Nat → Nat} (hW : WfX a v n k q mn sm) (hS : SetX a v mn k n) : ∃ (a' : Nat → Nat → Int32) (v' : Nat → Int32), Rn E 4 mX7_searchSteep (0, [(0, .ref 0)], [], wX a v t r) (none, wX a' v' t r) ∧ eqT a v a' v' ∧ v' 1 = 1 ∧ ValX a' mn k n ∧ (v' 2, v' 3) = spF (a 10) (a 12) mn k n (a 4) (a 7) (a 8) (a 6) (cW a mn k) := by
  obtain ⟨a', v', hr, he, h1, hV, hb2, hb3⟩ := r_startSearch (E := E) (t := t) (r := r) hW hS
  have hW' := hW.moved he
  obtain ⟨⟨hn, hv4⟩, ⟨hk, hv5, hmn⟩, -⟩ := id hW'
  have hV1 := hV.1
  rw [cW_eq he] at hV1
  have eB : sh1 (v' 5) - 1 = evB k := by rw [hv5]; rfl
  have e10 := he.1 10 (by decide)
  have e12 := he.1 12 (by decide)
  have e4 := he.1 4 (by decide)
  have e5 := he.1 5 (by decide)
  have e6 := he.1 6 (by decide)
  have e7 := he.1 7 (by decide)
  have e8 := he.1 8 (by decide)
  have hstep : ∀ (m : Nat) (s : (Nat → Nat → Int32) × (Nat → Int32)), m < 16 → (SrI 4 a' v' (a' 4) s ∧ (s.2 2, s.2 3) = lp (fun s x => bs x (nI s) (bcF (obF (crn (a 10) (a 12) mn k n (upd (a 4) s (if 3 < a 4 s + 1 then 3 else a 4 s + 1)) (a 7) (a 8) (a 6) (cW a mn k) (evB k)).1 n))) 0 m (-1, -1)) → ∃ s' : (Nat → Nat → Int32) × (Nat → Int32), (SrI 4 a' v' (a' 4) s' ∧ (s'.2 2, s'.2 3) = lp (fun s x => bs x (nI s) (bcF (obF (crn (a 10) (a 12) mn k n (upd (a 4) s (if 3 < a 4 s + 1 then 3 else a 4 s + 1)) (a 7) (a 8) (a 6) (cW a mn k) (evB k)).1 n))) 0 (m + 1) (-1, -1)) ∧ ∀ o, Rn E 4 mX7_searchSteep ((6, [(1, .int (nI (m + 1))), (0, .ref 0)], [], wX s'.1 s'.2 t r)) o → Rn E 4 mX7_searchSteep ((6, [(1, .int (nI m)), (0, .ref 0)], [], wX s.1 s.2 t r)) o := by
    intro m s hm hI
    obtain ⟨hI1, hI2⟩ := hI
    obtain ⟨NV, hNV⟩ : ∃ x : Int32, x = if 3 < a' 4 m + 1 then 3 else a' 4 m + 1 := ⟨_, rfl⟩
    have hJ := hI1.up (upd (a' 4) m NV)
    obtain ⟨a1, ha1⟩ : ∃ a1, a1 = va_up s.1 4 (upd (a' 4) m NV) := ⟨_, rfl⟩
    rw [← ha1] at hJ
    have jA : a1 4 = upd (a' 4) m NV := hJ.1
    have jB : ∀ k, k ∉ [28, 29, 30, 32, 33, 34, 35, 36] → k ≠ 4 → a1 k = a' k := hJ.2.1
    have g11 := jB 11 (by decide) (by decide)
    have g19 := jB 19 (by decide) (by decide)
    obtain ⟨a2, v2, hr2, hs2, hq2, hq3, hH⟩ := r_oRun (E := E) (a := a1) (v := s.2) (t := t) (r := r) (W := 18) (Or.inl rfl) (evB k) hn ((hI1.2.2 4 (by decide)).trans hv4) hk ((hI1.2.2 5 (by decide)).trans hv5) (mn := mn) (by rw [g11]; exact hmn) (wl := cW a mn k) (by show ∀ j, j < 384 → a1 19 j = _; rw [g19]; exact hV1)
    rw [jB 10 (by decide) (by decide), jB 12 (by decide) (by decide), jA, jB 7 (by decide) (by decide), jB 8 (by decide) (by decide), jB 6 (by decide) (by decide), e10, e12, e4, e7, e8, e6] at hH
    have hK0 := hJ.eqS (by decide) hs2
    have hK := hK0.up (a' 4)
    have hv42 : v2 4 = nI n := (hK.2.2 4 (by decide)).trans hv4
    rw [e4] at hNV
    obtain ⟨o, ho⟩ : ∃ o, o = bcF (obF (crn (a 10) (a 12) mn k n (upd (a 4) m NV) (a 7) (a 8) (a 6) (cW a mn k) (evB k)).1 n) := ⟨_, rfl⟩
    have hH' : HdS (va_up a2 4 (a' 4)) n (crn (a 10) (a 12) mn k n (upd (a 4) m NV) (a 7) (a 8) (a 6) (cW a mn k) (evB k)) := hH
    have hw := wg_v v2 o (nI m)
    refine ⟨(va_up a2 4 (a' 4), if ¬ o ≤ v2 3 then upd (upd v2 3 o) 2 (nI m) else v2), ⟨hK.upv hw.1, ?_⟩, fun oo kk => ?_⟩
    · rw [lp_end, ← hI2, ho, hNV]
      rw [ho, hNV] at hw
      rw [hw.2, hq2, hq3, Nat.zero_add]
    · rw [nI_succ] at kk
      repeat refine Rn.step rfl ?_
      refine Rn.br2 rfl (nle hm (by decide)) ?_
      repeat refine Rn.step rfl ?_
      refine Rn.ald m rfl rfl hm (by decide) ?_
      repeat refine Rn.step rfl ?_
      refine Rn.ast m rfl rfl hm (by decide) (h3 := wX a1 s.2 t r) (by rw [hI1.1, ha1, hNV, e4]; rfl) ?_
      repeat refine Rn.step rfl ?_
      refine Rn.calli rfl rfl rfl (by decide) r_bits (fun z1 f1 => ?_)
      rw [hI1.2.2 5 (by decide), eB] at f1
      subst f1
      refine Rn.callv rfl rfl rfl (by decide) hr2 ?_
      repeat refine Rn.step rfl ?_
      refine Rn.ast m rfl rfl hm (by decide) (h3 := wX (va_up a2 4 (a' 4)) v2 t r) (by rw [show a2 4 = upd (a' 4) m NV from hK0.1, hI1.1, upd_back]; rfl) ?_
      repeat refine Rn.step rfl ?_
      refine Rn.callv rfl rfl rfl (by decide) (r_weigh hn hv42 (nI m) hH') ?_
      iterate 2 refine Rn.step rfl ?_
      rw [← ho]
      exact Rn.sub (by exact ⟨rfl, rfl, trivial⟩) kk
  obtain ⟨s', ⟨hI1, hI2⟩, hgo⟩ := Rn.lpx (E := E) (hh := 4) (M := mX7_searchSteep) (σ := (Nat → Nat → Int32) × (Nat → Int32)) (cfg := fun m s => (6, [(1, .int (nI m)), (0, .ref 0)], [], wX s.1 s.2 t r)) (n := 16) (fun m s => SrI 4 a' v' (a' 4) s ∧ (s.2 2, s.2 3) = lp (fun s x => bs x (nI s) (bcF (obF (crn (a 10) (a 12) mn k n (upd (a 4) s (if 3 < a 4 s + 1 then 3 else a 4 s + 1)) (a 7) (a 8) (a 6) (cW a mn k) (evB k)).1 n))) 0 m (-1, -1)) hstep 16 0 (a', v') rfl ⟨⟨rfl, fun _ _ _ => rfl, fun _ _ => rfl⟩, by show (v' 2, v' 3) = (-1, -1); rw [hb2, hb3]⟩
  have hfin : ∀ j, j ∉ [28, 29, 30, 32, 33, 34, 35, 36] → s'.1 j = a' j := fun j hj => by
    by_cases h6 : j = 4
    · subst h6; exact hI1.1
    · exact hI1.2.1 j hj h6
  refine ⟨s'.1, s'.2, ?_, ?_, ?_, ?_, ?_⟩
  · repeat refine Rn.step rfl ?_
    refine Rn.callv rfl rfl rfl (by decide) hr ?_
    iterate 2 refine Rn.step rfl ?_
    refine hgo _ ?_
    repeat refine Rn.step rfl ?_
    exact Rn.ret rfl
  · refine ⟨fun j hj => ?_, fun j hj => ?_⟩
    · rw [← he.1 j hj]
      exact hfin j (by intro q; simp only [List.mem_cons, List.not_mem_nil, or_false] at hj q; omega)
    · rw [← he.2 j hj]
      exact hI1.2.2 j (by intro q; simp only [List.mem_cons, List.not_mem_nil, or_false] at hj q; omega)
  · rw [hI1.2.2 1 (by decide)]; exact h1
  · exact ValX_congr (fun j hj => hfin j (by intro q; simp only [List.mem_cons, List.not_mem_nil, or_false] at hj q; omega)) hV
  · exact hI2
theorem r_searchFill {n k q : Nat} {mn sm : Nat → Nat} (hW : WfX a v n k q mn sm) (hS : SetX a v mn k n) : ∃ (a' : Nat → Nat → Int32) (v' : Nat → Int32), Rn E 4 mX7_searchFill (0, [(0, .ref 0)], [], wX a v t r) (none, wX a' v' t r) ∧ eqT a v a' v' ∧ v' 1 = 1 ∧ ValX a' mn k n ∧ (v' 2, v' 3) = flF (a 10) (a 12) mn k n (a 4) (a 5) (a 7) (a 8) (a 6) := by
  obtain ⟨a', v', hr, he, h1, hV, hb2, hb3⟩ := r_startSearch (E := E) (t := t) (r := r) hW hS
  have hW' := hW.moved he
  obtain ⟨⟨hn, hv4⟩, ⟨hk, hv5, hmn⟩, -⟩ := id hW'
  have hV1 := hV.1
  rw [cW_eq he] at hV1
  have eB : sh1 (v' 5) - 1 = evB k := by rw [hv5]; rfl
  have e10 := he.1 10 (by decide)
  have e12 := he.1 12 (by decide)
  have e4 := he.1 4 (by decide)
  have e5 := he.1 5 (by decide)
  have e6 := he.1 6 (by decide)
  have e7 := he.1 7 (by decide)
  have e8 := he.1 8 (by decide)
  have hstep : ∀ (m : Nat) (s : (Nat → Nat → Int32) × (Nat → Int32)), m < 16 → (SrI 5 a' v' (a' 5) s ∧ (s.2 2, s.2 3) = lp (fun s x => bs x (nI s) (bcF (obF (crn (a 10) (a 12) mn k n (a 4) (a 7) (a 8) (a 6) (cwl (a 10) (a 12) mn k (upd (a 5) s (if 9 < a 5 s + 2 then 9 else a 5 s + 2)) (evB k)) (evB k)).1 n))) 0 m (-1, -1)) → ∃ s' : (Nat → Nat → Int32) × (Nat → Int32), (SrI 5 a' v' (a' 5) s' ∧ (s'.2 2, s'.2 3) = lp (fun s x => bs x (nI s) (bcF (obF (crn (a 10) (a 12) mn k n (a 4) (a 7) (a 8) (a 6) (cwl (a 10) (a 12) mn k (upd (a 5) s (if 9 < a 5 s + 2 then 9 else a 5 s + 2)) (evB k)) (evB k)).1 n))) 0 (m + 1) (-1, -1)) ∧ ∀ o, Rn E 4 mX7_searchFill ((6, [(1, .int (nI (m + 1))), (0, .ref 0)], [], wX s'.1 s'.2 t r)) o → Rn E 4 mX7_searchFill ((6, [(1, .int (nI m)), (0, .ref 0)], [], wX s.1 s.2 t r)) o := by
    intro m s hm hI
    obtain ⟨hI1, hI2⟩ := hI
    obtain ⟨NV, hNV⟩ : ∃ x : Int32, x = if 9 < a' 5 m + 2 then 9 else a' 5 m + 2 := ⟨_, rfl⟩
    have hJ := hI1.up (upd (a' 5) m NV)
    obtain ⟨a1, ha1⟩ : ∃ a1, a1 = va_up s.1 5 (upd (a' 5) m NV) := ⟨_, rfl⟩
    rw [← ha1] at hJ
    have jA : a1 5 = upd (a' 5) m NV := hJ.1
    have jB : ∀ k, k ∉ [28, 29, 30, 32, 33, 34, 35, 36] → k ≠ 5 → a1 k = a' k := hJ.2.1
    have g11 := jB 11 (by decide) (by decide)
    obtain ⟨a2, hr2, hs2, hw2⟩ := r_oPour (E := E) (a := a1) (v := s.2) (t := t) (r := r) (evB k) (F := 5) (Or.inl rfl) hk ((hI1.2.2 5 (by decide)).trans hv5) (mn := mn) (by rw [g11]; exact hmn)
    rw [jB 10 (by decide) (by decide), jB 12 (by decide) (by decide), jA, e10, e12, e5] at hw2
    have hK0 := hJ.eqS (by decide) hs2
    have hK1 := hK0.up (a' 5)
    obtain ⟨a3, ha3⟩ : ∃ a3, a3 = va_up a2 5 (a' 5) := ⟨_, rfl⟩
    rw [← ha3] at hK1
    have kB : ∀ k, k ∉ [28, 29, 30, 32, 33, 34, 35, 36] → k ≠ 5 → a3 k = a' k := hK1.2.1
    have k11 := kB 11 (by decide) (by decide)
    have hw3 : ∀ j, j < 384 → a3 28 j = cwl (a 10) (a 12) mn k (upd (a 5) m NV) (evB k) j := by subst ha3; exact hw2
    obtain ⟨a4, v2, hr4, hs4, hq2, hq3, hH⟩ := r_oRun (E := E) (a := a3) (v := s.2) (t := t) (r := r) (W := 27) (Or.inr rfl) (evB k) hn ((hI1.2.2 4 (by decide)).trans hv4) hk ((hI1.2.2 5 (by decide)).trans hv5) (mn := mn) (by rw [k11]; exact hmn) (wl := cwl (a 10) (a 12) mn k (upd (a 5) m NV) (evB k)) hw3
    rw [kB 10 (by decide) (by decide), kB 12 (by decide) (by decide), kB 4 (by decide) (by decide), kB 7 (by decide) (by decide), kB 8 (by decide) (by decide), kB 6 (by decide) (by decide), e10, e12, e4, e7, e8, e6] at hH
    have hK := hK1.eqS (by decide) hs4
    have hv42 : v2 4 = nI n := (hK.2.2 4 (by decide)).trans hv4
    rw [e5] at hNV
    obtain ⟨o, ho⟩ : ∃ o, o = bcF (obF (crn (a 10) (a 12) mn k n (a 4) (a 7) (a 8) (a 6) (cwl (a 10) (a 12) mn k (upd (a 5) m NV) (evB k)) (evB k)).1 n) := ⟨_, rfl⟩
    have hw := wg_v v2 o (nI m)
    refine ⟨(a4, if ¬ o ≤ v2 3 then upd (upd v2 3 o) 2 (nI m) else v2), ⟨hK.upv hw.1, ?_⟩, fun oo kk => ?_⟩
    · rw [lp_end, ← hI2, ho, hNV]
      rw [ho, hNV] at hw
      rw [hw.2, hq2, hq3, Nat.zero_add]
    · rw [nI_succ] at kk
      repeat refine Rn.step rfl ?_
      refine Rn.br2 rfl (nle hm (by decide)) ?_
      repeat refine Rn.step rfl ?_
      refine Rn.ald m rfl rfl hm (by decide) ?_
      repeat refine Rn.step rfl ?_
      refine Rn.ast m rfl rfl hm (by decide) (h3 := wX a1 s.2 t r) (by rw [hI1.1, ha1, hNV, e5]; rfl) ?_
      repeat refine Rn.step rfl ?_
      refine Rn.calli rfl rfl rfl (by decide) r_bits (fun z1 f1 => ?_)
      rw [hI1.2.2 5 (by decide), eB] at f1
      subst f1
      refine Rn.callv rfl rfl rfl (by decide) hr2 ?_
      repeat refine Rn.step rfl ?_
      refine Rn.ast m rfl rfl hm (by decide) (h3 := wX a3 s.2 t r) (by rw [show a2 5 = upd (a' 5) m NV from hK0.1, hI1.1, upd_back, ha3]; rfl) ?_
      repeat refine Rn.step rfl ?_
      refine Rn.calli rfl rfl rfl (by decide) r_bits (fun z1 f1 => ?_)
      rw [hI1.2.2 5 (by decide), eB] at f1
      subst f1
      refine Rn.callv rfl rfl rfl (by decide) hr4 ?_
      repeat refine Rn.step rfl ?_
      refine Rn.callv rfl rfl rfl (by decide) (r_weigh hn hv42 (nI m) hH) ?_
      iterate 2 refine Rn.step rfl ?_
      rw [← ho]
      exact Rn.sub (by exact ⟨rfl, rfl, trivial⟩) kk
  obtain ⟨s', ⟨hI1, hI2⟩, hgo⟩ := Rn.lpx (E := E) (hh := 4) (M := mX7_searchFill) (σ := (Nat → Nat → Int32) × (Nat → Int32)) (cfg := fun m s => (6, [(1, .int (nI m)), (0, .ref 0)], [], wX s.1 s.2 t r)) (n := 16) (fun m s => SrI 5 a' v' (a' 5) s ∧ (s.2 2, s.2 3) = lp (fun s x => bs x (nI s) (bcF (obF (crn (a 10) (a 12) mn k n (a 4) (a 7) (a 8) (a 6) (cwl (a 10) (a 12) mn k (upd (a 5) s (if 9 < a 5 s + 2 then 9 else a 5 s + 2)) (evB k)) (evB k)).1 n))) 0 m (-1, -1)) hstep 16 0 (a', v') rfl ⟨⟨rfl, fun _ _ _ => rfl, fun _ _ => rfl⟩, by show (v' 2, v' 3) = (-1, -1); rw [hb2, hb3]⟩
  have hfin : ∀ j, j ∉ [28, 29, 30, 32, 33, 34, 35, 36] → s'.1 j = a' j := fun j hj => by
    by_cases h6 : j = 5
    · subst h6; exact hI1.1
    · exact hI1.2.1 j hj h6
  refine ⟨s'.1, s'.2, ?_, ?_, ?_, ?_, ?_⟩
  · repeat refine Rn.step rfl ?_
    refine Rn.callv rfl rfl rfl (by decide) hr ?_
    iterate 2 refine Rn.step rfl ?_
    refine hgo _ ?_
    repeat refine Rn.step rfl ?_
    exact Rn.ret rfl
  · refine ⟨fun j hj => ?_, fun j hj => ?_⟩
    · rw [← he.1 j hj]
      exact hfin j (by intro q; simp only [List.mem_cons, List.not_mem_nil, or_false] at hj q; omega)
    · rw [← he.2 j hj]
      exact hI1.2.2 j (by intro q; simp only [List.mem_cons, List.not_mem_nil, or_false] at hj q; omega)
  · rw [hI1.2.2 1 (by decide)]; exact h1
  · exact ValX_congr (fun j hj => hfin j (by intro q; simp only [List.mem_cons, List.not_mem_nil, or_false] at hj q; omega)) hV
  · exact hI2
theorem r_send_bad (x y : Int32) (hb : ¬ (inB x (v 4) ∧ inB y 2)) : Rn E 5 mX7_send (0, [(0, .ref 0), (1, .int x), (2, .int y)], [], wX a v t r) ((some (.int (-2))), wX a v t r) := by
  repeat refine Rn.step rfl ?_
  refine Rn.calli rfl rfl rfl (by decide) (r_isLog x) (fun x0 e0 => ?_)
  refine Rn.br rfl (fun h0 => ?_) (fun h0 => ?_)
  · repeat refine Rn.step rfl ?_
    exact Rn.ret rfl
  repeat refine Rn.step rfl ?_
  refine Rn.calli rfl rfl rfl (by decide) (r_within y 2 _) (fun x1 e1 => ?_)
  refine Rn.br2 rfl (fun h1 => hb (⟨ib_ne0.mp (e0 ▸ h0), ib_ne0.mp (e1 ▸ h1)⟩)) ?_
  repeat refine Rn.step rfl ?_
  exact Rn.ret rfl
theorem r_send0 {n k q : Nat} {mn sm : Nat → Nat} (hW : WfX a v n k q mn sm) (hS : SetX a v mn k n) {l : Nat} (hl : l < n) : AX E 5 mX7_send [(0, .ref 0), (1, .int (nI l)), (2, .int 0)] a v t r mn k n (some (.int (sdF (a 10) (a 12) mn k n (a 4) (a 7) (a 8) (a 6) (cW a mn k) l).1)) := by
  obtain ⟨⟨hn, hv4⟩, -⟩ := id hW
  obtain ⟨a', v', hr, he, h1, hV, hb⟩ := r_searchSend (E := E) (t := t) (r := r) hW hS hl
  refine ⟨a', v', ?_, he, Or.inr ⟨h1, hV⟩⟩
  rw [← hb]
  repeat refine Rn.step rfl ?_
  refine Rn.calli rfl rfl rfl (by decide) (r_isLog (nI l)) (fun x0 e0 => ?_)
  refine Rn.br2 rfl (by rw [e0, ib_eq0]; exact fun q => q (by rw [hv4]; exact inB_nI hl (by omega))) ?_
  repeat refine Rn.step rfl ?_
  refine Rn.calli rfl rfl rfl (by decide) (r_within 0 2 _) (fun x1 e1 => ?_)
  refine Rn.br1 rfl (by rw [e1, ib_ne0]; exact by decide) ?_
  repeat refine Rn.step rfl ?_
  refine Rn.callv rfl rfl rfl (by decide) hr ?_
  repeat refine Rn.step rfl ?_
  exact Rn.ret rfl
theorem r_send1 {n k q : Nat} {mn sm : Nat → Nat} (hW : WfX a v n k q mn sm) (hS : SetX a v mn k n) {l : Nat} (hl : l < n) : AX E 5 mX7_send [(0, .ref 0), (1, .int (nI l)), (2, .int 1)] a v t r mn k n (some (.int (sdF (a 10) (a 12) mn k n (a 4) (a 7) (a 8) (a 6) (cW a mn k) l).2)) := by
  obtain ⟨⟨hn, hv4⟩, -⟩ := id hW
  obtain ⟨a', v', hr, he, h1, hV, hb⟩ := r_searchSend (E := E) (t := t) (r := r) hW hS hl
  refine ⟨a', v', ?_, he, Or.inr ⟨h1, hV⟩⟩
  rw [← hb]
  repeat refine Rn.step rfl ?_
  refine Rn.calli rfl rfl rfl (by decide) (r_isLog (nI l)) (fun x0 e0 => ?_)
  refine Rn.br2 rfl (by rw [e0, ib_eq0]; exact fun q => q (by rw [hv4]; exact inB_nI hl (by omega))) ?_
  repeat refine Rn.step rfl ?_
  refine Rn.calli rfl rfl rfl (by decide) (r_within 1 2 _) (fun x1 e1 => ?_)
  refine Rn.br1 rfl (by rw [e1, ib_ne0]; exact by decide) ?_
  repeat refine Rn.step rfl ?_
  refine Rn.callv rfl rfl rfl (by decide) hr ?_
  repeat refine Rn.step rfl ?_
  exact Rn.ret rfl
theorem r_steep_bad (x : Int32) (hb : ¬ (inB x 2)) : Rn E 5 mX7_steep (0, [(0, .ref 0), (1, .int x)], [], wX a v t r) ((some (.int (-2))), wX a v t r) := by
  repeat refine Rn.step rfl ?_
  refine Rn.calli rfl rfl rfl (by decide) (r_within x 2 _) (fun x0 e0 => ?_)
  refine Rn.br2 rfl (fun h0 => hb (ib_ne0.mp (e0 ▸ h0))) ?_
  repeat refine Rn.step rfl ?_
  exact Rn.ret rfl
theorem r_fill_bad (x : Int32) (hb : ¬ (inB x 2)) : Rn E 5 mX7_fill (0, [(0, .ref 0), (1, .int x)], [], wX a v t r) ((some (.int (-2))), wX a v t r) := by
  repeat refine Rn.step rfl ?_
  refine Rn.calli rfl rfl rfl (by decide) (r_within x 2 _) (fun x0 e0 => ?_)
  refine Rn.br2 rfl (fun h0 => hb (ib_ne0.mp (e0 ▸ h0))) ?_
  repeat refine Rn.step rfl ?_
  exact Rn.ret rfl
theorem r_steep0 {n k q : Nat} {mn sm : Nat → Nat} (hW : WfX a v n k q mn sm) (hS : SetX a v mn k n) : AX E 5 mX7_steep [(0, .ref 0), (1, .int 0)] a v t r mn k n (some (.int (spF (a 10) (a 12) mn k n (a 4) (a 7) (a 8) (a 6) (cW a mn k)).1)) := by
  obtain ⟨⟨hn, hv4⟩, -⟩ := id hW
  obtain ⟨a', v', hr, he, h1, hV, hb⟩ := r_searchSteep (E := E) (t := t) (r := r) hW hS
  refine ⟨a', v', ?_, he, Or.inr ⟨h1, hV⟩⟩
  rw [← hb]
  repeat refine Rn.step rfl ?_
  refine Rn.calli rfl rfl rfl (by decide) (r_within 0 2 _) (fun x0 e0 => ?_)
  refine Rn.br1 rfl (by rw [e0, ib_ne0]; exact by decide) ?_
  repeat refine Rn.step rfl ?_
  refine Rn.callv rfl rfl rfl (by decide) hr ?_
  repeat refine Rn.step rfl ?_
  exact Rn.ret rfl
theorem r_fill0 {n k q : Nat} {mn sm : Nat → Nat} (hW : WfX a v n k q mn sm) (hS : SetX a v mn k n) : AX E 5 mX7_fill [(0, .ref 0), (1, .int 0)] a v t r mn k n (some (.int (flF (a 10) (a 12) mn k n (a 4) (a 5) (a 7) (a 8) (a 6)).1)) := by
  obtain ⟨⟨hn, hv4⟩, -⟩ := id hW
  obtain ⟨a', v', hr, he, h1, hV, hb⟩ := r_searchFill (E := E) (t := t) (r := r) hW hS
  refine ⟨a', v', ?_, he, Or.inr ⟨h1, hV⟩⟩
  rw [← hb]
  repeat refine Rn.step rfl ?_
  refine Rn.calli rfl rfl rfl (by decide) (r_within 0 2 _) (fun x0 e0 => ?_)
  refine Rn.br1 rfl (by rw [e0, ib_ne0]; exact by decide) ?_
  repeat refine Rn.step rfl ?_
  refine Rn.callv rfl rfl rfl (by decide) hr ?_
  repeat refine Rn.step rfl ?_
  exact Rn.ret rfl
theorem r_steep1 {n k q : Nat} {mn sm : Nat → Nat} (hW : WfX a v n k q mn sm) (hS : SetX a v mn k n) : AX E 5 mX7_steep [(0, .ref 0), (1, .int 1)] a v t r mn k n (some (.int (spF (a 10) (a 12) mn k n (a 4) (a 7) (a 8) (a 6) (cW a mn k)).2)) := by
  obtain ⟨⟨hn, hv4⟩, -⟩ := id hW
  obtain ⟨a', v', hr, he, h1, hV, hb⟩ := r_searchSteep (E := E) (t := t) (r := r) hW hS
  refine ⟨a', v', ?_, he, Or.inr ⟨h1, hV⟩⟩
  rw [← hb]
  repeat refine Rn.step rfl ?_
  refine Rn.calli rfl rfl rfl (by decide) (r_within 1 2 _) (fun x0 e0 => ?_)
  refine Rn.br1 rfl (by rw [e0, ib_ne0]; exact by decide) ?_
  repeat refine Rn.step rfl ?_
  refine Rn.callv rfl rfl rfl (by decide) hr ?_
  repeat refine Rn.step rfl ?_
  exact Rn.ret rfl
theorem r_fill1 {n k q : Nat} {mn sm : Nat → Nat} (hW : WfX a v n k q mn sm) (hS : SetX a v mn k n) : AX E 5 mX7_fill [(0, .ref 0), (1, .int 1)] a v t r mn k n (some (.int (flF (a 10) (a 12) mn k n (a 4) (a 5) (a 7) (a 8) (a 6)).2)) := by
  obtain ⟨⟨hn, hv4⟩, -⟩ := id hW
  obtain ⟨a', v', hr, he, h1, hV, hb⟩ := r_searchFill (E := E) (t := t) (r := r) hW hS
  refine ⟨a', v', ?_, he, Or.inr ⟨h1, hV⟩⟩
  rw [← hb]
  repeat refine Rn.step rfl ?_
  refine Rn.calli rfl rfl rfl (by decide) (r_within 1 2 _) (fun x0 e0 => ?_)
  refine Rn.br1 rfl (by rw [e0, ib_ne0]; exact by decide) ?_
  repeat refine Rn.step rfl ?_
  refine Rn.callv rfl rfl rfl (by decide) hr ?_
  repeat refine Rn.step rfl ?_
  exact Rn.ret rfl
end XC
