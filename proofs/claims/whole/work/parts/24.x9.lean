section X9
variable {E : iExtT} {a : Nat → Nat → Int32} {v : Nat → Int32} {t : Nat → Nat → Int64} {r : List va_E}
/-- what is told stays -/
def eqT (a : Nat → Nat → Int32) (v : Nat → Int32) (a' : Nat → Nat → Int32) (v' : Nat → Int32) : Prop := (∀ k ∈ [2, 4, 5, 6, 7, 8, 10, 11, 12, 14, 15, 16, 40, 42, 44, 46, 48, 50, 52], a' k = a k) ∧ ∀ k ∈ [0, 4, 5, 6, 11, 12, 13, 14, 15, 16, 17, 18, 19, 20, 21], v' k = v k
theorem eqT.rf : eqT a v a v := ⟨fun _ _ => rfl, fun _ _ => rfl⟩
theorem eqT.trans {a' a'' : Nat → Nat → Int32} {v' v'' : Nat → Int32} (h1 : eqT a v a' v') (h2 : eqT a' v' a'' v'') : eqT a v a'' v'' := ⟨fun k hk => (h2.1 k hk).trans (h1.1 k hk), fun k hk => (h2.2 k hk).trans (h1.2 k hk)⟩
def WfX (a : Nat → Nat → Int32) (v : Nat → Int32) (n k q : Nat) (mn sm : Nat → Nat) : Prop := (n ≤ 8 ∧ v 4 = nI n) ∧ (k ≤ 8 ∧ v 5 = nI k ∧ ∀ e, e < k → a 11 e = nI (mn e) ∧ mn e < 24) ∧ (q ≤ 8 ∧ v 6 = nI q ∧ ∀ i, i < q → a 14 i = nI (sm i) ∧ sm i < 24)
theorem WfX.moved {a' : Nat → Nat → Int32} {v' : Nat → Int32} {n k q : Nat} {mn sm : Nat → Nat} (h : WfX a v n k q mn sm) (he : eqT a v a' v') : WfX a' v' n k q mn sm := by
  obtain ⟨⟨h1, h2⟩, ⟨h3, h4, h5⟩, h6, h7, h8⟩ := h
  refine ⟨⟨h1, by rw [he.2 4 (by decide)]; exact h2⟩, ⟨h3, by rw [he.2 5 (by decide)]; exact h4, by rw [he.1 11 (by decide)]; exact h5⟩, h6, by rw [he.2 6 (by decide)]; exact h7, by rw [he.1 14 (by decide)]; exact h8⟩
abbrev z0 : Nat → Int32 := fun _ => 0
def cmk (kda nu : Nat → Int32) (mn : Nat → Nat) (k : Nat) (kd kp : Int32) : Nat → Int32 := mkA kda mn nu k kd kp z0
def evB (k : Nat) : Int32 := sh1 (nI k) - 1
def cwl (kda nu : Nat → Int32) (mn : Nat → Nat) (k : Nat) (fe : Nat → Int32) (kp : Int32) : Nat → Int32 := wlA fe (cmk kda nu mn k 1 kp) (cmk kda nu mn k 2 kp) z0
def crn (kda nu : Nat → Int32) (mn : Nat → Nat) (k n : Nat) (sl de ta st wl : Nat → Int32) (kp : Int32) : dS := rnF n sl de ta st wl (cmk kda nu mn k 0 kp) (z0, z0, z0, 0, sh1 (nI n) - 1)
/-- who is out if only the events kp are -/
def ocF (kda nu : Nat → Int32) (mn : Nat → Nat) (k n : Nat) (sl fe de ta st : Nat → Int32) (kp : Int32) : Int32 := obF (crn kda nu mn k n sl de ta st (cwl kda nu mn k fe kp) kp).1 n
/-- the water and the drive as told -/
abbrev cW (a : Nat → Nat → Int32) (mn : Nat → Nat) (k : Nat) : Nat → Int32 := cwl (a 10) (a 12) mn k (a 5) (evB k)
abbrev cDr (a : Nat → Nat → Int32) (mn : Nat → Nat) (k n : Nat) : dS := crn (a 10) (a 12) mn k n (a 4) (a 7) (a 8) (a 6) (cwl (a 10) (a 12) mn k (a 5) (evB k)) (evB k)
abbrev oC (a : Nat → Nat → Int32) (mn : Nat → Nat) (k n : Nat) (kp : Int32) : Int32 := ocF (a 10) (a 12) mn k n (a 4) (a 5) (a 7) (a 8) (a 6) kp
/-- what is settled, is so -/
def ValX (a : Nat → Nat → Int32) (mn : Nat → Nat) (k n : Nat) : Prop := (∀ j, j < 384 → a 19 j = cW a mn k j) ∧ (∀ i l, i < 24 → l < n → a 23 (i * 8 + l) = (cDr a mn k n).1 (i * 8 + l) ∧ a 24 (i * 8 + l) = (cDr a mn k n).2.1 (i * 8 + l)) ∧ ∀ j, j < 256 → a 37 j = -1 ∨ a 37 j = oC a mn k n (nI j)
theorem cW_eq {a' : Nat → Nat → Int32} {v' : Nat → Int32} (he : eqT a v a' v') (mn : Nat → Nat) (k : Nat) : cW a' mn k = cW a mn k := by
  unfold cW
  rw [he.1 10 (by decide), he.1 12 (by decide), he.1 5 (by decide)]
theorem cDr_eq {a' : Nat → Nat → Int32} {v' : Nat → Int32} (he : eqT a v a' v') (mn : Nat → Nat) (k n : Nat) : cDr a' mn k n = cDr a mn k n := by
  unfold cDr
  rw [he.1 10 (by decide), he.1 12 (by decide), he.1 5 (by decide), he.1 4 (by decide), he.1 7 (by decide), he.1 8 (by decide), he.1 6 (by decide)]
theorem oC_eq {a' : Nat → Nat → Int32} {v' : Nat → Int32} (he : eqT a v a' v') (mn : Nat → Nat) (k n : Nat) : oC a' mn k n = oC a mn k n := by
  unfold oC
  rw [he.1 10 (by decide), he.1 12 (by decide), he.1 5 (by decide), he.1 4 (by decide), he.1 7 (by decide), he.1 8 (by decide), he.1 6 (by decide)]
theorem ValX_mk {a' : Nat → Nat → Int32} {v' : Nat → Int32} {mn : Nat → Nat} {k n : Nat} (he : eqT a v a' v') (h1 : ∀ j, j < 384 → a' 19 j = cW a mn k j) (h2 : ∀ i l, i < 24 → l < n → a' 23 (i * 8 + l) = (cDr a mn k n).1 (i * 8 + l) ∧ a' 24 (i * 8 + l) = (cDr a mn k n).2.1 (i * 8 + l)) (h3 : ∀ j, j < 256 → a' 37 j = -1 ∨ a' 37 j = oC a mn k n (nI j)) : ValX a' mn k n := by
  unfold ValX
  rw [cW_eq he, cDr_eq he, oC_eq he]
  exact ⟨h1, h2, h3⟩
def SetX (a : Nat → Nat → Int32) (v : Nat → Int32) (mn : Nat → Nat) (k n : Nat) : Prop := v 1 = 0 ∨ (v 1 = 1 ∧ ValX a mn k n)
theorem neg_row (f : Nat → Int32) {m : Nat} (hm : m < 256) : lp (fun m g => upd g m (-1)) 0 256 f m = -1 := by
  have h := lp_inv (f := fun m g => upd g m (-1)) (fun i g => ∀ m, m < i → g m = -1) (i := 0) (j := 256) (s := f) (fun m h => absurd h (Nat.not_lt_zero _)) (fun k g _ _ hI m hm => by
    by_cases hx : m = k
    · subst hx; exact pk_us
    · rw [pk_un hx]; exact hI m (by omega))
  exact h m (by omega)
theorem dRel0 {n : Nat} {x y : dS} (h3 : x.2.2.2.1 = 0) (h3' : y.2.2.2.1 = 0) (h4 : x.2.2.2.2 = y.2.2.2.2) : dRel n 0 x y := ⟨fun i l hi => absurd hi (Nat.not_lt_zero _), fun i hi => absurd hi (by omega), h3.trans h3'.symm, h4⟩
theorem lnOk0 {n : Nat} {x : dS} (h3 : x.2.2.2.1 = 0) : lnOk n x := ⟨by omega, fun i hi => absurd hi (by omega)⟩
/-- a drive's rows don't hang on what stood there; water that agrees -/
theorem crn_of {mn : Nat → Nat} {k n : Nat} (hn : n ≤ 8) (hmn : ∀ e, e < k → mn e < 24) {sl de ta st wl wl' : Nat → Int32} {kda nu : Nat → Int32} {kp : Int32} (hwl : ∀ j, j < 384 → wl j = wl' j) (P : Nat → Int32) (H S LN : Nat → Int32) (b : Int32) : dRel n 24 (rnF n sl de ta st wl (mkA kda mn nu k 0 kp P) (H, S, LN, 0, b)) (rnF n sl de ta st wl' (mkA kda mn nu k 0 kp z0) (z0, z0, z0, 0, b)) :=
  rn_rel hn ⟨fun _ _ => rfl, fun _ _ => ⟨rfl, rfl, rfl⟩, hwl, fun m hm => mk_ind _ _ hm hmn⟩ (lnOk0 rfl) (dRel0 rfl rfl rfl)
theorem cwl_of {mn : Nat → Nat} {k : Nat} (hmn : ∀ e, e < k → mn e < 24) {fe kda nu : Nat → Int32} {kp : Int32} (P Q F : Nat → Int32) {j : Nat} (hj : j < 384) : wlA fe (mkA kda mn nu k 1 kp P) (mkA kda mn nu k 2 kp Q) F j = wlA fe (mkA kda mn nu k 1 kp z0) (mkA kda mn nu k 2 kp z0) z0 j :=
  wl_ind _ _ (fun _ _ => rfl) (fun m hm => mk_ind _ _ hm hmn) (fun m hm => mk_ind _ _ hm hmn) hj
theorem r_settle {n k q : Nat} {mn sm : Nat → Nat} (hW : WfX a v n k q mn sm) (hS : SetX a v mn k n) : ∃ (a' : Nat → Nat → Int32) (v' : Nat → Int32), Rn E 2 mX7_settle (0, [(0, .ref 0)], [], wX a v t r) (none, wX a' v' t r) ∧ eqT a v a' v' ∧ v' 1 = 1 ∧ ValX a' mn k n := by
  rcases hS with h0 | ⟨h1, hV⟩
  · obtain ⟨⟨hn, hv4⟩, ⟨hk, hv5, hmn⟩, -⟩ := hW
    have hmn' : ∀ e, e < k → mn e < 24 := fun e he => (hmn e he).2
    have eB : sh1 (v 5) - 1 = evB k := by rw [hv5]; rfl
    obtain ⟨SH, hSH⟩ : ∃ f, f = mkA (a 10) mn (a 12) k 1 (evB k) (a 20) := ⟨_, rfl⟩
    obtain ⟨BU, hBU⟩ : ∃ f, f = mkA (a 10) mn (a 12) k 2 (evB k) (a 21) := ⟨_, rfl⟩
    obtain ⟨WL, hWL⟩ : ∃ f, f = wlA (a 5) SH BU (a 19) := ⟨_, rfl⟩
    obtain ⟨PO, hPO⟩ : ∃ f, f = mkA (a 10) mn (a 12) k 0 (evB k) (a 25) := ⟨_, rfl⟩
    obtain ⟨x, hx⟩ : ∃ x : dS, x = rnF n (a 4) (a 7) (a 8) (a 6) WL PO (a 23, a 24, a 26, 0, sh1 (v 4) - 1) := ⟨_, rfl⟩
    obtain ⟨OC, hOC⟩ : ∃ f, f = lp (fun m g => upd g m (-1)) 0 256 (a 37) := ⟨_, rfl⟩
    have eWL : ∀ j, j < 384 → WL j = cW a mn k j := fun j hj => by
      rw [hWL, hSH, hBU]; exact cwl_of hmn' _ _ _ hj
    have hR : dRel n 24 x (cDr a mn k n) := by
      rw [hx, hPO]
      have e4 : sh1 (v 4) - 1 = sh1 (nI n) - 1 := by rw [hv4]
      rw [e4]
      exact crn_of hn hmn' eWL _ _ _ _ _
    obtain ⟨a', ha'⟩ : ∃ a' : Nat → Nat → Int32, a' = va_up (va_up (va_up (va_up (va_up (va_up (va_up (va_up a 20 SH) 21 BU) 19 WL) 25 PO) 23 x.1) 24 x.2.1) 26 x.2.2.1) 37 OC := ⟨_, rfl⟩
    have he : eqT a v a' (upd (upd (upd v 7 (nI x.2.2.2.1)) 8 x.2.2.2.2) 1 1) := by
      subst ha'
      refine ⟨fun k hk => ?_, fun k hk => ?_⟩
      · simp only [List.mem_cons, List.not_mem_nil, or_false] at hk
        rcases hk with rfl | rfl | rfl | rfl | rfl | rfl | rfl | rfl | rfl | rfl | rfl | rfl | rfl | rfl | rfl | rfl | rfl | rfl | rfl <;> rfl
      · simp only [List.mem_cons, List.not_mem_nil, or_false] at hk
        rcases hk with rfl | rfl | rfl | rfl | rfl | rfl | rfl | rfl | rfl | rfl | rfl | rfl | rfl | rfl | rfl <;> rfl
    have e19 : a' 19 = WL := by subst ha'; rfl
    have e23 : a' 23 = x.1 := by subst ha'; rfl
    have e24 : a' 24 = x.2.1 := by subst ha'; rfl
    have e37 : a' 37 = OC := by subst ha'; rfl
    refine ⟨a', upd (upd (upd v 7 (nI x.2.2.2.1)) 8 x.2.2.2.2) 1 1, ?_, he, rfl, ValX_mk he (by rw [e19]; exact eWL) (by rw [e23, e24]; exact hR.1) (by rw [e37, hOC]; exact fun j hj => Or.inl (neg_row _ hj))⟩
    · subst ha'
      repeat refine Rn.step rfl ?_
      refine Rn.br1 rfl h0 ?_
      repeat refine Rn.step rfl ?_
      refine Rn.calli rfl rfl rfl (by decide) r_bits (fun x1 e1 => ?_)
      rw [eB] at e1
      subst e1
      refine Rn.callv rfl rfl rfl (by decide) (r_pour1 (evB k) hk hv5 hmn hSH hBU) ?_
      rw [← hWL]
      repeat refine Rn.step rfl ?_
      refine Rn.calli rfl rfl rfl (by decide) r_bits (fun x2 e2 => ?_)
      rw [eB] at e2
      subst e2
      refine Rn.callv rfl rfl rfl (by decide) (r_run1 (a := va_up (va_up (va_up a 20 SH) 21 BU) 19 WL) (evB k) hn hv4 hk hv5 hmn (PO := PO) hPO (XF := x) hx) ?_
      refine Rn.hp (h2 := wX (va_up (va_up (va_up (va_up (va_up (va_up (va_up a 20 SH) 21 BU) 19 WL) 25 PO) 23 x.1) 24 x.2.1) 26 x.2.2.1) (upd (upd v 7 (nI x.2.2.2.1)) 8 x.2.2.2.2) t r) rfl ?_
      iterate 2 refine Rn.step rfl ?_
      refine Rn.lp (σ := Nat → Int32) (cfg := fun i g => (61, [(1, .int (nI i)), (0, .ref 0)], [], wX (va_up (va_up (va_up (va_up (va_up (va_up (va_up (va_up a 20 SH) 21 BU) 19 WL) 25 PO) 23 x.1) 24 x.2.1) 26 x.2.2.1) 37 g) (upd (upd v 7 (nI x.2.2.2.1)) 8 x.2.2.2.2) t r)) (f := fun m g => upd g m (-1)) (n := 256) (fun _ _ => True) (fun i g hi _ => ⟨trivial, fun k => ?_⟩) 256 0 (a 37) rfl trivial (fun g0 hg0 _ => ?_)
      · rw [nI_succ] at k
        repeat refine Rn.step rfl ?_
        refine Rn.br2 rfl (nle hi (by decide)) ?_
        repeat refine Rn.step rfl ?_
        refine Rn.ast i rfl rfl hi (by decide) (h3 := wX (va_up (va_up (va_up (va_up (va_up (va_up (va_up (va_up a 20 SH) 21 BU) 19 WL) 25 PO) 23 x.1) 24 x.2.1) 26 x.2.2.1) 37 (upd g i (-1))) (upd (upd v 7 (nI x.2.2.2.1)) 8 x.2.2.2.2) t r) rfl ?_
        iterate 2 refine Rn.step rfl ?_
        exact k
      · rw [hg0, ← hOC]
        repeat refine Rn.step rfl ?_
        exact Rn.ret rfl
  · refine ⟨a, v, ?_, eqT.rf, h1, hV⟩
    repeat refine Rn.step rfl ?_
    refine Rn.br2 rfl (by rw [h1]; decide) ?_
    exact Rn.ret rfl
end X9
