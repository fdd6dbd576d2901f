section XD
variable {E : iExtT} {a : Nat → Nat → Int32} {v : Nat → Int32} {t : Nat → Nat → Int64} {r : List va_E}
/-- as eqS, but that outcomes may be found -/
def eqO (a : Nat → Nat → Int32) (v : Nat → Int32) (a' : Nat → Nat → Int32) (v' : Nat → Int32) : Prop := (∀ k, k ∉ [28, 29, 30, 32, 33, 34, 35, 36, 37] → a' k = a k) ∧ ∀ k, k ∉ [2, 3, 9, 10] → v' k = v k
theorem eqO.rf : eqO a v a v := ⟨fun _ _ => rfl, fun _ _ => rfl⟩
theorem eqO.trans {a' a'' : Nat → Nat → Int32} {v' v'' : Nat → Int32} (h1 : eqO a v a' v') (h2 : eqO a' v' a'' v'') : eqO a v a'' v'' := ⟨fun k hk => (h2.1 k hk).trans (h1.1 k hk), fun k hk => (h2.2 k hk).trans (h1.2 k hk)⟩
theorem eqS.eqO {a' : Nat → Nat → Int32} {v' : Nat → Int32} (h : eqS a v a' v') : eqO a v a' v' := ⟨fun k hk => h.1 k (fun q => hk (by simp only [List.mem_cons, List.not_mem_nil, or_false] at q ⊢; omega)), h.2⟩
theorem eqO.eqT {a' : Nat → Nat → Int32} {v' : Nat → Int32} (h : eqO a v a' v') : eqT a v a' v' := by
  refine ⟨fun k hk => h.1 k ?_, fun k hk => h.2 k ?_⟩
  · intro q
    simp only [List.mem_cons, List.not_mem_nil, or_false] at hk q
    omega
  · intro q
    simp only [List.mem_cons, List.not_mem_nil, or_false] at hk q
    omega
theorem ocF_of {mn : Nat → Nat} {k n : Nat} {kda nu sl fe de ta st : Nat → Int32} {kp : Int32} {a4 : Nat → Nat → Int32} (hH : HdS a4 n (crn kda nu mn k n sl de ta st (cwl kda nu mn k fe kp) kp)) : obF (a4 32) n = ocF kda nu mn k n sl fe de ta st kp := obF_congr (fun l hl => (hH 23 l (by decide) hl).1)
theorem r_outcome {n k q : Nat} {mn sm : Nat → Nat} (hW : WfX a v n k q mn sm) (h1 : v 1 = 1) (hV : ValX a mn k n) {j : Nat} (hj : j < 256) : ∃ (a' : Nat → Nat → Int32) (v' : Nat → Int32), Rn E 2 mX7_outcome (0, [(0, .ref 0), (1, .int (nI j))], [], wX a v t r) (some (.int (oC a mn k n (nI j))), wX a' v' t r) ∧ eqO a v a' v' ∧ ValX a' mn k n := by
  obtain ⟨⟨hn, hv4⟩, ⟨hk, hv5, hmn⟩, -⟩ := id hW
  by_cases hu : a 37 j = -1
  · obtain ⟨a2, hr2, hs2, hw2⟩ := r_oPour (E := E) (a := a) (v := v) (t := t) (r := r) (nI j) (F := 5) (Or.inl rfl) hk hv5 hmn
    obtain ⟨a4, v4, hr4, hs4, -, -, hH⟩ := r_oRun (E := E) (a := a2) (v := v) (t := t) (r := r) (W := 27) (Or.inr rfl) (nI j) hn hv4 hk hv5 (mn := mn) (by rw [hs2.1 11 (by decide)]; exact hmn) (wl := cwl (a 10) (a 12) mn k (a 5) (nI j)) hw2
    rw [hs2.1 10 (by decide), hs2.1 12 (by decide), hs2.1 4 (by decide), hs2.1 7 (by decide), hs2.1 8 (by decide), hs2.1 6 (by decide)] at hH
    have hO := ocF_of hH
    have hs := hs2.trans hs4
    have hv44 : v4 4 = nI n := (hs.2 4 (by decide)).trans hv4
    have e37 : a4 37 = a 37 := hs.1 37 (by decide)
    obtain ⟨a5, ha5⟩ : ∃ a5, a5 = va_up a4 37 (upd (a 37) j (oC a mn k n (nI j))) := ⟨_, rfl⟩
    have hB : ∀ i, i ∉ [28, 29, 30, 32, 33, 34, 35, 36, 37] → a5 i = a i := fun i hi => by
      have hne : i ≠ 37 := fun q => hi (by rw [q]; decide)
      rw [ha5]
      show (if i = 37 then _ else a4 i) = a i
      rw [if_neg hne]
      exact hs.eqO.1 i hi
    have hq : eqO a v a5 v4 := ⟨hB, hs.2⟩
    have e5 : a5 37 = upd (a 37) j (oC a mn k n (nI j)) := by rw [ha5]; rfl
    refine ⟨a5, v4, ?_, hq, ?_⟩
    · repeat refine Rn.step rfl ?_
      refine Rn.calli rfl rfl rfl (by decide) (r_within (nI j) (nI 256) _) (fun z1 f1 => ?_)
      refine Rn.br1 rfl (by rw [f1, ib_ne0]; exact inB_nI hj (by decide)) ?_
      repeat refine Rn.step rfl ?_
      refine Rn.ald j rfl rfl hj (by decide) ?_
      repeat refine Rn.step rfl ?_
      refine Rn.br2 rfl (fun q => q hu) ?_
      repeat refine Rn.step rfl ?_
      refine Rn.callv rfl rfl rfl (by decide) hr2 ?_
      repeat refine Rn.step rfl ?_
      refine Rn.callv rfl rfl rfl (by decide) hr4 ?_
      repeat refine Rn.step rfl ?_
      refine Rn.calli rfl rfl rfl (by decide) (r_outBits2 hn hv44) (fun z2 f2 => ?_)
      rw [hO] at f2
      subst f2
      refine Rn.ast j rfl rfl hj (by decide) (h3 := wX a5 v4 t r) (by rw [e37, ha5]; rfl) ?_
      repeat refine Rn.step rfl ?_
      refine Rn.ald j rfl rfl hj (by decide) ?_
      refine Rn.top (x' := oC a mn k n (nI j)) (by rw [e5]; exact pk_us) ?_
      exact Rn.ret rfl
    · refine ValX_mk hq.eqT (fun i hi => ?_) (fun i l hi hl => ?_) (fun i hi => ?_)
      · rw [hB 19 (by decide)]; exact hV.1 i hi
      · rw [hB 23 (by decide), hB 24 (by decide)]; exact hV.2.1 i l hi hl
      · rw [e5]
        by_cases hx : i = j
        · subst hx; exact Or.inr pk_us
        · rw [pk_un hx]; exact hV.2.2 i hi
  · refine ⟨a, v, ?_, eqO.rf, hV⟩
    have e := (hV.2.2 j hj).resolve_left hu
    repeat refine Rn.step rfl ?_
    refine Rn.calli rfl rfl rfl (by decide) (r_within (nI j) (nI 256) _) (fun z1 f1 => ?_)
    refine Rn.br1 rfl (by rw [f1, ib_ne0]; exact inB_nI hj (by decide)) ?_
    repeat refine Rn.step rfl ?_
    refine Rn.ald j rfl rfl hj (by decide) ?_
    repeat refine Rn.step rfl ?_
    refine Rn.br1 rfl hu ?_
    repeat refine Rn.step rfl ?_
    refine Rn.ald j rfl rfl hj (by decide) ?_
    refine Rn.top e ?_
    exact Rn.ret rfl
theorem evB_nI : ∀ k, k < 9 → evB k = nI (2 ^ k - 1) := by decide
theorem ev1_nI : ∀ k, k < 9 → ∀ x, x < k → evB k &&& (sh1 (nI x) ^^^ -1) = nI (2 ^ k - 1 - 2 ^ x) := by decide
theorem ev2_nI : ∀ k, k < 9 → ∀ x, x < k → ∀ y, y < k → x < y → evB k &&& ((sh1 (nI x) ||| sh1 (nI y)) ^^^ -1) = nI (2 ^ k - 1 - 2 ^ x - 2 ^ y) := by decide
theorem ev_lt : ∀ k, k < 9 → 2 ^ k - 1 < 256 := by decide
/-- SPARE's search: the events that had better not be, as bits, or -1 -/
def sp1 (oc : Int32 → Int32) (k : Nat) (w : Int32) : Nat → Nat → Option Int32
  | _, 0 => none
  | i, j + 1 => if oc (evB k &&& (sh1 (nI i) ^^^ -1)) = w then some (sh1 (nI i)) else sp1 oc k w (i + 1) j
def sp2 (oc : Int32 → Int32) (k : Nat) (w : Int32) (x : Nat) : Nat → Nat → Option Int32
  | _, 0 => none
  | i, j + 1 => if oc (evB k &&& ((sh1 (nI x) ||| sh1 (nI i)) ^^^ -1)) = w then some (sh1 (nI x) ||| sh1 (nI i)) else sp2 oc k w x (i + 1) j
def sp3 (oc : Int32 → Int32) (k : Nat) (w : Int32) : Nat → Nat → Option Int32
  | _, 0 => none
  | i, j + 1 => match sp2 oc k w i (i + 1) (k - (i + 1)) with
    | some b => some b
    | none => sp3 oc k w (i + 1) j
def spE (oc : Int32 → Int32) (k : Nat) (w : Int32) : Int32 := if oc (evB k) = w then 0 else match sp1 oc k w 0 k with
  | some b => b
  | none => match sp3 oc k w 0 k with
    | some b => b
    | none => -1
/-- what a method may have found out on its way: the answers stay, outcomes are so -/
def StX (a : Nat → Nat → Int32) (v : Nat → Int32) (mn : Nat → Nat) (k n : Nat) (s : (Nat → Nat → Int32) × (Nat → Int32)) : Prop := eqO a v s.1 s.2 ∧ ValX s.1 mn k n
end XD
