section BITS
/-- a number by its bits -/
def gb (x : Int32) (i : Nat) : Bool := x.toBitVec.getLsbD i
theorem gb_ext {x y : Int32} (h : ∀ i, i < 32 → gb x i = gb y i) : x = y := Int32.toBitVec_inj.mp (BitVec.eq_of_getLsbD_eq (fun i hi => h i hi))
theorem gb_or (x y : Int32) (i : Nat) : gb (x ||| y) i = (gb x i || gb y i) := by unfold gb; rw [Int32.toBitVec_or, BitVec.getLsbD_or]
theorem gb_and (x y : Int32) (i : Nat) : gb (x &&& y) i = (gb x i && gb y i) := by unfold gb; rw [Int32.toBitVec_and, BitVec.getLsbD_and]
theorem gb_xor (x y : Int32) (i : Nat) : gb (x ^^^ y) i = (gb x i ^^ gb y i) := by unfold gb; rw [Int32.toBitVec_xor, BitVec.getLsbD_xor]
theorem gb_m1 : ∀ i, i < 32 → gb (-1) i = true := by decide +kernel
theorem gb_0 (i : Nat) : gb 0 i = false := BitVec.getLsbD_zero
theorem gb_1 : ∀ i, i < 32 → gb 1 i = decide (i = 0) := by decide +kernel
theorem gb_sl : ∀ n, n < 32 → ((nI n &&& 31).toBitVec.smod 32).toNat = n := by decide +kernel
theorem gb_shl (n : Nat) (hn : n < 32) (x : Int32) {i : Nat} (hi : i < 32) : gb (x <<< (nI n &&& 31)) i = (decide (n ≤ i) && gb x (i - n)) := by
  unfold gb
  rw [Int32.toBitVec_shiftLeft]
  show (x.toBitVec <<< ((nI n &&& 31).toBitVec.smod 32).toNat).getLsbD i = _
  rw [gb_sl n hn, BitVec.getLsbD_shiftLeft]
  rcases Nat.lt_or_ge i n with h | h
  · simp [h, Nat.not_le.mpr h]
  · simp [hi, h, Nat.not_lt.mpr h]
theorem gb_shr (n : Nat) (hn : n < 32) (x : Int32) {i : Nat} (hi : i < 32) : gb (x >>> (nI n &&& 31)) i = if n + i < 32 then gb x (n + i) else gb x 31 := by
  unfold gb
  rw [Int32.toBitVec_shiftRight]
  show (x.toBitVec.sshiftRight ((nI n &&& 31).toBitVec.smod 32).toNat).getLsbD i = _
  rw [gb_sl n hn, BitVec.getLsbD_sshiftRight, BitVec.msb_eq_getLsbD_last]
  simp [hi]
theorem gb_sh1 {n i : Nat} (hn : n < 32) (hi : i < 32) : gb (sh1 (nI n)) i = decide (i = n) := by
  rw [gb_shl n hn 1 hi, gb_1 _ (by omega)]
  by_cases h : i = n
  · subst h; simp
  · by_cases h2 : n ≤ i
    · rw [decide_eq_false h, decide_eq_true h2, decide_eq_false (show ¬ i - n = 0 by omega)]; rfl
    · rw [decide_eq_false h, decide_eq_false h2]; rfl
theorem gb_not {x : Int32} {i : Nat} (hi : i < 32) : gb (x ^^^ -1) i = !gb x i := by rw [gb_xor, gb_m1 i hi]; cases gb x i <;> rfl
theorem bt_gb {x : Int32} {e : Nat} (he : e < 32) : bt x e ↔ gb x e = true := by
  have h0 : gb ((x >>> (nI e &&& 31)) &&& 1) 0 = gb x e := by
    rw [gb_and, gb_shr e he x (by decide), gb_1 0 (by decide), if_pos (by omega)]; simp
  constructor
  · intro h
    rw [← h0, show (x >>> (nI e &&& 31)) &&& 1 = 1 from h]; decide
  · intro h
    show (x >>> (nI e &&& 31)) &&& 1 = 1
    refine gb_ext (fun i hi => ?_)
    by_cases hi0 : i = 0
    · subst hi0; rw [h0, h]; decide
    · rw [gb_and, gb_1 i hi, decide_eq_false hi0]; simp
theorem b0_gb {x : Int32} {e : Nat} (he : e < 32) : b0 x e ↔ gb x e = false := by
  have h0 : gb ((x >>> (nI e &&& 31)) &&& 1) 0 = gb x e := by
    rw [gb_and, gb_shr e he x (by decide), gb_1 0 (by decide), if_pos (by omega)]; simp
  constructor
  · intro h
    rw [← h0, show (x >>> (nI e &&& 31)) &&& 1 = 0 from h]; decide
  · intro h
    show (x >>> (nI e &&& 31)) &&& 1 = 0
    refine gb_ext (fun i hi => ?_)
    by_cases hi0 : i = 0
    · subst hi0; rw [h0, h]; decide
    · rw [gb_and, gb_1 i hi, decide_eq_false hi0, gb_0]; simp
theorem b0_bt {x : Int32} {e : Nat} (he : e < 32) : b0 x e ↔ ¬ bt x e := by rw [b0_gb he, bt_gb he]; cases gb x e <;> simp
/-- bits gathered in a loop -/
theorem or_bits {P : Nat → Prop} [DecidablePred P] {sh : Nat → Nat} (hsh : ∀ i j, sh i = sh j → i = j) (hs : ∀ i, i < 24 → sh i < 32) : ∀ m, m ≤ 24 → ∀ e, e < 32 → (gb (lp (fun i b => if P i then b ||| sh1 (nI (sh i)) else b) 0 m 0) e = true ↔ ∃ i, i < m ∧ P i ∧ sh i = e) := by
  intro m
  induction m with
  | zero =>
    intro _ e _
    show gb 0 e = true ↔ _
    rw [gb_0]
    simp
  | succ m ih =>
    intro hm e he
    rw [lp_end, Nat.zero_add]
    by_cases hP : P m
    · rw [if_pos hP, gb_or, gb_sh1 (hs m (by omega)) he, Bool.or_eq_true, ih (by omega) e he, decide_eq_true_eq]
      constructor
      · rintro (⟨i, hi, hp, h⟩ | h)
        · exact ⟨i, by omega, hp, h⟩
        · exact ⟨m, by omega, hP, h.symm⟩
      · rintro ⟨i, hi, hp, h⟩
        by_cases him : i = m
        · subst him; exact Or.inr h.symm
        · exact Or.inl ⟨i, by omega, hp, h⟩
    · rw [if_neg hP, ih (by omega) e he]
      constructor
      · rintro ⟨i, hi, hp, h⟩; exact ⟨i, by omega, hp, h⟩
      · rintro ⟨i, hi, hp, h⟩
        by_cases him : i = m
        · subst him; exact absurd hp hP
        · exact ⟨i, by omega, hp, h⟩
end BITS
