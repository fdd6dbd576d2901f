section MEX
variable {E : iExtT} {ax : Nat → Nat → Int32} {vx : Nat → Int32} {tx : Nat → Nat → Int64} {c a : Nat → Nat → Int32} {v : Nat → Int32} {t : Nat → Nat → Int64} {n k q : Nat} {mn sm tt : Nat → Nat}
theorem m_draughtsOf (hC : MC c a v n k q mn sm tt) (h33 : v 33 = 0) {l : Nat} (hl : l < n) : ∃ (a' : Nat → Nat → Int32) (T : Nat → Int64), Rn E 8 mX8_draughtsOf (0, [(0, .ref 53), (1, .int (nI l))], [], wY ax vx tx a v t) (some (.int (dgB c n k q mn sm l 9)), wY ax vx tx a' v (va_up t 1 T)) ∧ (∀ j, j ∉ rowsM → a' j = a j) ∧ MC c a' v n k q mn sm tt ∧ ∀ d, d < 9 → ∀ i, i < 24 → T (24 * (d + 1) + i) = roF (dgX c n k mn l (d + 1)).1 n i := by
  obtain ⟨⟨hn, -⟩, ⟨hk, hv2⟩, -, -, -, -, -, h62, -⟩ := id hC
  have hstep : ∀ (m : Nat) (w : ((Nat → Nat → Int32) × (Nat → Int64)) × Int32), m < 9 → (((∃ y, MC (va_up c 7 (upd (c 7) l y)) w.1.1 v n k q mn sm tt) ∧ ∀ j, j ∉ rowsM → w.1.1 j = a j) ∧ w.2 = dgB c n k q mn sm l m ∧ ∀ d, d < m → ∀ i, i < 24 → w.1.2 (24 * (d + 1) + i) = roF (dgX c n k mn l (d + 1)).1 n i) → ∃ w' : ((Nat → Nat → Int32) × (Nat → Int64)) × Int32, (((∃ y, MC (va_up c 7 (upd (c 7) l y)) w'.1.1 v n k q mn sm tt) ∧ ∀ j, j ∉ rowsM → w'.1.1 j = a j) ∧ w'.2 = dgB c n k q mn sm l (m + 1) ∧ ∀ d, d < m + 1 → ∀ i, i < 24 → w'.1.2 (24 * (d + 1) + i) = roF (dgX c n k mn l (d + 1)).1 n i) ∧ ∀ o, Rn E 8 mX8_draughtsOf (16, [(4, .int (nI ((m + 1) + 1))), (3, .int w'.2), (2, .int (c 7 l)), (0, .ref 53), (1, .int (nI l))], [], wY ax vx tx w'.1.1 v (va_up t 1 w'.1.2)) o → Rn E 8 mX8_draughtsOf (16, [(4, .int (nI (m + 1))), (3, .int w.2), (2, .int (c 7 l)), (0, .ref 53), (1, .int (nI l))], [], wY ax vx tx w.1.1 v (va_up t 1 w.1.2)) o := by
    rintro m ⟨⟨a1, T⟩, b⟩ hm ⟨⟨⟨y, hI⟩, hf⟩, hb, hT⟩
    dsimp only at hI hf hb hT
    have hI2 := hI.de hl (nI (m + 1))
    have e7 : (va_up c 7 (upd (c 7) l y)) 7 = upd (c 7) l y := rfl
    rw [e7, va_two, upd_upd] at hI2
    obtain ⟨a2, hr, hf2, hC2, hL2⟩ := m_isSeen (E := E) (ax := ax) (vx := vx) (tx := tx) (t := va_up t 1 T) hI2 (kp := evB k) (fun e he => by rw [h33]; exact ev_all k (by omega) e he)
    obtain ⟨DX, hDX⟩ : ∃ DX, DX = dgX c n k mn l (m + 1) := ⟨_, rfl⟩
    have hr : Rn E 7 mX8_isSeen (0, [(0, .ref 53)], [], wY ax vx tx (va_up a1 62 (upd (a1 62) (3 * l + 1) (nI (m + 1)))) v (va_up t 1 T)) (some (.int (ib (ftX c n q sm DX = true))), wY ax vx tx a2 v (va_up t 1 T)) := by rw [hDX]; exact hr
    have hro : ∀ (T' : Nat → Int64) (i : Nat), i < 24 → Rn E 0 mX8_rowOf (0, [(0, .ref 53), (1, .int (nI i))], [], wY ax vx tx a2 v (va_up t 1 T')) (some (.long (roF DX.1 n i)), wY ax vx tx a2 v (va_up t 1 T')) := fun T' i hi => by
      rw [hDX]; exact m_rowOf (E := E) (ax := ax) (vx := vx) (tx := tx) hC2 hL2 hi
    refine ⟨((a2, lp (fun i (T : Nat → Int64) => vp_updL T (24 * (m + 1) + i) (roF DX.1 n i)) 0 24 T), if ftX c n q sm DX = true then b ||| sh1 (nI (m + 1)) else b), ⟨⟨⟨nI (m + 1), hC2⟩, fun j hj => ?_⟩, ?_, fun d hd i hi => ?_⟩, fun o kk => ?_⟩
    · show a2 j = a j
      rw [hf2 j (by intro q; apply hj; simp only [List.mem_cons, List.not_mem_nil, or_false] at q ⊢; omega), up_out (by intro q; apply hj; simp only [List.mem_cons, List.not_mem_nil, or_false]; omega)]
      exact hf j hj
    · show (if ftX c n q sm DX = true then b ||| sh1 (nI (m + 1)) else b) = dgB c n k q mn sm l (m + 1)
      unfold dgB at hb ⊢
      rw [lp_end, ← hb, Nat.zero_add, hDX]
    · have h := lp_inv (f := fun i (T : Nat → Int64) => vp_updL T (24 * (m + 1) + i) (roF DX.1 n i)) (fun z T' => (∀ i, i < z → T' (24 * (m + 1) + i) = roF DX.1 n i) ∧ ∀ j, j < 24 * (m + 1) → T' j = T j) (i := 0) (j := 24) (s := T) ⟨fun i h => absurd h (Nat.not_lt_zero _), fun _ _ => rfl⟩ (fun z T' _ _ hJ => by
        refine ⟨fun i hi => ?_, fun j hj => ?_⟩
        · by_cases hx : i = z
          · subst hx; exact pk_uLs
          · rw [pk_uLn (by omega)]; exact hJ.1 i (by omega)
        · rw [pk_uLn (by omega)]; exact hJ.2 j hj)
      dsimp only
      by_cases hx : d = m
      · subst hx; rw [h.1 i (by omega), hDX]
      · rw [h.2 _ (by omega)]; exact hT d (by omega) i hi
    · dsimp only at kk ⊢
      rw [nI_succ (m + 1)] at kk
      revert kk
      generalize hb2 : (if ftX c n q sm DX = true then b ||| sh1 (nI (m + 1)) else b) = b2
      intro kk
      have h53 : Rn E 8 mX8_draughtsOf (53, [(3, .int b2), (4, .int (nI (m + 1))), (2, .int (c 7 l)), (0, .ref 53), (1, .int (nI l))], [], wY ax vx tx a2 v (va_up t 1 T)) o := by
        iterate 2 refine Rn.step rfl ?_
        refine Rn.lp (σ := Nat → Int64) (cfg := fun i T => (56, [(5, .int (nI i)), (3, .int b2), (4, .int (nI (m + 1))), (2, .int (c 7 l)), (0, .ref 53), (1, .int (nI l))], [], wY ax vx tx a2 v (va_up t 1 T))) (f := fun i T => vp_updL T (24 * (m + 1) + i) (roF DX.1 n i)) (n := 24) (fun _ _ => True) (fun i T hi _ => ⟨trivial, fun k2 => ?_⟩) 24 0 T rfl trivial (fun T1 hT1 _ => ?_)
        · rw [nI_succ] at k2
          iterate 2 refine Rn.step rfl ?_
          refine Rn.br2 rfl (nle hi (by decide)) ?_
          iterate 9 refine Rn.step rfl ?_
          refine Rn.calll rfl rfl rfl (by decide) (hro T i hi) (fun z f => ?_)
          rw [f]
          refine Rn.asl (24 * (m + 1) + i) rfl (ix_am 24 (m + 1) i) (by omega) (by decide) (h3 := wY ax vx tx a2 v (va_up t 1 (vp_updL T (24 * (m + 1) + i) (roF DX.1 n i)))) rfl ?_
          iterate 2 refine Rn.step rfl ?_
          exact k2
        · rw [← hT1] at kk
          iterate 2 refine Rn.step rfl ?_
          refine Rn.step rfl ?_
          iterate 2 refine Rn.step rfl ?_
          exact Rn.sub (by exact ⟨rfl, rfl, rfl, rfl, rfl, trivial⟩) kk
      iterate 2 refine Rn.step rfl ?_
      refine Rn.br2 rfl (nle (n := 10) (i := m + 1) (by omega) (by decide)) ?_
      iterate 8 refine Rn.step rfl ?_
      refine Rn.ast (3 * l + 1) rfl (ix_am 3 l 1) (by omega) (by decide) (h3 := wY ax vx tx (va_up a1 62 (upd (a1 62) (3 * l + 1) (nI (m + 1)))) v (va_up t 1 T)) rfl ?_
      iterate 2 refine Rn.step rfl ?_
      refine Rn.calli rfl rfl rfl (by decide) hr (fun z f => ?_)
      refine Rn.br rfl (fun h1 => ?_) (fun h1 => ?_)
      · rw [f, ib_eq0] at h1
        rw [if_neg h1] at hb2
        iterate 2 refine Rn.step rfl ?_
        refine Rn.top (x' := b2) (by rw [← hb2]; show b ||| 0 = b; simp) ?_
        iterate 1 refine Rn.step rfl ?_
        exact h53
      · rw [f, ib_ne0] at h1
        rw [if_pos h1] at hb2
        iterate 5 refine Rn.step rfl ?_
        refine Rn.top (x' := b2) hb2 ?_
        iterate 1 refine Rn.step rfl ?_
        exact h53
  obtain ⟨⟨⟨a1, T⟩, b⟩, ⟨⟨⟨y, hI⟩, hf⟩, hb, hT⟩, hgo⟩ := Rn.lpx (E := E) (hh := 8) (M := mX8_draughtsOf) (σ := ((Nat → Nat → Int32) × (Nat → Int64)) × Int32) (cfg := fun m w => (16, [(4, .int (nI (m + 1))), (3, .int w.2), (2, .int (c 7 l)), (0, .ref 53), (1, .int (nI l))], [], wY ax vx tx w.1.1 v (va_up t 1 w.1.2))) (n := 9) (fun m w => ((∃ y, MC (va_up c 7 (upd (c 7) l y)) w.1.1 v n k q mn sm tt) ∧ ∀ j, j ∉ rowsM → w.1.1 j = a j) ∧ w.2 = dgB c n k q mn sm l m ∧ ∀ d, d < m → ∀ i, i < 24 → w.1.2 (24 * (d + 1) + i) = roF (dgX c n k mn l (d + 1)).1 n i) hstep 9 0 ((a, t 1), 0) rfl ⟨⟨⟨c 7 l, by rw [upd_self, va_id]; exact hC⟩, fun _ _ => rfl⟩, rfl, fun d h => absurd h (Nat.not_lt_zero _)⟩
  dsimp only at hI hf hb hgo hT
  have hI2 := hI.de hl (c 7 l)
  have e7 : (va_up c 7 (upd (c 7) l y)) 7 = upd (c 7) l y := rfl
  rw [e7, va_two, upd_upd, upd_self, va_id] at hI2
  refine ⟨va_up a1 62 (upd (a1 62) (3 * l + 1) (c 7 l)), T, ?_, fun j hj => ?_, hI2, hT⟩
  · rw [← hb]
    iterate 7 refine Rn.step rfl ?_
    refine Rn.ald (3 * l + 1) rfl (ix_am 3 l 1) (by omega) (by decide) ?_
    rw [(h62 l hl).2.1]
    iterate 5 refine Rn.step rfl ?_
    refine Rn.hp (h2 := wY ax vx tx a v (va_up t 1 (t 1))) (by rw [va_id]) ?_
    refine hgo _ ?_
    iterate 2 refine Rn.step rfl ?_
    refine Rn.step rfl ?_
    iterate 8 refine Rn.step rfl ?_
    refine Rn.ast (3 * l + 1) rfl (ix_am 3 l 1) (by omega) (by decide) (h3 := wY ax vx tx (va_up a1 62 (upd (a1 62) (3 * l + 1) (c 7 l))) v (va_up t 1 T)) rfl ?_
    iterate 1 refine Rn.step rfl ?_
    exact Rn.ret rfl
  · rw [up_out (by intro q; apply hj; simp only [List.mem_cons, List.not_mem_nil, or_false]; omega)]
    exact hf j hj
/-- a row of figures as one number -/
def eN (b : Nat) (d : Nat → Nat) : Nat → Nat
  | 0 => 0
  | l + 1 => b * eN b d l + d l
theorem eN_lt {b : Nat} {d : Nat → Nat} : ∀ n, (∀ l, l < n → d l < b) → eN b d n < b ^ n := by
  intro n
  induction n with
  | zero => intro _; exact Nat.one_pos
  | succ n ih =>
    intro h
    have h1 := ih (fun l hl => h l (by omega))
    have h2 := h n (by omega)
    show b * eN b d n + d n < b ^ (n + 1)
    have h3 : b * (eN b d n + 1) ≤ b * b ^ n := Nat.mul_le_mul_left b h1
    rw [Nat.mul_add, Nat.mul_one] at h3
    rw [Nat.pow_succ, Nat.mul_comm (b ^ n) b]
    omega
theorem eN_inj {b : Nat} {d e : Nat → Nat} : ∀ n, (∀ l, l < n → d l < b ∧ e l < b) → (eN b d n = eN b e n ↔ ∀ l, l < n → d l = e l) := by
  intro n
  induction n with
  | zero => intro _; exact ⟨fun _ l h => absurd h (Nat.not_lt_zero _), fun _ => rfl⟩
  | succ n ih =>
    intro h
    have h1 := ih (fun l hl => h l (by omega))
    obtain ⟨h2, h3⟩ := h n (by omega)
    show b * eN b d n + d n = b * eN b e n + e n ↔ _
    constructor
    · intro q
      have q1 : d n = e n := by
        have := congrArg (· % b) q
        simpa [Nat.mul_add_mod, Nat.mod_eq_of_lt h2, Nat.mod_eq_of_lt h3] using this
      have q2 : eN b d n = eN b e n := by
        rw [q1] at q
        exact Nat.eq_of_mul_eq_mul_left (by omega) (Nat.add_right_cancel q)
      intro l hl
      by_cases hx : l = n
      · subst hx; exact q1
      · exact h1.mp q2 l (by omega)
    · intro q
      rw [h1.mpr (fun l hl => q l (by omega)), q n (by omega)]
def hdD (H : Nat → Int32) (m l : Nat) : Nat := if H (m * 8 + l) = -1 then 0 else (H (m * 8 + l)).toNatClampNeg + 1
theorem hdD_ok {ta : Nat → Int32} {D : dS} (hD : DE n ta D) {m l : Nat} (hm : m < 24) (hl : l < n) : hdD D.1 m l < 18 ∧ (D.1 (m * 8 + l) + 1).toInt64 = lN (hdD D.1 m l) ∧ (D.1 (m * 8 + l)).toInt64 + 1 = lN (hdD D.1 m l) := by
  unfold hdD
  rcases hD.1.1 m l hm hl with h | ⟨u, hu, h⟩
  · rw [h, if_pos rfl]; exact ⟨by decide, by decide, by decide⟩
  · rw [h, if_neg (nI_ne1 (by omega)), nI_clamp (by omega), nI_1, nI_l (by omega), nI_l (by omega), lN_1]
    exact ⟨by omega, rfl, rfl⟩
theorem ro_eN {ta : Nat → Int32} {D : dS} (hD : DE n ta D) {m : Nat} (hm : m < 24) : roF D.1 n m = lN (eN 18 (hdD D.1 m) n) := by
  have h := lp_inv (f := fun l (x : Int64) => 18 * x + (D.1 (m * 8 + l)).toInt64 + 1) (fun l x => x = lN (eN 18 (hdD D.1 m) l)) (i := 0) (j := n) (s := 0) rfl (fun l x _ hl hI => by
    rw [hI, Int64.add_assoc, (hdD_ok hD hm (by omega)).2.2, show (18 : Int64) = lN 18 from rfl, lN_mul, lN_add]
    rfl)
  rw [Nat.zero_add] at h
  exact h
theorem tr_step {X d : Nat} (hX : X < 2 ^ 50) (hd : d < 32) : lN X <<< ((5 : Int32).toInt64 &&& 63) ||| lN d = lN (32 * X + d) := by
  apply Int64.toBitVec_inj.mp
  apply BitVec.eq_of_toNat_eq
  rw [Int64.toBitVec_or, Int64.toBitVec_shiftLeft, BitVec.toNat_or]
  have e5 : (((5 : Int32).toInt64 &&& 63).toBitVec.smod 64) = 5#64 := by decide
  rw [e5]
  have h1 : ∀ y, y < 2 ^ 64 → (lN y).toBitVec.toNat = y := fun y hy => Nat.mod_eq_of_lt hy
  rw [h1 d (by omega), h1 (32 * X + d) (by omega), BitVec.shiftLeft_eq', BitVec.toNat_shiftLeft, h1 X (by omega)]
  show (X <<< 5 % 2 ^ 64) ||| d = 32 * X + d
  rw [Nat.mod_eq_of_lt (by rw [Nat.shiftLeft_eq]; omega), ← Nat.shiftLeft_add_eq_or_of_lt (by omega), Nat.shiftLeft_eq]
  omega
theorem tr_eN {ta : Nat → Int32} {D : dS} (hn : n ≤ 8) (hD : DE n ta D) {m : Nat} (hm : m < 24) : trF D.1 n m = lN (eN 32 (hdD D.1 m) n) := by
  have h := lp_inv (f := fun l (x : Int64) => x <<< ((5 : Int32).toInt64 &&& 63) ||| (D.1 (m * 8 + l) + 1).toInt64) (fun l x => x = lN (eN 32 (hdD D.1 m) l)) (i := 0) (j := n) (s := 0) rfl (fun l x _ hl hI => by
    have hb : eN 32 (hdD D.1 m) l < 32 ^ l := eN_lt l (fun l' hl' => by have := (hdD_ok hD hm (l := l') (by omega)).1; omega)
    have hb2 : 32 ^ l ≤ 32 ^ 8 := Nat.pow_le_pow_right (by decide) (by omega)
    rw [hI, (hdD_ok hD hm (by omega)).2.1, tr_step (by omega) (by have := (hdD_ok hD hm (l := l) (by omega)).1; omega)]
    rfl)
  rw [Nat.zero_add] at h
  exact h
theorem tr_ro {ta ta' : Nat → Int32} {D D' : dS} (hn : n ≤ 8) (hD : DE n ta D) (hD' : DE n ta' D') {m : Nat} (hm : m < 24) : trF D.1 n m = trF D'.1 n m ↔ roF D.1 n m = roF D'.1 n m := by
  have k1 : ∀ l, l < n → hdD D.1 m l < 18 ∧ hdD D'.1 m l < 18 := fun l hl => ⟨(hdD_ok hD hm hl).1, (hdD_ok hD' hm hl).1⟩
  have b1 : ∀ b (d : Nat → Nat), b ≤ 32 → (∀ l, l < n → d l < b) → eN b d n < 2 ^ 63 := fun b d hb h => by
    have h1 := eN_lt n h
    have h2 : b ^ n ≤ 32 ^ n := Nat.pow_le_pow_left hb n
    have h3 : 32 ^ n ≤ 32 ^ 8 := Nat.pow_le_pow_right (by decide) hn
    omega
  rw [ro_eN hD hm, ro_eN hD' hm, tr_eN hn hD hm, tr_eN hn hD' hm, pk_lEQ (b1 _ _ (by omega) (fun l hl => by have := k1 l hl; omega)) (b1 _ _ (by omega) (fun l hl => by have := k1 l hl; omega)), pk_lEQ (b1 _ _ (by omega) (fun l hl => (k1 l hl).1)) (b1 _ _ (by omega) (fun l hl => (k1 l hl).2)), eN_inj n (fun l hl => by have := k1 l hl; omega), eN_inj n k1]
/-- how many of the draughts have like rows behind a minute, at most: the model's -/
def al2 (b : Int32) (T : Nat → Int64) (m x : Nat) : Int32 := lp (fun y z => if (bt b (x + 1) ∧ bt b (y + 1)) ∧ T (24 * (x + 1) + m) = T (24 * (y + 1) + m) then z + 1 else z) 0 9 0
def ml2 (b : Int32) (T : Nat → Int64) (m : Nat) : Int32 := lp (fun x z => if z < al2 b T m x then al2 b T m x else z) 0 9 0
theorem m_alike (b : Int32) {m : Nat} (hm : m < 24) : Rn E 1 mX8_alike (0, [(0, .ref 53), (1, .int b), (2, .int (nI m))], [], wY ax vx tx a v t) (some (.int (ml2 b (t 1) m)), wY ax vx tx a v t) := by
  iterate 4 refine Rn.step rfl ?_
  refine Rn.lp (σ := Int32) (cfg := fun x s => (5, [(4, .int (nI (x + 1))), (3, .int s), (0, .ref 53), (1, .int b), (2, .int (nI m))], [], wY ax vx tx a v t)) (f := fun x z => if z < al2 b (t 1) m x then al2 b (t 1) m x else z) (n := 9) (fun _ _ => True) (fun x s hx _ => ⟨trivial, fun kk => ?_⟩) 9 0 0 rfl trivial (fun s0 hs0 _ => ?_)
  · rw [nI_succ (x + 1)] at kk
    revert kk
    generalize ((some (Value.int (ml2 b (t 1) m)), wY ax vx tx a v t) : iRes) = o
    intro kk
    iterate 2 refine Rn.step rfl ?_
    refine Rn.br2 rfl (nle (n := 10) (i := x + 1) (by omega) (by decide)) ?_
    iterate 4 refine Rn.step rfl ?_
    refine Rn.lp (σ := Int32) (cfg := fun y z => (18, [(6, .int (nI (y + 1))), (5, .int z), (4, .int (nI (x + 1))), (3, .int s), (0, .ref 53), (1, .int b), (2, .int (nI m))], [], wY ax vx tx a v t)) (f := fun y z => if (bt b (x + 1) ∧ bt b (y + 1)) ∧ t 1 (24 * (x + 1) + m) = t 1 (24 * (y + 1) + m) then z + 1 else z) (n := 9) (fun _ _ => True) (fun y z hy _ => ⟨trivial, fun k2 => ?_⟩) 9 0 0 rfl trivial (fun z0 hz0 _ => ?_)
    · rw [nI_succ (y + 1)] at k2
      have hno : ¬ ((bt b (x + 1) ∧ bt b (y + 1)) ∧ t 1 (24 * (x + 1) + m) = t 1 (24 * (y + 1) + m)) → Rn E 1 mX8_alike (77, [(6, .int (nI (y + 1))), (5, .int z), (4, .int (nI (x + 1))), (3, .int s), (0, .ref 53), (1, .int b), (2, .int (nI m))], [.int z], wY ax vx tx a v t) o := by
        intro hp
        rw [if_neg hp] at k2
        iterate 2 refine Rn.step rfl ?_
        refine Rn.top (x' := z) (by show z + 0 = z; simp) ?_
        iterate 3 refine Rn.step rfl ?_
        exact k2
      iterate 2 refine Rn.step rfl ?_
      refine Rn.br2 rfl (nle (n := 10) (i := y + 1) (by omega) (by decide)) ?_
      iterate 3 refine Rn.step rfl ?_
      refine Rn.calli rfl rfl rfl (by decide) (m_isIn b (x + 1) _) (fun z1 f1 => ?_)
      refine Rn.br rfl (fun h1 => ?_) (fun h1 => ?_)
      · rw [f1, ib_eq0] at h1
        exact hno (fun p => h1 p.1.1)
      · rw [f1, ib_ne0] at h1
        iterate 2 refine Rn.step rfl ?_
        refine Rn.calli rfl rfl rfl (by decide) (m_isIn b (y + 1) _) (fun z2 f2 => ?_)
        refine Rn.br rfl (fun h2 => ?_) (fun h2 => ?_)
        · rw [f2, ib_eq0] at h2
          exact hno (fun p => h2 p.1.2)
        · rw [f2, ib_ne0] at h2
          iterate 7 refine Rn.step rfl ?_
          refine Rn.all (24 * (x + 1) + m) rfl (ix_am 24 (x + 1) m) (by omega) (by decide) ?_
          iterate 7 refine Rn.step rfl ?_
          refine Rn.all (24 * (y + 1) + m) rfl (ix_am 24 (y + 1) m) (by omega) (by decide) ?_
          iterate 1 refine Rn.step rfl ?_
          refine Rn.br rfl (fun h3 => ?_) (fun h3 => ?_)
          · exact hno (fun p => h3 ((lg_cmp_eq _ _).mpr p.2))
          · rw [if_pos ⟨⟨h1, h2⟩, (lg_cmp_eq _ _).mp (Decidable.not_not.mp h3)⟩] at k2
            iterate 6 refine Rn.step rfl ?_
            exact k2
    · have hz0 : z0 = al2 b (t 1) m x := hz0
      rw [← hz0] at kk
      iterate 2 refine Rn.step rfl ?_
      refine Rn.step rfl ?_
      iterate 2 refine Rn.step rfl ?_
      refine Rn.calli rfl rfl rfl (by decide) (m_greater z0 s _) (fun z1 f1 => ?_)
      rw [← f1] at kk
      iterate 3 refine Rn.step rfl ?_
      exact Rn.sub (by exact ⟨rfl, rfl, rfl, rfl, rfl, trivial⟩) kk
  · have hs0 : s0 = ml2 b (t 1) m := hs0
    rw [← hs0]
    iterate 2 refine Rn.step rfl ?_
    refine Rn.step rfl ?_
    iterate 1 refine Rn.step rfl ?_
    exact Rn.ret rfl
theorem ml_eq {b : Int32} {T U : Nat → Int64} {m : Nat} (h : ∀ x y, x < 9 → y < 9 → (T ((x + 1) * 24 + m) = T ((y + 1) * 24 + m) ↔ U (24 * (x + 1) + m) = U (24 * (y + 1) + m))) : maL b T m = ml2 b U m := by
  have e : ∀ x, x < 9 → alF b T m x = al2 b U m x := fun x hx => lp_congr (fun y z _ hy => by
    have := h x y hx (by omega)
    by_cases hp : (bt b (x + 1) ∧ bt b (y + 1)) ∧ T ((x + 1) * 24 + m) = T ((y + 1) * 24 + m)
    · rw [if_pos hp, if_pos ⟨hp.1, this.mp hp.2⟩]
    · rw [if_neg hp, if_neg (fun p => hp ⟨p.1, this.mpr p.2⟩)])
  exact lp_congr (fun x z _ hx => by rw [e x (by omega)])
theorem maL_rng (b : Int32) (T : Nat → Int64) (m : Nat) : maL b T m < 10 := by
  have e : ∀ x, ∃ u, u ≤ 9 ∧ alF b T m x = nI u := fun x => by
    have h := lp_inv (f := fun y (z : Int32) => if (bt b (x + 1) ∧ bt b (y + 1)) ∧ T ((x + 1) * 24 + m) = T ((y + 1) * 24 + m) then z + 1 else z) (fun y z => ∃ u, u ≤ y ∧ z = nI u) (i := 0) (j := 9) (s := 0) ⟨0, by decide, rfl⟩ (fun y z _ _ hI => by
      obtain ⟨u, hu, rfl⟩ := hI
      split
      · exact ⟨u + 1, by omega, nI_1 u⟩
      · exact ⟨u, by omega, rfl⟩)
    exact h
  have h := lp_inv (f := fun x (z : Int32) => if z < alF b T m x then alF b T m x else z) (fun _ z => ∃ u, u ≤ 9 ∧ z = nI u) (i := 0) (j := 9) (s := 0) ⟨0, by decide, rfl⟩ (fun x z _ _ hI => by
    split
    · exact e x
    · exact hI)
  obtain ⟨u, hu, h⟩ := h
  have h : maL b T m = nI u := h
  rw [h]
  exact nI_lt (b := 10) (by omega) (by decide)
theorem lp_front {σ : Type} (f : Nat → σ → σ) (i j : Nat) (s : σ) : lp f i (j + 1) s = lp f (i + 1) j (f i s) := rfl
theorem as_eq {b : Int32} {T U : Nat → Int64} (h : ∀ m, m < 24 → maL b T m = ml2 b U m) : asF b T = nI (lp (fun m (u : Nat) => if ml2 b U m < ml2 b U u then m else u) 1 23 0) := by
  unfold asF
  rw [show (24 : Nat) = 23 + 1 from rfl, lp_front, Nat.zero_add]
  rw [show (if maL b T 0 < ((10, 0) : Int32 × Int32).1 then (maL b T 0, nI 0) else ((10, 0) : Int32 × Int32)) = (maL b T 0, nI 0) from if_pos (maL_rng b T 0)]
  have := lp_rel (f := fun m (s : Int32 × Int32) => if maL b T m < s.1 then (maL b T m, nI m) else s) (g := fun m (u : Nat) => if ml2 b U m < ml2 b U u then m else u) (fun m s u => s = (ml2 b U u, nI u)) (i := 1) (j := 23) (s := (maL b T 0, nI 0)) (u := 0) (by rw [h 0 (by decide)]) (fun m s u _ hm hR => by
    rw [hR, h m (by omega)]
    split <;> rfl)
  rw [this]
theorem m_askOf (hC : MC c a v n k q mn sm tt) (h33 : v 33 = 0) {l : Nat} (hl : l < n) : ∃ (a' : Nat → Nat → Int32) (T : Nat → Int64), Rn E 9 mX8_askOf (0, [(0, .ref 53), (1, .int (nI l))], [], wY ax vx tx a v t) (some (.int (asF (dgB c n k q mn sm l 9) (dgT c n k mn l))), wY ax vx tx a' v (va_up t 1 T)) ∧ (∀ j, j ∉ rowsM → a' j = a j) ∧ MC c a' v n k q mn sm tt := by
  obtain ⟨a', T, hr, hf, hC', hT⟩ := m_draughtsOf (E := E) (ax := ax) (vx := vx) (tx := tx) (t := t) hC h33 hl
  obtain ⟨⟨hn, -⟩, -, -, -, -, -, -, h62, htt, -⟩ := id hC
  refine ⟨a', T, ?_, hf, hC'⟩
  have hDE : ∀ d, DE n (c 8) (dgX c n k mn l d) := fun d => crn_DE hn (fun l hl => (h62 l hl).2.2.2) htt
  generalize hB : dgB c n k q mn sm l 9 = B at hr ⊢
  rw [as_eq (b := B) (T := dgT c n k mn l) (U := T) (fun m hm => ml_eq (fun x y hx hy => by
    unfold dgT
    rw [show ((x + 1) * 24 + m) / 24 = x + 1 by omega, show ((x + 1) * 24 + m) % 24 = m by omega, show ((y + 1) * 24 + m) / 24 = y + 1 by omega, show ((y + 1) * 24 + m) % 24 = m by omega, hT x hx m hm, hT y hy m hm]
    exact tr_ro hn (hDE _) (hDE _) hm))]
  iterate 2 refine Rn.step rfl ?_
  refine Rn.calli rfl rfl rfl (by decide) hr (fun z f => ?_)
  rw [f]
  iterate 5 refine Rn.step rfl ?_
  refine Rn.lp (σ := Nat) (cfg := fun m u => (11, [(4, .int (nI m)), (3, .int (nI u)), (2, .int B), (0, .ref 53), (1, .int (nI l))], [], wY ax vx tx a' v (va_up t 1 T))) (f := fun m u => if ml2 B T m < ml2 B T u then m else u) (n := 24) (fun m u => u < m) (fun m u hm hu => ⟨?_, fun kk => ?_⟩) 23 1 0 rfl (by decide) (fun u0 hu0 _ => ?_)
  · split <;> omega
  · rw [nI_succ] at kk
    iterate 2 refine Rn.step rfl ?_
    refine Rn.br2 rfl (nle hm (by decide)) ?_
    iterate 3 refine Rn.step rfl ?_
    refine Rn.calli rfl rfl rfl (by decide) (m_alike B hm) (fun z1 f1 => ?_)
    iterate 3 refine Rn.step rfl ?_
    refine Rn.calli rfl rfl rfl (by decide) (m_alike B (show u < 24 by omega)) (fun z2 f2 => ?_)
    have f1 : z1 = ml2 B T m := f1
    have f2 : z2 = ml2 B T u := f2
    rw [← f1, ← f2] at kk
    refine Rn.br rfl (fun h1 => ?_) (fun h1 => ?_)
    · rw [if_neg (Int32.not_lt.mpr h1)] at kk
      iterate 4 refine Rn.step rfl ?_
      exact Rn.sub (by exact ⟨rfl, rfl, rfl, rfl, rfl, trivial⟩) kk
    · rw [if_pos (Int32.not_le.mp h1)] at kk
      iterate 5 refine Rn.step rfl ?_
      exact Rn.sub (by exact ⟨rfl, rfl, rfl, rfl, rfl, trivial⟩) kk
  · rw [← hu0]
    iterate 2 refine Rn.step rfl ?_
    refine Rn.step rfl ?_
    iterate 1 refine Rn.step rfl ?_
    exact Rn.ret rfl
end MEX
