section EQD
theorem last_none {P : Nat → Prop} [DecidablePred P] : ∀ n, n < 2 ^ 31 → (lp (fun j (w : Int32) => if P j then nI j else w) 0 n (-1) = -1 ↔ ∀ j, j < n → ¬ P j) := by
  intro n
  induction n with
  | zero => intro _; exact ⟨fun _ j hj => absurd hj (Nat.not_lt_zero _), fun _ => rfl⟩
  | succ n ih =>
    intro hn
    rw [lp_end, Nat.zero_add]
    by_cases hP : P n
    · rw [if_pos hP]
      exact ⟨fun q => absurd q (nI_ne1 (by omega)), fun q => absurd hP (q n (by omega))⟩
    · rw [if_neg hP, ih (by omega)]
      constructor
      · intro q j hj
        by_cases h : j = n
        · subst h; exact hP
        · exact q j (by omega)
      · intro q j hj; exact q j (by omega)
theorem wb_none {hd lo : Nat → Int32} {n k : Nat} {s : Int32} (hn : n ≤ 8) : wbF hd lo n k s = -1 ↔ ∀ j, j < n → ¬ (¬ j = k ∧ lsP (hd j) (lo (3 * j + 2) = 1) s) := last_none n (by omega)
theorem ls_nat {y s : Nat} {lg : Prop} (hy : y ≤ 16) (hs : s ≤ 16) : lsP (nI y) lg (nI s) ↔ y < 16 ∧ (y = s ∨ (lg ∧ 0 < y ∧ y - 1 = s)) := by
  have h1 : inB (nI y) 16 ↔ y < 16 := ⟨fun q => (nI_ltI (b := 16) (by omega) (by decide)).mp q.2, fun q => inB_nI (n := 16) q (by decide)⟩
  have h2 : nI y = nI s ↔ y = s := nI_eq (by omega) (by omega)
  have h3 : 0 < nI y ↔ 0 < y := nI_ltI (a := 0) (by decide) (by omega)
  have h4 : 0 < y → (nI y - 1 = nI s ↔ y - 1 = s) := fun q => by
    have e := nI_pred (y - 1)
    rw [show y - 1 + 1 = y by omega] at e
    rw [e]; exact nI_eq (by omega) (by omega)
  show inB (nI y) 16 ∧ (nI y = nI s ∨ (lg ∧ 0 < nI y ∧ nI y - 1 = nI s)) ↔ _
  rw [h1, h2, h3]
  constructor
  · rintro ⟨a, b | ⟨c, d, e⟩⟩
    · exact ⟨a, Or.inl b⟩
    · exact ⟨a, Or.inr ⟨c, d, (h4 d).mp e⟩⟩
  · rintro ⟨a, b | ⟨c, d, e⟩⟩
    · exact ⟨a, Or.inl b⟩
    · exact ⟨a, Or.inr ⟨c, d, (h4 d).mpr e⟩⟩
theorem mvF_blk {po : Bool} {wl wl' : Nat → Int32} {de : Int32} {bC bM : Nat → Bool} {steps : Int32} {b : Nat} (hb : b ≤ 17) (hwl : ∀ h, h < 16 → wl h = wl' h) (hC : ∀ h, bC h = decide (¬ nI (h + 1) < nI b)) : ∀ f k h, (∀ h', h ≤ h' → h' < b → h' < 16 → bC h' = bM h') → h < b → mvF po wl de bC steps f k h = mvF po wl' de bM steps f k h ∧ (mvF po wl de bC steps f k h).1 < b := by
  intro f
  induction f with
  | zero => intro k h _ hh; exact ⟨rfl, hh⟩
  | succ f ih =>
    intro k h hE hh
    unfold mvF
    by_cases h1 : steps ≤ nI k ∨ 16 ≤ h
    · rw [if_pos h1, if_pos h1]; exact ⟨rfl, hh⟩
    · rw [if_neg h1, if_neg h1]
      have h16 : h < 16 := by
        rcases Nat.lt_or_ge h 16 with q | q
        · exact q
        · exact absurd (Or.inr q) h1
      rw [← hwl h h16]
      by_cases h2 : po = false ∧ wl h < de
      · rw [if_pos h2, if_pos h2]; exact ⟨rfl, hh⟩
      · rw [if_neg h2, if_neg h2, ← hE h (Nat.le_refl _) hh h16]
        by_cases h3 : bC h = true
        · rw [if_pos h3, if_pos h3]; exact ⟨rfl, hh⟩
        · rw [if_neg h3, if_neg h3]
          rw [hC, decide_eq_true_eq] at h3
          have h4 := Decidable.not_not.mp h3
          have h5 := (nI_ltI (by omega) (by omega)).mp h4
          exact ih (k + 1) (h + 1) (fun h' q1 q2 q3 => hE h' (by omega) q2 q3) h5
/-- the line's facts at the beginning of a minute -/
def LF (n z : Nat) (ln x tt : Nat → Nat) : Prop := (∀ c, c < z → ln c < n) ∧ (∀ c c', c < c' → c' < z → ¬ ln c = ln c') ∧ (∀ c c', c < c' → c' < z → x c = 16 ∨ x c' < x c - tt (ln c)) ∧ (∀ c, c < z → x c ≤ 16) ∧ ∀ l, l < n → tt l ≤ 1
/-- on the way through the line -/
def CI (n m z i : Nat) (ln x tt y : Nat → Nat) (b : Nat) (Y : y3) : Prop :=
  (∀ c, c < z → Y.1 (m * 8 + ln c) = nI (y c) ∧ y c ≤ 16 ∧ x c ≤ y c ∧ (i ≤ c → y c = x c ∧ Y.2.1 (m * 8 + ln c) = 0)) ∧
  (∀ l, l < n → (∀ c, c < z → ¬ ln c = l) → Y.1 (m * 8 + l) = -1 ∧ Y.2.1 (m * 8 + l) = 0) ∧
  Y.2.2 = nI b ∧ b ≤ 17 ∧
  (∀ c, c < i → y c = 16 ∨ b ≤ y c - tt (ln c)) ∧
  (b = 17 ∨ ∃ c, c < i ∧ y c < 16 ∧ b = y c - tt (ln c)) ∧
  (∀ c, i ≤ c → c < z → x c = 16 ∨ x c < b) ∧
  (∀ c c', c < c' → c' < i → y c = 16 ∨ y c' < y c - tt (ln c))
/-- the model's rows beside the class's in a minute -/
def MR5 (n m : Nat) (H0 O0 A0 B0 : Nat → Int32) (s : g5) (Y : y3) : Prop := ∀ l, l < n → s.1 l = Y.1 (m * 8 + l) ∧ s.2.1 l = Y.2.1 (m * 8 + l) ∧ s.2.2.1 l = (if Y.1 (m * 8 + l) = 16 ∧ ¬ H0 l = 16 then nI m else O0 l) ∧ s.2.2.2.1 l = (if Y.2.1 (m * 8 + l) = 1 then A0 l + 1 else A0 l) ∧ s.2.2.2.2 l = (if Y.2.1 (m * 8 + l) = 2 then B0 l + 1 else B0 l)
theorem mx0_sub {h u : Nat} (hh : h ≤ 16) (hu : u ≤ 1) : mx0 (nI h - nI u) = nI (h - u) := by
  unfold mx0
  rcases Nat.lt_or_ge h u with q | q
  · obtain rfl : h = 0 := by omega
    obtain rfl : u = 1 := by omega
    rfl
  · rw [pk_sub q, if_neg (nI_pos (by omega))]
section STEP
variable {n m z i : Nat} {ln x tt y : Nat → Nat} {b : Nat} {Y : y3} {s : g5} {H0 O0 A0 B0 : Nat → Int32} {sl de ta st wl slm wt lo LN : Nat → Int32} {po : Int32}
theorem CI_skip (hL : LF n z ln x tt) (hi : i < z) (hx : x i = 16) (h : CI n m z i ln x tt y b Y) : CI n m z (i + 1) ln x tt y b Y := by
  obtain ⟨h1, h2, h3, h4, h5, h6, h7, h8⟩ := h
  have hy : y i = 16 := by have := h1 i hi; omega
  refine ⟨fun c hc => ⟨(h1 c hc).1, (h1 c hc).2.1, (h1 c hc).2.2.1, fun q => (h1 c hc).2.2.2 (by omega)⟩, h2, h3, h4, fun c hc => ?_, ?_, fun c q1 q2 => h7 c (by omega) q2, fun c c' q1 q2 => ?_⟩
  · by_cases q : c = i
    · subst q; exact Or.inl hy
    · exact h5 c (by omega)
  · rcases h6 with q | ⟨c, q1, q2⟩
    · exact Or.inl q
    · exact Or.inr ⟨c, by omega, q2⟩
  · by_cases q : c' = i
    · subst q
      rcases h5 c q1 with q | q
      · exact Or.inl q
      · left
        have := hL.2.2.1 c c' q1 hi
        have := (h1 c (by omega)).2
        have := hL.2.2.2.1 c (by omega)
        omega
    · exact h8 c c' q1 (by omega)
theorem blk_eq (hn : n ≤ 8) (hL : LF n z ln x tt) (hlo : ∀ l, l < n → lo (3 * l + 2) = nI (tt l)) (hi : i < z) (hx : x i < 16) (h : CI n m z i ln x tt y b Y) (hs : ∀ l, l < n → s.1 l = Y.1 (m * 8 + l)) {h' : Nat} (q1 : x i ≤ h') (q2 : h' < b) (q3 : h' < 16) : decide (¬ nI (h' + 1) < nI b) = gbk s.1 lo n (ln i) h' := by
  obtain ⟨g1, g2, g3, g4, g5', g6, g7, g8⟩ := h
  obtain ⟨l1, l2, l3, l4, l5⟩ := hL
  refine decide_eq_decide.mpr ?_
  rw [nI_ltI (by omega) (by omega), wb_none hn]
  constructor
  · intro hge
    have hb : b = h' + 1 := by omega
    obtain ⟨c, hc, hyc, hbc⟩ := g6.resolve_left (by omega)
    have htt := l5 (ln c) (l1 c (by omega))
    refine ⟨by omega, fun hall => ?_⟩
    refine hall (ln c) (l1 c (by omega)) ⟨l2 c i hc hi, ?_⟩
    rw [hs _ (l1 c (by omega)), (g1 c (by omega)).1, ls_nat (by omega) (by omega), hlo _ (l1 c (by omega))]
    refine ⟨hyc, ?_⟩
    rcases Nat.lt_or_ge 0 (tt (ln c)) with q | q
    · right
      refine ⟨?_, by omega, by omega⟩
      rw [show tt (ln c) = 1 by omega]; rfl
    · left; omega
  · rintro ⟨h15, hno⟩ hlt
    refine hno (fun j hj ⟨hjl, hls⟩ => ?_)
    by_cases hin : ∃ c, c < z ∧ ln c = j
    · obtain ⟨c, hc, rfl⟩ := hin
      have hci : ¬ c = i := fun q => hjl (by rw [q])
      have htt := l5 (ln c) (l1 c hc)
      have hyc := (g1 c hc).2.1
      rw [hs _ hj, (g1 c hc).1, ls_nat hyc (by omega), hlo _ hj] at hls
      have hlong : nI (tt (ln c)) = 1 → tt (ln c) = 1 := fun q => (nI_eq (b := 1) (by omega) (by decide)).mp q
      rcases Nat.lt_or_ge c i with q | q
      · have g := g5' c q
        rcases hls with ⟨a1, a2 | ⟨a3, a4, a5⟩⟩
        · omega
        · have := hlong a3; omega
      · have g := (g1 c hc).2.2.2 q
        have l := l3 i c (by omega) hc
        rcases hls with ⟨a1, a2 | ⟨a3, a4, a5⟩⟩ <;> omega
    · have g := (g2 j hj (fun c hc q => hin ⟨c, hc, q⟩)).1
      rw [hs _ hj, g] at hls
      exact absurd hls.1 (by decide)
theorem CI_step (hn : n ≤ 8) (hL : LF n z ln x tt) (hlo : ∀ l, l < n → lo (3 * l + 1) = de l ∧ lo (3 * l + 2) = nI (tt l) ∧ ta l = nI (tt l)) (hwt : ∀ h, h < 16 → wl (m * 16 + h) = wt h) (hsl : ∀ h, h < 16 → slm h = sl h) (hLN : ∀ c, c < z → LN c = nI (ln c)) (hH0 : ∀ c, c < z → H0 (ln c) = nI (x c)) (hi : i < z) (hx : x i < 16) (h : CI n m z i ln x tt y b Y) (hM : MR5 n m H0 O0 A0 B0 s Y) : ∃ y' b', CI n m z (i + 1) ln x tt y' b' (lnF sl de ta wl po m LN i Y) ∧ MR5 n m H0 O0 A0 B0 (g5u m (ln i) s (mvF (decide (bt po (ln i))) wt (lo (3 * ln i + 1)) (gbk s.1 lo n (ln i)) (slm (x i) + ib (bt po (ln i))) 17 0 (x i))) (lnF sl de ta wl po m LN i Y) := by
  have hblk := fun h' => blk_eq (s := s) hn hL (fun l hl => (hlo l hl).2.1) hi hx h (fun l hl => (hM l hl).1) (h' := h')
  obtain ⟨g1, g2, g3, g4, g5', g6, g7, g8⟩ := h
  obtain ⟨l1, l2, l3, l4, l5⟩ := hL
  obtain ⟨L, hLe⟩ : ∃ L, L = ln i := ⟨_, rfl⟩
  have hLn : L < n := by rw [hLe]; exact l1 i hi
  have eL : (LN i).toNatClampNeg = L := by rw [hLN i hi, hLe]; exact nI_clamp (by have := l1 i hi; omega)
  have eyi := (g1 i hi).2.2.2 (Nat.le_refl _)
  have eH : Y.1 (m * 8 + L) = nI (x i) := by rw [hLe, (g1 i hi).1, eyi.1]
  have eS : Y.2.1 (m * 8 + L) = 0 := by rw [hLe]; exact eyi.2
  have hxb : x i < b := (g7 i (Nat.le_refl _) hi).resolve_left (by omega)
  have ecl : (nI (x i)).toNatClampNeg = x i := nI_clamp (by omega)
  obtain ⟨r, hr⟩ : ∃ r, r = mvQ sl de wl po m L Y.2.2 (Y.1 (m * 8 + L)) := ⟨_, rfl⟩
  have hrM : r = mvF (decide (bt po L)) wt (lo (3 * L + 1)) (gbk s.1 lo n L) (slm (x i) + ib (bt po L)) 17 0 (x i) ∧ r.1 < b := by
    rw [hr]
    unfold mvQ
    rw [eH, ecl, g3, (hlo L hLn).1, hsl _ hx]
    rw [hLe]
    exact mvF_blk (wl := fun h => wl (m * 16 + h)) g4 hwt (fun _ => rfl) 17 0 (x i) (fun h' q1 q2 q3 => hblk h' q1 q2 q3) hxb
  obtain ⟨hrM, hrb⟩ := hrM
  have hr2 := mvF_2 (po := decide (bt po L)) (wl := wt) (de := lo (3 * L + 1)) (blk := gbk s.1 lo n L) (steps := slm (x i) + ib (bt po L)) 17 0 (x i) (by omega)
  rw [← hrM] at hr2
  obtain ⟨hr16, hrs, hrx⟩ := hr2
  have hY : lnF sl de ta wl po m LN i Y = (upd Y.1 (m * 8 + L) (nI r.1), (if r.2 = 0 then Y.2.1 else upd Y.2.1 (m * 8 + L) (nI r.2)), (if nI r.1 = 16 then Y.2.2 else mx0 (nI r.1 - ta L))) := by
    unfold lnF
    rw [eL, ← hr, if_pos (by rw [eH]; exact inB_nI (n := 16) hx (by decide))]
  rw [hY, ← hLe, ← hrM]
  have ette := l5 L hLn
  have e16 : nI r.1 = 16 ↔ r.1 = 16 := nI_eq (b := 16) (by omega) (by decide)
  have hne : ∀ c, c < z → ¬ c = i → ¬ m * 8 + ln c = m * 8 + L := fun c hc hci q => by
    have q : ln c = ln i := by omega
    rcases Nat.lt_or_ge c i with k | k
    · exact l2 c i k hi q
    · exact l2 i c (by omega) hc q.symm
  refine ⟨fun c => if c = i then r.1 else y c, if r.1 = 16 then b else r.1 - tt L, ⟨fun c hc => ?_, fun l hl hno => ?_, ?_, ?_, fun c hc => ?_, ?_, fun c q1 q2 => ?_, fun c c' q1 q2 => ?_⟩, ?_⟩
  · by_cases hci : c = i
    · subst hci
      dsimp only
      rw [if_pos rfl, ← hLe, pk_us]
      exact ⟨rfl, hr16, hrx, fun q => absurd q (by omega)⟩
    · dsimp only
      rw [if_neg hci, pk_un (hne c hc hci)]
      refine ⟨(g1 c hc).1, (g1 c hc).2.1, (g1 c hc).2.2.1, fun q => ?_⟩
      have g := (g1 c hc).2.2.2 (by omega)
      refine ⟨g.1, ?_⟩
      split
      · exact g.2
      · rw [pk_un (hne c hc hci)]; exact g.2
  · have hlL : ¬ m * 8 + l = m * 8 + L := fun q => hno i hi (by omega)
    have g := g2 l hl hno
    dsimp only
    rw [pk_un hlL]
    refine ⟨g.1, ?_⟩
    split
    · exact g.2
    · rw [pk_un hlL]; exact g.2
  · dsimp only
    by_cases q : r.1 = 16
    · rw [if_pos (e16.mpr q), if_pos q]; exact g3
    · rw [if_neg (fun k => q (e16.mp k)), if_neg q, (hlo L hLn).2.2]; exact mx0_sub hr16 ette
  · split <;> omega
  · dsimp only
    by_cases hci : c = i
    · subst hci
      rw [if_pos rfl]
      by_cases q : r.1 = 16
      · exact Or.inl q
      · right; rw [if_neg q, ← hLe]; omega
    · rw [if_neg hci]
      rcases g5' c (by omega) with q | q
      · exact Or.inl q
      · right; split <;> omega
  · by_cases q : r.1 = 16
    · left; rw [if_pos q]; omega
    · right; refine ⟨i, by omega, ?_, ?_⟩
      · dsimp only; rw [if_pos rfl]; omega
      · dsimp only; rw [if_pos rfl, if_neg q, ← hLe]
  · have l := l3 i c (by omega) q2
    rw [← hLe] at l
    have := l4 c q2
    split <;> omega
  · dsimp only
    by_cases hc' : c' = i
    · subst hc'
      rw [if_pos rfl, if_neg (by omega)]
      rcases g5' c q1 with q | q
      · exact Or.inl q
      · right; omega
    · rw [if_neg hc', if_neg (by omega)]
      exact g8 c c' q1 (by omega)
  · intro l hl
    obtain ⟨k1, k2, k3, k4, k5⟩ := hM l hl
    unfold g5u
    dsimp only
    by_cases hlL : l = L
    · subst hlL
      have hz0 : s.2.1 l = 0 := k2.trans eS
      have eH0 : H0 l = nI (x i) := by rw [hLe]; exact hH0 i hi
      have n16 : ¬ H0 l = 16 := fun q => by
        rw [eH0] at q
        have := (nI_eq (b := 16) (by omega) (by decide)).mp q
        omega
      rw [eH] at k3
      rw [eS] at k4 k5
      rw [if_neg (fun q => n16 (eH0.trans q.1))] at k3
      rw [if_neg (by decide)] at k4 k5
      have e7 : upd Y.1 (m * 8 + l) (nI r.1) (m * 8 + l) = nI r.1 := pk_us
      have e8 : (if r.2 = 0 then Y.2.1 else upd Y.2.1 (m * 8 + l) (nI r.2)) (m * 8 + l) = (if r.2 = 0 then 0 else nI r.2) := by
        by_cases q : r.2 = 0
        · rw [if_pos q, if_pos q]; exact eS
        · rw [if_neg q, if_neg q, pk_us]
      simp only [e7, e8]
      refine ⟨pk_us, ?_, ?_, ?_, ?_⟩
      · by_cases q : r.2 = 0
        · rw [if_pos q, if_pos q]; exact hz0
        · rw [if_neg q, if_neg q, pk_us]
      · by_cases q : r.1 = 16
        · rw [if_pos q, pk_us, if_pos ⟨e16.mpr q, n16⟩]
        · rw [if_neg q, k3, if_neg (fun k => q (e16.mp k.1))]
      · rcases hrs with q | q | q
        · rw [q]; exact k4
        · rw [q]; show upd s.2.2.2.1 l (s.2.2.2.1 l + 1) l = A0 l + 1; rw [pk_us, k4]
        · rw [q]; exact k4
      · rcases hrs with q | q | q
        · rw [q]; exact k5
        · rw [q]; exact k5
        · rw [q]; show upd s.2.2.2.2 l (s.2.2.2.2 l + 1) l = B0 l + 1; rw [pk_us, k5]
    · have hne2 : ¬ m * 8 + l = m * 8 + L := by omega
      have e6 : upd Y.1 (m * 8 + L) (nI r.1) (m * 8 + l) = Y.1 (m * 8 + l) := pk_un hne2
      rw [pk_un hlL]
      have e1 : (if r.2 = 0 then s.2.1 else upd s.2.1 L (nI r.2)) l = s.2.1 l := by
        split
        · rfl
        · rw [pk_un hlL]
      have e2 : (if r.2 = 0 then Y.2.1 else upd Y.2.1 (m * 8 + L) (nI r.2)) (m * 8 + l) = Y.2.1 (m * 8 + l) := by
        split
        · rfl
        · rw [pk_un hne2]
      have e3 : (if r.1 = 16 then upd s.2.2.1 L (nI m) else s.2.2.1) l = s.2.2.1 l := by
        split
        · rw [pk_un hlL]
        · rfl
      have e4 : (if r.2 = 1 then upd s.2.2.2.1 L (s.2.2.2.1 L + 1) else s.2.2.2.1) l = s.2.2.2.1 l := by
        split
        · rw [pk_un hlL]
        · rfl
      have e5 : (if r.2 = 2 then upd s.2.2.2.2 L (s.2.2.2.2 L + 1) else s.2.2.2.2) l = s.2.2.2.2 l := by
        split
        · rw [pk_un hlL]
        · rfl
      simp only [e1, e2, e3, e4, e5, e6]
      exact ⟨k1, k2, k3, k4, k5⟩
end STEP
end EQD
