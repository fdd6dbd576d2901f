section XG
variable {E : iExtT} {a : Nat → Nat → Int32} {v : Nat → Int32} {t : Nat → Nat → Int64} {r : List va_E}
/-- as AX, but that traces may change -/
def AXt (E : iExtT) (hh : Nat) (M : iMeth) (L : List (Nat × Value)) (a : Nat → Nat → Int32) (v : Nat → Int32) (t : Nat → Nat → Int64) (r : List va_E) (mn : Nat → Nat) (k n : Nat) (ans : Option Value) : Prop := ∃ (a' : Nat → Nat → Int32) (v' : Nat → Int32) (t' : Nat → Nat → Int64), Rn E hh M (0, L, [], wX a v t r) (ans, wX a' v' t' r) ∧ eqT a v a' v' ∧ SetX a' v' mn k n
theorem AX.toT {hh : Nat} {M : iMeth} {L : List (Nat × Value)} {mn : Nat → Nat} {k n : Nat} {ans : Option Value} (h : AX E hh M L a v t r mn k n ans) : AXt E hh M L a v t r mn k n ans := by
  obtain ⟨a', v', h1, h2, h3⟩ := h
  exact ⟨a', v', t, h1, h2, h3⟩
theorem dgB_bt {n k q : Nat} {mn sm : Nat → Nat} {l d : Nat} (hd : d < 9) (h : bt (dgB a n k q mn sm l 9) (d + 1)) : ftX a n q sm (dgX a n k mn l (d + 1)) = true := by
  rw [bt_gb (by omega)] at h
  obtain ⟨i, hi, hp, he⟩ := (or_bits (P := fun i => ftX a n q sm (dgX a n k mn l (i + 1)) = true) (sh := fun i => i + 1) (fun i j h => by omega) (fun i hi => by omega) 9 (by decide) (d + 1) (by omega)).mp h
  have he : i + 1 = d + 1 := he
  obtain rfl : i = d := by omega
  exact hp
/-- how many of the draughts have like traces behind a minute, at most -/
def alF (b : Int32) (T : Nat → Int64) (m x : Nat) : Int32 := lp (fun y c => if (bt b (x + 1) ∧ bt b (y + 1)) ∧ T ((x + 1) * 24 + m) = T ((y + 1) * 24 + m) then c + 1 else c) 0 9 0
def maL (b : Int32) (T : Nat → Int64) (m : Nat) : Int32 := lp (fun x c => if c < alF b T m x then alF b T m x else c) 0 9 0
def asF (b : Int32) (T : Nat → Int64) : Int32 := (lp (fun m s => if maL b T m < s.1 then (maL b T m, nI m) else s) 0 24 ((10 : Int32), (0 : Int32))).2
theorem maL_congr {b : Int32} {T U : Nat → Int64} {m : Nat} (h : ∀ d, d < 9 → bt b (d + 1) → T ((d + 1) * 24 + m) = U ((d + 1) * 24 + m)) : maL b T m = maL b U m := by
  have e : ∀ x, x < 9 → alF b T m x = alF b U m x := fun x hx => lp_congr (fun y c _ hy => by
    by_cases hb : bt b (x + 1) ∧ bt b (y + 1)
    · rw [h x hx hb.1, h y (by omega) hb.2]
    · rw [if_neg (fun q => hb q.1), if_neg (fun q => hb q.1)])
  exact lp_congr (fun x c _ hx => by rw [e x (by omega)])
theorem asF_congr {b : Int32} {T U : Nat → Int64} (h : ∀ m, m < 24 → maL b T m = maL b U m) : asF b T = asF b U := by
  unfold asF
  rw [lp_congr (fun m s _ hm => by rw [h m (by omega)])]
theorem r_mostAlike (b : Int32) {m : Nat} (hm : m < 24) : Rn E 0 mX7_mostAlike (0, [(0, .ref 0), (1, .int b), (2, .int (nI m))], [], wX a v t r) (some (.int (maL b (t 0) m)), wX a v t r) := by
  iterate 4 refine Rn.step rfl ?_
  refine Rn.lp (σ := Int32) (cfg := fun x s => (5, [(4, .int (nI (x + 1))), (3, .int s), (0, .ref 0), (1, .int b), (2, .int (nI m))], [], wX a v t r)) (f := fun x c => if c < alF b (t 0) m x then alF b (t 0) m x else c) (n := 9) (fun _ _ => True) (fun x s hx _ => ⟨trivial, fun kk => ?_⟩) 9 0 0 rfl trivial (fun s0 hs0 _ => ?_)
  · rw [nI_succ] at kk
    iterate 2 refine Rn.step rfl ?_
    refine Rn.br2 rfl (fun q => absurd (show nI 9 < nI (x + 1) from q) (Int32.not_lt.mpr (nI_le (by omega) (by decide)))) ?_
    iterate 4 refine Rn.step rfl ?_
    refine Rn.lp (σ := Int32) (cfg := fun y c => (18, [(6, .int (nI (y + 1))), (5, .int c), (4, .int (nI (x + 1))), (3, .int s), (0, .ref 0), (1, .int b), (2, .int (nI m))], [], wX a v t r)) (f := fun y c => if (bt b (x + 1) ∧ bt b (y + 1)) ∧ t 0 ((x + 1) * 24 + m) = t 0 ((y + 1) * 24 + m) then c + 1 else c) (n := 9) (fun _ _ => True) (fun y c hy _ => ⟨trivial, fun k2 => ?_⟩) 9 0 0 rfl trivial (fun c0 hc0 _ => ?_)
    · rw [nI_succ] at k2
      iterate 2 refine Rn.step rfl ?_
      refine Rn.br2 rfl (fun q => absurd (show nI 9 < nI (y + 1) from q) (Int32.not_lt.mpr (nI_le (by omega) (by decide)))) ?_
      repeat refine Rn.step rfl ?_
      refine Rn.br rfl (fun h1 => ?_) (fun h1 => ?_)
      · rw [if_neg (fun q => h1 q.1.1)] at k2
        iterate 6 refine Rn.step rfl ?_
        exact Rn.sub (by exact ⟨rfl, rfl, rfl, rfl, rfl, rfl, rfl, trivial⟩) k2
      · repeat refine Rn.step rfl ?_
        refine Rn.br rfl (fun h2 => ?_) (fun h2 => ?_)
        · rw [if_neg (fun q => h2 q.1.2)] at k2
          iterate 6 refine Rn.step rfl ?_
          exact Rn.sub (by exact ⟨rfl, rfl, rfl, rfl, rfl, rfl, rfl, trivial⟩) k2
        · repeat refine Rn.step rfl ?_
          refine Rn.all ((x + 1) * 24 + m) rfl (ix_ma (x + 1) 24 m) (by omega) (by decide) ?_
          repeat refine Rn.step rfl ?_
          refine Rn.all ((y + 1) * 24 + m) rfl (ix_ma (y + 1) 24 m) (by omega) (by decide) ?_
          repeat refine Rn.step rfl ?_
          refine Rn.br rfl (fun h3 => ?_) (fun h3 => ?_)
          · rw [if_neg (fun q => h3 ((lg_cmp_eq _ _).mpr q.2))] at k2
            iterate 2 refine Rn.step rfl ?_
            exact Rn.sub (by exact ⟨rfl, rfl, rfl, rfl, rfl, rfl, rfl, trivial⟩) k2
          · rw [if_pos ⟨⟨Decidable.not_not.mp h1, Decidable.not_not.mp h2⟩, (lg_cmp_eq _ _).mp (Decidable.not_not.mp h3)⟩] at k2
            iterate 3 refine Rn.step rfl ?_
            exact Rn.sub (by exact ⟨rfl, rfl, rfl, rfl, rfl, rfl, rfl, trivial⟩) k2
    · have hc0 : c0 = alF b (t 0) m x := hc0
      iterate 5 refine Rn.step rfl ?_
      iterate 4 refine Rn.step rfl ?_
      rw [← hc0] at kk
      exact Rn.sub (by exact ⟨rfl, rfl, rfl, rfl, rfl, trivial⟩) kk
  · have hs0 : s0 = maL b (t 0) m := hs0
    repeat refine Rn.step rfl ?_
    rw [← hs0]
    exact Rn.ret rfl
theorem r_draughts_bad (x : Int32) (hb : ¬ (inB x (v 4))) : Rn E 4 mX7_draughts (0, [(0, .ref 0), (1, .int x)], [], wX a v t r) ((some (.int (-2))), wX a v t r) := by
  repeat refine Rn.step rfl ?_
  refine Rn.calli rfl rfl rfl (by decide) (r_isLog x) (fun x0 e0 => ?_)
  refine Rn.br2 rfl (fun h0 => hb (ib_ne0.mp (e0 ▸ h0))) ?_
  repeat refine Rn.step rfl ?_
  exact Rn.ret rfl
theorem r_draughts {n k q : Nat} {mn sm : Nat → Nat} (hW : WfX a v n k q mn sm) (hS : SetX a v mn k n) {l : Nat} (hl : l < n) : AXt E 4 mX7_draughts [(0, .ref 0), (1, .int (nI l))] a v t r mn k n (some (.int (dgB a n k q mn sm l 9))) := by
  obtain ⟨⟨hn, hv4⟩, -⟩ := id hW
  obtain ⟨a', v', T, hr, he, h1, hV, hT⟩ := r_traceDraughts (E := E) (t := t) (r := r) hW hS hl
  refine ⟨a', v', va_up t 0 T, ?_, he, Or.inr ⟨h1, hV⟩⟩
  repeat refine Rn.step rfl ?_
  refine Rn.calli rfl rfl rfl (by decide) (r_isLog (nI l)) (fun x0 e0 => ?_)
  refine Rn.br1 rfl (by rw [e0, ib_ne0]; exact by rw [hv4]; exact inB_nI hl (by omega)) ?_
  repeat refine Rn.step rfl ?_
  refine Rn.calli rfl rfl rfl (by decide) hr (fun z f => ?_)
  rw [← f]
  exact Rn.ret rfl
def dgT (a : Nat → Nat → Int32) (n k : Nat) (mn : Nat → Nat) (l : Nat) : Nat → Int64 := fun j => trF (dgX a n k mn l (j / 24)).1 n (j % 24)
theorem r_ask_bad (x : Int32) (hb : ¬ (inB x (v 4))) : Rn E 4 mX7_ask (0, [(0, .ref 0), (1, .int x)], [], wX a v t r) ((some (.int (-2))), wX a v t r) := by
  repeat refine Rn.step rfl ?_
  refine Rn.calli rfl rfl rfl (by decide) (r_isLog x) (fun x0 e0 => ?_)
  refine Rn.br2 rfl (fun h0 => hb (ib_ne0.mp (e0 ▸ h0))) ?_
  repeat refine Rn.step rfl ?_
  exact Rn.ret rfl
theorem r_ask {n k q : Nat} {mn sm : Nat → Nat} (hW : WfX a v n k q mn sm) (hS : SetX a v mn k n) {l : Nat} (hl : l < n) : AXt E 4 mX7_ask [(0, .ref 0), (1, .int (nI l))] a v t r mn k n (some (.int (asF (dgB a n k q mn sm l 9) (dgT a n k mn l)))) := by
  obtain ⟨⟨hn, hv4⟩, -⟩ := id hW
  obtain ⟨a', v', T, hr, he, h1, hV, hT⟩ := r_traceDraughts (E := E) (t := t) (r := r) hW hS hl
  obtain ⟨b, hb⟩ : ∃ b, b = dgB a n k q mn sm l 9 := ⟨_, rfl⟩
  have hA : asF (dgB a n k q mn sm l 9) (dgT a n k mn l) = asF b T := by
    rw [← hb]
    refine (asF_congr (fun m hm => maL_congr (fun d hd hbt => ?_))).symm
    rw [hT d hd (dgB_bt hd (hb ▸ hbt)) m hm]
    unfold dgT
    rw [show ((d + 1) * 24 + m) / 24 = d + 1 by omega, show ((d + 1) * 24 + m) % 24 = m by omega]
  rw [hA]
  rw [← hb] at hr
  refine ⟨a', v', va_up t 0 T, ?_, he, Or.inr ⟨h1, hV⟩⟩
  repeat refine Rn.step rfl ?_
  refine Rn.calli rfl rfl rfl (by decide) (r_isLog (nI l)) (fun x0 e0 => ?_)
  refine Rn.br1 rfl (by rw [e0, ib_ne0]; exact by rw [hv4]; exact inB_nI hl (by omega)) ?_
  repeat refine Rn.step rfl ?_
  refine Rn.calli rfl rfl rfl (by decide) hr (fun z f => ?_)
  subst f
  iterate 7 refine Rn.step rfl ?_
  refine Rn.lp (σ := Int32 × Int32) (cfg := fun m s => (26, [(5, .int (nI m)), (4, .int s.1), (3, .int s.2), (2, .int z), (0, .ref 0), (1, .int (nI l))], [], wX a' v' (va_up t 0 T) r)) (f := fun m s => if maL z T m < s.1 then (maL z T m, nI m) else s) (n := 24) (fun _ _ => True) (fun m s hm _ => ⟨trivial, fun kk => ?_⟩) 24 0 (10, 0) rfl trivial (fun s0 hs0 _ => ?_)
  · rw [nI_succ] at kk
    iterate 2 refine Rn.step rfl ?_
    refine Rn.br2 rfl (nle hm (by decide)) ?_
    repeat refine Rn.step rfl ?_
    refine Rn.calli rfl rfl rfl (by decide) (r_mostAlike z hm) (fun z1 f1 => ?_)
    have f1 : z1 = maL z T m := f1
    iterate 3 refine Rn.step rfl ?_
    refine Rn.br rfl (fun h1 => ?_) (fun h1 => ?_)
    · rw [if_neg (by rw [← f1]; exact Int32.not_lt.mpr h1)] at kk
      iterate 2 refine Rn.step rfl ?_
      exact Rn.sub (by exact ⟨rfl, rfl, rfl, rfl, rfl, rfl, trivial⟩) kk
    · rw [if_pos (by rw [← f1]; exact Int32.not_le.mp h1), ← f1] at kk
      iterate 6 refine Rn.step rfl ?_
      exact Rn.sub (by exact ⟨rfl, rfl, rfl, rfl, rfl, rfl, trivial⟩) kk
  · have hs0 : s0.2 = asF z T := by rw [hs0]; rfl
    repeat refine Rn.step rfl ?_
    rw [← hs0]
    exact Rn.ret rfl
/-- the weight of the events kp, in sixteenths -/
def wtF (k : Nat) (c kp : Int32) : Int64 := lp (fun e w => w * (if bt kp e then c.toInt64 else (16 - c).toInt64)) 0 k 1
def sxF (a : Nat → Nat → Int32) (mn : Nat → Nat) (k n : Nat) (c : Int32) (l : Nat) (m : Nat) : Int64 := lp (fun p s => if ¬ wtF k c (nI p) = 0 ∧ bt (oC a mn k n (nI p)) l then s + wtF k c (nI p) else s) 0 m 0
theorem r_sixteenths {n k q : Nat} {mn sm : Nat → Nat} (hW : WfX a v n k q mn sm) (hS : SetX a v mn k n) (c : Int32) {l : Nat} (hl : l < n) : ∃ (a' : Nat → Nat → Int32) (v' : Nat → Int32), Rn E 3 mX7_sixteenthsOut (0, [(0, .ref 0), (1, .int c), (2, .int (nI l))], [], wX a v t r) (some (.long (sxF a mn k n c l (2 ^ k))), wX a' v' t r) ∧ eqT a v a' v' ∧ v' 1 = 1 ∧ ValX a' mn k n := by
  obtain ⟨a0, v0, hr0, he0, h1, hV0⟩ := r_settle (E := E) (t := t) (r := r) hW hS
  have hW0 := hW.moved he0
  obtain ⟨⟨hn, hv4⟩, ⟨hk, hv5, hmn⟩, -⟩ := id hW0
  have eB : sh1 (v0 5) - 1 = evB k := by rw [hv5]; rfl
  have hp2 : 2 ^ k - 1 < 256 := ev_lt k (by omega)
  have hp1 : 1 ≤ 2 ^ k := Nat.one_le_two_pow
  obtain ⟨N, hN⟩ : ∃ N, N = 2 ^ k := ⟨_, rfl⟩
  have eK : evB k = nI (N - 1) := by rw [hN]; exact evB_nI k (by omega)
  have hN1 : 1 ≤ N := by omega
  have hN2 : N ≤ 256 := by omega
  have hoc := oC_eq he0 mn k n
  rw [← hN]
  have hstep : ∀ (m : Nat) (w : ((Nat → Nat → Int32) × (Nat → Int32)) × Int64), m < N → (StX a0 v0 mn k n w.1 ∧ w.2 = sxF a mn k n c l m) → ∃ w' : ((Nat → Nat → Int32) × (Nat → Int32)) × Int64, (StX a0 v0 mn k n w'.1 ∧ w'.2 = sxF a mn k n c l (m + 1)) ∧ ∀ o, Rn E 3 mX7_sixteenthsOut (18, [(6, .int (nI (m + 1))), (5, .int (nI (N - 1))), (3, .long w'.2), (0, .ref 0), (1, .int c), (2, .int (nI l))], [], wX w'.1.1 w'.1.2 t r) o → Rn E 3 mX7_sixteenthsOut (18, [(6, .int (nI m)), (5, .int (nI (N - 1))), (3, .long w.2), (0, .ref 0), (1, .int c), (2, .int (nI l))], [], wX w.1.1 w.1.2 t r) o := by
    intro m ⟨⟨s1, s2⟩, x⟩ hm ⟨hs, hx⟩
    have hs : StX a0 v0 mn k n (s1, s2) := hs
    have hx : x = sxF a mn k n c l m := hx
    have hv52 : s2 5 = nI k := (hs.1.2 5 (by decide)).trans hv5
    have hxs : sxF a mn k n c l (m + 1) = if ¬ wtF k c (nI m) = 0 ∧ bt (oC a mn k n (nI m)) l then x + wtF k c (nI m) else x := by
      rw [hx]; unfold sxF; rw [lp_end, Nat.zero_add]
    have hwt : ∀ o, Rn E 3 mX7_sixteenthsOut (75, [(9, .int (nI k)), (7, .long (wtF k c (nI m))), (6, .int (nI m)), (5, .int (nI (N - 1))), (3, .long x), (0, .ref 0), (1, .int c), (2, .int (nI l))], [], wX s1 s2 t r) o → Rn E 3 mX7_sixteenthsOut (18, [(6, .int (nI m)), (5, .int (nI (N - 1))), (3, .long x), (0, .ref 0), (1, .int c), (2, .int (nI l))], [], wX s1 s2 t r) o := by
      intro o kk
      iterate 2 refine Rn.step rfl ?_
      refine Rn.br2 rfl (Int32.not_lt.mpr (nI_le (by omega) (by omega))) ?_
      iterate 4 refine Rn.step rfl ?_
      refine Rn.lp (σ := Int64) (cfg := fun e w => (31, [(9, .int (nI e)), (7, .long w), (6, .int (nI m)), (5, .int (nI (N - 1))), (3, .long x), (0, .ref 0), (1, .int c), (2, .int (nI l))], [], wX s1 s2 t r)) (f := fun e w => w * (if bt (nI m) e then c.toInt64 else (16 - c).toInt64)) (n := k) (fun _ _ => True) (fun e w he _ => ⟨trivial, fun k2 => ?_⟩) k 0 1 (by omega) trivial (fun w0 hw0 _ => ?_)
      · rw [nI_succ] at k2
        repeat refine Rn.step rfl ?_
        refine Rn.br2 rfl (by rw [hv52]; exact nle he (by omega)) ?_
        repeat refine Rn.step rfl ?_
        refine Rn.br rfl (fun h1 => ?_) (fun h1 => ?_)
        · rw [if_neg h1] at k2
          iterate 8 refine Rn.step rfl ?_
          exact k2
        · rw [if_pos (Decidable.not_not.mp h1)] at k2
          iterate 7 refine Rn.step rfl ?_
          exact k2
      · have hw0 : w0 = wtF k c (nI m) := hw0
        rw [← hw0] at kk
        repeat refine Rn.step rfl ?_
        refine Rn.br1 rfl (by rw [hv52]; exact nI_le (by omega) (by omega)) ?_
        exact kk
    by_cases hz : wtF k c (nI m) = 0
    · refine ⟨((s1, s2), x), ⟨hs, by rw [hxs, if_neg (fun q => q.1 hz)]⟩, fun o kk => ?_⟩
      dsimp only at kk ⊢
      rw [nI_succ] at kk
      refine hwt _ ?_
      iterate 3 refine Rn.step rfl ?_
      refine Rn.br1 rfl ((lg_cmp_eq _ _).mpr hz) ?_
      iterate 2 refine Rn.step rfl ?_
      exact Rn.sub (by exact ⟨rfl, rfl, rfl, rfl, rfl, rfl, trivial⟩) kk
    · obtain ⟨⟨u1, u2⟩, hr1, hu⟩ := r_oc (E := E) (t := t) (r := r) hW0 h1 hs (x := nI m) rfl (by omega)
      rw [hoc] at hr1
      dsimp only at hr1
      by_cases hb : bt (oC a mn k n (nI m)) l
      · refine ⟨((u1, u2), x + wtF k c (nI m)), ⟨hu, by rw [hxs, if_pos ⟨hz, hb⟩]⟩, fun o kk => ?_⟩
        dsimp only at kk ⊢
        rw [nI_succ] at kk
        refine hwt _ ?_
        iterate 3 refine Rn.step rfl ?_
        refine Rn.br2 rfl (fun q => hz ((lg_cmp_eq _ _).mp q)) ?_
        repeat refine Rn.step rfl ?_
        refine Rn.calli rfl rfl rfl (by decide) hr1 (fun z1 f1 => ?_)
        repeat refine Rn.step rfl ?_
        refine Rn.br2 rfl (fun q => q (by rw [f1]; exact hb)) ?_
        iterate 6 refine Rn.step rfl ?_
        exact Rn.sub (by exact ⟨rfl, rfl, rfl, rfl, rfl, rfl, trivial⟩) kk
      · refine ⟨((u1, u2), x), ⟨hu, by rw [hxs, if_neg (fun q => hb q.2)]⟩, fun o kk => ?_⟩
        dsimp only at kk ⊢
        rw [nI_succ] at kk
        refine hwt _ ?_
        iterate 3 refine Rn.step rfl ?_
        refine Rn.br2 rfl (fun q => hz ((lg_cmp_eq _ _).mp q)) ?_
        repeat refine Rn.step rfl ?_
        refine Rn.calli rfl rfl rfl (by decide) hr1 (fun z1 f1 => ?_)
        repeat refine Rn.step rfl ?_
        refine Rn.br1 rfl (fun q => hb (by rw [f1] at q; exact q)) ?_
        iterate 2 refine Rn.step rfl ?_
        exact Rn.sub (by exact ⟨rfl, rfl, rfl, rfl, rfl, rfl, trivial⟩) kk
  obtain ⟨⟨⟨s1, s2⟩, x⟩, ⟨hs, hx⟩, hgo⟩ := Rn.lpx (E := E) (hh := 3) (M := mX7_sixteenthsOut) (σ := ((Nat → Nat → Int32) × (Nat → Int32)) × Int64) (cfg := fun m w => (18, [(6, .int (nI m)), (5, .int (nI (N - 1))), (3, .long w.2), (0, .ref 0), (1, .int c), (2, .int (nI l))], [], wX w.1.1 w.1.2 t r)) (n := N) (fun m w => StX a0 v0 mn k n w.1 ∧ w.2 = sxF a mn k n c l m) hstep N 0 ((a0, v0), 0) (by omega) ⟨⟨eqO.rf, hV0⟩, rfl⟩
  dsimp only at hgo hx hs
  refine ⟨s1, s2, ?_, he0.trans hs.1.eqT, (hs.1.2 1 (by decide)).trans h1, hs.2⟩
  repeat refine Rn.step rfl ?_
  refine Rn.callv rfl rfl rfl (by decide) hr0 ?_
  repeat refine Rn.step rfl ?_
  refine Rn.calli rfl rfl rfl (by decide) r_bits (fun z1 f1 => ?_)
  rw [eB, eK] at f1
  subst f1
  iterate 3 refine Rn.step rfl ?_
  refine hgo _ ?_
  iterate 2 refine Rn.step rfl ?_
  refine Rn.br1 rfl (nI_lt (by omega) (by omega)) ?_
  refine Rn.step rfl ?_
  rw [← hx]
  exact Rn.ret rfl
/-- halved while both are even -/
def hvF : Nat → Int64 → Int64 → Int64 × Int64
  | 0, x, y => (x, y)
  | f + 1, x, y => if x - x / 2 * 2 = 0 ∧ y - y / 2 * 2 = 0 then hvF f (x / 2) (y / 2) else (x, y)
def chF (k : Nat) (x : Int64) : Int64 × Int64 := if x = 0 then (0, 1) else hvF 32 x ((1 : Int64) <<< ((4 * nI k).toInt64 &&& 63))
theorem r_chance_bad (x y z : Int32) (hb : ¬ (inB x 17 ∧ inB y (v 4) ∧ inB z 2)) : Rn E 4 mX7_chance (0, [(0, .ref 0), (1, .int x), (2, .int y), (3, .int z)], [], wX a v t r) ((some (.long (-9223372036854775806))), wX a v t r) := by
  repeat refine Rn.step rfl ?_
  refine Rn.calli rfl rfl rfl (by decide) (r_within x 17 _) (fun x0 e0 => ?_)
  refine Rn.br rfl (fun h0 => ?_) (fun h0 => ?_)
  · repeat refine Rn.step rfl ?_
    exact Rn.ret rfl
  repeat refine Rn.step rfl ?_
  refine Rn.calli rfl rfl rfl (by decide) (r_isLog y) (fun x1 e1 => ?_)
  refine Rn.br rfl (fun h1 => ?_) (fun h1 => ?_)
  · repeat refine Rn.step rfl ?_
    exact Rn.ret rfl
  repeat refine Rn.step rfl ?_
  refine Rn.calli rfl rfl rfl (by decide) (r_within z 2 _) (fun x2 e2 => ?_)
  refine Rn.br2 rfl (fun h2 => hb (⟨ib_ne0.mp (e0 ▸ h0), ib_ne0.mp (e1 ▸ h1), ib_ne0.mp (e2 ▸ h2)⟩)) ?_
  repeat refine Rn.step rfl ?_
  exact Rn.ret rfl
theorem r_chance0 {n k q : Nat} {mn sm : Nat → Nat} (hW : WfX a v n k q mn sm) (hS : SetX a v mn k n) {c l : Nat} (hc : c < 17) (hl : l < n) : AX E 4 mX7_chance [(0, .ref 0), (1, .int (nI c)), (2, .int (nI l)), (3, .int 0)] a v t r mn k n (some (.long (chF k (sxF a mn k n (nI c) l (2 ^ k))).1)) := by
  obtain ⟨⟨hn, hv4⟩, ⟨hk, hv5, -⟩, -⟩ := id hW
  obtain ⟨a', v', hr, he, h1, hV⟩ := r_sixteenths (E := E) (t := t) (r := r) hW hS (nI c) hl
  have hv5' : v' 5 = nI k := (he.2 5 (by decide)).trans hv5
  obtain ⟨X, hX⟩ : ∃ X, X = sxF a mn k n (nI c) l (2 ^ k) := ⟨_, rfl⟩
  rw [← hX] at hr ⊢
  refine ⟨a', v', ?_, he, Or.inr ⟨h1, hV⟩⟩
  repeat refine Rn.step rfl ?_
  refine Rn.calli rfl rfl rfl (by decide) (r_within (nI c) 17 _) (fun x0 e0 => ?_)
  refine Rn.br2 rfl (by rw [e0, ib_eq0]; exact fun q => q (inB_nI (n := 17) hc (by decide))) ?_
  repeat refine Rn.step rfl ?_
  refine Rn.calli rfl rfl rfl (by decide) (r_isLog (nI l)) (fun x1 e1 => ?_)
  refine Rn.br2 rfl (by rw [e1, ib_eq0]; exact fun q => q (by rw [hv4]; exact inB_nI hl (by omega))) ?_
  repeat refine Rn.step rfl ?_
  refine Rn.calli rfl rfl rfl (by decide) (r_within 0 2 _) (fun x2 e2 => ?_)
  refine Rn.br1 rfl (by rw [e2, ib_ne0]; exact by decide) ?_
  repeat refine Rn.step rfl ?_
  refine Rn.calll rfl rfl rfl (by decide) hr (fun z f => ?_)
  rw [← f]
  iterate 4 refine Rn.step rfl ?_
  unfold chF
  refine Rn.br rfl (fun h1 => ?_) (fun h1 => ?_)
  · rw [if_neg (fun q => h1 ((lg_cmp_eq _ _).mpr q))]
    iterate 5 refine Rn.step rfl ?_
    refine Rn.top hv5' ?_
    iterate 5 refine Rn.step rfl ?_
    have key : ∀ (f m : Nat) (x y : Int64), m + f = 32 → Rn E 4 mX7_chance (70, [(8, .int (nI m)), (6, .long y), (4, .long x), (0, .ref 0), (1, .int (nI c)), (2, .int (nI l)), (3, .int 0)], [], wX a' v' t r) (some (.long (hvF f x y).1), wX a' v' t r) := by
      intro f
      induction f with
      | zero =>
        intro m x y hm
        obtain rfl : m = 32 := by omega
        repeat refine Rn.step rfl ?_
        exact Rn.ret rfl
      | succ f ih =>
        intro m x y hm
        have ih := ih (m + 1)
        rw [nI_succ] at ih
        unfold hvF
        iterate 2 refine Rn.step rfl ?_
        refine Rn.br2 rfl (nle (n := 32) (by omega) (by decide)) ?_
        repeat refine Rn.step rfl ?_
        refine Rn.br rfl (fun h2 => ?_) (fun h2 => ?_)
        · rw [if_neg (fun q => h2 ((lg_cmp_eq _ _).mpr q.1))]
          repeat refine Rn.step rfl ?_
          exact Rn.ret rfl
        · repeat refine Rn.step rfl ?_
          refine Rn.br rfl (fun h3 => ?_) (fun h3 => ?_)
          · rw [if_neg (fun q => h3 ((lg_cmp_eq _ _).mpr q.2))]
            repeat refine Rn.step rfl ?_
            exact Rn.ret rfl
          · rw [if_pos ⟨(lg_cmp_eq _ _).mp (Decidable.not_not.mp h2), (lg_cmp_eq _ _).mp (Decidable.not_not.mp h3)⟩]
            iterate 10 refine Rn.step rfl ?_
            exact Rn.sub (by exact ⟨rfl, rfl, rfl, rfl, rfl, rfl, rfl, trivial⟩) (ih (x / 2) (y / 2) (by omega))
    exact key 32 0 z ((1 : Int64) <<< ((4 * nI k).toInt64 &&& 63)) rfl
  · rw [if_pos ((lg_cmp_eq _ _).mp (Decidable.not_not.mp h1))]
    repeat refine Rn.step rfl ?_
    exact Rn.ret rfl
theorem r_chance1 {n k q : Nat} {mn sm : Nat → Nat} (hW : WfX a v n k q mn sm) (hS : SetX a v mn k n) {c l : Nat} (hc : c < 17) (hl : l < n) : AX E 4 mX7_chance [(0, .ref 0), (1, .int (nI c)), (2, .int (nI l)), (3, .int 1)] a v t r mn k n (some (.long (chF k (sxF a mn k n (nI c) l (2 ^ k))).2)) := by
  obtain ⟨⟨hn, hv4⟩, ⟨hk, hv5, -⟩, -⟩ := id hW
  obtain ⟨a', v', hr, he, h1, hV⟩ := r_sixteenths (E := E) (t := t) (r := r) hW hS (nI c) hl
  have hv5' : v' 5 = nI k := (he.2 5 (by decide)).trans hv5
  obtain ⟨X, hX⟩ : ∃ X, X = sxF a mn k n (nI c) l (2 ^ k) := ⟨_, rfl⟩
  rw [← hX] at hr ⊢
  refine ⟨a', v', ?_, he, Or.inr ⟨h1, hV⟩⟩
  repeat refine Rn.step rfl ?_
  refine Rn.calli rfl rfl rfl (by decide) (r_within (nI c) 17 _) (fun x0 e0 => ?_)
  refine Rn.br2 rfl (by rw [e0, ib_eq0]; exact fun q => q (inB_nI (n := 17) hc (by decide))) ?_
  repeat refine Rn.step rfl ?_
  refine Rn.calli rfl rfl rfl (by decide) (r_isLog (nI l)) (fun x1 e1 => ?_)
  refine Rn.br2 rfl (by rw [e1, ib_eq0]; exact fun q => q (by rw [hv4]; exact inB_nI hl (by omega))) ?_
  repeat refine Rn.step rfl ?_
  refine Rn.calli rfl rfl rfl (by decide) (r_within 1 2 _) (fun x2 e2 => ?_)
  refine Rn.br1 rfl (by rw [e2, ib_ne0]; exact by decide) ?_
  repeat refine Rn.step rfl ?_
  refine Rn.calll rfl rfl rfl (by decide) hr (fun z f => ?_)
  rw [← f]
  iterate 4 refine Rn.step rfl ?_
  unfold chF
  refine Rn.br rfl (fun h1 => ?_) (fun h1 => ?_)
  · rw [if_neg (fun q => h1 ((lg_cmp_eq _ _).mpr q))]
    iterate 5 refine Rn.step rfl ?_
    refine Rn.top hv5' ?_
    iterate 5 refine Rn.step rfl ?_
    have key : ∀ (f m : Nat) (x y : Int64), m + f = 32 → Rn E 4 mX7_chance (70, [(8, .int (nI m)), (6, .long y), (4, .long x), (0, .ref 0), (1, .int (nI c)), (2, .int (nI l)), (3, .int 1)], [], wX a' v' t r) (some (.long (hvF f x y).2), wX a' v' t r) := by
      intro f
      induction f with
      | zero =>
        intro m x y hm
        obtain rfl : m = 32 := by omega
        repeat refine Rn.step rfl ?_
        exact Rn.ret rfl
      | succ f ih =>
        intro m x y hm
        have ih := ih (m + 1)
        rw [nI_succ] at ih
        unfold hvF
        iterate 2 refine Rn.step rfl ?_
        refine Rn.br2 rfl (nle (n := 32) (by omega) (by decide)) ?_
        repeat refine Rn.step rfl ?_
        refine Rn.br rfl (fun h2 => ?_) (fun h2 => ?_)
        · rw [if_neg (fun q => h2 ((lg_cmp_eq _ _).mpr q.1))]
          repeat refine Rn.step rfl ?_
          exact Rn.ret rfl
        · repeat refine Rn.step rfl ?_
          refine Rn.br rfl (fun h3 => ?_) (fun h3 => ?_)
          · rw [if_neg (fun q => h3 ((lg_cmp_eq _ _).mpr q.2))]
            repeat refine Rn.step rfl ?_
            exact Rn.ret rfl
          · rw [if_pos ⟨(lg_cmp_eq _ _).mp (Decidable.not_not.mp h2), (lg_cmp_eq _ _).mp (Decidable.not_not.mp h3)⟩]
            iterate 10 refine Rn.step rfl ?_
            exact Rn.sub (by exact ⟨rfl, rfl, rfl, rfl, rfl, rfl, rfl, trivial⟩) (ih (x / 2) (y / 2) (by omega))
    exact key 32 0 z ((1 : Int64) <<< ((4 * nI k).toInt64 &&& 63)) rfl
  · rw [if_pos ((lg_cmp_eq _ _).mp (Decidable.not_not.mp h1))]
    repeat refine Rn.step rfl ?_
    exact Rn.ret rfl
/-- the lots -/
def loN (x : Int32) : Int32 := 1103515245 * x + 12345
def loV (x : Int32) : Int32 := us x 16 - us x 16 / 10 * 10
def seS (n : Nat) (x : Int32 × (Nat → Int32)) (m : Nat) : Int32 × (Nat → Int32) := lp (fun s x => (loN x.1, upd x.2 s (if s < n then loV (loN x.1) else 0))) 0 m x
def seF (seed : Int32) (n : Nat) (f : Nat → Int32) : Nat → Int32 := (seS n (seed, f) 16).2
theorem cwl_congr {kda nu : Nat → Int32} {mn : Nat → Nat} {k : Nat} {f g : Nat → Int32} {kp : Int32} (h : ∀ s, s < 16 → f s = g s) {j : Nat} (hj : j < 384) : cwl kda nu mn k f kp j = cwl kda nu mn k g kp j := wl_ind _ _ h (fun _ _ => rfl) (fun _ _ => rfl) hj
theorem seF_ind (seed : Int32) (n : Nat) (f g : Nat → Int32) {s : Nat} (hs : s < 16) : seF seed n f s = seF seed n g s := by
  have h := lp_rel (f := fun s (x : Int32 × (Nat → Int32)) => (loN x.1, upd x.2 s (if s < n then loV (loN x.1) else 0))) (g := fun s (x : Int32 × (Nat → Int32)) => (loN x.1, upd x.2 s (if s < n then loV (loN x.1) else 0))) (fun c x y => x.1 = y.1 ∧ ∀ s, s < c → x.2 s = y.2 s) (i := 0) (j := 16) (s := (seed, f)) (u := (seed, g)) ⟨rfl, fun s hs => absurd hs (Nat.not_lt_zero _)⟩ (fun c x y _ _ hx => ⟨by rw [hx.1], fun s hs => by
    show upd x.2 c _ s = upd y.2 c _ s
    rw [hx.1]
    by_cases h : s = c
    · subst h; rw [pk_us, pk_us]
    · rw [pk_un h, pk_un h]; exact hx.2 s (by omega)⟩)
  exact h.2 s (by omega)
abbrev seD (a : Nat → Nat → Int32) (n k : Nat) (mn : Nat → Nat) (seed : Int32) (N : Nat) : dS := crn (a 10) (a 12) mn k n (a 4) (a 7) (a 8) (a 6) (cwl (a 10) (a 12) mn k (seF seed N z0) (evB k)) (evB k)
theorem r_seasons_bad (x y z : Int32) (hb : ¬ (inB y 17 ∧ inB z 2)) : Rn E 2 mX7_seasons (0, [(0, .ref 0), (1, .int x), (2, .int y), (3, .int z)], [], wX a v t r) ((some (.int (-2))), wX a v t r) := by
  repeat refine Rn.step rfl ?_
  refine Rn.calli rfl rfl rfl (by decide) (r_within y 17 _) (fun x0 e0 => ?_)
  refine Rn.br rfl (fun h0 => ?_) (fun h0 => ?_)
  · repeat refine Rn.step rfl ?_
    exact Rn.ret rfl
  repeat refine Rn.step rfl ?_
  refine Rn.calli rfl rfl rfl (by decide) (r_within z 2 _) (fun x1 e1 => ?_)
  refine Rn.br2 rfl (fun h1 => hb (⟨ib_ne0.mp (e0 ▸ h0), ib_ne0.mp (e1 ▸ h1)⟩)) ?_
  repeat refine Rn.step rfl ?_
  exact Rn.ret rfl
theorem r_seasons0 {n k q : Nat} {mn sm : Nat → Nat} (hW : WfX a v n k q mn sm) (hS : SetX a v mn k n) (x : Int32) {N : Nat} (hN : N < 17) : AX E 2 mX7_seasons [(0, .ref 0), (1, .int x), (2, .int (nI N)), (3, .int 0)] a v t r mn k n (some (.int (bcF (obF (seD a n k mn x N).1 n)))) := by
  obtain ⟨⟨hn, hv4⟩, ⟨hk, hv5, hmn⟩, -⟩ := id hW
  have eB : sh1 (v 5) - 1 = evB k := by rw [hv5]; rfl
  obtain ⟨F, hF⟩ : ∃ F, F = seF x N (a 36) := ⟨_, rfl⟩
  obtain ⟨a1, ha1⟩ : ∃ a1, a1 = va_up a 36 F := ⟨_, rfl⟩
  have hs1 : eqS a v a1 v := by rw [ha1]; exact eqS.rf.up 36 (by decide) _
  have i11 := hs1.1 11 (by decide)
  have e36 : a1 36 = F := by rw [ha1]; rfl
  obtain ⟨a2, hr2, hs2, hw2⟩ := r_oPour (E := E) (a := a1) (v := v) (t := t) (r := r) (evB k) (F := 36) (Or.inr rfl) hk hv5 (mn := mn) (by rw [i11]; exact hmn)
  rw [hs1.1 10 (by decide), hs1.1 12 (by decide), e36] at hw2
  have h2 := hs1.trans hs2
  have j11 := h2.1 11 (by decide)
  obtain ⟨a3, v3, hr3, hs3, -, -, hH⟩ := r_oRun (E := E) (a := a2) (v := v) (t := t) (r := r) (W := 27) (Or.inr rfl) (evB k) hn hv4 hk hv5 (mn := mn) (by rw [j11]; exact hmn) (wl := cwl (a 10) (a 12) mn k (seF x N z0) (evB k)) (fun j hj => by rw [hw2 j hj, hF]; exact cwl_congr (fun s hs => seF_ind _ _ _ _ hs) hj)
  rw [h2.1 10 (by decide), h2.1 12 (by decide), h2.1 4 (by decide), h2.1 7 (by decide), h2.1 8 (by decide), h2.1 6 (by decide)] at hH
  have h3 := h2.trans hs3
  have hH : HdS a3 n (seD a n k mn x N) := hH
  have hv43 : v3 4 = nI n := (h3.2 4 (by decide)).trans hv4
  refine ⟨a3, v3, ?_, h3.eqT, SetX_congr (fun j hj => h3.1 j (by intro q; simp only [List.mem_cons, List.not_mem_nil, or_false] at hj q; omega)) (h3.2 1 (by decide)) hS⟩
  repeat refine Rn.step rfl ?_
  refine Rn.calli rfl rfl rfl (by decide) (r_within (nI N) 17 _) (fun x0 e0 => ?_)
  refine Rn.br2 rfl (by rw [e0, ib_eq0]; exact fun q => q (inB_nI (n := 17) hN (by decide))) ?_
  repeat refine Rn.step rfl ?_
  refine Rn.calli rfl rfl rfl (by decide) (r_within 0 2 _) (fun x1 e1 => ?_)
  refine Rn.br1 rfl (by rw [e1, ib_ne0]; exact by decide) ?_
  iterate 4 refine Rn.step rfl ?_
  refine Rn.lp (σ := Int32 × (Nat → Int32)) (cfg := fun s y => (26, [(5, .int (nI s)), (4, .int y.1), (0, .ref 0), (1, .int x), (2, .int (nI N)), (3, .int 0)], [], wX (va_up a 36 y.2) v t r)) (f := fun s y => (loN y.1, upd y.2 s (if s < N then loV (loN y.1) else 0))) (n := 16) (fun _ _ => True) (fun s y hs _ => ⟨trivial, fun kk => ?_⟩) 16 0 (x, a 36) rfl trivial (fun y0 hy0 _ => ?_)
  · rw [nI_succ] at kk
    iterate 2 refine Rn.step rfl ?_
    refine Rn.br2 rfl (nle hs (by decide)) ?_
    iterate 11 refine Rn.step rfl ?_
    refine Rn.br rfl (fun h1 => ?_) (fun h1 => ?_)
    · rw [if_neg (fun q => absurd h1 (nle q (by omega)))] at kk
      iterate 1 refine Rn.step rfl ?_
      refine Rn.ast s rfl rfl hs (by decide) (h3 := wX (va_up a 36 (upd y.2 s 0)) v t r) rfl ?_
      iterate 2 refine Rn.step rfl ?_
      exact Rn.sub (by exact ⟨rfl, rfl, rfl, rfl, rfl, rfl, trivial⟩) kk
    · rw [if_pos (Nat.lt_of_not_le (fun q => h1 (nI_le q (by omega))))] at kk
      iterate 6 refine Rn.step rfl ?_
      refine Rn.ast s rfl rfl hs (by decide) (h3 := wX (va_up a 36 (upd y.2 s (loV (loN y.1)))) v t r) rfl ?_
      iterate 2 refine Rn.step rfl ?_
      exact Rn.sub (by exact ⟨rfl, rfl, rfl, rfl, rfl, rfl, trivial⟩) kk
  · have hy : y0.2 = F := by rw [hy0, hF]; rfl
    rw [hy, ← ha1]
    repeat refine Rn.step rfl ?_
    refine Rn.calli rfl rfl rfl (by decide) r_bits (fun z1 f1 => ?_)
    rw [eB] at f1
    subst f1
    refine Rn.callv rfl rfl rfl (by decide) hr2 ?_
    repeat refine Rn.step rfl ?_
    refine Rn.calli rfl rfl rfl (by decide) r_bits (fun z2 f2 => ?_)
    rw [eB] at f2
    subst f2
    refine Rn.callv rfl rfl rfl (by decide) hr3 ?_
    repeat refine Rn.step rfl ?_
    refine Rn.calli rfl rfl rfl (by decide) (r_outBits2 hn hv43) (fun z3 f3 => ?_)
    rw [obF_congr (fun l hl => (hH 23 l (by decide) hl).1)] at f3
    refine Rn.calli rfl rfl rfl (by decide) (r_bitCount z3 _) (fun z4 f4 => ?_)
    rw [f3] at f4
    rw [← f4]
    exact Rn.ret rfl
theorem r_seasons1 {n k q : Nat} {mn sm : Nat → Nat} (hW : WfX a v n k q mn sm) (hS : SetX a v mn k n) (x : Int32) {N : Nat} (hN : N < 17) : AX E 2 mX7_seasons [(0, .ref 0), (1, .int x), (2, .int (nI N)), (3, .int 1)] a v t r mn k n (some (.int (maF (seD a n k mn x N).2.1 n 1))) := by
  obtain ⟨⟨hn, hv4⟩, ⟨hk, hv5, hmn⟩, -⟩ := id hW
  have eB : sh1 (v 5) - 1 = evB k := by rw [hv5]; rfl
  obtain ⟨F, hF⟩ : ∃ F, F = seF x N (a 36) := ⟨_, rfl⟩
  obtain ⟨a1, ha1⟩ : ∃ a1, a1 = va_up a 36 F := ⟨_, rfl⟩
  have hs1 : eqS a v a1 v := by rw [ha1]; exact eqS.rf.up 36 (by decide) _
  have i11 := hs1.1 11 (by decide)
  have e36 : a1 36 = F := by rw [ha1]; rfl
  obtain ⟨a2, hr2, hs2, hw2⟩ := r_oPour (E := E) (a := a1) (v := v) (t := t) (r := r) (evB k) (F := 36) (Or.inr rfl) hk hv5 (mn := mn) (by rw [i11]; exact hmn)
  rw [hs1.1 10 (by decide), hs1.1 12 (by decide), e36] at hw2
  have h2 := hs1.trans hs2
  have j11 := h2.1 11 (by decide)
  obtain ⟨a3, v3, hr3, hs3, -, -, hH⟩ := r_oRun (E := E) (a := a2) (v := v) (t := t) (r := r) (W := 27) (Or.inr rfl) (evB k) hn hv4 hk hv5 (mn := mn) (by rw [j11]; exact hmn) (wl := cwl (a 10) (a 12) mn k (seF x N z0) (evB k)) (fun j hj => by rw [hw2 j hj, hF]; exact cwl_congr (fun s hs => seF_ind _ _ _ _ hs) hj)
  rw [h2.1 10 (by decide), h2.1 12 (by decide), h2.1 4 (by decide), h2.1 7 (by decide), h2.1 8 (by decide), h2.1 6 (by decide)] at hH
  have h3 := h2.trans hs3
  have hH : HdS a3 n (seD a n k mn x N) := hH
  have hv43 : v3 4 = nI n := (h3.2 4 (by decide)).trans hv4
  refine ⟨a3, v3, ?_, h3.eqT, SetX_congr (fun j hj => h3.1 j (by intro q; simp only [List.mem_cons, List.not_mem_nil, or_false] at hj q; omega)) (h3.2 1 (by decide)) hS⟩
  repeat refine Rn.step rfl ?_
  refine Rn.calli rfl rfl rfl (by decide) (r_within (nI N) 17 _) (fun x0 e0 => ?_)
  refine Rn.br2 rfl (by rw [e0, ib_eq0]; exact fun q => q (inB_nI (n := 17) hN (by decide))) ?_
  repeat refine Rn.step rfl ?_
  refine Rn.calli rfl rfl rfl (by decide) (r_within 1 2 _) (fun x1 e1 => ?_)
  refine Rn.br1 rfl (by rw [e1, ib_ne0]; exact by decide) ?_
  iterate 4 refine Rn.step rfl ?_
  refine Rn.lp (σ := Int32 × (Nat → Int32)) (cfg := fun s y => (26, [(5, .int (nI s)), (4, .int y.1), (0, .ref 0), (1, .int x), (2, .int (nI N)), (3, .int 1)], [], wX (va_up a 36 y.2) v t r)) (f := fun s y => (loN y.1, upd y.2 s (if s < N then loV (loN y.1) else 0))) (n := 16) (fun _ _ => True) (fun s y hs _ => ⟨trivial, fun kk => ?_⟩) 16 0 (x, a 36) rfl trivial (fun y0 hy0 _ => ?_)
  · rw [nI_succ] at kk
    iterate 2 refine Rn.step rfl ?_
    refine Rn.br2 rfl (nle hs (by decide)) ?_
    iterate 11 refine Rn.step rfl ?_
    refine Rn.br rfl (fun h1 => ?_) (fun h1 => ?_)
    · rw [if_neg (fun q => absurd h1 (nle q (by omega)))] at kk
      iterate 1 refine Rn.step rfl ?_
      refine Rn.ast s rfl rfl hs (by decide) (h3 := wX (va_up a 36 (upd y.2 s 0)) v t r) rfl ?_
      iterate 2 refine Rn.step rfl ?_
      exact Rn.sub (by exact ⟨rfl, rfl, rfl, rfl, rfl, rfl, trivial⟩) kk
    · rw [if_pos (Nat.lt_of_not_le (fun q => h1 (nI_le q (by omega))))] at kk
      iterate 6 refine Rn.step rfl ?_
      refine Rn.ast s rfl rfl hs (by decide) (h3 := wX (va_up a 36 (upd y.2 s (loV (loN y.1)))) v t r) rfl ?_
      iterate 2 refine Rn.step rfl ?_
      exact Rn.sub (by exact ⟨rfl, rfl, rfl, rfl, rfl, rfl, trivial⟩) kk
  · have hy : y0.2 = F := by rw [hy0, hF]; rfl
    rw [hy, ← ha1]
    repeat refine Rn.step rfl ?_
    refine Rn.calli rfl rfl rfl (by decide) r_bits (fun z1 f1 => ?_)
    rw [eB] at f1
    subst f1
    refine Rn.callv rfl rfl rfl (by decide) hr2 ?_
    repeat refine Rn.step rfl ?_
    refine Rn.calli rfl rfl rfl (by decide) r_bits (fun z2 f2 => ?_)
    rw [eB] at f2
    subst f2
    refine Rn.callv rfl rfl rfl (by decide) hr3 ?_
    repeat refine Rn.step rfl ?_
    refine Rn.calli rfl rfl rfl (by decide) (r_minAll2 hn hv43 1) (fun z3 f3 => ?_)
    rw [maF_congr (fun i l hi hl => (hH i l hi hl).2)] at f3
    rw [← f3]
    exact Rn.ret rfl
end XG
