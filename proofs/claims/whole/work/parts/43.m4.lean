section M4
variable {E : iExtT} {ax : Nat → Nat → Int32} {vx : Nat → Int32} {tx : Nat → Nat → Int64} {a : Nat → Nat → Int32} {v : Nat → Int32} {t : Nat → Nat → Int64}
theorem m_floats {n k m hd : Nat} (hn : n ≤ 8) (hv : v 31 = nI n) (hk : k < 8) (P : Bool) (p : Int32) (hp : ¬ p = 0 ↔ P = true) (hp1 : p = 0 ∨ p = 1) (s : g5) (hH : s.1 k = nI hd) (hhd : hd < 16) (hT : s.2.1 k = 0) : Rn E 3 mX8_floats (0, [(0, .ref 53), (1, .int (nI m)), (2, .int (nI k)), (3, .int p)], [], wY ax vx tx (w5 a s) v t) (none, wY ax vx tx (w5 a (g5u m k s (mvF P (a 64) (a 62 (3 * k + 1)) (gbk s.1 (a 62) n k) (a 60 hd + p) 17 0 hd))) v t) := by
  have hfin : ∀ (r : Nat × Nat) (L : List (Nat × Value)), r.1 ≤ 16 → iSb [(0, .ref 53), (1, .int (nI m)), (2, .int (nI k)), (3, .int p)] L → Rn E 3 mX8_floats (165, L, [], wY ax vx tx (w5 a (upd s.1 k (nI r.1), (if r.2 = 0 then s.2.1 else upd s.2.1 k (nI r.2)), s.2.2.1, (if r.2 = 1 then upd s.2.2.2.1 k (s.2.2.2.1 k + 1) else s.2.2.2.1), (if r.2 = 2 then upd s.2.2.2.2 k (s.2.2.2.2 k + 1) else s.2.2.2.2))) v t) (none, wY ax vx tx (w5 a (g5u m k s r)) v t) := by
    intro r L hr hL
    refine Rn.sub hL ?_
    iterate 3 refine Rn.step rfl ?_
    refine Rn.ald k rfl rfl hk (by decide) ?_
    refine Rn.top (x' := nI r.1) pk_us ?_
    refine Rn.step rfl ?_
    unfold g5u
    by_cases h16 : r.1 = 16
    · refine Rn.br2 rfl (fun q => q (by rw [h16]; rfl)) ?_
      rw [if_pos h16]
      iterate 4 refine Rn.step rfl ?_
      refine Rn.ast k rfl rfl hk (by decide) (h3 := wY ax vx tx (w5 a (upd s.1 k (nI r.1), (if r.2 = 0 then s.2.1 else upd s.2.1 k (nI r.2)), upd s.2.2.1 k (nI m), (if r.2 = 1 then upd s.2.2.2.1 k (s.2.2.2.1 k + 1) else s.2.2.2.1), (if r.2 = 2 then upd s.2.2.2.2 k (s.2.2.2.2 k + 1) else s.2.2.2.2))) v t) rfl ?_
      exact Rn.ret rfl
    · refine Rn.br1 rfl (fun q => h16 ((nI_eq (b := 16) (by omega) (by decide)).mp q)) ?_
      rw [if_neg h16]
      exact Rn.ret rfl
  have key : ∀ (st : Int32) (f i h : Nat), h ≤ 16 → 17 ≤ f + h → Rn E 3 mX8_floats (26, [(5, .int (nI i)), (4, .int st), (0, .ref 53), (1, .int (nI m)), (2, .int (nI k)), (3, .int p)], [], wY ax vx tx (w5 a (upd s.1 k (nI h), s.2)) v t) (none, wY ax vx tx (w5 a (g5u m k s (mvF P (a 64) (a 62 (3 * k + 1)) (gbk s.1 (a 62) n k) st f i h))) v t) := by
    intro st f
    induction f with
    | zero => intro i h h1 h2; omega
    | succ f ih =>
      intro i h h1 h2
      unfold mvF
      iterate 2 refine Rn.step rfl ?_
      by_cases hs : st ≤ nI i
      · refine Rn.br1 rfl hs ?_
        rw [if_pos (Or.inl hs)]
        exact hfin (h, 0) _ h1 ⟨rfl, rfl, rfl, rfl, trivial⟩
      · refine Rn.br2 rfl hs ?_
        iterate 3 refine Rn.step rfl ?_
        refine Rn.ald k rfl rfl hk (by decide) ?_
        refine Rn.br2 rfl (fun q => q hT) ?_
        iterate 3 refine Rn.step rfl ?_
        refine Rn.ald k rfl rfl hk (by decide) ?_
        refine Rn.top (x' := nI h) pk_us ?_
        refine Rn.step rfl ?_
        by_cases h16 : 16 ≤ h
        · refine Rn.br1 rfl (nI_le (a := 16) h16 (by omega)) ?_
          rw [if_pos (Or.inr h16)]
          exact hfin (h, 0) _ h1 ⟨rfl, rfl, rfl, rfl, trivial⟩
        · refine Rn.br2 rfl (nle (n := 16) (by omega) (by decide)) ?_
          rw [if_neg (by rintro (q | q); exact hs q; exact h16 q)]
          have hgo2 : ¬ (P = false ∧ a 64 h < a 62 (3 * k + 1)) → Rn E 3 mX8_floats (101, [(5, .int (nI i)), (4, .int st), (0, .ref 53), (1, .int (nI m)), (2, .int (nI k)), (3, .int p)], [], wY ax vx tx (w5 a (upd s.1 k (nI h), s.2)) v t) (none, wY ax vx tx (w5 a (g5u m k s (if P = false ∧ a 64 h < a 62 (3 * k + 1) then (h, 1) else if gbk s.1 (a 62) n k h = true then (h, 2) else mvF P (a 64) (a 62 (3 * k + 1)) (gbk s.1 (a 62) n k) st f (i + 1) (h + 1)))) v t) := by
            intro hno
            rw [if_neg hno]
            have hgo3 : ¬ gbk s.1 (a 62) n k h = true → Rn E 3 mX8_floats (149, [(5, .int (nI i)), (4, .int st), (0, .ref 53), (1, .int (nI m)), (2, .int (nI k)), (3, .int p)], [], wY ax vx tx (w5 a (upd s.1 k (nI h), s.2)) v t) (none, wY ax vx tx (w5 a (g5u m k s (if gbk s.1 (a 62) n k h = true then (h, 2) else mvF P (a 64) (a 62 (3 * k + 1)) (gbk s.1 (a 62) n k) st f (i + 1) (h + 1)))) v t) := by
              intro hnb
              rw [if_neg hnb]
              iterate 4 refine Rn.step rfl ?_
              refine Rn.ald k rfl rfl hk (by decide) ?_
              refine Rn.top (x' := nI h) pk_us ?_
              iterate 2 refine Rn.step rfl ?_
              refine Rn.top (nI_1 h) ?_
              refine Rn.ast k rfl rfl hk (by decide) (h3 := wY ax vx tx (w5 a (upd s.1 k (nI (h + 1)), s.2)) v t) (by rw [← upd_upd s.1 k (nI h) (nI (h + 1))]; rfl) ?_
              iterate 2 refine Rn.step rfl ?_
              have ih := ih (i + 1) (h + 1) (by omega) (by omega)
              rw [nI_succ i] at ih
              exact ih
            iterate 3 refine Rn.step rfl ?_
            refine Rn.ald k rfl rfl hk (by decide) ?_
            refine Rn.top (x' := nI h) pk_us ?_
            refine Rn.step rfl ?_
            by_cases h15 : h < 15
            · refine Rn.br2 rfl (nle (n := 15) h15 (by decide)) ?_
              iterate 5 refine Rn.step rfl ?_
              refine Rn.ald k rfl rfl hk (by decide) ?_
              refine Rn.top (x' := nI h) pk_us ?_
              iterate 2 refine Rn.step rfl ?_
              refine Rn.top (nI_1 h) ?_
              refine Rn.calli rfl rfl rfl (by decide) (m_whoBut hn hv hk (nI (h + 1))) (fun z fz => ?_)
              have fz : z = wbF s.1 (a 62) n k (nI (h + 1)) := fz.trans wbF_upd
              refine Rn.step rfl ?_
              refine Rn.br rfl (fun h3 => ?_) (fun h3 => ?_)
              · exact hgo3 (by rw [decide_eq_true_eq]; exact fun q => q.2 (fz.symm.trans h3))
              · have hb : gbk s.1 (a 62) n k h = true := decide_eq_true ⟨h15, fun q => h3 (fz.trans q)⟩
                rw [if_pos hb]
                iterate 4 refine Rn.step rfl ?_
                refine Rn.ast k rfl rfl hk (by decide) (h3 := wY ax vx tx (w5 a (upd s.1 k (nI h), upd s.2.1 k 2, s.2.2)) v t) rfl ?_
                iterate 4 refine Rn.step rfl ?_
                refine Rn.ald k rfl rfl hk (by decide) ?_
                iterate 2 refine Rn.step rfl ?_
                refine Rn.ast k rfl rfl hk (by decide) (h3 := wY ax vx tx (w5 a (upd s.1 k (nI h), upd s.2.1 k 2, s.2.2.1, s.2.2.2.1, upd s.2.2.2.2 k (s.2.2.2.2 k + 1))) v t) rfl ?_
                iterate 5 refine Rn.step rfl ?_
                refine Rn.br rfl (fun _ => ?_) (fun _ => ?_)
                · exact hfin (h, 2) _ h1 ⟨rfl, rfl, rfl, rfl, trivial⟩
                · iterate 3 refine Rn.step rfl ?_
                  refine Rn.ald k rfl rfl hk (by decide) ?_
                  refine Rn.top (x' := 2) pk_us ?_
                  refine Rn.step rfl ?_
                  exact hfin (h, 2) _ h1 ⟨rfl, rfl, rfl, rfl, trivial⟩
            · refine Rn.br1 rfl (nI_le (a := 15) (by omega) (by omega)) ?_
              exact hgo3 (by rw [decide_eq_true_eq]; exact fun q => h15 q.1)
          refine Rn.step rfl ?_
          refine Rn.br rfl (fun h3 => ?_) (fun h3 => ?_)
          · exact hgo2 (fun q => by rw [hp.mp h3] at q; exact absurd q.1 (by decide))
          · have hP : P = false := by
              cases P with
              | false => rfl
              | true => exact absurd (hp.mpr rfl) h3
            iterate 5 refine Rn.step rfl ?_
            refine Rn.ald k rfl rfl hk (by decide) ?_
            refine Rn.top (x' := nI h) pk_us ?_
            refine Rn.ald h rfl rfl (by omega) (by decide) ?_
            iterate 7 refine Rn.step rfl ?_
            refine Rn.ald (3 * k + 1) rfl (ix_am 3 k 1) (by omega) (by decide) ?_
            refine Rn.br rfl (fun h4 => ?_) (fun h4 => ?_)
            · exact hgo2 (fun q => absurd q.2 (Int32.not_lt.mpr h4))
            · have hag : P = false ∧ a 64 h < a 62 (3 * k + 1) := ⟨hP, Int32.not_le.mp h4⟩
              rw [if_pos hag]
              iterate 4 refine Rn.step rfl ?_
              refine Rn.ast k rfl rfl hk (by decide) (h3 := wY ax vx tx (w5 a (upd s.1 k (nI h), upd s.2.1 k 1, s.2.2)) v t) rfl ?_
              iterate 4 refine Rn.step rfl ?_
              refine Rn.ald k rfl rfl hk (by decide) ?_
              iterate 2 refine Rn.step rfl ?_
              refine Rn.ast k rfl rfl hk (by decide) (h3 := wY ax vx tx (w5 a (upd s.1 k (nI h), upd s.2.1 k 1, s.2.2.1, upd s.2.2.2.1 k (s.2.2.2.1 k + 1), s.2.2.2.2)) v t) rfl ?_
              iterate 5 refine Rn.step rfl ?_
              refine Rn.br rfl (fun _ => ?_) (fun _ => ?_)
              · exact hfin (h, 1) _ h1 ⟨rfl, rfl, rfl, rfl, trivial⟩
              · iterate 3 refine Rn.step rfl ?_
                refine Rn.ald k rfl rfl hk (by decide) ?_
                refine Rn.top (x' := 1) pk_us ?_
                refine Rn.step rfl ?_
                exact hfin (h, 1) _ h1 ⟨rfl, rfl, rfl, rfl, trivial⟩
  have k0 := key (a 60 hd + p) 17 0 hd (by omega) (by omega)
  rw [show (upd s.1 k (nI hd), s.2) = s by rw [← hH, upd_self]] at k0
  iterate 5 refine Rn.step rfl ?_
  refine Rn.ald k rfl rfl hk (by decide) ?_
  refine Rn.top (x' := nI hd) hH ?_
  refine Rn.ald hd rfl rfl hhd (by decide) ?_
  refine Rn.step rfl ?_
  refine Rn.br rfl (fun h1 => ?_) (fun h1 => ?_)
  · rw [h1] at k0 ⊢
    iterate 5 refine Rn.step rfl ?_
    exact k0
  · have h1 := hp1.resolve_left h1
    rw [h1] at k0 ⊢
    iterate 6 refine Rn.step rfl ?_
    exact k0
/-- one log in its turn: x.2 those that have gone -/
def gkF (sl wt lo : Nat → Int32) (n m : Nat) (po : Int32) (sp k : Nat) (x : g5 × Int32) : g5 × Int32 := if x.1.1 k = nI sp ∧ ¬ bt x.2 k then (g5u m k x.1 (mvF (decide (bt po k)) wt (lo (3 * k + 1)) (gbk x.1.1 lo n k) (sl sp + ib (bt po k)) 17 0 sp), x.2 ||| sh1 (nI k)) else x
def gsF (sl wt lo : Nat → Int32) (n m : Nat) (po : Int32) (x : g5 × Int32) (j : Nat) : g5 × Int32 := lp (fun j x => lp (fun k x => gkF sl wt lo n m po (15 - j) k x) 0 n x) 0 j x
def gpF (lo : Nat → Int32) (n m : Nat) (H : Nat → Int32) (j : Nat) : Nat → Int32 := lp (fun k H => if (H k = -1 ∧ ¬ nI m < lo (3 * k)) ∧ wbF H lo n k 0 = -1 then upd H k 0 else H) 0 j H
def zrT (n : Nat) (T : Nat → Int32) : Nat → Int32 := lp (fun k T => upd T k 0) 0 n T
def lgA (sl wt lo : Nat → Int32) (n m : Nat) (po : Int32) (s : g5) : g5 := (gpF lo n m (gsF sl wt lo n m po ((s.1, zrT n s.2.1, s.2.2), 0) 16).1.1 n, (gsF sl wt lo n m po ((s.1, zrT n s.2.1, s.2.2), 0) 16).1.2)
theorem zrT_0 {n : Nat} (T : Nat → Int32) {k : Nat} (hk : k < n) : zrT n T k = 0 := by
  have h := lp_inv (f := fun m (g : Nat → Int32) => upd g m 0) (fun i g => ∀ m, m < i → g m = 0) (i := 0) (j := n) (s := T) (fun m h => absurd h (Nat.not_lt_zero _)) (fun k g _ _ hI m hm => by
    by_cases hx : m = k
    · subst hx; exact pk_us
    · rw [pk_un hx]; exact hI m (by omega))
  exact h k (by omega)
/-- who has not gone is in no trouble -/
def gI (n : Nat) (x : g5 × Int32) : Prop := ∀ k, k < n → ¬ bt x.2 k → x.1.2.1 k = 0
theorem bt_or {x : Int32} {k j : Nat} (hk : k < 32) (hj : j < 32) : bt (x ||| sh1 (nI k)) j ↔ bt x j ∨ j = k := by
  rw [bt_gb hj, bt_gb hj, gb_or, gb_sh1 hk hj, Bool.or_eq_true, decide_eq_true_eq]
theorem gkF_I {sl wt lo : Nat → Int32} {n m : Nat} {po : Int32} {sp k : Nat} {x : g5 × Int32} (hn : n ≤ 8) (hk : k < n) (h : gI n x) : gI n (gkF sl wt lo n m po sp k x) := by
  unfold gkF
  split
  · intro j hj hb
    rw [bt_or (by omega) (by omega)] at hb
    have hjk : ¬ j = k := fun q => hb (Or.inr q)
    have h0 := h j hj (fun q => hb (Or.inl q))
    unfold g5u
    dsimp only
    split
    · exact h0
    · rw [pk_un hjk]; exact h0
  · exact h
theorem m_logsGo {n k m : Nat} (hn : n ≤ 8) (hv : v 31 = nI n) (hk : k ≤ 8) (hv2 : v 32 = nI k) (hm : m < 24) (s : g5) : Rn E 4 mX8_logsGo (0, [(0, .ref 53), (1, .int (nI m))], [], wY ax vx tx (w5 a s) v t) (none, wY ax vx tx (w5 a (lgA (a 60) (a 64) (a 62) n m (tdF (a 63) k (v 33) 0 (nI m)) s)) v t) := by
  iterate 3 refine Rn.step rfl ?_
  refine Rn.calli rfl rfl rfl (by decide) (m_told 0 (nI m) hk hv2) (fun po fpo => ?_)
  have fpo : po = tdF (a 63) k (v 33) 0 (nI m) := fpo
  rw [← fpo]
  iterate 5 refine Rn.step rfl ?_
  refine Rn.lp (σ := Nat → Int32) (cfg := fun i T => (12, [(4, .int (nI i)), (3, .int 0), (2, .int po), (0, .ref 53), (1, .int (nI m))], [], wY ax vx tx (w5 a (s.1, T, s.2.2)) v t)) (f := fun i T => upd T i 0) (n := n) (fun _ _ => True) (fun i T hi _ => ⟨trivial, fun kk => ?_⟩) n 0 s.2.1 (by omega) trivial (fun T0 hT0 _ => ?_)
  · rw [nI_succ] at kk
    iterate 3 refine Rn.step rfl ?_
    refine Rn.br2 rfl (by show ¬ v 31 ≤ nI i; rw [hv]; exact nle hi (by omega)) ?_
    iterate 4 refine Rn.step rfl ?_
    refine Rn.ast i rfl rfl (by omega) (by decide) (h3 := wY ax vx tx (w5 a (s.1, upd T i 0, s.2.2)) v t) rfl ?_
    iterate 2 refine Rn.step rfl ?_
    exact kk
  · have hT0 : T0 = zrT n s.2.1 := hT0
    iterate 3 refine Rn.step rfl ?_
    refine Rn.br1 rfl (by show v 31 ≤ nI n; rw [hv]; exact nI_le (by omega) (by omega)) ?_
    iterate 2 refine Rn.step rfl ?_
    have hI0 : gI n ((s.1, zrT n s.2.1, s.2.2), 0) := fun k hk _ => zrT_0 _ hk
    rw [hT0]
    refine Rn.lp (σ := g5 × Int32) (cfg := fun j x => (39, [(4, .int (dn 15 j)), (3, .int x.2), (2, .int po), (0, .ref 53), (1, .int (nI m))], [], wY ax vx tx (w5 a x.1) v t)) (f := fun j x => lp (fun k x => gkF (a 60) (a 64) (a 62) n m po (15 - j) k x) 0 n x) (n := 16) (fun _ x => gI n x) (fun j x hj hI => ⟨?_, fun kk => ?_⟩) 16 0 ((s.1, zrT n s.2.1, s.2.2), 0) rfl hI0 (fun x0 hx0 _ => ?_)
    · exact lp_inv (f := fun k x => gkF (a 60) (a 64) (a 62) n m po (15 - j) k x) (fun _ x => gI n x) hI (fun k x _ h1 h2 => gkF_I hn (by omega) h2)
    · rw [← dn_succ] at kk
      obtain ⟨sp, hsp⟩ : ∃ sp, sp = 15 - j := ⟨_, rfl⟩
      rw [dn_le (by omega), ← hsp] at kk
      rw [dn_le (by omega), ← hsp]
      refine Rn.step rfl ?_
      refine Rn.br2 rfl (nI_pos (by omega)) ?_
      iterate 2 refine Rn.step rfl ?_
      refine Rn.lp (σ := g5 × Int32) (cfg := fun i x => (47, [(5, .int (nI i)), (4, .int (nI sp)), (3, .int x.2), (2, .int po), (0, .ref 53), (1, .int (nI m))], [], wY ax vx tx (w5 a x.1) v t)) (f := fun i x => gkF (a 60) (a 64) (a 62) n m po sp i x) (n := n) (fun _ x => gI n x) (fun i x hi hI => ⟨gkF_I hn hi hI, fun k2 => ?_⟩) n 0 x (by omega) hI (fun x1 hx1 _ => ?_)
      · rw [nI_succ] at k2
        have hskip : ¬ (x.1.1 i = nI sp ∧ ¬ bt x.2 i) → Rn E 4 mX8_logsGo (97, [(5, .int (nI i)), (4, .int (nI sp)), (3, .int x.2), (2, .int po), (0, .ref 53), (1, .int (nI m))], [], wY ax vx tx (w5 a x.1) v t) (none, wY ax vx tx (w5 a (lgA (a 60) (a 64) (a 62) n m po s)) v t) := by
          intro hno
          unfold gkF at k2
          rw [if_neg hno] at k2
          iterate 2 refine Rn.step rfl ?_
          exact k2
        iterate 3 refine Rn.step rfl ?_
        refine Rn.br2 rfl (by show ¬ v 31 ≤ nI i; rw [hv]; exact nle hi (by omega)) ?_
        iterate 3 refine Rn.step rfl ?_
        refine Rn.ald i rfl rfl (by omega) (by decide) ?_
        refine Rn.step rfl ?_
        refine Rn.br rfl (fun h1 => ?_) (fun h1 => ?_)
        · exact hskip (fun q => h1 q.1)
        · have h1 : x.1.1 i = nI sp := Decidable.not_not.mp h1
          iterate 2 refine Rn.step rfl ?_
          refine Rn.calli rfl rfl rfl (by decide) (m_isIn x.2 i _) (fun z f => ?_)
          refine Rn.br rfl (fun h2 => ?_) (fun h2 => ?_)
          · rw [f, ib_ne0] at h2
            exact hskip (fun q => q.2 h2)
          · have h2 := Decidable.not_not.mp h2
            rw [f, ib_eq0] at h2
            unfold gkF at k2
            rw [if_pos ⟨h1, h2⟩] at k2
            iterate 11 refine Rn.step rfl ?_
            refine Rn.calli rfl rfl rfl (by decide) (m_isIn po i _) (fun z1 f1 => ?_)
            rw [← f1] at k2
            refine Rn.callv rfl rfl rfl (by decide) (m_floats (n := n) (k := i) (m := m) (hd := sp) hn hv (by omega) (decide (bt po i)) z1 (by rw [f1, ib_ne0, decide_eq_true_eq]) (by rw [f1]; exact ib_01 _) x.1 h1 (by omega) (hI i hi h2)) ?_
            iterate 2 refine Rn.step rfl ?_
            exact Rn.sub (by exact ⟨rfl, rfl, rfl, rfl, rfl, rfl, trivial⟩) k2
      · rw [← hx1] at kk
        iterate 3 refine Rn.step rfl ?_
        refine Rn.br1 rfl (by show v 31 ≤ nI n; rw [hv]; exact nI_le (by omega) (by omega)) ?_
        iterate 2 refine Rn.step rfl ?_
        exact Rn.sub (by exact ⟨rfl, rfl, rfl, rfl, rfl, trivial⟩) kk
    · have hx0 : x0 = gsF (a 60) (a 64) (a 62) n m po ((s.1, zrT n s.2.1, s.2.2), 0) 16 := hx0
      refine Rn.step rfl ?_
      refine Rn.step rfl ?_
      iterate 2 refine Rn.step rfl ?_
      unfold lgA
      rw [← hx0]
      refine Rn.lp (σ := Nat → Int32) (cfg := fun i H => (112, [(4, .int (nI i)), (3, .int x0.2), (2, .int po), (0, .ref 53), (1, .int (nI m))], [], wY ax vx tx (w5 a (H, x0.1.2)) v t)) (f := fun i H => if (H i = -1 ∧ ¬ nI m < a 62 (3 * i)) ∧ wbF H (a 62) n i 0 = -1 then upd H i 0 else H) (n := n) (fun _ _ => True) (fun i H hi _ => ⟨trivial, fun kk => ?_⟩) n 0 x0.1.1 (by omega) trivial (fun H0 hH0 _ => ?_)
      · rw [nI_succ] at kk
        generalize ((none, wY ax vx tx (w5 a (gpF (a 62) n m x0.1.1 n, x0.1.2)) v t) : iRes) = o at kk ⊢
        have hskip : ¬ ((H i = -1 ∧ ¬ nI m < a 62 (3 * i)) ∧ wbF H (a 62) n i 0 = -1) → Rn E 4 mX8_logsGo (164, [(4, .int (nI i)), (3, .int x0.2), (2, .int po), (0, .ref 53), (1, .int (nI m))], [], wY ax vx tx (w5 a (H, x0.1.2)) v t) o := by
          intro hno
          rw [if_neg hno] at kk
          iterate 2 refine Rn.step rfl ?_
          exact kk
        iterate 3 refine Rn.step rfl ?_
        refine Rn.br2 rfl (by show ¬ v 31 ≤ nI i; rw [hv]; exact nle hi (by omega)) ?_
        iterate 3 refine Rn.step rfl ?_
        refine Rn.ald i rfl rfl (by omega) (by decide) ?_
        refine Rn.step rfl ?_
        refine Rn.br rfl (fun h1 => ?_) (fun h1 => ?_)
        · exact hskip (fun q => h1 q.1.1)
        · iterate 6 refine Rn.step rfl ?_
          refine Rn.ald (3 * i) rfl (pk_mul 3 i) (by omega) (by decide) ?_
          refine Rn.br rfl (fun h2 => ?_) (fun h2 => ?_)
          · exact hskip (fun q => q.1.2 h2)
          · iterate 3 refine Rn.step rfl ?_
            refine Rn.calli rfl rfl rfl (by decide) (m_whoBut hn hv (k := i) (by omega) 0) (fun z f => ?_)
            have f : z = wbF H (a 62) n i 0 := f
            refine Rn.step rfl ?_
            refine Rn.br rfl (fun h3 => ?_) (fun h3 => ?_)
            · exact hskip (fun q => h3 (f.trans q.2))
            · rw [if_pos ⟨⟨Decidable.not_not.mp h1, h2⟩, f.symm.trans (Decidable.not_not.mp h3)⟩] at kk
              iterate 4 refine Rn.step rfl ?_
              refine Rn.ast i rfl rfl (by omega) (by decide) (h3 := wY ax vx tx (w5 a (upd H i 0, x0.1.2)) v t) rfl ?_
              iterate 2 refine Rn.step rfl ?_
              exact kk
      · have hH0 : H0 = gpF (a 62) n m x0.1.1 n := hH0
        rw [← hH0]
        iterate 3 refine Rn.step rfl ?_
        refine Rn.br1 rfl (by show v 31 ≤ nI n; rw [hv]; exact nI_le (by omega) (by omega)) ?_
        exact Rn.ret rfl
end M4
