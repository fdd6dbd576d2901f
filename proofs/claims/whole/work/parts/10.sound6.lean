section IMain
variable {l : Launch} {B b dg Ls : Nat} {xs : Nat → Int32} {tc : Nat → ClassId} {dC : Nat → ClassId} {dI : Nat → Nat → Nat} {P : Nat → Option iMeth}
theorem lg_sl_len (vs : List Value) : (lg_sl vs).length = iCat vs := by
  induction vs with
  | nil => rfl
  | cons v vs ih =>
    have e1 : lg_sl (v :: vs) = (if v.category = 2 then [Slot.val v, Slot.second] else [Slot.val v]) ++ lg_sl vs := by simp [lg_sl]
    rw [e1, List.length_append, ih]
    rcases lv_cat v with h | h
    · rw [if_neg (by omega)]; simp [iCat, h]
    · rw [if_pos h]; simp [iCat, h]
theorem iCat_map (vs : List Value) : iCat (vs.map (iv B b dg)) = iCat vs := by
  induction vs with
  | nil => rfl
  | cons v vs ih => simp only [List.map_cons, iCat, ih, iv_cat]
theorem lv_args_map (vs : List Value) : ∀ i : Nat, lv_args i (vs.map (iv B b dg)) = iL B b dg (lv_args i vs) := by
  induction vs with
  | nil => intro i; rfl
  | cons v vs ih =>
    intro i
    simp only [List.map_cons, lv_args, iL, iv_cat, List.cons.injEq, true_and]
    exact ih _
def iSnd (l : Launch) (B b dg Ls : Nat) (xs : Nat → Int32) (tc dC : Nat → ClassId) (dI : Nat → Nat → Nat) (P : Nat → Option iMeth) (f : Nat) : Prop :=
  ∀ (d : Nat) (M : iMeth) (c : iCfg) (o : iRes), iRun (iExt Ls xs) P f d M c = some o → iOkT P M = true →
    ∀ {p : Program} {e : Env} {R : Room} {s : State} {m : MethodId} {args : Array Value} {below : List Frame} {meth : Method} {cd : Code} {Q : State → Prop} {n0 z0 : Nat},
      p.tables.exec = Jvm.exec → cd.code = iMb M → cd.maxLocals = iMl M → s.vm.findClass (iMy M).cls = some m.cls → ((iMy M).name = "<init>" → meth.name = "<init>") → (∀ w ∈ lw_tbl, iUse w = true → w.before args s = true) → iG B b dg Ls xs tc dC dI s s.heap → iN s → s.heap.size = B + n0 → d + 1 ≤ R.frames → 40 * d + 30 ≤ R.locals → o.2.length ≤ n0 + R.cells → iSl o.2 ≤ z0 + R.slots →
      (∀ (pc : Nat) (ins : Instr) (ls : Array Slot) (H : Heap) (locs : List Loc) (cells slots : Nat), decode (iMb M) pc = .ok (ins, 1) → iRetOk (iMr M) ins o.1 → n0 + cells = o.2.length → z0 + slots = iSl o.2 → va_P (dC, dI) vwCl (iw B b dg tc o.2) H → va_S (fun q => B ≤ q) s.heap H locs → W p l e R s m args below meth cd H locs cells slots Q (F0 m pc ls (o.1.toList.map (iv B b dg)))) →
      iAt p l e R s m args below meth cd Q B b dg n0 z0 (iMl M) tc dC dI c
theorem i_met {f d : Nat} (ih : iSnd l B b dg Ls xs tc dC dI P f) {C : iMeth} (hC : iOkM C = true) (hT : iOkT P C = true) {as : List Value} {h h' : List va_E} {r : Option Value} (hg : Nat.ble (iCat as) (iMl C) = true) (hr : iRun (iExt Ls xs) P f d C (0, lv_args 0 as, [], h) = some (r, h')) : Met l (iMy C) (iWs C) (iRm d h h') (iPc B b dg Ls xs tc dC dI as h) (iQc B b dg tc dC dI r h') (h'.length - h.length) (iSl h' - iSl h) (fun q => B ≤ q) := by
  have hmono := iRun_mono _ _ _ _ _ hr
  dsimp only at hmono
  refine Met.ofW (cc := iMb C) (maxL := iMl C) (ret := iMr C) (iOkM_spec hC).1 rfl ?_
  intro p e s m args below meth c s₁ Bd hml hv
  obtain ⟨rfl, hsz, hP, hG, hN⟩ := hv
  have hx := Bd.exec
  have hb := Bd.bytes
  have hret := Bd.returns
  have hlocks := Bd.notSynchronized
  have hts0 := atoms_spec (ws := iWs C) Bd.pre
  have hts : ∀ w ∈ lw_tbl, iUse w = true → w.before (as.map (iv B b dg)).toArray s = true := by
    intro w hw hu
    have h1 := List.all_eq_true.mp lw_cls w hw
    rw [hu] at h1
    simp only [Bool.not_true, Bool.false_or, Bool.or_eq_true] at h1
    rcases h1 with h1 | h1
    · exact hts0 w (List.mem_cons_of_mem _ (List.mem_filter.mpr ⟨hw, h1⟩))
    · exact iN_use h1 (hN w hw h1)
  have hown : s.vm.findClass (iMy C).cls = some m.cls := findClass_of_methodNamed Bd.named
  rw [lg_entry_eq]
  have hl := lv_entry (as.map (iv B b dg)) (n := iMl C) (by rw [lg_sl_len, iCat_map]; exact Nat.le_of_ble_eq_true hg)
  rw [lv_args_map] at hl
  refine ih d C (0, lv_args 0 as, [], h) (r, h') hr hT (n0 := h.length) (z0 := iSl h) hx hb hml hown (fun hn => by rw [(name_of_methodNamed Bd.named Bd.method).1]; exact hn) hts hG hN hsz (Nat.le_refl _) (Nat.le_refl _) (by show h'.length ≤ h.length + (h'.length - h.length); omega) (by show iSl h' ≤ iSl h + (iSl h' - iSl h); omega) ?_ s.heap [] 0 0 _ rfl rfl hl hP va_S.rf
  intro pc ins ls H locs cells slots hd hro hcl hsl hP' hS'
  dsimp only at hcl hsl
  have e1 : cells = h'.length - h.length := by omega
  have e2 : slots = iSl h' - iSl h := by omega
  subst e1
  subst e2
  unfold iRetOk at hro
  split at hro
  · rename_i hrn
    dsimp only at hrn
    subst hrn
    obtain ⟨rfl, hro⟩ := hro
    exact W.vret hx hb (hret.trans hro) (fun t ht hW => ⟨rfl, by rw [ht]; exact hP', hS'.F ht⟩) hS'.2.2 hd
  · rename_i x hrn
    dsimp only at hrn
    subst hrn
    obtain ⟨rfl, hro⟩ := hro
    rcases hro with hro | ⟨hro, h01⟩
    · exact W.zret (ty := .int) hx hb (hret.trans hro) rfl (fun t ht hW => ⟨rfl, by rw [ht]; exact hP', hS'.F ht⟩) hS'.2.2 hd
    · exact W.zret (ty := .boolean) hx hb (hret.trans hro) (by rcases h01 with rfl | rfl <;> rfl) (fun t ht hW => ⟨rfl, by rw [ht]; exact hP', hS'.F ht⟩) hS'.2.2 hd
  · rename_i x hrn
    dsimp only at hrn
    subst hrn
    obtain ⟨rfl, hro⟩ := hro
    exact W.lret hx hb (hret.trans hro) (fun t ht hW => ⟨rfl, by rw [ht]; exact hP', hS'.F ht⟩) hS'.2.2 hd
  · exact hro.elim
theorem i_sound (hPok : ∀ n C, P n = some C → iOkM C = true ∧ iOkT P C = true) : ∀ f : Nat, iSnd l B b dg Ls xs tc dC dI P f := by
  intro f
  induction f with
  | zero => intro d M c o hr; cases hr
  | succ f ih =>
    intro d M c o hr hT p e R s m args below meth cd Q n0 z0 hx hb hml hown hinit hts hG hN hs0 hRf hRl hcl hsl hfin
    obtain ⟨pc, L, S, hh⟩ := c
    simp only [iRun, iStep] at hr
    split at hr
    · cases hr
    · rename_i c' hs
      split at hs
      · rename_i en hf
        have hm := iRun_mono _ _ _ _ _ hr
        exact iSim hx hb hml hown hinit hts hG hs0 (by omega) (by omega) (iOkT_at hT hf) hs (Nat.le_trans hm.1 hcl) (Nat.le_trans hm.2 hsl) (ih d M c' o hr hT hx hb hml hown hinit hts hG hN hs0 hRf hRl hcl hsl hfin)
      · cases hs
    · rename_i r hs
      cases hr
      split at hs
      · rename_i en hf
        obtain ⟨ins, q1, q2, q3⟩ := iEx_ret (iOkT_at hT hf) hs
        subst q3
        intro H locs cells slots ls h1 h2 hl hP hS
        exact hfin pc ins ls H locs cells slots q1 q2 h1 h2 hP hS
      · cases hs
    · rename_i n as c' hs
      split at hs
      · rename_i en hf
        have h0 := iEx_call hs
        split at hr
        · cases hr
        · rename_i d'
          split at hr
          · cases hr
          · rename_i C hPC
            cases hg : Nat.ble (iCat as) C.2.2.1 with
            | false => rw [hg] at hr; cases hr
            | true =>
              rw [hg] at hr
              simp only [cond_true] at hr
              split at hr
              · cases hr
              · rename_i r h' hrC
                rw [h0] at hrC
                have hM := i_met (l := l) ih (hPok n C hPC).1 (hPok n C hPC).2 hg hrC
                have hmono := iRun_mono _ _ _ _ _ hrC
                dsimp only at hmono
                have hm2 := iRun_mono _ _ _ _ _ hr
                dsimp only at hm2
                have hk := ih (d' + 1) M _ o hr hT hx hb hml hown hinit hts hG hN hs0 hRf hRl hcl hsl hfin
                have hoE := iOkT_at hT hf
                obtain ⟨ins, nx, res, val, pos⟩ := en
                simp only [iOkE, Bool.and_eq_true, Bool.or_eq_true, decide_eq_true_eq] at hoE
                obtain ⟨hd0, hoE⟩ := hoE
                have hC := (hPok n C hPC).1
                cases ins <;> simp only [iEx] at hs <;> first | (cases hs; done) | skip
                case invokespecial i =>
                  simp only [iIsSw, iLen, Bool.false_eq_true, false_or] at hd0
                  obtain ⟨hnx, hd⟩ := hd0
                  subst hnx
                  split at hs
                  · simp only [iOI, cond_eq_ite] at hs
                    repeat' split at hs
                    all_goals cases hs
                  · rename_i hr1
                    have hn : res = n := by
                      simp only [iCallI, cond_eq_ite] at hs
                      repeat' split at hs
                      all_goals first | (cases hs; rfl) | cases hs
                    subst hn
                    simp only [iOkI] at hoE
                    rw [if_neg hr1, hPC] at hoE
                    simp only [Bool.and_eq_true, Bool.or_eq_true, decide_eq_true_eq, iOkL, iOkN] at hoE
                    rw [show iNp P res = iMn C by simp [iNp, hPC]] at hs
                    rcases hoE.2 with hw | hw
                    · exact is_callI hC hoE.1 hx hb hml hown hts hG hN hs0 (by omega) (by omega) hw hd hs hM hmono (Nat.le_trans hm2.1 hcl) (Nat.le_trans hm2.2 hsl) hk
                    · exact is_callIN hC hoE.1 hx hb hml hown hts hG hN hs0 (by omega) (by omega) hw hd hs hM hmono (Nat.le_trans hm2.1 hcl) (Nat.le_trans hm2.2 hsl) hk
                case invokestatic i =>
                  simp only [iIsSw, iLen, Bool.false_eq_true, false_or] at hd0
                  obtain ⟨hnx, hd⟩ := hd0
                  subst hnx
                  by_cases hm1 : res = 1001
                  · rw [if_pos hm1] at hs
                    simp only [iCopy, cond_eq_ite] at hs
                    repeat' split at hs
                    all_goals cases hs
                  by_cases hm2' : res = 1002
                  · rw [if_neg hm1, if_pos hm2'] at hs
                    simp only [iMax, cond_eq_ite] at hs
                    repeat' split at hs
                    all_goals cases hs
                  by_cases hm3 : res = 1003
                  · rw [if_neg hm1, if_neg hm2', if_pos hm3] at hs
                    simp only [iMin, cond_eq_ite] at hs
                    repeat' split at hs
                    all_goals cases hs
                  · rw [if_neg hm1, if_neg hm2', if_neg hm3] at hs
                    have hn : res = n := by
                      simp only [iCallS, cond_eq_ite] at hs
                      repeat' split at hs
                      all_goals first | (cases hs; rfl) | cases hs
                    subst hn
                    simp only [iOkI] at hoE
                    rw [if_neg hm1, if_neg hm2', if_neg hm3, hPC] at hoE
                    simp only [Bool.and_eq_true, Bool.or_eq_true, decide_eq_true_eq, iOkL, iOkN] at hoE
                    rw [show iNp P res = iMn C by simp [iNp, hPC]] at hs
                    rcases hoE.2 with hw | hw
                    · exact is_callS hC hoE.1 hx hb hml hown hts hG hN hs0 (by omega) (by omega) hw hd hs hM hmono (Nat.le_trans hm2.1 hcl) (Nat.le_trans hm2.2 hsl) hk
                    · exact is_callSN hC hoE.1 hx hb hml hown hts hG hN hs0 (by omega) (by omega) hw hd hs hM hmono (Nat.le_trans hm2.1 hcl) (Nat.le_trans hm2.2 hsl) hk
                case invokevirtual i =>
                  simp only [iIsSw, iLen, Bool.false_eq_true, false_or] at hd0
                  obtain ⟨hnx, hd⟩ := hd0
                  subst hnx
                  have hn : res = n := by
                    simp only [iCallV, cond_eq_ite] at hs
                    repeat' split at hs
                    all_goals first | (cases hs; rfl) | cases hs
                  subst hn
                  simp only [iOkI] at hoE
                  rw [hPC] at hoE
                  simp only [Bool.and_eq_true, Bool.or_eq_true, decide_eq_true_eq, iOkL, iOkN] at hoE
                  rw [show iNp P res = iMn C by simp [iNp, hPC], show iNk P res = iMk C by simp [iNk, hPC]] at hs
                  exact is_callV hC hoE.1 hx hb hml hown hts hG hN hs0 (by omega) (by omega) hoE.2 hd hs hM hmono (Nat.le_trans hm2.1 hcl) (Nat.le_trans hm2.2 hsl) hk
                all_goals (try simp only [iLdI, iLdL, iLdA, iStI, iStL, iStA, iBin, iBil, iUn, iGetf, iPutf, iAld, iAll, iAla, iAlen, iAst, iAsl, iAsa, iNewa, iNewq, iLfl_eq, iSw, iCmp] at hs)
                all_goals (repeat' split at hs)
                all_goals cases hs
      · cases hs
end IMain
