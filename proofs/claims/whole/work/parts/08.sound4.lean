section ICalls2
variable {p : Program} {l : Launch} {e : Env} {R : Room} {s : State} {m : MethodId} {args : Array Value} {below : List Frame} {meth : Method} {cd : Code} {Q : State → Prop} {cc : ByteArray} {B b dg n0 z0 nL Ls : Nat} {xs : Nat → Int32} {tc : Nat → ClassId} {dC : Nat → ClassId} {dI : Nat → Nat → Nat} {pc nx : Nat} {L : List (Nat × Value)} {S : List Value} {h : List va_E} {c' : iCfg}

theorem iRt (r : Option Value) : r.toList.map (iv B b dg) = (r.map (iv B b dg)).toList := by cases r <;> rfl
theorem iSize {H : Heap} {locs : List Loc} (hP : va_P (dC, dI) vwCl (iw B b dg tc h) H) (hS : va_S (fun q => B ≤ q) s.heap H locs) (hs0 : s.heap.size = B + n0) (hb : H.size ≤ B + h.length) : H.size = B + h.length := by
  have h0 := hS.1
  rcases Nat.eq_zero_or_pos h.length with hz | hp
  · omega
  · have hlt : h.length - 1 < h.length := by omega
    have := (hP (h.length - 1) (B + (h.length - 1), iE B b dg tc h[h.length - 1]) (by rw [iw_get, List.getElem?_eq_getElem hlt]; rfl)).lt
    dsimp only at this
    omega
theorem iPre {as : List Value} {H : Heap} {locs : List Loc} (hP : va_P (dC, dI) vwCl (iw B b dg tc h) H) (hS : va_S (fun q => B ≤ q) s.heap H locs) (hz : H.size = B + h.length) (hG : iG B b dg Ls xs tc dC dI s s.heap) (hN : iN s) (U : State) (hU : U.heap = H) (hW : s.WarmedH U.vm) : iPc B b dg Ls xs tc dC dI as h (as.map (iv B b dg)).toArray U := by
  refine ⟨rfl, by rw [hU]; exact hz, by rw [hU]; exact hP, ?_, iN_warm hW hN⟩
  rw [hU]
  exact iG_kept (iG_moved hW.alike hG) hS.2.1

theorem is_callV {C : iMeth} (hC : iOkM C = true) (hk10 : 10 ≤ iMk C) (hx : p.tables.exec = Jvm.exec) (hb : cd.code = cc) (hml : cd.maxLocals = nL) {own : String} (hown : s.vm.findClass own = some m.cls) (hts : ∀ w ∈ lw_tbl, iUse w = true → w.before args s = true) (hG : iG B b dg Ls xs tc dC dI s s.heap) (hN : iN s) (hs0 : s.heap.size = B + n0) {d : Nat} (hRf : d + 2 ≤ R.frames) (hRl : 40 * (d + 1) + 30 ≤ R.locals) {i pos res n : Nat} {as : List Value} {r : Option Value} {h' : List va_E} (hw : lw_tbl[pos]? = some (.methodLink own i (iMy C))) (hd : decode cc pc = .ok (.invokevirtual i, 3)) (hs : iCallV (iMn C + 1) (iMk C) (pc + 3) res L S h = some (.inr (.inl (n, as, c')))) (hM : Met l (iMy C) (iWs C) (iRm d h h') (iPc B b dg Ls xs tc dC dI as h) (iQc B b dg tc dC dI r h') (h'.length - h.length) (iSl h' - iSl h) (fun q => B ≤ q)) (hmono : h.length ≤ h'.length ∧ iSl h ≤ iSl h') (hcl : h'.length ≤ n0 + R.cells) (hsl : iSl h' ≤ z0 + R.slots) (k : iAt p l e R s m args below meth cd Q B b dg n0 z0 nL tc dC dI (c'.1, c'.2.1, r.toList ++ c'.2.2.1, h')) : iAt p l e R s m args below meth cd Q B b dg n0 z0 nL tc dC dI (pc, L, S, h) := by
  unfold iCallV at hs
  split at hs
  · rename_i a as' S' htk
    split at hs
    · rename_i o ci fs ha
      cases hq : (Nat.beq (ci + 10) (iMk C) && Nat.ble (iCat S') 8) with
      | false => rw [hq] at hs; cases hs
      | true =>
        rw [hq] at hs
        cases hs
        rw [Bool.and_eq_true] at hq
        have hci := Nat.eq_of_beq_eq_true hq.1
        have hcat := Nat.le_of_ble_eq_true hq.2
        obtain ⟨t, ht1, ht2, ht3⟩ := iTake_spec _ _ _ _ _ htk
        rw [List.append_nil] at ht1
        subst ht1
        subst ht3
        have hkk := (iOkM_spec hC).2.2.2.2.2.2
        unfold iOkK at hkk
        rw [if_neg (by omega), if_neg (by omega)] at hkk
        simp only [Bool.and_eq_true, decide_eq_true_eq] at hkk
        obtain ⟨hi1, hi2, hi3⟩ := hkk
        intro H locs cells slots ls h1 h2 hl hP hS
        dsimp only at h1 h2
        refine W.bound fun hbd => ?_
        have hz : H.size = B + h.length := iSize hP hS hs0 (by omega)
        have hrec : ∃ cellB : Cell, H[B + a]? = some cellB ∧ cellB.vm.isStatics = false ∧ s.vm.findClass (iMy C).cls = some cellB.cls := by
          rw [show iMk C - 10 = ci by omega] at hi3
          split at hi3
          · rename_i q hq2
            rw [← of_decide_eq_true hi3]
            exact va_recv hG.1 hP hq2 (iw_at ha)
          · cases hi3
        refine i_after (va_runV (Ts := []) (As := as'.map (iv B b dg)) (rest := S'.map (iv B b dg)) (b := B + a) ⟨hx, hb, hml, hown, fun _ h9 => absurd h9 List.not_mem_nil⟩ hM ⟨i_cb hC hts hRf hRl (hts _ (List.mem_of_getElem? hw) rfl), hts _ (List.mem_of_getElem? hi1) rfl, hts _ (List.mem_of_getElem? hi2) rfl⟩ ⟨iPc_blind, hrec, fun U hU hW => iPre (as := .ref a :: as') hP hS hz hG hN U hU hW⟩ rfl (by simpa using ht2) hl.1 (by show List.map (iv B b dg) _ = _; simp [iv]) (by rw [← iCat_eq B b dg] at hcat; exact lv_room hcat) hd ⟨by omega, by omega⟩) hS (fun H1 locs1 hP1 hS1 => ?_)
        have hk := k H1 locs1 (cells + (h'.length - h.length)) (slots + (iSl h' - iSl h)) ls (by dsimp only; omega) (by dsimp only; omega) hl hP1 hS1
        rw [List.map_append, iRt] at hk
        exact hk
    · cases hs
  · cases hs

theorem is_callS {C : iMeth} (hC : iOkM C = true) (hk0 : iMk C = 0) (hx : p.tables.exec = Jvm.exec) (hb : cd.code = cc) (hml : cd.maxLocals = nL) {own : String} (hown : s.vm.findClass own = some m.cls) (hts : ∀ w ∈ lw_tbl, iUse w = true → w.before args s = true) (hG : iG B b dg Ls xs tc dC dI s s.heap) (hN : iN s) (hs0 : s.heap.size = B + n0) {d : Nat} (hRf : d + 2 ≤ R.frames) (hRl : 40 * (d + 1) + 30 ≤ R.locals) {i pos res n : Nat} {as : List Value} {r : Option Value} {h' : List va_E} (hw : lw_tbl[pos]? = some (.methodLink own i (iMy C))) (hd : decode cc pc = .ok (.invokestatic i, 3)) (hs : iCallS (iMn C) (pc + 3) res L S h = some (.inr (.inl (n, as, c')))) (hM : Met l (iMy C) (iWs C) (iRm d h h') (iPc B b dg Ls xs tc dC dI as h) (iQc B b dg tc dC dI r h') (h'.length - h.length) (iSl h' - iSl h) (fun q => B ≤ q)) (hmono : h.length ≤ h'.length ∧ iSl h ≤ iSl h') (hcl : h'.length ≤ n0 + R.cells) (hsl : iSl h' ≤ z0 + R.slots) (k : iAt p l e R s m args below meth cd Q B b dg n0 z0 nL tc dC dI (c'.1, c'.2.1, r.toList ++ c'.2.2.1, h')) : iAt p l e R s m args below meth cd Q B b dg n0 z0 nL tc dC dI (pc, L, S, h) := by
  unfold iCallS at hs
  split at hs
  · rename_i as' S' htk
    cases hq : Nat.ble (iCat S') 8 with
    | false => rw [hq] at hs; cases hs
    | true =>
      rw [hq] at hs
      cases hs
      have hcat := Nat.le_of_ble_eq_true hq
      obtain ⟨t, ht1, ht2, ht3⟩ := iTake_spec _ _ _ _ _ htk
      rw [List.append_nil] at ht1
      subst ht1
      subst ht3
      have hkk := (iOkM_spec hC).2.2.2.2.2.2
      unfold iOkK at hkk
      rw [if_pos hk0] at hkk
      simp only [decide_eq_true_eq] at hkk
      intro H locs cells slots ls h1 h2 hl hP hS
      dsimp only at h1 h2
      refine W.bound fun hbd => ?_
      have hz : H.size = B + h.length := iSize hP hS hs0 (by omega)
      refine i_after (va_runS (Ts := []) (As := as.map (iv B b dg)) (rest := S'.map (iv B b dg)) ⟨hx, hb, hml, hown, fun _ h9 => absurd h9 List.not_mem_nil⟩ hM ⟨i_cb hC hts hRf hRl (hts _ (List.mem_of_getElem? hw) rfl), hts _ (List.mem_of_getElem? hkk) rfl⟩ ⟨iPc_blind, fun U hU hW => iPre (as := as) hP hS hz hG hN U hU hW⟩ rfl (by simpa using ht2) hl.1 (by show List.map (iv B b dg) _ = _; simp [iv]) (by rw [← iCat_eq B b dg] at hcat; exact lv_room hcat) hd ⟨by omega, by omega⟩) hS (fun H1 locs1 hP1 hS1 => ?_)
      have hk := k H1 locs1 (cells + (h'.length - h.length)) (slots + (iSl h' - iSl h)) ls (by dsimp only; omega) (by dsimp only; omega) hl hP1 hS1
      rw [List.map_append, iRt] at hk
      exact hk
  · cases hs

theorem is_callSN {C : iMeth} (hC : iOkM C = true) (hk0 : iMk C = 0) (hx : p.tables.exec = Jvm.exec) (hb : cd.code = cc) (hml : cd.maxLocals = nL) {own : String} (hown : s.vm.findClass own = some m.cls) (hts : ∀ w ∈ lw_tbl, iUse w = true → w.before args s = true) (hG : iG B b dg Ls xs tc dC dI s s.heap) (hN : iN s) (hs0 : s.heap.size = B + n0) {d : Nat} (hRf : d + 2 ≤ R.frames) (hRl : 40 * (d + 1) + 30 ≤ R.locals) {i pos res n : Nat} {as : List Value} {r : Option Value} {h' : List va_E} (hw : lw_tbl[pos]? = some (.methodLinkNest own i (iMy C) "LogFlume")) (hd : decode cc pc = .ok (.invokestatic i, 3)) (hs : iCallS (iMn C) (pc + 3) res L S h = some (.inr (.inl (n, as, c')))) (hM : Met l (iMy C) (iWs C) (iRm d h h') (iPc B b dg Ls xs tc dC dI as h) (iQc B b dg tc dC dI r h') (h'.length - h.length) (iSl h' - iSl h) (fun q => B ≤ q)) (hmono : h.length ≤ h'.length ∧ iSl h ≤ iSl h') (hcl : h'.length ≤ n0 + R.cells) (hsl : iSl h' ≤ z0 + R.slots) (k : iAt p l e R s m args below meth cd Q B b dg n0 z0 nL tc dC dI (c'.1, c'.2.1, r.toList ++ c'.2.2.1, h')) : iAt p l e R s m args below meth cd Q B b dg n0 z0 nL tc dC dI (pc, L, S, h) := by
  unfold iCallS at hs
  split at hs
  · rename_i as' S' htk
    cases hq : Nat.ble (iCat S') 8 with
    | false => rw [hq] at hs; cases hs
    | true =>
      rw [hq] at hs
      cases hs
      have hcat := Nat.le_of_ble_eq_true hq
      obtain ⟨t, ht1, ht2, ht3⟩ := iTake_spec _ _ _ _ _ htk
      rw [List.append_nil] at ht1
      subst ht1
      subst ht3
      have hkk := (iOkM_spec hC).2.2.2.2.2.2
      unfold iOkK at hkk
      rw [if_pos hk0] at hkk
      simp only [decide_eq_true_eq] at hkk
      intro H locs cells slots ls h1 h2 hl hP hS
      dsimp only at h1 h2
      refine W.bound fun hbd => ?_
      have hz : H.size = B + h.length := iSize hP hS hs0 (by omega)
      refine i_after (va_runSN (Ts := []) (As := as.map (iv B b dg)) (rest := S'.map (iv B b dg)) ⟨hx, hb, hml, hown, fun _ h9 => absurd h9 List.not_mem_nil⟩ hM ⟨i_cn hC hts hRf hRl (hts _ (List.mem_of_getElem? hw) rfl), hts _ (List.mem_of_getElem? hkk) rfl, trivial⟩ ⟨iPc_blind, fun U hU hW => iPre (as := as) hP hS hz hG hN U hU hW⟩ rfl (by simpa using ht2) hl.1 (by show List.map (iv B b dg) _ = _; simp [iv]) (by rw [← iCat_eq B b dg] at hcat; exact lv_room hcat) hd ⟨by omega, by omega⟩) hS (fun H1 locs1 hP1 hS1 => ?_)
      have hk := k H1 locs1 (cells + (h'.length - h.length)) (slots + (iSl h' - iSl h)) ls (by dsimp only; omega) (by dsimp only; omega) hl hP1 hS1
      rw [List.map_append, iRt] at hk
      exact hk
  · cases hs

theorem is_callI {C : iMeth} (hC : iOkM C = true) (hk2 : iMk C = 2) (hx : p.tables.exec = Jvm.exec) (hb : cd.code = cc) (hml : cd.maxLocals = nL) {own : String} (hown : s.vm.findClass own = some m.cls) (hts : ∀ w ∈ lw_tbl, iUse w = true → w.before args s = true) (hG : iG B b dg Ls xs tc dC dI s s.heap) (hN : iN s) (hs0 : s.heap.size = B + n0) {d : Nat} (hRf : d + 2 ≤ R.frames) (hRl : 40 * (d + 1) + 30 ≤ R.locals) {i pos res n : Nat} {as : List Value} {r : Option Value} {h' : List va_E} (hw : lw_tbl[pos]? = some (.methodLink own i (iMy C))) (hd : decode cc pc = .ok (.invokespecial i, 3)) (hs : iCallI (iMn C + 1) (pc + 3) res L S h = some (.inr (.inl (n, as, c')))) (hM : Met l (iMy C) (iWs C) (iRm d h h') (iPc B b dg Ls xs tc dC dI as h) (iQc B b dg tc dC dI r h') (h'.length - h.length) (iSl h' - iSl h) (fun q => B ≤ q)) (hmono : h.length ≤ h'.length ∧ iSl h ≤ iSl h') (hcl : h'.length ≤ n0 + R.cells) (hsl : iSl h' ≤ z0 + R.slots) (k : iAt p l e R s m args below meth cd Q B b dg n0 z0 nL tc dC dI (c'.1, c'.2.1, r.toList ++ c'.2.2.1, h')) : iAt p l e R s m args below meth cd Q B b dg n0 z0 nL tc dC dI (pc, L, S, h) := by
  unfold iCallI at hs
  split at hs
  · rename_i a as' S' htk
    cases hq : Nat.ble (iCat S') 8 with
    | false => rw [hq] at hs; cases hs
    | true =>
      rw [hq] at hs
      cases hs
      have hcat := Nat.le_of_ble_eq_true hq
      obtain ⟨t, ht1, ht2, ht3⟩ := iTake_spec _ _ _ _ _ htk
      rw [List.append_nil] at ht1
      subst ht1
      subst ht3
      have hkk := (iOkM_spec hC).2.2.2.2.2.2
      unfold iOkK at hkk
      rw [if_neg (by omega), if_pos hk2] at hkk
      simp only [Bool.and_eq_true, decide_eq_true_eq] at hkk
      obtain ⟨hi1, hi2, hi3⟩ := hkk
      intro H locs cells slots ls h1 h2 hl hP hS
      dsimp only at h1 h2
      refine W.bound fun hbd => ?_
      have hz : H.size = B + h.length := iSize hP hS hs0 (by omega)
      have cb := i_cb (h := h) (h' := h') hC hts hRf hRl (hts _ (List.mem_of_getElem? hw) rfl)
      rw [hi3] at cb
      refine i_after (va_runI (Ts := []) (As := as'.map (iv B b dg)) (rest := S'.map (iv B b dg)) (b := B + a) ⟨hx, hb, hml, hown, fun _ h9 => absurd h9 List.not_mem_nil⟩ hM ⟨cb, hi2, hts _ (List.mem_of_getElem? hi1) rfl⟩ ⟨iPc_blind, fun U hU hW => iPre (as := .ref a :: as') hP hS hz hG hN U hU hW⟩ rfl (by simpa using ht2) hl.1 (by show List.map (iv B b dg) _ = _; simp [iv]) (by rw [← iCat_eq B b dg] at hcat; exact lv_room hcat) hd ⟨by omega, by omega⟩) hS (fun H1 locs1 hP1 hS1 => ?_)
      have hk := k H1 locs1 (cells + (h'.length - h.length)) (slots + (iSl h' - iSl h)) ls (by dsimp only; omega) (by dsimp only; omega) hl hP1 hS1
      rw [List.map_append, iRt] at hk
      exact hk
  · cases hs

theorem is_callIN {C : iMeth} (hC : iOkM C = true) (hk2 : iMk C = 2) (hx : p.tables.exec = Jvm.exec) (hb : cd.code = cc) (hml : cd.maxLocals = nL) {own : String} (hown : s.vm.findClass own = some m.cls) (hts : ∀ w ∈ lw_tbl, iUse w = true → w.before args s = true) (hG : iG B b dg Ls xs tc dC dI s s.heap) (hN : iN s) (hs0 : s.heap.size = B + n0) {d : Nat} (hRf : d + 2 ≤ R.frames) (hRl : 40 * (d + 1) + 30 ≤ R.locals) {i pos res n : Nat} {as : List Value} {r : Option Value} {h' : List va_E} (hw : lw_tbl[pos]? = some (.methodLinkNest own i (iMy C) "LogFlume")) (hd : decode cc pc = .ok (.invokespecial i, 3)) (hs : iCallI (iMn C + 1) (pc + 3) res L S h = some (.inr (.inl (n, as, c')))) (hM : Met l (iMy C) (iWs C) (iRm d h h') (iPc B b dg Ls xs tc dC dI as h) (iQc B b dg tc dC dI r h') (h'.length - h.length) (iSl h' - iSl h) (fun q => B ≤ q)) (hmono : h.length ≤ h'.length ∧ iSl h ≤ iSl h') (hcl : h'.length ≤ n0 + R.cells) (hsl : iSl h' ≤ z0 + R.slots) (k : iAt p l e R s m args below meth cd Q B b dg n0 z0 nL tc dC dI (c'.1, c'.2.1, r.toList ++ c'.2.2.1, h')) : iAt p l e R s m args below meth cd Q B b dg n0 z0 nL tc dC dI (pc, L, S, h) := by
  unfold iCallI at hs
  split at hs
  · rename_i a as' S' htk
    cases hq : Nat.ble (iCat S') 8 with
    | false => rw [hq] at hs; cases hs
    | true =>
      rw [hq] at hs
      cases hs
      have hcat := Nat.le_of_ble_eq_true hq
      obtain ⟨t, ht1, ht2, ht3⟩ := iTake_spec _ _ _ _ _ htk
      rw [List.append_nil] at ht1
      subst ht1
      subst ht3
      have hkk := (iOkM_spec hC).2.2.2.2.2.2
      unfold iOkK at hkk
      rw [if_neg (by omega), if_pos hk2] at hkk
      simp only [Bool.and_eq_true, decide_eq_true_eq] at hkk
      obtain ⟨hi1, hi2, hi3⟩ := hkk
      intro H locs cells slots ls h1 h2 hl hP hS
      dsimp only at h1 h2
      refine W.bound fun hbd => ?_
      have hz : H.size = B + h.length := iSize hP hS hs0 (by omega)
      have cb := i_cn (h := h) (h' := h') hC hts hRf hRl (hts _ (List.mem_of_getElem? hw) rfl)
      rw [hi3] at cb
      refine i_after (va_runIN (Ts := []) (As := as'.map (iv B b dg)) (rest := S'.map (iv B b dg)) (b := B + a) ⟨hx, hb, hml, hown, fun _ h9 => absurd h9 List.not_mem_nil⟩ hM ⟨cb, hi2, hts _ (List.mem_of_getElem? hi1) rfl⟩ ⟨iPc_blind, fun U hU hW => iPre (as := .ref a :: as') hP hS hz hG hN U hU hW⟩ rfl (by simpa using ht2) hl.1 (by show List.map (iv B b dg) _ = _; simp [iv]) (by rw [← iCat_eq B b dg] at hcat; exact lv_room hcat) hd ⟨by omega, by omega⟩) hS (fun H1 locs1 hP1 hS1 => ?_)
      have hk := k H1 locs1 (cells + (h'.length - h.length)) (slots + (iSl h' - iSl h)) ls (by dsimp only; omega) (by dsimp only; omega) hl hP1 hS1
      rw [List.map_append, iRt] at hk
      exact hk
  · cases hs

end ICalls2
