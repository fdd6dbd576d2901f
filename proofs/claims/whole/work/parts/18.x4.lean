section X4
variable {E : iExtT} {a : Nat → Nat → Int32} {v : Nat → Int32} {t : Nat → Nat → Int64} {r : List va_E}
theorem r_unsettle : Rn E 0 mX7_unsettle (0, [(0, .ref 0)], [], wX a v t r) (none, wX a (upd v 1 0) t r) := by
  repeat refine Rn.step rfl ?_
  exact Rn.ret rfl
theorem r_found (k : Int32) : Rn E 0 mX7_found (0, [(0, .ref 0), (1, .int k)], [], wX a v t r) (some (.int (-10 - k)), wX a (upd v 0 k) t r) := by
  repeat refine Rn.step rfl ?_
  exact Rn.ret rfl
theorem r_isLog (x : Int32) : Rn E 1 mX7_isLog (0, [(0, .ref 0), (1, .int x)], [], wX a v t r) (some (.int (ib (inB x (v 4)))), wX a v t r) := by
  repeat refine Rn.step rfl ?_
  refine Rn.calli rfl rfl rfl (by decide) (r_within x (v 4) _) (fun x1 e1 => ?_)
  rw [← e1]
  refine Rn.retb rfl ?_
  rw [e1]
  exact ib_01 _
/-- what the reading of a text leaves: its row, its fault, nothing settled -/
abbrev tg0 (a : Nat → Nat → Int32) (n : Nat) : Nat → Nat → Int32 := va_up (va_up a 4 (rwA (a 40) n (ffg (a 40) 49 51 0 n) 1 (a 4))) 2 (upd (a 2) 0 (ffg (a 40) 49 51 0 n))
abbrev tg1 (a : Nat → Nat → Int32) (n : Nat) : Nat → Nat → Int32 := va_up (va_up a 5 (rwA (a 42) n (ffg (a 42) 48 57 0 n) 0 (a 5))) 2 (upd (a 2) 1 (ffg (a 42) 48 57 0 n))
abbrev tg2 (a : Nat → Nat → Int32) (n : Nat) : Nat → Nat → Int32 := va_up (if flg (a 44) n 0 n = -1 then w3 a (tlA (a 44) ((n + 1) / 4) (a 6, a 7, a 8)) else a) 2 (upd (a 2) 2 (flg (a 44) n 0 n))
abbrev tgv (a : Nat → Nat → Int32) (v : Nat → Int32) (n : Nat) : Nat → Int32 := upd v 4 (if flg (a 44) n 0 n = -1 then nI ((n + 1) / 4) else 0)
theorem r_again0 {n : Nat} (hn : n ≤ 16) (hv : v 11 = nI n) : Rn E 2 mX7_tellAgain (0, [(0, .ref 0), (1, .int 0)], [], wX a v t r) (none, wX (tg0 a n) (upd v 1 0) t r) := by
  repeat refine Rn.step rfl ?_
  refine Rn.calli rfl rfl rfl (by decide) (r_tellSlopes hn hv) (fun x1 e1 => ?_)
  subst e1
  refine Rn.step rfl ?_
  refine Rn.hp (h2 := wX (tg0 a n) v t r) rfl ?_
  repeat refine Rn.step rfl ?_
  refine Rn.callv rfl rfl rfl (by decide) r_unsettle ?_
  exact Rn.ret rfl
theorem r_again1 {n : Nat} (hn : n ≤ 16) (hv : v 12 = nI n) : Rn E 2 mX7_tellAgain (0, [(0, .ref 0), (1, .int 1)], [], wX a v t r) (none, wX (tg1 a n) (upd v 1 0) t r) := by
  repeat refine Rn.step rfl ?_
  refine Rn.calli rfl rfl rfl (by decide) (r_tellFeeders hn hv) (fun x1 e1 => ?_)
  subst e1
  refine Rn.step rfl ?_
  refine Rn.hp (h2 := wX (tg1 a n) v t r) rfl ?_
  repeat refine Rn.step rfl ?_
  refine Rn.callv rfl rfl rfl (by decide) r_unsettle ?_
  exact Rn.ret rfl
theorem r_again2 {n : Nat} (hn : n ≤ 31) (hv : v 13 = nI n) : Rn E 3 mX7_tellAgain (0, [(0, .ref 0), (1, .int 2)], [], wX a v t r) (none, wX (tg2 a n) (upd (tgv a v n) 1 0) t r) := by
  repeat refine Rn.step rfl ?_
  by_cases hf : flg (a 44) n 0 n = -1
  · have e2 : tg2 a n = va_up (w3 a (tlA (a 44) ((n + 1) / 4) (a 6, a 7, a 8))) 2 (upd (a 2) 2 (-1)) := by unfold tg2; rw [if_pos hf, hf]
    have e3 : tgv a v n = upd v 4 (nI ((n + 1) / 4)) := by unfold tgv; rw [if_pos hf]
    rw [e2, e3]
    refine Rn.calli rfl rfl rfl (by decide) (r_tellLogs2 hn hv hf) (fun x1 e1 => ?_)
    subst e1
    refine Rn.step rfl ?_
    refine Rn.hp (h2 := wX (va_up (w3 a (tlA (a 44) ((n + 1) / 4) (a 6, a 7, a 8))) 2 (upd (a 2) 2 (-1))) (upd v 4 (nI ((n + 1) / 4))) t r) rfl ?_
    repeat refine Rn.step rfl ?_
    refine Rn.callv rfl rfl rfl (by decide) r_unsettle ?_
    exact Rn.ret rfl
  · have e2 : tg2 a n = va_up a 2 (upd (a 2) 2 (flg (a 44) n 0 n)) := by unfold tg2; rw [if_neg hf]
    have e3 : tgv a v n = upd v 4 0 := by unfold tgv; rw [if_neg hf]
    rw [e2, e3]
    refine Rn.calli rfl rfl rfl (by decide) (r_tellLogs1 hn hv hf) (fun x1 e1 => ?_)
    subst e1
    refine Rn.step rfl ?_
    refine Rn.hp (h2 := wX (va_up a 2 (upd (a 2) 2 (flg (a 44) n 0 n))) (upd v 4 0) t r) rfl ?_
    repeat refine Rn.step rfl ?_
    refine Rn.callv rfl rfl rfl (by decide) r_unsettle ?_
    exact Rn.ret rfl
-- type
theorem r_type_bad (x b : Int32) (hb : ¬ (inB x 3 ∧ inB b 256)) : Rn E 4 mX7_type (0, [(0, .ref 0), (1, .int x), (2, .int b)], [], wX a v t r) (some (.int (-2)), wX a v t r) := by
  repeat refine Rn.step rfl ?_
  refine Rn.calli rfl rfl rfl (by decide) (r_within x 3 _) (fun x1 e1 => ?_)
  refine Rn.br rfl (fun h1 => ?_) (fun h1 => ?_)
  · repeat refine Rn.step rfl ?_
    exact Rn.ret rfl
  · repeat refine Rn.step rfl ?_
    refine Rn.calli rfl rfl rfl (by decide) (r_within b 256 _) (fun x2 e2 => ?_)
    refine Rn.br2 rfl (fun h2 => hb ⟨ib_ne0.mp (e1 ▸ h1), ib_ne0.mp (e2 ▸ h2)⟩) ?_
    repeat refine Rn.step rfl ?_
    exact Rn.ret rfl
theorem r_type0_full (b : Int32) (hb : inB b 256) (hv : v 11 = nI 16) : Rn E 4 mX7_type (0, [(0, .ref 0), (1, .int 0), (2, .int b)], [], wX a v t r) (some (.int (-4)), wX a v t r) := by
  repeat refine Rn.step rfl ?_
  refine Rn.calli rfl rfl rfl (by decide) (r_within 0 3 _) (fun x1 e1 => ?_)
  refine Rn.br2 rfl (by rw [e1]; decide) ?_
  repeat refine Rn.step rfl ?_
  refine Rn.calli rfl rfl rfl (by decide) (r_within b 256 _) (fun x2 e2 => ?_)
  refine Rn.br1 rfl (by rw [e2, ib_ne0]; exact hb) ?_
  repeat refine Rn.step rfl ?_
  refine Rn.calli rfl rfl rfl (by decide) (r_txFull (T := 39) (V := 11) (c := 16) (by decide) b hv) (fun x3 e3 => ?_)
  refine Rn.br2 rfl (by rw [e3]; decide) ?_
  repeat refine Rn.step rfl ?_
  exact Rn.ret rfl
theorem r_type0 (b : Int32) (hb : inB b 256) {n : Nat} (hn : n < 16) (hv : v 11 = nI n) : Rn E 4 mX7_type (0, [(0, .ref 0), (1, .int 0), (2, .int b)], [], wX a v t r) (some (.int (nI (n + 1))), wX (tg0 (va_up a 40 (upd (a 40) n b)) (n + 1)) (upd (upd v 11 (nI (n + 1))) 1 0) t r) := by
  repeat refine Rn.step rfl ?_
  refine Rn.calli rfl rfl rfl (by decide) (r_within 0 3 _) (fun x1 e1 => ?_)
  refine Rn.br2 rfl (by rw [e1]; decide) ?_
  repeat refine Rn.step rfl ?_
  refine Rn.calli rfl rfl rfl (by decide) (r_within b 256 _) (fun x2 e2 => ?_)
  refine Rn.br1 rfl (by rw [e2, ib_ne0]; exact hb) ?_
  repeat refine Rn.step rfl ?_
  refine Rn.calli rfl rfl rfl (by decide) (r_txAppend (T := 39) (V := 11) (c := 16) (by decide) b hn hv) (fun x3 e3 => ?_)
  refine Rn.br1 rfl (by rw [e3]; decide) ?_
  repeat refine Rn.step rfl ?_
  refine Rn.callv rfl rfl rfl (by decide) (r_again0 (a := (va_up a 40 (upd (a 40) n b))) (v := (upd v 11 (nI (n + 1)))) hn rfl) ?_
  repeat refine Rn.step rfl ?_
  exact Rn.ret rfl
theorem r_wipe0 : Rn E 4 mX7_wipe (0, [(0, .ref 0), (1, .int 0)], [], wX a v t r) (some (.int (v 11)), wX (tg0 a 0) (upd (upd v 11 0) 1 0) t r) := by
  repeat refine Rn.step rfl ?_
  refine Rn.calli rfl rfl rfl (by decide) (r_within 0 3 _) (fun x1 e1 => ?_)
  refine Rn.br1 rfl (by rw [e1]; decide) ?_
  iterate 12 refine Rn.step rfl ?_
  refine Rn.hp (h2 := wX a (upd v 11 0) t r) rfl ?_
  repeat refine Rn.step rfl ?_
  refine Rn.callv rfl rfl rfl (by decide) (r_again0 (a := a) (v := (upd v 11 0)) (n := 0) (by decide) rfl) ?_
  repeat refine Rn.step rfl ?_
  exact Rn.ret rfl
theorem r_undo0_not (hv : v 11 = 0) : Rn E 4 mX7_undo (0, [(0, .ref 0), (1, .int 0)], [], wX a v t r) (some (.int (-3)), wX a v t r) := by
  repeat refine Rn.step rfl ?_
  refine Rn.calli rfl rfl rfl (by decide) (r_within 0 3 _) (fun x1 e1 => ?_)
  refine Rn.br1 rfl (by rw [e1]; decide) ?_
  repeat refine Rn.step rfl ?_
  refine Rn.br2 rfl (fun q => q hv) ?_
  repeat refine Rn.step rfl ?_
  exact Rn.ret rfl
theorem r_undo0 {n : Nat} (hn : n < 16) (hv : v 11 = nI (n + 1)) : Rn E 4 mX7_undo (0, [(0, .ref 0), (1, .int 0)], [], wX a v t r) (some (.int (nI n)), wX (tg0 a n) (upd (upd v 11 (nI n)) 1 0) t r) := by
  repeat refine Rn.step rfl ?_
  refine Rn.calli rfl rfl rfl (by decide) (r_within 0 3 _) (fun x1 e1 => ?_)
  refine Rn.br1 rfl (by rw [e1]; decide) ?_
  repeat refine Rn.step rfl ?_
  refine Rn.br1 rfl (by rw [hv]; exact nI_ne0 (by omega) (by omega)) ?_
  iterate 8 refine Rn.step rfl ?_
  refine Rn.top (x' := nI n) (by show v 11 - 1 = _; rw [hv]; exact nI_pred n) ?_
  refine Rn.step rfl ?_
  refine Rn.hp (h2 := wX a (upd v 11 (nI n)) t r) rfl ?_
  repeat refine Rn.step rfl ?_
  refine Rn.callv rfl rfl rfl (by decide) (r_again0 (a := a) (v := (upd v 11 (nI n))) (n := n) (by omega) rfl) ?_
  repeat refine Rn.step rfl ?_
  exact Rn.ret rfl
theorem r_type1_full (b : Int32) (hb : inB b 256) (hv : v 12 = nI 16) : Rn E 4 mX7_type (0, [(0, .ref 0), (1, .int 1), (2, .int b)], [], wX a v t r) (some (.int (-4)), wX a v t r) := by
  repeat refine Rn.step rfl ?_
  refine Rn.calli rfl rfl rfl (by decide) (r_within 1 3 _) (fun x1 e1 => ?_)
  refine Rn.br2 rfl (by rw [e1]; decide) ?_
  repeat refine Rn.step rfl ?_
  refine Rn.calli rfl rfl rfl (by decide) (r_within b 256 _) (fun x2 e2 => ?_)
  refine Rn.br1 rfl (by rw [e2, ib_ne0]; exact hb) ?_
  repeat refine Rn.step rfl ?_
  refine Rn.calli rfl rfl rfl (by decide) (r_txFull (T := 41) (V := 12) (c := 16) (by decide) b hv) (fun x3 e3 => ?_)
  refine Rn.br2 rfl (by rw [e3]; decide) ?_
  repeat refine Rn.step rfl ?_
  exact Rn.ret rfl
theorem r_type1 (b : Int32) (hb : inB b 256) {n : Nat} (hn : n < 16) (hv : v 12 = nI n) : Rn E 4 mX7_type (0, [(0, .ref 0), (1, .int 1), (2, .int b)], [], wX a v t r) (some (.int (nI (n + 1))), wX (tg1 (va_up a 42 (upd (a 42) n b)) (n + 1)) (upd (upd v 12 (nI (n + 1))) 1 0) t r) := by
  repeat refine Rn.step rfl ?_
  refine Rn.calli rfl rfl rfl (by decide) (r_within 1 3 _) (fun x1 e1 => ?_)
  refine Rn.br2 rfl (by rw [e1]; decide) ?_
  repeat refine Rn.step rfl ?_
  refine Rn.calli rfl rfl rfl (by decide) (r_within b 256 _) (fun x2 e2 => ?_)
  refine Rn.br1 rfl (by rw [e2, ib_ne0]; exact hb) ?_
  repeat refine Rn.step rfl ?_
  refine Rn.calli rfl rfl rfl (by decide) (r_txAppend (T := 41) (V := 12) (c := 16) (by decide) b hn hv) (fun x3 e3 => ?_)
  refine Rn.br1 rfl (by rw [e3]; decide) ?_
  repeat refine Rn.step rfl ?_
  refine Rn.callv rfl rfl rfl (by decide) (r_again1 (a := (va_up a 42 (upd (a 42) n b))) (v := (upd v 12 (nI (n + 1)))) hn rfl) ?_
  repeat refine Rn.step rfl ?_
  exact Rn.ret rfl
theorem r_wipe1 : Rn E 4 mX7_wipe (0, [(0, .ref 0), (1, .int 1)], [], wX a v t r) (some (.int (v 12)), wX (tg1 a 0) (upd (upd v 12 0) 1 0) t r) := by
  repeat refine Rn.step rfl ?_
  refine Rn.calli rfl rfl rfl (by decide) (r_within 1 3 _) (fun x1 e1 => ?_)
  refine Rn.br1 rfl (by rw [e1]; decide) ?_
  iterate 12 refine Rn.step rfl ?_
  refine Rn.hp (h2 := wX a (upd v 12 0) t r) rfl ?_
  repeat refine Rn.step rfl ?_
  refine Rn.callv rfl rfl rfl (by decide) (r_again1 (a := a) (v := (upd v 12 0)) (n := 0) (by decide) rfl) ?_
  repeat refine Rn.step rfl ?_
  exact Rn.ret rfl
theorem r_undo1_not (hv : v 12 = 0) : Rn E 4 mX7_undo (0, [(0, .ref 0), (1, .int 1)], [], wX a v t r) (some (.int (-3)), wX a v t r) := by
  repeat refine Rn.step rfl ?_
  refine Rn.calli rfl rfl rfl (by decide) (r_within 1 3 _) (fun x1 e1 => ?_)
  refine Rn.br1 rfl (by rw [e1]; decide) ?_
  repeat refine Rn.step rfl ?_
  refine Rn.br2 rfl (fun q => q hv) ?_
  repeat refine Rn.step rfl ?_
  exact Rn.ret rfl
theorem r_undo1 {n : Nat} (hn : n < 16) (hv : v 12 = nI (n + 1)) : Rn E 4 mX7_undo (0, [(0, .ref 0), (1, .int 1)], [], wX a v t r) (some (.int (nI n)), wX (tg1 a n) (upd (upd v 12 (nI n)) 1 0) t r) := by
  repeat refine Rn.step rfl ?_
  refine Rn.calli rfl rfl rfl (by decide) (r_within 1 3 _) (fun x1 e1 => ?_)
  refine Rn.br1 rfl (by rw [e1]; decide) ?_
  repeat refine Rn.step rfl ?_
  refine Rn.br1 rfl (by rw [hv]; exact nI_ne0 (by omega) (by omega)) ?_
  iterate 8 refine Rn.step rfl ?_
  refine Rn.top (x' := nI n) (by show v 12 - 1 = _; rw [hv]; exact nI_pred n) ?_
  refine Rn.step rfl ?_
  refine Rn.hp (h2 := wX a (upd v 12 (nI n)) t r) rfl ?_
  repeat refine Rn.step rfl ?_
  refine Rn.callv rfl rfl rfl (by decide) (r_again1 (a := a) (v := (upd v 12 (nI n))) (n := n) (by omega) rfl) ?_
  repeat refine Rn.step rfl ?_
  exact Rn.ret rfl
theorem r_type2_full (b : Int32) (hb : inB b 256) (hv : v 13 = nI 31) : Rn E 4 mX7_type (0, [(0, .ref 0), (1, .int 2), (2, .int b)], [], wX a v t r) (some (.int (-4)), wX a v t r) := by
  repeat refine Rn.step rfl ?_
  refine Rn.calli rfl rfl rfl (by decide) (r_within 2 3 _) (fun x1 e1 => ?_)
  refine Rn.br2 rfl (by rw [e1]; decide) ?_
  repeat refine Rn.step rfl ?_
  refine Rn.calli rfl rfl rfl (by decide) (r_within b 256 _) (fun x2 e2 => ?_)
  refine Rn.br1 rfl (by rw [e2, ib_ne0]; exact hb) ?_
  repeat refine Rn.step rfl ?_
  refine Rn.calli rfl rfl rfl (by decide) (r_txFull (T := 43) (V := 13) (c := 31) (by decide) b hv) (fun x3 e3 => ?_)
  refine Rn.br2 rfl (by rw [e3]; decide) ?_
  repeat refine Rn.step rfl ?_
  exact Rn.ret rfl
theorem r_type2 (b : Int32) (hb : inB b 256) {n : Nat} (hn : n < 31) (hv : v 13 = nI n) : Rn E 4 mX7_type (0, [(0, .ref 0), (1, .int 2), (2, .int b)], [], wX a v t r) (some (.int (nI (n + 1))), wX (tg2 (va_up a 44 (upd (a 44) n b)) (n + 1)) (upd (tgv (va_up a 44 (upd (a 44) n b)) (upd v 13 (nI (n + 1))) (n + 1)) 1 0) t r) := by
  repeat refine Rn.step rfl ?_
  refine Rn.calli rfl rfl rfl (by decide) (r_within 2 3 _) (fun x1 e1 => ?_)
  refine Rn.br2 rfl (by rw [e1]; decide) ?_
  repeat refine Rn.step rfl ?_
  refine Rn.calli rfl rfl rfl (by decide) (r_within b 256 _) (fun x2 e2 => ?_)
  refine Rn.br1 rfl (by rw [e2, ib_ne0]; exact hb) ?_
  repeat refine Rn.step rfl ?_
  refine Rn.calli rfl rfl rfl (by decide) (r_txAppend (T := 43) (V := 13) (c := 31) (by decide) b hn hv) (fun x3 e3 => ?_)
  refine Rn.br1 rfl (by rw [e3]; decide) ?_
  repeat refine Rn.step rfl ?_
  refine Rn.callv rfl rfl rfl (by decide) (r_again2 (a := (va_up a 44 (upd (a 44) n b))) (v := (upd v 13 (nI (n + 1)))) hn rfl) ?_
  repeat refine Rn.step rfl ?_
  exact Rn.ret rfl
theorem r_wipe2 : Rn E 4 mX7_wipe (0, [(0, .ref 0), (1, .int 2)], [], wX a v t r) (some (.int (v 13)), wX (tg2 a 0) (upd (tgv a (upd v 13 0) 0) 1 0) t r) := by
  repeat refine Rn.step rfl ?_
  refine Rn.calli rfl rfl rfl (by decide) (r_within 2 3 _) (fun x1 e1 => ?_)
  refine Rn.br1 rfl (by rw [e1]; decide) ?_
  iterate 12 refine Rn.step rfl ?_
  refine Rn.hp (h2 := wX a (upd v 13 0) t r) rfl ?_
  repeat refine Rn.step rfl ?_
  refine Rn.callv rfl rfl rfl (by decide) (r_again2 (a := a) (v := (upd v 13 0)) (n := 0) (by decide) rfl) ?_
  repeat refine Rn.step rfl ?_
  exact Rn.ret rfl
theorem r_undo2_not (hv : v 13 = 0) : Rn E 4 mX7_undo (0, [(0, .ref 0), (1, .int 2)], [], wX a v t r) (some (.int (-3)), wX a v t r) := by
  repeat refine Rn.step rfl ?_
  refine Rn.calli rfl rfl rfl (by decide) (r_within 2 3 _) (fun x1 e1 => ?_)
  refine Rn.br1 rfl (by rw [e1]; decide) ?_
  repeat refine Rn.step rfl ?_
  refine Rn.br2 rfl (fun q => q hv) ?_
  repeat refine Rn.step rfl ?_
  exact Rn.ret rfl
theorem r_undo2 {n : Nat} (hn : n < 31) (hv : v 13 = nI (n + 1)) : Rn E 4 mX7_undo (0, [(0, .ref 0), (1, .int 2)], [], wX a v t r) (some (.int (nI n)), wX (tg2 a n) (upd (tgv a (upd v 13 (nI n)) n) 1 0) t r) := by
  repeat refine Rn.step rfl ?_
  refine Rn.calli rfl rfl rfl (by decide) (r_within 2 3 _) (fun x1 e1 => ?_)
  refine Rn.br1 rfl (by rw [e1]; decide) ?_
  repeat refine Rn.step rfl ?_
  refine Rn.br1 rfl (by rw [hv]; exact nI_ne0 (by omega) (by omega)) ?_
  iterate 8 refine Rn.step rfl ?_
  refine Rn.top (x' := nI n) (by show v 13 - 1 = _; rw [hv]; exact nI_pred n) ?_
  refine Rn.step rfl ?_
  refine Rn.hp (h2 := wX a (upd v 13 (nI n)) t r) rfl ?_
  repeat refine Rn.step rfl ?_
  refine Rn.callv rfl rfl rfl (by decide) (r_again2 (a := a) (v := (upd v 13 (nI n))) (n := n) (by omega) rfl) ?_
  repeat refine Rn.step rfl ?_
  exact Rn.ret rfl
theorem r_wipe_bad (x : Int32) (hb : ¬ inB x 3) : Rn E 4 mX7_wipe (0, [(0, .ref 0), (1, .int x)], [], wX a v t r) (some (.int (-2)), wX a v t r) := by
  repeat refine Rn.step rfl ?_
  refine Rn.calli rfl rfl rfl (by decide) (r_within x 3 _) (fun x1 e1 => ?_)
  refine Rn.br2 rfl (fun h1 => hb (ib_ne0.mp (e1 ▸ h1))) ?_
  repeat refine Rn.step rfl ?_
  exact Rn.ret rfl
theorem r_undo_bad (x : Int32) (hb : ¬ inB x 3) : Rn E 4 mX7_undo (0, [(0, .ref 0), (1, .int x)], [], wX a v t r) (some (.int (-2)), wX a v t r) := by
  repeat refine Rn.step rfl ?_
  refine Rn.calli rfl rfl rfl (by decide) (r_within x 3 _) (fun x1 e1 => ?_)
  refine Rn.br2 rfl (fun h1 => hb (ib_ne0.mp (e1 ▸ h1))) ?_
  repeat refine Rn.step rfl ?_
  exact Rn.ret rfl
end X4
