/-! calls, answers, the whole interpreter -/
abbrev iMy (M : iMeth) : MethodName := M.1
abbrev iMb (M : iMeth) : ByteArray := M.2.1
abbrev iMl (M : iMeth) : Nat := M.2.2.1
abbrev iMr (M : iMeth) : Option FieldType := M.2.2.2.1
abbrev iMn (M : iMeth) : Nat := M.2.2.2.2.1
abbrev iMk (M : iMeth) : Nat := M.2.2.2.2.2.1
abbrev iMp (M : iMeth) : List Nat := M.2.2.2.2.2.2.1
abbrev iMt (M : iMeth) : List (List (Option iEnt)) := M.2.2.2.2.2.2.2
def iLen : Instr → Nat
  | .bipush _ => 2 | .ldc _ => 2 | .iload _ => 2 | .lload _ => 2 | .aload _ => 2 | .istore _ => 2 | .lstore _ => 2 | .astore _ => 2 | .newarray _ => 2
  | .sipush _ => 3 | .ldc_w _ => 3 | .ldc2_w _ => 3 | .iinc _ _ => 3 | .goto _ => 3 | .if_icmp _ _ => 3 | .ifCond _ _ => 3 | .getfield _ => 3 | .putfield _ => 3 | .getstatic _ => 3 | .new _ => 3 | .anewarray _ => 3 | .invokespecial _ => 3 | .invokevirtual _ => 3 | .invokestatic _ => 3
  | _ => 1
def iOkF (M : iMeth) (res pos i : Nat) : Bool := match vwCl[res / 64]? with
  | some q => decide (res % 64 < q.2.2) && decide (lw_tbl[pos]? = some (.fieldLink (iMy M).cls i (q.2.1 (res % 64)).1 (q.2.1 (res % 64)).2.1 (q.2.1 (res % 64)).2.2.1))
  | none => false
def iOkFin (M : iMeth) (res : Nat) : Bool := match vwCl[res / 64]? with
  | some q => !(q.2.1 (res % 64)).2.2.2 || (decide ((iMy M).name = "<init>") && decide ((q.2.1 (res % 64)).1 = (iMy M).cls))
  | none => false
def iOkL (M C : iMeth) (pos i : Nat) : Bool := decide (lw_tbl[pos]? = some (.methodLink (iMy M).cls i (iMy C)))
def iOkN (M C : iMeth) (pos i : Nat) : Bool := decide (lw_tbl[pos]? = some (.methodLinkNest (iMy M).cls i (iMy C) "LogFlume"))
def iOkI (P : Nat → Option iMeth) (M : iMeth) (pc : Nat) (ins : Instr) (nx res : Nat) (val : Value) (pos : Nat) : Bool := match ins with
  | .iconst n => decide (val = .int (Int32.ofInt n))
  | .bipush n => decide (val = .int (Int8.ofInt n).toInt32)
  | .sipush n => decide (val = .int (Int16.ofInt n).toInt32)
  | .lconst n => decide (val = .long (Int64.ofNat n))
  | .ldc i => (match val with
    | .int v => decide (lw_tbl[pos]? = some (.constant (iMy M).cls i v))
    | _ => false)
  | .ldc_w i => (match val with
    | .int v => decide (lw_tbl[pos]? = some (.constant (iMy M).cls i v))
    | _ => false)
  | .ldc2_w i => (match val with
    | .long v => decide (lw_tbl[pos]? = some (.constantLong (iMy M).cls i v))
    | _ => false)
  | .iinc i n => decide (val = .int (Int32.ofInt n)) && decide (i < iMl M)
  | .istore i => decide (i < iMl M)
  | .istore_n i => decide (i.val < iMl M)
  | .astore i => decide (i < iMl M)
  | .astore_n i => decide (i.val < iMl M)
  | .lstore i => decide (i + 1 < iMl M)
  | .lstore_n i => decide (i.val + 1 < iMl M)
  | .goto off => decide ((pc : Int) + off = (res : Int))
  | .if_icmp _ off => decide ((pc : Int) + off = (res : Int))
  | .ifCond _ off => decide ((pc : Int) + off = (res : Int))
  | .getfield i => iOkF M res pos i
  | .putfield i => iOkF M res pos i && iOkFin M res
  | .getstatic i => decide (lw_tbl[pos]? = some (.fieldLink (iMy M).cls i "LogFlume" "DIGEST_MINUTES" "[I"))
  | .new i => (match vwCl[res]? with
    | some q => decide (lw_tbl[pos]? = some (.classLink (iMy M).cls i q.1))
    | none => false)
  | .anewarray i => (decide (res = 2) && decide (lw_tbl[pos]? = some (.classLink (iMy M).cls i RX4))) || (decide (res = 3) && decide (lw_tbl[pos]? = some (.classLink (iMy M).cls i RX2)))
  | .invokespecial i => if res = 1000 then decide (lw_tbl[pos]? = some (.methodLink (iMy M).cls i Lib.objectInit)) else (match P res with
    | some C => decide (iMk C = 2) && (iOkL M C pos i || iOkN M C pos i)
    | none => false)
  | .invokevirtual i => (match P res with
    | some C => decide (10 ≤ iMk C) && iOkL M C pos i
    | none => false)
  | .invokestatic i => if res = 1001 then decide (lw_tbl[pos]? = some (.methodLink (iMy M).cls i arraycopyName)) else if res = 1002 then decide (lw_tbl[pos]? = some (.methodLink (iMy M).cls i Lib.Math.max.name)) else if res = 1003 then decide (lw_tbl[pos]? = some (.methodLink (iMy M).cls i Lib.Math.min.name)) else (match P res with
    | some C => decide (iMk C = 0) && (iOkL M C pos i || iOkN M C pos i)
    | none => false)
  | .tableswitch dflt lo hi offs => decide (decode (iMb M) pc = .ok (.tableswitch dflt lo hi offs, nx - pc))
  | _ => true
def iIsSw : Instr → Bool
  | .tableswitch _ _ _ _ => true
  | _ => false
def iOkE (P : Nat → Option iMeth) (M : iMeth) (pc : Nat) (en : iEnt) : Bool := match en with
  | (ins, nx, res, val, pos) => (iIsSw ins || (decide (nx = pc + iLen ins) && decide (decode (iMb M) pc = .ok (ins, iLen ins)))) && iOkI P M pc ins nx res val pos
def iOkT (P : Nat → Option iMeth) (M : iMeth) : Bool := (List.range (16 * (iMt M).length)).all (fun pc => match iFetch (iMt M) pc with
  | none => true
  | some en => iOkE P M pc en)
theorem iOkT_at {P : Nat → Option iMeth} {M : iMeth} (h : iOkT P M = true) {pc : Nat} {en : iEnt} (hf : iFetch (iMt M) pc = some en) : iOkE P M pc en = true := by
  have hlt : pc < 16 * (iMt M).length := by
    unfold iFetch at hf
    split at hf
    · rename_i r hr
      rw [iLg_eq] at hr
      have := (List.getElem?_eq_some_iff.mp hr).1
      omega
    · cases hf
  have h1 := List.all_eq_true.mp h pc (List.mem_range.mpr hlt)
  rw [hf] at h1
  exact h1
def iOkK (C : iMeth) : Bool := if iMk C = 0 then decide (lw_tbl[(iMp C).getD 2 0]? = some (.static (iMy C))) else decide (lw_tbl[(iMp C).getD 2 0]? = some (.instanceMethod (iMy C))) && (if iMk C = 2 then decide ((iMy C).name = "<init>") && decide (iMr C = none) else decide (lw_tbl[(iMp C).getD 3 0]? = some (.selects (iMy C).cls (iMy C) (iMy C))) && (match vwCl[iMk C - 10]? with
  | some q => decide (q.1 = (iMy C).cls)
  | none => false))
def iOkM (C : iMeth) : Bool := plainName (iMy C).cls && (decide (lw_tbl[(iMp C).getD 0 0]? = some (.code (iMy C) (iMb C) (iMl C) (iMr C))) && (decide (lw_tbl[(iMp C).getD 1 0]? = some (.initialized (iMy C).cls)) && (decide ((iMy C).cls ≠ "java/lang/invoke/MethodHandle") && (decide ((iMy C).cls ≠ "java/lang/invoke/VarHandle") && (decide ((parseMethodDescriptor (iMy C).desc).map (fun d => d.parameters.length) = some (iMn C)) && (decide (iMl C ≤ 21) && iOkK C))))))
section IMono
variable {E : iExtT} {np nk : Nat → Nat} {ret : Option FieldType} {pc : Nat} {en : iEnt} {L : List (Nat × Value)} {S : List Value} {h : List va_E}
theorem iEx_mono {c' : iCfg} (hs : iEx E np nk ret pc en L S h = some (.inl c')) : h.length ≤ c'.2.2.2.length ∧ iSl h ≤ iSl c'.2.2.2 := by
  obtain ⟨ins, nx, res, val, pos⟩ := en
  have key : ∀ {nx' : Nat} {L' : List (Nat × Value)} {S' : List Value}, iNx nx' L' S' h = some (.inl c') → h.length ≤ c'.2.2.2.length ∧ iSl h ≤ iSl c'.2.2.2 := by
    intro nx' L' S' hh
    cases hh
    exact ⟨Nat.le_refl _, Nat.le_refl _⟩
  have kset : ∀ {nx' : Nat} {L' : List (Nat × Value)} {S' : List Value} {a : Nat} {e0 e1 : va_E}, iLg h a = some e0 → iSz e1 = iSz e0 → iNx nx' L' S' (h.set a e1) = some (.inl c') → h.length ≤ c'.2.2.2.length ∧ iSl h ≤ iSl c'.2.2.2 := by
    intro nx' L' S' a e0 e1 h1 h2 hh
    cases hh
    exact ⟨by rw [List.length_set]; exact Nat.le_refl _, by rw [iSl_set h1 h2]; exact Nat.le_refl _⟩
  have kpush : ∀ {nx' : Nat} {L' : List (Nat × Value)} {S' : List Value} {e1 : va_E}, iNx nx' L' S' (h ++ [e1]) = some (.inl c') → h.length ≤ c'.2.2.2.length ∧ iSl h ≤ iSl c'.2.2.2 := by
    intro nx' L' S' e1 hh
    cases hh
    exact ⟨by rw [List.length_append]; omega, by rw [iSl_push]; omega⟩
  cases ins <;> simp only [iEx, iLdI, iLdL, iLdA, iStI, iStL, iStA, iBin, iBil, iUn, iGetf, iPutf, iAld, iAll, iAla, iAlen, iAst, iAsl, iAsa, iNewa, iNewq, iCopy, iMax, iMin, iOI, iLfl_eq, iSw, iCmp, iCallS, iCallI, iCallV, cond_eq_ite] at hs
  all_goals (repeat' split at hs)
  all_goals first | (cases hs; done) | exact key hs | exact kpush hs | exact kset (by assumption) (by first | rfl | simp [iSz]) hs
theorem iEx_call {n : Nat} {as : List Value} {c' : iCfg} (hs : iEx E np nk ret pc en L S h = some (.inr (.inl (n, as, c')))) : c'.2.2.2 = h := by
  obtain ⟨ins, nx, res, val, pos⟩ := en
  cases ins <;> simp only [iEx, iLdI, iLdL, iLdA, iStI, iStL, iStA, iBin, iBil, iUn, iGetf, iPutf, iAld, iAll, iAla, iAlen, iAst, iAsl, iAsa, iNewa, iNewq, iCopy, iMax, iMin, iOI, iLfl_eq, iSw, iCmp, iCallS, iCallI, iCallV, cond_eq_ite] at hs
  all_goals (repeat' split at hs)
  all_goals (cases hs)
  all_goals rfl
end IMono

theorem iRun_mono {E : iExtT} {P : Nat → Option iMeth} : ∀ (f d : Nat) (M : iMeth) (c : iCfg) (o : iRes), iRun E P f d M c = some o → c.2.2.2.length ≤ o.2.length ∧ iSl c.2.2.2 ≤ iSl o.2 := by
  intro f
  induction f with
  | zero => intro d M c o h; cases h
  | succ f ih =>
    intro d M c o h
    obtain ⟨pc, L, S, hh⟩ := c
    simp only [iRun, iStep] at h
    split at h
    · cases h
    · rename_i c' hs
      split at hs
      · have h1 := iEx_mono hs
        have h2 := ih _ _ _ _ h
        exact ⟨Nat.le_trans h1.1 h2.1, Nat.le_trans h1.2 h2.2⟩
      · cases hs
    · cases h
      exact ⟨Nat.le_refl _, Nat.le_refl _⟩
    · rename_i n as c' hs
      split at hs
      · have h0 := iEx_call hs
        split at h
        · cases h
        · split at h
          · cases h
          · rename_i C _
            cases hg : Nat.ble (iCat as) C.2.2.1 with
            | false => rw [hg] at h; cases h
            | true =>
              rw [hg] at h
              simp only [cond_true] at h
              split at h
              · cases h
              · rename_i hr
                have h1 := ih _ _ _ _ hr
                have h2 := ih _ _ _ _ h
                dsimp only at h1 h2
                rw [h0] at h1
                exact ⟨Nat.le_trans h1.1 h2.1, Nat.le_trans h1.2 h2.2⟩
      · cases hs
section ICalls
variable {p : Program} {l : Launch} {e : Env} {R : Room} {s : State} {m : MethodId} {args : Array Value} {below : List Frame} {meth : Method} {cd : Code} {Q : State → Prop} {cc : ByteArray} {B b dg n0 z0 nL Ls : Nat} {xs : Nat → Int32} {tc : Nat → ClassId} {dC : Nat → ClassId} {dI : Nat → Nat → Nat} {pc nx : Nat} {L : List (Nat × Value)} {S : List Value} {h : List va_E} {c' : iCfg}
def iSp : Cond → Bool
  | .methodLinkNest _ _ _ _ => true
  | .arrayOver (.object _) => true
  | _ => false
theorem lw_cls : lw_tbl.all (fun w => !iUse w || (goodWord w || iSp w)) = true := by decide +kernel
def iN (U : State) : Prop := ∀ w ∈ lw_tbl, iSp w = true → w.before #[] U = true
theorem iN_warm {U V : State} (hW : U.WarmedH V.vm) (h : iN U) : iN V := by
  intro w hw hs
  have h1 := h w hw hs
  cases w with
  | methodLinkNest a i x host => exact va_Nw.warmM hW h1
  | arrayOver t =>
    cases t with
    | object C => exact va_AO.moved hW.alike h1
    | _ => cases hs
  | _ => cases hs
theorem iN_same {U V : State} (hW : U.vm = V.vm) (h : iN U) : iN V := by
  intro w hw hs
  have h1 := h w hw hs
  cases w with
  | methodLinkNest a i x host => exact va_Nw.same rfl hW h1
  | arrayOver t =>
    cases t with
    | object C => exact va_AO.moved (hW ▸ Vm.Alike.refl U.vm) h1
    | _ => cases hs
  | _ => cases hs
theorem iN_use {w : Cond} (hs : iSp w = true) {A : Array Value} {U : State} (h : w.before #[] U = true) : w.before A U = true := by
  cases w with
  | methodLinkNest a i x host => exact va_Nw.use rfl h
  | arrayOver t =>
    cases t with
    | object C => exact va_AO.use h
    | _ => cases hs
  | _ => cases hs
def iPc (B b dg Ls : Nat) (xs : Nat → Int32) (tc dC : Nat → ClassId) (dI : Nat → Nat → Nat) (as : List Value) (h : List va_E) : Array Value → State → Prop := va_Pc (as.map (iv B b dg)) (fun U => U.heap.size = B + h.length ∧ va_P (dC, dI) vwCl (iw B b dg tc h) U.heap ∧ iG B b dg Ls xs tc dC dI U U.heap ∧ iN U)
def iQc (B b dg : Nat) (tc dC : Nat → ClassId) (dI : Nat → Nat → Nat) (r : Option Value) (h' : List va_E) : Array Value → State → Outcome → State → Prop := fun _ st oc t => oc = .returned (r.map (iv B b dg)) ∧ va_P (dC, dI) vwCl (iw B b dg tc h') t.heap ∧ va_F (fun q => B ≤ q) st t
theorem iG_moved {U V : State} {H : Heap} (hvm : U.vm.Alike V.vm) (h : iG B b dg Ls xs tc dC dI U H) : iG B b dg Ls xs tc dC dI V H :=
  ⟨h.1.moved hvm, ⟨h.2.1.1, h.2.1.2.moved hvm⟩, h.2.2.1.moved hvm, h.2.2.2.moved hvm⟩
theorem iG_kept {U : State} {H H1 : Heap} (h : iG B b dg Ls xs tc dC dI U H) (hq : ∀ a : Nat, a < H.size → ¬ B ≤ a → H1[a]? = H[a]?) : iG B b dg Ls xs tc dC dI U H1 :=
  ⟨h.1, ⟨h.2.1.1, h.2.1.2.kept (by
    obtain ⟨scr, h1, -⟩ := h.2.1.2
    exact hq b (Array.getElem?_eq_some_iff.mp h1).1 (by have := h.2.1.1; omega))⟩, h.2.2.1.kept hq, h.2.2.2.kept hq⟩
theorem iPc_blind {as : List Value} : FrameBlind (iPc B b dg Ls xs tc dC dI as h) := by
  intro a U g mk q
  obtain ⟨q0, q1, q2, q3, q4⟩ := q
  exact ⟨q0, q1, q2, iG_moved (U := U) (V := U.calling g mk a) (Vm.Alike.refl U.vm) q3, iN_same (U := U) (V := U.calling g mk a) rfl q4⟩
theorem i_after {H : Heap} {locs : List Loc} {cells slots mc ms : Nat} {ls : Array Slot} {st0 rest : List Value} {r : Option Value} {h' : List va_E} {a : Array Value} (hr : va_Run p l e R s m args below meth cd H locs cells slots mc ms (F0 m pc ls st0) rest (iQc B b dg tc dC dI r h' a) (fun q => B ≤ q)) (hS : va_S (fun q => B ≤ q) s.heap H locs) (kk : ∀ (H1 : Heap) (locs1 : List Loc), va_P (dC, dI) vwCl (iw B b dg tc h') H1 → va_S (fun q => B ≤ q) s.heap H1 locs1 → W p l e R s m args below meth cd H1 locs1 (cells + mc) (slots + ms) Q (F0 m (pc + 3) ls ((r.map (iv B b dg)).toList ++ rest))) : W p l e R s m args below meth cd H locs cells slots Q (F0 m pc ls st0) := by
  intro T hT X
  obtain ⟨v, st₀, t, T', L', g0, X', hL, e1, e2, ⟨hv, hP', hz, hk⟩, st⟩ := hr T hT X
  cases hv
  rw [g0] at hz hk
  obtain ⟨t2, a1, b1⟩ := kk T'.heap (locs ++ L') (by rw [e1]; exact hP') ⟨Nat.le_trans hS.1 (by rw [e1]; exact hz), fun q h1 h2 => by rw [e1, hk q (Nat.lt_of_lt_of_le h1 hS.1) h2]; exact hS.2.1 q h1 h2, fun q hq => by
      rcases List.mem_append.mp hq with h | h
      · exact hS.2.2 q h
      · exact hL q h⟩ T' rfl X'
  exact ⟨t2, st t2 a1, b1⟩
theorem iTake_spec : ∀ (k : Nat) (acc S as S' : List Value), iTake k acc S = some (as, S') → ∃ t : List Value, as = t ++ acc ∧ t.length = k ∧ S = t.reverse ++ S' := by
  intro k
  induction k with
  | zero => intro acc S as S' h; cases h; exact ⟨[], rfl, rfl, rfl⟩
  | succ k ih =>
    intro acc S as S' h
    cases S with
    | nil => cases h
    | cons v S =>
      obtain ⟨t, h1, h2, h3⟩ := ih (v :: acc) S as S' h
      exact ⟨t ++ [v], by rw [h1]; simp, by simp [h2], by rw [h3]; simp⟩
abbrev iRm (d : Nat) (h h' : List va_E) : Room := { frames := d + 1, cells := h'.length - h.length, slots := iSl h' - iSl h, locals := 40 * d + 30 }
abbrev iWs (C : iMeth) : List Cond := Cond.code (iMy C) (iMb C) (iMl C) (iMr C) :: lw_tbl.filter goodWord
theorem iWs_good {C : iMeth} (hts : ∀ w ∈ lw_tbl, iUse w = true → w.before args s = true) (hC : Cond.code (iMy C) (iMb C) (iMl C) (iMr C) ∈ lw_tbl) : ∀ w ∈ iWs C, ∀ (a' : Array Value) (U : State), s.WarmedH U.vm → w.before a' U = true := by
  intro w hw a' U hW
  have hm : w ∈ lw_tbl ∧ goodWord w = true := by
    rcases List.mem_cons.mp hw with rfl | h
    · exact ⟨hC, rfl⟩
    · exact List.mem_filter.mp h
  have hu : iUse w = true := by
    cases w with
    | privateMethod x => cases hm.2
    | laysStatic a b c => cases hm.2
    | _ => rfl
  exact word_at hW (good_of_word hm.2) (hts w hm.1 hu)
theorem iOkM_spec {C : iMeth} (h : iOkM C = true) : plainName (iMy C).cls = true ∧ Cond.code (iMy C) (iMb C) (iMl C) (iMr C) ∈ lw_tbl ∧ Cond.initialized (iMy C).cls ∈ lw_tbl ∧ ((iMy C).cls ≠ "java/lang/invoke/MethodHandle" ∧ (iMy C).cls ≠ "java/lang/invoke/VarHandle") ∧ (∀ sig, parseMethodDescriptor (iMy C).desc = some sig → iMn C = sig.parameters.length) ∧ iMl C ≤ 21 ∧ iOkK C = true := by
  simp only [iOkM, Bool.and_eq_true, decide_eq_true_eq] at h
  obtain ⟨h1, h2, h3, h4, h5, h6, h7, h8⟩ := h
  refine ⟨h1, List.mem_of_getElem? h2, List.mem_of_getElem? h3, ⟨h4, h5⟩, fun sig hs => ?_, h7, h8⟩
  rw [hs] at h6
  exact (Option.some.inj h6).symm
theorem i_cb {C : iMeth} (hC : iOkM C = true) (hts : ∀ w ∈ lw_tbl, iUse w = true → w.before args s = true) {d : Nat} {h' : List va_E} (hRf : d + 2 ≤ R.frames) (hRl : 40 * (d + 1) + 30 ≤ R.locals) {own : String} {idx : Nat} (hl : (Cond.methodLink own idx (iMy C)).before args s = true) : CallB R s args own idx (iMy C) (iMb C) (iMl C) (iMr C) (iWs C) (iRm d h h') (h'.length - h.length) (iSl h' - iSl h) (iMn C) := by
  obtain ⟨h1, h2, h3, h4, h5, h6, h7⟩ := iOkM_spec hC
  exact ⟨rfl, rfl, hRf, by show 8 + (iMl C + 11) + (40 * d + 30) ≤ R.locals; omega, iWs_good hts h2, List.mem_cons_self, hts _ h2 rfl, hts _ h3 rfl, h4, h5, hl⟩
theorem i_cn {C : iMeth} (hC : iOkM C = true) (hts : ∀ w ∈ lw_tbl, iUse w = true → w.before args s = true) {d : Nat} {h' : List va_E} (hRf : d + 2 ≤ R.frames) (hRl : 40 * (d + 1) + 30 ≤ R.locals) {own : String} {idx : Nat} (hl : (Cond.methodLinkNest own idx (iMy C) "LogFlume").before args s = true) : va_CN R s args own idx (iMy C) "LogFlume" (iMb C) (iMl C) (iMr C) (iWs C) (iRm d h h') (h'.length - h.length) (iSl h' - iSl h) (iMn C) := by
  obtain ⟨h1, h2, h3, h4, h5, h6, h7⟩ := iOkM_spec hC
  exact ⟨⟨rfl, rfl, hRf, by show 8 + (iMl C + 11) + (40 * d + 30) ≤ R.locals; omega, iWs_good hts h2, List.mem_cons_self⟩, hts _ h2 rfl, hts _ h3 rfl, h4, h5, hl⟩
end ICalls
