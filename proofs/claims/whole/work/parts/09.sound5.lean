section ISim
variable {p : Program} {l : Launch} {e : Env} {R : Room} {s : State} {m : MethodId} {args : Array Value} {below : List Frame} {meth : Method} {cd : Code} {Q : State → Prop} {B b dg n0 z0 Ls : Nat} {xs : Nat → Int32} {tc : Nat → ClassId} {dC : Nat → ClassId} {dI : Nat → Nat → Nat} {pc nx : Nat} {L : List (Nat × Value)} {S : List Value} {h : List va_E} {c' : iCfg}
theorem iOkF_spec {M : iMeth} {res pos i : Nat} (h : iOkF M res pos i = true) : ∃ q : vw_C, vwCl[res / 64]? = some q ∧ res % 64 < q.2.2 ∧ lw_tbl[pos]? = some (.fieldLink (iMy M).cls i (q.2.1 (res % 64)).1 (q.2.1 (res % 64)).2.1 (q.2.1 (res % 64)).2.2.1) := by
  unfold iOkF at h
  split at h
  · rename_i q hq
    simp only [Bool.and_eq_true, decide_eq_true_eq] at h
    exact ⟨q, hq, h.1, h.2⟩
  · cases h
theorem iOkFin_spec {M : iMeth} {res : Nat} {q : vw_C} (hq : vwCl[res / 64]? = some q) (h : iOkFin M res = true) : (q.2.1 (res % 64)).2.2.2 = true → (iMy M).name = "<init>" ∧ (q.2.1 (res % 64)).1 = (iMy M).cls := by
  intro hf
  unfold iOkFin at h
  rw [hq] at h
  simp only [hf, Bool.not_true, Bool.false_or, Bool.and_eq_true, decide_eq_true_eq] at h
  exact h
theorem iSim {P : Nat → Option iMeth} {M : iMeth} (hx : p.tables.exec = Jvm.exec) (hb : cd.code = iMb M) (hml : cd.maxLocals = iMl M) (hown : s.vm.findClass (iMy M).cls = some m.cls) (hinit : (iMy M).name = "<init>" → meth.name = "<init>") (hts : ∀ w ∈ lw_tbl, iUse w = true → w.before args s = true) (hG : iG B b dg Ls xs tc dC dI s s.heap) (hs0 : s.heap.size = B + n0) (hRf : 1 ≤ R.frames) (hRl : 30 ≤ R.locals) {en : iEnt} (ho : iOkE P M pc en = true) (hs : iEx (iExt Ls xs) (iNp P) (iNk P) (iMr M) pc en L S h = some (.inl c')) (hcl : c'.2.2.2.length ≤ n0 + R.cells) (hsl : iSl c'.2.2.2 ≤ z0 + R.slots) (k : iAt p l e R s m args below meth cd Q B b dg n0 z0 (iMl M) tc dC dI c') : iAt p l e R s m args below meth cd Q B b dg n0 z0 (iMl M) tc dC dI (pc, L, S, h) := by
  obtain ⟨ins, nx, res, val, pos⟩ := en
  simp only [iOkE, Bool.and_eq_true, Bool.or_eq_true, decide_eq_true_eq] at ho
  obtain ⟨hd0, ho⟩ := ho
  cases ins <;> simp only [iEx] at hs <;> first | (cases hs; done) | skip
  all_goals simp only [iIsSw, iLen, Bool.false_eq_true, false_or] at hd0
  all_goals try (obtain ⟨hnx, hd⟩ := hd0; subst hnx)
  all_goals try simp only [iOkI, Bool.and_eq_true, Bool.or_eq_true, decide_eq_true_eq] at ho
  case aaload => exact is_aaload hx hb hG.1 hd hs k
  case aastore => exact is_aastore hx hb hG.1 hd hs k
  case aload i => exact is_aload hx hb hd hs k
  case aload_n i => exact is_aload_n hx hb hd hs k
  case anewarray i =>
    rcases ho with ⟨rfl, hw⟩ | ⟨rfl, hw⟩
    · exact is_anew2 hx hb hts hown hG.1 hs0 hw hd hs hcl hsl k
    · exact is_anew3 hx hb hts hown hG.1 hs0 hw hd hs hcl hsl k
  case arraylength => exact is_alen hx hb hG hs0 hd hs k
  case astore i => exact is_astore hx hb ho hd hs k
  case astore_n i => exact is_astore_n hx hb ho hd hs k
  case bipush n => subst ho; cases hs; exact is_bipush hx hb hd k
  case dup => exact is_dup hx hb hd hs k
  case dup2 => exact is_dup2 hx hb hd hs k
  case getfield i =>
    obtain ⟨q, h1, h2, h3⟩ := iOkF_spec ho
    exact is_getfield hx hb hts hown hG.1 h1 h2 h3 hd hs k
  case getstatic i => cases hs; exact is_getstatic hx hb hown (hts _ (List.mem_of_getElem? ho) rfl) hG hd k
  case goto off => cases hs; exact is_goto hx hb ho hd k
  case i2b => exact is_i2b hx hb hd hs k
  case i2l => exact is_i2l hx hb hd hs k
  case i2s => exact is_i2s hx hb hd hs k
  case iadd => exact is_iadd hx hb hd hs k
  case iaload => exact is_iaload hx hb hG hs0 hd hs k
  case iand => exact is_iand hx hb hd hs k
  case iastore => exact is_iastore hx hb hG.1 hd hs k
  case iconst n => subst ho; cases hs; exact is_iconst hx hb hd k
  case idiv => exact is_idiv hx hb hd hs k
  case if_icmp cn off => exact is_if_icmp hx hb ho hd hs k
  case ifCond cn off => exact is_ifCond hx hb ho hd hs k
  case iinc i n => exact is_iinc hx hb ho.2 ho.1 hd hs k
  case iload i => exact is_iload hx hb hd hs k
  case iload_n i => exact is_iload_n hx hb hd hs k
  case imul => exact is_imul hx hb hd hs k
  case invokespecial i =>
    split at hs
    · rename_i hr
      rw [if_pos hr, decide_eq_true_eq] at ho
      exact is_objinit hx hb hml hts hown hRf hRl ho hd hs k
    · unfold iCallI at hs
      split at hs
      · cases hq : Nat.ble (iCat _) 8 with
        | false => rw [hq] at hs; cases hs
        | true => rw [hq] at hs; cases hs
      · cases hs
  case invokestatic i =>
    split at hs
    · rename_i hr
      rw [if_pos hr, decide_eq_true_eq] at ho
      exact is_copy hx hb hml hts hown hG.1 hRf hRl ho hd hs k
    · rename_i hr
      rw [if_neg hr] at ho
      split at hs
      · rename_i hr
        rw [if_pos hr, decide_eq_true_eq] at ho
        exact is_mmax hx hb hml hts hown hRf hRl ho hd hs hcl hsl k
      · rename_i hr
        rw [if_neg hr] at ho
        split at hs
        · rename_i hr
          rw [if_pos hr, decide_eq_true_eq] at ho
          exact is_mmin hx hb hml hts hown hRf hRl ho hd hs hcl hsl k
        · simp only [iCallS, cond_eq_ite] at hs
          repeat' split at hs
          all_goals cases hs
  case invokevirtual i =>
    simp only [iCallV, cond_eq_ite] at hs
    repeat' split at hs
    all_goals cases hs
  case ior => exact is_ior hx hb hd hs k
  case irem => exact is_irem hx hb hd hs k
  case ireturn =>
    repeat' split at hs
    all_goals cases hs
  case ishl => exact is_ishl hx hb hd hs k
  case ishr => exact is_ishr hx hb hd hs k
  case istore i => exact is_istore hx hb ho hd hs k
  case istore_n i => exact is_istore_n hx hb ho hd hs k
  case isub => exact is_isub hx hb hd hs k
  case iushr => exact is_iushr hx hb hd hs k
  case ixor => exact is_ixor hx hb hd hs k
  case ladd => exact is_ladd hx hb hd hs k
  case laload => exact is_laload hx hb hG.1 hd hs k
  case lastore => exact is_lastore hx hb hG.1 hd hs k
  case lcmp => exact is_lcmp hx hb hd hs k
  case lconst n => subst ho; cases hs; exact is_lconst hx hb hd k
  case ldc i =>
    split at ho
    · rw [decide_eq_true_eq] at ho
      cases hs; exact is_ldc hx hb hown (hts _ (List.mem_of_getElem? ho) rfl) hd k
    · cases ho
  case ldc_w i =>
    split at ho
    · rw [decide_eq_true_eq] at ho
      cases hs; exact is_ldc_w hx hb hown (hts _ (List.mem_of_getElem? ho) rfl) hd k
    · cases ho
  case ldc2_w i =>
    split at ho
    · rw [decide_eq_true_eq] at ho
      cases hs; exact is_ldc2_w hx hb hown (hts _ (List.mem_of_getElem? ho) rfl) hd k
    · cases ho
  case ldiv => exact is_ldiv hx hb hd hs k
  case lload i => exact is_lload hx hb hd hs k
  case lload_n i => exact is_lload_n hx hb hd hs k
  case lmul => exact is_lmul hx hb hd hs k
  case lor => exact is_lor hx hb hd hs k
  case lrem => exact is_lrem hx hb hd hs k
  case lreturn =>
    repeat' split at hs
    all_goals cases hs
  case lshl => exact is_lshl hx hb hd hs k
  case lstore i => exact is_lstore hx hb ho hd hs k
  case lstore_n i => exact is_lstore_n hx hb ho hd hs k
  case lsub => exact is_lsub hx hb hd hs k
  case new i =>
    split at ho
    · rename_i q hq
      rw [decide_eq_true_eq] at ho
      cases hs
      exact is_new hx hb hts hown hG.1 hs0 hq ho hd hcl hsl k
    · cases ho
  case newarray ty => exact is_newarray hx hb hts hG.1 hs0 hd hs hcl hsl k
  case pop => exact is_pop hx hb hd hs k
  case putfield i =>
    obtain ⟨q, h1, h2, h3⟩ := iOkF_spec ho.1
    exact is_putfield hx hb hts hown hG.1 h1 h2 h3 (fun hf => ⟨hinit (iOkFin_spec h1 ho.2 hf).1, (iOkFin_spec h1 ho.2 hf).2⟩) hd hs k
  case return_ =>
    repeat' split at hs
    all_goals cases hs
  case sipush n => subst ho; cases hs; exact is_sipush hx hb hd k
  case tableswitch dflt lo hi offs => exact is_sw hx hb ho hs k
def iRetOk (ret : Option FieldType) (ins : Instr) (r : Option Value) : Prop := match r with
  | none => ins = .return_ ∧ ret = none
  | some (.int x) => ins = .ireturn ∧ (ret = some .int ∨ (ret = some .boolean ∧ (x = 0 ∨ x = 1)))
  | some (.long _) => ins = .lreturn ∧ ret = some .long
  | _ => False
theorem iEx_ret {E : iExtT} {P : Nat → Option iMeth} {np nk : Nat → Nat} {M : iMeth} {en : iEnt} {r : Option Value} (ho : iOkE P M pc en = true) (hs : iEx E np nk (iMr M) pc en L S h = some (.inr (.inr r))) : ∃ ins : Instr, decode (iMb M) pc = .ok (ins, 1) ∧ iRetOk (iMr M) ins r ∧ S = r.toList := by
  obtain ⟨ins, nx, res, val, pos⟩ := en
  simp only [iOkE, Bool.and_eq_true, Bool.or_eq_true, decide_eq_true_eq] at ho
  obtain ⟨hd0, ho⟩ := ho
  cases ins <;> simp only [iEx, iLdI, iLdL, iLdA, iStI, iStL, iStA, iBin, iBil, iUn, iGetf, iPutf, iAld, iAll, iAla, iAlen, iAst, iAsl, iAsa, iNewa, iNewq, iCopy, iMax, iMin, iOI, iLfl_eq, iSw, iCmp, iCallS, iCallI, iCallV, cond_eq_ite] at hs
  all_goals (repeat' split at hs)
  all_goals first | (cases hs; done) | skip
  all_goals simp only [iIsSw, iLen, Bool.false_eq_true, false_or] at hd0
  all_goals cases hs
  · rename_i hr; exact ⟨_, hd0.2, ⟨rfl, Or.inl hr⟩, rfl⟩
  · rename_i hr h01; exact ⟨_, hd0.2, ⟨rfl, Or.inr ⟨hr, h01⟩⟩, rfl⟩
  · rename_i hr; exact ⟨_, hd0.2, ⟨rfl, hr⟩, rfl⟩
  · rename_i hr; exact ⟨_, hd0.2, ⟨rfl, hr⟩, rfl⟩
end ISim
