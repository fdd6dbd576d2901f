/-! THE INTERPRETER IS SOUND: what it answers, the machine answers. -/
def iv (B b dg : Nat) : Value → Value
  | .ref k => .ref (B + k)
  | .retAddr 0 => .ref b
  | .retAddr (_ + 1) => .ref dg
  | v => v
theorem iv_cat (B b dg : Nat) (v : Value) : (iv B b dg v).category = v.category := by
  cases v with
  | retAddr n => cases n <;> rfl
  | _ => rfl
def iE (B b dg : Nat) (tc : Nat → ClassId) : va_E → va_E
  | .inl (t, n, .inl f) => .inl (tc t, n, .inl f)
  | .inl (t, n, .inr (.inl f)) => .inl (tc t, n, .inr (.inl f))
  | .inl (t, n, .inr (.inr (.inl f))) => .inl (tc t, n, .inr (.inr (.inl f)))
  | .inl (t, n, .inr (.inr (.inr (.inl f)))) => .inl (tc t, n, .inr (.inr (.inr (.inl f))))
  | .inl (t, n, .inr (.inr (.inr (.inr f)))) => .inl (tc t, n, .inr (.inr (.inr (.inr (fun i => (f i).map (B + ·))))))
  | .inr (ci, fs) => .inr (ci, fs.map (iv B b dg))
def iw (B b dg : Nat) (tc : Nat → ClassId) (h : List va_E) : va_W := h.mapIdx (fun k e => (B + k, iE B b dg tc e))
theorem iw_get (B b dg : Nat) (tc : Nat → ClassId) (h : List va_E) (k : Nat) : (iw B b dg tc h)[k]? = (h[k]?).map (fun e => (B + k, iE B b dg tc e)) := by
  simp [iw, List.getElem?_mapIdx]
theorem iw_at {B b dg : Nat} {tc : Nat → ClassId} {h : List va_E} {k : Nat} {e : va_E} (hk : iLg h k = some e) : (iw B b dg tc h)[k]? = some (B + k, iE B b dg tc e) := by
  rw [iLg_eq] at hk
  rw [iw_get, hk]; rfl
theorem iw_set {B b dg : Nat} {tc : Nat → ClassId} {h : List va_E} {k : Nat} (e : va_E) : (iw B b dg tc h).set k (B + k, iE B b dg tc e) = iw B b dg tc (h.set k e) := by
  apply List.ext_getElem?
  intro j
  rw [iw_get, List.getElem?_set, List.getElem?_set, iw_get]
  by_cases hj : k = j
  · subst hj
    by_cases hl : k < h.length
    · simp [hl, iw]
    · simp [hl, iw]
  · simp [hj]
theorem iw_push {B b dg : Nat} {tc : Nat → ClassId} {h : List va_E} (e : va_E) : iw B b dg tc h ++ [(B + h.length, iE B b dg tc e)] = iw B b dg tc (h ++ [e]) := by
  simp [iw, List.mapIdx_append]
theorem iw_D {B b dg : Nat} {tc : Nat → ClassId} {h : List va_E} : va_D (fun q => B ≤ q) (iw B b dg tc h) := by
  refine ⟨fun i j p q hi hj hpq => ?_, fun k q hk => ?_⟩
  · rw [iw_get] at hi hj
    cases h1 : h[i]? with
    | none => rw [h1] at hi; cases hi
    | some e1 =>
      cases h2 : h[j]? with
      | none => rw [h2] at hj; cases hj
      | some e2 =>
        rw [h1] at hi; rw [h2] at hj
        cases hi; cases hj
        dsimp only at hpq
        omega
  · rw [iw_get] at hk
    cases h1 : h[k]? with
    | none => rw [h1] at hk; cases hk
    | some e1 => rw [h1] at hk; cases hk; exact Nat.le_add_right _ _
def iSz : va_E → Nat
  | .inl a => a.2.1
  | .inr o => o.2.length
def iSl (h : List va_E) : Nat := (h.map iSz).sum
theorem iSl_push (h : List va_E) (e : va_E) : iSl (h ++ [e]) = iSl h + iSz e := by simp [iSl]
theorem iSl_set {h : List va_E} {k : Nat} {e0 e : va_E} (hk : iLg h k = some e0) (hs : iSz e = iSz e0) : iSl (h.set k e) = iSl h := by
  have : (h.set k e).map iSz = h.map iSz := by
    rw [iLg_eq] at hk
    apply List.ext_getElem?
    intro j
    rw [List.getElem?_map, List.getElem?_map, List.getElem?_set]
    by_cases hj : k = j
    · subst hj
      rw [hk]
      have hl := (List.getElem?_eq_some_iff.mp hk).1
      simp [hl, hs]
    · simp [hj]
  unfold iSl
  rw [this]
def iL (B b dg : Nat) (L : List (Nat × Value)) : List (Nat × Value) := L.map (fun q => (q.1, iv B b dg q.2))
theorem iLget_has {B b dg nL : Nat} {ls : Array Slot} {L : List (Nat × Value)} {i : Nat} {v : Value} (hl : lv_has ls nL (iL B b dg L)) (h : iLget L i = some v) : ls[i]? = some (.val (iv B b dg v)) := by
  have hm : (i, v) ∈ L := by
    clear hl
    induction L with
    | nil => cases h
    | cons q L ih =>
      obtain ⟨j, w⟩ := q
      simp only [iLget] at h
      by_cases hj : j = i
      · rw [if_pos hj] at h
        cases h; subst hj
        exact List.mem_cons_self
      · rw [if_neg hj] at h
        exact List.mem_cons_of_mem _ (ih h)
  exact hl.2.2 (i, iv B b dg v) (List.mem_map.mpr ⟨(i, v), hm, rfl⟩)
theorem iL_p1 {B b dg : Nat} (i : Nat) (v : Value) (L : List (Nat × Value)) : (i, iv B b dg v) :: (iL B b dg L).filter (fun q => !(q.1 == i) && !(q.1 + 1 == i && q.2.category == 2)) = iL B b dg ((i, v) :: L.filter (iP1 i)) := by
  simp only [iL, List.map_cons, List.filter_map, List.cons.injEq, true_and]
  congr 1
  apply List.filter_congr
  intro q _
  simp [iP1, iv_cat]
theorem iL_p2 {B b dg : Nat} (i : Nat) (v : Value) (L : List (Nat × Value)) : (i, iv B b dg v) :: (iL B b dg L).filter (fun q => !(q.1 == i) && (!(q.1 == i + 1) && !(q.1 + 1 == i && q.2.category == 2))) = iL B b dg ((i, v) :: L.filter (iP2 i)) := by
  simp only [iL, List.map_cons, List.filter_map, List.cons.injEq, true_and]
  congr 1
  apply List.filter_congr
  intro q _
  simp [iP2, iv_cat]
theorem iCat_eq (B b dg : Nat) (S : List Value) : ((S.map (iv B b dg)).map fun v => v.category).sum = iCat S := by
  induction S with
  | nil => rfl
  | cons v S ih => simp only [List.map_cons, List.sum_cons, ih, iv_cat, iCat]
def dgF (j : Nat) : Int32 := if j = 0 then 0 else if j = 1 then 6 else if j = 2 then 13 else 23
def iExt (Ls : Nat) (xs : Nat → Int32) : iExtT := fun k => match k with
  | 0 => some (Ls, xs)
  | 1 => some (4, dgF)
  | _ => none
def iTys (tc : Nat → ClassId) : List (ClassId × FieldType) := [(tc 0, .int), (tc 1, .long), (tc 2, .object RX4), (tc 3, .object RX2)]
/-- what stands outside the world and isn't written: the script, the table of four minutes -/
def iG (B b dg Ls : Nat) (xs : Nat → Int32) (tc : Nat → ClassId) (dC : Nat → ClassId) (dI : Nat → Nat → Nat) (U : State) (H : Heap) : Prop := va_K (dC, dI) vwCl (iTys tc) U ∧ (b < B ∧ va_X b Ls xs U H) ∧ va_T .int dg 4 (fun j => .int (dgF j)) (fun q => B ≤ q) U H ∧ va_Z "LogFlume" "DIGEST_MINUTES" "[I" (.ref dg) (fun q => B ≤ q) U H
def iAt (p : Program) (l : Launch) (e : Env) (R : Room) (s : State) (m : MethodId) (args : Array Value) (below : List Frame) (meth : Method) (cd : Code) (Q : State → Prop) (B b dg n0 z0 nL : Nat) (tc : Nat → ClassId) (dC : Nat → ClassId) (dI : Nat → Nat → Nat) (c : iCfg) : Prop :=
  ∀ (H : Heap) (locs : List Loc) (cells slots : Nat) (ls : Array Slot), n0 + cells = c.2.2.2.length → z0 + slots = iSl c.2.2.2 → lv_has ls nL (iL B b dg c.2.1) → va_P (dC, dI) vwCl (iw B b dg tc c.2.2.2) H → va_S (fun q => B ≤ q) s.heap H locs →
    W p l e R s m args below meth cd H locs cells slots Q (F0 m c.1 ls (c.2.2.1.map (iv B b dg)))
def iUse : Cond → Bool
  | .privateMethod _ => false
  | .laysStatic _ _ _ => false
  | _ => true
section ISound
variable {p : Program} {l : Launch} {e : Env} {R : Room} {s : State} {m : MethodId} {args : Array Value} {below : List Frame} {meth : Method} {cd : Code} {Q : State → Prop} {cc : ByteArray} {B b dg n0 z0 nL Ls : Nat} {xs : Nat → Int32} {tc : Nat → ClassId} {dC : Nat → ClassId} {dI : Nat → Nat → Nat} {pc nx : Nat} {L : List (Nat × Value)} {S : List Value} {h : List va_E} {c' : iCfg}

theorem is_iload (hx : p.tables.exec = Jvm.exec) (hb : cd.code = cc) {i : Nat} (hd : decode cc pc = .ok (.iload i, 2)) (hs : iLdI i (pc + 2) L S h = some (.inl c')) (k : iAt p l e R s m args below meth cd Q B b dg n0 z0 nL tc dC dI c') : iAt p l e R s m args below meth cd Q B b dg n0 z0 nL tc dC dI (pc, L, S, h) := by
  unfold iLdI at hs
  split at hs <;> first | (cases hs; done) | skip
  all_goals (rename_i hg; cases hs; intro H locs cells slots ls h1 h2 hl hP hS; exact lv_iload hx hb hd (iLget_has hl hg) (k H locs cells slots ls h1 h2 hl hP hS))
theorem is_iload_n (hx : p.tables.exec = Jvm.exec) (hb : cd.code = cc) {i : Fin 4} (hd : decode cc pc = .ok (.iload_n i, 1)) (hs : iLdI i.val (pc + 1) L S h = some (.inl c')) (k : iAt p l e R s m args below meth cd Q B b dg n0 z0 nL tc dC dI c') : iAt p l e R s m args below meth cd Q B b dg n0 z0 nL tc dC dI (pc, L, S, h) := by
  unfold iLdI at hs
  split at hs <;> first | (cases hs; done) | skip
  all_goals (rename_i hg; cases hs; intro H locs cells slots ls h1 h2 hl hP hS; exact lv_iload_n hx hb hd rfl (iLget_has hl hg) (k H locs cells slots ls h1 h2 hl hP hS))
theorem is_lload (hx : p.tables.exec = Jvm.exec) (hb : cd.code = cc) {i : Nat} (hd : decode cc pc = .ok (.lload i, 2)) (hs : iLdL i (pc + 2) L S h = some (.inl c')) (k : iAt p l e R s m args below meth cd Q B b dg n0 z0 nL tc dC dI c') : iAt p l e R s m args below meth cd Q B b dg n0 z0 nL tc dC dI (pc, L, S, h) := by
  unfold iLdL at hs
  split at hs <;> first | (cases hs; done) | skip
  all_goals (rename_i hg; cases hs; intro H locs cells slots ls h1 h2 hl hP hS; exact lv_lload hx hb hd (iLget_has hl hg) (k H locs cells slots ls h1 h2 hl hP hS))
theorem is_lload_n (hx : p.tables.exec = Jvm.exec) (hb : cd.code = cc) {i : Fin 4} (hd : decode cc pc = .ok (.lload_n i, 1)) (hs : iLdL i.val (pc + 1) L S h = some (.inl c')) (k : iAt p l e R s m args below meth cd Q B b dg n0 z0 nL tc dC dI c') : iAt p l e R s m args below meth cd Q B b dg n0 z0 nL tc dC dI (pc, L, S, h) := by
  unfold iLdL at hs
  split at hs <;> first | (cases hs; done) | skip
  all_goals (rename_i hg; cases hs; intro H locs cells slots ls h1 h2 hl hP hS; exact lv_lload_n hx hb hd rfl (iLget_has hl hg) (k H locs cells slots ls h1 h2 hl hP hS))
theorem is_aload (hx : p.tables.exec = Jvm.exec) (hb : cd.code = cc) {i : Nat} (hd : decode cc pc = .ok (.aload i, 2)) (hs : iLdA i (pc + 2) L S h = some (.inl c')) (k : iAt p l e R s m args below meth cd Q B b dg n0 z0 nL tc dC dI c') : iAt p l e R s m args below meth cd Q B b dg n0 z0 nL tc dC dI (pc, L, S, h) := by
  unfold iLdA at hs
  split at hs <;> first | (cases hs; done) | skip
  all_goals (rename_i hg; cases hs; intro H locs cells slots ls h1 h2 hl hP hS; exact lv_aload hx hb hd (iLget_has hl hg) (k H locs cells slots ls h1 h2 hl hP hS))
theorem is_aload_n (hx : p.tables.exec = Jvm.exec) (hb : cd.code = cc) {i : Fin 4} (hd : decode cc pc = .ok (.aload_n i, 1)) (hs : iLdA i.val (pc + 1) L S h = some (.inl c')) (k : iAt p l e R s m args below meth cd Q B b dg n0 z0 nL tc dC dI c') : iAt p l e R s m args below meth cd Q B b dg n0 z0 nL tc dC dI (pc, L, S, h) := by
  unfold iLdA at hs
  split at hs <;> first | (cases hs; done) | skip
  all_goals (rename_i hg; cases hs; intro H locs cells slots ls h1 h2 hl hP hS; exact lv_aload_n hx hb hd rfl (iLget_has hl hg) (k H locs cells slots ls h1 h2 hl hP hS))
theorem is_istore (hx : p.tables.exec = Jvm.exec) (hb : cd.code = cc) {i : Nat} (hn : i < nL) (hd : decode cc pc = .ok (.istore i, 2)) (hs : iStI i (pc + 2) L S h = some (.inl c')) (k : iAt p l e R s m args below meth cd Q B b dg n0 z0 nL tc dC dI c') : iAt p l e R s m args below meth cd Q B b dg n0 z0 nL tc dC dI (pc, L, S, h) := by
  unfold iStI at hs
  split at hs
  · rw [iLfl_eq] at hs
    rename_i x S'
    cases hs
    intro H locs cells slots ls h1 h2 hl hP hS
    exact lv_istore hx hb hd hl hn (iL_p1 i (.int x) L) (fun ls' hl' => k H locs cells slots ls' h1 h2 hl' hP hS)
  · cases hs
theorem is_istore_n (hx : p.tables.exec = Jvm.exec) (hb : cd.code = cc) {i : Fin 4} (hn : i.val < nL) (hd : decode cc pc = .ok (.istore_n i, 1)) (hs : iStI i.val (pc + 1) L S h = some (.inl c')) (k : iAt p l e R s m args below meth cd Q B b dg n0 z0 nL tc dC dI c') : iAt p l e R s m args below meth cd Q B b dg n0 z0 nL tc dC dI (pc, L, S, h) := by
  unfold iStI at hs
  split at hs
  · rw [iLfl_eq] at hs
    rename_i x S'
    cases hs
    intro H locs cells slots ls h1 h2 hl hP hS
    exact lv_istore_n hx hb hd rfl hl hn (iL_p1 i.val (.int x) L) (fun ls' hl' => k H locs cells slots ls' h1 h2 hl' hP hS)
  · cases hs
theorem is_lstore (hx : p.tables.exec = Jvm.exec) (hb : cd.code = cc) {i : Nat} (hn : i + 1 < nL) (hd : decode cc pc = .ok (.lstore i, 2)) (hs : iStL i (pc + 2) L S h = some (.inl c')) (k : iAt p l e R s m args below meth cd Q B b dg n0 z0 nL tc dC dI c') : iAt p l e R s m args below meth cd Q B b dg n0 z0 nL tc dC dI (pc, L, S, h) := by
  unfold iStL at hs
  split at hs
  · rw [iLfl_eq] at hs
    rename_i x S'
    cases hs
    intro H locs cells slots ls h1 h2 hl hP hS
    exact lv_lstore hx hb hd hl hn (iL_p2 i (.long x) L) (fun ls' hl' => k H locs cells slots ls' h1 h2 hl' hP hS)
  · cases hs
theorem is_lstore_n (hx : p.tables.exec = Jvm.exec) (hb : cd.code = cc) {i : Fin 4} (hn : i.val + 1 < nL) (hd : decode cc pc = .ok (.lstore_n i, 1)) (hs : iStL i.val (pc + 1) L S h = some (.inl c')) (k : iAt p l e R s m args below meth cd Q B b dg n0 z0 nL tc dC dI c') : iAt p l e R s m args below meth cd Q B b dg n0 z0 nL tc dC dI (pc, L, S, h) := by
  unfold iStL at hs
  split at hs
  · rw [iLfl_eq] at hs
    rename_i x S'
    cases hs
    intro H locs cells slots ls h1 h2 hl hP hS
    exact lv_lstore_n hx hb hd rfl hl hn (iL_p2 i.val (.long x) L) (fun ls' hl' => k H locs cells slots ls' h1 h2 hl' hP hS)
  · cases hs
theorem is_astore (hx : p.tables.exec = Jvm.exec) (hb : cd.code = cc) {i : Nat} (hn : i < nL) (hd : decode cc pc = .ok (.astore i, 2)) (hs : iStA i (pc + 2) L S h = some (.inl c')) (k : iAt p l e R s m args below meth cd Q B b dg n0 z0 nL tc dC dI c') : iAt p l e R s m args below meth cd Q B b dg n0 z0 nL tc dC dI (pc, L, S, h) := by
  unfold iStA at hs
  split at hs
  · rw [iLfl_eq] at hs
    rename_i x S'
    cases hs
    intro H locs cells slots ls h1 h2 hl hP hS
    exact lv_astore hx hb hd hl hn (iL_p1 i (.ref x) L) (fun ls' hl' => k H locs cells slots ls' h1 h2 hl' hP hS)
  · rw [iLfl_eq] at hs
    rename_i S'
    cases hs
    intro H locs cells slots ls h1 h2 hl hP hS
    exact lv_astore hx hb hd hl hn (iL_p1 i (.retAddr 0) L) (fun ls' hl' => k H locs cells slots ls' h1 h2 hl' hP hS)
  · rw [iLfl_eq] at hs
    rename_i S'
    cases hs
    intro H locs cells slots ls h1 h2 hl hP hS
    exact lv_astore hx hb hd hl hn (iL_p1 i (.retAddr 1) L) (fun ls' hl' => k H locs cells slots ls' h1 h2 hl' hP hS)
  · cases hs
theorem is_astore_n (hx : p.tables.exec = Jvm.exec) (hb : cd.code = cc) {i : Fin 4} (hn : i.val < nL) (hd : decode cc pc = .ok (.astore_n i, 1)) (hs : iStA i.val (pc + 1) L S h = some (.inl c')) (k : iAt p l e R s m args below meth cd Q B b dg n0 z0 nL tc dC dI c') : iAt p l e R s m args below meth cd Q B b dg n0 z0 nL tc dC dI (pc, L, S, h) := by
  unfold iStA at hs
  split at hs
  · rw [iLfl_eq] at hs
    rename_i x S'
    cases hs
    intro H locs cells slots ls h1 h2 hl hP hS
    exact lv_astore_n hx hb hd rfl hl hn (iL_p1 i.val (.ref x) L) (fun ls' hl' => k H locs cells slots ls' h1 h2 hl' hP hS)
  · rw [iLfl_eq] at hs
    rename_i S'
    cases hs
    intro H locs cells slots ls h1 h2 hl hP hS
    exact lv_astore_n hx hb hd rfl hl hn (iL_p1 i.val (.retAddr 0) L) (fun ls' hl' => k H locs cells slots ls' h1 h2 hl' hP hS)
  · rw [iLfl_eq] at hs
    rename_i S'
    cases hs
    intro H locs cells slots ls h1 h2 hl hP hS
    exact lv_astore_n hx hb hd rfl hl hn (iL_p1 i.val (.retAddr 1) L) (fun ls' hl' => k H locs cells slots ls' h1 h2 hl' hP hS)
  · cases hs
theorem is_iadd (hx : p.tables.exec = Jvm.exec) (hb : cd.code = cc) (hd : decode cc pc = .ok (.iadd, 1)) (hs : iBin (fun x y => x + y) (pc + 1) L S h = some (.inl c')) (k : iAt p l e R s m args below meth cd Q B b dg n0 z0 nL tc dC dI c') : iAt p l e R s m args below meth cd Q B b dg n0 z0 nL tc dC dI (pc, L, S, h) := by
  unfold iBin at hs
  split at hs
  · cases hs
    intro H locs cells slots ls h1 h2 hl hP hS
    exact lv_iadd hx hb hd (k H locs cells slots ls h1 h2 hl hP hS)
  · cases hs
theorem is_isub (hx : p.tables.exec = Jvm.exec) (hb : cd.code = cc) (hd : decode cc pc = .ok (.isub, 1)) (hs : iBin (fun x y => x - y) (pc + 1) L S h = some (.inl c')) (k : iAt p l e R s m args below meth cd Q B b dg n0 z0 nL tc dC dI c') : iAt p l e R s m args below meth cd Q B b dg n0 z0 nL tc dC dI (pc, L, S, h) := by
  unfold iBin at hs
  split at hs
  · cases hs
    intro H locs cells slots ls h1 h2 hl hP hS
    exact lv_isub hx hb hd (k H locs cells slots ls h1 h2 hl hP hS)
  · cases hs
theorem is_imul (hx : p.tables.exec = Jvm.exec) (hb : cd.code = cc) (hd : decode cc pc = .ok (.imul, 1)) (hs : iBin (fun x y => x * y) (pc + 1) L S h = some (.inl c')) (k : iAt p l e R s m args below meth cd Q B b dg n0 z0 nL tc dC dI c') : iAt p l e R s m args below meth cd Q B b dg n0 z0 nL tc dC dI (pc, L, S, h) := by
  unfold iBin at hs
  split at hs
  · cases hs
    intro H locs cells slots ls h1 h2 hl hP hS
    exact lv_imul hx hb hd (k H locs cells slots ls h1 h2 hl hP hS)
  · cases hs
theorem is_iand (hx : p.tables.exec = Jvm.exec) (hb : cd.code = cc) (hd : decode cc pc = .ok (.iand, 1)) (hs : iBin (fun x y => x &&& y) (pc + 1) L S h = some (.inl c')) (k : iAt p l e R s m args below meth cd Q B b dg n0 z0 nL tc dC dI c') : iAt p l e R s m args below meth cd Q B b dg n0 z0 nL tc dC dI (pc, L, S, h) := by
  unfold iBin at hs
  split at hs
  · cases hs
    intro H locs cells slots ls h1 h2 hl hP hS
    exact lv_iand hx hb hd (k H locs cells slots ls h1 h2 hl hP hS)
  · cases hs
theorem is_ior (hx : p.tables.exec = Jvm.exec) (hb : cd.code = cc) (hd : decode cc pc = .ok (.ior, 1)) (hs : iBin (fun x y => x ||| y) (pc + 1) L S h = some (.inl c')) (k : iAt p l e R s m args below meth cd Q B b dg n0 z0 nL tc dC dI c') : iAt p l e R s m args below meth cd Q B b dg n0 z0 nL tc dC dI (pc, L, S, h) := by
  unfold iBin at hs
  split at hs
  · cases hs
    intro H locs cells slots ls h1 h2 hl hP hS
    exact lv_ior hx hb hd (k H locs cells slots ls h1 h2 hl hP hS)
  · cases hs
theorem is_ixor (hx : p.tables.exec = Jvm.exec) (hb : cd.code = cc) (hd : decode cc pc = .ok (.ixor, 1)) (hs : iBin (fun x y => x ^^^ y) (pc + 1) L S h = some (.inl c')) (k : iAt p l e R s m args below meth cd Q B b dg n0 z0 nL tc dC dI c') : iAt p l e R s m args below meth cd Q B b dg n0 z0 nL tc dC dI (pc, L, S, h) := by
  unfold iBin at hs
  split at hs
  · cases hs
    intro H locs cells slots ls h1 h2 hl hP hS
    exact lv_ixor hx hb hd (k H locs cells slots ls h1 h2 hl hP hS)
  · cases hs
theorem is_ishl (hx : p.tables.exec = Jvm.exec) (hb : cd.code = cc) (hd : decode cc pc = .ok (.ishl, 1)) (hs : iBin (fun x y => x <<< (y &&& 31)) (pc + 1) L S h = some (.inl c')) (k : iAt p l e R s m args below meth cd Q B b dg n0 z0 nL tc dC dI c') : iAt p l e R s m args below meth cd Q B b dg n0 z0 nL tc dC dI (pc, L, S, h) := by
  unfold iBin at hs
  split at hs
  · cases hs
    intro H locs cells slots ls h1 h2 hl hP hS
    exact lv_ishl hx hb hd (k H locs cells slots ls h1 h2 hl hP hS)
  · cases hs
theorem is_ishr (hx : p.tables.exec = Jvm.exec) (hb : cd.code = cc) (hd : decode cc pc = .ok (.ishr, 1)) (hs : iBin (fun x y => x >>> (y &&& 31)) (pc + 1) L S h = some (.inl c')) (k : iAt p l e R s m args below meth cd Q B b dg n0 z0 nL tc dC dI c') : iAt p l e R s m args below meth cd Q B b dg n0 z0 nL tc dC dI (pc, L, S, h) := by
  unfold iBin at hs
  split at hs
  · cases hs
    intro H locs cells slots ls h1 h2 hl hP hS
    exact lv_ishr hx hb hd (k H locs cells slots ls h1 h2 hl hP hS)
  · cases hs
theorem is_iushr (hx : p.tables.exec = Jvm.exec) (hb : cd.code = cc) (hd : decode cc pc = .ok (.iushr, 1)) (hs : iBin (fun x y => (x.toUInt32 >>> (y.toUInt32 &&& Int32.toUInt32 31)).toInt32) (pc + 1) L S h = some (.inl c')) (k : iAt p l e R s m args below meth cd Q B b dg n0 z0 nL tc dC dI c') : iAt p l e R s m args below meth cd Q B b dg n0 z0 nL tc dC dI (pc, L, S, h) := by
  unfold iBin at hs
  split at hs
  · cases hs
    intro H locs cells slots ls h1 h2 hl hP hS
    exact lv_iushr hx hb hd rfl (k H locs cells slots ls h1 h2 hl hP hS)
  · cases hs
theorem is_ladd (hx : p.tables.exec = Jvm.exec) (hb : cd.code = cc) (hd : decode cc pc = .ok (.ladd, 1)) (hs : iBil (fun x y => x + y) (pc + 1) L S h = some (.inl c')) (k : iAt p l e R s m args below meth cd Q B b dg n0 z0 nL tc dC dI c') : iAt p l e R s m args below meth cd Q B b dg n0 z0 nL tc dC dI (pc, L, S, h) := by
  unfold iBil at hs
  split at hs
  · cases hs
    intro H locs cells slots ls h1 h2 hl hP hS
    exact lv_ladd hx hb hd (k H locs cells slots ls h1 h2 hl hP hS)
  · cases hs
theorem is_lsub (hx : p.tables.exec = Jvm.exec) (hb : cd.code = cc) (hd : decode cc pc = .ok (.lsub, 1)) (hs : iBil (fun x y => x - y) (pc + 1) L S h = some (.inl c')) (k : iAt p l e R s m args below meth cd Q B b dg n0 z0 nL tc dC dI c') : iAt p l e R s m args below meth cd Q B b dg n0 z0 nL tc dC dI (pc, L, S, h) := by
  unfold iBil at hs
  split at hs
  · cases hs
    intro H locs cells slots ls h1 h2 hl hP hS
    exact lv_lsub hx hb hd (k H locs cells slots ls h1 h2 hl hP hS)
  · cases hs
theorem is_lmul (hx : p.tables.exec = Jvm.exec) (hb : cd.code = cc) (hd : decode cc pc = .ok (.lmul, 1)) (hs : iBil (fun x y => x * y) (pc + 1) L S h = some (.inl c')) (k : iAt p l e R s m args below meth cd Q B b dg n0 z0 nL tc dC dI c') : iAt p l e R s m args below meth cd Q B b dg n0 z0 nL tc dC dI (pc, L, S, h) := by
  unfold iBil at hs
  split at hs
  · cases hs
    intro H locs cells slots ls h1 h2 hl hP hS
    exact lv_lmul hx hb hd (k H locs cells slots ls h1 h2 hl hP hS)
  · cases hs
theorem is_lor (hx : p.tables.exec = Jvm.exec) (hb : cd.code = cc) (hd : decode cc pc = .ok (.lor, 1)) (hs : iBil (fun x y => x ||| y) (pc + 1) L S h = some (.inl c')) (k : iAt p l e R s m args below meth cd Q B b dg n0 z0 nL tc dC dI c') : iAt p l e R s m args below meth cd Q B b dg n0 z0 nL tc dC dI (pc, L, S, h) := by
  unfold iBil at hs
  split at hs
  · cases hs
    intro H locs cells slots ls h1 h2 hl hP hS
    exact lv_lor hx hb hd (k H locs cells slots ls h1 h2 hl hP hS)
  · cases hs
theorem is_i2b (hx : p.tables.exec = Jvm.exec) (hb : cd.code = cc) (hd : decode cc pc = .ok (.i2b, 1)) (hs : iUn (fun x => x.toInt8.toInt32) (pc + 1) L S h = some (.inl c')) (k : iAt p l e R s m args below meth cd Q B b dg n0 z0 nL tc dC dI c') : iAt p l e R s m args below meth cd Q B b dg n0 z0 nL tc dC dI (pc, L, S, h) := by
  unfold iUn at hs
  split at hs
  · cases hs
    intro H locs cells slots ls h1 h2 hl hP hS
    exact lv_i2b hx hb hd rfl (k H locs cells slots ls h1 h2 hl hP hS)
  · cases hs
theorem is_i2s (hx : p.tables.exec = Jvm.exec) (hb : cd.code = cc) (hd : decode cc pc = .ok (.i2s, 1)) (hs : iUn (fun x => x.toInt16.toInt32) (pc + 1) L S h = some (.inl c')) (k : iAt p l e R s m args below meth cd Q B b dg n0 z0 nL tc dC dI c') : iAt p l e R s m args below meth cd Q B b dg n0 z0 nL tc dC dI (pc, L, S, h) := by
  unfold iUn at hs
  split at hs
  · cases hs
    intro H locs cells slots ls h1 h2 hl hP hS
    exact lv_i2s hx hb hd rfl (k H locs cells slots ls h1 h2 hl hP hS)
  · cases hs
theorem iIn0 : ∀ w ∈ u_ws RX0 TX0 6, w ∈ lw_tbl := by decide +kernel
theorem iIn1 : ∀ w ∈ u_ws RX1 TX1 4, w ∈ lw_tbl := by decide +kernel
theorem iIn2 : ∀ w ∈ u_ws RX2 TX2 3, w ∈ lw_tbl := by decide +kernel
theorem iIn3 : ∀ w ∈ u_ws RX3 TX3 4, w ∈ lw_tbl := by decide +kernel
theorem iIn4 : ∀ w ∈ u_ws RX4 TX4 2, w ∈ lw_tbl := by decide +kernel
theorem iIn5 : ∀ w ∈ u_ws RX5 TX5 6, w ∈ lw_tbl := by decide +kernel
theorem iIn6 : ∀ w ∈ u_ws RX6 TX6 3, w ∈ lw_tbl := by decide +kernel
theorem iIn7 : ∀ w ∈ u_ws RX7 TX7 17, w ∈ lw_tbl := by decide +kernel
theorem iIn8 : ∀ w ∈ u_ws RX8 TX8 27, w ∈ lw_tbl := by decide +kernel

theorem iFld {C : String} {T : u_T} {N : Nat} {ci : Nat} (hc : vwCl[ci]? = some (C, T, N)) : (∀ w ∈ u_ws C T N, w ∈ lw_tbl) ∧ (∀ k, k < N → parseFieldDescriptor (T k).2.2.1 = some (iTyF ci k)) ∧ (∀ a, a < N → ∀ b, b < N → a ≠ b → (T a).2.1 ≠ (T b).2.1) ∧ (Cond.instantiable C N ∈ lw_tbl) ∧ (Cond.initialized C ∈ lw_tbl) ∧ (∀ j, j < N → defaultValue (iTyF ci j) = vp_V (iDfl ci) j) ∧ (iDfl ci).length = N := by
  match ci, hc with

  | 0, hc => cases hc; exact ⟨iIn0, tyX0_ok, nmX0, List.mem_of_getElem? (i := 193) (by decide +kernel), List.mem_of_getElem? (i := 78) (by decide +kernel), by decide +kernel, by decide +kernel⟩

  | 1, hc => cases hc; exact ⟨iIn1, tyX1_ok, nmX1, List.mem_of_getElem? (i := 133) (by decide +kernel), List.mem_of_getElem? (i := 75) (by decide +kernel), by decide +kernel, by decide +kernel⟩

  | 2, hc => cases hc; exact ⟨iIn2, tyX2_ok, nmX2, List.mem_of_getElem? (i := 238) (by decide +kernel), List.mem_of_getElem? (i := 81) (by decide +kernel), by decide +kernel, by decide +kernel⟩

  | 3, hc => cases hc; exact ⟨iIn3, tyX3_ok, nmX3, List.mem_of_getElem? (i := 153) (by decide +kernel), List.mem_of_getElem? (i := 76) (by decide +kernel), by decide +kernel, by decide +kernel⟩

  | 4, hc => cases hc; exact ⟨iIn4, tyX4_ok, nmX4, List.mem_of_getElem? (i := 219) (by decide +kernel), List.mem_of_getElem? (i := 79) (by decide +kernel), by decide +kernel, by decide +kernel⟩

  | 5, hc => cases hc; exact ⟨iIn5, tyX5_ok, nmX5, List.mem_of_getElem? (i := 96) (by decide +kernel), List.mem_of_getElem? (i := 74) (by decide +kernel), by decide +kernel, by decide +kernel⟩

  | 6, hc => cases hc; exact ⟨iIn6, tyX6_ok, nmX6, List.mem_of_getElem? (i := 175) (by decide +kernel), List.mem_of_getElem? (i := 77) (by decide +kernel), by decide +kernel, by decide +kernel⟩

  | 7, hc => cases hc; exact ⟨iIn7, tyX7_ok, nmX7, List.mem_of_getElem? (i := 86) (by decide +kernel), List.mem_of_getElem? (i := 73) (by decide +kernel), by decide +kernel, by decide +kernel⟩

  | 8, hc => cases hc; exact ⟨iIn8, tyX8_ok, nmX8, List.mem_of_getElem? (i := 718) (by decide +kernel), List.mem_of_getElem? (i := 82) (by decide +kernel), by decide +kernel, by decide +kernel⟩

  | k + 9, hc => simp [vwCl] at hc

theorem iHu {C : String} {T : u_T} {N ci : Nat} (hts : ∀ w ∈ lw_tbl, iUse w = true → w.before args s = true) (hq : vwCl[ci]? = some (C, T, N)) : ∀ w ∈ u_ws C T N, w.before args s = true := by
  intro w hw
  refine hts w ((iFld hq).1 w hw) ?_
  obtain ⟨k, -, rfl⟩ := List.mem_map.mp hw
  unfold u_lay
  split <;> rfl
theorem is_getfield (hx : p.tables.exec = Jvm.exec) (hb : cd.code = cc) {own : String} (hts : ∀ w ∈ lw_tbl, iUse w = true → w.before args s = true) (hown : s.vm.findClass own = some m.cls) (hK : va_K (dC, dI) vwCl (iTys tc) s) {i res pos : Nat} {q : vw_C} (hq : vwCl[res / 64]? = some q) (hk : res % 64 < q.2.2) (hw : lw_tbl[pos]? = some (.fieldLink own i (q.2.1 (res % 64)).1 (q.2.1 (res % 64)).2.1 (q.2.1 (res % 64)).2.2.1)) (hd : decode cc pc = .ok (.getfield i, 3)) (hs : iGetf (pc + 3) res L S h = some (.inl c')) (k : iAt p l e R s m args below meth cd Q B b dg n0 z0 nL tc dC dI c') : iAt p l e R s m args below meth cd Q B b dg n0 z0 nL tc dC dI (pc, L, S, h) := by
  obtain ⟨C, T, N⟩ := q
  unfold iGetf at hs
  split at hs
  · split at hs
    · rename_i a S' o ci fs ha
      split at hs
      · rename_i hci
        split at hs
        · rename_i v hv
          cases hs
          intro H locs cells slots ls h1 h2 hl hP hS
          rw [iLg_eq] at hv
          exact va_get (D := (dC, dI)) (Ts := u_ws C T N) (T := T) (N := N) hx hb (iHu hts hq) (fun _ h9 => h9) hown hK hP a (iw_at ha) (by rw [hci]; exact hq) (res % 64) hk (hts _ (List.mem_of_getElem? hw) rfl) (fun _ h9 => h9) (by rw [List.getElem?_map, hv]; rfl) hd (k H locs cells slots ls h1 h2 hl hP hS)
        · cases hs
      · cases hs
    · cases hs
  · cases hs
theorem is_iconst (hx : p.tables.exec = Jvm.exec) (hb : cd.code = cc) {n : Int} (hd : decode cc pc = .ok (.iconst n, 1)) (k : iAt p l e R s m args below meth cd Q B b dg n0 z0 nL tc dC dI (pc + 1, L, .int (Int32.ofInt n) :: S, h)) : iAt p l e R s m args below meth cd Q B b dg n0 z0 nL tc dC dI (pc, L, S, h) := by
  intro H locs cells slots ls h1 h2 hl hP hS
  exact lv_iconst hx hb hd rfl (k H locs cells slots ls h1 h2 hl hP hS)
theorem is_bipush (hx : p.tables.exec = Jvm.exec) (hb : cd.code = cc) {n : Int} (hd : decode cc pc = .ok (.bipush n, 2)) (k : iAt p l e R s m args below meth cd Q B b dg n0 z0 nL tc dC dI (pc + 2, L, .int (Int8.ofInt n).toInt32 :: S, h)) : iAt p l e R s m args below meth cd Q B b dg n0 z0 nL tc dC dI (pc, L, S, h) := by
  intro H locs cells slots ls h1 h2 hl hP hS
  exact lv_bipush hx hb hd rfl (k H locs cells slots ls h1 h2 hl hP hS)
theorem is_sipush (hx : p.tables.exec = Jvm.exec) (hb : cd.code = cc) {n : Int} (hd : decode cc pc = .ok (.sipush n, 3)) (k : iAt p l e R s m args below meth cd Q B b dg n0 z0 nL tc dC dI (pc + 3, L, .int (Int16.ofInt n).toInt32 :: S, h)) : iAt p l e R s m args below meth cd Q B b dg n0 z0 nL tc dC dI (pc, L, S, h) := by
  intro H locs cells slots ls h1 h2 hl hP hS
  exact lv_sipush hx hb hd rfl (k H locs cells slots ls h1 h2 hl hP hS)
theorem is_lconst (hx : p.tables.exec = Jvm.exec) (hb : cd.code = cc) {n : Fin 2} (hd : decode cc pc = .ok (.lconst n, 1)) (k : iAt p l e R s m args below meth cd Q B b dg n0 z0 nL tc dC dI (pc + 1, L, .long (Int64.ofNat n) :: S, h)) : iAt p l e R s m args below meth cd Q B b dg n0 z0 nL tc dC dI (pc, L, S, h) := by
  intro H locs cells slots ls h1 h2 hl hP hS
  exact lv_lconst hx hb hd rfl (k H locs cells slots ls h1 h2 hl hP hS)
theorem is_ldc (hx : p.tables.exec = Jvm.exec) (hb : cd.code = cc) {own : String} {i : Nat} {v : Int32} (hown : s.vm.findClass own = some m.cls) (hw : (Jvm.Cond.constant own i v).before args s = true) (hd : decode cc pc = .ok (.ldc i, 2)) (k : iAt p l e R s m args below meth cd Q B b dg n0 z0 nL tc dC dI (pc + 2, L, .int v :: S, h)) : iAt p l e R s m args below meth cd Q B b dg n0 z0 nL tc dC dI (pc, L, S, h) := by
  intro H locs cells slots ls h1 h2 hl hP hS
  exact lv_ldc hx hb hown hw hd (k H locs cells slots ls h1 h2 hl hP hS)
theorem is_ldc_w (hx : p.tables.exec = Jvm.exec) (hb : cd.code = cc) {own : String} {i : Nat} {v : Int32} (hown : s.vm.findClass own = some m.cls) (hw : (Jvm.Cond.constant own i v).before args s = true) (hd : decode cc pc = .ok (.ldc_w i, 3)) (k : iAt p l e R s m args below meth cd Q B b dg n0 z0 nL tc dC dI (pc + 3, L, .int v :: S, h)) : iAt p l e R s m args below meth cd Q B b dg n0 z0 nL tc dC dI (pc, L, S, h) := by
  intro H locs cells slots ls h1 h2 hl hP hS
  exact lv_ldcw hx hb hown hw hd (k H locs cells slots ls h1 h2 hl hP hS)
theorem is_ldc2_w (hx : p.tables.exec = Jvm.exec) (hb : cd.code = cc) {own : String} {i : Nat} {v : Int64} (hown : s.vm.findClass own = some m.cls) (hw : (Jvm.Cond.constantLong own i v).before args s = true) (hd : decode cc pc = .ok (.ldc2_w i, 3)) (k : iAt p l e R s m args below meth cd Q B b dg n0 z0 nL tc dC dI (pc + 3, L, .long v :: S, h)) : iAt p l e R s m args below meth cd Q B b dg n0 z0 nL tc dC dI (pc, L, S, h) := by
  intro H locs cells slots ls h1 h2 hl hP hS
  exact lv_ldc2 hx hb hown hw hd (k H locs cells slots ls h1 h2 hl hP hS)
theorem iLget_mem {L : List (Nat × Value)} {i : Nat} {v : Value} (h : iLget L i = some v) : ∃ k : Nat, L[k]? = some (i, v) := by
  induction L with
  | nil => cases h
  | cons q L ih =>
    obtain ⟨j, w⟩ := q
    simp only [iLget] at h
    by_cases hj : j = i
    · rw [if_pos hj] at h
      cases h; subst hj
      exact ⟨0, rfl⟩
    · rw [if_neg hj] at h
      obtain ⟨k, hk⟩ := ih h
      exact ⟨k + 1, by simpa using hk⟩
theorem is_iinc (hx : p.tables.exec = Jvm.exec) (hb : cd.code = cc) {i : Nat} {n : Int} {val : Value} (hn : i < nL) (hv : val = .int (Int32.ofInt n)) (hd : decode cc pc = .ok (.iinc i n, 3)) (hs : (match iLget L i, val with
      | some (.int x), .int n => iLfl (iP1 i) L (fun L' => iNx (pc + 3) ((i, .int (x + n)) :: L') S h)
      | _, _ => none) = some (.inl c')) (k : iAt p l e R s m args below meth cd Q B b dg n0 z0 nL tc dC dI c') : iAt p l e R s m args below meth cd Q B b dg n0 z0 nL tc dC dI (pc, L, S, h) := by
  subst hv
  split at hs
  · rename_i x n' hg hn'
    cases hn'
    rw [iLfl_eq] at hs
    cases hs
    intro H locs cells slots ls h1 h2 hl hP hS
    obtain ⟨j, hj⟩ := iLget_mem hg
    exact lv_iinc (k := j) hx hb hd hl (x := x) (by show (iL B b dg L)[j]? = _; unfold iL; rw [List.getElem?_map, hj]; rfl) rfl hn (iL_p1 i (.int (x + Int32.ofInt n)) L) (fun ls' hl' => k H locs cells slots ls' h1 h2 hl' hP hS)
  · cases hs
theorem is_idiv (hx : p.tables.exec = Jvm.exec) (hb : cd.code = cc) (hd : decode cc pc = .ok (.idiv, 1)) (hs : (match S with
      | .int y :: .int x :: S' => if ¬ y = 0 then iNx (pc + 1) L (.int (x / y) :: S') h else none
      | _ => none) = some (.inl c')) (k : iAt p l e R s m args below meth cd Q B b dg n0 z0 nL tc dC dI c') : iAt p l e R s m args below meth cd Q B b dg n0 z0 nL tc dC dI (pc, L, S, h) := by
  split at hs
  · split at hs
    · rename_i hy
      cases hs
      intro H locs cells slots ls h1 h2 hl hP hS
      exact lv_idiv hx hb hd hy (k H locs cells slots ls h1 h2 hl hP hS)
    · cases hs
  · cases hs
theorem is_irem (hx : p.tables.exec = Jvm.exec) (hb : cd.code = cc) (hd : decode cc pc = .ok (.irem, 1)) (hs : (match S with
      | .int y :: .int x :: S' => if ¬ y = 0 then iNx (pc + 1) L (.int (x - x / y * y) :: S') h else none
      | _ => none) = some (.inl c')) (k : iAt p l e R s m args below meth cd Q B b dg n0 z0 nL tc dC dI c') : iAt p l e R s m args below meth cd Q B b dg n0 z0 nL tc dC dI (pc, L, S, h) := by
  split at hs
  · split at hs
    · rename_i hy
      cases hs
      intro H locs cells slots ls h1 h2 hl hP hS
      exact lv_irem hx hb hd hy (k H locs cells slots ls h1 h2 hl hP hS)
    · cases hs
  · cases hs
theorem is_ldiv (hx : p.tables.exec = Jvm.exec) (hb : cd.code = cc) (hd : decode cc pc = .ok (.ldiv, 1)) (hs : (match S with
      | .long y :: .long x :: S' => if ¬ y = 0 then iNx (pc + 1) L (.long (x / y) :: S') h else none
      | _ => none) = some (.inl c')) (k : iAt p l e R s m args below meth cd Q B b dg n0 z0 nL tc dC dI c') : iAt p l e R s m args below meth cd Q B b dg n0 z0 nL tc dC dI (pc, L, S, h) := by
  split at hs
  · split at hs
    · rename_i hy
      cases hs
      intro H locs cells slots ls h1 h2 hl hP hS
      exact lv_ldiv hx hb hd hy (k H locs cells slots ls h1 h2 hl hP hS)
    · cases hs
  · cases hs
theorem is_lrem (hx : p.tables.exec = Jvm.exec) (hb : cd.code = cc) (hd : decode cc pc = .ok (.lrem, 1)) (hs : (match S with
      | .long y :: .long x :: S' => if ¬ y = 0 then iNx (pc + 1) L (.long (x - x / y * y) :: S') h else none
      | _ => none) = some (.inl c')) (k : iAt p l e R s m args below meth cd Q B b dg n0 z0 nL tc dC dI c') : iAt p l e R s m args below meth cd Q B b dg n0 z0 nL tc dC dI (pc, L, S, h) := by
  split at hs
  · split at hs
    · rename_i hy
      cases hs
      intro H locs cells slots ls h1 h2 hl hP hS
      exact lv_lrem hx hb hd hy (k H locs cells slots ls h1 h2 hl hP hS)
    · cases hs
  · cases hs
theorem is_lshl (hx : p.tables.exec = Jvm.exec) (hb : cd.code = cc) (hd : decode cc pc = .ok (.lshl, 1)) (hs : (match S with
      | .int y :: .long x :: S' => iNx (pc + 1) L (.long (x <<< (y.toInt64 &&& 63)) :: S') h
      | _ => none) = some (.inl c')) (k : iAt p l e R s m args below meth cd Q B b dg n0 z0 nL tc dC dI c') : iAt p l e R s m args below meth cd Q B b dg n0 z0 nL tc dC dI (pc, L, S, h) := by
  split at hs
  · cases hs
    intro H locs cells slots ls h1 h2 hl hP hS
    exact lv_lshl hx hb hd rfl (k H locs cells slots ls h1 h2 hl hP hS)
  · cases hs
theorem is_lcmp (hx : p.tables.exec = Jvm.exec) (hb : cd.code = cc) (hd : decode cc pc = .ok (.lcmp, 1)) (hs : (match S with
      | .long y :: .long x :: S' => iNx (pc + 1) L (.int (lg_cmp x y) :: S') h
      | _ => none) = some (.inl c')) (k : iAt p l e R s m args below meth cd Q B b dg n0 z0 nL tc dC dI c') : iAt p l e R s m args below meth cd Q B b dg n0 z0 nL tc dC dI (pc, L, S, h) := by
  split at hs
  · cases hs
    intro H locs cells slots ls h1 h2 hl hP hS
    exact W.lcmp hx hb hd (k H locs cells slots ls h1 h2 hl hP hS)
  · cases hs
theorem is_i2l (hx : p.tables.exec = Jvm.exec) (hb : cd.code = cc) (hd : decode cc pc = .ok (.i2l, 1)) (hs : (match S with
      | .int x :: S' => iNx (pc + 1) L (.long x.toInt64 :: S') h
      | _ => none) = some (.inl c')) (k : iAt p l e R s m args below meth cd Q B b dg n0 z0 nL tc dC dI c') : iAt p l e R s m args below meth cd Q B b dg n0 z0 nL tc dC dI (pc, L, S, h) := by
  split at hs
  · cases hs
    intro H locs cells slots ls h1 h2 hl hP hS
    exact lv_i2l hx hb hd rfl (k H locs cells slots ls h1 h2 hl hP hS)
  · cases hs
theorem is_dup2 (hx : p.tables.exec = Jvm.exec) (hb : cd.code = cc) (hd : decode cc pc = .ok (.dup2, 1)) (hs : (match S with
      | .int x :: .ref y :: S' => iNx (pc + 1) L (.int x :: .ref y :: .int x :: .ref y :: S') h
      | _ => none) = some (.inl c')) (k : iAt p l e R s m args below meth cd Q B b dg n0 z0 nL tc dC dI c') : iAt p l e R s m args below meth cd Q B b dg n0 z0 nL tc dC dI (pc, L, S, h) := by
  split at hs
  · cases hs
    intro H locs cells slots ls h1 h2 hl hP hS
    exact lv_dup2_11 hx hb hd rfl rfl (k H locs cells slots ls h1 h2 hl hP hS)
  · cases hs
theorem is_dup (hx : p.tables.exec = Jvm.exec) (hb : cd.code = cc) (hd : decode cc pc = .ok (.dup, 1)) (hs : (match S with
      | .int x :: S' => iNx (pc + 1) L (.int x :: .int x :: S') h
      | .ref x :: S' => iNx (pc + 1) L (.ref x :: .ref x :: S') h
      | _ => none) = some (.inl c')) (k : iAt p l e R s m args below meth cd Q B b dg n0 z0 nL tc dC dI c') : iAt p l e R s m args below meth cd Q B b dg n0 z0 nL tc dC dI (pc, L, S, h) := by
  split at hs
  · cases hs
    intro H locs cells slots ls h1 h2 hl hP hS
    exact lv_dup hx hb hd rfl (k H locs cells slots ls h1 h2 hl hP hS)
  · cases hs
    intro H locs cells slots ls h1 h2 hl hP hS
    exact lv_dup hx hb hd rfl (k H locs cells slots ls h1 h2 hl hP hS)
  · cases hs
theorem is_pop (hx : p.tables.exec = Jvm.exec) (hb : cd.code = cc) (hd : decode cc pc = .ok (.pop, 1)) (hs : (match S with
      | .int _ :: S' => iNx (pc + 1) L (S') h
      | .ref _ :: S' => iNx (pc + 1) L (S') h
      | _ => none) = some (.inl c')) (k : iAt p l e R s m args below meth cd Q B b dg n0 z0 nL tc dC dI c') : iAt p l e R s m args below meth cd Q B b dg n0 z0 nL tc dC dI (pc, L, S, h) := by
  split at hs
  · cases hs
    intro H locs cells slots ls h1 h2 hl hP hS
    exact lv_pop hx hb hd rfl (k H locs cells slots ls h1 h2 hl hP hS)
  · cases hs
    intro H locs cells slots ls h1 h2 hl hP hS
    exact lv_pop hx hb hd rfl (k H locs cells slots ls h1 h2 hl hP hS)
  · cases hs
theorem is_goto (hx : p.tables.exec = Jvm.exec) (hb : cd.code = cc) {off : Int} {res : Nat} (ht : (pc : Int) + off = (res : Int)) (hd : decode cc pc = .ok (.goto off, 3)) (k : iAt p l e R s m args below meth cd Q B b dg n0 z0 nL tc dC dI (res, L, S, h)) : iAt p l e R s m args below meth cd Q B b dg n0 z0 nL tc dC dI (pc, L, S, h) := by
  intro H locs cells slots ls h1 h2 hl hP hS
  exact lv_goto hx hb hd ht (k H locs cells slots ls h1 h2 hl hP hS)
theorem is_if_icmp (hx : p.tables.exec = Jvm.exec) (hb : cd.code = cc) {cn : ClassFile.Cond} {off : Int} {res : Nat} (ht : (pc : Int) + off = (res : Int)) (hd : decode cc pc = .ok (.if_icmp cn off, 3)) (hs : (match S with
      | .int y :: .int x :: S' => iCmp cn x y (iNx res L S' h) (iNx (pc + 3) L S' h)
      | _ => none) = some (.inl c')) (k : iAt p l e R s m args below meth cd Q B b dg n0 z0 nL tc dC dI c') : iAt p l e R s m args below meth cd Q B b dg n0 z0 nL tc dC dI (pc, L, S, h) := by
  split at hs
  · cases cn with
    | eq =>
      simp only [iCmp] at hs
      split at hs
      · rename_i hc
        cases hs
        intro H locs cells slots ls h1 h2 hl hP hS
        exact lv_icmp_eq hx hb hd ht (fun _ => (k H locs cells slots ls h1 h2 hl hP hS)) (fun q => absurd hc (by first | exact q | exact fun z => z q))
      · rename_i hc
        cases hs
        intro H locs cells slots ls h1 h2 hl hP hS
        exact lv_icmp_eq hx hb hd ht (fun q => absurd q hc) (fun _ => (k H locs cells slots ls h1 h2 hl hP hS))
    | ne =>
      simp only [iCmp] at hs
      split at hs
      · rename_i hc
        cases hs
        intro H locs cells slots ls h1 h2 hl hP hS
        exact lv_icmp_ne hx hb hd ht (fun _ => (k H locs cells slots ls h1 h2 hl hP hS)) (fun q => absurd hc (by first | exact q | exact fun z => z q))
      · rename_i hc
        cases hs
        intro H locs cells slots ls h1 h2 hl hP hS
        exact lv_icmp_ne hx hb hd ht (fun q => absurd q hc) (fun _ => (k H locs cells slots ls h1 h2 hl hP hS))
    | lt =>
      simp only [iCmp] at hs
      split at hs
      · rename_i hc
        cases hs
        intro H locs cells slots ls h1 h2 hl hP hS
        exact lv_icmp_lt hx hb hd ht (fun _ => (k H locs cells slots ls h1 h2 hl hP hS)) (fun q => absurd hc (by first | exact q | exact fun z => z q))
      · rename_i hc
        cases hs
        intro H locs cells slots ls h1 h2 hl hP hS
        exact lv_icmp_lt hx hb hd ht (fun q => absurd q hc) (fun _ => (k H locs cells slots ls h1 h2 hl hP hS))
    | ge =>
      simp only [iCmp] at hs
      split at hs
      · rename_i hc
        cases hs
        intro H locs cells slots ls h1 h2 hl hP hS
        exact lv_icmp_ge hx hb hd ht (fun _ => (k H locs cells slots ls h1 h2 hl hP hS)) (fun q => absurd hc (by first | exact q | exact fun z => z q))
      · rename_i hc
        cases hs
        intro H locs cells slots ls h1 h2 hl hP hS
        exact lv_icmp_ge hx hb hd ht (fun q => absurd q hc) (fun _ => (k H locs cells slots ls h1 h2 hl hP hS))
    | gt =>
      simp only [iCmp] at hs
      split at hs
      · rename_i hc
        cases hs
        intro H locs cells slots ls h1 h2 hl hP hS
        exact lv_icmp_gt hx hb hd ht (fun _ => (k H locs cells slots ls h1 h2 hl hP hS)) (fun q => absurd hc (by first | exact q | exact fun z => z q))
      · rename_i hc
        cases hs
        intro H locs cells slots ls h1 h2 hl hP hS
        exact lv_icmp_gt hx hb hd ht (fun q => absurd q hc) (fun _ => (k H locs cells slots ls h1 h2 hl hP hS))
    | le =>
      simp only [iCmp] at hs
      split at hs
      · rename_i hc
        cases hs
        intro H locs cells slots ls h1 h2 hl hP hS
        exact lv_icmp_le hx hb hd ht (fun _ => (k H locs cells slots ls h1 h2 hl hP hS)) (fun q => absurd hc (by first | exact q | exact fun z => z q))
      · rename_i hc
        cases hs
        intro H locs cells slots ls h1 h2 hl hP hS
        exact lv_icmp_le hx hb hd ht (fun q => absurd q hc) (fun _ => (k H locs cells slots ls h1 h2 hl hP hS))
  · cases hs
theorem is_ifCond (hx : p.tables.exec = Jvm.exec) (hb : cd.code = cc) {cn : ClassFile.Cond} {off : Int} {res : Nat} (ht : (pc : Int) + off = (res : Int)) (hd : decode cc pc = .ok (.ifCond cn off, 3)) (hs : (match S with
      | .int x :: S' => iCmp cn x 0 (iNx res L S' h) (iNx (pc + 3) L S' h)
      | _ => none) = some (.inl c')) (k : iAt p l e R s m args below meth cd Q B b dg n0 z0 nL tc dC dI c') : iAt p l e R s m args below meth cd Q B b dg n0 z0 nL tc dC dI (pc, L, S, h) := by
  split at hs
  · cases cn with
    | eq =>
      simp only [iCmp] at hs
      split at hs
      · rename_i hc
        cases hs
        intro H locs cells slots ls h1 h2 hl hP hS
        exact lv_if_eq hx hb hd ht (fun _ => (k H locs cells slots ls h1 h2 hl hP hS)) (fun q => absurd hc (by first | exact q | exact fun z => z q))
      · rename_i hc
        cases hs
        intro H locs cells slots ls h1 h2 hl hP hS
        exact lv_if_eq hx hb hd ht (fun q => absurd q hc) (fun _ => (k H locs cells slots ls h1 h2 hl hP hS))
    | ne =>
      simp only [iCmp] at hs
      split at hs
      · rename_i hc
        cases hs
        intro H locs cells slots ls h1 h2 hl hP hS
        exact lv_if_ne hx hb hd ht (fun _ => (k H locs cells slots ls h1 h2 hl hP hS)) (fun q => absurd hc (by first | exact q | exact fun z => z q))
      · rename_i hc
        cases hs
        intro H locs cells slots ls h1 h2 hl hP hS
        exact lv_if_ne hx hb hd ht (fun q => absurd q hc) (fun _ => (k H locs cells slots ls h1 h2 hl hP hS))
    | lt =>
      simp only [iCmp] at hs
      split at hs
      · rename_i hc
        cases hs
        intro H locs cells slots ls h1 h2 hl hP hS
        exact lv_if_lt hx hb hd ht (fun _ => (k H locs cells slots ls h1 h2 hl hP hS)) (fun q => absurd hc (by first | exact q | exact fun z => z q))
      · rename_i hc
        cases hs
        intro H locs cells slots ls h1 h2 hl hP hS
        exact lv_if_lt hx hb hd ht (fun q => absurd q hc) (fun _ => (k H locs cells slots ls h1 h2 hl hP hS))
    | ge =>
      simp only [iCmp] at hs
      split at hs
      · rename_i hc
        cases hs
        intro H locs cells slots ls h1 h2 hl hP hS
        exact lv_if_ge hx hb hd ht (fun _ => (k H locs cells slots ls h1 h2 hl hP hS)) (fun q => absurd hc (by first | exact q | exact fun z => z q))
      · rename_i hc
        cases hs
        intro H locs cells slots ls h1 h2 hl hP hS
        exact lv_if_ge hx hb hd ht (fun q => absurd q hc) (fun _ => (k H locs cells slots ls h1 h2 hl hP hS))
    | gt =>
      simp only [iCmp] at hs
      split at hs
      · rename_i hc
        cases hs
        intro H locs cells slots ls h1 h2 hl hP hS
        exact lv_if_gt hx hb hd ht (fun _ => (k H locs cells slots ls h1 h2 hl hP hS)) (fun q => absurd hc (by first | exact q | exact fun z => z q))
      · rename_i hc
        cases hs
        intro H locs cells slots ls h1 h2 hl hP hS
        exact lv_if_gt hx hb hd ht (fun q => absurd q hc) (fun _ => (k H locs cells slots ls h1 h2 hl hP hS))
    | le =>
      simp only [iCmp] at hs
      split at hs
      · rename_i hc
        cases hs
        intro H locs cells slots ls h1 h2 hl hP hS
        exact lv_if_le hx hb hd ht (fun _ => (k H locs cells slots ls h1 h2 hl hP hS)) (fun q => absurd hc (by first | exact q | exact fun z => z q))
      · rename_i hc
        cases hs
        intro H locs cells slots ls h1 h2 hl hP hS
        exact lv_if_le hx hb hd ht (fun q => absurd q hc) (fun _ => (k H locs cells slots ls h1 h2 hl hP hS))
  · cases hs
theorem is_sw (hx : p.tables.exec = Jvm.exec) (hb : cd.code = cc) {dflt lo hi : Int} {offs : Array Int} {len : Nat} (hd : decode cc pc = .ok (.tableswitch dflt lo hi offs, len)) (hs : iSw pc dflt lo hi offs L S h = some (.inl c')) (k : iAt p l e R s m args below meth cd Q B b dg n0 z0 nL tc dC dI c') : iAt p l e R s m args below meth cd Q B b dg n0 z0 nL tc dC dI (pc, L, S, h) := by
  unfold iSw at hs
  split at hs
  · split at hs
    · rename_i hx1
      split at hs
      · rename_i h0
        cases hs
        intro H locs cells slots ls h1 h2 hl hP hS
        exact lv_tableOut hx hb hd hx1 (Int.toNat_of_nonneg h0).symm (k H locs cells slots ls h1 h2 hl hP hS)
      · cases hs
    · rename_i hx1
      split at hs
      · rename_i off hoff
        split at hs
        · rename_i h0
          cases hs
          intro H locs cells slots ls h1 h2 hl hP hS
          exact lv_tableIn hx hb hd (fun q => hx1 (Or.inl q)) (fun q => hx1 (Or.inr q)) hoff (Int.toNat_of_nonneg h0).symm (k H locs cells slots ls h1 h2 hl hP hS)
        · cases hs
      · cases hs
  · cases hs
theorem iG_nb (hG : iG B b dg Ls xs tc dC dI s s.heap) (hs0 : s.heap.size = B + n0) : b < s.heap.size ∧ ¬ B ≤ b := by
  obtain ⟨-, ⟨h1, -⟩, -⟩ := hG
  omega
theorem is_iaload (hx : p.tables.exec = Jvm.exec) (hb : cd.code = cc) (hG : iG B b dg Ls xs tc dC dI s s.heap) (hs0 : s.heap.size = B + n0) (hd : decode cc pc = .ok (.iaload, 1)) (hs : iAld (iExt Ls xs) (pc + 1) L S h = some (.inl c')) (k : iAt p l e R s m args below meth cd Q B b dg n0 z0 nL tc dC dI c') : iAt p l e R s m args below meth cd Q B b dg n0 z0 nL tc dC dI (pc, L, S, h) := by
  unfold iAld at hs
  split at hs
  · split at hs
    · rename_i a S' o n f ha
      split at hs
      · rename_i hin
        cases hs
        intro H locs cells slots ls h1 h2 hl hP hS
        exact va_iald (D := (dC, dI)) hx hb hG.1 hP _ 0 (iw_at ha) rfl hin hd (k H locs cells slots ls h1 h2 hl hP hS)
      · cases hs
    · cases hs
  · split at hs
    · rename_i i a S' o n f ha
      split at hs
      · rename_i hin
        cases hs
        match a, ha with
        | 0, ha =>
          cases ha
          intro H locs cells slots ls h1 h2 hl hP hS
          exact va_sld hx hb hG.2.1.2 (iG_nb hG hs0).1 (A := fun q => B ≤ q) (iG_nb hG hs0).2 hS hin hd (k H locs cells slots ls h1 h2 hl hP hS)
        | 1, ha =>
          cases ha
          intro H locs cells slots ls h1 h2 hl hP hS
          exact va_ti hx hb hG.2.2.1 hS hin rfl hd (k H locs cells slots ls h1 h2 hl hP hS)
        | n + 2, ha => cases ha
      · cases hs
    · cases hs
  · cases hs
theorem is_laload (hx : p.tables.exec = Jvm.exec) (hb : cd.code = cc) (hK : va_K (dC, dI) vwCl (iTys tc) s) (hd : decode cc pc = .ok (.laload, 1)) (hs : iAll (pc + 1) L S h = some (.inl c')) (k : iAt p l e R s m args below meth cd Q B b dg n0 z0 nL tc dC dI c') : iAt p l e R s m args below meth cd Q B b dg n0 z0 nL tc dC dI (pc, L, S, h) := by
  unfold iAll at hs
  split at hs
  · split at hs
    · rename_i a S' o n f ha
      split at hs
      · rename_i hin
        cases hs
        intro H locs cells slots ls h1 h2 hl hP hS
        exact va_lald (D := (dC, dI)) hx hb hK hP _ 1 (iw_at ha) rfl hin hd (k H locs cells slots ls h1 h2 hl hP hS)
      · cases hs
    · cases hs
  · cases hs
theorem iv_rf (B b dg : Nat) (r : Option Nat) : va_rf (r.map (B + ·)) = iv B b dg (va_rf r) := by cases r <;> rfl
theorem is_aaload (hx : p.tables.exec = Jvm.exec) (hb : cd.code = cc) (hK : va_K (dC, dI) vwCl (iTys tc) s) (hd : decode cc pc = .ok (.aaload, 1)) (hs : iAla (pc + 1) L S h = some (.inl c')) (k : iAt p l e R s m args below meth cd Q B b dg n0 z0 nL tc dC dI c') : iAt p l e R s m args below meth cd Q B b dg n0 z0 nL tc dC dI (pc, L, S, h) := by
  unfold iAla at hs
  split at hs
  · split at hs
    · rename_i a S' o n f ha
      split at hs
      · rename_i hin
        cases hs
        intro H locs cells slots ls h1 h2 hl hP hS
        refine va_aldq (D := (dC, dI)) hx hb hK hP _ 2 (iw_at ha) rfl hin hd ?_
        rw [iv_rf B b dg]
        exact (k H locs cells slots ls h1 h2 hl hP hS)
      · cases hs
    · rename_i a S' o n f ha
      split at hs
      · rename_i hin
        cases hs
        intro H locs cells slots ls h1 h2 hl hP hS
        refine va_aldq (D := (dC, dI)) hx hb hK hP _ 3 (iw_at ha) rfl hin hd ?_
        rw [iv_rf B b dg]
        exact (k H locs cells slots ls h1 h2 hl hP hS)
      · cases hs
    · cases hs
  · cases hs
theorem is_iastore (hx : p.tables.exec = Jvm.exec) (hb : cd.code = cc) (hK : va_K (dC, dI) vwCl (iTys tc) s) (hd : decode cc pc = .ok (.iastore, 1)) (hs : iAst (pc + 1) L S h = some (.inl c')) (k : iAt p l e R s m args below meth cd Q B b dg n0 z0 nL tc dC dI c') : iAt p l e R s m args below meth cd Q B b dg n0 z0 nL tc dC dI (pc, L, S, h) := by
  unfold iAst at hs
  split at hs
  · split at hs
    · rename_i i a S' o n f ha
      split at hs
      · rename_i hin
        cases hs
        intro H locs cells slots ls h1 h2 hl hP hS
        refine va_iast (D := (dC, dI)) hx hb hK hP iw_D hS _ 0 (iw_at ha) rfl hin hd (fun H1 locs1 hP1 _ hS1 => ?_)
        exact k H1 locs1 cells slots ls (by rw [h1]; exact (List.length_set ..).symm) (by rw [h2]; exact (iSl_set ha (by first | rfl | simp [iSz])).symm) hl (by first | exact (iw_set _) ▸ hP1 | (rw [← iw_set]; exact hP1)) hS1
      · cases hs
    · cases hs
  · cases hs
theorem is_lastore (hx : p.tables.exec = Jvm.exec) (hb : cd.code = cc) (hK : va_K (dC, dI) vwCl (iTys tc) s) (hd : decode cc pc = .ok (.lastore, 1)) (hs : iAsl (pc + 1) L S h = some (.inl c')) (k : iAt p l e R s m args below meth cd Q B b dg n0 z0 nL tc dC dI c') : iAt p l e R s m args below meth cd Q B b dg n0 z0 nL tc dC dI (pc, L, S, h) := by
  unfold iAsl at hs
  split at hs
  · split at hs
    · rename_i i a S' o n f ha
      split at hs
      · rename_i hin
        cases hs
        intro H locs cells slots ls h1 h2 hl hP hS
        refine va_last (D := (dC, dI)) hx hb hK hP iw_D hS _ 1 (iw_at ha) rfl hin hd (fun H1 locs1 hP1 _ hS1 => ?_)
        exact k H1 locs1 cells slots ls (by rw [h1]; exact (List.length_set ..).symm) (by rw [h2]; exact (iSl_set ha (by first | rfl | simp [iSz])).symm) hl (by first | exact (iw_set _) ▸ hP1 | (rw [← iw_set]; exact hP1)) hS1
      · cases hs
    · cases hs
  · cases hs
theorem is_alen (hx : p.tables.exec = Jvm.exec) (hb : cd.code = cc) (hG : iG B b dg Ls xs tc dC dI s s.heap) (hs0 : s.heap.size = B + n0) (hd : decode cc pc = .ok (.arraylength, 1)) (hs : iAlen (iExt Ls xs) (pc + 1) L S h = some (.inl c')) (k : iAt p l e R s m args below meth cd Q B b dg n0 z0 nL tc dC dI c') : iAt p l e R s m args below meth cd Q B b dg n0 z0 nL tc dC dI (pc, L, S, h) := by
  unfold iAlen at hs
  split at hs
  · split at hs
    · rename_i a S' o n f ha
      cases hs
      intro H locs cells slots ls h1 h2 hl hP hS
      exact va_alen (D := (dC, dI)) hx hb hG.1 hP _ 0 (iw_at ha) rfl rfl hd (k H locs cells slots ls h1 h2 hl hP hS)
    · rename_i a S' o n f ha
      cases hs
      intro H locs cells slots ls h1 h2 hl hP hS
      exact va_alen (D := (dC, dI)) hx hb hG.1 hP _ 1 (iw_at ha) rfl rfl hd (k H locs cells slots ls h1 h2 hl hP hS)
    · cases hs
  · split at hs
    · rename_i a S' o n f ha
      cases hs
      match a, ha with
      | 0, ha =>
        cases ha
        intro H locs cells slots ls h1 h2 hl hP hS
        exact va_slen hx hb hG.2.1.2 (iG_nb hG hs0).1 (A := fun q => B ≤ q) (iG_nb hG hs0).2 hS hd (k H locs cells slots ls h1 h2 hl hP hS)
      | 1, ha =>
        cases ha
        intro H locs cells slots ls h1 h2 hl hP hS
        exact va_tlen hx hb hG.2.2.1 hS rfl hd (k H locs cells slots ls h1 h2 hl hP hS)
      | n + 2, ha => cases ha
    · cases hs
  · cases hs
theorem is_getstatic (hx : p.tables.exec = Jvm.exec) (hb : cd.code = cc) {own : String} {i : Nat} (hown : s.vm.findClass own = some m.cls) (hw : (Cond.fieldLink own i "LogFlume" "DIGEST_MINUTES" "[I").before args s = true) (hG : iG B b dg Ls xs tc dC dI s s.heap) (hd : decode cc pc = .ok (.getstatic i, 3)) (k : iAt p l e R s m args below meth cd Q B b dg n0 z0 nL tc dC dI (pc + 3, L, .retAddr 1 :: S, h)) : iAt p l e R s m args below meth cd Q B b dg n0 z0 nL tc dC dI (pc, L, S, h) := by
  intro H locs cells slots ls h1 h2 hl hP hS
  exact va_gets hx hb hG.2.2.2 hS hown hw (fun _ h9 => h9) hd (k H locs cells slots ls h1 h2 hl hP hS)
end ISound
