section ISound2
variable {p : Program} {l : Launch} {e : Env} {R : Room} {s : State} {m : MethodId} {args : Array Value} {below : List Frame} {meth : Method} {cd : Code} {Q : State → Prop} {cc : ByteArray} {B b dg n0 z0 nL Ls : Nat} {xs : Nat → Int32} {tc : Nat → ClassId} {dC : Nat → ClassId} {dI : Nat → Nat → Nat} {pc nx : Nat} {L : List (Nat × Value)} {S : List Value} {h : List va_E} {c' : iCfg}

theorem iPut_row (hx : p.tables.exec = Jvm.exec) (hb : cd.code = cc) {own : String} (hts : ∀ w ∈ lw_tbl, iUse w = true → w.before args s = true) (hown : s.vm.findClass own = some m.cls) (hK : va_K (dC, dI) vwCl (iTys tc) s) {i res pos : Nat} {q : vw_C} (hq : vwCl[res / 64]? = some q) (hk : res % 64 < q.2.2) (hw : lw_tbl[pos]? = some (.fieldLink own i (q.2.1 (res % 64)).1 (q.2.1 (res % 64)).2.1 (q.2.1 (res % 64)).2.2.1)) (hfin : (q.2.1 (res % 64)).2.2.2 = true → meth.name = "<init>" ∧ (q.2.1 (res % 64)).1 = own) (hd : decode cc pc = .ok (.putfield i, 3)) {a ci : Nat} {fs : List Value} {v : Value} (ha : iLg h a = some (.inr (ci, fs))) (hci : ci = res / 64) (hlen : res % 64 < fs.length) (hn : narrow (iTyF (res / 64) (res % 64)) (iv B b dg v) = iv B b dg v) (hfit : fits (iTyF (res / 64) (res % 64)) (iv B b dg v) = true) (k : iAt p l e R s m args below meth cd Q B b dg n0 z0 nL tc dC dI (pc + 3, L, S, h.set a (.inr (ci, fs.set (res % 64) v)))) : iAt p l e R s m args below meth cd Q B b dg n0 z0 nL tc dC dI (pc, L, v :: .ref a :: S, h) := by
  obtain ⟨C, T, N⟩ := q
  intro H locs cells slots ls h1 h2 hl hP hS
  have hset : (iw B b dg tc h).set a (B + a, .inr (ci, (fs.map (iv B b dg)).set (res % 64) (iv B b dg v))) = iw B b dg tc (h.set a (.inr (ci, fs.set (res % 64) v))) := by
    rw [← iw_set]
    simp only [iE, List.map_set]
  have hlen' : res % 64 < (fs.map (iv B b dg)).length := by rw [List.length_map]; exact hlen
  cases hf : (T (res % 64)).2.2.2 with
  | false =>
    refine va_put (D := (dC, dI)) (Ts := u_ws C T N) (T := T) (N := N) (ty := iTyF (res / 64) (res % 64)) hx hb (iHu hts hq) (fun _ h9 => h9) (iTyF (res / 64)) (iFld hq).2.1 (iFld hq).2.2.1 hown hK hP iw_D hS a (iw_at ha) (by rw [hci]; exact hq) (res % 64) hk (hts _ (List.mem_of_getElem? hw) rfl) (fun _ h9 => h9) hf ((iFld hq).2.1 _ hk) hn hfit hlen' hd (fun H1 locs1 hP1 _ hS1 => ?_)
    exact k H1 locs1 cells slots ls (by rw [h1]; exact (List.length_set ..).symm) (by rw [h2]; exact (iSl_set ha (by simp [iSz])).symm) hl (hset ▸ hP1) hS1
  | true =>
    refine va_putF (D := (dC, dI)) (Ts := u_ws C T N) (T := T) (N := N) (ty := iTyF (res / 64) (res % 64)) hx hb (iHu hts hq) (fun _ h9 => h9) (iTyF (res / 64)) (iFld hq).2.1 (iFld hq).2.2.1 hown hK hP iw_D hS a (iw_at ha) (by rw [hci]; exact hq) (res % 64) hk (hts _ (List.mem_of_getElem? hw) rfl) (fun _ h9 => h9) hf (hfin hf).1 (hfin hf).2 ((iFld hq).2.1 _ hk) hn hfit hlen' hd (fun H1 locs1 hP1 _ hS1 => ?_)
    exact k H1 locs1 cells slots ls (by rw [h1]; exact (List.length_set ..).symm) (by rw [h2]; exact (iSl_set ha (by simp [iSz])).symm) hl (hset ▸ hP1) hS1
theorem is_putfield (hx : p.tables.exec = Jvm.exec) (hb : cd.code = cc) {own : String} (hts : ∀ w ∈ lw_tbl, iUse w = true → w.before args s = true) (hown : s.vm.findClass own = some m.cls) (hK : va_K (dC, dI) vwCl (iTys tc) s) {i res pos : Nat} {q : vw_C} (hq : vwCl[res / 64]? = some q) (hk : res % 64 < q.2.2) (hw : lw_tbl[pos]? = some (.fieldLink own i (q.2.1 (res % 64)).1 (q.2.1 (res % 64)).2.1 (q.2.1 (res % 64)).2.2.1)) (hfin : (q.2.1 (res % 64)).2.2.2 = true → meth.name = "<init>" ∧ (q.2.1 (res % 64)).1 = own) (hd : decode cc pc = .ok (.putfield i, 3)) (hs : iPutf (pc + 3) res L S h = some (.inl c')) (k : iAt p l e R s m args below meth cd Q B b dg n0 z0 nL tc dC dI c') : iAt p l e R s m args below meth cd Q B b dg n0 z0 nL tc dC dI (pc, L, S, h) := by
  unfold iPutf at hs
  split at hs
  · split at hs
    · rename_i v a S' o ci fs ha
      split at hs
      · rename_i hci
        split at hs
        · rename_i hlen
          split at hs
          · rename_i hty
            cases hs
            refine iPut_row hx hb hts hown hK hq hk hw hfin hd ha hci hlen ?_ ?_ k
            · rw [← hci, hty]; rfl
            · rw [← hci, hty]; rfl
          · rename_i hty
            split at hs
            · rename_i h01
              cases hs
              refine iPut_row hx hb hts hown hK hq hk hw hfin hd ha hci hlen ?_ ?_ k
              · rw [← hci, hty]; rcases h01 with rfl | rfl <;> rfl
              · rw [← hci, hty]; rcases h01 with rfl | rfl <;> rfl
            · cases hs
          · rename_i hty
            cases hs
            refine iPut_row hx hb hts hown hK hq hk hw hfin hd ha hci hlen ?_ ?_ k
            · rw [← hci, hty]; rfl
            · rw [← hci, hty]; rfl
          · rename_i hty
            cases hs
            refine iPut_row hx hb hts hown hK hq hk hw hfin hd ha hci hlen ?_ ?_ k
            · rw [← hci, hty]; rfl
            · rw [← hci, hty]; rfl
          · cases hs
        · cases hs
      · cases hs
    · cases hs
  · cases hs
theorem iup (B : Nat) (f : Nat → Option Nat) (i x : Nat) : (fun j => (va_up f i (some x) j).map (B + ·)) = va_up (fun j => (f j).map (B + ·)) i (some (B + x)) := by
  funext j
  unfold va_up
  by_cases hj : j = i
  · simp [hj]
  · simp [hj]

theorem is_aastore (hx : p.tables.exec = Jvm.exec) (hb : cd.code = cc) (hK : va_K (dC, dI) vwCl (iTys tc) s) (hd : decode cc pc = .ok (.aastore, 1)) (hs : iAsa (pc + 1) L S h = some (.inl c')) (k : iAt p l e R s m args below meth cd Q B b dg n0 z0 nL tc dC dI c') : iAt p l e R s m args below meth cd Q B b dg n0 z0 nL tc dC dI (pc, L, S, h) := by
  unfold iAsa at hs
  split at hs
  · split at hs
    · rename_i x i a S' o1 o2 n f vs ha hv
      split at hs
      · rename_i hin
        cases hs
        intro H locs cells slots ls h1 h2 hl hP hS
        refine va_astq (D := (dC, dI)) (r := (RX4, TX4, 2)) hx hb hK hP iw_D hS _ 2 _ 4 (iw_at ha) rfl (iw_at hv) rfl hin hd (fun H1 locs1 hP1 _ hS1 => ?_)
        refine k H1 locs1 cells slots ls (by rw [h1]; exact (List.length_set ..).symm) (by rw [h2]; exact (iSl_set ha (by rfl)).symm) hl ?_ hS1
        rw [← iw_set]
        simp only [iE, iup]
        exact hP1
      · cases hs
    · rename_i x i a S' o1 o2 n f vs ha hv
      split at hs
      · rename_i hin
        cases hs
        intro H locs cells slots ls h1 h2 hl hP hS
        refine va_astq (D := (dC, dI)) (r := (RX2, TX2, 3)) hx hb hK hP iw_D hS _ 3 _ 2 (iw_at ha) rfl (iw_at hv) rfl hin hd (fun H1 locs1 hP1 _ hS1 => ?_)
        refine k H1 locs1 cells slots ls (by rw [h1]; exact (List.length_set ..).symm) (by rw [h2]; exact (iSl_set ha (by rfl)).symm) hl ?_ hS1
        rw [← iw_set]
        simp only [iE, iup]
        exact hP1
      · cases hs
    · cases hs
  · cases hs

theorem W.bound {H : Heap} {locs : List Loc} {cells slots : Nat} {g : JFrame} (k : H.size ≤ s.heap.size + cells → W p l e R s m args below meth cd H locs cells slots Q g) : W p l e R s m args below meth cd H locs cells slots Q g := by
  intro T hT X
  exact k (by have h := X.same.2.2.1; rw [← hT]; exact h) T hT X
theorem iNewQ {q : Nat} {el : va_E} (hD : va_D (fun q => B ≤ q) (iw B b dg tc h ++ [(q, el)])) (hq : q < B + h.length + 1) : q = B + h.length := by
  have hlen : (iw B b dg tc h).length = h.length := by simp [iw]
  have e1 : (iw B b dg tc h ++ [(q, el)])[h.length]? = some (q, el) := by
    rw [List.getElem?_append_right (by rw [hlen]; exact Nat.le_refl _), hlen]; simp
  have h1 : B ≤ q := hD.2 _ _ e1
  rcases Nat.lt_or_ge q (B + h.length) with hlt | hge
  · exfalso
    have hk : q - B < h.length := by omega
    have e2 : (iw B b dg tc h ++ [(q, el)])[q - B]? = some (B + (q - B), iE B b dg tc h[q - B]) := by
      rw [List.getElem?_append_left (by rw [hlen]; exact hk), iw_get, List.getElem?_eq_getElem hk]; rfl
    have := hD.1 _ _ _ _ e2 e1 (by show B + (q - B) = q; omega)
    omega
  · omega
theorem is_new (hx : p.tables.exec = Jvm.exec) (hb : cd.code = cc) {own : String} (hts : ∀ w ∈ lw_tbl, iUse w = true → w.before args s = true) (hown : s.vm.findClass own = some m.cls) (hK : va_K (dC, dI) vwCl (iTys tc) s) (hs0 : s.heap.size = B + n0) {i res pos : Nat} {q : vw_C} (hq : vwCl[res]? = some q) (hw : lw_tbl[pos]? = some (.classLink own i q.1)) (hd : decode cc pc = .ok (.new i, 3)) (hcl : (h ++ [.inr (res, iDfl res)] : List va_E).length ≤ n0 + R.cells) (hsl : iSl (h ++ [.inr (res, iDfl res)]) ≤ z0 + R.slots) (k : iAt p l e R s m args below meth cd Q B b dg n0 z0 nL tc dC dI (pc + 3, L, .ref h.length :: S, h ++ [.inr (res, iDfl res)])) : iAt p l e R s m args below meth cd Q B b dg n0 z0 nL tc dC dI (pc, L, S, h) := by
  obtain ⟨C, T, N⟩ := q
  obtain ⟨f1, f2, f3, f4, f5, f6, f7⟩ := iFld hq
  have hdm : (iDfl res).map (iv B b dg) = iDfl res := by
    match res with
    | 0 => rfl
    | 1 => rfl
    | 2 => rfl
    | 3 => rfl
    | 4 => rfl
    | 5 => rfl
    | 6 => rfl
    | 7 => rfl
    | n + 8 => rfl
  rw [iSl_push] at hsl
  rw [List.length_append] at hcl
  have hz : iSz (.inr (res, iDfl res)) = N := f7
  rw [hz] at hsl
  simp only [List.length_cons, List.length_nil] at hcl
  intro H locs cells slots ls h1 h2 hl hP hS
  dsimp only at h1 h2
  have hA9 : ∀ q : Nat, s.heap.size ≤ q → B ≤ q := fun q hq => by omega
  refine va_new (D := (dC, dI)) (Ts := u_ws C T N) (T := T) (N := N) (ci := res) (fs := iDfl res) hx hb (iHu hts hq) (fun _ h9 => h9) (iTyF res) f2 hown (hts _ (List.mem_of_getElem? hw) rfl) (hts _ f4 rfl) (hts _ f5 rfl) hK hP iw_D hS hA9 hq f6 (by omega) (by omega) hd (fun q H1 hP1 hD1 hS1 => ?_)
  refine W.bound fun hbd => ?_
  have hqv : q = B + h.length := iNewQ hD1 (by
    have hlt : q < H1.size := (hP1 h.length (q, .inr (res, iDfl res)) (by rw [List.getElem?_append_right (by simp [iw])]; simp [iw])).lt
    omega)
  subst hqv
  refine k H1 locs (cells + 1) (slots + N) ls (by rw [List.length_append]; simp only [List.length_cons, List.length_nil]; omega) (by rw [iSl_push, hz]; omega) hl ?_ hS1
  rw [← iw_push]
  simp only [iE, hdm]
  exact hP1

theorem is_newarray (hx : p.tables.exec = Jvm.exec) (hb : cd.code = cc) (hts : ∀ w ∈ lw_tbl, iUse w = true → w.before args s = true) (hK : va_K (dC, dI) vwCl (iTys tc) s) (hs0 : s.heap.size = B + n0) {ty : ArrayType} (hd : decode cc pc = .ok (.newarray ty, 2)) (hs : iNewa ty (pc + 2) L S h = some (.inl c')) (hcl : c'.2.2.2.length ≤ n0 + R.cells) (hsl : iSl c'.2.2.2 ≤ z0 + R.slots) (k : iAt p l e R s m args below meth cd Q B b dg n0 z0 nL tc dC dI c') : iAt p l e R s m args below meth cd Q B b dg n0 z0 nL tc dC dI (pc, L, S, h) := by
  unfold iNewa at hs
  split at hs
  · rename_i n S'
    split at hs
    · rename_i hn
      cases hs
      rw [iSl_push] at hsl
      rw [List.length_append] at hcl
      simp only [List.length_cons, List.length_nil, iSz] at hcl hsl
      intro H locs cells slots ls h1 h2 hl hP hS
      dsimp only at h1 h2
      have hA9 : ∀ q : Nat, s.heap.size ≤ q → B ≤ q := fun q hq => by omega
      refine va_newa (D := (dC, dI)) (ty := .int) hx hb (hts _ (List.mem_of_getElem? (i := 131) (by decide +kernel)) rfl) rfl hK hP iw_D hS hA9 (N' := n.toNatClampNeg) (a0 := (n.toNatClampNeg, .inl (fun _ => 0))) (fun cA => rfl) hn.1 rfl (by show n.toNatClampNeg * 4 ≤ _; omega) (by omega) (by omega) hd (fun q cA H1 hK1 hP1 hD1 hS1 => ?_)
      refine W.bound fun hbd => ?_
      have hqv : q = B + h.length := iNewQ hD1 (by
        have hlt : q < H1.size := (hP1 h.length (q, .inl (cA, n.toNatClampNeg, .inl (fun _ => 0))) (by rw [List.getElem?_append_right (by simp [iw])]; simp [iw])).lt
        omega)
      subst hqv
      have hcA : cA = tc 0 := by
        have e1 : va_RA s cA .int := (hK1.2 4 (cA, .int) rfl).2
        have e2 : va_RA s (tc 0) .int := (hK1.2 0 (tc 0, .int) rfl).2
        exact Option.some.inj (Eq.trans (Eq.symm e1) e2)
      subst hcA
      refine k H1 locs (cells + 1) (slots + n.toNatClampNeg) ls (by rw [List.length_append]; simp only [List.length_cons, List.length_nil]; omega) (by rw [iSl_push]; simp only [iSz]; omega) hl ?_ hS1
      rw [← iw_push]
      exact hP1
    · cases hs
  · rename_i n S'
    split at hs
    · rename_i hn
      cases hs
      rw [iSl_push] at hsl
      rw [List.length_append] at hcl
      simp only [List.length_cons, List.length_nil, iSz] at hcl hsl
      intro H locs cells slots ls h1 h2 hl hP hS
      dsimp only at h1 h2
      have hA9 : ∀ q : Nat, s.heap.size ≤ q → B ≤ q := fun q hq => by omega
      refine va_newa (D := (dC, dI)) (ty := .long) hx hb (hts _ (List.mem_of_getElem? (i := 237) (by decide +kernel)) rfl) rfl hK hP iw_D hS hA9 (N' := n.toNatClampNeg) (a0 := (n.toNatClampNeg, .inr (.inl (fun _ => 0)))) (fun cA => rfl) hn.1 rfl (by show n.toNatClampNeg * 8 ≤ _; omega) (by omega) (by omega) hd (fun q cA H1 hK1 hP1 hD1 hS1 => ?_)
      refine W.bound fun hbd => ?_
      have hqv : q = B + h.length := iNewQ hD1 (by
        have hlt : q < H1.size := (hP1 h.length (q, .inl (cA, n.toNatClampNeg, .inr (.inl (fun _ => 0)))) (by rw [List.getElem?_append_right (by simp [iw])]; simp [iw])).lt
        omega)
      subst hqv
      have hcA : cA = tc 1 := by
        have e1 : va_RA s cA .long := (hK1.2 4 (cA, .long) rfl).2
        have e2 : va_RA s (tc 1) .long := (hK1.2 1 (tc 1, .long) rfl).2
        exact Option.some.inj (Eq.trans (Eq.symm e1) e2)
      subst hcA
      refine k H1 locs (cells + 1) (slots + n.toNatClampNeg) ls (by rw [List.length_append]; simp only [List.length_cons, List.length_nil]; omega) (by rw [iSl_push]; simp only [iSz]; omega) hl ?_ hS1
      rw [← iw_push]
      exact hP1
    · cases hs
  · cases hs

theorem is_anew2 (hx : p.tables.exec = Jvm.exec) (hb : cd.code = cc) {own : String} (hts : ∀ w ∈ lw_tbl, iUse w = true → w.before args s = true) (hown : s.vm.findClass own = some m.cls) (hK : va_K (dC, dI) vwCl (iTys tc) s) (hs0 : s.heap.size = B + n0) {i pos : Nat} (hw : lw_tbl[pos]? = some (.classLink own i RX4)) (hd : decode cc pc = .ok (.anewarray i, 3)) (hs : iNewq (pc + 3) 2 L S h = some (.inl c')) (hcl : c'.2.2.2.length ≤ n0 + R.cells) (hsl : iSl c'.2.2.2 ≤ z0 + R.slots) (k : iAt p l e R s m args below meth cd Q B b dg n0 z0 nL tc dC dI c') : iAt p l e R s m args below meth cd Q B b dg n0 z0 nL tc dC dI (pc, L, S, h) := by
  unfold iNewq at hs
  split at hs
  · rename_i n S'
    split at hs
    · rename_i hn
      cases hs
      rw [iSl_push] at hsl
      rw [List.length_append] at hcl
      simp only [List.length_cons, List.length_nil, iSz] at hcl hsl
      intro H locs cells slots ls h1 h2 hl hP hS
      dsimp only at h1 h2
      have hA9 : ∀ q : Nat, s.heap.size ≤ q → B ≤ q := fun q hq => by omega
      refine va_newq (D := (dC, dI)) hx hb hown (hts _ (List.mem_of_getElem? hw) rfl) (va_AO.of (hts (.arrayOver (.object RX4)) (List.mem_of_getElem? (i := 94) (by decide +kernel)) rfl)) hK hP iw_D hS hA9 hn.1 rfl (by omega) (by omega) (by omega) hd (fun q cA H1 hK1 hP1 hD1 hS1 => ?_)
      refine W.bound fun hbd => ?_
      have hqv : q = B + h.length := iNewQ hD1 (by
        have hlt : q < H1.size := (hP1 h.length (q, .inl (cA, n.toNatClampNeg, .inr (.inr (.inr (.inr (fun _ => none)))))) (by rw [List.getElem?_append_right (by simp [iw])]; simp [iw])).lt
        omega)
      subst hqv
      have hcA : cA = tc 2 := by
        obtain ⟨_, _, _, _, _, e1⟩ := (hK1.2 4 (cA, .object RX4) rfl).2
        obtain ⟨_, _, _, _, _, e2⟩ := (hK1.2 2 (tc 2, .object RX4) rfl).2
        exact Option.some.inj (e1.symm.trans e2)
      subst hcA
      refine k H1 locs (cells + 1) (slots + n.toNatClampNeg) ls (by rw [List.length_append]; simp only [List.length_cons, List.length_nil]; omega) (by rw [iSl_push]; simp only [iSz]; omega) hl ?_ hS1
      rw [← iw_push]
      exact hP1
    · cases hs
  · cases hs

theorem is_anew3 (hx : p.tables.exec = Jvm.exec) (hb : cd.code = cc) {own : String} (hts : ∀ w ∈ lw_tbl, iUse w = true → w.before args s = true) (hown : s.vm.findClass own = some m.cls) (hK : va_K (dC, dI) vwCl (iTys tc) s) (hs0 : s.heap.size = B + n0) {i pos : Nat} (hw : lw_tbl[pos]? = some (.classLink own i RX2)) (hd : decode cc pc = .ok (.anewarray i, 3)) (hs : iNewq (pc + 3) 3 L S h = some (.inl c')) (hcl : c'.2.2.2.length ≤ n0 + R.cells) (hsl : iSl c'.2.2.2 ≤ z0 + R.slots) (k : iAt p l e R s m args below meth cd Q B b dg n0 z0 nL tc dC dI c') : iAt p l e R s m args below meth cd Q B b dg n0 z0 nL tc dC dI (pc, L, S, h) := by
  unfold iNewq at hs
  split at hs
  · rename_i n S'
    split at hs
    · rename_i hn
      cases hs
      rw [iSl_push] at hsl
      rw [List.length_append] at hcl
      simp only [List.length_cons, List.length_nil, iSz] at hcl hsl
      intro H locs cells slots ls h1 h2 hl hP hS
      dsimp only at h1 h2
      have hA9 : ∀ q : Nat, s.heap.size ≤ q → B ≤ q := fun q hq => by omega
      refine va_newq (D := (dC, dI)) hx hb hown (hts _ (List.mem_of_getElem? hw) rfl) (va_AO.of (hts (.arrayOver (.object RX2)) (List.mem_of_getElem? (i := 173) (by decide +kernel)) rfl)) hK hP iw_D hS hA9 hn.1 rfl (by omega) (by omega) (by omega) hd (fun q cA H1 hK1 hP1 hD1 hS1 => ?_)
      refine W.bound fun hbd => ?_
      have hqv : q = B + h.length := iNewQ hD1 (by
        have hlt : q < H1.size := (hP1 h.length (q, .inl (cA, n.toNatClampNeg, .inr (.inr (.inr (.inr (fun _ => none)))))) (by rw [List.getElem?_append_right (by simp [iw])]; simp [iw])).lt
        omega)
      subst hqv
      have hcA : cA = tc 3 := by
        obtain ⟨_, _, _, _, _, e1⟩ := (hK1.2 4 (cA, .object RX2) rfl).2
        obtain ⟨_, _, _, _, _, e2⟩ := (hK1.2 3 (tc 3, .object RX2) rfl).2
        exact Option.some.inj (e1.symm.trans e2)
      subst hcA
      refine k H1 locs (cells + 1) (slots + n.toNatClampNeg) ls (by rw [List.length_append]; simp only [List.length_cons, List.length_nil]; omega) (by rw [iSl_push]; simp only [iSz]; omega) hl ?_ hS1
      rw [← iw_push]
      exact hP1
    · cases hs
  · cases hs

theorem is_objinit (hx : p.tables.exec = Jvm.exec) (hb : cd.code = cc) (hml : cd.maxLocals = nL) {own : String} (hts : ∀ w ∈ lw_tbl, iUse w = true → w.before args s = true) (hown : s.vm.findClass own = some m.cls) (hRf : 1 ≤ R.frames) (hRl : 30 ≤ R.locals) {i pos : Nat} (hw : lw_tbl[pos]? = some (.methodLink own i Lib.objectInit)) (hd : decode cc pc = .ok (.invokespecial i, 3)) (hs : iOI (pc + 3) L S h = some (.inl c')) (k : iAt p l e R s m args below meth cd Q B b dg n0 z0 nL tc dC dI c') : iAt p l e R s m args below meth cd Q B b dg n0 z0 nL tc dC dI (pc, L, S, h) := by
  unfold iOI at hs
  split at hs
  · rename_i a S'
    cases hq : Nat.ble (iCat S') 8 with
    | false => rw [hq] at hs; cases hs
    | true =>
      rw [hq] at hs
      cases hs
      have hq := Nat.le_of_ble_eq_true hq
      intro H locs cells slots ls h1 h2 hl hP hS
      exact W.objInit hx hb hown (hts _ (List.mem_of_getElem? hw) rfl) (hts _ (List.mem_of_getElem? (i := 91) (by decide +kernel)) rfl) (hts _ (List.mem_of_getElem? (i := 92) (by decide +kernel)) rfl) rfl (hl.1.trans hml.symm) rfl hd hRf (by show 2 * 0 + _ + 12 ≤ _; rw [iCat_eq]; omega) (k H locs cells slots ls h1 h2 hl hP hS)
  · cases hs

theorem is_copy (hx : p.tables.exec = Jvm.exec) (hb : cd.code = cc) (hml : cd.maxLocals = nL) {own : String} (hts : ∀ w ∈ lw_tbl, iUse w = true → w.before args s = true) (hown : s.vm.findClass own = some m.cls) (hK : va_K (dC, dI) vwCl (iTys tc) s) (hRf : 1 ≤ R.frames) (hRl : 30 ≤ R.locals) {i pos : Nat} (hw : lw_tbl[pos]? = some (.methodLink own i arraycopyName)) (hd : decode cc pc = .ok (.invokestatic i, 3)) (hs : iCopy (pc + 3) L S h = some (.inl c')) (k : iAt p l e R s m args below meth cd Q B b dg n0 z0 nL tc dC dI c') : iAt p l e R s m args below meth cd Q B b dg n0 z0 nL tc dC dI (pc, L, S, h) := by
  unfold iCopy at hs
  split at hs
  · rename_i n dp a sp a0 S'
    cases hq : Nat.ble (iCat S') 8 with
    | false => rw [hq] at hs; cases hs
    | true =>
      rw [hq] at hs
      have hq := Nat.le_of_ble_eq_true hq
      simp only [Bool.not_true, cond_false] at hs
      split at hs
      · rename_i o1 o2 n0' f n1' g' ha0 ha1
        split at hs
        · rename_i hc
          cases hs
          intro H locs cells slots ls h1 h2 hl hP hS
          refine va_copyi (D := (dC, dI)) (ty := .int) hx hb (hml.trans hl.1.symm) hown (hts _ (List.mem_of_getElem? hw) rfl) (hts _ (List.mem_of_getElem? (i := 663) (by decide +kernel)) rfl) (hts _ (List.mem_of_getElem? (i := 662) (by decide +kernel)) rfl) (hts _ (List.mem_of_getElem? (i := 84) (by decide +kernel)) rfl) hK hP iw_D hS _ _ 0 0 (iw_at ha0) (iw_at ha1) rfl rfl rfl hc.1.1 hc.1.2.1 hc.1.2.2 hc.2.1 hc.2.2 (fun _ _ => rfl) hRf (by rw [iCat_eq]; show _ + (5 + 2 + 11) ≤ _; omega) hd (fun H1 locs1 hP1 _ hS1 => ?_)
          exact k H1 locs1 cells slots ls (by rw [h1]; exact (List.length_set ..).symm) (by rw [h2]; exact (iSl_set ha1 (by rfl)).symm) hl (by rw [← iw_set]; exact hP1) hS1
        · cases hs
      · cases hs
  · cases hs

theorem is_mmax (hx : p.tables.exec = Jvm.exec) (hb : cd.code = cc) (hml : cd.maxLocals = nL) {own : String} (hts : ∀ w ∈ lw_tbl, iUse w = true → w.before args s = true) (hown : s.vm.findClass own = some m.cls) (hRf : 1 ≤ R.frames) (hRl : 30 ≤ R.locals) {i pos : Nat} (hw : lw_tbl[pos]? = some (.methodLink own i Lib.Math.max.name)) (hd : decode cc pc = .ok (.invokestatic i, 3)) (hs : iMax (pc + 3) L S h = some (.inl c')) (hcl : c'.2.2.2.length ≤ n0 + R.cells) (hsl : iSl c'.2.2.2 ≤ z0 + R.slots) (k : iAt p l e R s m args below meth cd Q B b dg n0 z0 nL tc dC dI c') : iAt p l e R s m args below meth cd Q B b dg n0 z0 nL tc dC dI (pc, L, S, h) := by
  unfold iMax at hs
  split at hs
  · rename_i y x S'
    cases hq : Nat.ble (iCat S') 8 with
    | false => rw [hq] at hs; cases hs
    | true =>
      rw [hq] at hs
      cases hs
      have hq := Nat.le_of_ble_eq_true hq
      intro H locs cells slots ls h1 h2 hl hP hS
      dsimp only at h1 h2 hcl hsl
      exact va_mmax hx hb (hml.trans hl.1.symm) hown (hts _ (List.mem_of_getElem? hw) rfl) (hts _ (List.mem_of_getElem? (i := 225) (by decide +kernel)) rfl) (hts _ (List.mem_of_getElem? (i := 80) (by decide +kernel)) rfl) (hts _ (List.mem_of_getElem? (i := 226) (by decide +kernel)) rfl) hRf (by rw [iCat_eq]; omega) (by omega) (by omega) hd (k H locs cells slots ls h1 h2 hl hP hS)
  · cases hs
theorem is_mmin (hx : p.tables.exec = Jvm.exec) (hb : cd.code = cc) (hml : cd.maxLocals = nL) {own : String} (hts : ∀ w ∈ lw_tbl, iUse w = true → w.before args s = true) (hown : s.vm.findClass own = some m.cls) (hRf : 1 ≤ R.frames) (hRl : 30 ≤ R.locals) {i pos : Nat} (hw : lw_tbl[pos]? = some (.methodLink own i Lib.Math.min.name)) (hd : decode cc pc = .ok (.invokestatic i, 3)) (hs : iMin (pc + 3) L S h = some (.inl c')) (hcl : c'.2.2.2.length ≤ n0 + R.cells) (hsl : iSl c'.2.2.2 ≤ z0 + R.slots) (k : iAt p l e R s m args below meth cd Q B b dg n0 z0 nL tc dC dI c') : iAt p l e R s m args below meth cd Q B b dg n0 z0 nL tc dC dI (pc, L, S, h) := by
  unfold iMin at hs
  split at hs
  · rename_i y x S'
    cases hq : Nat.ble (iCat S') 8 with
    | false => rw [hq] at hs; cases hs
    | true =>
      rw [hq] at hs
      cases hs
      have hq := Nat.le_of_ble_eq_true hq
      intro H locs cells slots ls h1 h2 hl hP hS
      dsimp only at h1 h2 hcl hsl
      exact va_mmin hx hb (hml.trans hl.1.symm) hown (hts _ (List.mem_of_getElem? hw) rfl) (hts _ (List.mem_of_getElem? (i := 422) (by decide +kernel)) rfl) (hts _ (List.mem_of_getElem? (i := 80) (by decide +kernel)) rfl) (hts _ (List.mem_of_getElem? (i := 423) (by decide +kernel)) rfl) hRf (by rw [iCat_eq]; omega) (by omega) (by omega) hd (k H locs cells slots ls h1 h2 hl hP hS)
  · cases hs
end ISound2
