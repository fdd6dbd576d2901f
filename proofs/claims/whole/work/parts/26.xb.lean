section XB
variable {E : iExtT} {a : Nat → Nat → Int32} {v : Nat → Int32} {t : Nat → Nat → Int64} {r : List va_E}
/-- nothing has changed but the rows for what would be -/
def eqS (a : Nat → Nat → Int32) (v : Nat → Int32) (a' : Nat → Nat → Int32) (v' : Nat → Int32) : Prop := (∀ k, k ∉ [28, 29, 30, 32, 33, 34, 35, 36] → a' k = a k) ∧ ∀ k, k ∉ [2, 3, 9, 10] → v' k = v k
theorem eqS.rf : eqS a v a v := ⟨fun _ _ => rfl, fun _ _ => rfl⟩
theorem eqS.trans {a' a'' : Nat → Nat → Int32} {v' v'' : Nat → Int32} (h1 : eqS a v a' v') (h2 : eqS a' v' a'' v'') : eqS a v a'' v'' := ⟨fun k hk => (h2.1 k hk).trans (h1.1 k hk), fun k hk => (h2.2 k hk).trans (h1.2 k hk)⟩
theorem eqS.up {a' : Nat → Nat → Int32} {v' : Nat → Int32} (h : eqS a v a' v') (k : Nat) (hk : k ∈ [28, 29, 30, 32, 33, 34, 35, 36]) (f : Nat → Int32) : eqS a v (va_up a' k f) v' := ⟨fun j hj => by
  have hne : j ≠ k := fun q => hj (q ▸ hk)
  show (if j = k then f else a' j) = a j; rw [if_neg hne]; exact h.1 j hj, h.2⟩
theorem eqS.upv {a' : Nat → Nat → Int32} {v' : Nat → Int32} (h : eqS a v a' v') (k : Nat) (hk : k ∈ [2, 3, 9, 10]) (x : Int32) : eqS a v a' (upd v' k x) := ⟨h.1, fun j hj => by
  have hne : j ≠ k := fun q => hj (q ▸ hk)
  rw [pk_un hne]; exact h.2 j hj⟩
theorem eqS.eqT {a' : Nat → Nat → Int32} {v' : Nat → Int32} (h : eqS a v a' v') : eqT a v a' v' := by
  refine ⟨fun k hk => h.1 k ?_, fun k hk => h.2 k ?_⟩
  · intro q
    simp only [List.mem_cons, List.not_mem_nil, or_false] at hk q
    omega
  · intro q
    simp only [List.mem_cons, List.not_mem_nil, or_false] at hk q
    omega
/-- the other drive's rows -/
def HdS (a : Nat → Nat → Int32) (n : Nat) (x : dS) : Prop := ∀ i l, i < 24 → l < n → a 32 (i * 8 + l) = x.1 (i * 8 + l) ∧ a 33 (i * 8 + l) = x.2.1 (i * 8 + l)
theorem r_oPour (kp : Int32) {F k : Nat} (hF : F = 5 ∨ F = 36) (hk : k ≤ 8) (hv : v 5 = nI k) {mn : Nat → Nat} (hmn : ∀ e, e < k → a 11 e = nI (mn e) ∧ mn e < 24) : ∃ (a2 : Nat → Nat → Int32), Rn E 1 mX6_pour (0, [(0, .ref 27), (1, .ref F), (2, .ref 9), (3, .int kp)], [], wX a v t r) (none, wX a2 v t r) ∧ eqS a v a2 v ∧ ∀ j, j < 384 → a2 28 j = cwl (a 10) (a 12) mn k (a F) kp j := by
  have hmn' : ∀ e, e < k → mn e < 24 := fun e he => (hmn e he).2
  obtain ⟨SH, hSH⟩ : ∃ f, f = mkA (a 10) mn (a 12) k 1 kp (a 29) := ⟨_, rfl⟩
  obtain ⟨BU, hBU⟩ : ∃ f, f = mkA (a 10) mn (a 12) k 2 kp (a 30) := ⟨_, rfl⟩
  refine ⟨va_up (va_up (va_up a 29 SH) 30 BU) 28 (wlA (a F) SH BU (a 28)), ?_, ((eqS.rf.up 29 (by decide) _).up 30 (by decide) _).up 28 (by decide) _, fun j hj => ?_⟩
  · rcases hF with rfl | rfl
    · exact r_pour2 kp hk hv hmn hSH hBU
    · exact r_pour3 kp hk hv hmn hSH hBU
  · show wlA (a F) SH BU (a 28) j = _
    rw [hSH, hBU]
    exact cwl_of hmn' _ _ _ hj
theorem r_oRun {W : Nat} (hWw : W = 18 ∨ W = 27) (kp : Int32) {n k : Nat} (hn : n ≤ 8) (hv4 : v 4 = nI n) (hk : k ≤ 8) (hv : v 5 = nI k) {mn : Nat → Nat} (hmn : ∀ e, e < k → a 11 e = nI (mn e) ∧ mn e < 24) {wl : Nat → Int32} (hwl : ∀ j, j < 384 → a (W + 1) j = wl j) : ∃ (a2 : Nat → Nat → Int32) (v2 : Nat → Int32), Rn E 1 mX0_run (0, [(0, .ref 31), (1, .ref 3), (2, .ref W), (3, .ref 9), (4, .int kp)], [], wX a v t r) (none, wX a2 v2 t r) ∧ eqS a v a2 v2 ∧ v2 2 = v 2 ∧ v2 3 = v 3 ∧ HdS a2 n (crn (a 10) (a 12) mn k n (a 4) (a 7) (a 8) (a 6) wl kp) := by
  have hmn' : ∀ e, e < k → mn e < 24 := fun e he => (hmn e he).2
  obtain ⟨PO, hPO⟩ : ∃ f, f = mkA (a 10) mn (a 12) k 0 kp (a 34) := ⟨_, rfl⟩
  obtain ⟨x, hx⟩ : ∃ x : dS, x = rnF n (a 4) (a 7) (a 8) (a 6) (a (W + 1)) PO (a 32, a 33, a 35, 0, sh1 (v 4) - 1) := ⟨_, rfl⟩
  have hR : dRel n 24 x (crn (a 10) (a 12) mn k n (a 4) (a 7) (a 8) (a 6) wl kp) := by
    rw [hx, hPO]
    have e4 : sh1 (v 4) - 1 = sh1 (nI n) - 1 := by rw [hv4]
    rw [e4]
    exact crn_of hn hmn' hwl _ _ _ _ _
  refine ⟨va_up (va_up (va_up (va_up a 34 PO) 32 x.1) 33 x.2.1) 35 x.2.2.1, upd (upd v 9 (nI x.2.2.2.1)) 10 x.2.2.2.2, ?_, (((((eqS.rf.up 34 (by decide) _).up 32 (by decide) _).up 33 (by decide) _).up 35 (by decide) _).upv 9 (by decide) _).upv 10 (by decide) _, rfl, rfl, fun i l hi hl => hR.1 i l hi hl⟩
  rcases hWw with rfl | rfl
  · exact r_run2 kp hn hv4 hk hv hmn hPO hx
  · exact r_run3 kp hn hv4 hk hv hmn hPO hx
abbrev us (x c : Int32) : Int32 := (x.toUInt32 >>> (c.toUInt32 &&& Int32.toUInt32 31)).toInt32
def bc1 (x : Int32) : Int32 := x - (us x 1 &&& 1431655765)
def bc2 (x : Int32) : Int32 := (x &&& 858993459) + (us x 2 &&& 858993459)
def bc3 (x : Int32) : Int32 := (x + us x 4) &&& 252645135
def bc4 (x : Int32) : Int32 := x + us x 8
def bc5 (x : Int32) : Int32 := x + us x 16
/-- Java's count of the bits -/
def bcF (x : Int32) : Int32 := bc5 (bc4 (bc3 (bc2 (bc1 x)))) &&& 63
theorem r_bitCount (x : Int32) (h : List va_E) : Rn E 0 mJ6_bitCount_0f7a4 (0, [(0, .int x)], [], h) (some (.int (bcF x)), h) := by
  repeat refine Rn.step rfl ?_
  exact Rn.ret rfl
theorem r_weigh {n : Nat} (hn : n ≤ 8) (hv4 : v 4 = nI n) (c : Int32) {x : dS} (hH : HdS a n x) : Rn E 1 mX7_weigh (0, [(0, .ref 0), (1, .int c)], [], wX a v t r) (none, wX a (if ¬ bcF (obF x.1 n) ≤ v 3 then upd (upd v 3 (bcF (obF x.1 n))) 2 c else v) t r) := by
  repeat refine Rn.step rfl ?_
  refine Rn.calli rfl rfl rfl (by decide) (r_outBits2 hn hv4) (fun z1 f1 => ?_)
  rw [obF_congr (fun l hl => (hH 23 l (by decide) hl).1)] at f1
  refine Rn.calli rfl rfl rfl (by decide) (r_bitCount z1 _) (fun z2 f2 => ?_)
  rw [f1] at f2
  repeat refine Rn.step rfl ?_
  refine Rn.br rfl (fun h1 => ?_) (fun h1 => ?_)
  · rw [if_neg (fun q => q (f2 ▸ h1))]
    exact Rn.ret rfl
  · rw [if_pos (f2 ▸ h1), ← f2]
    repeat refine Rn.step rfl ?_
    exact Rn.ret rfl
/-- of what comes out the best so far: which, how many -/
abbrev bs (x : Int32 × Int32) (c o : Int32) : Int32 × Int32 := if ¬ o ≤ x.2 then (c, o) else x
theorem Rn.lpx {hh : Nat} {M : iMeth} {σ : Type} {cfg : Nat → σ → iCfg} {n : Nat} (I : Nat → σ → Prop) (hs : ∀ i s, i < n → I i s → ∃ s', I (i + 1) s' ∧ ∀ o, Rn E hh M (cfg (i + 1) s') o → Rn E hh M (cfg i s) o) : ∀ (j i : Nat) (s : σ), i + j = n → I i s → ∃ s', I n s' ∧ ∀ o, Rn E hh M (cfg n s') o → Rn E hh M (cfg i s) o := by
  intro j
  induction j with
  | zero =>
    intro i s hi hI
    obtain rfl : i = n := by omega
    exact ⟨s, hI, fun o k => k⟩
  | succ j ih =>
    intro i s hi hI
    obtain ⟨s1, h1, k1⟩ := hs i s (by omega) hI
    obtain ⟨s2, h2, k2⟩ := ih (i + 1) s1 (by omega) h1
    exact ⟨s2, h2, fun o k => k1 o (k2 o k)⟩
theorem upd_back (f : Nat → Int32) (l : Nat) (c : Int32) : upd (upd f l c) l (f l) = f := by
  funext j
  by_cases h : j = l
  · subst h; exact pk_us
  · rw [pk_un h, pk_un h]
theorem upd_self (f : Nat → Int32) (l : Nat) : upd f l (f l) = f := by
  funext j
  by_cases h : j = l
  · subst h; exact pk_us
  · rw [pk_un h]
theorem upd_upd (f : Nat → Int32) (l : Nat) (c d : Int32) : upd (upd f l c) l d = upd f l d := by
  funext j
  by_cases h : j = l
  · subst h; rw [pk_us, pk_us]
  · rw [pk_un h, pk_un h, pk_un h]
theorem r_startSearch {n k q : Nat} {mn sm : Nat → Nat} (hW : WfX a v n k q mn sm) (hS : SetX a v mn k n) : ∃ (a' : Nat → Nat → Int32) (v' : Nat → Int32), Rn E 3 mX7_startSearch (0, [(0, .ref 0)], [], wX a v t r) (none, wX a' v' t r) ∧ eqT a v a' v' ∧ v' 1 = 1 ∧ ValX a' mn k n ∧ v' 2 = -1 ∧ v' 3 = -1 := by
  obtain ⟨a', v', hr, he, h1, hV⟩ := r_settle (E := E) (t := t) (r := r) hW hS
  refine ⟨a', upd (upd v' 2 (-1)) 3 (-1), ?_, ⟨he.1, fun j hj => ?_⟩, h1, hV, rfl, rfl⟩
  · repeat refine Rn.step rfl ?_
    refine Rn.callv rfl rfl rfl (by decide) hr ?_
    repeat refine Rn.step rfl ?_
    exact Rn.ret rfl
  · have h2 : j ≠ 2 ∧ j ≠ 3 := by
      simp only [List.mem_cons, List.not_mem_nil, or_false] at hj
      omega
    rw [pk_un h2.2, pk_un h2.1]
    exact he.2 j hj
/-- SEND -/
def sdF (kda nu : Nat → Int32) (mn : Nat → Nat) (k n : Nat) (sl de ta st wl : Nat → Int32) (l : Nat) : Int32 × Int32 := lp (fun m x => bs x (nI m) (bcF (obF (crn kda nu mn k n sl de ta (upd st l (nI m)) wl (evB k)).1 n))) 0 24 (-1, -1)
def spF (kda nu : Nat → Int32) (mn : Nat → Nat) (k n : Nat) (sl de ta st wl : Nat → Int32) : Int32 × Int32 := lp (fun s x => bs x (nI s) (bcF (obF (crn kda nu mn k n (upd sl s (if 3 < sl s + 1 then 3 else sl s + 1)) de ta st wl (evB k)).1 n))) 0 16 (-1, -1)
def flF (kda nu : Nat → Int32) (mn : Nat → Nat) (k n : Nat) (sl fe de ta st : Nat → Int32) : Int32 × Int32 := lp (fun s x => bs x (nI s) (bcF (obF (crn kda nu mn k n sl de ta st (cwl kda nu mn k (upd fe s (if 9 < fe s + 2 then 9 else fe s + 2)) (evB k)) (evB k)).1 n))) 0 16 (-1, -1)
end XB
