section XJ
variable {L : Nat} {xs : Nat → Int32} {a : Nat → Nat → Int32} {v : Nat → Int32} {t : Nat → Nat → Int64} {r : List va_E}
abbrev mx (h : Int64) (x : Int32) : Int64 := 31 * h + x.toInt64
def qS0 (a : Nat → Nat → Int32) (v : Nat → Int32) (n k q : Nat) (mn sm : Nat → Nat) (s : Nat) : Int32 := a 4 s
theorem qS0_eq {a' : Nat → Nat → Int32} {v' : Nat → Int32} (he : eqT a v a' v') (n k q : Nat) (mn sm : Nat → Nat) (s : Nat) : qS0 a' v' n k q mn sm s = qS0 a v n k q mn sm s := by
  unfold qS0 
  simp only [he.1 2 (by decide), he.1 4 (by decide), he.1 5 (by decide), he.1 6 (by decide), he.1 7 (by decide), he.1 8 (by decide), he.1 10 (by decide), he.1 12 (by decide), he.1 15 (by decide), he.1 16 (by decide), he.2 0 (by decide), he.2 4 (by decide), he.2 5 (by decide), he.2 6 (by decide), he.2 11 (by decide), he.2 12 (by decide), he.2 13 (by decide)]
def qS1 (a : Nat → Nat → Int32) (v : Nat → Int32) (n k q : Nat) (mn sm : Nat → Nat) (s : Nat) : Int32 := a 5 s
theorem qS1_eq {a' : Nat → Nat → Int32} {v' : Nat → Int32} (he : eqT a v a' v') (n k q : Nat) (mn sm : Nat → Nat) (s : Nat) : qS1 a' v' n k q mn sm s = qS1 a v n k q mn sm s := by
  unfold qS1 
  simp only [he.1 2 (by decide), he.1 4 (by decide), he.1 5 (by decide), he.1 6 (by decide), he.1 7 (by decide), he.1 8 (by decide), he.1 10 (by decide), he.1 12 (by decide), he.1 15 (by decide), he.1 16 (by decide), he.2 0 (by decide), he.2 4 (by decide), he.2 5 (by decide), he.2 6 (by decide), he.2 11 (by decide), he.2 12 (by decide), he.2 13 (by decide)]
def qL0 (a : Nat → Nat → Int32) (v : Nat → Int32) (n k q : Nat) (mn sm : Nat → Nat) (l : Nat) : Int32 := a 6 l
theorem qL0_eq {a' : Nat → Nat → Int32} {v' : Nat → Int32} (he : eqT a v a' v') (n k q : Nat) (mn sm : Nat → Nat) (l : Nat) : qL0 a' v' n k q mn sm l = qL0 a v n k q mn sm l := by
  unfold qL0 
  simp only [he.1 2 (by decide), he.1 4 (by decide), he.1 5 (by decide), he.1 6 (by decide), he.1 7 (by decide), he.1 8 (by decide), he.1 10 (by decide), he.1 12 (by decide), he.1 15 (by decide), he.1 16 (by decide), he.2 0 (by decide), he.2 4 (by decide), he.2 5 (by decide), he.2 6 (by decide), he.2 11 (by decide), he.2 12 (by decide), he.2 13 (by decide)]
def qL1 (a : Nat → Nat → Int32) (v : Nat → Int32) (n k q : Nat) (mn sm : Nat → Nat) (l : Nat) : Int32 := a 7 l
theorem qL1_eq {a' : Nat → Nat → Int32} {v' : Nat → Int32} (he : eqT a v a' v') (n k q : Nat) (mn sm : Nat → Nat) (l : Nat) : qL1 a' v' n k q mn sm l = qL1 a v n k q mn sm l := by
  unfold qL1 
  simp only [he.1 2 (by decide), he.1 4 (by decide), he.1 5 (by decide), he.1 6 (by decide), he.1 7 (by decide), he.1 8 (by decide), he.1 10 (by decide), he.1 12 (by decide), he.1 15 (by decide), he.1 16 (by decide), he.2 0 (by decide), he.2 4 (by decide), he.2 5 (by decide), he.2 6 (by decide), he.2 11 (by decide), he.2 12 (by decide), he.2 13 (by decide)]
def qL2 (a : Nat → Nat → Int32) (v : Nat → Int32) (n k q : Nat) (mn sm : Nat → Nat) (l : Nat) : Int32 := a 8 l
theorem qL2_eq {a' : Nat → Nat → Int32} {v' : Nat → Int32} (he : eqT a v a' v') (n k q : Nat) (mn sm : Nat → Nat) (l : Nat) : qL2 a' v' n k q mn sm l = qL2 a v n k q mn sm l := by
  unfold qL2 
  simp only [he.1 2 (by decide), he.1 4 (by decide), he.1 5 (by decide), he.1 6 (by decide), he.1 7 (by decide), he.1 8 (by decide), he.1 10 (by decide), he.1 12 (by decide), he.1 15 (by decide), he.1 16 (by decide), he.2 0 (by decide), he.2 4 (by decide), he.2 5 (by decide), he.2 6 (by decide), he.2 11 (by decide), he.2 12 (by decide), he.2 13 (by decide)]
def qF (a : Nat → Nat → Int32) (v : Nat → Int32) (n k q : Nat) (mn sm : Nat → Nat) (i : Nat) : Int32 := a 2 i
theorem qF_eq {a' : Nat → Nat → Int32} {v' : Nat → Int32} (he : eqT a v a' v') (n k q : Nat) (mn sm : Nat → Nat) (i : Nat) : qF a' v' n k q mn sm i = qF a v n k q mn sm i := by
  unfold qF 
  simp only [he.1 2 (by decide), he.1 4 (by decide), he.1 5 (by decide), he.1 6 (by decide), he.1 7 (by decide), he.1 8 (by decide), he.1 10 (by decide), he.1 12 (by decide), he.1 15 (by decide), he.1 16 (by decide), he.2 0 (by decide), he.2 4 (by decide), he.2 5 (by decide), he.2 6 (by decide), he.2 11 (by decide), he.2 12 (by decide), he.2 13 (by decide)]
def qFl0 (a : Nat → Nat → Int32) (v : Nat → Int32) (n k q : Nat) (mn sm : Nat → Nat) (m s : Nat) : Int32 := cW a mn k (m * 16 + s)
theorem qFl0_eq {a' : Nat → Nat → Int32} {v' : Nat → Int32} (he : eqT a v a' v') (n k q : Nat) (mn sm : Nat → Nat) (m s : Nat) : qFl0 a' v' n k q mn sm m s = qFl0 a v n k q mn sm m s := by
  unfold qFl0 cW
  simp only [he.1 2 (by decide), he.1 4 (by decide), he.1 5 (by decide), he.1 6 (by decide), he.1 7 (by decide), he.1 8 (by decide), he.1 10 (by decide), he.1 12 (by decide), he.1 15 (by decide), he.1 16 (by decide), he.2 0 (by decide), he.2 4 (by decide), he.2 5 (by decide), he.2 6 (by decide), he.2 11 (by decide), he.2 12 (by decide), he.2 13 (by decide)]
def qFl1 (a : Nat → Nat → Int32) (v : Nat → Int32) (n k q : Nat) (mn sm : Nat → Nat) (m s : Nat) : Int32 := liF (cDr a mn k n).1 (a 8) m (nI s) 0 n
theorem qFl1_eq {a' : Nat → Nat → Int32} {v' : Nat → Int32} (he : eqT a v a' v') (n k q : Nat) (mn sm : Nat → Nat) (m s : Nat) : qFl1 a' v' n k q mn sm m s = qFl1 a v n k q mn sm m s := by
  unfold qFl1 cDr
  simp only [he.1 2 (by decide), he.1 4 (by decide), he.1 5 (by decide), he.1 6 (by decide), he.1 7 (by decide), he.1 8 (by decide), he.1 10 (by decide), he.1 12 (by decide), he.1 15 (by decide), he.1 16 (by decide), he.2 0 (by decide), he.2 4 (by decide), he.2 5 (by decide), he.2 6 (by decide), he.2 11 (by decide), he.2 12 (by decide), he.2 13 (by decide)]
def qAt0 (a : Nat → Nat → Int32) (v : Nat → Int32) (n k q : Nat) (mn sm : Nat → Nat) (m l : Nat) : Int32 := (cDr a mn k n).1 (m * 8 + l)
theorem qAt0_eq {a' : Nat → Nat → Int32} {v' : Nat → Int32} (he : eqT a v a' v') (n k q : Nat) (mn sm : Nat → Nat) (m l : Nat) : qAt0 a' v' n k q mn sm m l = qAt0 a v n k q mn sm m l := by
  unfold qAt0 cDr
  simp only [he.1 2 (by decide), he.1 4 (by decide), he.1 5 (by decide), he.1 6 (by decide), he.1 7 (by decide), he.1 8 (by decide), he.1 10 (by decide), he.1 12 (by decide), he.1 15 (by decide), he.1 16 (by decide), he.2 0 (by decide), he.2 4 (by decide), he.2 5 (by decide), he.2 6 (by decide), he.2 11 (by decide), he.2 12 (by decide), he.2 13 (by decide)]
def qAt1 (a : Nat → Nat → Int32) (v : Nat → Int32) (n k q : Nat) (mn sm : Nat → Nat) (m l : Nat) : Int32 := (cDr a mn k n).2.1 (m * 8 + l)
theorem qAt1_eq {a' : Nat → Nat → Int32} {v' : Nat → Int32} (he : eqT a v a' v') (n k q : Nat) (mn sm : Nat → Nat) (m l : Nat) : qAt1 a' v' n k q mn sm m l = qAt1 a v n k q mn sm m l := by
  unfold qAt1 cDr
  simp only [he.1 2 (by decide), he.1 4 (by decide), he.1 5 (by decide), he.1 6 (by decide), he.1 7 (by decide), he.1 8 (by decide), he.1 10 (by decide), he.1 12 (by decide), he.1 15 (by decide), he.1 16 (by decide), he.2 0 (by decide), he.2 4 (by decide), he.2 5 (by decide), he.2 6 (by decide), he.2 11 (by decide), he.2 12 (by decide), he.2 13 (by decide)]
def qAl0 (a : Nat → Nat → Int32) (v : Nat → Int32) (n k q : Nat) (mn sm : Nat → Nat) (m : Nat) : Int32 := tog (cW a mn k) m
theorem qAl0_eq {a' : Nat → Nat → Int32} {v' : Nat → Int32} (he : eqT a v a' v') (n k q : Nat) (mn sm : Nat → Nat) (m : Nat) : qAl0 a' v' n k q mn sm m = qAl0 a v n k q mn sm m := by
  unfold qAl0 cW
  simp only [he.1 2 (by decide), he.1 4 (by decide), he.1 5 (by decide), he.1 6 (by decide), he.1 7 (by decide), he.1 8 (by decide), he.1 10 (by decide), he.1 12 (by decide), he.1 15 (by decide), he.1 16 (by decide), he.2 0 (by decide), he.2 4 (by decide), he.2 5 (by decide), he.2 6 (by decide), he.2 11 (by decide), he.2 12 (by decide), he.2 13 (by decide)]
def qAl1 (a : Nat → Nat → Int32) (v : Nat → Int32) (n k q : Nat) (mn sm : Nat → Nat) (m : Nat) : Int32 := aflF (cDr a mn k n).1 m n
theorem qAl1_eq {a' : Nat → Nat → Int32} {v' : Nat → Int32} (he : eqT a v a' v') (n k q : Nat) (mn sm : Nat → Nat) (m : Nat) : qAl1 a' v' n k q mn sm m = qAl1 a v n k q mn sm m := by
  unfold qAl1 cDr
  simp only [he.1 2 (by decide), he.1 4 (by decide), he.1 5 (by decide), he.1 6 (by decide), he.1 7 (by decide), he.1 8 (by decide), he.1 10 (by decide), he.1 12 (by decide), he.1 15 (by decide), he.1 16 (by decide), he.2 0 (by decide), he.2 4 (by decide), he.2 5 (by decide), he.2 6 (by decide), he.2 11 (by decide), he.2 12 (by decide), he.2 13 (by decide)]
def qOu0 (a : Nat → Nat → Int32) (v : Nat → Int32) (n k q : Nat) (mn sm : Nat → Nat) (l : Nat) : Int32 := moF (cDr a mn k n).1 l 0 24
theorem qOu0_eq {a' : Nat → Nat → Int32} {v' : Nat → Int32} (he : eqT a v a' v') (n k q : Nat) (mn sm : Nat → Nat) (l : Nat) : qOu0 a' v' n k q mn sm l = qOu0 a v n k q mn sm l := by
  unfold qOu0 cDr
  simp only [he.1 2 (by decide), he.1 4 (by decide), he.1 5 (by decide), he.1 6 (by decide), he.1 7 (by decide), he.1 8 (by decide), he.1 10 (by decide), he.1 12 (by decide), he.1 15 (by decide), he.1 16 (by decide), he.2 0 (by decide), he.2 4 (by decide), he.2 5 (by decide), he.2 6 (by decide), he.2 11 (by decide), he.2 12 (by decide), he.2 13 (by decide)]
def qOu1 (a : Nat → Nat → Int32) (v : Nat → Int32) (n k q : Nat) (mn sm : Nat → Nat) (l : Nat) : Int32 := miF (cDr a mn k n).2.1 l 1
theorem qOu1_eq {a' : Nat → Nat → Int32} {v' : Nat → Int32} (he : eqT a v a' v') (n k q : Nat) (mn sm : Nat → Nat) (l : Nat) : qOu1 a' v' n k q mn sm l = qOu1 a v n k q mn sm l := by
  unfold qOu1 cDr
  simp only [he.1 2 (by decide), he.1 4 (by decide), he.1 5 (by decide), he.1 6 (by decide), he.1 7 (by decide), he.1 8 (by decide), he.1 10 (by decide), he.1 12 (by decide), he.1 15 (by decide), he.1 16 (by decide), he.2 0 (by decide), he.2 4 (by decide), he.2 5 (by decide), he.2 6 (by decide), he.2 11 (by decide), he.2 12 (by decide), he.2 13 (by decide)]
def qOu2 (a : Nat → Nat → Int32) (v : Nat → Int32) (n k q : Nat) (mn sm : Nat → Nat) (l : Nat) : Int32 := miF (cDr a mn k n).2.1 l 2
theorem qOu2_eq {a' : Nat → Nat → Int32} {v' : Nat → Int32} (he : eqT a v a' v') (n k q : Nat) (mn sm : Nat → Nat) (l : Nat) : qOu2 a' v' n k q mn sm l = qOu2 a v n k q mn sm l := by
  unfold qOu2 cDr
  simp only [he.1 2 (by decide), he.1 4 (by decide), he.1 5 (by decide), he.1 6 (by decide), he.1 7 (by decide), he.1 8 (by decide), he.1 10 (by decide), he.1 12 (by decide), he.1 15 (by decide), he.1 16 (by decide), he.2 0 (by decide), he.2 4 (by decide), he.2 5 (by decide), he.2 6 (by decide), he.2 11 (by decide), he.2 12 (by decide), he.2 13 (by decide)]
def qJam (a : Nat → Nat → Int32) (v : Nat → Int32) (n k q : Nat) (mn sm : Nat → Nat)  : Int32 := jmF (cDr a mn k n).2.1 n 0 24
theorem qJam_eq {a' : Nat → Nat → Int32} {v' : Nat → Int32} (he : eqT a v a' v') (n k q : Nat) (mn sm : Nat → Nat)  : qJam a' v' n k q mn sm  = qJam a v n k q mn sm  := by
  unfold qJam cDr
  simp only [he.1 2 (by decide), he.1 4 (by decide), he.1 5 (by decide), he.1 6 (by decide), he.1 7 (by decide), he.1 8 (by decide), he.1 10 (by decide), he.1 12 (by decide), he.1 15 (by decide), he.1 16 (by decide), he.2 0 (by decide), he.2 4 (by decide), he.2 5 (by decide), he.2 6 (by decide), he.2 11 (by decide), he.2 12 (by decide), he.2 13 (by decide)]
def qLe0 (a : Nat → Nat → Int32) (v : Nat → Int32) (n k q : Nat) (mn sm : Nat → Nat)  : Int32 := drF (cW a mn k)
theorem qLe0_eq {a' : Nat → Nat → Int32} {v' : Nat → Int32} (he : eqT a v a' v') (n k q : Nat) (mn sm : Nat → Nat)  : qLe0 a' v' n k q mn sm  = qLe0 a v n k q mn sm  := by
  unfold qLe0 cW
  simp only [he.1 2 (by decide), he.1 4 (by decide), he.1 5 (by decide), he.1 6 (by decide), he.1 7 (by decide), he.1 8 (by decide), he.1 10 (by decide), he.1 12 (by decide), he.1 15 (by decide), he.1 16 (by decide), he.2 0 (by decide), he.2 4 (by decide), he.2 5 (by decide), he.2 6 (by decide), he.2 11 (by decide), he.2 12 (by decide), he.2 13 (by decide)]
def qLe1 (a : Nat → Nat → Int32) (v : Nat → Int32) (n k q : Nat) (mn sm : Nat → Nat)  : Int32 := evB n &&& (obF (cDr a mn k n).1 n ^^^ -1)
theorem qLe1_eq {a' : Nat → Nat → Int32} {v' : Nat → Int32} (he : eqT a v a' v') (n k q : Nat) (mn sm : Nat → Nat)  : qLe1 a' v' n k q mn sm  = qLe1 a v n k q mn sm  := by
  unfold qLe1 cDr
  simp only [he.1 2 (by decide), he.1 4 (by decide), he.1 5 (by decide), he.1 6 (by decide), he.1 7 (by decide), he.1 8 (by decide), he.1 10 (by decide), he.1 12 (by decide), he.1 15 (by decide), he.1 16 (by decide), he.2 0 (by decide), he.2 4 (by decide), he.2 5 (by decide), he.2 6 (by decide), he.2 11 (by decide), he.2 12 (by decide), he.2 13 (by decide)]
def qWo (a : Nat → Nat → Int32) (v : Nat → Int32) (n k q : Nat) (mn sm : Nat → Nat)  : Int32 := (woF (cDr a mn k n).2.1 n).1
theorem qWo_eq {a' : Nat → Nat → Int32} {v' : Nat → Int32} (he : eqT a v a' v') (n k q : Nat) (mn sm : Nat → Nat)  : qWo a' v' n k q mn sm  = qWo a v n k q mn sm  := by
  unfold qWo cDr
  simp only [he.1 2 (by decide), he.1 4 (by decide), he.1 5 (by decide), he.1 6 (by decide), he.1 7 (by decide), he.1 8 (by decide), he.1 10 (by decide), he.1 12 (by decide), he.1 15 (by decide), he.1 16 (by decide), he.2 0 (by decide), he.2 4 (by decide), he.2 5 (by decide), he.2 6 (by decide), he.2 11 (by decide), he.2 12 (by decide), he.2 13 (by decide)]
def qSe0 (a : Nat → Nat → Int32) (v : Nat → Int32) (n k q : Nat) (mn sm : Nat → Nat) (l : Nat) : Int32 := (sdF (a 10) (a 12) mn k n (a 4) (a 7) (a 8) (a 6) (cW a mn k) l).1
theorem qSe0_eq {a' : Nat → Nat → Int32} {v' : Nat → Int32} (he : eqT a v a' v') (n k q : Nat) (mn sm : Nat → Nat) (l : Nat) : qSe0 a' v' n k q mn sm l = qSe0 a v n k q mn sm l := by
  unfold qSe0 cW
  simp only [he.1 2 (by decide), he.1 4 (by decide), he.1 5 (by decide), he.1 6 (by decide), he.1 7 (by decide), he.1 8 (by decide), he.1 10 (by decide), he.1 12 (by decide), he.1 15 (by decide), he.1 16 (by decide), he.2 0 (by decide), he.2 4 (by decide), he.2 5 (by decide), he.2 6 (by decide), he.2 11 (by decide), he.2 12 (by decide), he.2 13 (by decide)]
def qSe1 (a : Nat → Nat → Int32) (v : Nat → Int32) (n k q : Nat) (mn sm : Nat → Nat) (l : Nat) : Int32 := (sdF (a 10) (a 12) mn k n (a 4) (a 7) (a 8) (a 6) (cW a mn k) l).2
theorem qSe1_eq {a' : Nat → Nat → Int32} {v' : Nat → Int32} (he : eqT a v a' v') (n k q : Nat) (mn sm : Nat → Nat) (l : Nat) : qSe1 a' v' n k q mn sm l = qSe1 a v n k q mn sm l := by
  unfold qSe1 cW
  simp only [he.1 2 (by decide), he.1 4 (by decide), he.1 5 (by decide), he.1 6 (by decide), he.1 7 (by decide), he.1 8 (by decide), he.1 10 (by decide), he.1 12 (by decide), he.1 15 (by decide), he.1 16 (by decide), he.2 0 (by decide), he.2 4 (by decide), he.2 5 (by decide), he.2 6 (by decide), he.2 11 (by decide), he.2 12 (by decide), he.2 13 (by decide)]
def qSt0 (a : Nat → Nat → Int32) (v : Nat → Int32) (n k q : Nat) (mn sm : Nat → Nat)  : Int32 := (spF (a 10) (a 12) mn k n (a 4) (a 7) (a 8) (a 6) (cW a mn k)).1
theorem qSt0_eq {a' : Nat → Nat → Int32} {v' : Nat → Int32} (he : eqT a v a' v') (n k q : Nat) (mn sm : Nat → Nat)  : qSt0 a' v' n k q mn sm  = qSt0 a v n k q mn sm  := by
  unfold qSt0 cW
  simp only [he.1 2 (by decide), he.1 4 (by decide), he.1 5 (by decide), he.1 6 (by decide), he.1 7 (by decide), he.1 8 (by decide), he.1 10 (by decide), he.1 12 (by decide), he.1 15 (by decide), he.1 16 (by decide), he.2 0 (by decide), he.2 4 (by decide), he.2 5 (by decide), he.2 6 (by decide), he.2 11 (by decide), he.2 12 (by decide), he.2 13 (by decide)]
def qSt1 (a : Nat → Nat → Int32) (v : Nat → Int32) (n k q : Nat) (mn sm : Nat → Nat)  : Int32 := (spF (a 10) (a 12) mn k n (a 4) (a 7) (a 8) (a 6) (cW a mn k)).2
theorem qSt1_eq {a' : Nat → Nat → Int32} {v' : Nat → Int32} (he : eqT a v a' v') (n k q : Nat) (mn sm : Nat → Nat)  : qSt1 a' v' n k q mn sm  = qSt1 a v n k q mn sm  := by
  unfold qSt1 cW
  simp only [he.1 2 (by decide), he.1 4 (by decide), he.1 5 (by decide), he.1 6 (by decide), he.1 7 (by decide), he.1 8 (by decide), he.1 10 (by decide), he.1 12 (by decide), he.1 15 (by decide), he.1 16 (by decide), he.2 0 (by decide), he.2 4 (by decide), he.2 5 (by decide), he.2 6 (by decide), he.2 11 (by decide), he.2 12 (by decide), he.2 13 (by decide)]
def qFi0 (a : Nat → Nat → Int32) (v : Nat → Int32) (n k q : Nat) (mn sm : Nat → Nat)  : Int32 := (flF (a 10) (a 12) mn k n (a 4) (a 5) (a 7) (a 8) (a 6)).1
theorem qFi0_eq {a' : Nat → Nat → Int32} {v' : Nat → Int32} (he : eqT a v a' v') (n k q : Nat) (mn sm : Nat → Nat)  : qFi0 a' v' n k q mn sm  = qFi0 a v n k q mn sm  := by
  unfold qFi0 
  simp only [he.1 2 (by decide), he.1 4 (by decide), he.1 5 (by decide), he.1 6 (by decide), he.1 7 (by decide), he.1 8 (by decide), he.1 10 (by decide), he.1 12 (by decide), he.1 15 (by decide), he.1 16 (by decide), he.2 0 (by decide), he.2 4 (by decide), he.2 5 (by decide), he.2 6 (by decide), he.2 11 (by decide), he.2 12 (by decide), he.2 13 (by decide)]
def qFi1 (a : Nat → Nat → Int32) (v : Nat → Int32) (n k q : Nat) (mn sm : Nat → Nat)  : Int32 := (flF (a 10) (a 12) mn k n (a 4) (a 5) (a 7) (a 8) (a 6)).2
theorem qFi1_eq {a' : Nat → Nat → Int32} {v' : Nat → Int32} (he : eqT a v a' v') (n k q : Nat) (mn sm : Nat → Nat)  : qFi1 a' v' n k q mn sm  = qFi1 a v n k q mn sm  := by
  unfold qFi1 
  simp only [he.1 2 (by decide), he.1 4 (by decide), he.1 5 (by decide), he.1 6 (by decide), he.1 7 (by decide), he.1 8 (by decide), he.1 10 (by decide), he.1 12 (by decide), he.1 15 (by decide), he.1 16 (by decide), he.2 0 (by decide), he.2 4 (by decide), he.2 5 (by decide), he.2 6 (by decide), he.2 11 (by decide), he.2 12 (by decide), he.2 13 (by decide)]
def qSp (a : Nat → Nat → Int32) (v : Nat → Int32) (n k q : Nat) (mn sm : Nat → Nat) (x : Int32) : Int32 := sqF (spE (oC a mn k n) k (evB n)) x
theorem qSp_eq {a' : Nat → Nat → Int32} {v' : Nat → Int32} (he : eqT a v a' v') (n k q : Nat) (mn sm : Nat → Nat) (x : Int32) : qSp a' v' n k q mn sm x = qSp a v n k q mn sm x := by
  unfold qSp oC
  simp only [he.1 2 (by decide), he.1 4 (by decide), he.1 5 (by decide), he.1 6 (by decide), he.1 7 (by decide), he.1 8 (by decide), he.1 10 (by decide), he.1 12 (by decide), he.1 15 (by decide), he.1 16 (by decide), he.2 0 (by decide), he.2 4 (by decide), he.2 5 (by decide), he.2 6 (by decide), he.2 11 (by decide), he.2 12 (by decide), he.2 13 (by decide)]
def qNe (a : Nat → Nat → Int32) (v : Nat → Int32) (n k q : Nat) (mn sm : Nat → Nat)  : Int32 := neF a n k q mn sm
theorem qNe_eq {a' : Nat → Nat → Int32} {v' : Nat → Int32} (he : eqT a v a' v') (n k q : Nat) (mn sm : Nat → Nat)  : qNe a' v' n k q mn sm  = qNe a v n k q mn sm  := by
  unfold qNe neF ftX
  simp only [he.1 2 (by decide), he.1 4 (by decide), he.1 5 (by decide), he.1 6 (by decide), he.1 7 (by decide), he.1 8 (by decide), he.1 10 (by decide), he.1 12 (by decide), he.1 15 (by decide), he.1 16 (by decide), he.2 0 (by decide), he.2 4 (by decide), he.2 5 (by decide), he.2 6 (by decide), he.2 11 (by decide), he.2 12 (by decide), he.2 13 (by decide)]
def qDr (a : Nat → Nat → Int32) (v : Nat → Int32) (n k q : Nat) (mn sm : Nat → Nat) (l : Nat) : Int32 := dgB a n k q mn sm l 9
theorem qDr_eq {a' : Nat → Nat → Int32} {v' : Nat → Int32} (he : eqT a v a' v') (n k q : Nat) (mn sm : Nat → Nat) (l : Nat) : qDr a' v' n k q mn sm l = qDr a v n k q mn sm l := by
  unfold qDr dgB ftX dgX cW
  simp only [he.1 2 (by decide), he.1 4 (by decide), he.1 5 (by decide), he.1 6 (by decide), he.1 7 (by decide), he.1 8 (by decide), he.1 10 (by decide), he.1 12 (by decide), he.1 15 (by decide), he.1 16 (by decide), he.2 0 (by decide), he.2 4 (by decide), he.2 5 (by decide), he.2 6 (by decide), he.2 11 (by decide), he.2 12 (by decide), he.2 13 (by decide)]
def qGr (a : Nat → Nat → Int32) (v : Nat → Int32) (n k q : Nat) (mn sm : Nat → Nat) (s : Nat) : Int32 := grF a n k q mn sm s
theorem qGr_eq {a' : Nat → Nat → Int32} {v' : Nat → Int32} (he : eqT a v a' v') (n k q : Nat) (mn sm : Nat → Nat) (s : Nat) : qGr a' v' n k q mn sm s = qGr a v n k q mn sm s := by
  unfold qGr grF ftX cW
  simp only [he.1 2 (by decide), he.1 4 (by decide), he.1 5 (by decide), he.1 6 (by decide), he.1 7 (by decide), he.1 8 (by decide), he.1 10 (by decide), he.1 12 (by decide), he.1 15 (by decide), he.1 16 (by decide), he.2 0 (by decide), he.2 4 (by decide), he.2 5 (by decide), he.2 6 (by decide), he.2 11 (by decide), he.2 12 (by decide), he.2 13 (by decide)]
def qAs (a : Nat → Nat → Int32) (v : Nat → Int32) (n k q : Nat) (mn sm : Nat → Nat) (l : Nat) : Int32 := asF (dgB a n k q mn sm l 9) (dgT a n k mn l)
theorem qAs_eq {a' : Nat → Nat → Int32} {v' : Nat → Int32} (he : eqT a v a' v') (n k q : Nat) (mn sm : Nat → Nat) (l : Nat) : qAs a' v' n k q mn sm l = qAs a v n k q mn sm l := by
  unfold qAs dgB dgT ftX dgX cW
  simp only [he.1 2 (by decide), he.1 4 (by decide), he.1 5 (by decide), he.1 6 (by decide), he.1 7 (by decide), he.1 8 (by decide), he.1 10 (by decide), he.1 12 (by decide), he.1 15 (by decide), he.1 16 (by decide), he.2 0 (by decide), he.2 4 (by decide), he.2 5 (by decide), he.2 6 (by decide), he.2 11 (by decide), he.2 12 (by decide), he.2 13 (by decide)]
def qCh0 (a : Nat → Nat → Int32) (v : Nat → Int32) (n k q : Nat) (mn sm : Nat → Nat) (c l : Nat) : Int64 := (chF k (sxF a mn k n (nI c) l (2 ^ k))).1
theorem qCh0_eq {a' : Nat → Nat → Int32} {v' : Nat → Int32} (he : eqT a v a' v') (n k q : Nat) (mn sm : Nat → Nat) (c l : Nat) : qCh0 a' v' n k q mn sm c l = qCh0 a v n k q mn sm c l := by
  unfold qCh0 sxF oC
  simp only [he.1 2 (by decide), he.1 4 (by decide), he.1 5 (by decide), he.1 6 (by decide), he.1 7 (by decide), he.1 8 (by decide), he.1 10 (by decide), he.1 12 (by decide), he.1 15 (by decide), he.1 16 (by decide), he.2 0 (by decide), he.2 4 (by decide), he.2 5 (by decide), he.2 6 (by decide), he.2 11 (by decide), he.2 12 (by decide), he.2 13 (by decide)]
def qCh1 (a : Nat → Nat → Int32) (v : Nat → Int32) (n k q : Nat) (mn sm : Nat → Nat) (c l : Nat) : Int64 := (chF k (sxF a mn k n (nI c) l (2 ^ k))).2
theorem qCh1_eq {a' : Nat → Nat → Int32} {v' : Nat → Int32} (he : eqT a v a' v') (n k q : Nat) (mn sm : Nat → Nat) (c l : Nat) : qCh1 a' v' n k q mn sm c l = qCh1 a v n k q mn sm c l := by
  unfold qCh1 sxF oC
  simp only [he.1 2 (by decide), he.1 4 (by decide), he.1 5 (by decide), he.1 6 (by decide), he.1 7 (by decide), he.1 8 (by decide), he.1 10 (by decide), he.1 12 (by decide), he.1 15 (by decide), he.1 16 (by decide), he.2 0 (by decide), he.2 4 (by decide), he.2 5 (by decide), he.2 6 (by decide), he.2 11 (by decide), he.2 12 (by decide), he.2 13 (by decide)]
def qSn0 (a : Nat → Nat → Int32) (v : Nat → Int32) (n k q : Nat) (mn sm : Nat → Nat) (x : Int32) (N : Nat) : Int32 := bcF (obF (seD a n k mn x N).1 n)
theorem qSn0_eq {a' : Nat → Nat → Int32} {v' : Nat → Int32} (he : eqT a v a' v') (n k q : Nat) (mn sm : Nat → Nat) (x : Int32) (N : Nat) : qSn0 a' v' n k q mn sm x N = qSn0 a v n k q mn sm x N := by
  unfold qSn0 seD
  simp only [he.1 2 (by decide), he.1 4 (by decide), he.1 5 (by decide), he.1 6 (by decide), he.1 7 (by decide), he.1 8 (by decide), he.1 10 (by decide), he.1 12 (by decide), he.1 15 (by decide), he.1 16 (by decide), he.2 0 (by decide), he.2 4 (by decide), he.2 5 (by decide), he.2 6 (by decide), he.2 11 (by decide), he.2 12 (by decide), he.2 13 (by decide)]
def qSn1 (a : Nat → Nat → Int32) (v : Nat → Int32) (n k q : Nat) (mn sm : Nat → Nat) (x : Int32) (N : Nat) : Int32 := maF (seD a n k mn x N).2.1 n 1
theorem qSn1_eq {a' : Nat → Nat → Int32} {v' : Nat → Int32} (he : eqT a v a' v') (n k q : Nat) (mn sm : Nat → Nat) (x : Int32) (N : Nat) : qSn1 a' v' n k q mn sm x N = qSn1 a v n k q mn sm x N := by
  unfold qSn1 seD
  simp only [he.1 2 (by decide), he.1 4 (by decide), he.1 5 (by decide), he.1 6 (by decide), he.1 7 (by decide), he.1 8 (by decide), he.1 10 (by decide), he.1 12 (by decide), he.1 15 (by decide), he.1 16 (by decide), he.2 0 (by decide), he.2 4 (by decide), he.2 5 (by decide), he.2 6 (by decide), he.2 11 (by decide), he.2 12 (by decide), he.2 13 (by decide)]
def qC0 (a : Nat → Nat → Int32) (v : Nat → Int32) (n k q : Nat) (mn sm : Nat → Nat)  : Int32 := v 4
theorem qC0_eq {a' : Nat → Nat → Int32} {v' : Nat → Int32} (he : eqT a v a' v') (n k q : Nat) (mn sm : Nat → Nat)  : qC0 a' v' n k q mn sm  = qC0 a v n k q mn sm  := by
  unfold qC0 
  simp only [he.1 2 (by decide), he.1 4 (by decide), he.1 5 (by decide), he.1 6 (by decide), he.1 7 (by decide), he.1 8 (by decide), he.1 10 (by decide), he.1 12 (by decide), he.1 15 (by decide), he.1 16 (by decide), he.2 0 (by decide), he.2 4 (by decide), he.2 5 (by decide), he.2 6 (by decide), he.2 11 (by decide), he.2 12 (by decide), he.2 13 (by decide)]
def qC1 (a : Nat → Nat → Int32) (v : Nat → Int32) (n k q : Nat) (mn sm : Nat → Nat)  : Int32 := v 11 + v 12 + v 13
theorem qC1_eq {a' : Nat → Nat → Int32} {v' : Nat → Int32} (he : eqT a v a' v') (n k q : Nat) (mn sm : Nat → Nat)  : qC1 a' v' n k q mn sm  = qC1 a v n k q mn sm  := by
  unfold qC1 
  simp only [he.1 2 (by decide), he.1 4 (by decide), he.1 5 (by decide), he.1 6 (by decide), he.1 7 (by decide), he.1 8 (by decide), he.1 10 (by decide), he.1 12 (by decide), he.1 15 (by decide), he.1 16 (by decide), he.2 0 (by decide), he.2 4 (by decide), he.2 5 (by decide), he.2 6 (by decide), he.2 11 (by decide), he.2 12 (by decide), he.2 13 (by decide)]
def qC2 (a : Nat → Nat → Int32) (v : Nat → Int32) (n k q : Nat) (mn sm : Nat → Nat)  : Int32 := v 5
theorem qC2_eq {a' : Nat → Nat → Int32} {v' : Nat → Int32} (he : eqT a v a' v') (n k q : Nat) (mn sm : Nat → Nat)  : qC2 a' v' n k q mn sm  = qC2 a v n k q mn sm  := by
  unfold qC2 
  simp only [he.1 2 (by decide), he.1 4 (by decide), he.1 5 (by decide), he.1 6 (by decide), he.1 7 (by decide), he.1 8 (by decide), he.1 10 (by decide), he.1 12 (by decide), he.1 15 (by decide), he.1 16 (by decide), he.2 0 (by decide), he.2 4 (by decide), he.2 5 (by decide), he.2 6 (by decide), he.2 11 (by decide), he.2 12 (by decide), he.2 13 (by decide)]
def qC3 (a : Nat → Nat → Int32) (v : Nat → Int32) (n k q : Nat) (mn sm : Nat → Nat)  : Int32 := bcF (obF (cDr a mn k n).1 n)
theorem qC3_eq {a' : Nat → Nat → Int32} {v' : Nat → Int32} (he : eqT a v a' v') (n k q : Nat) (mn sm : Nat → Nat)  : qC3 a' v' n k q mn sm  = qC3 a v n k q mn sm  := by
  unfold qC3 cDr
  simp only [he.1 2 (by decide), he.1 4 (by decide), he.1 5 (by decide), he.1 6 (by decide), he.1 7 (by decide), he.1 8 (by decide), he.1 10 (by decide), he.1 12 (by decide), he.1 15 (by decide), he.1 16 (by decide), he.2 0 (by decide), he.2 4 (by decide), he.2 5 (by decide), he.2 6 (by decide), he.2 11 (by decide), he.2 12 (by decide), he.2 13 (by decide)]
def qC4 (a : Nat → Nat → Int32) (v : Nat → Int32) (n k q : Nat) (mn sm : Nat → Nat)  : Int32 := maF (cDr a mn k n).2.1 n 1
theorem qC4_eq {a' : Nat → Nat → Int32} {v' : Nat → Int32} (he : eqT a v a' v') (n k q : Nat) (mn sm : Nat → Nat)  : qC4 a' v' n k q mn sm  = qC4 a v n k q mn sm  := by
  unfold qC4 cDr
  simp only [he.1 2 (by decide), he.1 4 (by decide), he.1 5 (by decide), he.1 6 (by decide), he.1 7 (by decide), he.1 8 (by decide), he.1 10 (by decide), he.1 12 (by decide), he.1 15 (by decide), he.1 16 (by decide), he.2 0 (by decide), he.2 4 (by decide), he.2 5 (by decide), he.2 6 (by decide), he.2 11 (by decide), he.2 12 (by decide), he.2 13 (by decide)]
def qC5 (a : Nat → Nat → Int32) (v : Nat → Int32) (n k q : Nat) (mn sm : Nat → Nat)  : Int32 := maF (cDr a mn k n).2.1 n 2
theorem qC5_eq {a' : Nat → Nat → Int32} {v' : Nat → Int32} (he : eqT a v a' v') (n k q : Nat) (mn sm : Nat → Nat)  : qC5 a' v' n k q mn sm  = qC5 a v n k q mn sm  := by
  unfold qC5 cDr
  simp only [he.1 2 (by decide), he.1 4 (by decide), he.1 5 (by decide), he.1 6 (by decide), he.1 7 (by decide), he.1 8 (by decide), he.1 10 (by decide), he.1 12 (by decide), he.1 15 (by decide), he.1 16 (by decide), he.2 0 (by decide), he.2 4 (by decide), he.2 5 (by decide), he.2 6 (by decide), he.2 11 (by decide), he.2 12 (by decide), he.2 13 (by decide)]
def qC6 (a : Nat → Nat → Int32) (v : Nat → Int32) (n k q : Nat) (mn sm : Nat → Nat)  : Int32 := tog (cW a mn k) 23
theorem qC6_eq {a' : Nat → Nat → Int32} {v' : Nat → Int32} (he : eqT a v a' v') (n k q : Nat) (mn sm : Nat → Nat)  : qC6 a' v' n k q mn sm  = qC6 a v n k q mn sm  := by
  unfold qC6 cW
  simp only [he.1 2 (by decide), he.1 4 (by decide), he.1 5 (by decide), he.1 6 (by decide), he.1 7 (by decide), he.1 8 (by decide), he.1 10 (by decide), he.1 12 (by decide), he.1 15 (by decide), he.1 16 (by decide), he.2 0 (by decide), he.2 4 (by decide), he.2 5 (by decide), he.2 6 (by decide), he.2 11 (by decide), he.2 12 (by decide), he.2 13 (by decide)]
def qC7 (a : Nat → Nat → Int32) (v : Nat → Int32) (n k q : Nat) (mn sm : Nat → Nat)  : Int32 := v 6
theorem qC7_eq {a' : Nat → Nat → Int32} {v' : Nat → Int32} (he : eqT a v a' v') (n k q : Nat) (mn sm : Nat → Nat)  : qC7 a' v' n k q mn sm  = qC7 a v n k q mn sm  := by
  unfold qC7 
  simp only [he.1 2 (by decide), he.1 4 (by decide), he.1 5 (by decide), he.1 6 (by decide), he.1 7 (by decide), he.1 8 (by decide), he.1 10 (by decide), he.1 12 (by decide), he.1 15 (by decide), he.1 16 (by decide), he.2 0 (by decide), he.2 4 (by decide), he.2 5 (by decide), he.2 6 (by decide), he.2 11 (by decide), he.2 12 (by decide), he.2 13 (by decide)]
def qC8 (a : Nat → Nat → Int32) (v : Nat → Int32) (n k q : Nat) (mn sm : Nat → Nat)  : Int32 := v 0
theorem qC8_eq {a' : Nat → Nat → Int32} {v' : Nat → Int32} (he : eqT a v a' v') (n k q : Nat) (mn sm : Nat → Nat)  : qC8 a' v' n k q mn sm  = qC8 a v n k q mn sm  := by
  unfold qC8 
  simp only [he.1 2 (by decide), he.1 4 (by decide), he.1 5 (by decide), he.1 6 (by decide), he.1 7 (by decide), he.1 8 (by decide), he.1 10 (by decide), he.1 12 (by decide), he.1 15 (by decide), he.1 16 (by decide), he.2 0 (by decide), he.2 4 (by decide), he.2 5 (by decide), he.2 6 (by decide), he.2 11 (by decide), he.2 12 (by decide), he.2 13 (by decide)]
def mSpan (a : Nat → Nat → Int32) (v : Nat → Int32) (n k q : Nat) (mn sm : Nat → Nat) (h : Int64) (s : Nat) : Int64 := mx (mx (mx (mx (mx (mx (mx (h) (qS0 a v n k q mn sm s)) (qS1 a v n k q mn sm s)) (qFl0 a v n k q mn sm 7 s)) (qFl1 a v n k q mn sm 7 s)) (qFl0 a v n k q mn sm 18 s)) (qFl1 a v n k q mn sm 18 s)) (qGr a v n k q mn sm s)
theorem r_mixSpan {n k q : Nat} {mn sm : Nat → Nat} (hW : WfX a v n k q mn sm) (hS : SetX a v mn k n) (h : Int64) {s : Nat} (hs : s < 16) : AXt (iExt L xs) 4 mX7_mixSpan [(0, .ref 0), (1, .long h), (3, .int (nI s))] a v t r mn k n (some (.long (mSpan a v n k q mn sm h s))) := by
  obtain ⟨⟨hn, hv4⟩, -⟩ := id hW
  have he0 : eqT a v a v := eqT.rf
  have hW0 := hW
  have hS0 := hS
  have hr0 := r_span0 (E := iExt L xs) (a := a) (v := v) (t := t) (r := r) hs
  obtain ⟨y0, hy0⟩ : ∃ y, y = qS0 a v n k q mn sm s := ⟨_, rfl⟩
  rw [show a 4 s = y0 from hy0.trans (qS0_eq he0 n k q mn sm s).symm |>.symm] at hr0
  have hr1 := r_span1 (E := iExt L xs) (a := a) (v := v) (t := t) (r := r) hs
  obtain ⟨y1, hy1⟩ : ∃ y, y = qS1 a v n k q mn sm s := ⟨_, rfl⟩
  rw [show a 5 s = y1 from hy1.trans (qS1_eq he0 n k q mn sm s).symm |>.symm] at hr1
  obtain ⟨a1, v1, t1, hr2, hd1, hS1⟩ := (r_flume0 (E := iExt L xs) (t := t) (r := r) hW0 hS0 (m := 7) (by decide) hs).toT
  obtain ⟨y2, hy2⟩ : ∃ y, y = qFl0 a v n k q mn sm 7 s := ⟨_, rfl⟩
  rw [show cW a mn k (7 * 16 + s) = y2 from hy2.trans (qFl0_eq he0 n k q mn sm 7 s).symm |>.symm] at hr2
  have he1 := he0.trans hd1
  have hW1 := hW.moved he1
  obtain ⟨a2, v2, t2, hr3, hd2, hS2⟩ := (r_flume1 (E := iExt L xs) (t := t1) (r := r) hW1 hS1 (m := 7) (by decide) hs).toT
  obtain ⟨y3, hy3⟩ : ∃ y, y = qFl1 a v n k q mn sm 7 s := ⟨_, rfl⟩
  rw [show liF (cDr a1 mn k n).1 (a1 8) 7 (nI s) 0 n = y3 from hy3.trans (qFl1_eq he1 n k q mn sm 7 s).symm |>.symm] at hr3
  have he2 := he1.trans hd2
  have hW2 := hW.moved he2
  obtain ⟨a3, v3, t3, hr4, hd3, hS3⟩ := (r_flume0 (E := iExt L xs) (t := t2) (r := r) hW2 hS2 (m := 18) (by decide) hs).toT
  obtain ⟨y4, hy4⟩ : ∃ y, y = qFl0 a v n k q mn sm 18 s := ⟨_, rfl⟩
  rw [show cW a2 mn k (18 * 16 + s) = y4 from hy4.trans (qFl0_eq he2 n k q mn sm 18 s).symm |>.symm] at hr4
  have he3 := he2.trans hd3
  have hW3 := hW.moved he3
  obtain ⟨a4, v4, t4, hr5, hd4, hS4⟩ := (r_flume1 (E := iExt L xs) (t := t3) (r := r) hW3 hS3 (m := 18) (by decide) hs).toT
  obtain ⟨y5, hy5⟩ : ∃ y, y = qFl1 a v n k q mn sm 18 s := ⟨_, rfl⟩
  rw [show liF (cDr a3 mn k n).1 (a3 8) 18 (nI s) 0 n = y5 from hy5.trans (qFl1_eq he3 n k q mn sm 18 s).symm |>.symm] at hr5
  have he4 := he3.trans hd4
  have hW4 := hW.moved he4
  obtain ⟨a5, v5, t5, hr6, hd5, hS5⟩ := (r_grade (E := iExt L xs) (t := t4) (r := r) hW4 hS4 hs).toT
  obtain ⟨y6, hy6⟩ : ∃ y, y = qGr a v n k q mn sm s := ⟨_, rfl⟩
  rw [show grF a4 n k q mn sm s = y6 from hy6.trans (qGr_eq he4 n k q mn sm s).symm |>.symm] at hr6
  have he5 := he4.trans hd5
  have hW5 := hW.moved he5
  refine ⟨a5, v5, t5, ?_, he5, hS5⟩
  rw [show mSpan a v n k q mn sm h s = mx (mx (mx (mx (mx (mx (mx (h) y0) y1) y2) y3) y4) y5) y6 by unfold mSpan; rw [hy0, hy1, hy2, hy3, hy4, hy5, hy6]]
  repeat refine Rn.step rfl ?_
  refine Rn.calli rfl rfl rfl (by decide) hr0 (fun z0 f0 => ?_)
  subst f0
  repeat refine Rn.step rfl ?_
  refine Rn.calli rfl rfl rfl (by decide) hr1 (fun z1 f1 => ?_)
  subst f1
  repeat refine Rn.step rfl ?_
  refine Rn.calli rfl rfl rfl (by decide) hr2 (fun z2 f2 => ?_)
  subst f2
  repeat refine Rn.step rfl ?_
  refine Rn.calli rfl rfl rfl (by decide) hr3 (fun z3 f3 => ?_)
  subst f3
  repeat refine Rn.step rfl ?_
  refine Rn.calli rfl rfl rfl (by decide) hr4 (fun z4 f4 => ?_)
  subst f4
  repeat refine Rn.step rfl ?_
  refine Rn.calli rfl rfl rfl (by decide) hr5 (fun z5 f5 => ?_)
  subst f5
  repeat refine Rn.step rfl ?_
  refine Rn.calli rfl rfl rfl (by decide) hr6 (fun z6 f6 => ?_)
  subst f6
  repeat refine Rn.step rfl ?_
  exact Rn.ret rfl
def mLogM (a : Nat → Nat → Int32) (v : Nat → Int32) (n k q : Nat) (mn sm : Nat → Nat) (h : Int64) (l : Nat) : Int64 := mx (mx (mx (mx (mx (mx (mx (mx (mx (mx (mx (mx (mx (mx (h) (qL0 a v n k q mn sm l)) (qL1 a v n k q mn sm l)) (qL2 a v n k q mn sm l)) (qAt0 a v n k q mn sm 0 l)) (qAt1 a v n k q mn sm 0 l)) (qAt0 a v n k q mn sm 6 l)) (qAt1 a v n k q mn sm 6 l)) (qAt0 a v n k q mn sm 13 l)) (qAt1 a v n k q mn sm 13 l)) (qAt0 a v n k q mn sm 23 l)) (qAt1 a v n k q mn sm 23 l)) (qOu0 a v n k q mn sm l)) (qOu1 a v n k q mn sm l)) (qOu2 a v n k q mn sm l)
theorem r_mixLogM {n k q : Nat} {mn sm : Nat → Nat} (hW : WfX a v n k q mn sm) (hS : SetX a v mn k n) (h : Int64) {l : Nat} (hl : l < n) : AXt (iExt L xs) 4 mX7_mixLogMinutes [(0, .ref 0), (1, .long h), (3, .int (nI l))] a v t r mn k n (some (.long (mLogM a v n k q mn sm h l))) := by
  obtain ⟨⟨hn, hv4⟩, -⟩ := id hW
  have he0 : eqT a v a v := eqT.rf
  have hW0 := hW
  have hS0 := hS
  have hr0 := r_log0 (E := iExt L xs) (a := a) (v := v) (t := t) (r := r) hn ((he0.2 4 (by decide)).trans hv4) hl
  obtain ⟨y0, hy0⟩ : ∃ y, y = qL0 a v n k q mn sm l := ⟨_, rfl⟩
  rw [show a 6 l = y0 from hy0.trans (qL0_eq he0 n k q mn sm l).symm |>.symm] at hr0
  have hr1 := r_log1 (E := iExt L xs) (a := a) (v := v) (t := t) (r := r) hn ((he0.2 4 (by decide)).trans hv4) hl
  obtain ⟨y1, hy1⟩ : ∃ y, y = qL1 a v n k q mn sm l := ⟨_, rfl⟩
  rw [show a 7 l = y1 from hy1.trans (qL1_eq he0 n k q mn sm l).symm |>.symm] at hr1
  have hr2 := r_log2 (E := iExt L xs) (a := a) (v := v) (t := t) (r := r) hn ((he0.2 4 (by decide)).trans hv4) hl
  obtain ⟨y2, hy2⟩ : ∃ y, y = qL2 a v n k q mn sm l := ⟨_, rfl⟩
  rw [show a 8 l = y2 from hy2.trans (qL2_eq he0 n k q mn sm l).symm |>.symm] at hr2
  obtain ⟨a1, v1, t1, hr3, hd1, hS1⟩ := (r_at0 (E := iExt L xs) (t := t) (r := r) hW0 hS0 (m := 0) (by decide) hl).toT
  obtain ⟨y3, hy3⟩ : ∃ y, y = qAt0 a v n k q mn sm 0 l := ⟨_, rfl⟩
  rw [show (cDr a mn k n).1 (0 * 8 + l) = y3 from hy3.trans (qAt0_eq he0 n k q mn sm 0 l).symm |>.symm] at hr3
  have he1 := he0.trans hd1
  have hW1 := hW.moved he1
  obtain ⟨a2, v2, t2, hr4, hd2, hS2⟩ := (r_at1 (E := iExt L xs) (t := t1) (r := r) hW1 hS1 (m := 0) (by decide) hl).toT
  obtain ⟨y4, hy4⟩ : ∃ y, y = qAt1 a v n k q mn sm 0 l := ⟨_, rfl⟩
  rw [show (cDr a1 mn k n).2.1 (0 * 8 + l) = y4 from hy4.trans (qAt1_eq he1 n k q mn sm 0 l).symm |>.symm] at hr4
  have he2 := he1.trans hd2
  have hW2 := hW.moved he2
  obtain ⟨a3, v3, t3, hr5, hd3, hS3⟩ := (r_at0 (E := iExt L xs) (t := t2) (r := r) hW2 hS2 (m := 6) (by decide) hl).toT
  obtain ⟨y5, hy5⟩ : ∃ y, y = qAt0 a v n k q mn sm 6 l := ⟨_, rfl⟩
  rw [show (cDr a2 mn k n).1 (6 * 8 + l) = y5 from hy5.trans (qAt0_eq he2 n k q mn sm 6 l).symm |>.symm] at hr5
  have he3 := he2.trans hd3
  have hW3 := hW.moved he3
  obtain ⟨a4, v4, t4, hr6, hd4, hS4⟩ := (r_at1 (E := iExt L xs) (t := t3) (r := r) hW3 hS3 (m := 6) (by decide) hl).toT
  obtain ⟨y6, hy6⟩ : ∃ y, y = qAt1 a v n k q mn sm 6 l := ⟨_, rfl⟩
  rw [show (cDr a3 mn k n).2.1 (6 * 8 + l) = y6 from hy6.trans (qAt1_eq he3 n k q mn sm 6 l).symm |>.symm] at hr6
  have he4 := he3.trans hd4
  have hW4 := hW.moved he4
  obtain ⟨a5, v5, t5, hr7, hd5, hS5⟩ := (r_at0 (E := iExt L xs) (t := t4) (r := r) hW4 hS4 (m := 13) (by decide) hl).toT
  obtain ⟨y7, hy7⟩ : ∃ y, y = qAt0 a v n k q mn sm 13 l := ⟨_, rfl⟩
  rw [show (cDr a4 mn k n).1 (13 * 8 + l) = y7 from hy7.trans (qAt0_eq he4 n k q mn sm 13 l).symm |>.symm] at hr7
  have he5 := he4.trans hd5
  have hW5 := hW.moved he5
  obtain ⟨a6, v6, t6, hr8, hd6, hS6⟩ := (r_at1 (E := iExt L xs) (t := t5) (r := r) hW5 hS5 (m := 13) (by decide) hl).toT
  obtain ⟨y8, hy8⟩ : ∃ y, y = qAt1 a v n k q mn sm 13 l := ⟨_, rfl⟩
  rw [show (cDr a5 mn k n).2.1 (13 * 8 + l) = y8 from hy8.trans (qAt1_eq he5 n k q mn sm 13 l).symm |>.symm] at hr8
  have he6 := he5.trans hd6
  have hW6 := hW.moved he6
  obtain ⟨a7, v7, t7, hr9, hd7, hS7⟩ := (r_at0 (E := iExt L xs) (t := t6) (r := r) hW6 hS6 (m := 23) (by decide) hl).toT
  obtain ⟨y9, hy9⟩ : ∃ y, y = qAt0 a v n k q mn sm 23 l := ⟨_, rfl⟩
  rw [show (cDr a6 mn k n).1 (23 * 8 + l) = y9 from hy9.trans (qAt0_eq he6 n k q mn sm 23 l).symm |>.symm] at hr9
  have he7 := he6.trans hd7
  have hW7 := hW.moved he7
  obtain ⟨a8, v8, t8, hr10, hd8, hS8⟩ := (r_at1 (E := iExt L xs) (t := t7) (r := r) hW7 hS7 (m := 23) (by decide) hl).toT
  obtain ⟨y10, hy10⟩ : ∃ y, y = qAt1 a v n k q mn sm 23 l := ⟨_, rfl⟩
  rw [show (cDr a7 mn k n).2.1 (23 * 8 + l) = y10 from hy10.trans (qAt1_eq he7 n k q mn sm 23 l).symm |>.symm] at hr10
  have he8 := he7.trans hd8
  have hW8 := hW.moved he8
  obtain ⟨a9, v9, t9, hr11, hd9, hS9⟩ := (r_out0 (E := iExt L xs) (t := t8) (r := r) hW8 hS8 hl).toT
  obtain ⟨y11, hy11⟩ : ∃ y, y = qOu0 a v n k q mn sm l := ⟨_, rfl⟩
  rw [show moF (cDr a8 mn k n).1 l 0 24 = y11 from hy11.trans (qOu0_eq he8 n k q mn sm l).symm |>.symm] at hr11
  have he9 := he8.trans hd9
  have hW9 := hW.moved he9
  obtain ⟨a10, v10, t10, hr12, hd10, hS10⟩ := (r_out1 (E := iExt L xs) (t := t9) (r := r) hW9 hS9 hl).toT
  obtain ⟨y12, hy12⟩ : ∃ y, y = qOu1 a v n k q mn sm l := ⟨_, rfl⟩
  rw [show miF (cDr a9 mn k n).2.1 l 1 = y12 from hy12.trans (qOu1_eq he9 n k q mn sm l).symm |>.symm] at hr12
  have he10 := he9.trans hd10
  have hW10 := hW.moved he10
  obtain ⟨a11, v11, t11, hr13, hd11, hS11⟩ := (r_out2 (E := iExt L xs) (t := t10) (r := r) hW10 hS10 hl).toT
  obtain ⟨y13, hy13⟩ : ∃ y, y = qOu2 a v n k q mn sm l := ⟨_, rfl⟩
  rw [show miF (cDr a10 mn k n).2.1 l 2 = y13 from hy13.trans (qOu2_eq he10 n k q mn sm l).symm |>.symm] at hr13
  have he11 := he10.trans hd11
  have hW11 := hW.moved he11
  refine ⟨a11, v11, t11, ?_, he11, hS11⟩
  rw [show mLogM a v n k q mn sm h l = mx (mx (mx (mx (mx (mx (mx (mx (mx (mx (mx (mx (mx (mx (h) y0) y1) y2) y3) y4) y5) y6) y7) y8) y9) y10) y11) y12) y13 by unfold mLogM; rw [hy0, hy1, hy2, hy3, hy4, hy5, hy6, hy7, hy8, hy9, hy10, hy11, hy12, hy13]]
  repeat refine Rn.step rfl ?_
  refine Rn.calli rfl rfl rfl (by decide) hr0 (fun z0 f0 => ?_)
  subst f0
  repeat refine Rn.step rfl ?_
  refine Rn.calli rfl rfl rfl (by decide) hr1 (fun z1 f1 => ?_)
  subst f1
  repeat refine Rn.step rfl ?_
  refine Rn.calli rfl rfl rfl (by decide) hr2 (fun z2 f2 => ?_)
  subst f2
  repeat refine Rn.step rfl ?_
  refine Rn.calli rfl rfl rfl (by decide) hr3 (fun z3 f3 => ?_)
  subst f3
  repeat refine Rn.step rfl ?_
  refine Rn.calli rfl rfl rfl (by decide) hr4 (fun z4 f4 => ?_)
  subst f4
  repeat refine Rn.step rfl ?_
  refine Rn.calli rfl rfl rfl (by decide) hr5 (fun z5 f5 => ?_)
  subst f5
  repeat refine Rn.step rfl ?_
  refine Rn.calli rfl rfl rfl (by decide) hr6 (fun z6 f6 => ?_)
  subst f6
  repeat refine Rn.step rfl ?_
  refine Rn.calli rfl rfl rfl (by decide) hr7 (fun z7 f7 => ?_)
  subst f7
  repeat refine Rn.step rfl ?_
  refine Rn.calli rfl rfl rfl (by decide) hr8 (fun z8 f8 => ?_)
  subst f8
  repeat refine Rn.step rfl ?_
  refine Rn.calli rfl rfl rfl (by decide) hr9 (fun z9 f9 => ?_)
  subst f9
  repeat refine Rn.step rfl ?_
  refine Rn.calli rfl rfl rfl (by decide) hr10 (fun z10 f10 => ?_)
  subst f10
  repeat refine Rn.step rfl ?_
  refine Rn.calli rfl rfl rfl (by decide) hr11 (fun z11 f11 => ?_)
  subst f11
  repeat refine Rn.step rfl ?_
  refine Rn.calli rfl rfl rfl (by decide) hr12 (fun z12 f12 => ?_)
  subst f12
  repeat refine Rn.step rfl ?_
  refine Rn.calli rfl rfl rfl (by decide) hr13 (fun z13 f13 => ?_)
  subst f13
  repeat refine Rn.step rfl ?_
  exact Rn.ret rfl
def mLogP (a : Nat → Nat → Int32) (v : Nat → Int32) (n k q : Nat) (mn sm : Nat → Nat) (h : Int64) (l : Nat) : Int64 := (31 * (31 * mx (mx (mx (mx (h) (qSe0 a v n k q mn sm l)) (qSe1 a v n k q mn sm l)) (qDr a v n k q mn sm l)) (qAs a v n k q mn sm l) + (qCh0 a v n k q mn sm 5 l)) + (qCh1 a v n k q mn sm 5 l))
theorem r_mixLogP {n k q : Nat} {mn sm : Nat → Nat} (hW : WfX a v n k q mn sm) (hS : SetX a v mn k n) (h : Int64) {l : Nat} (hl : l < n) : AXt (iExt L xs) 6 mX7_mixLogPlans [(0, .ref 0), (1, .long h), (3, .int (nI l))] a v t r mn k n (some (.long (mLogP a v n k q mn sm h l))) := by
  obtain ⟨⟨hn, hv4⟩, -⟩ := id hW
  have he0 : eqT a v a v := eqT.rf
  have hW0 := hW
  have hS0 := hS
  obtain ⟨a1, v1, t1, hr0, hd1, hS1⟩ := (r_send0 (E := iExt L xs) (t := t) (r := r) hW0 hS0 hl).toT
  obtain ⟨y0, hy0⟩ : ∃ y, y = qSe0 a v n k q mn sm l := ⟨_, rfl⟩
  rw [show (sdF (a 10) (a 12) mn k n (a 4) (a 7) (a 8) (a 6) (cW a mn k) l).1 = y0 from hy0.trans (qSe0_eq he0 n k q mn sm l).symm |>.symm] at hr0
  have he1 := he0.trans hd1
  have hW1 := hW.moved he1
  obtain ⟨a2, v2, t2, hr1, hd2, hS2⟩ := (r_send1 (E := iExt L xs) (t := t1) (r := r) hW1 hS1 hl).toT
  obtain ⟨y1, hy1⟩ : ∃ y, y = qSe1 a v n k q mn sm l := ⟨_, rfl⟩
  rw [show (sdF (a1 10) (a1 12) mn k n (a1 4) (a1 7) (a1 8) (a1 6) (cW a1 mn k) l).2 = y1 from hy1.trans (qSe1_eq he1 n k q mn sm l).symm |>.symm] at hr1
  have he2 := he1.trans hd2
  have hW2 := hW.moved he2
  obtain ⟨a3, v3, t3, hr2, hd3, hS3⟩ := r_draughts (E := iExt L xs) (t := t2) (r := r) hW2 hS2 hl
  obtain ⟨y2, hy2⟩ : ∃ y, y = qDr a v n k q mn sm l := ⟨_, rfl⟩
  rw [show dgB a2 n k q mn sm l 9 = y2 from hy2.trans (qDr_eq he2 n k q mn sm l).symm |>.symm] at hr2
  have he3 := he2.trans hd3
  have hW3 := hW.moved he3
  obtain ⟨a4, v4, t4, hr3, hd4, hS4⟩ := r_ask (E := iExt L xs) (t := t3) (r := r) hW3 hS3 hl
  obtain ⟨y3, hy3⟩ : ∃ y, y = qAs a v n k q mn sm l := ⟨_, rfl⟩
  rw [show asF (dgB a3 n k q mn sm l 9) (dgT a3 n k mn l) = y3 from hy3.trans (qAs_eq he3 n k q mn sm l).symm |>.symm] at hr3
  have he4 := he3.trans hd4
  have hW4 := hW.moved he4
  obtain ⟨a5, v5, t5, hr4, hd5, hS5⟩ := (r_chance0 (E := iExt L xs) (t := t4) (r := r) hW4 hS4 (c := 5) (by decide) hl).toT
  obtain ⟨y4, hy4⟩ : ∃ y, y = qCh0 a v n k q mn sm 5 l := ⟨_, rfl⟩
  rw [show (chF k (sxF a4 mn k n (nI 5) l (2 ^ k))).1 = y4 from hy4.trans (qCh0_eq he4 n k q mn sm 5 l).symm |>.symm] at hr4
  have he5 := he4.trans hd5
  have hW5 := hW.moved he5
  obtain ⟨a6, v6, t6, hr5, hd6, hS6⟩ := (r_chance1 (E := iExt L xs) (t := t5) (r := r) hW5 hS5 (c := 5) (by decide) hl).toT
  obtain ⟨y5, hy5⟩ : ∃ y, y = qCh1 a v n k q mn sm 5 l := ⟨_, rfl⟩
  rw [show (chF k (sxF a5 mn k n (nI 5) l (2 ^ k))).2 = y5 from hy5.trans (qCh1_eq he5 n k q mn sm 5 l).symm |>.symm] at hr5
  have he6 := he5.trans hd6
  have hW6 := hW.moved he6
  refine ⟨a6, v6, t6, ?_, he6, hS6⟩
  rw [show mLogP a v n k q mn sm h l = (31 * (31 * mx (mx (mx (mx (h) y0) y1) y2) y3 + y4) + y5) by unfold mLogP; rw [hy0, hy1, hy2, hy3, hy4, hy5]]
  repeat refine Rn.step rfl ?_
  refine Rn.calli rfl rfl rfl (by decide) hr0 (fun z0 f0 => ?_)
  subst f0
  repeat refine Rn.step rfl ?_
  refine Rn.calli rfl rfl rfl (by decide) hr1 (fun z1 f1 => ?_)
  subst f1
  repeat refine Rn.step rfl ?_
  refine Rn.calli rfl rfl rfl (by decide) hr2 (fun z2 f2 => ?_)
  subst f2
  repeat refine Rn.step rfl ?_
  refine Rn.calli rfl rfl rfl (by decide) hr3 (fun z3 f3 => ?_)
  subst f3
  repeat refine Rn.step rfl ?_
  refine Rn.calll rfl rfl rfl (by decide) hr4 (fun z4 f4 => ?_)
  subst f4
  repeat refine Rn.step rfl ?_
  refine Rn.calll rfl rfl rfl (by decide) hr5 (fun z5 f5 => ?_)
  subst f5
  repeat refine Rn.step rfl ?_
  exact Rn.ret rfl
def mWhole (a : Nat → Nat → Int32) (v : Nat → Int32) (n k q : Nat) (mn sm : Nat → Nat) (h : Int64) : Int64 := mx (mx (mx (mx (mx (mx (mx (mx (mx (mx (mx (mx (mx (h) (qJam a v n k q mn sm )) (qLe0 a v n k q mn sm )) (qLe1 a v n k q mn sm )) (qWo a v n k q mn sm )) (qSt0 a v n k q mn sm )) (qSt1 a v n k q mn sm )) (qFi0 a v n k q mn sm )) (qFi1 a v n k q mn sm )) (qSp a v n k q mn sm (-1))) (qSp a v n k q mn sm 0)) (qNe a v n k q mn sm )) (qSn0 a v n k q mn sm 7 11)) (qSn1 a v n k q mn sm 7 11)
theorem r_mixWhole {n k q : Nat} {mn sm : Nat → Nat} (hW : WfX a v n k q mn sm) (hS : SetX a v mn k n) (h : Int64) : AXt (iExt L xs) 6 mX7_mixWhole [(0, .ref 0), (1, .long h)] a v t r mn k n (some (.long (mWhole a v n k q mn sm h))) := by
  obtain ⟨⟨hn, hv4⟩, -⟩ := id hW
  have he0 : eqT a v a v := eqT.rf
  have hW0 := hW
  have hS0 := hS
  obtain ⟨a1, v1, t1, hr0, hd1, hS1⟩ := (r_jam (E := iExt L xs) (t := t) (r := r) hW0 hS0 ).toT
  obtain ⟨y0, hy0⟩ : ∃ y, y = qJam a v n k q mn sm  := ⟨_, rfl⟩
  rw [show jmF (cDr a mn k n).2.1 n 0 24 = y0 from hy0.trans (qJam_eq he0 n k q mn sm ).symm |>.symm] at hr0
  have he1 := he0.trans hd1
  have hW1 := hW.moved he1
  obtain ⟨a2, v2, t2, hr1, hd2, hS2⟩ := (r_left0 (E := iExt L xs) (t := t1) (r := r) hW1 hS1 ).toT
  obtain ⟨y1, hy1⟩ : ∃ y, y = qLe0 a v n k q mn sm  := ⟨_, rfl⟩
  rw [show drF (cW a1 mn k) = y1 from hy1.trans (qLe0_eq he1 n k q mn sm ).symm |>.symm] at hr1
  have he2 := he1.trans hd2
  have hW2 := hW.moved he2
  obtain ⟨a3, v3, t3, hr2, hd3, hS3⟩ := (r_left1 (E := iExt L xs) (t := t2) (r := r) hW2 hS2 ).toT
  obtain ⟨y2, hy2⟩ : ∃ y, y = qLe1 a v n k q mn sm  := ⟨_, rfl⟩
  rw [show evB n &&& (obF (cDr a2 mn k n).1 n ^^^ -1) = y2 from hy2.trans (qLe1_eq he2 n k q mn sm ).symm |>.symm] at hr2
  have he3 := he2.trans hd3
  have hW3 := hW.moved he3
  obtain ⟨a4, v4, t4, hr3, hd4, hS4⟩ := (r_worst (E := iExt L xs) (t := t3) (r := r) hW3 hS3 ).toT
  obtain ⟨y3, hy3⟩ : ∃ y, y = qWo a v n k q mn sm  := ⟨_, rfl⟩
  rw [show (woF (cDr a3 mn k n).2.1 n).1 = y3 from hy3.trans (qWo_eq he3 n k q mn sm ).symm |>.symm] at hr3
  have he4 := he3.trans hd4
  have hW4 := hW.moved he4
  obtain ⟨a5, v5, t5, hr4, hd5, hS5⟩ := (r_steep0 (E := iExt L xs) (t := t4) (r := r) hW4 hS4 ).toT
  obtain ⟨y4, hy4⟩ : ∃ y, y = qSt0 a v n k q mn sm  := ⟨_, rfl⟩
  rw [show (spF (a4 10) (a4 12) mn k n (a4 4) (a4 7) (a4 8) (a4 6) (cW a4 mn k)).1 = y4 from hy4.trans (qSt0_eq he4 n k q mn sm ).symm |>.symm] at hr4
  have he5 := he4.trans hd5
  have hW5 := hW.moved he5
  obtain ⟨a6, v6, t6, hr5, hd6, hS6⟩ := (r_steep1 (E := iExt L xs) (t := t5) (r := r) hW5 hS5 ).toT
  obtain ⟨y5, hy5⟩ : ∃ y, y = qSt1 a v n k q mn sm  := ⟨_, rfl⟩
  rw [show (spF (a5 10) (a5 12) mn k n (a5 4) (a5 7) (a5 8) (a5 6) (cW a5 mn k)).2 = y5 from hy5.trans (qSt1_eq he5 n k q mn sm ).symm |>.symm] at hr5
  have he6 := he5.trans hd6
  have hW6 := hW.moved he6
  obtain ⟨a7, v7, t7, hr6, hd7, hS7⟩ := (r_fill0 (E := iExt L xs) (t := t6) (r := r) hW6 hS6 ).toT
  obtain ⟨y6, hy6⟩ : ∃ y, y = qFi0 a v n k q mn sm  := ⟨_, rfl⟩
  rw [show (flF (a6 10) (a6 12) mn k n (a6 4) (a6 5) (a6 7) (a6 8) (a6 6)).1 = y6 from hy6.trans (qFi0_eq he6 n k q mn sm ).symm |>.symm] at hr6
  have he7 := he6.trans hd7
  have hW7 := hW.moved he7
  obtain ⟨a8, v8, t8, hr7, hd8, hS8⟩ := (r_fill1 (E := iExt L xs) (t := t7) (r := r) hW7 hS7 ).toT
  obtain ⟨y7, hy7⟩ : ∃ y, y = qFi1 a v n k q mn sm  := ⟨_, rfl⟩
  rw [show (flF (a7 10) (a7 12) mn k n (a7 4) (a7 5) (a7 7) (a7 8) (a7 6)).2 = y7 from hy7.trans (qFi1_eq he7 n k q mn sm ).symm |>.symm] at hr7
  have he8 := he7.trans hd8
  have hW8 := hW.moved he8
  obtain ⟨a9, v9, t9, hr8, hd9, hS9⟩ := (r_spare (E := iExt L xs) (t := t8) (r := r) hW8 hS8 (-1) (by decide)).toT
  obtain ⟨y8, hy8⟩ : ∃ y, y = qSp a v n k q mn sm (-1) := ⟨_, rfl⟩
  rw [show sqF (spE (oC a8 mn k n) k (evB n)) (-1) = y8 from hy8.trans (qSp_eq he8 n k q mn sm (-1)).symm |>.symm] at hr8
  have he9 := he8.trans hd9
  have hW9 := hW.moved he9
  obtain ⟨a10, v10, t10, hr9, hd10, hS10⟩ := (r_spare (E := iExt L xs) (t := t9) (r := r) hW9 hS9 0 (by decide)).toT
  obtain ⟨y9, hy9⟩ : ∃ y, y = qSp a v n k q mn sm 0 := ⟨_, rfl⟩
  rw [show sqF (spE (oC a9 mn k n) k (evB n)) 0 = y9 from hy9.trans (qSp_eq he9 n k q mn sm 0).symm |>.symm] at hr9
  have he10 := he9.trans hd10
  have hW10 := hW.moved he10
  obtain ⟨a11, v11, t11, hr10, hd11, hS11⟩ := (r_never (E := iExt L xs) (t := t10) (r := r) hW10 hS10 ).toT
  obtain ⟨y10, hy10⟩ : ∃ y, y = qNe a v n k q mn sm  := ⟨_, rfl⟩
  rw [show neF a10 n k q mn sm = y10 from hy10.trans (qNe_eq he10 n k q mn sm ).symm |>.symm] at hr10
  have he11 := he10.trans hd11
  have hW11 := hW.moved he11
  obtain ⟨a12, v12, t12, hr11, hd12, hS12⟩ := (r_seasons0 (E := iExt L xs) (t := t11) (r := r) hW11 hS11 7 (N := 11) (by decide)).toT
  obtain ⟨y11, hy11⟩ : ∃ y, y = qSn0 a v n k q mn sm 7 11 := ⟨_, rfl⟩
  rw [show bcF (obF (seD a11 n k mn 7 11).1 n) = y11 from hy11.trans (qSn0_eq he11 n k q mn sm 7 11).symm |>.symm] at hr11
  have he12 := he11.trans hd12
  have hW12 := hW.moved he12
  obtain ⟨a13, v13, t13, hr12, hd13, hS13⟩ := (r_seasons1 (E := iExt L xs) (t := t12) (r := r) hW12 hS12 7 (N := 11) (by decide)).toT
  obtain ⟨y12, hy12⟩ : ∃ y, y = qSn1 a v n k q mn sm 7 11 := ⟨_, rfl⟩
  rw [show maF (seD a12 n k mn 7 11).2.1 n 1 = y12 from hy12.trans (qSn1_eq he12 n k q mn sm 7 11).symm |>.symm] at hr12
  have he13 := he12.trans hd13
  have hW13 := hW.moved he13
  refine ⟨a13, v13, t13, ?_, he13, hS13⟩
  rw [show mWhole a v n k q mn sm h = mx (mx (mx (mx (mx (mx (mx (mx (mx (mx (mx (mx (mx (h) y0) y1) y2) y3) y4) y5) y6) y7) y8) y9) y10) y11) y12 by unfold mWhole; rw [hy0, hy1, hy2, hy3, hy4, hy5, hy6, hy7, hy8, hy9, hy10, hy11, hy12]]
  repeat refine Rn.step rfl ?_
  refine Rn.calli rfl rfl rfl (by decide) hr0 (fun z0 f0 => ?_)
  subst f0
  repeat refine Rn.step rfl ?_
  refine Rn.calli rfl rfl rfl (by decide) hr1 (fun z1 f1 => ?_)
  subst f1
  repeat refine Rn.step rfl ?_
  refine Rn.calli rfl rfl rfl (by decide) hr2 (fun z2 f2 => ?_)
  subst f2
  repeat refine Rn.step rfl ?_
  refine Rn.calli rfl rfl rfl (by decide) hr3 (fun z3 f3 => ?_)
  subst f3
  repeat refine Rn.step rfl ?_
  refine Rn.calli rfl rfl rfl (by decide) hr4 (fun z4 f4 => ?_)
  subst f4
  repeat refine Rn.step rfl ?_
  refine Rn.calli rfl rfl rfl (by decide) hr5 (fun z5 f5 => ?_)
  subst f5
  repeat refine Rn.step rfl ?_
  refine Rn.calli rfl rfl rfl (by decide) hr6 (fun z6 f6 => ?_)
  subst f6
  repeat refine Rn.step rfl ?_
  refine Rn.calli rfl rfl rfl (by decide) hr7 (fun z7 f7 => ?_)
  subst f7
  repeat refine Rn.step rfl ?_
  refine Rn.calli rfl rfl rfl (by decide) hr8 (fun z8 f8 => ?_)
  subst f8
  repeat refine Rn.step rfl ?_
  refine Rn.calli rfl rfl rfl (by decide) hr9 (fun z9 f9 => ?_)
  subst f9
  repeat refine Rn.step rfl ?_
  refine Rn.calli rfl rfl rfl (by decide) hr10 (fun z10 f10 => ?_)
  subst f10
  repeat refine Rn.step rfl ?_
  refine Rn.calli rfl rfl rfl (by decide) hr11 (fun z11 f11 => ?_)
  subst f11
  repeat refine Rn.step rfl ?_
  refine Rn.calli rfl rfl rfl (by decide) hr12 (fun z12 f12 => ?_)
  subst f12
  repeat refine Rn.step rfl ?_
  exact Rn.ret rfl
end XJ
