/-! what a record makes of the books, by places -/
def setN (f : Nat → Int32) (p t : Nat) : Nat → Int32 := upd (upd (upd (upd f p (nI t)) (p + 1) 0) (p + 2) 0) (p + 3) 0
def dayP (t : Nat) : Nat := 63 + 4 * (t % 32)
def dayN (f : Nat → Int32) (c : Int32) (t : Nat) : Nat → Int32 :=
  if nI t ≤ f (dayP t) then (if f (dayP t) = nI t then ad (inc f (dayP t + 1)) (dayP t + 2) c.toInt64 else f) else ad (inc (setN f (dayP t) t) (dayP t + 1)) (dayP t + 2) c.toInt64
def depP (d : Nat) : Nat := 15 + 3 * d
def pieceN (f : Nat → Int32) (c : Int32) (d : Nat) : Nat → Int32 := upd (inc (inc (ad (ad (ad f 0 c.toInt64) 2 (-c).toInt64) (depP d + 1) c.toInt64) (depP d)) 8) 14 c
theorem setN_s (f : Nat → Int32) (p t : Nat) : setN f p t p = nI t := by
  unfold setN
  rw [upd_n (by omega), upd_n (by omega), upd_n (by omega), upd_s]
theorem k_placeOfDay {t : Nat} (h : t < 2 ^ 31) : spX0_placeOfDay (nI t) = nI (dayP t) := by
  unfold spX0_placeOfDay dayP
  have e : nI t - nI t / (32 : Int32) * (32 : Int32) = nI (t % 32) := pk_rem (d := 32) h (by decide) (by decide)
  rw [e, show (4 : Int32) = nI 4 from rfl, show (63 : Int32) = nI 63 from rfl, pk_mul, nI_add, Nat.mul_comm]
theorem dayP_lt (t : Nat) : 63 ≤ dayP t ∧ dayP t + 3 < 191 := by
  unfold dayP
  have := Nat.mod_lt t (show 0 < 32 by decide)
  omega
theorem k_setN {f : Nat → Int32} {t p : Nat} (h : p + 3 < 191) : spX0_put (spX0_put (spX0_put (spX0_put f (nI p) (nI t)) (nI p + (1 : Int32)) (0 : Int32)) (nI p + (2 : Int32)) (0 : Int32)) (nI p + (3 : Int32)) (0 : Int32) = setN f p t := by
  rw [show nI p + (1 : Int32) = nI (p + 1) from nI_add p 1, show nI p + (2 : Int32) = nI (p + 2) from nI_add p 2, show nI p + (3 : Int32) = nI (p + 3) from nI_add p 3, k_put (i := p) (by omega), k_put (i := p + 1) (by omega), k_put (i := p + 2) (by omega), k_put (i := p + 3) h]
  rfl
theorem k_addToDay {f : Nat → Int32} {c : Int32} {t : Nat} (h : t < 2 ^ 31) : spX0_addToDay f c (nI t) = dayN f c t := by
  have hp := dayP_lt t
  have e1 : nI (dayP t) + (1 : Int32) = nI (dayP t + 1) := nI_add _ 1
  have e2 : nI (dayP t) + (2 : Int32) = nI (dayP t + 2) := nI_add _ 2
  have hset : ∀ g : Nat → Int32, spX0_addToSum (spX0_addOne g (nI (dayP t) + (1 : Int32))) (nI (dayP t) + (2 : Int32)) c = ad (inc g (dayP t + 1)) (dayP t + 2) c.toInt64 := by
    intro g
    rw [e1, e2, k_addOne (by omega), k_addToSum (by omega)]
  unfold spX0_addToDay dayN
  rw [k_placeOfDay h]
  simp only [k_setN (f := f) (t := t) hp.2, hset]
  rw [k_at (bw := f) (i := dayP t) (by omega), k_at (bw := setN f (dayP t) t) (i := dayP t) (by omega), setN_s, if_pos rfl]
  by_cases c1 : f (dayP t) = (-1 : Int32)
  · rw [if_pos c1, if_neg]
    rw [c1, Int32.le_iff_toInt_le, nI_toInt h]
    have : (-1 : Int32).toInt = -1 := rfl
    omega
  · rw [if_neg c1]
theorem k_addPiece {f : Nat → Int32} {c : Int32} {d : Nat} (h : d < 16) : spX0_addPiece f c (nI d) = pieceN f c d := by
  have hd : spX0_departmentAt (nI d) = nI (depP d) := by
    unfold spX0_departmentAt depP
    rw [show (3 : Int32) = nI 3 from rfl, show (15 : Int32) = nI 15 from rfl, pk_mul, nI_add, Nat.mul_comm]
  have hl : depP d + 2 < 63 := by unfold depP; omega
  have hg : 15 ≤ depP d := by unfold depP; omega
  unfold spX0_addPiece pieceN
  rw [hd, show nI (depP d) + (1 : Int32) = nI (depP d + 1) from nI_add _ 1, show (0 : Int32) = nI 0 from rfl, show (2 : Int32) = nI 2 from rfl, show (8 : Int32) = nI 8 from rfl, show (14 : Int32) = nI 14 from rfl]
  rw [k_addToSum (i := 0) (by decide), k_addToSum (i := 2) (by decide), k_addOne (i := 8) (by decide), k_addOne (i := depP d) (by omega), k_addToSum (i := depP d + 1) (by omega), k_put (i := 14) (by decide)]
  rw [ad_inc (by omega) (by omega), ad_inc (by omega) (by omega), inc_comm (by omega)]
theorem k_act1 {f g : Nat → Int32} {c : Int32} {d t : Nat} (h : BR f g) (hd : d < 16) (ht : t < 2 ^ 31) : BR (dayN (pieceN f c d) c t) (spX5_piece g c (nI d) (nI t)) := by
  have hp := dayP_lt t
  have hl : depP d + 2 < 63 := by unfold depP; omega
  have m2 : ∀ (q : Nat → Int32) (x : Int64), spX5_more q (2 : Int32) x = ad q 2 x := fun q x => k_more (j := 2) (by decide)
  have m4 : ∀ (q : Nat → Int32) (x : Int64), spX5_more q (4 : Int32) x = ad q 4 x := fun q x => k_more (j := 4) (by decide)
  have ed : (17 : Int32) + ((3 : Int32) * nI d) = nI (depP d + 2) := by
    rw [show (3 : Int32) = nI 3 from rfl, show (17 : Int32) = nI 17 from rfl, pk_mul, nI_add]
    unfold depP; congr 1; omega
  have ed1 : nI (depP d + 2) + (1 : Int32) = nI (depP d + 3) := nI_add _ 1
  have md : ∀ (q : Nat → Int32) (x : Int64), spX5_more q (nI (depP d + 3)) x = ad q (depP d + 3) x := fun q x => k_more (by omega)
  have er : nI t - nI t / (32 : Int32) * (32 : Int32) = nI (t % 32) := pk_rem (d := 32) ht (by decide) (by decide)
  have ep : (65 : Int32) + ((4 : Int32) * nI (t % 32)) = nI (dayP t + 2) := by
    rw [show (4 : Int32) = nI 4 from rfl, show (65 : Int32) = nI 65 from rfl, pk_mul, nI_add]
    unfold dayP; congr 1; omega
  have ep1 : nI (dayP t + 2) + (1 : Int32) = nI (dayP t + 3) := nI_add _ 1
  have ep2 : nI (dayP t + 2) + (2 : Int32) = nI (dayP t + 4) := nI_add _ 2
  have ep3 : nI (dayP t + 2) + (3 : Int32) = nI (dayP t + 5) := nI_add _ 3
  have mp : ∀ (q : Nat → Int32) (x : Int64), spX5_more q (nI (dayP t + 4)) x = ad q (dayP t + 4) x := fun q x => k_more (by omega)
  have c10 : Int32.toNatClampNeg (10 : Int32) = 10 := rfl
  have c16 : Int32.toNatClampNeg (16 : Int32) = 16 := rfl
  have cd : Int32.toNatClampNeg (nI (depP d + 2)) = depP d + 2 := nI_clamp (by omega)
  have cp : Int32.toNatClampNeg (nI (dayP t + 2)) = dayP t + 2 := nI_clamp (by omega)
  have cp1 : Int32.toNatClampNeg (nI (dayP t + 3)) = dayP t + 3 := nI_clamp (by omega)
  have cp2 : Int32.toNatClampNeg (nI (dayP t + 4)) = dayP t + 4 := nI_clamp (by omega)
  have cp3 : Int32.toNatClampNeg (nI (dayP t + 5)) = dayP t + 5 := nI_clamp (by omega)
  have hinc : ∀ (q : Nat → Int32) (i : Nat), upd q i (q i + (1 : Int32)) = inc q i := fun _ _ => rfl
  unfold spX5_piece
  simp only [er, ep, ep1, ep2, ep3, ed, ed1, m2, m4, md, mp, c10, c16, cd, cp, cp1, cp2, cp3, hinc]
  have hY : BR (pieceN f c d) (upd (inc (inc (ad (ad (ad g 2 c.toInt64) 4 (-c).toInt64) (depP d + 3) c.toInt64) (depP d + 2)) 10) 16 c) := by
    unfold pieceN
    exact (BR_inc (BR_inc (BR_ad (BR_ad (BR_ad h (i := 0) (by decide) _) (i := 2) (by decide) _) (i := depP d + 1) (by omega) _) (i := depP d) (by omega)) (i := 8) (by decide)).put 14 c
  generalize upd (inc (inc (ad (ad (ad g 2 c.toInt64) 4 (-c).toInt64) (depP d + 3) c.toInt64) (depP d + 2)) 10) 16 c = Y' at hY ⊢
  generalize pieceN f c d = Y at hY ⊢
  have hYp : Y' (dayP t + 2) = Y (dayP t) := hY _ (by omega)
  have hZ : BR (setN Y (dayP t) t) (upd (upd (upd (upd Y' (dayP t + 2) (nI t)) (dayP t + 3) 0) (dayP t + 4) 0) (dayP t + 5) 0) := (((hY.put (dayP t) (nI t)).put (dayP t + 1) 0).put (dayP t + 2) 0).put (dayP t + 3) 0
  have hZp : (upd (upd (upd (upd Y' (dayP t + 2) (nI t)) (dayP t + 3) 0) (dayP t + 4) 0) (dayP t + 5) 0) (dayP t + 2) = nI t := by
    rw [upd_n (by omega), upd_n (by omega), upd_n (by omega), upd_s]
  unfold dayN
  rw [hYp, hZp, if_pos (show nI t = nI t from rfl)]
  by_cases c1 : nI t ≤ Y (dayP t)
  · rw [if_pos c1, if_pos c1]
    by_cases c2 : Y (dayP t) = nI t
    · rw [if_pos c2, if_pos c2]
      exact BR_ad (BR_inc hY (i := dayP t + 1) (by omega)) (i := dayP t + 2) (by omega) _
    · rw [if_neg c2, if_neg c2]
      exact hY
  · rw [if_neg c1, if_neg c1]
    exact BR_ad (BR_inc hZ (i := dayP t + 1) (by omega)) (i := dayP t + 2) (by omega) _
