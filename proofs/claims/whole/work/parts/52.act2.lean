/-- a record that the desk may write: its kind, and a piece's department and day -/
def VK (k b : Int32) : Prop := (k = 1 ∨ k = 2 ∨ k = 3 ∨ k = 4 ∨ k = 5 ∨ k = 6 ∨ k = 7 ∨ k = 8 ∨ k = 9) ∧ (k = 1 → ¬ b < 0)
theorem k_ap1 {f : Nat → Int32} {a : Int32} {q : Nat} (hq : q < 2 ^ 31) : spX0_apply f 1 a (nI q) = dayN (pieceN f a (q % 16)) a (q / 16) := by
  unfold spX0_apply
  rw [if_pos rfl, show nI q - nI q / (16 : Int32) * (16 : Int32) = nI (q % 16) from pk_rem (d := 16) hq (by decide) (by decide), show nI q / (16 : Int32) = nI (q / 16) from pk_div (d := 16) hq (by decide) (by decide), k_addPiece (Nat.mod_lt _ (by decide)), k_addToDay (by omega)]
theorem k_ap2 {f : Nat → Int32} {a b : Int32} : spX0_apply f 2 a b = upd f 14 0 := by
  unfold spX0_apply
  rw [if_neg (by decide), if_pos rfl]
  exact k_put (i := 14) (by decide)
theorem k_ap3z {f : Nat → Int32} {b : Int32} : spX0_apply f 3 0 b = upd (ad (ad f 2 (f 14).toInt64) 6 (f 14).toInt64) 14 0 := by
  unfold spX0_apply
  rw [if_neg (by decide), if_neg (by decide), if_pos rfl]
  unfold spX0_settleFor
  rw [if_pos rfl, show (14 : Int32) = nI 14 from rfl, show (2 : Int32) = nI 2 from rfl, show (6 : Int32) = nI 6 from rfl, k_at (bw := f) (i := 14) (by decide), k_addToSum (i := 2) (by decide), k_at (i := 14) (by decide), ad_n (by decide) (by decide), k_addToSum (i := 6) (by decide), k_put (i := 14) (by decide)]
theorem k_ap3n {f : Nat → Int32} {a b : Int32} (h : ¬ a = 0) : spX0_apply f 3 a b = upd f 14 0 := by
  unfold spX0_apply
  rw [if_neg (by decide), if_neg (by decide), if_pos rfl]
  unfold spX0_settleFor
  rw [if_neg h]
  exact k_put (i := 14) (by decide)
theorem k_ap4 {f : Nat → Int32} {a b : Int32} : spX0_apply f 4 a b = inc (ad (ad f 2 a.toInt64) 4 a.toInt64) 10 := by
  unfold spX0_apply
  rw [if_neg (by decide), if_neg (by decide), if_neg (by decide), if_pos rfl]
  rw [show (2 : Int32) = nI 2 from rfl, show (4 : Int32) = nI 4 from rfl, show (10 : Int32) = nI 10 from rfl, k_addToSum (i := 2) (by decide), k_addToSum (i := 4) (by decide), k_addOne (i := 10) (by decide)]
theorem k_ap5 {f : Nat → Int32} {a b : Int32} : spX0_apply f 5 a b = inc (ad (ad f 2 a.toInt64) 6 a.toInt64) 9 := by
  unfold spX0_apply
  rw [if_neg (by decide), if_neg (by decide), if_neg (by decide), if_neg (by decide), if_pos rfl]
  rw [show (2 : Int32) = nI 2 from rfl, show (6 : Int32) = nI 6 from rfl, show (9 : Int32) = nI 9 from rfl, k_addToSum (i := 2) (by decide), k_addToSum (i := 6) (by decide), k_addOne (i := 9) (by decide)]
theorem k_ap6 {f : Nat → Int32} {a b : Int32} : spX0_apply f 6 a b = upd f 12 a := by
  unfold spX0_apply
  rw [if_neg (by decide), if_neg (by decide), if_neg (by decide), if_neg (by decide), if_neg (by decide), if_pos rfl]
  exact k_put (i := 12) (by decide)
theorem k_ap7 {f : Nat → Int32} {a b : Int32} : spX0_apply f 7 a b = upd f 11 1 := by
  unfold spX0_apply
  rw [if_neg (by decide), if_neg (by decide), if_neg (by decide), if_neg (by decide), if_neg (by decide), if_neg (by decide), if_pos rfl]
  exact k_put (i := 11) (by decide)
theorem k_ap8 {f : Nat → Int32} {a b : Int32} : spX0_apply f 8 a b = upd f 11 0 := by
  unfold spX0_apply
  rw [if_neg (by decide), if_neg (by decide), if_neg (by decide), if_neg (by decide), if_neg (by decide), if_neg (by decide), if_neg (by decide), if_pos rfl]
  exact k_put (i := 11) (by decide)
theorem k_ap9 {f : Nat → Int32} {a b : Int32} : spX0_apply f 9 a b = upd f 13 a := by
  unfold spX0_apply
  rw [if_neg (by decide), if_neg (by decide), if_neg (by decide), if_neg (by decide), if_neg (by decide), if_neg (by decide), if_neg (by decide), if_neg (by decide), if_pos rfl]
  exact k_put (i := 13) (by decide)
theorem k_act {f g : Nat → Int32} {k a b : Int32} (h : BR f g) (hv : VK k b) : BR (spX0_apply f k a b) (spX5_act g k a b) := by
  have m4 : ∀ (q : Nat → Int32) (x : Int64), spX5_more q (4 : Int32) x = ad q 4 x := fun q x => k_more (j := 4) (by decide)
  have m6 : ∀ (q : Nat → Int32) (x : Int64), spX5_more q (6 : Int32) x = ad q 6 x := fun q x => k_more (j := 6) (by decide)
  have m8 : ∀ (q : Nat → Int32) (x : Int64), spX5_more q (8 : Int32) x = ad q 8 x := fun q x => k_more (j := 8) (by decide)
  have c11 : Int32.toNatClampNeg (11 : Int32) = 11 := rfl
  have c12 : Int32.toNatClampNeg (12 : Int32) = 12 := rfl
  have c13 : Int32.toNatClampNeg (13 : Int32) = 13 := rfl
  have c14 : Int32.toNatClampNeg (14 : Int32) = 14 := rfl
  have c15 : Int32.toNatClampNeg (15 : Int32) = 15 := rfl
  have c16 : Int32.toNatClampNeg (16 : Int32) = 16 := rfl
  have hinc : ∀ (q : Nat → Int32) (i : Nat), upd q i (q i + (1 : Int32)) = inc q i := fun _ _ => rfl
  obtain ⟨hk, hb⟩ := hv
  rcases hk with rfl | rfl | rfl | rfl | rfl | rfl | rfl | rfl | rfl
  · obtain ⟨q, hq, rfl⟩ := nI_of (hb rfl)
    rw [k_ap1 hq]
    unfold spX5_act
    rw [if_pos rfl, show nI q - nI q / (16 : Int32) * (16 : Int32) = nI (q % 16) from pk_rem (d := 16) hq (by decide) (by decide), show nI q / (16 : Int32) = nI (q / 16) from pk_div (d := 16) hq (by decide) (by decide)]
    exact k_act1 h (Nat.mod_lt _ (by decide)) (by omega)
  · rw [k_ap2]
    unfold spX5_act
    rw [if_neg (by decide), if_pos rfl, c16]
    exact h.put 14 0
  · unfold spX5_act
    rw [if_neg (by decide), if_neg (by decide), if_pos rfl]
    by_cases ca : a = 0
    · subst ca
      rw [k_ap3z, if_pos rfl, m4, m8, c16, ad_n (by decide) (by decide), show g 16 = f 14 from h 14 (by decide)]
      exact (BR_ad (BR_ad h (i := 2) (by decide) _) (i := 6) (by decide) _).put 14 0
    · rw [k_ap3n ca, if_neg ca, m4, m8, ad_0, ad_0, c16]
      exact h.put 14 0
  · rw [k_ap4]
    unfold spX5_act
    rw [if_neg (by decide), if_neg (by decide), if_neg (by decide), if_pos rfl, m4, m6, c12, hinc]
    exact BR_inc (BR_ad (BR_ad h (i := 2) (by decide) _) (i := 4) (by decide) _) (i := 10) (by decide)
  · rw [k_ap5]
    unfold spX5_act
    rw [if_neg (by decide), if_neg (by decide), if_neg (by decide), if_neg (by decide), if_pos rfl, m4, m8, c11, hinc]
    exact BR_inc (BR_ad (BR_ad h (i := 2) (by decide) _) (i := 6) (by decide) _) (i := 9) (by decide)
  · rw [k_ap6]
    unfold spX5_act
    rw [if_neg (by decide), if_neg (by decide), if_neg (by decide), if_neg (by decide), if_neg (by decide), if_pos rfl, c14]
    exact h.put 12 a
  · rw [k_ap7]
    unfold spX5_act
    rw [if_neg (by decide), if_neg (by decide), if_neg (by decide), if_neg (by decide), if_neg (by decide), if_neg (by decide), if_pos rfl, c13]
    exact h.put 11 1
  · rw [k_ap8]
    unfold spX5_act
    rw [if_neg (by decide), if_neg (by decide), if_neg (by decide), if_neg (by decide), if_neg (by decide), if_neg (by decide), if_neg (by decide), if_pos rfl, c13]
    exact h.put 11 0
  · rw [k_ap9]
    unfold spX5_act
    rw [if_neg (by decide), if_neg (by decide), if_neg (by decide), if_neg (by decide), if_neg (by decide), if_neg (by decide), if_neg (by decide), if_neg (by decide), c15]
    exact h.put 13 a
/-- behind the books nothing is written -/
def ZB (f : Nat → Int32) : Prop := ∀ i : Nat, 191 ≤ i → f i = 0
theorem ZB.put {f : Nat → Int32} (h : ZB f) {i : Nat} {v : Int32} (hi : i < 191) : ZB (upd f i v) := fun j hj => by rw [upd_n (by omega)]; exact h j hj
theorem ZB_ad {f : Nat → Int32} (h : ZB f) {i : Nat} {d : Int64} (hi : i + 1 < 191) : ZB (ad f i d) := by
  unfold ad; exact (h.put (by omega)).put hi
theorem ZB_inc {f : Nat → Int32} (h : ZB f) {i : Nat} (hi : i < 191) : ZB (inc f i) := by
  unfold inc; exact h.put hi
theorem ZB_apply {f : Nat → Int32} {k a b : Int32} (h : ZB f) (hv : VK k b) : ZB (spX0_apply f k a b) := by
  obtain ⟨hk, hb⟩ := hv
  rcases hk with rfl | rfl | rfl | rfl | rfl | rfl | rfl | rfl | rfl
  · obtain ⟨q, hq, rfl⟩ := nI_of (hb rfl)
    rw [k_ap1 hq]
    have hp := dayP_lt (q / 16)
    have hd : depP (q % 16) + 2 < 63 := by unfold depP; have := Nat.mod_lt q (show 0 < 16 by decide); omega
    have hY : ZB (pieceN f a (q % 16)) := by
      unfold pieceN
      exact (ZB_inc (ZB_inc (ZB_ad (ZB_ad (ZB_ad h (by decide)) (by decide)) (by omega)) (by omega)) (by decide)).put (by decide)
    generalize pieceN f a (q % 16) = Y at hY ⊢
    unfold dayN
    split
    · split
      · exact ZB_ad (ZB_inc hY (by omega)) (by omega)
      · exact hY
    · unfold setN
      exact ZB_ad (ZB_inc ((((hY.put (by omega)).put (by omega)).put (by omega)).put (by omega)) (by omega)) (by omega)
  · rw [k_ap2]; exact h.put (by decide)
  · by_cases ca : a = 0
    · subst ca; rw [k_ap3z]; exact (ZB_ad (ZB_ad h (by decide)) (by decide)).put (by decide)
    · rw [k_ap3n ca]; exact h.put (by decide)
  · rw [k_ap4]; exact ZB_inc (ZB_ad (ZB_ad h (by decide)) (by decide)) (by decide)
  · rw [k_ap5]; exact ZB_inc (ZB_ad (ZB_ad h (by decide)) (by decide)) (by decide)
  · rw [k_ap6]; exact h.put (by decide)
  · rw [k_ap7]; exact h.put (by decide)
  · rw [k_ap8]; exact h.put (by decide)
  · rw [k_ap9]; exact h.put (by decide)
