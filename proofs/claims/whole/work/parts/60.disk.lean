/-! what lies in the memory: the sector in use, its books and records; the others are older, or have no mark -/
def rA (S j : Nat) : Nat := 256 * S + (194 + 5 * j)
def fb (wd : Nat → Int32) (S : Nat) : Nat → (Nat → Int32)
  | 0 => fun i => if i < 191 then wd (256 * S + (2 + i)) else 0
  | j + 1 => spX0_apply (fb wd S j) (wd (rA S j + 1)) (wd (rA S j + 2)) (wd (rA S j + 3))
def OT (wd : Nat → Int32) (S : Nat) : Prop := ∀ s : Nat, s < 16 → s ≠ S → wd (256 * s + 193) = -1 ∨ wd (256 * s) < wd (256 * S)
def RC (wd : Nat → Int32) (S r : Nat) : Prop := ∀ j : Nat, j < r → wd (rA S j) = wd (256 * S + 1) + nI j + 1 ∧ wd (rA S j + 4) = mrk (wds wd (rA S j) 4) ∧ VK (wd (rA S j + 1)) (wd (rA S j + 3))
def DI (wd : Nat → Int32) (S r : Nat) (la : Int32) (bw : Nat → Int32) (G : Nat) : Prop :=
  S < 16 ∧ r ≤ 12 ∧ wd (256 * S + 193) = mrk (wds wd (256 * S) 193) ∧ RC wd S r ∧ (∀ j : Nat, r ≤ j → j < 12 → wd (rA S j + 4) = -1) ∧ la = wd (256 * S + 1) + nI r ∧ bw = fb wd S r ∧ OT wd S ∧ (∃ g : Nat, wd (256 * S) = nI g ∧ 1 ≤ g ∧ g ≤ G)
theorem fb_congr {wd wd' : Nat → Int32} {S : Nat} : ∀ r : Nat, (∀ x, 256 * S ≤ x → x < 256 * S + (194 + 5 * r) → wd' x = wd x) → fb wd' S r = fb wd S r := by
  intro r
  induction r with
  | zero =>
    intro h
    funext i
    show (if i < 191 then wd' (256 * S + (2 + i)) else 0) = (if i < 191 then wd (256 * S + (2 + i)) else 0)
    by_cases hi : i < 191
    · rw [if_pos hi, if_pos hi, h _ (by omega) (by omega)]
    · rw [if_neg hi, if_neg hi]
  | succ r ih =>
    intro h
    show spX0_apply (fb wd' S r) (wd' (rA S r + 1)) (wd' (rA S r + 2)) (wd' (rA S r + 3)) = spX0_apply (fb wd S r) (wd (rA S r + 1)) (wd (rA S r + 2)) (wd (rA S r + 3))
    unfold rA
    rw [ih (fun x h1 h2 => h x h1 (by omega)), h _ (by omega) (by omega), h _ (by omega) (by omega), h _ (by omega) (by omega)]
theorem RC_congr {wd wd' : Nat → Int32} {S r : Nat} (hr : RC wd S r) (h : ∀ x, 256 * S ≤ x → x < 256 * S + (194 + 5 * r) → wd' x = wd x) : RC wd' S r := by
  intro j hj
  obtain ⟨h1, h2, h3⟩ := hr j hj
  unfold rA at h1 h2 h3 ⊢
  rw [h _ (by omega) (by omega), h (256 * S + 1) (by omega) (by omega), h (256 * S + (194 + 5 * j) + 4) (by omega) (by omega), h (256 * S + (194 + 5 * j) + 1) (by omega) (by omega), h (256 * S + (194 + 5 * j) + 3) (by omega) (by omega)]
  refine ⟨h1, ?_, h3⟩
  rw [h2]
  congr 1
  exact wds_congr (fun i hi => (h _ (by omega) (by omega)).symm)
theorem DI_keep {wd wd' : Nat → Int32} {S r : Nat} {la : Int32} {bw : Nat → Int32} {G G' : Nat} (hG : G ≤ G') (hd : DI wd S r la bw G) (h : ∀ x, 256 * S ≤ x → x < 256 * S + (194 + 5 * r) → wd' x = wd x) (hm : ∀ j : Nat, r ≤ j → j < 12 → wd' (rA S j + 4) = -1) (ho : OT wd' S) : DI wd' S r la bw G' := by
  obtain ⟨a1, a2, a3, a4, a5, a6, a7, a8, g, a9, a10, a11⟩ := hd
  refine ⟨a1, a2, ?_, RC_congr a4 h, hm, ?_, ?_, ho, g, ?_, a10, by omega⟩
  · rw [h _ (by omega) (by omega), a3]
    congr 1
    exact wds_congr (fun i hi => (h _ (by omega) (by omega)).symm)
  · rw [h _ (by omega) (by omega)]; exact a6
  · rw [fb_congr r h]; exact a7
  · rw [h _ (by omega) (by omega)]; exact a9
/-- a record more -/
theorem DI_rec {wd : Nat → Int32} {S r : Nat} {la k a b : Int32} {bw : Nat → Int32} {G : Nat} (hd : DI wd S r la bw G) (hr : r < 12) (hv : VK k b) : DI (wAll wd (rA S r) (rl (la + 1) k a b)) S (r + 1) (la + 1) (spX0_apply bw k a b) G := by
  obtain ⟨a1, a2, a3, a4, a5, a6, a7, a8, g, a9, a10, a11⟩ := hd
  have hlen : (rl (la + 1) k a b).length = 5 := rfl
  have hout : ∀ x, x < rA S r ∨ rA S r + 5 ≤ x → wAll wd (rA S r) (rl (la + 1) k a b) x = wd x := fun x hx => wAll_out (by rw [hlen]; exact hx)
  have hin : ∀ j, j < 5 → wAll wd (rA S r) (rl (la + 1) k a b) (rA S r + j) = (rl (la + 1) k a b).getD j 0 := fun j hj => wAll_in (by rw [hlen]; exact hj)
  have i0 : wAll wd (rA S r) (rl (la + 1) k a b) (rA S r) = la + 1 := hin 0 (by decide)
  have i1 : wAll wd (rA S r) (rl (la + 1) k a b) (rA S r + 1) = k := hin 1 (by decide)
  have i2 : wAll wd (rA S r) (rl (la + 1) k a b) (rA S r + 2) = a := hin 2 (by decide)
  have i3 : wAll wd (rA S r) (rl (la + 1) k a b) (rA S r + 3) = b := hin 3 (by decide)
  have i4 : wAll wd (rA S r) (rl (la + 1) k a b) (rA S r + 4) = mrk [la + 1, k, a, b] := hin 4 (by decide)
  generalize wAll wd (rA S r) (rl (la + 1) k a b) = wd' at hout i0 i1 i2 i3 i4 ⊢
  have hE : rA S r = 256 * S + (194 + 5 * r) := rfl
  have hlow : ∀ x, 256 * S ≤ x → x < 256 * S + (194 + 5 * r) → wd' x = wd x := fun x h1 h2 => hout x (Or.inl (by omega))
  refine ⟨a1, by omega, ?_, ?_, ?_, ?_, ?_, ?_, g, ?_, a10, a11⟩
  · rw [hlow _ (by omega) (by omega), a3]
    congr 1
    exact wds_congr (fun i hi => (hlow _ (by omega) (by omega)).symm)
  · intro j hj
    by_cases e : j = r
    · subst e
      refine ⟨?_, ?_, by rw [i1, i3]; exact hv⟩
      · rw [i0, hlow (256 * S + 1) (by omega) (by omega), a6]
      · rw [i4]
        show mrk [la + 1, k, a, b] = mrk [wd' (rA S j), wd' (rA S j + 1), wd' (rA S j + 1 + 1), wd' (rA S j + 1 + 1 + 1)]
        rw [i0, i1, show rA S j + 1 + 1 = rA S j + 2 from rfl, i2, show rA S j + 2 + 1 = rA S j + 3 from rfl, i3]
    · exact RC_congr a4 hlow j (by omega)
  · intro j h1 h2
    rw [hout _ (Or.inr (by unfold rA; omega))]
    exact a5 j (by omega) h2
  · rw [hlow (256 * S + 1) (by omega) (by omega), a6, Int32.add_assoc, nI_1]
  · show _ = spX0_apply (fb wd' S r) (wd' (rA S r + 1)) (wd' (rA S r + 2)) (wd' (rA S r + 3))
    rw [i1, i2, i3, fb_congr r hlow, ← a7]
  · intro s h1 h2
    rw [hout (256 * s + 193) (by omega), hout (256 * s) (by omega), hlow (256 * S) (by omega) (by omega)]
    exact a8 s h1 h2
  · rw [hlow (256 * S) (by omega) (by omega)]; exact a9
/-- a new sector -/
theorem DI_new {wd wd' : Nat → Int32} {S S' r : Nat} {la : Int32} {bw : Nat → Int32} {G : Nat} (hd : DI wd S r la bw G) (hG : G < 100000) (hz : ZB bw) (hS' : S' < 16) (hne : S' ≠ S) (hh : wd' = wAll (eL 256 wd S' 0 0) (256 * S') (hdr (wd (256 * S) + 1) la bw)) : DI wd' S' 0 la bw (G + 1) := by
  obtain ⟨a1, a2, a3, a4, a5, a6, a7, a8, g, a9, a10, a11⟩ := hd
  have hlen := hdr_len (wd (256 * S) + 1) la bw
  have hout : ∀ x, x < 256 * S' ∨ 256 * S' + 256 ≤ x → wd' x = wd x := fun x hx => by
    rw [hh, wAll_out (by omega)]
    rcases eL_any 256 0 wd S' 0 x (by omega) with h | ⟨-, h1, h2⟩
    · exact h
    · omega
  have hrest : ∀ x, 256 * S' + 194 ≤ x → x < 256 * S' + 256 → wd' x = -1 := fun x h1 h2 => by
    rw [hh, wAll_out (by omega)]
    exact eL_all 256 0 wd S' x (by omega) (by omega) (by omega)
  have hin : ∀ j, j < 194 → wd' (256 * S' + j) = (hdr (wd (256 * S) + 1) la bw).getD j 0 := fun j hj => by
    rw [hh]; exact wAll_in (by omega)
  have hhead : wds wd' (256 * S') 193 = hd0 (wd (256 * S) + 1) la bw := by
    have h1 := wds_wAll (f := eL 256 wd S' 0 0) (a := 256 * S') (vs := hdr (wd (256 * S) + 1) la bw)
    rw [← hh, hlen] at h1
    have h2 : wds wd' (256 * S') 194 = wds wd' (256 * S') 193 ++ [wd' (256 * S' + 193)] := by
      have gen : ∀ (n c : Nat), wds wd' c (n + 1) = wds wd' c n ++ [wd' (c + n)] := by
        intro n
        induction n with
        | zero => intro c; rfl
        | succ n ih =>
          intro c
          show wd' c :: wds wd' (c + 1) (n + 1) = wd' c :: (wds wd' (c + 1) n ++ [wd' (c + (n + 1))])
          rw [ih (c + 1), show c + 1 + n = c + (n + 1) by omega]
      exact gen 193 (256 * S')
    rw [h2] at h1
    exact (List.append_inj' h1 rfl).1
  have h0 : wd' (256 * S') = wd (256 * S) + 1 := by
    have := hin 0 (by decide)
    rw [hdr_cons] at this
    exact this
  have h1 : wd' (256 * S' + 1) = la := by
    have := hin 1 (by decide)
    rw [hdr_cons] at this
    exact this
  have hb : ∀ i, i < 191 → wd' (256 * S' + (2 + i)) = bw i := by
    intro i hi
    have := wds_get (f := wd') (a := 256 * S') (n := 193) (j := 2 + i) (by omega)
    rw [hhead] at this
    rw [← this]
    unfold hd0
    rw [show 2 + i = (i + 1) + 1 by omega, List.getD_cons_succ, List.getD_cons_succ, wds_get hi, Nat.zero_add]
  have hg : wd (256 * S) + 1 = nI (g + 1) := by rw [a9]; exact nI_1 g
  refine ⟨hS', by omega, ?_, fun j hj => by omega, ?_, ?_, ?_, ?_, g + 1, by rw [h0, hg], by omega, by omega⟩
  · rw [hhead]
    have := hin 193 (by decide)
    rw [this]
    unfold hdr
    rw [List.getD_eq_getElem?_getD, List.getElem?_append_right (by rw [hd0_len]; exact Nat.le_refl _), hd0_len]
    rfl
  · intro j _ hj
    exact hrest _ (by unfold rA; omega) (by unfold rA; omega)
  · rw [h1]
    show la = la + nI 0
    rw [nI_0]
    simp
  · funext i
    show bw i = if i < 191 then wd' (256 * S' + (2 + i)) else 0
    by_cases hi : i < 191
    · rw [if_pos hi, hb i hi]
    · rw [if_neg hi]; exact hz i (by omega)
  · intro s hs hns
    rw [h0, hg]
    by_cases e : s = S
    · subst e
      right
      rw [hout (256 * s) (by omega), a9]
      exact nI_lt (by omega) (by omega)
    · rw [hout (256 * s + 193) (by omega), hout (256 * s) (by omega)]
      rcases a8 s hs e with h | h
      · exact Or.inl h
      · right
        rw [a9] at h
        rw [Int32.lt_iff_toInt_lt] at h ⊢
        rw [nI_toInt (by omega)] at h ⊢
        omega
/-- a sector that was not begun to its end: nothing is lost -/
theorem DI_fail {wd wd' : Nat → Int32} {S S' r : Nat} {la : Int32} {bw : Nat → Int32} {G : Nat} (hd : DI wd S r la bw G) (hG : G < 100000) (hS' : S' < 16) (hne : S' ≠ S) (hh : (∃ mq : Int32, wd' = eL 256 wd S' mq 0) ∨ ∃ (vs : List Int32) (k : Nat), k < 194 ∧ wd' = wAll (eL 256 wd S' 0 0) (256 * S') (vs.take k)) : DI wd' S r la bw (G + 1) := by
  have hd0 := hd
  obtain ⟨a1, a2, a3, a4, a5, a6, a7, a8, g, a9, a10, a11⟩ := hd
  have hout : ∀ x, x < 256 * S' ∨ 256 * S' + 256 ≤ x → wd' x = wd x := by
    intro x hx
    rcases hh with ⟨mq, e⟩ | ⟨vs, k, hk, e⟩
    · rw [e]
      rcases eL_any 256 0 wd S' mq x (by omega) with h | ⟨-, h1, h2⟩
      · exact h
      · omega
    · have hl : (vs.take k).length ≤ k := List.length_take_le k vs
      rw [e, wAll_out (by omega)]
      rcases eL_any 256 0 wd S' 0 x (by omega) with h | ⟨-, h1, h2⟩
      · exact h
      · omega
  refine DI_keep (by omega) hd0 (fun x h1 h2 => hout x (by omega)) (fun j h1 h2 => ?_) (fun s hs hns => ?_)
  · rw [hout _ (by unfold rA; omega)]; exact a5 j h1 h2
  · rw [hout (256 * S) (by omega)]
    by_cases e : s = S'
    · subst e
      rcases hh with ⟨mq, e⟩ | ⟨vs, k, hk, e⟩
      · rw [e]
        rcases a8 s hs hns with h | h
        · left
          rcases eL_any 256 0 wd s mq (256 * s + 193) (by omega) with h1 | ⟨h1, -⟩
          · rw [h1]; exact h
          · exact h1
        · right
          rcases eL_any 256 0 wd s mq (256 * s) (by omega) with h1 | ⟨h1, -⟩
          · rw [h1]; exact h
          · rw [h1, a9, Int32.lt_iff_toInt_lt]
            obtain ⟨g2, rfl⟩ : ∃ g2, g = g2 + 1 := ⟨g - 1, by omega⟩
            rw [show (-1 : Int32).toInt = -1 from rfl]
            rw [nI_toInt (by omega)]
            omega
      · left
        have hl : (vs.take k).length ≤ k := List.length_take_le k vs
        rw [e, wAll_out (by omega)]
        exact eL_all 256 0 wd s _ (by omega) (by omega) (by omega)
    · rw [hout (256 * s + 193) (by omega), hout (256 * s) (by omega)]
      exact a8 s hs hns
