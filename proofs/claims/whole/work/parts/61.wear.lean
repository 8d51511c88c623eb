/-! the wear; an append's outcome in the memory -/
def WI (er : Nat → Int32) (S c B : Nat) : Prop := ∃ q : Nat, q ≤ B ∧ ∀ x : Nat, x < 16 → ∃ w : Nat, er x = nI w ∧ q + (if x ≤ S then 1 else 0) ≤ w ∧ w ≤ q + (if x ≤ S then 1 else 0) + c
theorem WI_mono {er : Nat → Int32} {S c B c' B' : Nat} (h : WI er S c B) (hc : c ≤ c') (hB : B ≤ B') : WI er S c' B' := by
  obtain ⟨q, h1, h2⟩ := h
  exact ⟨q, by omega, fun x hx => by obtain ⟨w, e, l, u⟩ := h2 x hx; exact ⟨w, e, l, by omega⟩⟩
theorem WI_new {er : Nat → Int32} {S c B : Nat} (hS : S < 16) (h : WI er S c B) : WI (upd er ((S + 1) % 16) (er ((S + 1) % 16) + 1)) ((S + 1) % 16) c (B + 1) := by
  obtain ⟨q, h1, h2⟩ := h
  by_cases e15 : S = 15
  · subst e15
    refine ⟨q + 1, by omega, fun x hx => ?_⟩
    obtain ⟨w, e, l, u⟩ := h2 x hx
    rw [if_pos (by omega)] at l u
    by_cases e0 : x = 0
    · subst e0
      refine ⟨w + 1, ?_, ?_, ?_⟩
      · show upd er 0 (er 0 + 1) 0 = _; rw [upd_s, e]; exact nI_1 w
      · rw [if_pos (by omega)]; omega
      · rw [if_pos (by omega)]; omega
    · refine ⟨w, ?_, ?_, ?_⟩
      · show upd er 0 (er 0 + 1) x = _; rw [upd_n e0, e]
      · rw [if_neg (by omega)]; omega
      · rw [if_neg (by omega)]; omega
  · have hm : (S + 1) % 16 = S + 1 := Nat.mod_eq_of_lt (by omega)
    rw [hm]
    refine ⟨q, by omega, fun x hx => ?_⟩
    obtain ⟨w, e, l, u⟩ := h2 x hx
    by_cases e0 : x = S + 1
    · subst e0
      rw [if_neg (by omega)] at l u
      refine ⟨w + 1, ?_, ?_, ?_⟩
      · rw [upd_s, e]; exact nI_1 w
      · rw [if_pos (by omega)]; omega
      · rw [if_pos (by omega)]; omega
    · refine ⟨w, by rw [upd_n e0, e], ?_, ?_⟩
      · by_cases hxS : x ≤ S
        · rw [if_pos hxS] at l; rw [if_pos (by omega)]; exact l
        · rw [if_neg hxS] at l; rw [if_neg (by omega)]; exact l
      · by_cases hxS : x ≤ S
        · rw [if_pos hxS] at u; rw [if_pos (by omega)]; exact u
        · rw [if_neg hxS] at u; rw [if_neg (by omega)]; exact u
theorem WI_fail {er : Nat → Int32} {S c B z : Nat} (h : WI er S c B) : WI (upd er z (er z + 1)) S (c + 1) (B + 1) := by
  obtain ⟨q, h1, h2⟩ := h
  refine ⟨q, by omega, fun x hx => ?_⟩
  obtain ⟨w, e, l, u⟩ := h2 x hx
  by_cases e0 : x = z
  · subst e0
    exact ⟨w + 1, by rw [upd_s, e]; exact nI_1 w, by omega, by omega⟩
  · exact ⟨w, by rw [upd_n e0, e], l, by omega⟩
/-- the cuts -/
def CT (ct : Int32) (c : Nat) : Prop := ct = nI c
/-- AN APPEND: done, and its record is there; or cut, and nothing is lost -/
theorem AP_DI {ce lf mq ct la k a b : Int32} {wd er bw : Nat → Int32} {s r G c B : Nat} {q1 q' : Qs} {s1 r1 : Nat} {er1 : Nat → Int32} (hd : DI wd s r la bw G) (hG : G < 100000) (hz : ZB bw) (hv : VK k b) (hw : WI er s c B)
    (hpath : (room wd s r ∧ q1 = (1, ce, lf, ct, wd) ∧ s1 = s ∧ r1 = r ∧ er1 = er) ∨ (¬ room wd s r ∧ q1 = BG (1, ce, lf, ct, wd) mq ((s + 1) % 16) (wd (256 * s) + 1) la bw ∧ s1 = (s + 1) % 16 ∧ r1 = 0 ∧ er1 = upd er s1 (er s1 + 1))) (hq : q' = WS q1 (256 * s1 + (194 + 5 * r1)) (rl (la + 1) k a b)) :
    (q'.1 = 1 ∧ q'.2.2.2.1 = ct ∧ DI q'.2.2.2.2 s1 (r1 + 1) (la + 1) (spX0_apply bw k a b) (G + 1) ∧ WI er1 s1 c (B + 1) ∧ r1 + 1 ≤ 12 ∧ s1 < 16) ∨ (q'.1 = 0 ∧ q'.2.1 = 0 ∧ q'.2.2.2.1 = ct + 1 ∧ (∃ S2 r2 : Nat, DI q'.2.2.2.2 S2 r2 la bw (G + 1) ∧ WI er1 S2 (c + 1) (B + 1)) ∧ r1 ≤ 12 ∧ s1 < 16) := by
  have hs : s < 16 := hd.1
  have hr : r ≤ 12 := hd.2.1
  have hs' : (s + 1) % 16 < 16 := Nat.mod_lt _ (by decide)
  have hne : (s + 1) % 16 ≠ s := by omega
  have hlen : (rl (la + 1) k a b).length = 5 := rfl
  -- a record in a sector that holds DI
  have recd : ∀ (w : Nat → Int32) (S2 r2 G2 : Nat) (c0 l0 t0 : Int32), DI w S2 r2 la bw G2 → r2 < 12 → ((WS (1, c0, l0, t0, w) (256 * S2 + (194 + 5 * r2)) (rl (la + 1) k a b)).1 = 1 ∧ (WS (1, c0, l0, t0, w) (256 * S2 + (194 + 5 * r2)) (rl (la + 1) k a b)).2.2.2.1 = t0 ∧ DI (WS (1, c0, l0, t0, w) (256 * S2 + (194 + 5 * r2)) (rl (la + 1) k a b)).2.2.2.2 S2 (r2 + 1) (la + 1) (spX0_apply bw k a b) G2) ∨ ((WS (1, c0, l0, t0, w) (256 * S2 + (194 + 5 * r2)) (rl (la + 1) k a b)).1 = 0 ∧ (WS (1, c0, l0, t0, w) (256 * S2 + (194 + 5 * r2)) (rl (la + 1) k a b)).2.1 = 0 ∧ (WS (1, c0, l0, t0, w) (256 * S2 + (194 + 5 * r2)) (rl (la + 1) k a b)).2.2.2.1 = t0 + 1 ∧ DI (WS (1, c0, l0, t0, w) (256 * S2 + (194 + 5 * r2)) (rl (la + 1) k a b)).2.2.2.2 S2 r2 la bw G2) := by
    intro w S2 r2 G2 c0 l0 t0 h2 hr2
    rcases WS_spec (q := (1, c0, l0, t0, w)) (a := 256 * S2 + (194 + 5 * r2)) (vs := rl (la + 1) k a b) rfl with ⟨e1, e2, e3⟩ | ⟨e1, e2, e3, kk, hk, e4⟩
    · left; exact ⟨e1, e3, by rw [e2]; exact DI_rec h2 hr2 hv⟩
    · right
      refine ⟨e1, e2, e3, ?_⟩
      have hl : ((rl (la + 1) k a b).take kk).length ≤ kk := List.length_take_le _ _
      rw [hlen] at hk
      have hout : ∀ x, x < 256 * S2 + (194 + 5 * r2) ∨ 256 * S2 + (194 + 5 * r2) + 4 ≤ x → (WS (1, c0, l0, t0, w) (256 * S2 + (194 + 5 * r2)) (rl (la + 1) k a b)).2.2.2.2 x = w x := fun x hx => by
        rw [e4]; exact wAll_out (by omega)
      obtain ⟨b1, b2, b3, b4, b5, b6, b7, b8, b9⟩ := id h2
      refine DI_keep (Nat.le_refl _) h2 (fun x h3 h4 => hout x (by omega)) (fun j h3 h4 => ?_) (fun s3 h3 h4 => ?_)
      · rw [hout _ (by unfold rA; omega)]; exact b5 j h3 h4
      · rw [hout (256 * s3 + 193) (by omega), hout (256 * s3) (by omega), hout (256 * S2) (by omega)]; exact b8 s3 h3 h4
  rcases hpath with ⟨hR, e1, e2, e3, e4⟩ | ⟨hR, e1, e2, e3, e4⟩
  · subst e1; subst e2; subst e3; subst e4
    have hr2 : r1 < 12 := hR.1
    rw [hq]
    rcases recd wd s1 r1 G ce lf ct hd hr2 with ⟨h1, h2, h3⟩ | ⟨h1, h2, h3, h4⟩
    · left
      obtain ⟨b1, b2, b3, b4, b5, b6, b7, b8, g, b9, b10, b11⟩ := h3
      exact ⟨h1, h2, ⟨b1, b2, b3, b4, b5, b6, b7, b8, g, b9, b10, by omega⟩, WI_mono hw (by omega) (by omega), by omega, hs⟩
    · right
      obtain ⟨b1, b2, b3, b4, b5, b6, b7, b8, g, b9, b10, b11⟩ := h4
      exact ⟨h1, h2, h3, ⟨s1, r1, ⟨b1, b2, b3, b4, b5, b6, b7, b8, g, b9, b10, by omega⟩, WI_mono hw (by omega) (by omega)⟩, by omega, hs⟩
  · subst e2; subst e3; subst e4
    have hE := EQ_spec (q := (1, ce, lf, ct, wd)) (mq := mq) (s := (s + 1) % 16) rfl
    unfold BG at e1
    rcases hE with ⟨f1, f2, f3⟩ | ⟨f1, f2, f3, f4⟩
    · rcases WS_spec (q := EQ (1, ce, lf, ct, wd) mq ((s + 1) % 16)) (a := 256 * ((s + 1) % 16)) (vs := hdr (wd (256 * s) + 1) la bw) f1 with ⟨g1, g2, g3⟩ | ⟨g1, g2, g3, kk, hk, g4⟩
      · rw [← e1] at g1 g2 g3
        rw [f3] at g2
        have hn := DI_new hd hG hz hs' hne g2
        obtain ⟨p0, c0, l0, t0, w0⟩ := q1
        have g1 : p0 = 1 := g1
        subst g1
        have ht : t0 = ct := g3.trans f2
        rw [hq]
        rcases recd w0 ((s + 1) % 16) 0 (G + 1) c0 l0 t0 hn (by decide) with ⟨h1, h2, h3⟩ | ⟨h1, h2, h3, h4⟩
        · left
          exact ⟨h1, by rw [h2, ht], h3, WI_new hs hw, by omega, hs'⟩
        · right
          exact ⟨h1, h2, by rw [h3, ht], ⟨_, _, h4, WI_mono (WI_new hs hw) (by omega) (Nat.le_refl _)⟩, by omega, hs'⟩
      · rw [← e1] at g1 g2 g3 g4
        rw [f3] at g4
        rw [hdr_len] at hk
        have hf := DI_fail hd hG hs' hne (Or.inr ⟨hdr (wd (256 * s) + 1) la bw, kk, hk, g4⟩)
        rw [WS_off g1] at hq
        rw [hq]
        right
        exact ⟨g1, g2, by rw [g3, f2], ⟨s, r, hf, WI_fail hw⟩, by omega, hs'⟩
    · rw [WS_off f1] at e1
      rw [← e1] at f1 f2 f3 f4
      have hf := DI_fail hd hG hs' hne (Or.inl ⟨mq, f4⟩)
      rw [WS_off f1] at hq
      rw [hq]
      right
      exact ⟨f1, f2, f3, ⟨s, r, hf, WI_fail hw⟩, by omega, hs'⟩
