/-! sound() answers 1 -/
theorem k_depsL {f : Nat → Int32} {p : Nat → Nat} {P : Nat} (hp : ∀ d, d < 16 → f (depP d) = nI (p d)) (hb : ∀ m, m ≤ 16 → pN p m < 2 ^ 31) (h8 : f 8 = nI P) (hP : pN p 16 = P) (hd : ds f 16 = sm f 0) : ∀ (c i fuel : Nat), c < fuel → i + c = 16 → lpX0_departmentsAddUp_7 fuel f (lN (pN p i)) (ds f i) (nI i) = 1 := by
  have hda : ∀ d : Nat, spX0_departmentAt (nI d) = nI (depP d) := fun d => by
    unfold spX0_departmentAt depP
    rw [show (3 : Int32) = nI 3 from rfl, show (15 : Int32) = nI 15 from rfl, pk_mul, nI_add, Nat.mul_comm]
  intro c
  induction c with
  | zero =>
    intro i fuel h1 h2
    obtain ⟨z, rfl⟩ : ∃ z, fuel = z + 1 := ⟨fuel - 1, by omega⟩
    have hi : i = 16 := by omega
    subst hi
    have hP31 : P < 2 ^ 31 := by rw [← hP]; exact hb 16 (Nat.le_refl _)
    rw [lpX0_departmentsAddUp_7_e, if_pos (by decide), show spX0_at f (8 : Int32) = f 8 from k_at (i := 8) (by decide), h8, nI_l hP31, hP, if_pos (by rw [lg_cmp_eq]), show spX0_sumAt f (0 : Int32) = sm f 0 from k_sumAt (i := 0) (by decide), hd, if_pos (by rw [lg_cmp_eq])]
  | succ c ih =>
    intro i fuel h1 h2
    obtain ⟨z, rfl⟩ : ∃ z, fuel = z + 1 := ⟨fuel - 1, by omega⟩
    have hb1 : p i < 2 ^ 31 := by
      have h3 := hb (i + 1) (by omega)
      have h4 : pN p (i + 1) = pN p i + p i := rfl
      omega
    have e1 : spX0_piecesOf f (nI i) = nI (p i) := by
      unfold spX0_piecesOf
      rw [hda, k_at (by unfold depP; omega), hp i (by omega)]
    have e2 : spX0_centsOf f (nI i) = sm f (depP i + 1) := by
      unfold spX0_centsOf
      rw [hda, nI_1, k_sumAt (by unfold depP; omega)]
    rw [lpX0_departmentsAddUp_7_e, if_neg (show ¬ (16 : Int32) ≤ nI i from nI_ge (a := i) (b := 16) (by omega) (by decide)), e1, e2, nI_l hb1, lN_add, nI_1]
    exact ih (i + 1) z (by omega) (by omega)
theorem k_spreadL {er : Nat → Int32} {q c : Nat} (hq : q + 1 + c < 2 ^ 30) (hw : ∀ x, x < 16 → ∃ w : Nat, er x = nI w ∧ q ≤ w ∧ w ≤ q + 1 + c) : ∀ (m i fuel lo hi : Nat), m < fuel → i + m = 16 → q ≤ lo → lo ≤ hi → hi ≤ q + 1 + c → ∃ d : Nat, d ≤ 1 + c ∧ lpX2_wearSpread_10 fuel er (nI lo) (nI hi) (nI i) = nI d := by
  intro m
  induction m with
  | zero =>
    intro i fuel lo hi h1 h2 h3 h4 h5
    obtain ⟨z, rfl⟩ : ∃ z, fuel = z + 1 := ⟨fuel - 1, by omega⟩
    refine ⟨hi - lo, by omega, ?_⟩
    rw [lpX2_wearSpread_10_e, if_pos (show (16 : Int32) ≤ nI i from nI_le (a := 16) (by omega) (by omega)), pk_sub h4]
  | succ m ih =>
    intro i fuel lo hi h1 h2 h3 h4 h5
    obtain ⟨z, rfl⟩ : ∃ z, fuel = z + 1 := ⟨fuel - 1, by omega⟩
    obtain ⟨w, e, l, u⟩ := hw i (by omega)
    have ee : spX2_erasesOf er (nI i) = nI w := by
      unfold spX2_erasesOf
      rw [show spX2_holds (nI i) (0 : Int32) = 1 from k_holds1 (i := 0) (by omega) (by decide), if_neg (by decide), nI_clamp (by omega), e]
    rw [lpX2_wearSpread_10_e, if_neg (show ¬ (16 : Int32) ≤ nI i from nI_ge (a := i) (b := 16) (by omega) (by decide)), ee, nI_1]
    have x1 : (if nI w < nI lo then nI w else nI lo) = nI (if w < lo then w else lo) := by
      by_cases h : w < lo
      · rw [if_pos (nI_lt h (by omega)), if_pos h]
      · rw [if_neg (nI_nlt (by omega) (by omega)), if_neg h]
    have x2 : (if nI hi < nI w then nI w else nI hi) = nI (if hi < w then w else hi) := by
      by_cases h : hi < w
      · rw [if_pos (nI_lt h (by omega)), if_pos h]
      · rw [if_neg (nI_nlt (by omega) (by omega)), if_neg h]
    rw [x1, x2]
    refine ih (i + 1) z _ _ (by omega) (by omega) ?_ ?_ ?_
    · split <;> omega
    · split <;> split <;> omega
    · split <;> omega
theorem k_spread {er : Nat → Int32} {S c B : Nat} (hB : B + c < 100000) (h : WI er S c B) : ∃ d : Nat, d ≤ 1 + c ∧ spX2_wearSpread er = nI d := by
  obtain ⟨q, hq, hw⟩ := h
  have hw2 : ∀ x, x < 16 → ∃ w : Nat, er x = nI w ∧ q ≤ w ∧ w ≤ q + 1 + c := fun x hx => by
    obtain ⟨w, e, l, u⟩ := hw x hx
    refine ⟨w, e, ?_, ?_⟩
    · split at l <;> omega
    · split at u <;> omega
  obtain ⟨w, e, l, u⟩ := hw2 0 (by decide)
  have ee : spX2_erasesOf er (0 : Int32) = nI w := by
    unfold spX2_erasesOf
    rw [show spX2_holds (0 : Int32) (0 : Int32) = 1 from k_holds1 (s := 0) (i := 0) (by decide) (by decide), if_neg (by decide)]
    exact e
  unfold spX2_wearSpread
  rw [ee]
  exact k_spreadL (by omega) hw2 15 1 16 w w (by decide) rfl l (Nat.le_refl _) u
theorem k_sound {bw er : Nat → Int32} {po co : Int64} {ct : Int32} {N S c B : Nat} (h : SI bw po co N) (hN : N < 100000) (hw : WI er S c B) (hB : B + c < 100000) (hct : ct = nI c) : spX4_sound po co 1 ct er bw = 1 := by
  obtain ⟨q1, q2, ⟨p, P, pn, a1, a2, a3, a4, a5, a6⟩, ⟨A, cn, b1, b2, b3, b4⟩, h5, R, c1, c2⟩ := h
  have hP : P < 100000 := Nat.lt_of_le_of_lt a4 hN
  have hA : A < 2 ^ 62 := Nat.lt_of_le_of_lt b2 (Nat.lt_of_lt_of_le (Nat.mul_lt_mul_of_pos_right hN (by decide)) (by decide))
  have hmono : ∀ m, m ≤ 16 → pN p m < 2 ^ 31 := by
    have hle : ∀ m j, pN p m ≤ pN p (m + j) := by
      intro m j
      induction j with
      | zero => exact Nat.le_refl _
      | succ j ih => exact Nat.le_trans ih (Nat.le_add_right _ _)
    intro m hm
    have h1 := hle m (16 - m)
    rw [show m + (16 - m) = 16 by omega, a3] at h1
    omega
  obtain ⟨d, hd, hsp⟩ := k_spread hB hw
  have hreg : spX0_registersAddUp bw = 1 := by
    unfold spX0_registersAddUp
    rw [show spX0_sumAt bw (0 : Int32) = sm bw 0 from k_sumAt (i := 0) (by decide), show spX0_sumAt bw (2 : Int32) = sm bw 2 from k_sumAt (i := 2) (by decide), show spX0_sumAt bw (4 : Int32) = sm bw 4 from k_sumAt (i := 4) (by decide), show spX0_sumAt bw (6 : Int32) = sm bw 6 from k_sumAt (i := 6) (by decide), if_pos (by rw [lg_cmp_eq]; exact q1)]
  have hdep : spX0_departmentsAddUp bw = 1 := by
    unfold spX0_departmentsAddUp
    exact k_depsL a1 hmono a2 a3 q2 16 0 17 (by decide) rfl
  unfold spX4_sound spX2_hasPower spX2_cutsSuffered
  rw [if_neg (by decide), hreg, if_neg (by decide), hdep, if_neg (by decide), show spX0_at bw (8 : Int32) = bw 8 from k_at (i := 8) (by decide), a2, nI_l (by omega), a5, show spX0_sumAt bw (0 : Int32) = sm bw 0 from k_sumAt (i := 0) (by decide), b1, b3, hsp, hct]
  rw [if_neg (by rw [lg_cmp_gt, pk_lLT (by omega) (by omega)]; omega), if_neg (by rw [lg_cmp_gt, pk_lLT (by omega) (by omega)]; omega), show (1 : Int32) + nI c = nI (1 + c) from nI_add 1 c, if_neg (nI_nlt hd (by omega))]
