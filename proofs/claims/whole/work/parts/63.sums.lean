/-! the registers: what always adds up -/
theorem i64_a (a b c : Int64) : (a + c) + (b + -c) = a + b := by
  apply Int64.toBitVec_inj.mp
  simp only [Int64.toBitVec_add, Int64.toBitVec_neg]
  bv_omega
theorem i64_b (a b c d e : Int64) (h : a + b = c + d) : a + (b + e) = (c + e) + d := by
  have h := congrArg Int64.toBitVec h
  apply Int64.toBitVec_inj.mp
  simp only [Int64.toBitVec_add] at h ⊢
  bv_omega
theorem i64_c (a b c d e : Int64) (h : a + b = c + d) : a + (b + e) = c + (d + e) := by
  have h := congrArg Int64.toBitVec h
  apply Int64.toBitVec_inj.mp
  simp only [Int64.toBitVec_add] at h ⊢
  bv_omega
theorem i64_d (a b c : Int64) : (a + c) + b = (a + b) + c := by
  apply Int64.toBitVec_inj.mp
  simp only [Int64.toBitVec_add]
  bv_omega
theorem i64_e (a b c : Int64) : a + (b + c) = (a + b) + c := by
  apply Int64.toBitVec_inj.mp
  simp only [Int64.toBitVec_add]
  bv_omega
theorem i64_0 (a : Int64) : a + 0 = a := by
  apply Int64.toBitVec_inj.mp
  simp only [Int64.toBitVec_add]
  simp
theorem nI_neg {n : Nat} (h : n < 2 ^ 31) : (-nI n).toInt64 = -(lN n) := by
  apply Int64.toInt_inj.mp
  rw [Int32.toInt_toInt64, sb_negT h, Int64.toInt_neg, lN_toInt h]
  rw [Int.bmod_eq_of_le (by omega) (by omega)]
def ds (f : Nat → Int32) : Nat → Int64
  | 0 => 0
  | n + 1 => ds f n + sm f (depP n + 1)
def pN (p : Nat → Nat) : Nat → Nat
  | 0 => 0
  | n + 1 => pN p n + p n
/-- the books are sound: registers, departments, what was printed; N bounds the numbers -/
def SI (f : Nat → Int32) (po co : Int64) (N : Nat) : Prop :=
  sm f 0 + sm f 2 = sm f 4 + sm f 6 ∧ ds f 16 = sm f 0 ∧ (∃ (p : Nat → Nat) (P pn : Nat), (∀ d, d < 16 → f (depP d) = nI (p d)) ∧ f 8 = nI P ∧ pN p 16 = P ∧ P ≤ N ∧ po = lN pn ∧ pn ≤ P) ∧ (∃ A cn : Nat, sm f 0 = lN A ∧ A ≤ N * 1000000000 ∧ co = lN cn ∧ cn ≤ A) ∧ (f 11 = 0 ∨ f 11 = 1) ∧ ∃ R : Nat, f 10 = nI R ∧ R ≤ N
theorem SI_mono {f : Nat → Int32} {po co : Int64} {N N' : Nat} (h : SI f po co N) (hN : N ≤ N') : SI f po co N' := by
  obtain ⟨h1, h2, ⟨p, P, pn, a1, a2, a3, a4, a5, a6⟩, ⟨A, cn, b1, b2, b3, b4⟩, h5, R, c1, c2⟩ := h
  exact ⟨h1, h2, ⟨p, P, pn, a1, a2, a3, Nat.le_trans a4 hN, a5, a6⟩, ⟨A, cn, b1, Nat.le_trans b2 (Nat.mul_le_mul_right _ hN), b3, b4⟩, h5, R, c1, Nat.le_trans c2 hN⟩
/-- books that differ in other places alone -/
theorem SI_same {f g : Nat → Int32} {po co : Int64} {N : Nat} (h : SI f po co N) (h1 : ∀ i, i < 63 → i ≠ 9 → i ≠ 12 → i ≠ 13 → i ≠ 14 → g i = f i) : SI g po co N := by
  have hs : ∀ i, i + 1 < 63 → (i + 1 < 9 ∨ 15 ≤ i) → sm g i = sm f i := fun i hi hj => by
    unfold sm
    rw [h1 i (by omega) (by omega) (by omega) (by omega) (by omega), h1 (i + 1) (by omega) (by omega) (by omega) (by omega) (by omega)]
  have hds : ∀ n, n ≤ 16 → ds g n = ds f n := by
    intro n
    induction n with
    | zero => intro _; rfl
    | succ n ih =>
      intro hn
      show ds g n + sm g (depP n + 1) = ds f n + sm f (depP n + 1)
      rw [ih (by omega), hs _ (by unfold depP; omega) (by unfold depP; omega)]
  obtain ⟨q1, q2, ⟨p, P, pn, a1, a2, a3, a4, a5, a6⟩, ⟨A, cn, b1, b2, b3, b4⟩, h5, R, c1, c2⟩ := h
  refine ⟨?_, ?_, ⟨p, P, pn, ?_, ?_, a3, a4, a5, a6⟩, ⟨A, cn, ?_, b2, b3, b4⟩, ?_, R, ?_, c2⟩
  · rw [hs 0 (by decide) (by decide), hs 2 (by decide) (by decide), hs 4 (by decide) (by decide), hs 6 (by decide) (by decide)]; exact q1
  · rw [hds 16 (Nat.le_refl _), hs 0 (by decide) (by decide)]; exact q2
  · intro d hd
    rw [h1 _ (by unfold depP; omega) (by unfold depP; omega) (by unfold depP; omega) (by unfold depP; omega) (by unfold depP; omega)]
    exact a1 d hd
  · rw [h1 8 (by decide) (by decide) (by decide) (by decide) (by decide)]; exact a2
  · rw [hs 0 (by decide) (by decide)]; exact b1
  · rw [h1 11 (by decide) (by decide) (by decide) (by decide) (by decide)]; exact h5
  · rw [h1 10 (by decide) (by decide) (by decide) (by decide) (by decide)]; exact c1
theorem dayN_low {f : Nat → Int32} {c : Int32} {t i : Nat} (hi : i < 63) : dayN f c t i = f i := by
  have hp := dayP_lt t
  unfold dayN
  split
  · split
    · rw [ad_n (by omega) (by omega), inc_n (by omega)]
    · rfl
  · rw [ad_n (by omega) (by omega), inc_n (by omega)]
    unfold setN
    rw [upd_n (by omega), upd_n (by omega), upd_n (by omega), upd_n (by omega)]
/-- a piece, printed or not yet -/
theorem SI_piece {f : Nat → Int32} {po co : Int64} {N n q : Nat} (h : SI f po co N) (hn : n ≤ 999999999) (hN : N < 100000) (hq : q < 2 ^ 31) : SI (spX0_apply f 1 (nI n) (nI q)) po co (N + 1) ∧ SI (spX0_apply f 1 (nI n) (nI q)) (po + 1) (co + (nI n).toInt64) (N + 1) := by
  rw [k_ap1 hq]
  have hd : q % 16 < 16 := Nat.mod_lt _ (by decide)
  generalize q % 16 = d at hd ⊢
  generalize q / 16 = t
  obtain ⟨q1, q2, ⟨p, P, pn, a1, a2, a3, a4, a5, a6⟩, ⟨A, cn, b1, b2, b3, b4⟩, h5, R, c1, c2⟩ := h
  have hl : (nI n).toInt64 = lN n := nI_l (by omega)
  have hng : (-nI n).toInt64 = -(lN n) := nI_neg (by omega)
  have hE : ∀ i, i < 63 → dayN (pieceN f (nI n) d) (nI n) t i = pieceN f (nI n) d i := fun i hi => dayN_low hi
  have hS : ∀ i, i + 1 < 63 → sm (dayN (pieceN f (nI n) d) (nI n) t) i = sm (pieceN f (nI n) d) i := fun i hi => by
    unfold sm; rw [hE i (by omega), hE (i + 1) hi]
  have hdp : 15 ≤ depP d ∧ depP d + 2 < 63 := by unfold depP; omega
  -- the piece by places
  have s0 : sm (pieceN f (nI n) d) 0 = sm f 0 + lN n := by
    unfold pieceN inc
    rw [sm_upd (by omega) (by omega), sm_upd (by omega) (by omega), sm_upd (by omega) (by omega), sm_ad_n (by omega) (by omega) (by omega), sm_ad_n (by omega) (by omega) (by omega), sm_ad, hl]
  have s2 : sm (pieceN f (nI n) d) 2 = sm f 2 + -(lN n) := by
    unfold pieceN inc
    rw [sm_upd (by omega) (by omega), sm_upd (by omega) (by omega), sm_upd (by omega) (by omega), sm_ad_n (by omega) (by omega) (by omega), sm_ad, sm_ad_n (by omega) (by omega) (by omega), hng]
  have s46 : ∀ i, i = 4 ∨ i = 6 → sm (pieceN f (nI n) d) i = sm f i := by
    intro i hi
    unfold pieceN inc
    rw [sm_upd (by omega) (by omega), sm_upd (by omega) (by omega), sm_upd (by omega) (by omega), sm_ad_n (by omega) (by omega) (by omega), sm_ad_n (by omega) (by omega) (by omega), sm_ad_n (by omega) (by omega) (by omega)]
  have sd : sm (pieceN f (nI n) d) (depP d + 1) = sm f (depP d + 1) + lN n := by
    unfold pieceN inc
    rw [sm_upd (by omega) (by omega), sm_upd (by omega) (by omega), sm_upd (by omega) (by omega), sm_ad, sm_ad_n (by omega) (by omega) (by omega), sm_ad_n (by omega) (by omega) (by omega), hl]
  have se : ∀ e, e < 16 → e ≠ d → sm (pieceN f (nI n) d) (depP e + 1) = sm f (depP e + 1) := by
    intro e he hne
    have h1 : depP e = 15 + 3 * e := rfl
    have h2 : depP d = 15 + 3 * d := rfl
    unfold pieceN inc
    rw [sm_upd (by omega) (by omega), sm_upd (by omega) (by omega), sm_upd (by omega) (by omega), sm_ad_n (by omega) (by omega) (by omega), sm_ad_n (by omega) (by omega) (by omega), sm_ad_n (by omega) (by omega) (by omega)]
  have v8 : pieceN f (nI n) d 8 = f 8 + 1 := by
    unfold pieceN
    rw [upd_n (by decide), inc_s, inc_n (by omega), ad_n (by omega) (by omega), ad_n (by decide) (by decide), ad_n (by decide) (by decide)]
  have vd : pieceN f (nI n) d (depP d) = f (depP d) + 1 := by
    unfold pieceN
    rw [upd_n (by omega), inc_n (by omega), inc_s, ad_n (by omega) (by omega), ad_n (by omega) (by omega), ad_n (by omega) (by omega)]
  have ve : ∀ i, 9 ≤ i → i < 63 → i ≠ 14 → i ≠ depP d → i ≠ depP d + 1 → i ≠ depP d + 2 → pieceN f (nI n) d i = f i := by
    intro i h1 h2 h3 h4 h6 h7
    unfold pieceN
    rw [upd_n h3, inc_n (by omega), inc_n h4, ad_n h6 (by omega), ad_n (by omega) (by omega), ad_n (by omega) (by omega)]
  have hds : ∀ m, m ≤ 16 → ds (dayN (pieceN f (nI n) d) (nI n) t) m = ds f m + (if d < m then lN n else 0) := by
    intro m
    induction m with
    | zero => intro _; rw [if_neg (by omega)]; exact (i64_0 _).symm
    | succ m ih =>
      intro hm
      show ds (dayN (pieceN f (nI n) d) (nI n) t) m + sm (dayN (pieceN f (nI n) d) (nI n) t) (depP m + 1) = ds f m + sm f (depP m + 1) + _
      rw [ih (by omega), hS _ (by unfold depP; omega)]
      by_cases e : m = d
      · subst e
        rw [if_neg (by omega), if_pos (by omega), sd, i64_0, i64_e]
      · rw [se m (by omega) e]
        by_cases hlt : d < m
        · rw [if_pos hlt, if_pos (by omega)]; exact i64_d _ _ _
        · rw [if_neg hlt, if_neg (by omega), i64_0, i64_0]
  have r1 : sm (dayN (pieceN f (nI n) d) (nI n) t) 0 + sm (dayN (pieceN f (nI n) d) (nI n) t) 2 = sm (dayN (pieceN f (nI n) d) (nI n) t) 4 + sm (dayN (pieceN f (nI n) d) (nI n) t) 6 := by
    rw [hS 0 (by decide), hS 2 (by decide), hS 4 (by decide), hS 6 (by decide), s0, s2, s46 4 (Or.inl rfl), s46 6 (Or.inr rfl), i64_a]
    exact q1
  have r2 : ds (dayN (pieceN f (nI n) d) (nI n) t) 16 = sm (dayN (pieceN f (nI n) d) (nI n) t) 0 := by
    rw [hds 16 (Nat.le_refl _), hS 0 (by decide), s0, if_pos hd, q2]
  have r3 : ∀ e, e < 16 → dayN (pieceN f (nI n) d) (nI n) t (depP e) = nI ((fun z => if z = d then p z + 1 else p z) e) := by
    intro e he
    rw [hE _ (by unfold depP; omega)]
    by_cases hed : e = d
    · subst hed
      show _ = nI (if e = e then p e + 1 else p e)
      rw [if_pos rfl, vd, a1 e he, nI_1]
    · show _ = nI (if e = d then p e + 1 else p e)
      have h1 : depP e = 15 + 3 * e := rfl
      have h2 : depP d = 15 + 3 * d := rfl
      rw [if_neg hed, ve _ (by omega) (by omega) (by omega) (by omega) (by omega) (by omega), a1 e he]
  have r4 : pN (fun z => if z = d then p z + 1 else p z) 16 = P + 1 := by
    have gen : ∀ m, pN (fun z => if z = d then p z + 1 else p z) m = pN p m + (if d < m then 1 else 0) := by
      intro m
      induction m with
      | zero => rw [if_neg (by omega)]; rfl
      | succ m ih =>
        show pN (fun z => if z = d then p z + 1 else p z) m + (if m = d then p m + 1 else p m) = pN p m + p m + _
        rw [ih]
        by_cases e : m = d
        · rw [if_neg (by omega), if_pos e, if_pos (by omega)]; omega
        · rw [if_neg e]
          by_cases hlt : d < m
          · rw [if_pos hlt, if_pos (by omega)]; omega
          · rw [if_neg hlt, if_neg (by omega), Nat.add_zero, Nat.add_zero]
    rw [gen 16, if_pos hd, a3]
  have r5 : dayN (pieceN f (nI n) d) (nI n) t 8 = nI (P + 1) := by rw [hE 8 (by decide), v8, a2, nI_1]
  have r6 : sm (dayN (pieceN f (nI n) d) (nI n) t) 0 = lN (A + n) := by rw [hS 0 (by decide), s0, b1, lN_add]
  have r7 : dayN (pieceN f (nI n) d) (nI n) t 11 = f 11 := by rw [hE 11 (by decide), ve 11 (by decide) (by decide) (by decide) (by omega) (by omega) (by omega)]
  have r8 : dayN (pieceN f (nI n) d) (nI n) t 10 = f 10 := by rw [hE 10 (by decide), ve 10 (by decide) (by decide) (by decide) (by omega) (by omega) (by omega)]
  refine ⟨⟨r1, r2, ⟨_, P + 1, pn, r3, r5, r4, by omega, a5, by omega⟩, ⟨A + n, cn, r6, by omega, b3, by omega⟩, by rw [r7]; exact h5, R, by rw [r8]; exact c1, by omega⟩, ⟨r1, r2, ⟨_, P + 1, pn + 1, r3, r5, r4, by omega, by rw [a5, lN_1], by omega⟩, ⟨A + n, cn + n, r6, by omega, by rw [b3, hl, lN_add], by omega⟩, by rw [r7]; exact h5, R, by rw [r8]; exact c1, by omega⟩⟩
theorem SI_lock {f : Nat → Int32} {po co : Int64} {N : Nat} {v : Int32} (h : SI f po co N) (hv : v = 0 ∨ v = 1) : SI (upd f 11 v) po co N := by
  obtain ⟨q1, q2, ⟨p, P, pn, a1, a2, a3, a4, a5, a6⟩, ⟨A, cn, b1, b2, b3, b4⟩, h5, R, c1, c2⟩ := h
  have ev : ∀ i, i ≠ 11 → upd f 11 v i = f i := fun i hi => upd_n hi
  have es : ∀ i, i ≠ 10 → i ≠ 11 → sm (upd f 11 v) i = sm f i := fun i h1 h2 => by unfold sm; rw [ev i h2, ev (i + 1) (by omega)]
  have hds : ∀ n, ds (upd f 11 v) n = ds f n := by
    intro n
    induction n with
    | zero => rfl
    | succ n ih =>
      show ds (upd f 11 v) n + sm (upd f 11 v) (depP n + 1) = ds f n + sm f (depP n + 1)
      rw [ih, es _ (by unfold depP; omega) (by unfold depP; omega)]
  refine ⟨?_, ?_, ⟨p, P, pn, fun d hd => ?_, ?_, a3, a4, a5, a6⟩, ⟨A, cn, ?_, b2, b3, b4⟩, ?_, R, ?_, c2⟩
  · rw [es 0 (by decide) (by decide), es 2 (by decide) (by decide), es 4 (by decide) (by decide), es 6 (by decide) (by decide)]; exact q1
  · rw [hds, es 0 (by decide) (by decide)]; exact q2
  · rw [ev _ (by unfold depP; omega)]; exact a1 d hd
  · rw [ev 8 (by decide)]; exact a2
  · rw [es 0 (by decide) (by decide)]; exact b1
  · rw [upd_s]; exact hv
  · rw [ev 10 (by decide)]; exact c1
theorem SI_inc10 {g : Nat → Int32} {po co : Int64} {N : Nat} (h : SI g po co N) : SI (inc g 10) po co (N + 1) := by
  have hm := SI_mono h (Nat.le_succ N)
  obtain ⟨-, -, -, -, -, R, c1, c2⟩ := h
  obtain ⟨q1, q2, ⟨p, P, pn, a1, a2, a3, a4, a5, a6⟩, ⟨A, cn, b1, b2, b3, b4⟩, h5, -⟩ := hm
  have ev : ∀ i, i ≠ 10 → inc g 10 i = g i := fun i hi => inc_n hi
  have es : ∀ i, i ≠ 9 → i ≠ 10 → sm (inc g 10) i = sm g i := fun i h1 h2 => by unfold sm; rw [ev i h2, ev (i + 1) (by omega)]
  have hds : ∀ n, ds (inc g 10) n = ds g n := by
    intro n
    induction n with
    | zero => rfl
    | succ n ih =>
      show ds (inc g 10) n + sm (inc g 10) (depP n + 1) = ds g n + sm g (depP n + 1)
      rw [ih, es _ (by unfold depP; omega) (by unfold depP; omega)]
  refine ⟨?_, ?_, ⟨p, P, pn, fun d hd => ?_, ?_, a3, a4, a5, a6⟩, ⟨A, cn, ?_, b2, b3, b4⟩, ?_, R + 1, ?_, Nat.succ_le_succ c2⟩
  · rw [es 0 (by decide) (by decide), es 2 (by decide) (by decide), es 4 (by decide) (by decide), es 6 (by decide) (by decide)]; exact q1
  · rw [hds, es 0 (by decide) (by decide)]; exact q2
  · rw [ev _ (by unfold depP; omega)]; exact a1 d hd
  · rw [ev 8 (by decide)]; exact a2
  · rw [es 0 (by decide) (by decide)]; exact b1
  · rw [ev 11 (by decide)]; exact h5
  · rw [inc_s, c1, nI_1]
theorem SI_two {f : Nat → Int32} {po co : Int64} {N : Nat} (h : SI f po co N) (x : Int64) (j : Nat) (hj : j = 4 ∨ j = 6) : SI (ad (ad f 2 x) j x) po co N := by
  obtain ⟨q1, q2, ⟨p, P, pn, a1, a2, a3, a4, a5, a6⟩, ⟨A, cn, b1, b2, b3, b4⟩, h5, R, c1, c2⟩ := h
  have ns : ∀ i, i + 1 < 63 → i ≠ 1 → i ≠ 2 → i ≠ 3 → i ≠ j → i + 1 ≠ j → i ≠ j + 1 → sm (ad (ad f 2 x) j x) i = sm f i := by
    intro i h0 h1 h2 h3 h4 h5 h6
    rw [sm_ad_n (by omega) (by omega) (by omega), sm_ad_n (by omega) (by omega) (by omega)]
  have hds : ∀ n, n ≤ 16 → ds (ad (ad f 2 x) j x) n = ds f n := by
    intro n
    induction n with
    | zero => intro _; rfl
    | succ n ih =>
      intro hn
      show ds (ad (ad f 2 x) j x) n + sm (ad (ad f 2 x) j x) (depP n + 1) = ds f n + sm f (depP n + 1)
      have hdp : depP n = 15 + 3 * n := rfl
      rw [ih (by omega), ns _ (by omega) (by omega) (by omega) (by omega) (by omega) (by omega) (by omega)]
  have e0 : sm (ad (ad f 2 x) j x) 0 = sm f 0 := ns 0 (by decide) (by decide) (by decide) (by decide) (by omega) (by omega) (by omega)
  have e2 : sm (ad (ad f 2 x) j x) 2 = sm f 2 + x := by rw [sm_ad_n (by omega) (by omega) (by omega), sm_ad]
  have ev : ∀ i, 8 ≤ i → ad (ad f 2 x) j x i = f i := fun i hi => by rw [ad_n (by omega) (by omega), ad_n (by omega) (by omega)]
  refine ⟨?_, ?_, ⟨p, P, pn, fun d hd => ?_, ?_, a3, a4, a5, a6⟩, ⟨A, cn, ?_, b2, b3, b4⟩, ?_, R, ?_, c2⟩
  · rw [e0, e2]
    rcases hj with rfl | rfl
    · rw [sm_ad, sm_ad_n (i := 4) (j := 2) (by decide) (by decide) (by decide), sm_ad_n (i := 6) (j := 4) (by decide) (by decide) (by decide), sm_ad_n (i := 6) (j := 2) (by decide) (by decide) (by decide)]
      exact i64_b _ _ _ _ _ q1
    · rw [sm_ad, sm_ad_n (i := 6) (j := 2) (by decide) (by decide) (by decide), sm_ad_n (i := 4) (j := 6) (by decide) (by decide) (by decide), sm_ad_n (i := 4) (j := 2) (by decide) (by decide) (by decide)]
      exact i64_c _ _ _ _ _ q1
  · rw [hds 16 (Nat.le_refl _), e0]; exact q2
  · rw [ev _ (by unfold depP; omega)]; exact a1 d hd
  · rw [ev 8 (by decide)]; exact a2
  · rw [e0]; exact b1
  · rw [ev 11 (by decide)]; exact h5
  · rw [ev 10 (by decide)]; exact c1
/-- any other record -/
theorem SI_rec {f : Nat → Int32} {po co : Int64} {N : Nat} {k a b : Int32} (h : SI f po co N) (hv : VK k b) (hk : k ≠ 1) : SI (spX0_apply f k a b) po co (N + 1) := by
  have hN : N ≤ N + 1 := Nat.le_succ N
  obtain ⟨hk2, hb⟩ := hv
  rcases hk2 with rfl | rfl | rfl | rfl | rfl | rfl | rfl | rfl | rfl
  · exact absurd rfl hk
  · rw [k_ap2]; exact SI_mono (SI_same h (fun i _ _ _ _ h14 => upd_n h14)) hN
  · by_cases ca : a = 0
    · subst ca
      rw [k_ap3z]
      exact SI_mono (SI_same (SI_two h _ 6 (Or.inr rfl)) (fun i _ _ _ _ h14 => upd_n h14)) hN
    · rw [k_ap3n ca]; exact SI_mono (SI_same h (fun i _ _ _ _ h14 => upd_n h14)) hN
  · rw [k_ap4]; exact SI_inc10 (SI_two h a.toInt64 4 (Or.inl rfl))
  · rw [k_ap5]; exact SI_mono (SI_same (SI_two h a.toInt64 6 (Or.inr rfl)) (fun i _ h9 _ _ _ => inc_n h9)) hN
  · rw [k_ap6]; exact SI_mono (SI_same h (fun i _ _ h12 _ _ => upd_n h12)) hN
  · rw [k_ap7]; exact SI_mono (SI_lock h (Or.inr rfl)) hN
  · rw [k_ap8]; exact SI_mono (SI_lock h (Or.inl rfl)) hN
  · rw [k_ap9]; exact SI_mono (SI_same h (fun i _ _ _ h13 _ => upd_n h13)) hN
