/-! append and put: one and the same -/
def blk (f : Nat → Int32) (a : Nat) : Nat → Prop
  | 0 => True
  | n + 1 => f a = -1 ∧ blk f (a + 1) n
theorem k_blank2L {f : Nat → Int32} {s p : Nat} (hs : s < 16) (hp : p + 5 ≤ 256) : ∀ (c j fuel : Nat), c < fuel → j + c = 5 → (blk f (256 * s + (p + j)) c → lpX2_areBlank_3 fuel f (nI s) (nI p) (5 : Int32) (nI j) = 1) ∧ (¬ blk f (256 * s + (p + j)) c → lpX2_areBlank_3 fuel f (nI s) (nI p) (5 : Int32) (nI j) = 0) := by
  intro c
  induction c with
  | zero =>
    intro j fuel h1 h2
    obtain ⟨z, rfl⟩ : ∃ z, fuel = z + 1 := ⟨fuel - 1, by omega⟩
    refine ⟨fun _ => ?_, fun h => absurd trivial h⟩
    rw [lpX2_areBlank_3_e, if_pos (show (5 : Int32) ≤ nI j from nI_le (a := 5) (by omega) (by omega))]
  | succ c ih =>
    intro j fuel h1 h2
    obtain ⟨z, rfl⟩ : ∃ z, fuel = z + 1 := ⟨fuel - 1, by omega⟩
    rw [lpX2_areBlank_3_e, if_neg (show ¬ (5 : Int32) ≤ nI j from nI_ge (a := j) (b := 5) (by omega) (by decide)), if_neg (show ¬ (256 : Int32) ≤ nI j from nI_ge (a := j) (b := 256) (by omega) (by decide)), nI_add, k_read hs (by omega), nI_1]
    obtain ⟨i1, i2⟩ := ih (j + 1) z (by omega) (by omega)
    rw [show 256 * s + (p + (j + 1)) = 256 * s + (p + j) + 1 by omega] at i1 i2
    constructor
    · intro h
      rw [if_pos h.1]; exact i1 h.2
    · intro h
      by_cases h0 : f (256 * s + (p + j)) = -1
      · rw [if_pos h0]; exact i2 (fun h3 => h ⟨h0, h3⟩)
      · rw [if_neg h0]
theorem k_free5L {f : Nat → Int32} {s p : Nat} (hs : s < 16) (hp : p + 5 ≤ 256) : ∀ (c j fuel : Nat), c < fuel → j + c = 5 → lpX5_isFree_4 fuel (nI s) f (nI p) 0 (nI j) = 0 ∧ (blk f (256 * s + (p + j)) c → lpX5_isFree_4 fuel (nI s) f (nI p) 1 (nI j) = 1) ∧ (¬ blk f (256 * s + (p + j)) c → lpX5_isFree_4 fuel (nI s) f (nI p) 1 (nI j) = 0) := by
  intro c
  induction c with
  | zero =>
    intro j fuel h1 h2
    obtain ⟨z, rfl⟩ : ∃ z, fuel = z + 1 := ⟨fuel - 1, by omega⟩
    refine ⟨?_, fun _ => ?_, fun h => absurd trivial h⟩
    · rw [lpX5_isFree_4_e, if_pos (show (5 : Int32) ≤ nI j from nI_le (a := 5) (by omega) (by omega))]
    · rw [lpX5_isFree_4_e, if_pos (show (5 : Int32) ≤ nI j from nI_le (a := 5) (by omega) (by omega))]
  | succ c ih =>
    intro j fuel h1 h2
    obtain ⟨z, rfl⟩ : ∃ z, fuel = z + 1 := ⟨fuel - 1, by omega⟩
    obtain ⟨i0, i1, i2⟩ := ih (j + 1) z (by omega) (by omega)
    rw [show 256 * s + (p + (j + 1)) = 256 * s + (p + j) + 1 by omega] at i1 i2
    have hn : ¬ (5 : Int32) ≤ nI j := nI_ge (a := j) (b := 5) (by omega) (by decide)
    have ha : Int32.toNatClampNeg ((((256 : Int32) * nI s) + nI p) + nI j) = 256 * s + (p + j) := by
      rw [show (256 : Int32) = nI 256 from rfl, pk_mul, nI_add, nI_add, nI_clamp (by omega)]; omega
    refine ⟨?_, fun h => ?_, fun h => ?_⟩
    · rw [lpX5_isFree_4_e, if_neg hn, if_pos rfl, nI_1]; exact i0
    · rw [lpX5_isFree_4_e, if_neg hn, if_neg (by decide), ha, if_pos h.1, nI_1]; exact i1 h.2
    · rw [lpX5_isFree_4_e, if_neg hn, if_neg (by decide), ha, nI_1]
      by_cases h0 : f (256 * s + (p + j)) = -1
      · rw [if_pos h0]; exact i2 (fun h3 => h ⟨h0, h3⟩)
      · rw [if_neg h0]; exact i0
theorem k_blank2 {f : Nat → Int32} {s p : Nat} (hs : s < 16) (hp : p + 5 ≤ 256) : spX2_areBlank f (nI s) (nI p) (5 : Int32) = 0 ↔ ¬ blk f (256 * s + p) 5 := by
  have h := k_blank2L (f := f) hs hp 5 0 257 (by decide) rfl
  rw [Nat.add_zero] at h
  unfold spX2_areBlank
  constructor
  · intro e hb
    have := h.1 hb
    rw [show (nI 0) = (0 : Int32) from rfl, e] at this
    exact absurd this (by decide)
  · intro hb; exact h.2 hb
theorem k_free5 {f : Nat → Int32} {s p : Nat} (hs : s < 16) (hp : p + 5 ≤ 256) : spX5_isFree (nI s) f (nI p) = 0 ↔ ¬ blk f (256 * s + p) 5 := by
  have h := k_free5L (f := f) hs hp 5 0 6 (by decide) rfl
  rw [Nat.add_zero] at h
  unfold spX5_isFree
  constructor
  · intro e hb
    have := h.2.1 hb
    rw [show (nI 0) = (0 : Int32) from rfl, e] at this
    exact absurd this (by decide)
  · intro hb; exact h.2.2 hb
def room (f : Nat → Int32) (s r : Nat) : Prop := r < 12 ∧ blk f (256 * s + (194 + 5 * r)) 5
theorem k_room {f : Nat → Int32} {s r : Nat} (hs : s < 16) (hr : r ≤ 12) : spX1_hasRoom (nI s) (nI r) f = 0 ↔ ¬ room f s r := by
  unfold spX1_hasRoom room
  rw [k_recAt]
  by_cases h12 : r < 12
  · rw [if_neg (show ¬ (12 : Int32) ≤ nI r from nI_ge (a := r) (b := 12) h12 (by decide))]
    have := k_blank2 (f := f) (s := s) (p := 194 + 5 * r) hs (by omega)
    by_cases hb : blk f (256 * s + (194 + 5 * r)) 5
    · rw [if_neg (fun e => this.mp e hb)]
      exact ⟨fun h => absurd h (by decide), fun h => absurd ⟨h12, hb⟩ h⟩
    · rw [if_pos (this.mpr hb)]
      exact ⟨fun _ h => hb h.2, fun _ => rfl⟩
  · rw [if_pos (show (12 : Int32) ≤ nI r from nI_le (a := 12) (by omega) (by omega))]
    exact ⟨fun _ h => h12 h.1, fun _ => rfl⟩
/-- the reference's row for a record -/
def kr4 (kre : Nat → Int32) (n k a b : Int32) : Nat → Int32 := upd (upd (upd (upd (upd kre 0 n) 1 k) 2 a) 3 b) 4 (mrk [n, k, a, b])
theorem k_rec5 {kpw klf kmk krc kno ct k a b ce lf : Int32} {kme kwe kbo kre : Nat → Int32} {s r : Nat} (hs : s < 16) (hr : r ≤ 11) (hp : kpw = 0 ∨ kpw = 1) (hc : CR ce lf klf) : ∃ klf' : Int32, CR (WS (kpw, ce, lf, ct, kme) (256 * s + (194 + 5 * r)) (rl (kno + 1) k a b)).2.1 (WS (kpw, ce, lf, ct, kme) (256 * s + (194 + 5 * r)) (rl (kno + 1) k a b)).2.2.1 klf' ∧ lpX5_put_97 5 kpw klf kmk (nI s) krc kno kme kwe kbo (upd (upd (upd (upd kre (Int32.toNatClampNeg (0 : Int32)) (kno + (1 : Int32))) (Int32.toNatClampNeg (1 : Int32)) k) (Int32.toNatClampNeg (2 : Int32)) a) (Int32.toNatClampNeg (3 : Int32)) b) k a b (nI (194 + 5 * r)) (17 : Int32) (0 : Int32) = ((WS (kpw, ce, lf, ct, kme) (256 * s + (194 + 5 * r)) (rl (kno + 1) k a b)).1, (WS (kpw, ce, lf, ct, kme) (256 * s + (194 + 5 * r)) (rl (kno + 1) k a b)).1, klf', nI s, (if (WS (kpw, ce, lf, ct, kme) (256 * s + (194 + 5 * r)) (rl (kno + 1) k a b)).1 = 0 then krc else krc + 1), (if (WS (kpw, ce, lf, ct, kme) (256 * s + (194 + 5 * r)) (rl (kno + 1) k a b)).1 = 0 then kno else kno + 1), (WS (kpw, ce, lf, ct, kme) (256 * s + (194 + 5 * r)) (rl (kno + 1) k a b)).2.2.2.2, kwe, (if (WS (kpw, ce, lf, ct, kme) (256 * s + (194 + 5 * r)) (rl (kno + 1) k a b)).1 = 0 then kbo else spX5_act kbo k a b), kr4 kre (kno + 1) k a b) := by
  have hk : (upd (upd (upd (upd kre (Int32.toNatClampNeg (0 : Int32)) (kno + (1 : Int32))) (Int32.toNatClampNeg (1 : Int32)) k) (Int32.toNatClampNeg (2 : Int32)) a) (Int32.toNatClampNeg (3 : Int32)) b) = upd (upd (upd (upd kre 0 (kno + 1)) 1 k) 2 a) 3 b := rfl
  rw [hk, k_97 (n := kno + 1) (by rw [upd_n (by decide), upd_n (by decide), upd_n (by decide), upd_s]) (by rw [upd_n (by decide), upd_n (by decide), upd_s]) (by rw [upd_n (by decide), upd_s]) (by rw [upd_s])]
  have hw : wds (kr4 kre (kno + 1) k a b) 0 5 = rl (kno + 1) k a b := by
    unfold kr4 rl
    simp only [wds]
    rw [upd_s, upd_n (show 0 ≠ 4 by decide), upd_n (show 0 ≠ 3 by decide), upd_n (show 0 ≠ 2 by decide), upd_n (show 0 ≠ 1 by decide), upd_s, upd_n (show 0 + 1 ≠ 4 by decide), upd_n (show 0 + 1 ≠ 3 by decide), upd_n (show 0 + 1 ≠ 2 by decide), upd_s, upd_n (show 0 + 1 + 1 ≠ 4 by decide), upd_n (show 0 + 1 + 1 ≠ 3 by decide), upd_s, upd_n (show 0 + 1 + 1 + 1 ≠ 4 by decide), upd_s]
  have h := k_138 (kwe := kwe) (kbo := kbo) (kre := kr4 kre (kno + 1) k a b) (kmk := kmk) (krc := krc) (kno := kno) (p1 := k) (p2 := a) (p3 := b) (x5 := hsh 17 [kno + 1, k, a, b]) (s := s) (pl := 194 + 5 * r) hs (by omega) 5 0 6 (kpw, ce, lf, ct, kme) klf (by decide) rfl hp hc
  rw [hw, Nat.add_zero] at h
  exact h
