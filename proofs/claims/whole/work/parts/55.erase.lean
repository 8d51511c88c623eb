/-! an erase, whole or cut, on both sides -/
def eL : Nat → (Nat → Int32) → Nat → Int32 → Nat → (Nat → Int32)
  | 0, wd, _, _, _ => wd
  | n + 1, wd, s, k, i => if bt k (i % 32) = true then eL n wd s k (i + 1) else eL n (upd wd (256 * s + i) (-1)) s k (i + 1)
theorem eL_e (n : Nat) (wd : Nat → Int32) (s : Nat) (k : Int32) (i : Nat) : eL (n + 1) wd s k i = if bt k (i % 32) = true then eL n wd s k (i + 1) else eL n (upd wd (256 * s + i) (-1)) s k (i + 1) := rfl
theorem k_mod32 {i : Nat} (h : i < 256) : nI i - nI i / (32 : Int32) * (32 : Int32) = nI (i % 32) := pk_rem (d := 32) (by omega) (by decide) (by decide)
theorem k_erase2L {s : Nat} (hs : s < 16) {pw ce lf mq ct x2 k : Int32} {er : Nat → Int32} : ∀ (c i fuel : Nat) (wd : Nat → Int32), c < fuel → i + c = 256 → lpX2_eraseSector_49 fuel pw ce lf mq ct wd er (nI s) x2 k (nI i) = (x2, pw, ce, lf, ct, eL c wd s k i, er) := by
  intro c
  induction c with
  | zero =>
    intro i fuel wd h1 h2
    obtain ⟨q, rfl⟩ : ∃ q, fuel = q + 1 := ⟨fuel - 1, by omega⟩
    rw [lpX2_eraseSector_49_e, if_pos (show (256 : Int32) ≤ nI i from nI_le (a := 256) (by omega) (by omega))]
    rfl
  | succ c ih =>
    intro i fuel wd h1 h2
    obtain ⟨q, rfl⟩ : ∃ q, fuel = q + 1 := ⟨fuel - 1, by omega⟩
    rw [lpX2_eraseSector_49_e, if_neg (show ¬ (256 : Int32) ≤ nI i from nI_ge (a := i) (b := 256) (by omega) (by decide)), k_mod32 (by omega), b_low, b_ushr (i % 32) (Nat.mod_lt _ (by decide)), Nat.add_zero, k_adr hs (by omega), nI_1, eL_e]
    by_cases hb : bt k (i % 32) = true
    · rw [if_pos hb, if_pos hb, if_neg (by decide), ih (i + 1) q wd (by omega) (by omega)]
    · rw [if_neg hb, if_neg hb, if_pos rfl, ih (i + 1) q _ (by omega) (by omega)]
theorem k_erase5L {s : Nat} (hs : s < 16) {kpw klf kmk x2 : Int32} {kwe : Nat → Int32} : ∀ (c i fuel : Nat) (wd : Nat → Int32), c < fuel → i + c = 256 → lpX5_erase_25 fuel kpw klf kmk wd kwe (nI s) x2 (nI i) = (kpw, klf, eL c wd s (if x2 = 0 then kmk else 0) i, kwe) := by
  intro c
  induction c with
  | zero =>
    intro i fuel wd h1 h2
    obtain ⟨q, rfl⟩ : ∃ q, fuel = q + 1 := ⟨fuel - 1, by omega⟩
    rw [lpX5_erase_25_e, if_pos (show (256 : Int32) ≤ nI i from nI_le (a := 256) (by omega) (by omega))]
    rfl
  | succ c ih =>
    intro i fuel wd h1 h2
    obtain ⟨q, rfl⟩ : ∃ q, fuel = q + 1 := ⟨fuel - 1, by omega⟩
    have hl : i % 32 < 32 := Nat.mod_lt _ (by decide)
    rw [lpX5_erase_25_e, if_neg (show ¬ (256 : Int32) ≤ nI i from nI_ge (a := i) (b := 256) (by omega) (by decide)), k_mod32 (by omega), b_low, b_sshr (i % 32) hl kmk (by decide), Nat.add_zero, if_pos hl, k_adr' hs (by omega), nI_1, eL_e]
    by_cases hx : x2 = 0
    · rw [if_pos hx, if_pos hx]
      by_cases hb : bt kmk (i % 32) = true
      · rw [if_pos hb, if_pos hb, if_pos rfl, upd_self, ih (i + 1) q wd (by omega) (by omega), if_pos hx]
      · rw [if_neg hb, if_neg hb, if_neg (by decide), ih (i + 1) q _ (by omega) (by omega), if_pos hx]
    · rw [if_neg hx, if_neg hx, b_0, if_neg (by decide), ih (i + 1) q _ (by omega) (by omega), if_neg hx]
/-- what an erase leaves of a word: itself, or all ones, and that in its sector alone; a whole one all ones there -/
theorem eL_any : ∀ (c i : Nat) (wd : Nat → Int32) (s : Nat) (k : Int32) (j : Nat), i + c ≤ 256 → eL c wd s k i j = wd j ∨ (eL c wd s k i j = -1 ∧ 256 * s + i ≤ j ∧ j < 256 * s + 256) := by
  intro c
  induction c with
  | zero => intro i wd s k j _; exact Or.inl rfl
  | succ c ih =>
    intro i wd s k j h
    rw [eL_e]
    split
    · rcases ih (i + 1) wd s k j (by omega) with h1 | ⟨h1, h2, h3⟩
      · exact Or.inl h1
      · exact Or.inr ⟨h1, by omega, h3⟩
    · rcases ih (i + 1) (upd wd (256 * s + i) (-1)) s k j (by omega) with h1 | ⟨h1, h2, h3⟩
      · by_cases e : j = 256 * s + i
        · right; rw [h1, e, upd_s]; exact ⟨rfl, by omega, by omega⟩
        · left; rw [h1, upd_n e]
      · exact Or.inr ⟨h1, by omega, h3⟩
theorem eL_all : ∀ (c i : Nat) (wd : Nat → Int32) (s j : Nat), i + c ≤ 256 → 256 * s + i ≤ j → j < 256 * s + i + c → eL c wd s 0 i j = -1 := by
  intro c
  induction c with
  | zero => intro i wd s j _ h1 h2; omega
  | succ c ih =>
    intro i wd s j h h1 h2
    rw [eL_e, b_0, if_neg (by decide)]
    by_cases e : j = 256 * s + i
    · rcases eL_any c (i + 1) (upd wd (256 * s + i) (-1)) s 0 j (by omega) with h3 | ⟨h3, -⟩
      · rw [h3, e, upd_s]
      · exact h3
    · exact ih (i + 1) _ s j (by omega) (by omega) (by omega)
/-- the erase: power, cut, cuts, words; wear -/
def EQ (q : Qs) (mq : Int32) (s : Nat) : Qs := match spX2_spendOne q.1 q.2.1 q.2.2.1 q.2.2.2.1 with
  | (r, p, c, l, t) => (p, c, l, t, eL 256 q.2.2.2.2 s (if r = 0 then mq else 0) 0)
theorem k_erase2 {ce lf mq ct : Int32} {wd er : Nat → Int32} {s : Nat} (hs : s < 16) : spX2_eraseSector 1 ce lf mq ct wd er (nI s) = ((EQ (1, ce, lf, ct, wd) mq s).1, (EQ (1, ce, lf, ct, wd) mq s).1, (EQ (1, ce, lf, ct, wd) mq s).2.1, (EQ (1, ce, lf, ct, wd) mq s).2.2.1, (EQ (1, ce, lf, ct, wd) mq s).2.2.2.1, (EQ (1, ce, lf, ct, wd) mq s).2.2.2.2, upd er s (er s + 1)) := by
  unfold spX2_eraseSector
  rw [if_neg (by decide), show spX2_holds (nI s) (0 : Int32) = 1 from k_holds1 (i := 0) hs (by decide), if_neg (by decide), nI_clamp (by omega)]
  unfold EQ
  dsimp only
  have key : (spX2_spendOne 1 ce lf ct).1 = (spX2_spendOne 1 ce lf ct).2.1 := by
    unfold spX2_spendOne
    rw [if_neg (by decide)]
    split
    · rfl
    · split <;> rfl
  rcases hq : spX2_spendOne 1 ce lf ct with ⟨r, p, c, l, t⟩
  rw [hq] at key
  dsimp only at key ⊢
  subst key
  by_cases h : r = 0
  · rw [if_pos h, if_pos h, show (0 : Int32) = nI 0 from rfl, k_erase2L hs 256 0 257 wd (by decide) rfl]
  · rw [if_neg h, if_neg h, show (0 : Int32) = nI 0 from rfl, k_erase2L hs 256 0 257 wd (by decide) rfl]
theorem k_erase5 {ce lf mq ct klf : Int32} {wd er : Nat → Int32} {s : Nat} (hs : s < 16) (hc : CR ce lf klf) : ∃ klf' : Int32, CR (EQ (1, ce, lf, ct, wd) mq s).2.1 (EQ (1, ce, lf, ct, wd) mq s).2.2.1 klf' ∧ spX5_erase 1 klf mq wd er (nI s) = ((EQ (1, ce, lf, ct, wd) mq s).1, klf', (EQ (1, ce, lf, ct, wd) mq s).2.2.2.2, upd er s (er s + 1)) := by
  have hw := k_write5 (ct := ct) (wd := wd) (s := 0) (i := 0) (v := 0) (by decide) (by decide) (Or.inr rfl) hc
  have hd : ∃ r p l : Int32, spX5_isDone 1 klf = (r, p, l) := ⟨_, _, _, rfl⟩
  unfold spX5_erase
  rw [if_neg (by decide), nI_clamp (by omega)]
  rcases hc with ⟨h1, h2⟩ | ⟨h1, h2, h3⟩
  · subst h1; subst h2
    have e : spX5_isDone 1 (-1) = (1, 1, -1) := by unfold spX5_isDone; rw [if_neg (by decide), if_pos (by decide)]
    have e2 : spX2_spendOne 1 0 lf ct = (1, 1, 0, lf, ct) := by unfold spX2_spendOne; rw [if_neg (by decide), if_pos rfl]
    unfold EQ
    rw [e, e2]
    dsimp only
    rw [show (0 : Int32) = nI 0 from rfl, k_erase5L hs 256 0 257 wd (by decide) rfl]
    exact ⟨-1, Or.inl ⟨rfl, rfl⟩, rfl⟩
  · subst h1; subst h2
    by_cases hz : klf = 0
    · subst hz
      have e : spX5_isDone 1 0 = (0, 0, -1) := by unfold spX5_isDone; rw [if_pos rfl]
      have e2 : spX2_spendOne 1 1 0 ct = (0, 0, 0, 0, ct + 1) := by unfold spX2_spendOne; rw [if_neg (by decide), if_neg (by decide), if_pos (by decide)]
      unfold EQ
      rw [e, e2]
      dsimp only
      rw [show (0 : Int32) = nI 0 from rfl, k_erase5L hs 256 0 257 wd (by decide) rfl]
      exact ⟨-1, Or.inl ⟨rfl, rfl⟩, rfl⟩
    · have hle : ¬ klf ≤ 0 := by
        intro h
        apply hz
        apply Int32.toInt_inj.mp
        rw [Int32.le_iff_toInt_le] at h h3
        rw [Int32.toInt_zero] at h h3 ⊢
        omega
      have e : spX5_isDone 1 klf = (1, 1, klf - 1) := by unfold spX5_isDone; rw [if_neg hz, if_neg hle]
      have e2 : spX2_spendOne 1 1 klf ct = (1, 1, 1, klf - 1, ct) := by unfold spX2_spendOne; rw [if_neg (by decide), if_neg (by decide), if_neg hle]
      unfold EQ
      rw [e, e2]
      dsimp only
      rw [show (0 : Int32) = nI 0 from rfl, k_erase5L hs 256 0 257 wd (by decide) rfl]
      refine ⟨klf - 1, Or.inr ⟨rfl, rfl, ?_⟩, rfl⟩
      obtain ⟨j, hj, rfl⟩ := nI_of (x := klf) (by rw [Int32.lt_iff_toInt_lt]; rw [Int32.le_iff_toInt_le] at h3; omega)
      have hj0 : 0 < j := by
        rcases Nat.eq_zero_or_pos j with q | q
        · rw [q] at hz; exact absurd rfl hz
        · exact q
      obtain ⟨i2, rfl⟩ : ∃ i2, j = i2 + 1 := ⟨j - 1, by omega⟩
      rw [nI_pred]
      exact nI_pos' (by omega)
/-- an erase is whole, and all is all ones; or it is cut, and power is gone -/
theorem EQ_spec {q : Qs} {mq : Int32} {s : Nat} (hp : q.1 = 1) : ((EQ q mq s).1 = 1 ∧ (EQ q mq s).2.2.2.1 = q.2.2.2.1 ∧ (EQ q mq s).2.2.2.2 = eL 256 q.2.2.2.2 s 0 0) ∨ ((EQ q mq s).1 = 0 ∧ (EQ q mq s).2.1 = 0 ∧ (EQ q mq s).2.2.2.1 = q.2.2.2.1 + 1 ∧ (EQ q mq s).2.2.2.2 = eL 256 q.2.2.2.2 s mq 0) := by
  obtain ⟨pw, ce, lf, ct, wd⟩ := q
  dsimp only at hp
  subst hp
  unfold EQ spX2_spendOne
  dsimp only
  rw [if_neg (by decide)]
  by_cases c1 : ce = 0
  · left; rw [if_pos c1]; exact ⟨rfl, rfl, rfl⟩
  · rw [if_neg c1]
    by_cases c2 : lf ≤ 0
    · right; rw [if_pos c2]; exact ⟨rfl, rfl, rfl, rfl⟩
    · left; rw [if_neg c2]; exact ⟨rfl, rfl, rfl⟩
