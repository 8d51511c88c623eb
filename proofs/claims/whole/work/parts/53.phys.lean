/-! the memory: reads, marks, writes, erases, on both sides -/
theorem k_holds1 {s i : Nat} (hs : s < 16) (hi : i < 256) : spX2_holds (nI s) (nI i) = 1 := by
  unfold spX2_holds
  rw [if_neg (nI_pos (by omega)), if_neg (show ¬ (16 : Int32) ≤ nI s from nI_ge (a := s) (b := 16) hs (by decide)), if_neg (nI_pos (by omega)), if_neg (show ¬ (256 : Int32) ≤ nI i from nI_ge (a := i) (b := 256) hi (by decide))]
theorem k_adr {s i : Nat} (hs : s < 16) (hi : i < 256) : Int32.toNatClampNeg ((nI s * (256 : Int32)) + nI i) = 256 * s + i := by
  rw [show (256 : Int32) = nI 256 from rfl, pk_mul, nI_add, nI_clamp (by omega), Nat.mul_comm]
theorem k_adr' {s i : Nat} (hs : s < 16) (hi : i < 256) : Int32.toNatClampNeg (((256 : Int32) * nI s) + nI i) = 256 * s + i := by
  rw [show (256 : Int32) = nI 256 from rfl, pk_mul, nI_add, nI_clamp (by omega)]
theorem k_read {f : Nat → Int32} {s i : Nat} (hs : s < 16) (hi : i < 256) : spX2_read f (nI s) (nI i) = f (256 * s + i) := by
  unfold spX2_read
  rw [k_holds1 hs hi, if_neg (by decide), k_adr hs hi]
def wds (f : Nat → Int32) (a : Nat) : Nat → List Int32
  | 0 => []
  | n + 1 => f a :: wds f (a + 1) n
def hsh (m : Int32) (l : List Int32) : Int32 := l.foldl (fun m w => (31 : Int32) * m + w) m
def mrk (l : List Int32) : Int32 := spX5_marked (hsh 17 l)
theorem hsh_cons (m w : Int32) (l : List Int32) : hsh m (w :: l) = hsh ((31 : Int32) * m + w) l := rfl
theorem mrk_ne (l : List Int32) : mrk l ≠ -1 := by
  unfold mrk spX5_marked
  by_cases h : (hsh 17 l ^^^ (1515870810 : Int32)) = (-1 : Int32)
  · rw [if_pos h]; decide
  · rw [if_neg h]; exact h
theorem k_mark5L {f : Nat → Int32} {a n : Nat} (h : a + n ≤ 4096) : ∀ (c k fuel : Nat) (m : Int32), c < fuel → k + c = a + n → lpX5_markOf_6 fuel f (nI a) (nI n) m (nI k) = spX5_marked (hsh m (wds f k c)) := by
  intro c
  induction c with
  | zero =>
    intro k fuel m h1 h2
    obtain ⟨q, rfl⟩ : ∃ q, fuel = q + 1 := ⟨fuel - 1, by omega⟩
    rw [lpX5_markOf_6_e, if_pos]
    · rfl
    · rw [nI_add]; exact nI_le (by omega) (by omega)
  | succ c ih =>
    intro k fuel m h1 h2
    obtain ⟨q, rfl⟩ : ∃ q, fuel = q + 1 := ⟨fuel - 1, by omega⟩
    rw [lpX5_markOf_6_e, if_neg, nI_clamp (by omega), nI_1, ih (k + 1) q _ (by omega) (by omega)]
    · rfl
    · rw [nI_add]; exact nI_ge (by omega) (by omega)
theorem k_mark5 {f : Nat → Int32} {a n : Nat} (h : a + n ≤ 4096) : spX5_markOf f (nI a) (nI n) = mrk (wds f a n) := by
  unfold spX5_markOf mrk
  exact k_mark5L h n a 4097 17 (by omega) rfl
theorem k_mark2L {f : Nat → Int32} {s p n : Nat} (hs : s < 16) (h : p + n ≤ 256) : ∀ (c k fuel : Nat) (m : Int32), c < fuel → k + c = n → lpX2_markOf_7 fuel f (nI s) (nI p) (nI n) m (nI k) = spX5_marked (hsh m (wds f (256 * s + p + k) c)) := by
  intro c
  induction c with
  | zero =>
    intro k fuel m h1 h2
    obtain ⟨q, rfl⟩ : ∃ q, fuel = q + 1 := ⟨fuel - 1, by omega⟩
    rw [lpX2_markOf_7_e, if_pos]
    · rfl
    · exact nI_le (by omega) (by omega)
  | succ c ih =>
    intro k fuel m h1 h2
    obtain ⟨q, rfl⟩ : ∃ q, fuel = q + 1 := ⟨fuel - 1, by omega⟩
    rw [lpX2_markOf_7_e, if_neg, if_neg, nI_add, k_read hs (by omega), nI_1, ih (k + 1) q _ (by omega) (by omega), show 256 * s + (p + k) = 256 * s + p + k by omega, show 256 * s + p + (k + 1) = 256 * s + p + k + 1 by omega]
    · rfl
    · exact nI_ge (a := k) (b := 256) (by omega) (by decide)
    · exact nI_ge (by omega) (by omega)
theorem k_mark2 {f : Nat → Int32} {s p n : Nat} (hs : s < 16) (h : p + n ≤ 256) : spX2_markOf f (nI s) (nI p) (nI n) = mrk (wds f (256 * s + p) n) := by
  unfold spX2_markOf mrk
  exact k_mark2L hs h n 0 257 17 (by omega) (by omega)
/-- power, the cut that is told, the cuts, the words -/
abbrev Qs : Type := Int32 × Int32 × Int32 × Int32 × (Nat → Int32)
def W1 (q : Qs) (a : Nat) (v : Int32) : Qs := match spX2_spendOne q.1 q.2.1 q.2.2.1 q.2.2.2.1 with
  | (r, p, c, l, t) => (p, c, l, t, if r = 0 then q.2.2.2.2 else upd q.2.2.2.2 a v)
def CR (ce lf klf : Int32) : Prop := (ce = 0 ∧ klf = -1) ∨ (ce = 1 ∧ klf = lf ∧ 0 ≤ lf)
theorem W1_cases {q : Qs} {a : Nat} {v : Int32} (hp : q.1 = 1) : (q.2.1 = 0 ∧ W1 q a v = (1, 0, q.2.2.1, q.2.2.2.1, upd q.2.2.2.2 a v)) ∨ (¬ q.2.1 = 0 ∧ q.2.2.1 ≤ 0 ∧ W1 q a v = (0, 0, q.2.2.1, q.2.2.2.1 + 1, q.2.2.2.2)) ∨ (¬ q.2.1 = 0 ∧ ¬ q.2.2.1 ≤ 0 ∧ W1 q a v = (1, q.2.1, q.2.2.1 - 1, q.2.2.2.1, upd q.2.2.2.2 a v)) := by
  obtain ⟨pw, ce, lf, ct, wd⟩ := q
  dsimp only at hp ⊢
  subst hp
  unfold W1 spX2_spendOne
  dsimp only
  by_cases c1 : ce = 0
  · left; subst c1; exact ⟨rfl, by rw [if_neg (by decide), if_pos rfl]; rfl⟩
  · right
    by_cases c2 : lf ≤ 0
    · left; exact ⟨c1, c2, by rw [if_neg (by decide), if_neg c1, if_pos c2]; rfl⟩
    · right; exact ⟨c1, c2, by rw [if_neg (by decide), if_neg c1, if_neg c2]; rfl⟩
theorem W1_off {q : Qs} {a : Nat} {v : Int32} (hp : q.1 = 0) : W1 q a v = q := by
  obtain ⟨pw, ce, lf, ct, wd⟩ := q
  dsimp only at hp
  subst hp
  unfold W1 spX2_spendOne
  dsimp only
  rw [if_pos rfl]
  rfl
theorem W1_01 {q : Qs} {a : Nat} {v : Int32} (hp : q.1 = 0 ∨ q.1 = 1) : (W1 q a v).1 = 0 ∨ (W1 q a v).1 = 1 := by
  rcases hp with hp | hp
  · rw [W1_off hp]; exact Or.inl hp
  · rcases W1_cases (a := a) (v := v) hp with ⟨-, e⟩ | ⟨-, -, e⟩ | ⟨-, -, e⟩ <;> rw [e]
    · exact Or.inr rfl
    · exact Or.inl rfl
    · exact Or.inr rfl
theorem k_write2 {pw ce lf ct : Int32} {wd : Nat → Int32} {s i : Nat} {v : Int32} (hs : s < 16) (hi : i < 256) (hp : pw = 0 ∨ pw = 1) : spX2_write pw ce lf ct wd (nI s) (nI i) v = ((W1 (pw, ce, lf, ct, wd) (256 * s + i) v).1, W1 (pw, ce, lf, ct, wd) (256 * s + i) v) := by
  unfold spX2_write
  rw [k_holds1 hs hi, if_neg (by decide), k_adr hs hi]
  unfold W1
  dsimp only
  have key : (spX2_spendOne pw ce lf ct).1 = (spX2_spendOne pw ce lf ct).2.1 := by
    unfold spX2_spendOne
    rcases hp with rfl | rfl
    · rw [if_pos rfl]
    · rw [if_neg (by decide)]
      split
      · rfl
      · split <;> rfl
  have k01 := k_spend01 pw ce lf ct
  rcases hq : spX2_spendOne pw ce lf ct with ⟨r, p, c, l, t⟩
  rw [hq] at key k01
  dsimp only at key k01 ⊢
  subst key
  by_cases h : r = 0
  · rw [if_pos h, if_pos h, h]
  · rw [if_neg h, if_neg h]
    rcases k01 with k01 | k01
    · exact absurd k01 h
    · rw [k01]
theorem k_write5 {pw ce lf ct klf : Int32} {wd : Nat → Int32} {s i : Nat} {v : Int32} (hs : s < 16) (hi : i < 256) (hp : pw = 0 ∨ pw = 1) (hc : CR ce lf klf) : ∃ klf' : Int32, CR (W1 (pw, ce, lf, ct, wd) (256 * s + i) v).2.1 (W1 (pw, ce, lf, ct, wd) (256 * s + i) v).2.2.1 klf' ∧ spX5_write pw klf (nI s) wd (nI i) v = ((W1 (pw, ce, lf, ct, wd) (256 * s + i) v).1, klf', (W1 (pw, ce, lf, ct, wd) (256 * s + i) v).2.2.2.2) := by
  unfold spX5_write
  rw [k_adr' hs hi]
  rcases hp with rfl | rfl
  · rw [W1_off rfl, if_pos rfl]
    exact ⟨klf, hc, rfl⟩
  · rw [if_neg (by decide)]
    rcases hc with ⟨h1, h2⟩ | ⟨h1, h2, h3⟩
    · subst h1; subst h2
      have e : spX5_isDone 1 (-1) = (1, 1, -1) := by unfold spX5_isDone; rw [if_neg (by decide), if_pos (by decide)]
      rw [e]
      dsimp only
      rw [if_neg (by decide)]
      rcases W1_cases (q := (1, 0, lf, ct, wd)) (a := 256 * s + i) (v := v) rfl with ⟨-, e⟩ | ⟨h, -, e⟩ | ⟨h, -, e⟩
      · rw [e]; exact ⟨-1, Or.inl ⟨rfl, rfl⟩, rfl⟩
      · exact absurd rfl h
      · exact absurd rfl h
    · subst h1; subst h2
      rcases W1_cases (q := (1, 1, klf, ct, wd)) (a := 256 * s + i) (v := v) rfl with ⟨h, -⟩ | ⟨-, h, e⟩ | ⟨-, h, e⟩
      · exact absurd (show (1 : Int32) = 0 from h) (by decide)
      · dsimp only at h
        have hz : klf = 0 := by
          apply Int32.toInt_inj.mp
          rw [Int32.le_iff_toInt_le] at h h3
          rw [Int32.toInt_zero] at h h3 ⊢
          omega
        have e2 : spX5_isDone 1 klf = (0, 0, -1) := by unfold spX5_isDone; rw [if_pos hz]
        rw [e2, e]
        dsimp only
        rw [if_pos rfl]
        exact ⟨-1, Or.inl ⟨rfl, rfl⟩, rfl⟩
      · dsimp only at h
        have hz : ¬ klf = 0 := fun q => h (by rw [q]; decide)
        have e2 : spX5_isDone 1 klf = (1, 1, klf - 1) := by unfold spX5_isDone; rw [if_neg hz, if_neg h]
        rw [e2, e]
        dsimp only
        rw [if_neg (by decide)]
        refine ⟨klf - 1, Or.inr ⟨rfl, rfl, ?_⟩, rfl⟩
        obtain ⟨j, hj, rfl⟩ := nI_of (x := klf) (by rw [Int32.lt_iff_toInt_lt]; rw [Int32.le_iff_toInt_le] at h3; omega)
        have hj0 : 0 < j := by
          rcases Nat.eq_zero_or_pos j with q | q
          · rw [q] at hz; exact absurd rfl hz
          · exact q
        obtain ⟨i2, rfl⟩ : ∃ i2, j = i2 + 1 := ⟨j - 1, by omega⟩
        rw [nI_pred]
        exact nI_pos' (by omega)
theorem k_off5 {klf ksc : Int32} {wd : Nat → Int32} {i v : Int32} : spX5_write 0 klf ksc wd i v = (0, klf, wd) := by
  unfold spX5_write
  rw [if_pos rfl]
/-- words written one behind the other -/
def WS (q : Qs) (a : Nat) : List Int32 → Qs
  | [] => q
  | v :: vs => WS (W1 q a v) (a + 1) vs
theorem WS_off {q : Qs} {a : Nat} {vs : List Int32} (hp : q.1 = 0) : WS q a vs = q := by
  induction vs generalizing a with
  | nil => rfl
  | cons v vs ih => show WS (W1 q a v) (a + 1) vs = q; rw [W1_off hp]; exact ih
theorem WS_01 {q : Qs} {a : Nat} {vs : List Int32} (hp : q.1 = 0 ∨ q.1 = 1) : (WS q a vs).1 = 0 ∨ (WS q a vs).1 = 1 := by
  induction vs generalizing a q with
  | nil => exact hp
  | cons v vs ih => exact ih (W1_01 hp)
theorem WS_app {q : Qs} {a : Nat} {l1 l2 : List Int32} : WS q a (l1 ++ l2) = WS (WS q a l1) (a + l1.length) l2 := by
  induction l1 generalizing a q with
  | nil => rfl
  | cons v vs ih =>
    show WS (W1 q a v) (a + 1) (vs ++ l2) = WS (WS (W1 q a v) (a + 1) vs) (a + (vs.length + 1)) l2
    rw [ih, show a + 1 + vs.length = a + (vs.length + 1) by omega]
def wAll (f : Nat → Int32) (a : Nat) : List Int32 → Nat → Int32
  | [] => f
  | v :: vs => wAll (upd f a v) (a + 1) vs
theorem wAll_out {f : Nat → Int32} {a : Nat} {vs : List Int32} {j : Nat} (h : j < a ∨ a + vs.length ≤ j) : wAll f a vs j = f j := by
  induction vs generalizing a f with
  | nil => rfl
  | cons v vs ih =>
    show wAll (upd f a v) (a + 1) vs j = f j
    simp only [List.length_cons] at h
    rw [ih (by omega), upd_n (by omega)]
theorem wAll_in {f : Nat → Int32} {a : Nat} {vs : List Int32} {j : Nat} (h : j < vs.length) : wAll f a vs (a + j) = vs.getD j 0 := by
  induction vs generalizing a f j with
  | nil => exact absurd h (by simp)
  | cons v vs ih =>
    show wAll (upd f a v) (a + 1) vs (a + j) = _
    cases j with
    | zero => rw [wAll_out (by omega), Nat.add_zero, upd_s]; rfl
    | succ j =>
      rw [show a + (j + 1) = a + 1 + j by omega, ih (by simpa using h)]
      rfl
/-- what a row of writes leaves: all, or those ahead of the cut -/
theorem WS_spec {q : Qs} {a : Nat} {vs : List Int32} (hp : q.1 = 1) : ((WS q a vs).1 = 1 ∧ (WS q a vs).2.2.2.2 = wAll q.2.2.2.2 a vs ∧ (WS q a vs).2.2.2.1 = q.2.2.2.1) ∨ ((WS q a vs).1 = 0 ∧ (WS q a vs).2.1 = 0 ∧ (WS q a vs).2.2.2.1 = q.2.2.2.1 + 1 ∧ ∃ k : Nat, k < vs.length ∧ (WS q a vs).2.2.2.2 = wAll q.2.2.2.2 a (vs.take k)) := by
  induction vs generalizing a q with
  | nil => exact Or.inl ⟨hp, rfl, rfl⟩
  | cons v vs ih =>
    have hc : WS q a (v :: vs) = WS (W1 q a v) (a + 1) vs := rfl
    rw [hc]
    rcases W1_cases (a := a) (v := v) hp with ⟨-, e⟩ | ⟨-, -, e⟩ | ⟨-, -, e⟩
    · rcases ih (q := W1 q a v) (a := a + 1) (by rw [e]) with ⟨h1, h2, h3⟩ | ⟨h1, h2, h3, k, hk, h4⟩
      · left; refine ⟨h1, ?_, ?_⟩
        · rw [h2, e]; rfl
        · rw [h3, e]
      · right; refine ⟨h1, h2, ?_, k + 1, by simpa using hk, ?_⟩
        · rw [h3, e]
        · rw [h4, e]; rfl
    · right
      have hw : WS (W1 q a v) (a + 1) vs = W1 q a v := WS_off (by rw [e])
      refine ⟨?_, ?_, ?_, 0, by simp, ?_⟩
      · rw [hw, e]
      · rw [hw, e]
      · rw [hw, e]
      · rw [hw, e]; rfl
    · rcases ih (q := W1 q a v) (a := a + 1) (by rw [e]) with ⟨h1, h2, h3⟩ | ⟨h1, h2, h3, k, hk, h4⟩
      · left; refine ⟨h1, ?_, ?_⟩
        · rw [h2, e]; rfl
        · rw [h3, e]
      · right; refine ⟨h1, h2, ?_, k + 1, by simpa using hk, ?_⟩
        · rw [h3, e]
        · rw [h4, e]; rfl
