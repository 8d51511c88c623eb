/-! a sector is begun: both sides write the same row of words -/
theorem wds_len (f : Nat → Int32) (a n : Nat) : (wds f a n).length = n := by
  induction n generalizing a with
  | zero => rfl
  | succ n ih => show (wds f (a + 1) n).length + 1 = n + 1; rw [ih]
theorem wds_congr {f g : Nat → Int32} {a b n : Nat} (h : ∀ j, j < n → f (a + j) = g (b + j)) : wds f a n = wds g b n := by
  induction n generalizing a b with
  | zero => rfl
  | succ n ih =>
    show f a :: wds f (a + 1) n = g b :: wds g (b + 1) n
    rw [show f a = g b from h 0 (by omega), ih (a := a + 1) (b := b + 1) (fun j hj => by have := h (j + 1) (by omega); rw [show a + 1 + j = a + (j + 1) by omega, show b + 1 + j = b + (j + 1) by omega]; exact this)]
theorem wds_get {f : Nat → Int32} {a n j : Nat} (h : j < n) : (wds f a n).getD j 0 = f (a + j) := by
  induction n generalizing a j with
  | zero => omega
  | succ n ih =>
    cases j with
    | zero => rfl
    | succ j =>
      show (wds f (a + 1) n).getD j 0 = _
      rw [ih (by omega), show a + 1 + j = a + (j + 1) by omega]
theorem wds_wAll {f : Nat → Int32} {a : Nat} {vs : List Int32} : wds (wAll f a vs) a vs.length = vs := by
  induction vs generalizing a f with
  | nil => rfl
  | cons v vs ih =>
    show wAll (upd f a v) (a + 1) vs a :: wds (wAll (upd f a v) (a + 1) vs) (a + 1) vs.length = v :: vs
    rw [ih, wAll_out (by omega), upd_s]
def hd0 (g n : Int32) (bw : Nat → Int32) : List Int32 := g :: n :: wds bw 0 191
def hdr (g n : Int32) (bw : Nat → Int32) : List Int32 := hd0 g n bw ++ [mrk (hd0 g n bw)]
theorem hd0_len (g n : Int32) (bw : Nat → Int32) : (hd0 g n bw).length = 193 := by unfold hd0; rw [List.length_cons, List.length_cons, wds_len]
theorem hdr_len (g n : Int32) (bw : Nat → Int32) : (hdr g n bw).length = 194 := by unfold hdr; rw [List.length_append, hd0_len]; rfl
theorem hdr_cons (g n : Int32) (bw : Nat → Int32) : hdr g n bw = g :: n :: (wds bw 0 191 ++ [mrk (hd0 g n bw)]) := by
  unfold hdr
  rw [show hd0 g n bw = g :: n :: wds bw 0 191 from rfl, List.cons_append, List.cons_append]
theorem WS_cons (q : Qs) (a : Nat) (v : Int32) (vs : List Int32) : WS q a (v :: vs) = WS (W1 q a v) (a + 1) vs := rfl
theorem WS_one (q : Qs) (a : Nat) (v : Int32) : WS q a [v] = W1 q a v := rfl
theorem wAll_cons (f : Nat → Int32) (a : Nat) (v : Int32) (vs : List Int32) : wAll f a (v :: vs) = wAll (upd f a v) (a + 1) vs := rfl
def BG (q : Qs) (mq : Int32) (s : Nat) (g n : Int32) (bw : Nat → Int32) : Qs := WS (EQ q mq s) (256 * s) (hdr g n bw)
theorem k_wB {bw : Nat → Int32} {s : Nat} (hs : s < 16) : ∀ (c i fuel : Nat) (q : Qs), c < fuel → i + c = 191 → q.1 = 1 → lpX1_writeBooks_2 fuel q.1 q.2.1 q.2.2.1 q.2.2.2.1 q.2.2.2.2 bw (nI s) (nI i) = ((WS q (256 * s + (2 + i)) (wds bw i c)).1, WS q (256 * s + (2 + i)) (wds bw i c)) := by
  intro c
  induction c with
  | zero =>
    intro i fuel q h1 h2 hq
    obtain ⟨z, rfl⟩ : ∃ z, fuel = z + 1 := ⟨fuel - 1, by omega⟩
    rw [lpX1_writeBooks_2_e, if_pos (show (191 : Int32) ≤ nI i from nI_le (a := 191) (by omega) (by omega))]
    show ((1 : Int32), q) = (q.1, q)
    rw [hq]
  | succ c ih =>
    intro i fuel q h1 h2 hq
    obtain ⟨z, rfl⟩ : ∃ z, fuel = z + 1 := ⟨fuel - 1, by omega⟩
    rw [lpX1_writeBooks_2_e, if_neg (show ¬ (191 : Int32) ≤ nI i from nI_ge (a := i) (b := 191) (by omega) (by decide)), show (2 : Int32) + nI i = nI (2 + i) from nI_add 2 i, k_at (by omega), k_write2 hs (by omega) (Or.inr hq)]
    have hw : WS q (256 * s + (2 + i)) (wds bw i (c + 1)) = WS (W1 q (256 * s + (2 + i)) (bw i)) (256 * s + (2 + i) + 1) (wds bw (i + 1) c) := rfl
    rw [hw]
    have hW : W1 (q.1, q.2.1, q.2.2.1, q.2.2.2.1, q.2.2.2.2) (256 * s + (2 + i)) (bw i) = W1 q (256 * s + (2 + i)) (bw i) := rfl
    rw [hW]
    have h01 := W1_01 (a := 256 * s + (2 + i)) (v := bw i) (Or.inr hq)
    generalize W1 q (256 * s + (2 + i)) (bw i) = w at h01 ⊢
    obtain ⟨p, ce, lf, ct, wd⟩ := w
    dsimp only at h01 ⊢
    rcases h01 with h0 | h0
    · subst h0
      rw [if_pos rfl, WS_off rfl]
    · subst h0
      rw [if_neg (by decide), nI_1]
      have := ih (i + 1) z (1, ce, lf, ct, wd) (by omega) (by omega) rfl
      dsimp only at this
      rw [this, show 256 * s + (2 + i) + 1 = 256 * s + (2 + (i + 1)) by omega]
theorem k_start {sc rc la ce lf mq ct g : Int32} {wd er bw : Nat → Int32} {s : Nat} (hs : s < 16) : spX1_startSector sc rc la 1 ce lf mq ct wd er bw (nI s) g = ((BG (1, ce, lf, ct, wd) mq s g la bw).1, (if (BG (1, ce, lf, ct, wd) mq s g la bw).1 = 0 then sc else nI s), (if (BG (1, ce, lf, ct, wd) mq s g la bw).1 = 0 then rc else 0), (BG (1, ce, lf, ct, wd) mq s g la bw).1, (BG (1, ce, lf, ct, wd) mq s g la bw).2.1, (BG (1, ce, lf, ct, wd) mq s g la bw).2.2.1, (BG (1, ce, lf, ct, wd) mq s g la bw).2.2.2.1, (BG (1, ce, lf, ct, wd) mq s g la bw).2.2.2.2, upd er s (er s + 1)) := by
  unfold spX1_startSector
  rw [k_erase2 hs]
  have hE := EQ_spec (q := (1, ce, lf, ct, wd)) (mq := mq) (s := s) rfl
  have hB : BG (1, ce, lf, ct, wd) mq s g la bw = WS (EQ (1, ce, lf, ct, wd) mq s) (256 * s) (hdr g la bw) := rfl
  have hw0 : wds bw 0 191 = wds bw 0 191 := rfl
  have hlen : (wds bw 0 191).length = 191 := wds_len _ _ _
  have hwB := fun (q : Qs) (hq : q.1 = 1) => k_wB (bw := bw) hs 191 0 192 q (by decide) rfl hq
  have hhd : hd0 g la bw = g :: la :: wds bw 0 191 := rfl
  rw [hB, hdr_cons, WS_cons, WS_cons]
  generalize wds bw 0 191 = BL at hlen hwB hhd ⊢
  generalize hM : mrk (hd0 g la bw) = MK
  have hE1 : (EQ (1, ce, lf, ct, wd) mq s).1 = 1 ∨ (EQ (1, ce, lf, ct, wd) mq s).1 = 0 := by
    rcases hE with h | h
    · exact Or.inl h.1
    · exact Or.inr h.1
  generalize EQ (1, ce, lf, ct, wd) mq s = E at hE1 ⊢
  obtain ⟨p0, c0, l0, t0, w0⟩ := E
  show (if p0 = (0 : Int32) then _ else _) = _
  rcases hE1 with h | h
  · have h : p0 = 1 := h
    subst h
    have r1 : spX2_write 1 c0 l0 t0 w0 (nI s) (0 : Int32) g = ((W1 (1, c0, l0, t0, w0) (256 * s) g).1, W1 (1, c0, l0, t0, w0) (256 * s) g) := k_write2 (i := 0) (v := g) hs (by decide) (Or.inr rfl)
    rw [if_neg (by decide), r1]
    have h01 := W1_01 (q := (1, c0, l0, t0, w0)) (a := 256 * s) (v := g) (Or.inr rfl)
    have hc := W1_cases (q := (1, c0, l0, t0, w0)) (a := 256 * s) (v := g) rfl
    generalize W1 (1, c0, l0, t0, w0) (256 * s) g = A at h01 hc ⊢
    obtain ⟨p1, c1, l1, t1, w1⟩ := A
    show (if p1 = (0 : Int32) then _ else _) = _
    rcases h01 with h | h
    · have h : p1 = 0 := h
      subst h
      rw [if_pos rfl, W1_off rfl, WS_off rfl]
      rfl
    · have h : p1 = 1 := h
      subst h
      have hw1c : w1 = upd w0 (256 * s) g := by
        rcases hc with ⟨-, e⟩ | ⟨-, -, e⟩ | ⟨-, -, e⟩
        · exact congrArg (fun z : Qs => z.2.2.2.2) e
        · exact absurd (show (1 : Int32) = 0 from congrArg (fun z : Qs => z.1) e) (by decide)
        · exact congrArg (fun z : Qs => z.2.2.2.2) e
      have r2 : spX2_write 1 c1 l1 t1 w1 (nI s) (1 : Int32) la = _ := k_write2 (i := 1) (v := la) hs (by decide) (Or.inr rfl)
      rw [if_neg (by decide), r2]
      have h01 := W1_01 (q := (1, c1, l1, t1, w1)) (a := 256 * s + 1) (v := la) (Or.inr rfl)
      have hc := W1_cases (q := (1, c1, l1, t1, w1)) (a := 256 * s + 1) (v := la) rfl
      generalize W1 (1, c1, l1, t1, w1) (256 * s + 1) la = A at h01 hc ⊢
      obtain ⟨p2, c2, l2, t2, w2⟩ := A
      show (if p2 = (0 : Int32) then _ else _) = _
      rcases h01 with h | h
      · have h : p2 = 0 := h
        subst h
        rw [if_pos rfl, WS_off rfl]
        rfl
      · have h : p2 = 1 := h
        subst h
        have hw2c : w2 = upd w1 (256 * s + 1) la := by
          rcases hc with ⟨-, e⟩ | ⟨-, -, e⟩ | ⟨-, -, e⟩
          · exact congrArg (fun z : Qs => z.2.2.2.2) e
          · exact absurd (show (1 : Int32) = 0 from congrArg (fun z : Qs => z.1) e) (by decide)
          · exact congrArg (fun z : Qs => z.2.2.2.2) e
        have hwb2 : spX1_writeBooks 1 c2 l2 t2 w2 bw (nI s) = ((WS (1, c2, l2, t2, w2) (256 * s + 1 + 1) BL).1, WS (1, c2, l2, t2, w2) (256 * s + 1 + 1) BL) := hwB (1, c2, l2, t2, w2) rfl
        rw [if_neg (by decide), hwb2, WS_app, hlen]
        have hsp := WS_spec (q := (1, c2, l2, t2, w2)) (a := 256 * s + 1 + 1) (vs := BL) rfl
        generalize WS (1, c2, l2, t2, w2) (256 * s + 1 + 1) BL = A at hsp ⊢
        obtain ⟨p3, c3, l3, t3, w3⟩ := A
        show (if p3 = (0 : Int32) then _ else _) = _
        rcases hsp with ⟨h, hmem, -⟩ | ⟨h, -⟩
        · have h : p3 = 1 := h
          subst h
          have hmark : spX2_markOf w3 (nI s) (0 : Int32) (193 : Int32) = MK := by
            rw [show (193 : Int32) = nI 193 from rfl, show (0 : Int32) = nI 0 from rfl, k_mark2 hs (by decide), ← hM, hhd]
            have hw3 : w3 = wAll w0 (256 * s) (g :: la :: BL) := by rw [show w3 = _ from hmem, hw2c, hw1c, wAll_cons, wAll_cons]
            have hl2 : (g :: la :: BL).length = 193 := by rw [List.length_cons, List.length_cons, hlen]
            rw [hw3, Nat.add_zero, ← hl2, wds_wAll]
          have r3 : spX2_write 1 c3 l3 t3 w3 (nI s) (193 : Int32) MK = _ := k_write2 (i := 193) (v := MK) hs (by decide) (Or.inr rfl)
          rw [if_neg (by decide), hmark, r3, WS_one, show 256 * s + 1 + 1 + 191 = 256 * s + 193 by omega]
          have h01 := W1_01 (q := (1, c3, l3, t3, w3)) (a := 256 * s + 193) (v := MK) (Or.inr rfl)
          generalize W1 (1, c3, l3, t3, w3) (256 * s + 193) MK = A at h01 ⊢
          obtain ⟨p4, c4, l4, t4, w4⟩ := A
          show (if p4 = (0 : Int32) then _ else _) = _
          rcases h01 with h | h
          · have h : p4 = 0 := h
            subst h; rw [if_pos rfl]; rfl
          · have h : p4 = 1 := h
            subst h; rw [if_neg (by decide)]; rfl
        · have h : p3 = 0 := h
          subst h
          rw [if_pos rfl, WS_off rfl]
          rfl
  · have h : p0 = 0 := h
    subst h
    rw [if_pos rfl, W1_off rfl, W1_off rfl, WS_off rfl]
    rfl
theorem k_bgL {kbo kwe : Nat → Int32} {kmk krc kno p1 : Int32} {s : Nat} (hs : s < 16) : ∀ (c k fuel : Nat) (q : Qs) (klf m : Int32), c < fuel → k + c = 193 → (q.1 = 0 ∨ q.1 = 1) → CR q.2.1 q.2.2.1 klf → ∃ klf' : Int32, CR (WS q (256 * s + k) (wds kbo k c ++ [spX5_marked (hsh m (wds kbo k c))])).2.1 (WS q (256 * s + k) (wds kbo k c ++ [spX5_marked (hsh m (wds kbo k c))])).2.2.1 klf' ∧ lpX5_begin_57 fuel q.1 klf kmk (nI s) krc kno q.2.2.2.2 kwe kbo p1 m (nI k) = ((WS q (256 * s + k) (wds kbo k c ++ [spX5_marked (hsh m (wds kbo k c))])).1, klf', nI s, krc, (WS q (256 * s + k) (wds kbo k c ++ [spX5_marked (hsh m (wds kbo k c))])).2.2.2.2, kwe) := by
  intro c
  induction c with
  | zero =>
    intro k fuel q klf m h1 h2 hq hc
    obtain ⟨z, rfl⟩ : ∃ z, fuel = z + 1 := ⟨fuel - 1, by omega⟩
    have hk : k = 193 := by omega
    subst hk
    rw [lpX5_begin_57_e, if_pos (show (193 : Int32) ≤ nI 193 by decide)]
    obtain ⟨klf', h3, h4⟩ := k_write5 (ct := q.2.2.2.1) (wd := q.2.2.2.2) (s := s) (i := 193) (v := spX5_marked m) hs (by decide) hq hc
    have h4' : spX5_write q.1 klf (nI s) q.2.2.2.2 (193 : Int32) (spX5_marked m) = _ := h4
    rw [h4']
    exact ⟨klf', h3, rfl⟩
  | succ c ih =>
    intro k fuel q klf m h1 h2 hq hc
    obtain ⟨z, rfl⟩ : ∃ z, fuel = z + 1 := ⟨fuel - 1, by omega⟩
    rw [lpX5_begin_57_e, if_neg (show ¬ (193 : Int32) ≤ nI k from nI_ge (a := k) (b := 193) (by omega) (by decide)), nI_clamp (by omega)]
    obtain ⟨klf', h3, h4⟩ := k_write5 (ct := q.2.2.2.1) (wd := q.2.2.2.2) (s := s) (i := k) (v := kbo k) hs (by omega) hq hc
    rw [h4]
    dsimp only
    have h01 : (W1 q (256 * s + k) (kbo k)).1 = 0 ∨ (W1 q (256 * s + k) (kbo k)).1 = 1 := W1_01 hq
    obtain ⟨klf2, h5, h6⟩ := ih (k + 1) z (W1 q (256 * s + k) (kbo k)) klf' ((31 : Int32) * m + kbo k) (by omega) (by omega) h01 h3
    refine ⟨klf2, h5, ?_⟩
    rw [nI_1]
    exact h6
theorem k_begin {ce lf mq ct klf ksc krc kno g : Int32} {wd er bw kbo : Nat → Int32} {s0 : Nat} (hs0 : s0 < 16) (hks : ksc = nI s0) (hc : CR ce lf klf) (hb : BR bw kbo) : ∃ klf' : Int32, CR (BG (1, ce, lf, ct, wd) mq ((s0 + 1) % 16) g kno bw).2.1 (BG (1, ce, lf, ct, wd) mq ((s0 + 1) % 16) g kno bw).2.2.1 klf' ∧ spX5_begin 1 klf mq ksc krc kno wd er kbo g = ((BG (1, ce, lf, ct, wd) mq ((s0 + 1) % 16) g kno bw).1, klf', nI ((s0 + 1) % 16), 0, (BG (1, ce, lf, ct, wd) mq ((s0 + 1) % 16) g kno bw).2.2.2.2, upd er ((s0 + 1) % 16) (er ((s0 + 1) % 16) + 1)) := by
  have hs : (s0 + 1) % 16 < 16 := Nat.mod_lt _ (by decide)
  have hn : (ksc + (1 : Int32)) - (ksc + (1 : Int32)) / (16 : Int32) * (16 : Int32) = nI ((s0 + 1) % 16) := by
    rw [hks, nI_1]
    exact pk_rem (d := 16) (by omega) (by decide) (by decide)
  generalize (s0 + 1) % 16 = s at hs hn ⊢
  obtain ⟨F, hF⟩ : ∃ F : Nat, F = 192 := ⟨_, rfl⟩
  unfold spX5_begin
  rw [hn, ← hF]
  obtain ⟨k1, h1, h2⟩ := k_erase5 (mq := mq) (ct := ct) (wd := wd) (er := er) hs hc
  rw [h2]
  have hB : BG (1, ce, lf, ct, wd) mq s g kno bw = WS (EQ (1, ce, lf, ct, wd) mq s) (256 * s) (hdr g kno bw) := rfl
  have hw : wds kbo 2 191 = wds bw 0 191 := wds_congr (fun j hj => by rw [Nat.add_comm 2 j, Nat.zero_add]; exact hb j hj)
  have hbg := fun (q : Qs) (kz : Int32) (h02 : q.1 = 0 ∨ q.1 = 1) (h5 : CR q.2.1 q.2.2.1 kz) => k_bgL (kbo := kbo) (kwe := upd er s (er s + 1)) (kmk := mq) (krc := 0) (kno := kno) (p1 := g) hs 191 2 F q kz (((31 : Int32) * ((527 : Int32) + g)) + kno) (by omega) rfl h02 h5
  have hm : spX5_marked (hsh (((31 : Int32) * ((527 : Int32) + g)) + kno) (wds bw 0 191)) = mrk (hd0 g kno bw) := by
    unfold mrk hd0
    rw [hsh_cons, hsh_cons]
    rfl
  rw [hw, hm] at hbg
  rw [hB, hdr_cons, WS_cons, WS_cons]
  generalize wds bw 0 191 ++ [mrk (hd0 g kno bw)] = BL at hbg ⊢
  have hE := EQ_spec (q := (1, ce, lf, ct, wd)) (mq := mq) (s := s) rfl
  have hE1 : (EQ (1, ce, lf, ct, wd) mq s).1 = 0 ∨ (EQ (1, ce, lf, ct, wd) mq s).1 = 1 := by
    rcases hE with h | h
    · exact Or.inr h.1
    · exact Or.inl h.1
  generalize EQ (1, ce, lf, ct, wd) mq s = E at hE1 h1 ⊢
  obtain ⟨p0, c0, l0, t0, w0⟩ := E
  dsimp only at hE1 h1
  obtain ⟨k2, h3, h4⟩ := k_write5 (ct := t0) (wd := w0) (s := s) (i := 0) (v := g) hs (by decide) hE1 h1
  rw [Nat.add_zero] at h3 h4
  have h4' : spX5_write p0 k1 (nI s) w0 (0 : Int32) g = _ := h4
  have h01 := W1_01 (q := (p0, c0, l0, t0, w0)) (a := 256 * s) (v := g) hE1
  dsimp only
  rw [h4']
  generalize W1 (p0, c0, l0, t0, w0) (256 * s) g = A at h01 h3 ⊢
  obtain ⟨p1, c1, l1, t1, w1⟩ := A
  dsimp only at h01 h3
  obtain ⟨k3, h5, h6⟩ := k_write5 (ct := t1) (wd := w1) (s := s) (i := 1) (v := kno) hs (by decide) h01 h3
  have h6' : spX5_write p1 k2 (nI s) w1 (1 : Int32) kno = _ := h6
  have h02 := W1_01 (q := (p1, c1, l1, t1, w1)) (a := 256 * s + 1) (v := kno) h01
  dsimp only
  rw [h6']
  generalize W1 (p1, c1, l1, t1, w1) (256 * s + 1) kno = A at h02 h5 ⊢
  obtain ⟨k4, h7, h8⟩ := hbg A k3 h02 h5
  exact ⟨k4, h7, h8⟩
