theorem BG_01 {ce lf mq ct g n : Int32} {wd bw : Nat → Int32} {s : Nat} : (BG (1, ce, lf, ct, wd) mq s g n bw).1 = 0 ∨ (BG (1, ce, lf, ct, wd) mq s g n bw).1 = 1 := by
  unfold BG
  apply WS_01
  rcases EQ_spec (q := (1, ce, lf, ct, wd)) (mq := mq) (s := s) rfl with h | h
  · exact Or.inr h.1
  · exact Or.inl h.1
theorem k_rp (r : Nat) : (194 : Int32) + ((5 : Int32) * nI r) = nI (194 + 5 * r) := by
  rw [show (5 : Int32) = nI 5 from rfl, show (194 : Int32) = nI 194 from rfl, pk_mul, nI_add]
theorem AP {ce lf mq ct klf la k a b : Int32} {wd er bw kbo kre : Nat → Int32} {s r : Nat} (hs : s < 16) (hr : r ≤ 12) (hc : CR ce lf klf) (hb : BR bw kbo) :
    ∃ (q1 q' : Qs) (s1 r1 : Nat) (er1 : Nat → Int32) (klf' : Int32) (kre' : Nat → Int32),
      ((room wd s r ∧ q1 = (1, ce, lf, ct, wd) ∧ s1 = s ∧ r1 = r ∧ er1 = er) ∨ (¬ room wd s r ∧ q1 = BG (1, ce, lf, ct, wd) mq ((s + 1) % 16) (wd (256 * s) + 1) la bw ∧ s1 = (s + 1) % 16 ∧ r1 = 0 ∧ er1 = upd er s1 (er s1 + 1))) ∧
      q' = WS q1 (256 * s1 + (194 + 5 * r1)) (rl (la + 1) k a b) ∧ CR q'.2.1 q'.2.2.1 klf' ∧
      (∃ sc' rc' : Int32, spX1_append (nI s) (nI r) la 1 ce lf mq ct wd er bw k a b = ((if q'.1 = 0 then (-7 : Int32) else 1), sc', rc', (if q'.1 = 0 then la else la + 1), q'.1, q'.2.1, q'.2.2.1, q'.2.2.2.1, q'.2.2.2.2, er1, (if q'.1 = 0 then bw else spX0_apply bw k a b)) ∧ (¬ q'.1 = 0 → sc' = nI s1 ∧ rc' = nI r1 + 1)) ∧
      spX5_put 1 klf mq (nI s) (nI r) la wd er kbo kre k a b = (q'.1, q'.1, klf', nI s1, (if q'.1 = 0 then nI r1 else nI r1 + 1), (if q'.1 = 0 then la else la + 1), q'.2.2.2.2, er1, (if q'.1 = 0 then kbo else spX5_act kbo k a b), kre') := by
  have hrm := k_room (f := wd) hs hr
  by_cases hR : room wd s r
  · have hr11 : r ≤ 11 := by have := hR.1; omega
    obtain ⟨klf', h1, h2⟩ := k_rec5 (kmk := mq) (krc := nI r) (kno := la) (ct := ct) (k := k) (a := a) (b := b) (kme := wd) (kwe := er) (kbo := kbo) (kre := kre) hs hr11 (Or.inr rfl) hc
    refine ⟨(1, ce, lf, ct, wd), _, s, r, er, klf', kr4 kre (la + 1) k a b, Or.inl ⟨hR, rfl, rfl, rfl, rfl⟩, rfl, h1, ⟨nI s, (if (WS (1, ce, lf, ct, wd) (256 * s + (194 + 5 * r)) (rl (la + 1) k a b)).1 = 0 then nI r else nI r + 1), ?_, fun h => ⟨rfl, if_neg h⟩⟩, ?_⟩
    · rw [k_append, if_neg (fun e => (hrm.mp e) hR), k_rec2 hs hr11]
    · unfold spX5_put
      have hf := k_free5 (f := wd) (s := s) (p := 194 + 5 * r) hs (by omega)
      rw [if_neg (show ¬ nI r = (12 : Int32) from fun e => absurd ((nI_eq (a := r) (b := 12) (by omega) (by decide)).mp e) (by omega)), k_rp, if_neg (fun e => (hf.mp e) hR.2)]
      exact h2
  · have hs' : (s + 1) % 16 < 16 := Nat.mod_lt _ (by decide)
    have hn : (nI s + (1 : Int32)) - (nI s + (1 : Int32)) / (16 : Int32) * (16 : Int32) = nI ((s + 1) % 16) := by
      rw [nI_1]
      exact pk_rem (d := 16) (by omega) (by decide) (by decide)
    have hrd : spX2_read wd (nI s) (0 : Int32) = wd (256 * s) := k_read (i := 0) hs (by decide)
    have hm0 : wd (Int32.toNatClampNeg ((256 : Int32) * nI s)) = wd (256 * s) := by
      rw [show (256 : Int32) = nI 256 from rfl, pk_mul, nI_clamp (by omega)]
    obtain ⟨k1, h1, h2⟩ := k_begin (mq := mq) (ct := ct) (krc := nI r) (kno := la) (g := wd (256 * s) + 1) (wd := wd) (er := er) hs rfl hc hb
    have hst := k_start (sc := nI s) (rc := nI r) (la := la) (ce := ce) (lf := lf) (mq := mq) (ct := ct) (g := wd (256 * s) + 1) (wd := wd) (er := er) (bw := bw) hs'
    have hB01 := BG_01 (ce := ce) (lf := lf) (mq := mq) (ct := ct) (g := wd (256 * s) + 1) (n := la) (wd := wd) (bw := bw) (s := (s + 1) % 16)
    -- the reference begins in both cases
    have hput : ∀ z, (match spX5_begin 1 klf mq (nI s) (nI r) la wd er kbo ((wd (Int32.toNatClampNeg ((256 : Int32) * nI s))) + (1 : Int32)) with | (kpw_42, klf_42, ksc_42, krc_42, kme_42, kwe_42) => (lpX5_put_97 5 kpw_42 klf_42 mq ksc_42 krc_42 la kme_42 kwe_42 kbo (upd (upd (upd (upd kre (Int32.toNatClampNeg (0 : Int32)) (la + (1 : Int32))) (Int32.toNatClampNeg (1 : Int32)) k) (Int32.toNatClampNeg (2 : Int32)) a) (Int32.toNatClampNeg (3 : Int32)) b) k a b ((194 : Int32) + ((5 : Int32) * krc_42)) (17 : Int32) (0 : Int32))) = z → spX5_put 1 klf mq (nI s) (nI r) la wd er kbo kre k a b = z := by
      intro z hz
      unfold spX5_put
      by_cases h12 : nI r = (12 : Int32)
      · rw [if_pos h12]; exact hz
      · rw [if_neg h12]
        have hr12 : r < 12 := by
          rcases Nat.lt_or_ge r 12 with q | q
          · exact q
          · exact absurd (show nI r = (12 : Int32) by rw [show r = 12 by omega]; rfl) h12
        have hf := k_free5 (f := wd) (s := s) (p := 194 + 5 * r) hs (by omega)
        rw [k_rp, if_pos (hf.mpr (fun hbk => hR ⟨hr12, hbk⟩))]
        exact hz
    rw [hm0, h2] at hput
    generalize hBe : BG (1, ce, lf, ct, wd) mq ((s + 1) % 16) (wd (256 * s) + 1) la bw = B at h1 hst hB01 hput ⊢
    obtain ⟨p0, c0, l0, t0, w0⟩ := B
    dsimp only at h1 hB01
    obtain ⟨klf', h3, h4⟩ := k_rec5 (kmk := mq) (krc := 0) (kno := la) (ct := t0) (k := k) (a := a) (b := b) (kme := w0) (kwe := upd er ((s + 1) % 16) (er ((s + 1) % 16) + 1)) (kbo := kbo) (kre := kre) (s := (s + 1) % 16) (r := 0) hs' (by decide) hB01 h1
    rcases hB01 with h0 | h0
    · subst h0
      rw [WS_off rfl] at h3 h4
      refine ⟨(0, c0, l0, t0, w0), (0, c0, l0, t0, w0), (s + 1) % 16, 0, _, klf', kr4 kre (la + 1) k a b, Or.inr ⟨hR, rfl, rfl, rfl, rfl⟩, ?_, h3, ⟨nI s, nI r, ?_, fun h => absurd rfl h⟩, hput _ h4⟩
      · rw [WS_off rfl]
      · rw [k_append, if_pos (hrm.mpr hR), hn, hrd, hst]
        rfl
    · subst h0
      refine ⟨(1, c0, l0, t0, w0), _, (s + 1) % 16, 0, _, klf', kr4 kre (la + 1) k a b, Or.inr ⟨hR, rfl, rfl, rfl, rfl⟩, rfl, h3, ⟨nI ((s + 1) % 16), (if (WS (1, c0, l0, t0, w0) (256 * ((s + 1) % 16) + (194 + 5 * 0)) (rl (la + 1) k a b)).1 = 0 then nI 0 else nI 0 + 1), ?_, fun h => ⟨rfl, if_neg h⟩⟩, hput _ h4⟩
      rw [k_append, if_pos (hrm.mpr hR), hn, hrd, hst]
      show (if (1 : Int32) = 0 then _ else RW (if (1 : Int32) = 0 then nI s else nI ((s + 1) % 16)) (if (1 : Int32) = 0 then nI r else (0 : Int32)) la 1 c0 l0 t0 w0 (upd er ((s + 1) % 16) (er ((s + 1) % 16) + 1)) bw k a b) = _
      rw [if_neg (by decide), if_neg (by decide), if_neg (by decide)]
      have hfin : RW (nI ((s + 1) % 16)) (0 : Int32) la 1 c0 l0 t0 w0 (upd er ((s + 1) % 16) (er ((s + 1) % 16) + 1)) bw k a b = _ := k_rec2 (s := (s + 1) % 16) (r := 0) hs' (by decide)
      rw [hfin]
