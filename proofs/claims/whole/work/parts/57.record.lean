/-! a record is written: both sides write the same row of words -/
def RW (sc rc la pw ce lf ct : Int32) (wd er bw : Nat → Int32) (p1 p2 p3 : Int32) : Int32 × Int32 × Int32 × Int32 × Int32 × Int32 × Int32 × Int32 × (Nat → Int32) × (Nat → Int32) × (Nat → Int32) := (match spX2_write pw ce lf ct wd sc (spX1_recordAt rc) (la + (1 : Int32)) with | (r_65, pw_65, ce_65, lf_65, ct_65, wd_65) => (if r_65 = 0 then ((-7 : Int32), sc, rc, la, pw_65, ce_65, lf_65, ct_65, wd_65, er, bw) else (match spX2_write pw_65 ce_65 lf_65 ct_65 wd_65 sc ((spX1_recordAt rc) + (1 : Int32)) p1 with | (r_84, pw_84, ce_84, lf_84, ct_84, wd_84) => (if r_84 = 0 then ((-7 : Int32), sc, rc, la, pw_84, ce_84, lf_84, ct_84, wd_84, er, bw) else (match spX2_write pw_84 ce_84 lf_84 ct_84 wd_84 sc ((spX1_recordAt rc) + (2 : Int32)) p2 with | (r_103, pw_103, ce_103, lf_103, ct_103, wd_103) => (if r_103 = 0 then ((-7 : Int32), sc, rc, la, pw_103, ce_103, lf_103, ct_103, wd_103, er, bw) else (match spX2_write pw_103 ce_103 lf_103 ct_103 wd_103 sc ((spX1_recordAt rc) + (3 : Int32)) p3 with | (r_122, pw_122, ce_122, lf_122, ct_122, wd_122) => (if r_122 = 0 then ((-7 : Int32), sc, rc, la, pw_122, ce_122, lf_122, ct_122, wd_122, er, bw) else (match spX2_write pw_122 ce_122 lf_122 ct_122 wd_122 sc ((spX1_recordAt rc) + (4 : Int32)) (spX2_markOf wd_122 sc (spX1_recordAt rc) (4 : Int32)) with | (r_154, pw_154, ce_154, lf_154, ct_154, wd_154) => (if r_154 = 0 then ((-7 : Int32), sc, rc, la, pw_154, ce_154, lf_154, ct_154, wd_154, er, bw) else ((1 : Int32), sc, (rc + (1 : Int32)), (la + (1 : Int32)), pw_154, ce_154, lf_154, ct_154, wd_154, er, (spX0_apply bw p1 p2 p3))))))))))))
theorem k_append (sc rc la pw ce lf mq ct : Int32) (wd er bw : Nat → Int32) (p1 p2 p3 : Int32) : spX1_append sc rc la pw ce lf mq ct wd er bw p1 p2 p3 = (if (spX1_hasRoom sc rc wd) = 0 then (match spX1_startSector sc rc la pw ce lf mq ct wd er bw ((sc + (1 : Int32)) - (sc + (1 : Int32)) / (16 : Int32) * (16 : Int32)) ((spX2_read wd sc (0 : Int32)) + (1 : Int32)) with | (r_31, sc_31, rc_31, pw_31, ce_31, lf_31, ct_31, wd_31, er_31) => (if r_31 = 0 then ((-7 : Int32), sc_31, rc_31, la, pw_31, ce_31, lf_31, ct_31, wd_31, er_31, bw) else RW sc_31 rc_31 la pw_31 ce_31 lf_31 ct_31 wd_31 er_31 bw p1 p2 p3)) else RW sc rc la pw ce lf ct wd er bw p1 p2 p3) := rfl
def rl (n k a b : Int32) : List Int32 := [n, k, a, b, mrk [n, k, a, b]]
theorem k_recAt (r : Nat) : spX1_recordAt (nI r) = nI (194 + 5 * r) := by
  unfold spX1_recordAt
  rw [show (5 : Int32) = nI 5 from rfl, show (194 : Int32) = nI 194 from rfl, pk_mul, nI_add, Nat.mul_comm]
theorem W1_on {q q' : Qs} {a : Nat} {v : Int32} (hp : q.1 = 1) (h : W1 q a v = q') (h1 : q'.1 = 1) : q'.2.2.2.2 = upd q.2.2.2.2 a v := by
  rcases W1_cases (a := a) (v := v) hp with ⟨-, e⟩ | ⟨-, -, e⟩ | ⟨-, -, e⟩
  · rw [← h, e]
  · rw [← h, e] at h1; exact absurd (show (0 : Int32) = 1 from h1) (by decide)
  · rw [← h, e]
theorem k_rec2 {la ce lf ct : Int32} {wd er bw : Nat → Int32} {k a b : Int32} {s r : Nat} (hs : s < 16) (hr : r ≤ 11) : RW (nI s) (nI r) la 1 ce lf ct wd er bw k a b = ((if (WS (1, ce, lf, ct, wd) (256 * s + (194 + 5 * r)) (rl (la + 1) k a b)).1 = 0 then (-7 : Int32) else 1), nI s, (if (WS (1, ce, lf, ct, wd) (256 * s + (194 + 5 * r)) (rl (la + 1) k a b)).1 = 0 then nI r else nI r + 1), (if (WS (1, ce, lf, ct, wd) (256 * s + (194 + 5 * r)) (rl (la + 1) k a b)).1 = 0 then la else la + 1), (WS (1, ce, lf, ct, wd) (256 * s + (194 + 5 * r)) (rl (la + 1) k a b)).1, (WS (1, ce, lf, ct, wd) (256 * s + (194 + 5 * r)) (rl (la + 1) k a b)).2.1, (WS (1, ce, lf, ct, wd) (256 * s + (194 + 5 * r)) (rl (la + 1) k a b)).2.2.1, (WS (1, ce, lf, ct, wd) (256 * s + (194 + 5 * r)) (rl (la + 1) k a b)).2.2.2.1, (WS (1, ce, lf, ct, wd) (256 * s + (194 + 5 * r)) (rl (la + 1) k a b)).2.2.2.2, er, (if (WS (1, ce, lf, ct, wd) (256 * s + (194 + 5 * r)) (rl (la + 1) k a b)).1 = 0 then bw else spX0_apply bw k a b)) := by
  unfold RW
  rw [k_recAt]
  have e1 : nI (194 + 5 * r) + (1 : Int32) = nI (194 + 5 * r + 1) := nI_add _ 1
  have e2 : nI (194 + 5 * r) + (2 : Int32) = nI (194 + 5 * r + 2) := nI_add _ 2
  have e3 : nI (194 + 5 * r) + (3 : Int32) = nI (194 + 5 * r + 3) := nI_add _ 3
  have e4 : nI (194 + 5 * r) + (4 : Int32) = nI (194 + 5 * r + 4) := nI_add _ 4
  rw [e1, e2, e3, e4]
  have hrl : rl (la + 1) k a b = [la + 1, k, a, b, mrk [la + 1, k, a, b]] := rfl
  generalize hM : mrk [la + 1, k, a, b] = MK at hrl
  rw [hrl, WS_cons, WS_cons, WS_cons, WS_cons, WS_cons]
  have hnil : ∀ (q : Qs) (z : Nat), WS q z [] = q := fun _ _ => rfl
  rw [hnil]
  have hadr : ∀ z : Nat, 256 * s + (194 + 5 * r) + z = 256 * s + (194 + 5 * r + z) := fun z => by omega
  rw [show 256 * s + (194 + 5 * r) + 1 + 1 + 1 + 1 = 256 * s + (194 + 5 * r + 4) by omega, show 256 * s + (194 + 5 * r) + 1 + 1 + 1 = 256 * s + (194 + 5 * r + 3) by omega, show 256 * s + (194 + 5 * r) + 1 + 1 = 256 * s + (194 + 5 * r + 2) by omega, show 256 * s + (194 + 5 * r) + 1 = 256 * s + (194 + 5 * r + 1) by omega]
  rw [k_write2 (i := (194 + 5 * r)) (v := (la + 1)) hs (by omega) (Or.inr rfl)]
  have h01 := W1_01 (q := (1, ce, lf, ct, wd)) (a := 256 * s + (194 + 5 * r)) (v := (la + 1)) (Or.inr rfl)
  generalize hw0 : W1 (1, ce, lf, ct, wd) (256 * s + (194 + 5 * r)) (la + 1) = A at h01 ⊢
  obtain ⟨p0, c0, l0, t0, w0⟩ := A
  show (if p0 = (0 : Int32) then _ else _) = _
  rcases h01 with h | h
  · have h : p0 = 0 := h
    subst h
    rw [if_pos rfl, W1_off rfl, W1_off rfl, W1_off rfl, W1_off rfl]
    rfl
  have h : p0 = 1 := h
  subst h
  rw [if_neg (by decide)]
  have hm0 : w0 = upd wd (256 * s + (194 + 5 * r)) (la + 1) := W1_on (q := (1, ce, lf, ct, wd)) rfl hw0 rfl
  rw [k_write2 (i := (194 + 5 * r + 1)) (v := k) hs (by omega) (Or.inr rfl)]
  have h01 := W1_01 (q := (1, c0, l0, t0, w0)) (a := 256 * s + (194 + 5 * r + 1)) (v := k) (Or.inr rfl)
  generalize hw1 : W1 (1, c0, l0, t0, w0) (256 * s + (194 + 5 * r + 1)) k = A at h01 ⊢
  obtain ⟨p1, c1, l1, t1, w1⟩ := A
  show (if p1 = (0 : Int32) then _ else _) = _
  rcases h01 with h | h
  · have h : p1 = 0 := h
    subst h
    rw [if_pos rfl, W1_off rfl, W1_off rfl, W1_off rfl]
    rfl
  have h : p1 = 1 := h
  subst h
  rw [if_neg (by decide)]
  have hm1 : w1 = upd w0 (256 * s + (194 + 5 * r + 1)) k := W1_on (q := (1, c0, l0, t0, w0)) rfl hw1 rfl
  rw [k_write2 (i := (194 + 5 * r + 2)) (v := a) hs (by omega) (Or.inr rfl)]
  have h01 := W1_01 (q := (1, c1, l1, t1, w1)) (a := 256 * s + (194 + 5 * r + 2)) (v := a) (Or.inr rfl)
  generalize hw2 : W1 (1, c1, l1, t1, w1) (256 * s + (194 + 5 * r + 2)) a = A at h01 ⊢
  obtain ⟨p2, c2, l2, t2, w2⟩ := A
  show (if p2 = (0 : Int32) then _ else _) = _
  rcases h01 with h | h
  · have h : p2 = 0 := h
    subst h
    rw [if_pos rfl, W1_off rfl, W1_off rfl]
    rfl
  have h : p2 = 1 := h
  subst h
  rw [if_neg (by decide)]
  have hm2 : w2 = upd w1 (256 * s + (194 + 5 * r + 2)) a := W1_on (q := (1, c1, l1, t1, w1)) rfl hw2 rfl
  rw [k_write2 (i := (194 + 5 * r + 3)) (v := b) hs (by omega) (Or.inr rfl)]
  have h01 := W1_01 (q := (1, c2, l2, t2, w2)) (a := 256 * s + (194 + 5 * r + 3)) (v := b) (Or.inr rfl)
  generalize hw3 : W1 (1, c2, l2, t2, w2) (256 * s + (194 + 5 * r + 3)) b = A at h01 ⊢
  obtain ⟨p3, c3, l3, t3, w3⟩ := A
  show (if p3 = (0 : Int32) then _ else _) = _
  rcases h01 with h | h
  · have h : p3 = 0 := h
    subst h
    rw [if_pos rfl, W1_off rfl]
    rfl
  have h : p3 = 1 := h
  subst h
  rw [if_neg (by decide)]
  have hm3 : w3 = upd w2 (256 * s + (194 + 5 * r + 3)) b := W1_on (q := (1, c2, l2, t2, w2)) rfl hw3 rfl
  have hmark : spX2_markOf w3 (nI s) (nI (194 + 5 * r)) (4 : Int32) = MK := by
    rw [show (4 : Int32) = nI 4 from rfl, k_mark2 hs (by omega), ← hM]
    have hw : w3 = wAll wd (256 * s + (194 + 5 * r)) [la + 1, k, a, b] := by
      rw [hm3, hm2, hm1, hm0, ← hadr 3, ← hadr 2, ← hadr 1]; rfl
    rw [hw]
    exact congrArg mrk (wds_wAll (f := wd) (a := 256 * s + (194 + 5 * r)) (vs := [la + 1, k, a, b]))
  rw [hmark, k_write2 (i := (194 + 5 * r + 4)) (v := MK) hs (by omega) (Or.inr rfl)]
  have h01 := W1_01 (q := (1, c3, l3, t3, w3)) (a := 256 * s + (194 + 5 * r + 4)) (v := MK) (Or.inr rfl)
  generalize W1 (1, c3, l3, t3, w3) (256 * s + (194 + 5 * r + 4)) MK = A at h01 ⊢
  obtain ⟨p4, c4, l4, t4, w4⟩ := A
  show (if p4 = (0 : Int32) then _ else _) = _
  rcases h01 with h | h
  · have h : p4 = 0 := h
    subst h; rw [if_pos rfl]; rfl
  · have h : p4 = 1 := h
    subst h; rw [if_neg (by decide)]; rfl
theorem k_138 {kwe kbo kre : Nat → Int32} {kmk krc kno p1 p2 p3 x5 : Int32} {s pl : Nat} (hs : s < 16) (hpl : pl + 5 ≤ 256) : ∀ (c j fuel : Nat) (q : Qs) (klf : Int32), c < fuel → j + c = 5 → (q.1 = 0 ∨ q.1 = 1) → CR q.2.1 q.2.2.1 klf → ∃ klf' : Int32, CR (WS q (256 * s + (pl + j)) (wds kre j c)).2.1 (WS q (256 * s + (pl + j)) (wds kre j c)).2.2.1 klf' ∧ lpX5_put_138 fuel q.1 klf kmk (nI s) krc kno q.2.2.2.2 kwe kbo kre p1 p2 p3 (nI pl) x5 (nI j) = ((WS q (256 * s + (pl + j)) (wds kre j c)).1, (WS q (256 * s + (pl + j)) (wds kre j c)).1, klf', nI s, (if (WS q (256 * s + (pl + j)) (wds kre j c)).1 = 0 then krc else krc + 1), (if (WS q (256 * s + (pl + j)) (wds kre j c)).1 = 0 then kno else kno + 1), (WS q (256 * s + (pl + j)) (wds kre j c)).2.2.2.2, kwe, (if (WS q (256 * s + (pl + j)) (wds kre j c)).1 = 0 then kbo else spX5_act kbo p1 p2 p3), kre) := by
  intro c
  induction c with
  | zero =>
    intro j fuel q klf h1 h2 hq hc
    obtain ⟨z, rfl⟩ : ∃ z, fuel = z + 1 := ⟨fuel - 1, by omega⟩
    rw [lpX5_put_138_e, if_pos (show (5 : Int32) ≤ nI j from nI_le (a := 5) (by omega) (by omega))]
    refine ⟨klf, hc, ?_⟩
    show _ = (q.1, q.1, klf, nI s, (if q.1 = 0 then krc else krc + 1), (if q.1 = 0 then kno else kno + 1), q.2.2.2.2, kwe, (if q.1 = 0 then kbo else spX5_act kbo p1 p2 p3), kre)
    by_cases h0 : q.1 = 0
    · rw [if_pos h0, if_pos h0, if_pos h0, if_pos h0]
    · rw [if_neg h0, if_neg h0, if_neg h0, if_neg h0]
  | succ c ih =>
    intro j fuel q klf h1 h2 hq hc
    obtain ⟨z, rfl⟩ : ∃ z, fuel = z + 1 := ⟨fuel - 1, by omega⟩
    rw [lpX5_put_138_e, if_neg (show ¬ (5 : Int32) ≤ nI j from nI_ge (a := j) (b := 5) (by omega) (by decide)), nI_clamp (by omega), nI_add]
    obtain ⟨klf', h3, h4⟩ := k_write5 (ct := q.2.2.2.1) (wd := q.2.2.2.2) (s := s) (i := pl + j) (v := kre j) hs (by omega) hq hc
    rw [h4]
    have h01 : (W1 q (256 * s + (pl + j)) (kre j)).1 = 0 ∨ (W1 q (256 * s + (pl + j)) (kre j)).1 = 1 := W1_01 hq
    obtain ⟨klf2, h5, h6⟩ := ih (j + 1) z (W1 q (256 * s + (pl + j)) (kre j)) klf' (by omega) (by omega) h01 h3
    refine ⟨klf2, h5, ?_⟩
    rw [nI_1]
    exact h6
theorem k_97 {kpw klf kmk ksc krc kno p1 p2 p3 x4 n : Int32} {kme kwe kbo kre : Nat → Int32} (h0 : kre 0 = n) (h1 : kre 1 = p1) (h2 : kre 2 = p2) (h3 : kre 3 = p3) : lpX5_put_97 5 kpw klf kmk ksc krc kno kme kwe kbo kre p1 p2 p3 x4 17 0 = lpX5_put_138 6 kpw klf kmk ksc krc kno kme kwe kbo (upd kre 4 (mrk [n, p1, p2, p3])) p1 p2 p3 x4 (hsh 17 [n, p1, p2, p3]) 0 := by
  rw [lpX5_put_97_e 4, if_neg (by decide), lpX5_put_97_e 3, if_neg (by decide), lpX5_put_97_e 2, if_neg (by decide), lpX5_put_97_e 1, if_neg (by decide), lpX5_put_97_e 0, if_pos (by decide)]
  have c0 : kre (Int32.toNatClampNeg (0 : Int32)) = n := h0
  have c1 : kre (Int32.toNatClampNeg ((0 : Int32) + (1 : Int32))) = p1 := h1
  have c2 : kre (Int32.toNatClampNeg ((0 : Int32) + (1 : Int32) + (1 : Int32))) = p2 := h2
  have c3 : kre (Int32.toNatClampNeg ((0 : Int32) + (1 : Int32) + (1 : Int32) + (1 : Int32))) = p3 := h3
  rw [c0, c1, c2, c3]
  rfl
