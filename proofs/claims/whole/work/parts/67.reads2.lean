/-! the calls that need power and read -/
theorem Rel_on {b : Nat} {mn : Int32} {po co : Int64} {dr tb : Nat → Int32} {sc rc la pw ce lf mq ct : Int32} {wd er bw : Nat → Int32} {kmn kpw klf kmk ksc krc kno kpp : Int32} {kpc : Int64} {kme kwe kbo kdr ktb : Nat → Int32} (hR : RelC b mn po co dr tb sc rc la pw ce lf mq ct wd er bw kmn kpw klf kmk ksc krc kno kpp kpc kme kwe kbo kdr ktb) (hpw : ¬ pw = 0) : pw = 1 ∧ kpw = 1 ∧ mn = kmn ∧ BR bw kbo ∧ ∃ (N c S B : Nat), SI bw po co N ∧ N < 100000 ∧ WI er S c B ∧ B + c < 100000 ∧ ct = nI c := by
  obtain ⟨a1, a2, a3, a4, a5, a6, a7, a8, a9, a10, a11, a12, a13, a14, a15, a16, S, r, la0, bw0, c, d1, d2, d3, d4, d5, d6, d7⟩ := hR
  have h1 : pw = 1 := a6.resolve_left hpw
  obtain ⟨e1, e2, e3, e4, e5, e6, e7, e8⟩ := d7 h1
  exact ⟨h1, a5.symm.trans h1, a2, e8, _, c, S, _, by rw [e7]; exact d3, by omega, d4, by omega, d5⟩
theorem sim_uncertain : Sim_uncertain RelS := by
  intro b σ τ h
  obtain ⟨mn, po, co, dr, tb, sc, rc, la, pw, ce, lf, mq, ct, wd, er, bw⟩ := σ
  obtain ⟨kth, kmn, kpw, klf, kmk, ksc, krc, kno, kpp, kpc, kme, kwe, kbo, kre, kdr, ktb⟩ := τ
  refine ⟨?_, RelC_skip h⟩
  show spX4_uncertain pw bw = (spX5_uncertain kth kpw kbo).1
  have e0 : pw = kpw := h.2.2.2.2.1
  unfold spX4_uncertain spX5_uncertain spX2_hasPower
  rw [← e0]
  by_cases h0 : pw = 0
  · rw [if_pos h0, if_pos h0]
  · obtain ⟨-, -, -, hb, -⟩ := Rel_on h h0
    rw [if_neg h0, if_neg h0]
    have e1 : kbo (Int32.toNatClampNeg (16 : Int32)) = bw 14 := hb 14 (by decide)
    unfold spX4_isUncertain
    rw [e1, show spX0_at bw (14 : Int32) = bw 14 from k_at (i := 14) (by decide)]
    by_cases c1 : bw 14 = 0
    · rw [if_pos c1, if_pos c1, if_pos rfl]
    · rw [if_neg c1, if_neg c1, if_neg (by decide)]
theorem sim_sound : Sim_sound RelS := by
  intro b σ τ h
  obtain ⟨mn, po, co, dr, tb, sc, rc, la, pw, ce, lf, mq, ct, wd, er, bw⟩ := σ
  obtain ⟨kth, kmn, kpw, klf, kmk, ksc, krc, kno, kpp, kpc, kme, kwe, kbo, kre, kdr, ktb⟩ := τ
  refine ⟨?_, RelC_skip h⟩
  show spX4_sound po co pw ct er bw = (spX5_sound kth kpw).1
  have e0 : pw = kpw := h.2.2.2.2.1
  by_cases h0 : pw = 0
  · unfold spX4_sound spX5_sound spX2_hasPower
    rw [← e0, if_pos h0, if_pos h0]
  · obtain ⟨h1, h2, -, -, N, c, S, B, s1, s2, s3, s4, s5⟩ := Rel_on h h0
    rw [h1, k_sound s1 s2 s3 s4 s5]
    unfold spX5_sound
    rw [if_neg (by rw [h2]; decide)]
theorem sim_counter : Sim_counter RelS := by
  intro b σ τ p1 p2 h
  obtain ⟨mn, po, co, dr, tb, sc, rc, la, pw, ce, lf, mq, ct, wd, er, bw⟩ := σ
  obtain ⟨kth, kmn, kpw, klf, kmk, ksc, krc, kno, kpp, kpc, kme, kwe, kbo, kre, kdr, ktb⟩ := τ
  refine ⟨?_, RelC_skip h⟩
  show spX4_counter pw bw p1 p2 = (spX5_counter kth kpw kbo p1 p2).1
  have e0 : pw = kpw := h.2.2.2.2.1
  unfold spX4_counter spX5_counter spX2_hasPower
  rw [← e0]
  by_cases h0 : pw = 0
  · rw [if_pos h0, if_pos h0]
  · obtain ⟨-, -, -, hb, -⟩ := Rel_on h h0
    rw [if_neg h0, if_neg h0]
    have hd := k_depEq p1
    have hq := k_pocEq p2
    by_cases c1 : spX4_isDepartment p1 = 0
    · rw [if_pos c1, if_pos (hd.mp c1)]
    · have c1' : ¬ spX5_in (Int32.toInt64 p1) (0 : Int64) (15 : Int64) = 0 := fun z => c1 (hd.mpr z)
      rw [if_neg c1, if_neg c1']
      by_cases c2 : spX4_isPiecesOrCents p2 = 0
      · rw [if_pos c2, if_pos (hq.mp c2)]
      · rw [if_neg c2, if_neg (fun z => c2 (hq.mpr z))]
        obtain ⟨d, rfl, hd1⟩ := k_inN c1'
        have l2 : (15 : Int64).toInt = 15 := rfl
        have hda : spX0_departmentAt (nI d) = nI (depP d) := by
          unfold spX0_departmentAt depP
          rw [show (3 : Int32) = nI 3 from rfl, show (15 : Int32) = nI 15 from rfl, pk_mul, nI_add, Nat.mul_comm]
        have ed : (17 : Int32) + ((3 : Int32) * nI d) = nI (depP d + 2) := by
          rw [show (3 : Int32) = nI 3 from rfl, show (17 : Int32) = nI 17 from rfl, pk_mul, nI_add]
          unfold depP; congr 1; omega
        have hdp : depP d = 15 + 3 * d := rfl
        unfold spX0_piecesOf spX0_centsOf
        rw [hda, ed, nI_1, nI_1, k_at (by omega), k_sumAt (by omega), nI_clamp (by omega), show depP d + 2 + 1 = depP d + 3 from rfl, k_sum5 (by omega), hb (depP d) (by omega), show depP d + 3 = (depP d + 1) + 2 from rfl, BR_sm hb (by omega)]
        split <;> rfl
theorem sim_dayTotal : Sim_dayTotal RelS := by
  intro b σ τ p1 p2 h
  obtain ⟨mn, po, co, dr, tb, sc, rc, la, pw, ce, lf, mq, ct, wd, er, bw⟩ := σ
  obtain ⟨kth, kmn, kpw, klf, kmk, ksc, krc, kno, kpp, kpc, kme, kwe, kbo, kre, kdr, ktb⟩ := τ
  refine ⟨?_, RelC_skip h⟩
  show spX4_dayTotal pw bw p1 p2 = (spX5_dayTotal kth kpw kbo p1 p2).1
  have e0 : pw = kpw := h.2.2.2.2.1
  unfold spX4_dayTotal spX5_dayTotal spX2_hasPower
  rw [← e0]
  by_cases h0 : pw = 0
  · rw [if_pos h0, if_pos h0]
  · obtain ⟨-, -, -, hb, -⟩ := Rel_on h h0
    rw [if_neg h0, if_neg h0]
    have hd := k_dayEq p1
    have hq := k_pocEq p2
    by_cases c1 : spX4_isDay p1 = 0
    · rw [if_pos c1, if_pos (hd.mp c1)]
    · have c1' : ¬ spX5_isDay p1 = 0 := fun z => c1 (hd.mpr z)
      rw [if_neg c1, if_neg c1']
      by_cases c2 : spX4_isPiecesOrCents p2 = 0
      · rw [if_pos c2, if_pos (hq.mp c2)]
      · rw [if_neg c2, if_neg (fun z => c2 (hq.mpr z))]
        obtain ⟨t, rfl, ht⟩ := k_isday c1'
        have hp := dayP_lt t
        have er : nI t - nI t / (32 : Int32) * (32 : Int32) = nI (t % 32) := pk_rem (d := 32) (by omega) (by decide) (by decide)
        have ep : (65 : Int32) + ((4 : Int32) * nI (t % 32)) = nI (dayP t + 2) := by
          rw [show (4 : Int32) = nI 4 from rfl, show (65 : Int32) = nI 65 from rfl, pk_mul, nI_add]
          unfold dayP; congr 1; omega
        have ep1 : nI (dayP t + 2) + (1 : Int32) = nI (dayP t + 3) := nI_add _ 1
        have ep2 : nI (dayP t + 2) + (2 : Int32) = nI (dayP t + 4) := nI_add _ 2
        have eq1 : nI (dayP t) + (1 : Int32) = nI (dayP t + 1) := nI_add _ 1
        have eq2 : nI (dayP t) + (2 : Int32) = nI (dayP t + 2) := nI_add _ 2
        have b1 : kbo (dayP t + 2) = bw (dayP t) := hb _ (by omega)
        have b2 : kbo (dayP t + 3) = bw (dayP t + 1) := hb (dayP t + 1) (by omega)
        have b3 : sm kbo (dayP t + 4) = sm bw (dayP t + 2) := BR_sm hb (by omega)
        unfold spX0_piecesOn spX0_centsOn
        rw [k_placeOfDay (by omega), er, ep, ep1, ep2, eq1, eq2, k_at (i := dayP t) (by omega), k_at (i := dayP t + 1) (by omega), k_sumAt (by omega), nI_clamp (by omega), nI_clamp (by omega), k_sum5 (by omega), b1, b2, b3]
        by_cases c3 : bw (dayP t) = nI t
        · rw [if_pos c3, if_pos c3, if_pos c3]
          split <;> rfl
        · rw [if_neg c3, if_neg c3, if_neg c3]
          split <;> rfl
theorem sim_book : Sim_book RelS := by
  intro b σ τ p1 h
  obtain ⟨mn, po, co, dr, tb, sc, rc, la, pw, ce, lf, mq, ct, wd, er, bw⟩ := σ
  obtain ⟨kth, kmn, kpw, klf, kmk, ksc, krc, kno, kpp, kpc, kme, kwe, kbo, kre, kdr, ktb⟩ := τ
  refine ⟨?_, RelC_skip h⟩
  show spX4_book pw bw p1 = (spX5_book kth kpw kbo p1).1
  have e0 : pw = kpw := h.2.2.2.2.1
  unfold spX4_book spX5_book spX2_hasPower
  rw [← e0]
  by_cases h0 : pw = 0
  · rw [if_pos h0, if_pos h0]
  · obtain ⟨-, -, -, hb, -⟩ := Rel_on h h0
    rw [if_neg h0, if_neg h0]
    by_cases c1 : spX5_in (Int32.toInt64 p1) (0 : Int64) (9 : Int64) = 0
    · rw [if_pos c1]
      have hn := k_in_iff.mp c1
      have l9 : (9 : Int64).toInt = 9 := rfl
      have l0 : (0 : Int64).toInt = 0 := rfl
      have ne : ∀ (w : Int32), 0 ≤ w.toInt → w.toInt ≤ 9 → ¬ p1 = w := fun w h1 h2 e => hn ⟨by rw [e]; omega, by rw [e]; omega⟩
      rw [if_neg (ne 0 (by decide) (by decide)), if_neg (ne 1 (by decide) (by decide)), if_neg (ne 2 (by decide) (by decide)), if_neg (ne 3 (by decide) (by decide)), if_neg (ne 4 (by decide) (by decide)), if_neg (ne 5 (by decide) (by decide)), if_neg (ne 6 (by decide) (by decide)), if_neg (ne 7 (by decide) (by decide)), if_neg (ne 8 (by decide) (by decide)), if_neg (ne 9 (by decide) (by decide))]
    · rw [if_neg c1]
      obtain ⟨j, e, hj⟩ := k_inN c1
      have l9 : (9 : Int64).toInt = 9 := rfl
      have hj9 : j = 0 ∨ j = 1 ∨ j = 2 ∨ j = 3 ∨ j = 4 ∨ j = 5 ∨ j = 6 ∨ j = 7 ∨ j = 8 ∨ j = 9 := by omega
      subst e
      clear hj c1
      rcases hj9 with hj2 | hj2 | hj2 | hj2 | hj2 | hj2 | hj2 | hj2 | hj2 | hj2
      · subst hj2
        rw [if_pos (by decide), show spX0_sumAt bw (0 : Int32) = sm bw 0 from k_sumAt (i := 0) (by decide), if_neg (show ¬ (4 : Int32) ≤ nI 0 by decide), show (2 : Int32) + ((2 : Int32) * nI 0) = nI 2 by decide, k_sum5 (by decide), show sm kbo 2 = sm bw 0 from BR_sm hb (i := 0) (by decide)]
      · subst hj2
        rw [if_neg (by decide), if_pos (by decide), show spX0_sumAt bw (2 : Int32) = sm bw 2 from k_sumAt (i := 2) (by decide), if_neg (show ¬ (4 : Int32) ≤ nI 1 by decide), show (2 : Int32) + ((2 : Int32) * nI 1) = nI 4 by decide, k_sum5 (by decide), show sm kbo 4 = sm bw 2 from BR_sm hb (i := 2) (by decide)]
      · subst hj2
        rw [if_neg (by decide), if_neg (by decide), if_pos (by decide), show spX0_sumAt bw (4 : Int32) = sm bw 4 from k_sumAt (i := 4) (by decide), if_neg (show ¬ (4 : Int32) ≤ nI 2 by decide), show (2 : Int32) + ((2 : Int32) * nI 2) = nI 6 by decide, k_sum5 (by decide), show sm kbo 6 = sm bw 4 from BR_sm hb (i := 4) (by decide)]
      · subst hj2
        rw [if_neg (by decide), if_neg (by decide), if_neg (by decide), if_pos (by decide), show spX0_sumAt bw (6 : Int32) = sm bw 6 from k_sumAt (i := 6) (by decide), if_neg (show ¬ (4 : Int32) ≤ nI 3 by decide), show (2 : Int32) + ((2 : Int32) * nI 3) = nI 8 by decide, k_sum5 (by decide), show sm kbo 8 = sm bw 6 from BR_sm hb (i := 6) (by decide)]
      · subst hj2
        rw [if_neg (by decide), if_neg (by decide), if_neg (by decide), if_neg (by decide), if_pos (by decide), show spX0_at bw (8 : Int32) = bw 8 from k_at (i := 8) (by decide), if_pos (show (4 : Int32) ≤ nI 4 by decide), show kbo (Int32.toNatClampNeg ((6 : Int32) + nI 4)) = bw 8 from hb 8 (by decide)]
      · subst hj2
        rw [if_neg (by decide), if_neg (by decide), if_neg (by decide), if_neg (by decide), if_neg (by decide), if_pos (by decide), show spX0_at bw (9 : Int32) = bw 9 from k_at (i := 9) (by decide), if_pos (show (4 : Int32) ≤ nI 5 by decide), show kbo (Int32.toNatClampNeg ((6 : Int32) + nI 5)) = bw 9 from hb 9 (by decide)]
      · subst hj2
        rw [if_neg (by decide), if_neg (by decide), if_neg (by decide), if_neg (by decide), if_neg (by decide), if_neg (by decide), if_pos (by decide), show spX0_at bw (10 : Int32) = bw 10 from k_at (i := 10) (by decide), if_pos (show (4 : Int32) ≤ nI 6 by decide), show kbo (Int32.toNatClampNeg ((6 : Int32) + nI 6)) = bw 10 from hb 10 (by decide)]
      · subst hj2
        rw [if_neg (by decide), if_neg (by decide), if_neg (by decide), if_neg (by decide), if_neg (by decide), if_neg (by decide), if_neg (by decide), if_pos (by decide), show spX0_at bw (11 : Int32) = bw 11 from k_at (i := 11) (by decide), if_pos (show (4 : Int32) ≤ nI 7 by decide), show kbo (Int32.toNatClampNeg ((6 : Int32) + nI 7)) = bw 11 from hb 11 (by decide)]
      · subst hj2
        rw [if_neg (by decide), if_neg (by decide), if_neg (by decide), if_neg (by decide), if_neg (by decide), if_neg (by decide), if_neg (by decide), if_neg (by decide), if_pos (by decide), show spX0_at bw (12 : Int32) = bw 12 from k_at (i := 12) (by decide), if_pos (show (4 : Int32) ≤ nI 8 by decide), show kbo (Int32.toNatClampNeg ((6 : Int32) + nI 8)) = bw 12 from hb 12 (by decide)]
      · subst hj2
        rw [if_neg (by decide), if_neg (by decide), if_neg (by decide), if_neg (by decide), if_neg (by decide), if_neg (by decide), if_neg (by decide), if_neg (by decide), if_neg (by decide), if_pos (by decide), show spX0_at bw (13 : Int32) = bw 13 from k_at (i := 13) (by decide), if_pos (show (4 : Int32) ≤ nI 9 by decide), show kbo (Int32.toNatClampNeg ((6 : Int32) + nI 9)) = bw 13 from hb 13 (by decide)]
