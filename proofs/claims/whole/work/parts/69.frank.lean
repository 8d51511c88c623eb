/-! frank: two records, and the piece between them -/
theorem k_pp1 {n : Nat} (h : n < 100000) : (nI n).toInt64 + (1 : Int64) = (nI n + 1).toInt64 := by
  rw [nI_1, nI_l (by omega), nI_l (by omega), ← lN_add]; rfl
theorem k_q16 {p1 p3 : Int32} (h1 : ¬ spX4_isDepartment p1 = 0) (h2 : ¬ spX4_isDay p3 = 0) : ∃ q : Nat, p1 + (16 : Int32) * p3 = nI q ∧ q < 2 ^ 31 := by
  have g1 := Classical.not_not.mp (fun z => h1 (k_isDep.mpr z))
  have g2 := Classical.not_not.mp (fun z => h2 (k_isDay4.mpr z))
  obtain ⟨i, rfl, hi⟩ := k_nat g1.1
  obtain ⟨j, rfl, hj⟩ := k_nat g2.1
  refine ⟨i + 16 * j, ?_, by omega⟩
  rw [show (16 : Int32) = nI 16 from rfl, pk_mul, nI_add]
theorem SIMF {b : Nat} {mn : Int32} {po co : Int64} {dr tb : Nat → Int32} {sc rc la pw ce lf mq ct : Int32} {wd er bw : Nat → Int32} {kmn kpw klf kmk ksc krc kno kpp : Int32} {kpc : Int64} {kme kwe kbo kre kdr ktb : Nat → Int32} {n q : Nat} (hR : RelC (b + 1) mn po co dr tb sc rc la pw ce lf mq ct wd er bw kmn kpw klf kmk ksc krc kno kpp kpc kme kwe kbo kdr ktb) (hpw : ¬ pw = 0) (hn : n ≤ 999999999) (hq : q < 2 ^ 31) :
    ∃ (r' sc' rc' la' pw' ce' lf' ct' : Int32) (wd' er' bw' : Nat → Int32) (klf' ksc' krc' kno' : Int32) (kbo' kre' : Nat → Int32),
      spX1_append sc rc la pw ce lf mq ct wd er bw 1 (nI n) (nI q) = (r', sc', rc', la', pw', ce', lf', ct', wd', er', bw') ∧
      spX5_put kpw klf kmk ksc krc kno kme kwe kbo kre 1 (nI n) (nI q) = (pw', pw', klf', ksc', krc', kno', wd', er', kbo', kre') ∧
      ((pw' = 0 ∧ r' = -7 ∧ RelC b mn po co dr tb sc' rc' la' pw' ce' lf' mq ct' wd' er' bw' kmn pw' klf' kmk ksc' krc' kno' kpp kpc wd' er' kbo' kdr ktb) ∨
       (pw' = 1 ∧ r' = 1 ∧ ∃ (r2 sc2 rc2 la2 pw2 ce2 lf2 ct2 : Int32) (wd2 er2 bw2 : Nat → Int32) (klf2 ksc2 krc2 kno2 : Int32) (kbo2 kre2 : Nat → Int32),
          spX1_append sc' rc' la' pw' ce' lf' mq ct' wd' er' bw' 2 0 0 = (r2, sc2, rc2, la2, pw2, ce2, lf2, ct2, wd2, er2, bw2) ∧
          spX5_put pw' klf' kmk ksc' krc' kno' wd' er' kbo' kre' 2 0 0 = (pw2, pw2, klf2, ksc2, krc2, kno2, wd2, er2, kbo2, kre2) ∧
          ((pw2 = 1 ∧ r2 = 1) ∨ (pw2 = 0 ∧ r2 = -7)) ∧ RelC b mn (po + 1) (co + (nI n).toInt64) dr tb sc2 rc2 la2 pw2 ce2 lf2 mq ct2 wd2 er2 bw2 kmn pw2 klf2 kmk ksc2 krc2 kno2 (kpp + 1) (kpc + (nI n).toInt64) wd2 er2 kbo2 kdr ktb)) := by
  obtain ⟨a1, a2, a3, a4, a5, a6, a7, a8, a9, a10, a11, a12, a13, a14, a15, ⟨n0, hn1, hn2⟩, S, r, la0, bw0, c, d1, d2, d3, d4, d5, d6, d7⟩ := hR
  have h1 : pw = 1 := a6.resolve_left hpw
  obtain ⟨e1, e2, e3, e4, e5, e6, e7, e8⟩ := d7 h1
  subst a5; subst a7; subst a8; subst a9; subst h1; subst e5; subst e7
  have hv : VK 1 (nI q) := ⟨Or.inl rfl, fun _ => nI_pos hq⟩
  have hv2 : VK 2 0 := (VKz (k := 2) (by decide) _).1
  obtain ⟨r', sc', rc', la', pw', ce', lf', ct', wd', er', bw', klf', ksc', krc', kno', kbo', kre', happ, hput, g1, g2, g3, g4, g5⟩ := AS (mq := mq) (a := nI n) (kre := kre) d1 (by omega) a15 hv d4 d5 a10 e8
  rw [e1, e3, e2, e4, e6]
  refine ⟨r', sc', rc', la', pw', ce', lf', ct', wd', er', bw', klf', ksc', krc', kno', kbo', kre', happ, hput, ?_⟩
  rcases g5 with ⟨x1, x2, S1, r1, y1, y2, y3, y4, y5, y6, y7, y8, y9, y10⟩ | ⟨x1, x2, S1, r1, y1, y2, y3⟩
  · right
    refine ⟨x1, x2, ?_⟩
    have hsi := SI_piece (n := n) (q := q) d3 hn (by omega) hq
    rw [← y9] at hsi
    obtain ⟨-, hsi⟩ := hsi
    obtain ⟨r2, sc2, rc2, la2, pw2, ce2, lf2, ct2, wd2, er2, bw2, klf2, ksc2, krc2, kno2, kbo2, kre2, happ2, hput2, q1, q2, q3, q4, q5⟩ := AS (mq := mq) (a := 0) (kre := kre') y1 (by omega) g4 hv2 y2 y3 g1 y10
    rw [x1, y4, y5, y6, y7, y8]
    refine ⟨r2, sc2, rc2, la2, pw2, ce2, lf2, ct2, wd2, er2, bw2, klf2, ksc2, krc2, kno2, kbo2, kre2, happ2, hput2, ?_, by omega, a2, a3, a4, rfl, ?_, rfl, rfl, rfl, q1, ?_, by rw [a12], q2, q3, q4, ⟨n0 + 1, by rw [hn1, nI_1], by omega⟩, ?_⟩
    · rcases q5 with ⟨z1, z2, -⟩ | ⟨z1, z2, -⟩
      · exact Or.inl ⟨z1, z2⟩
      · exact Or.inr ⟨z1, z2⟩
    · rcases q5 with ⟨z1, -⟩ | ⟨z1, -⟩
      · exact Or.inr z1
      · exact Or.inl z1
    · rw [a11, hn1]; exact k_pp1 (by omega)
    · rcases q5 with ⟨x1', x2', S2, r2', v1, v2, v3, v4, v5, v6, v7, v8, v9, v10⟩ | ⟨x1', x2', S2, r2', v1, v2, v3⟩
      · refine ⟨S2, r2', la2, bw2, c, DI_G v1 (by omega), q4, ?_, WI_mono v2 (Nat.le_refl _) (by omega), v3, by omega, fun _ => ⟨v4, v5, v6, v7, rfl, v8, rfl, v10⟩⟩
        rw [v9]
        exact SI_mono (SI_rec hsi hv2 (by decide)) (by omega)
      · exact ⟨S2, r2', la', bw', c + 1, DI_G v1 (by omega), g4, SI_mono hsi (by omega), WI_mono v2 (Nat.le_refl _) (by omega), v3, by omega, fun h => absurd (x1'.symm.trans h) (by decide)⟩
  · left
    refine ⟨x1, x2, by omega, a2, a3, a4, rfl, Or.inl x1, rfl, rfl, rfl, g1, a11, a12, g2, g3, g4, ⟨n0, hn1, by omega⟩, S1, r1, la, bw, c + 1, DI_G y1 (by omega), d2, SI_mono d3 (by omega), WI_mono y2 (Nat.le_refl _) (by omega), y3, by omega, fun h => absurd (x1.symm.trans h) (by decide)⟩
theorem sim_frank : Sim_frank RelS := by
  intro b σ τ p1 p2 p3 h
  obtain ⟨mn, po, co, dr, tb, sc, rc, la, pw, ce, lf, mq, ct, wd, er, bw⟩ := σ
  obtain ⟨kth, kmn, kpw, klf, kmk, ksc, krc, kno, kpp, kpc, kme, kwe, kbo, kre, kdr, ktb⟩ := τ
  have e0 : pw = kpw := h.2.2.2.2.1
  by_cases h0 : pw = 0
  · have e1 : spX4_frank po co sc rc la pw ce lf mq ct wd er bw p1 p2 p3 = (-7, po, co, sc, rc, la, pw, ce, lf, ct, wd, er, bw) := by
      unfold spX4_frank spX2_hasPower; rw [if_pos h0]
    have e2 : spX5_frank kth kpw klf kmk ksc krc kno kpp kpc kme kwe kbo kre p1 p2 p3 = (-7, 0, kpw, klf, ksc, krc, kno, kpp, kpc, kme, kwe, kbo, kre) := by
      unfold spX5_frank; rw [if_pos (e0.symm.trans h0)]
    unfold nx_frank mx_frank
    dsimp only
    rw [e1, e2]
    exact ⟨rfl, RelC_skip h⟩
  · obtain ⟨h1, h2, hmn, hb, N, c0, S0, B0, hsi, hN, -⟩ := Rel_on h h0
    have hk0 : ¬ kpw = 0 := by rw [h2]; decide
    have e11 : spX0_at bw (11 : Int32) = bw 11 := k_at (i := 11) (by decide)
    have e12 : spX0_at bw (12 : Int32) = bw 12 := k_at (i := 12) (by decide)
    have e14 : spX0_at bw (14 : Int32) = bw 14 := k_at (i := 14) (by decide)
    have k11 : kbo (Int32.toNatClampNeg (13 : Int32)) = bw 11 := hb 11 (by decide)
    have k12 : kbo (Int32.toNatClampNeg (14 : Int32)) = bw 12 := hb 12 (by decide)
    have k14 : kbo (Int32.toNatClampNeg (16 : Int32)) = bw 14 := hb 14 (by decide)
    have e2 : spX0_sumAt bw (2 : Int32) = sm bw 2 := k_sumAt (i := 2) (by decide)
    have k2 : spX5_sum kbo (4 : Int32) = sm bw 2 := (k_sum5 (j := 4) (by decide)).trans (BR_sm hb (i := 2) (by decide))
    have hl : spX4_isLocked bw = 0 ↔ bw 11 = 0 := by
      unfold spX4_isLocked; rw [e11]
      by_cases z : bw 11 = 0
      · rw [if_pos z]; exact ⟨fun _ => z, fun _ => rfl⟩
      · rw [if_neg z]; exact ⟨fun q => absurd q (by decide), fun q => absurd q z⟩
    have hu : spX4_isUncertain bw = 0 ↔ bw 14 = 0 := by
      unfold spX4_isUncertain; rw [e14]
      by_cases z : bw 14 = 0
      · rw [if_pos z]; exact ⟨fun _ => z, fun _ => rfl⟩
      · rw [if_neg z]; exact ⟨fun q => absurd q (by decide), fun q => absurd q z⟩
    have hd := k_moneyEq p2
    have hy := k_dayEq p3
    have hp := k_depEq p1
    by_cases hgo : ¬ spX4_isDepartment p1 = 0 ∧ ¬ spX4_isDay p3 = 0 ∧ ¬ spX4_areCents p2 = 0 ∧ ¬ 0 < lg_cmp (Int32.toInt64 p2) (sm bw 2) ∧ ¬ bw 12 < p3 ∧ bw 11 = 0 ∧ bw 14 = 0
    · obtain ⟨g1, g2, g3, g4, g5, g6, g7⟩ := hgo
      have hmay : ¬ spX4_mayFrank bw p1 p2 p3 = 0 := by
        unfold spX4_mayFrank
        rw [if_neg g1, if_neg g2, if_neg g3, e2, if_neg g4, e12, if_neg g5, if_pos (hl.mpr g6), if_pos (hu.mpr g7)]
        decide
      obtain ⟨q, hq, hq2⟩ := k_q16 g1 g2
      have g3' := Classical.not_not.mp (fun z => g3 (k_cents4.mpr z))
      obtain ⟨n, hn, hn2⟩ := k_nat (a := p2) (by omega)
      obtain ⟨r', sc', rc', la', pw', ce', lf', ct', wd', er', bw', klf', ksc', krc', kno', kbo', kre', happ, hput, hout⟩ := SIMF (kre := kre) (n := n) h h0 (by omega) hq2
      rcases hout with ⟨x1, x2, hrel⟩ | ⟨x1, x2, r2, sc2, rc2, la2, pw2, ce2, lf2, ct2, wd2, er2, bw2, klf2, ksc2, krc2, kno2, kbo2, kre2, happ2, hput2, hans, hrel⟩
      · have e1 : spX4_frank po co sc rc la pw ce lf mq ct wd er bw p1 p2 p3 = (-7, po, co, sc', rc', la', pw', ce', lf', ct', wd', er', bw') := by
          unfold spX4_frank spX2_hasPower
          rw [if_neg h0, if_neg hmay, hq, hn, happ]
          show (if r' = (1 : Int32) then _ else _) = _
          rw [if_neg (by rw [x2]; decide)]
        have e3 : spX5_frank kth kpw klf kmk ksc krc kno kpp kpc kme kwe kbo kre p1 p2 p3 = (-7, 0, pw', klf', ksc', krc', kno', kpp, kpc, wd', er', kbo', kre') := by
          unfold spX5_frank
          rw [if_neg hk0, k11, if_pos g6, if_neg (fun z => g2 (hy.mpr z)), k12, if_neg g5, if_neg (fun z => g1 (hp.mpr z)), if_neg (fun z => g3 (hd.mpr z)), k2, if_neg g4, k14, if_pos g7, hq, hn, hput]
          show (if pw' = (0 : Int32) then _ else _) = _
          rw [if_pos x1]
        unfold nx_frank mx_frank
        dsimp only
        rw [e1, e3]
        exact ⟨rfl, hrel⟩
      · have e1 : spX4_frank po co sc rc la pw ce lf mq ct wd er bw p1 p2 p3 = (r2, po + 1, co + (nI n).toInt64, sc2, rc2, la2, pw2, ce2, lf2, ct2, wd2, er2, bw2) := by
          unfold spX4_frank spX2_hasPower
          rw [if_neg h0, if_neg hmay, hq, hn, happ]
          show (if r' = (1 : Int32) then _ else _) = _
          rw [if_pos x2, happ2]
        have e3 : spX5_frank kth kpw klf kmk ksc krc kno kpp kpc kme kwe kbo kre p1 p2 p3 = (r2, 0, pw2, klf2, ksc2, krc2, kno2, kpp + 1, kpc + (nI n).toInt64, wd2, er2, kbo2, kre2) := by
          unfold spX5_frank
          rw [if_neg hk0, k11, if_pos g6, if_neg (fun z => g2 (hy.mpr z)), k12, if_neg g5, if_neg (fun z => g1 (hp.mpr z)), if_neg (fun z => g3 (hd.mpr z)), k2, if_neg g4, k14, if_pos g7, hq, hn, hput]
          show (if pw' = (0 : Int32) then _ else _) = _
          rw [if_neg (by rw [x1]; decide), hput2]
          show (if pw2 = (0 : Int32) then _ else _) = _
          rcases hans with ⟨z1, z2⟩ | ⟨z1, z2⟩
          · rw [if_neg (by rw [z1]; decide), z2]
          · rw [if_pos z1, z2]
        unfold nx_frank mx_frank
        dsimp only
        rw [e1, e3]
        exact ⟨rfl, hrel⟩
    · have e1 : spX4_frank po co sc rc la pw ce lf mq ct wd er bw p1 p2 p3 = (0, po, co, sc, rc, la, pw, ce, lf, ct, wd, er, bw) := by
        have hmay : spX4_mayFrank bw p1 p2 p3 = 0 := by
          unfold spX4_mayFrank
          by_cases g1 : spX4_isDepartment p1 = 0
          · rw [if_pos g1]
          · rw [if_neg g1]
            by_cases g2 : spX4_isDay p3 = 0
            · rw [if_pos g2]
            · rw [if_neg g2]
              by_cases g3 : spX4_areCents p2 = 0
              · rw [if_pos g3]
              · rw [if_neg g3, e2]
                by_cases g4 : 0 < lg_cmp (Int32.toInt64 p2) (sm bw 2)
                · rw [if_pos g4]
                · rw [if_neg g4, e12]
                  by_cases g5 : bw 12 < p3
                  · rw [if_pos g5]
                  · rw [if_neg g5]
                    by_cases g6 : bw 11 = 0
                    · rw [if_pos (hl.mpr g6), if_neg (fun z => hgo ⟨g1, g2, g3, g4, g5, g6, hu.mp z⟩)]
                    · rw [if_neg (fun z => g6 (hl.mp z))]
        unfold spX4_frank spX2_hasPower
        rw [if_neg h0, if_pos hmay]
      have e3 : spX5_frank kth kpw klf kmk ksc krc kno kpp kpc kme kwe kbo kre p1 p2 p3 = (0, 0, kpw, klf, ksc, krc, kno, kpp, kpc, kme, kwe, kbo, kre) := by
        unfold spX5_frank
        rw [if_neg hk0, k11]
        by_cases g6 : bw 11 = 0
        · rw [if_pos g6]
          by_cases g2 : spX4_isDay p3 = 0
          · rw [if_pos (hy.mp g2)]
          · rw [if_neg (fun z => g2 (hy.mpr z)), k12]
            by_cases g5 : bw 12 < p3
            · rw [if_pos g5]
            · rw [if_neg g5]
              by_cases g1 : spX4_isDepartment p1 = 0
              · rw [if_pos (hp.mp g1)]
              · rw [if_neg (fun z => g1 (hp.mpr z))]
                by_cases g3 : spX4_areCents p2 = 0
                · rw [if_pos (hd.mp g3)]
                · rw [if_neg (fun z => g3 (hd.mpr z)), k2]
                  by_cases g4 : 0 < lg_cmp (Int32.toInt64 p2) (sm bw 2)
                  · rw [if_pos g4]
                  · rw [if_neg g4, k14, if_neg (fun z => hgo ⟨g1, g2, g3, g4, g5, g6, z⟩)]
        · rw [if_neg g6]
      unfold nx_frank mx_frank
      dsimp only
      rw [e1, e3]
      exact ⟨rfl, RelC_skip h⟩
theorem sim_mount : Sim_mount RelS := by
  intro b σ τ h
  obtain ⟨mn, po, co, dr, tb, sc, rc, la, pw, ce, lf, mq, ct, wd, er, bw⟩ := σ
  obtain ⟨kth, kmn, kpw, klf, kmk, ksc, krc, kno, kpp, kpc, kme, kwe, kbo, kre, kdr, ktb⟩ := τ
  obtain ⟨a1, a2, a3, a4, a5, a6, a7, a8, a9, a10, a11, a12, a13, a14, a15, a16, S, r, la0, bw0, c, d1, d2, d3, d4, d5, d6, d7⟩ := RelC_skip h
  obtain ⟨kbo', hb', hm5⟩ := k_mount5 (kbo := kbo) (kth := kth) (kpw := kpw) (ksc := ksc) (krc := krc) (kno := kno) d1
  have e2 : spX5_mount kth kpw ksc krc kno kme kbo = (la0, 0, 1, nI S, nI r, la0, kbo') := by rw [← a8]; exact hm5
  have e1 : spX4_mount sc rc la pw wd bw = (la0, nI S, nI r, la0, 1, bw0) := by
    unfold spX4_mount spX2_hasPower
    by_cases h0 : pw = 0
    · rw [if_pos h0, k_reopen d1 a15]
      rfl
    · rw [if_neg h0]
      have h1 : pw = 1 := a6.resolve_left h0
      obtain ⟨f1, f2, f3, f4, f5, f6, f7, f8⟩ := d7 h1
      rw [f1, f3, f5, f7, h1]
      rfl
  obtain ⟨S', r', g1, g2⟩ : ∃ S' r' : Nat, S' = S ∧ r' = r := ⟨S, r, rfl, rfl⟩
  unfold nx_mount mx_mount
  dsimp only
  rw [e1, e2]
  exact ⟨rfl, a1, a2, a3, a4, rfl, Or.inr rfl, a7, a8, a9, a10, a11, a12, ⟨S, rfl, d1.1⟩, ⟨r, rfl, d1.2.1⟩, d2, a16, S, r, la0, bw0, c, d1, d2, d3, d4, d5, d6, fun _ => ⟨rfl, rfl, rfl, rfl, rfl, rfl, rfl, hb'⟩⟩
