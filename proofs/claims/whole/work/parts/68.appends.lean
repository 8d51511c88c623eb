/-! the calls that append one record -/
theorem VKz {k : Int32} (h : k = 2 ∨ k = 3 ∨ k = 4 ∨ k = 5 ∨ k = 6 ∨ k = 7 ∨ k = 8 ∨ k = 9) (b : Int32) : VK k b ∧ k ≠ 1 := by
  refine ⟨⟨Or.inr h, fun e => ?_⟩, fun e => ?_⟩ <;> (subst e; exact absurd h (by decide))
theorem sim_inspect : Sim_inspect RelS := by
  intro b σ τ p1 h
  obtain ⟨mn, po, co, dr, tb, sc, rc, la, pw, ce, lf, mq, ct, wd, er, bw⟩ := σ
  obtain ⟨kth, kmn, kpw, klf, kmk, ksc, krc, kno, kpp, kpc, kme, kwe, kbo, kre, kdr, ktb⟩ := τ
  have e0 : pw = kpw := h.2.2.2.2.1
  by_cases h0 : pw = 0
  · have e1 : spX4_inspect sc rc la pw ce lf mq ct wd er bw p1 = (-7, sc, rc, la, pw, ce, lf, ct, wd, er, bw) := by
      unfold spX4_inspect spX2_hasPower; rw [if_pos h0]
    have e2 : spX5_inspect kth kpw klf kmk ksc krc kno kme kwe kbo kre p1 = (-7, 0, kpw, klf, ksc, krc, kno, kme, kwe, kbo, kre) := by
      unfold spX5_inspect; rw [if_pos (e0.symm.trans h0)]
    unfold nx_inspect mx_inspect
    dsimp only
    rw [e1, e2]
    exact ⟨rfl, RelC_skip h⟩
  · obtain ⟨h1, h2, hmn, hb, N, c0, S0, B0, hsi, hN, -⟩ := Rel_on h h0
    have hk0 : ¬ kpw = 0 := by rw [h2]; decide
    have hd := k_dayEq p1
    have e12 : spX0_at bw (12 : Int32) = bw 12 := k_at (i := 12) (by decide)
    have k12 : kbo (Int32.toNatClampNeg (14 : Int32)) = bw 12 := hb 12 (by decide)
    by_cases hgo : ¬ spX4_isDay p1 = 0 ∧ bw 12 ≤ p1
    · obtain ⟨r', sc', rc', la', pw', ce', lf', ct', wd', er', bw', klf', ksc', krc', kno', kbo', kre', happ, hput, hans, hrel⟩ := SIMA (kre := kre) (k := 6) (a := p1) (bb := 0) h h0 (VKz (by decide) _).1 (by decide)
      have e1 : spX4_inspect sc rc la pw ce lf mq ct wd er bw p1 = (r', sc', rc', la', pw', ce', lf', ct', wd', er', bw') := by
        unfold spX4_inspect spX2_hasPower
        rw [if_neg h0, if_neg hgo.1, e12, if_pos hgo.2, happ]
      have e2 : spX5_inspect kth kpw klf kmk ksc krc kno kme kwe kbo kre p1 = ((if pw' = 0 then (-7 : Int32) else 1), 0, pw', klf', ksc', krc', kno', wd', er', kbo', kre') := by
        unfold spX5_inspect
        rw [if_neg hk0, if_neg (fun z => hgo.1 (hd.mpr z)), k12, if_pos hgo.2, hput]
        rcases hans with ⟨x1, x2⟩ | ⟨x1, x2⟩
        · rw [x1]; rfl
        · rw [x1]; rfl
      unfold nx_inspect mx_inspect
      dsimp only
      rw [e1, e2]
      refine ⟨?_, hrel⟩
      rcases hans with ⟨x1, x2⟩ | ⟨x1, x2⟩
      · rw [x1, x2]; rfl
      · rw [x1, x2]; rfl
    · have e1 : spX4_inspect sc rc la pw ce lf mq ct wd er bw p1 = (0, sc, rc, la, pw, ce, lf, ct, wd, er, bw) := by
        unfold spX4_inspect spX2_hasPower
        rw [if_neg h0]
        by_cases c1 : spX4_isDay p1 = 0
        · rw [if_pos c1]
        · rw [if_neg c1, e12, if_neg (fun z => hgo ⟨c1, z⟩)]
      have e2 : spX5_inspect kth kpw klf kmk ksc krc kno kme kwe kbo kre p1 = (0, 0, kpw, klf, ksc, krc, kno, kme, kwe, kbo, kre) := by
        unfold spX5_inspect
        rw [if_neg hk0]
        by_cases c1 : spX4_isDay p1 = 0
        · rw [if_pos (hd.mp c1)]
        · rw [if_neg (fun z => c1 (hd.mpr z)), k12, if_neg (fun z => hgo ⟨c1, z⟩)]
      unfold nx_inspect mx_inspect
      dsimp only
      rw [e1, e2]
      exact ⟨rfl, RelC_skip h⟩
theorem sim_lock : Sim_lock RelS := by
  intro b σ τ h
  obtain ⟨mn, po, co, dr, tb, sc, rc, la, pw, ce, lf, mq, ct, wd, er, bw⟩ := σ
  obtain ⟨kth, kmn, kpw, klf, kmk, ksc, krc, kno, kpp, kpc, kme, kwe, kbo, kre, kdr, ktb⟩ := τ
  have e0 : pw = kpw := h.2.2.2.2.1
  by_cases h0 : pw = 0
  · have e1 : spX4_lock sc rc la pw ce lf mq ct wd er bw = (-7, sc, rc, la, pw, ce, lf, ct, wd, er, bw) := by
      unfold spX4_lock spX2_hasPower; rw [if_pos h0]
    have e2 : spX5_lock kth kpw klf kmk ksc krc kno kme kwe kbo kre = (-7, 0, kpw, klf, ksc, krc, kno, kme, kwe, kbo, kre) := by
      unfold spX5_lock; rw [if_pos (e0.symm.trans h0)]
    unfold nx_lock mx_lock
    dsimp only
    rw [e1, e2]
    exact ⟨rfl, RelC_skip h⟩
  · obtain ⟨h1, h2, hmn, hb, N, c0, S0, B0, hsi, hN, -⟩ := Rel_on h h0
    have hk0 : ¬ kpw = 0 := by rw [h2]; decide
    have e11 : spX0_at bw (11 : Int32) = bw 11 := k_at (i := 11) (by decide)
    have k11 : kbo (Int32.toNatClampNeg (13 : Int32)) = bw 11 := hb 11 (by decide)
    have h01 : bw 11 = 0 ∨ bw 11 = 1 := hsi.2.2.2.2.1
    have hl : spX4_isLocked bw = 0 ↔ bw 11 = 0 := by
      unfold spX4_isLocked; rw [e11]
      by_cases z : bw 11 = 0
      · rw [if_pos z]; exact ⟨fun _ => z, fun _ => rfl⟩
      · rw [if_neg z]; exact ⟨fun q => absurd q (by decide), fun q => absurd q z⟩
    by_cases hgo : bw 11 = 0
    · obtain ⟨r', sc', rc', la', pw', ce', lf', ct', wd', er', bw', klf', ksc', krc', kno', kbo', kre', happ, hput, hans, hrel⟩ := SIMA (kre := kre) (k := 7) (a := 0) (bb := 0) h h0 (VKz (by decide) _).1 (by decide)
      have e1 : spX4_lock sc rc la pw ce lf mq ct wd er bw = (r', sc', rc', la', pw', ce', lf', ct', wd', er', bw') := by
        unfold spX4_lock spX2_hasPower
        rw [if_neg h0, if_pos (hl.mpr hgo), happ]
      have e2 : spX5_lock kth kpw klf kmk ksc krc kno kme kwe kbo kre = ((if pw' = 0 then (-7 : Int32) else 1), 0, pw', klf', ksc', krc', kno', wd', er', kbo', kre') := by
        unfold spX5_lock
        rw [if_neg hk0, k11, if_neg (by rw [hgo]; decide), hput]
        rcases hans with ⟨x1, x2⟩ | ⟨x1, x2⟩
        · rw [x1]; rfl
        · rw [x1]; rfl
      unfold nx_lock mx_lock
      dsimp only
      rw [e1, e2]
      refine ⟨?_, hrel⟩
      rcases hans with ⟨x1, x2⟩ | ⟨x1, x2⟩
      · rw [x1, x2]; rfl
      · rw [x1, x2]; rfl
    · have e1 : spX4_lock sc rc la pw ce lf mq ct wd er bw = (0, sc, rc, la, pw, ce, lf, ct, wd, er, bw) := by
        unfold spX4_lock spX2_hasPower
        rw [if_neg h0]
        rw [if_neg (fun z => hgo (hl.mp z))]
      have e2 : spX5_lock kth kpw klf kmk ksc krc kno kme kwe kbo kre = (0, 0, kpw, klf, ksc, krc, kno, kme, kwe, kbo, kre) := by
        unfold spX5_lock
        rw [if_neg hk0]
        rw [k11, if_pos (h01.resolve_left hgo)]
      unfold nx_lock mx_lock
      dsimp only
      rw [e1, e2]
      exact ⟨rfl, RelC_skip h⟩
theorem sim_unlock : Sim_unlock RelS := by
  intro b σ τ p1 h
  obtain ⟨mn, po, co, dr, tb, sc, rc, la, pw, ce, lf, mq, ct, wd, er, bw⟩ := σ
  obtain ⟨kth, kmn, kpw, klf, kmk, ksc, krc, kno, kpp, kpc, kme, kwe, kbo, kre, kdr, ktb⟩ := τ
  have e0 : pw = kpw := h.2.2.2.2.1
  by_cases h0 : pw = 0
  · have e1 : spX4_unlock mn sc rc la pw ce lf mq ct wd er bw p1 = (-7, sc, rc, la, pw, ce, lf, ct, wd, er, bw) := by
      unfold spX4_unlock spX2_hasPower; rw [if_pos h0]
    have e2 : spX5_unlock kth kmn kpw klf kmk ksc krc kno kme kwe kbo kre p1 = (-7, 0, kpw, klf, ksc, krc, kno, kme, kwe, kbo, kre) := by
      unfold spX5_unlock; rw [if_pos (e0.symm.trans h0)]
    unfold nx_unlock mx_unlock
    dsimp only
    rw [e1, e2]
    exact ⟨rfl, RelC_skip h⟩
  · obtain ⟨h1, h2, hmn, hb, N, c0, S0, B0, hsi, hN, -⟩ := Rel_on h h0
    have hk0 : ¬ kpw = 0 := by rw [h2]; decide
    have e11 : spX0_at bw (11 : Int32) = bw 11 := k_at (i := 11) (by decide)
    have k11 : kbo (Int32.toNatClampNeg (13 : Int32)) = bw 11 := hb 11 (by decide)
    have hl : spX4_isLocked bw = 0 ↔ bw 11 = 0 := by
      unfold spX4_isLocked; rw [e11]
      by_cases z : bw 11 = 0
      · rw [if_pos z]; exact ⟨fun _ => z, fun _ => rfl⟩
      · rw [if_neg z]; exact ⟨fun q => absurd q (by decide), fun q => absurd q z⟩
    have hcode : ∀ x : Int32, ¬ x < 0 → spX4_codeFor mn (bw 10) x = spX5_code kmn (bw 10) x := by
      intro x hx
      obtain ⟨-, -, -, -, -, R, c1, c2⟩ := hsi
      unfold spX4_codeFor spX5_code
      rw [c1, if_neg (nI_pos (by omega)), if_pos (by rw [Int32.le_iff_toInt_le, Int32.toInt_zero]; rw [Int32.lt_iff_toInt_lt, Int32.toInt_zero] at hx; omega), hmn]
    have e10 : spX0_at bw (10 : Int32) = bw 10 := k_at (i := 10) (by decide)
    have k10 : kbo (Int32.toNatClampNeg (12 : Int32)) = bw 10 := hb 10 (by decide)
    have hc0 := hcode 0 (by decide)
    by_cases hgo : ¬ bw 11 = 0 ∧ p1 = spX5_code kmn (bw 10) 0
    · obtain ⟨r', sc', rc', la', pw', ce', lf', ct', wd', er', bw', klf', ksc', krc', kno', kbo', kre', happ, hput, hans, hrel⟩ := SIMA (kre := kre) (k := 8) (a := 0) (bb := 0) h h0 (VKz (by decide) _).1 (by decide)
      have e1 : spX4_unlock mn sc rc la pw ce lf mq ct wd er bw p1 = (r', sc', rc', la', pw', ce', lf', ct', wd', er', bw') := by
        unfold spX4_unlock spX2_hasPower
        rw [if_neg h0, if_neg (fun z => hgo.1 (hl.mp z)), e10, hc0, if_pos hgo.2, happ]
      have e2 : spX5_unlock kth kmn kpw klf kmk ksc krc kno kme kwe kbo kre p1 = ((if pw' = 0 then (-7 : Int32) else 1), 0, pw', klf', ksc', krc', kno', wd', er', kbo', kre') := by
        unfold spX5_unlock
        rw [if_neg hk0, k11, if_neg hgo.1, k10, if_pos hgo.2, hput]
        rcases hans with ⟨x1, x2⟩ | ⟨x1, x2⟩
        · rw [x1]; rfl
        · rw [x1]; rfl
      unfold nx_unlock mx_unlock
      dsimp only
      rw [e1, e2]
      refine ⟨?_, hrel⟩
      rcases hans with ⟨x1, x2⟩ | ⟨x1, x2⟩
      · rw [x1, x2]; rfl
      · rw [x1, x2]; rfl
    · have e1 : spX4_unlock mn sc rc la pw ce lf mq ct wd er bw p1 = (0, sc, rc, la, pw, ce, lf, ct, wd, er, bw) := by
        unfold spX4_unlock spX2_hasPower
        rw [if_neg h0]
        by_cases c1 : bw 11 = 0
        · rw [if_pos (hl.mpr c1)]
        · rw [if_neg (fun z => c1 (hl.mp z)), e10, hc0, if_neg (fun z => hgo ⟨c1, z⟩)]
      have e2 : spX5_unlock kth kmn kpw klf kmk ksc krc kno kme kwe kbo kre p1 = (0, 0, kpw, klf, ksc, krc, kno, kme, kwe, kbo, kre) := by
        unfold spX5_unlock
        rw [if_neg hk0]
        by_cases c1 : bw 11 = 0
        · rw [k11, if_pos c1]
        · rw [k11, if_neg c1, k10, if_neg (fun z => hgo ⟨c1, z⟩)]
      unfold nx_unlock mx_unlock
      dsimp only
      rw [e1, e2]
      exact ⟨rfl, RelC_skip h⟩
theorem sim_refill : Sim_refill RelS := by
  intro b σ τ p1 p2 h
  obtain ⟨mn, po, co, dr, tb, sc, rc, la, pw, ce, lf, mq, ct, wd, er, bw⟩ := σ
  obtain ⟨kth, kmn, kpw, klf, kmk, ksc, krc, kno, kpp, kpc, kme, kwe, kbo, kre, kdr, ktb⟩ := τ
  have e0 : pw = kpw := h.2.2.2.2.1
  by_cases h0 : pw = 0
  · have e1 : spX4_refill mn sc rc la pw ce lf mq ct wd er bw p1 p2 = (-7, sc, rc, la, pw, ce, lf, ct, wd, er, bw) := by
      unfold spX4_refill spX2_hasPower; rw [if_pos h0]
    have e2 : spX5_refill kth kmn kpw klf kmk ksc krc kno kme kwe kbo kre p1 p2 = (-7, 0, kpw, klf, ksc, krc, kno, kme, kwe, kbo, kre) := by
      unfold spX5_refill; rw [if_pos (e0.symm.trans h0)]
    unfold nx_refill mx_refill
    dsimp only
    rw [e1, e2]
    exact ⟨rfl, RelC_skip h⟩
  · obtain ⟨h1, h2, hmn, hb, N, c0, S0, B0, hsi, hN, -⟩ := Rel_on h h0
    have hk0 : ¬ kpw = 0 := by rw [h2]; decide
    have hcode : ∀ x : Int32, ¬ x < 0 → spX4_codeFor mn (bw 10) x = spX5_code kmn (bw 10) x := by
      intro x hx
      obtain ⟨-, -, -, -, -, R, c1, c2⟩ := hsi
      unfold spX4_codeFor spX5_code
      rw [c1, if_neg (nI_pos (by omega)), if_pos (by rw [Int32.le_iff_toInt_le, Int32.toInt_zero]; rw [Int32.lt_iff_toInt_lt, Int32.toInt_zero] at hx; omega), hmn]
    have e10 : spX0_at bw (10 : Int32) = bw 10 := k_at (i := 10) (by decide)
    have k10 : kbo (Int32.toNatClampNeg (12 : Int32)) = bw 10 := hb 10 (by decide)
    have hd := k_moneyEq p1
    have hcm : ¬ spX4_areCents p1 = 0 → spX4_codeFor mn (bw 10) p1 = spX5_code kmn (bw 10) p1 := fun z => hcode p1 (by
      have := Classical.not_not.mp (fun q => z (k_cents4.mpr q))
      rw [Int32.lt_iff_toInt_lt, Int32.toInt_zero]; omega)
    have e4 : spX0_sumAt bw (4 : Int32) = sm bw 4 := k_sumAt (i := 4) (by decide)
    have k4 : spX5_sum kbo (6 : Int32) = sm bw 4 := (k_sum5 (j := 6) (by decide)).trans (BR_sm hb (i := 4) (by decide))
    have hcmp : lg_cmp (sm bw 4 + Int32.toInt64 p1) (1099511627776 : Int64) < 0 ↔ ¬ 0 ≤ lg_cmp (sm bw 4 + Int32.toInt64 p1) (1099511627776 : Int64) := by
      rw [Int32.lt_iff_toInt_lt, Int32.le_iff_toInt_le, Int32.toInt_zero]; omega
    by_cases hgo : ¬ spX4_areCents p1 = 0 ∧ p2 = spX5_code kmn (bw 10) p1 ∧ lg_cmp (sm bw 4 + Int32.toInt64 p1) (1099511627776 : Int64) < 0
    · obtain ⟨r', sc', rc', la', pw', ce', lf', ct', wd', er', bw', klf', ksc', krc', kno', kbo', kre', happ, hput, hans, hrel⟩ := SIMA (kre := kre) (k := 4) (a := p1) (bb := 0) h h0 (VKz (by decide) _).1 (by decide)
      have e1 : spX4_refill mn sc rc la pw ce lf mq ct wd er bw p1 p2 = (r', sc', rc', la', pw', ce', lf', ct', wd', er', bw') := by
        unfold spX4_refill spX2_hasPower
        rw [if_neg h0, if_neg hgo.1, e10, hcm hgo.1, if_pos hgo.2.1, e4, if_pos hgo.2.2, happ]
      have e2 : spX5_refill kth kmn kpw klf kmk ksc krc kno kme kwe kbo kre p1 p2 = ((if pw' = 0 then (-7 : Int32) else 1), 0, pw', klf', ksc', krc', kno', wd', er', kbo', kre') := by
        unfold spX5_refill
        rw [if_neg hk0, if_neg (fun z => hgo.1 (hd.mpr z)), k10, if_pos hgo.2.1, k4, if_pos hgo.2.2, hput]
        rcases hans with ⟨x1, x2⟩ | ⟨x1, x2⟩
        · rw [x1]; rfl
        · rw [x1]; rfl
      unfold nx_refill mx_refill
      dsimp only
      rw [e1, e2]
      refine ⟨?_, hrel⟩
      rcases hans with ⟨x1, x2⟩ | ⟨x1, x2⟩
      · rw [x1, x2]; rfl
      · rw [x1, x2]; rfl
    · have e1 : spX4_refill mn sc rc la pw ce lf mq ct wd er bw p1 p2 = (0, sc, rc, la, pw, ce, lf, ct, wd, er, bw) := by
        unfold spX4_refill spX2_hasPower
        rw [if_neg h0]
        by_cases c1 : spX4_areCents p1 = 0
        · rw [if_pos c1]
        · rw [if_neg c1, e10, hcm c1]
          by_cases c2 : p2 = spX5_code kmn (bw 10) p1
          · rw [if_pos c2, e4, if_neg (fun z => hgo ⟨c1, c2, z⟩)]
          · rw [if_neg c2]
      have e2 : spX5_refill kth kmn kpw klf kmk ksc krc kno kme kwe kbo kre p1 p2 = (0, 0, kpw, klf, ksc, krc, kno, kme, kwe, kbo, kre) := by
        unfold spX5_refill
        rw [if_neg hk0]
        by_cases c1 : spX4_areCents p1 = 0
        · rw [if_pos (hd.mp c1)]
        · rw [if_neg (fun z => c1 (hd.mpr z)), k10]
          by_cases c2 : p2 = spX5_code kmn (bw 10) p1
          · rw [if_pos c2, k4, if_neg (fun z => hgo ⟨c1, c2, z⟩)]
          · rw [if_neg c2]
      unfold nx_refill mx_refill
      dsimp only
      rw [e1, e2]
      exact ⟨rfl, RelC_skip h⟩
theorem sim_claimBack : Sim_claimBack RelS := by
  intro b σ τ p1 p2 h
  obtain ⟨mn, po, co, dr, tb, sc, rc, la, pw, ce, lf, mq, ct, wd, er, bw⟩ := σ
  obtain ⟨kth, kmn, kpw, klf, kmk, ksc, krc, kno, kpp, kpc, kme, kwe, kbo, kre, kdr, ktb⟩ := τ
  have e0 : pw = kpw := h.2.2.2.2.1
  by_cases h0 : pw = 0
  · have e1 : spX4_claimBack sc rc la pw ce lf mq ct wd er bw p1 p2 = (-7, sc, rc, la, pw, ce, lf, ct, wd, er, bw) := by
      unfold spX4_claimBack spX2_hasPower; rw [if_pos h0]
    have e2 : spX5_claimBack kth kpw klf kmk ksc krc kno kme kwe kbo kre p1 p2 = (-7, 0, kpw, klf, ksc, krc, kno, kme, kwe, kbo, kre) := by
      unfold spX5_claimBack; rw [if_pos (e0.symm.trans h0)]
    unfold nx_claimBack mx_claimBack
    dsimp only
    rw [e1, e2]
    exact ⟨rfl, RelC_skip h⟩
  · obtain ⟨h1, h2, hmn, hb, N, c0, S0, B0, hsi, hN, -⟩ := Rel_on h h0
    have hk0 : ¬ kpw = 0 := by rw [h2]; decide
    have e9 : spX0_at bw (9 : Int32) = bw 9 := k_at (i := 9) (by decide)
    have e8 : spX0_at bw (8 : Int32) = bw 8 := k_at (i := 8) (by decide)
    have k9 : kbo (Int32.toNatClampNeg (11 : Int32)) = bw 9 := hb 9 (by decide)
    have k8 : kbo (Int32.toNatClampNeg (10 : Int32)) = bw 8 := hb 8 (by decide)
    have hd := k_moneyEq p2
    have hy := k_dayEq p1
    have e4 : spX0_sumAt bw (0 : Int32) = sm bw 0 := k_sumAt (i := 0) (by decide)
    have k4 : spX5_sum kbo (2 : Int32) = sm bw 0 := (k_sum5 (j := 2) (by decide)).trans (BR_sm hb (i := 0) (by decide))
    by_cases hgo : (bw 9 + 1 ≤ bw 8 / 100) ∧ ¬ spX4_areCents p2 = 0 ∧ ¬ 0 < lg_cmp (Int32.toInt64 p2) (sm bw 0) ∧ ¬ spX4_isDay p1 = 0
    · obtain ⟨r', sc', rc', la', pw', ce', lf', ct', wd', er', bw', klf', ksc', krc', kno', kbo', kre', happ, hput, hans, hrel⟩ := SIMA (kre := kre) (k := 5) (a := p2) (bb := p1) h h0 (VKz (by decide) _).1 (by decide)
      have e1 : spX4_claimBack sc rc la pw ce lf mq ct wd er bw p1 p2 = (r', sc', rc', la', pw', ce', lf', ct', wd', er', bw') := by
        unfold spX4_claimBack spX2_hasPower
        rw [if_neg h0, e9, e8, if_pos hgo.1, if_neg hgo.2.1, e4, if_neg hgo.2.2.1, if_neg hgo.2.2.2, happ]
      have e2 : spX5_claimBack kth kpw klf kmk ksc krc kno kme kwe kbo kre p1 p2 = ((if pw' = 0 then (-7 : Int32) else 1), 0, pw', klf', ksc', krc', kno', wd', er', kbo', kre') := by
        unfold spX5_claimBack
        rw [if_neg hk0, k9, k8, if_pos hgo.1, if_neg (fun z => hgo.2.1 (hd.mpr z)), k4, if_neg hgo.2.2.1, if_neg (fun z => hgo.2.2.2 (hy.mpr z)), hput]
        rcases hans with ⟨x1, x2⟩ | ⟨x1, x2⟩
        · rw [x1]; rfl
        · rw [x1]; rfl
      unfold nx_claimBack mx_claimBack
      dsimp only
      rw [e1, e2]
      refine ⟨?_, hrel⟩
      rcases hans with ⟨x1, x2⟩ | ⟨x1, x2⟩
      · rw [x1, x2]; rfl
      · rw [x1, x2]; rfl
    · have e1 : spX4_claimBack sc rc la pw ce lf mq ct wd er bw p1 p2 = (0, sc, rc, la, pw, ce, lf, ct, wd, er, bw) := by
        unfold spX4_claimBack spX2_hasPower
        rw [if_neg h0, e9, e8]
        by_cases c1 : bw 9 + 1 ≤ bw 8 / 100
        · rw [if_pos c1]
          by_cases c2 : spX4_areCents p2 = 0
          · rw [if_pos c2]
          · rw [if_neg c2, e4]
            by_cases c3 : 0 < lg_cmp (Int32.toInt64 p2) (sm bw 0)
            · rw [if_pos c3]
            · rw [if_neg c3, if_pos (Classical.not_not.mp (fun z => hgo ⟨c1, c2, c3, z⟩))]
        · rw [if_neg c1]
      have e2 : spX5_claimBack kth kpw klf kmk ksc krc kno kme kwe kbo kre p1 p2 = (0, 0, kpw, klf, ksc, krc, kno, kme, kwe, kbo, kre) := by
        unfold spX5_claimBack
        rw [if_neg hk0, k9, k8]
        by_cases c1 : bw 9 + 1 ≤ bw 8 / 100
        · rw [if_pos c1]
          by_cases c2 : spX4_areCents p2 = 0
          · rw [if_pos (hd.mp c2)]
          · rw [if_neg (fun z => c2 (hd.mpr z)), k4]
            by_cases c3 : 0 < lg_cmp (Int32.toInt64 p2) (sm bw 0)
            · rw [if_pos c3]
            · rw [if_neg c3, if_pos (hy.mp (Classical.not_not.mp (fun z => hgo ⟨c1, c2, c3, z⟩)))]
        · rw [if_neg c1]
      unfold nx_claimBack mx_claimBack
      dsimp only
      rw [e1, e2]
      exact ⟨rfl, RelC_skip h⟩
theorem sim_settle : Sim_settle RelS := by
  intro b σ τ p1 h hp
  obtain ⟨mn, po, co, dr, tb, sc, rc, la, pw, ce, lf, mq, ct, wd, er, bw⟩ := σ
  obtain ⟨kth, kmn, kpw, klf, kmk, ksc, krc, kno, kpp, kpc, kme, kwe, kbo, kre, kdr, ktb⟩ := τ
  have e0 : pw = kpw := h.2.2.2.2.1
  by_cases h0 : pw = 0
  · have e1 : spX4_settle sc rc la pw ce lf mq ct wd er bw p1 = (-7, sc, rc, la, pw, ce, lf, ct, wd, er, bw) := by
      unfold spX4_settle spX2_hasPower; rw [if_pos h0]
    have e2 : spX5_settle kth kpw klf kmk ksc krc kno kme kwe kbo kre p1 = (-7, 0, kpw, klf, ksc, krc, kno, kme, kwe, kbo, kre) := by
      unfold spX5_settle; rw [if_pos (e0.symm.trans h0)]
    unfold nx_settle mx_settle
    dsimp only
    rw [e1, e2]
    exact ⟨rfl, RelC_skip h⟩
  · obtain ⟨h1, h2, hmn, hb, N, c0, S0, B0, hsi, hN, -⟩ := Rel_on h h0
    have hk0 : ¬ kpw = 0 := by rw [h2]; decide
    have e14 : spX0_at bw (14 : Int32) = bw 14 := k_at (i := 14) (by decide)
    have k14 : kbo (Int32.toNatClampNeg (16 : Int32)) = bw 14 := hb 14 (by decide)
    have hl : spX4_isUncertain bw = 0 ↔ bw 14 = 0 := by
      unfold spX4_isUncertain; rw [e14]
      by_cases z : bw 14 = 0
      · rw [if_pos z]; exact ⟨fun _ => z, fun _ => rfl⟩
      · rw [if_neg z]; exact ⟨fun q => absurd q (by decide), fun q => absurd q z⟩
    by_cases hgo : ¬ bw 14 = 0
    · obtain ⟨r', sc', rc', la', pw', ce', lf', ct', wd', er', bw', klf', ksc', krc', kno', kbo', kre', happ, hput, hans, hrel⟩ := SIMA (kre := kre) (k := 3) (a := if p1 = 0 then 0 else 1) (bb := 0) h h0 (VKz (by decide) _).1 (by decide)
      have e1 : spX4_settle sc rc la pw ce lf mq ct wd er bw p1 = (r', sc', rc', la', pw', ce', lf', ct', wd', er', bw') := by
        unfold spX4_settle spX2_hasPower
        rw [if_neg h0, if_neg (fun z => hgo (hl.mp z))]
        by_cases c1 : p1 = 0
        · rw [if_pos c1] at happ ⊢; rw [happ]
        · rw [if_neg c1] at happ ⊢; rw [happ]
      have e2 : spX5_settle kth kpw klf kmk ksc krc kno kme kwe kbo kre p1 = ((if pw' = 0 then (-7 : Int32) else 1), 0, pw', klf', ksc', krc', kno', wd', er', kbo', kre') := by
        unfold spX5_settle
        rw [if_neg hk0, k14, if_neg hgo]
        by_cases c1 : p1 = 0
        · rw [if_pos c1] at hput ⊢; rw [hput]
          rcases hans with ⟨x1, x2⟩ | ⟨x1, x2⟩
          · rw [x1]; rfl
          · rw [x1]; rfl
        · rw [if_neg c1] at hput ⊢; rw [hput]
          rcases hans with ⟨x1, x2⟩ | ⟨x1, x2⟩
          · rw [x1]; rfl
          · rw [x1]; rfl
      unfold nx_settle mx_settle
      dsimp only
      rw [e1, e2]
      refine ⟨?_, hrel⟩
      rcases hans with ⟨x1, x2⟩ | ⟨x1, x2⟩
      · rw [x1, x2]; rfl
      · rw [x1, x2]; rfl
    · have c1 := Classical.not_not.mp hgo
      have e1 : spX4_settle sc rc la pw ce lf mq ct wd er bw p1 = (0, sc, rc, la, pw, ce, lf, ct, wd, er, bw) := by
        unfold spX4_settle spX2_hasPower
        rw [if_neg h0, if_pos (hl.mpr c1)]
      have e2 : spX5_settle kth kpw klf kmk ksc krc kno kme kwe kbo kre p1 = (0, 0, kpw, klf, ksc, krc, kno, kme, kwe, kbo, kre) := by
        unfold spX5_settle
        rw [if_neg hk0, k14, if_pos c1]
      unfold nx_settle mx_settle
      dsimp only
      rw [e1, e2]
      exact ⟨rfl, RelC_skip h⟩
theorem k_load5 (n : Nat) : ∀ (kth kpw klf kmk ksc krc kno : Int32) (kme kwe kbo kre dr tb : Nat → Int32) (p1 : Int32) (i : Nat), i ≤ 320 → 320 < i + n → lpX5_loadTable_48 n kth kpw klf kmk ksc krc kno kme kwe kbo kre dr tb p1 (nI i) = ((1 : Int32), kth, kpw, klf, ksc, krc, kno, kme, kwe, kbo, kre, lpX3_useDrafts_2 n dr tb (nI i)) := by
  induction n with
  | zero => intro kth kpw klf kmk ksc krc kno kme kwe kbo kre dr tb p1 i h1 h2; omega
  | succ n ih =>
    intro kth kpw klf kmk ksc krc kno kme kwe kbo kre dr tb p1 i h1 h2
    rw [lpX5_loadTable_48_e, lpX3_useDrafts_2_e]
    by_cases c : (320 : Int32) ≤ nI i
    · rw [if_pos c, if_pos c]
    · rw [if_neg c, if_neg c]
      have hi : i < 320 := by
        apply Classical.byContradiction; intro z
        have : i = 320 := by omega
        rw [this] at c; exact c (by decide)
      rw [nI_1]
      exact ih kth kpw klf kmk ksc krc kno kme kwe kbo kre dr _ p1 (i + 1) (by omega) (by omega)
theorem RelC_tb {b : Nat} {mn : Int32} {po co : Int64} {dr tb : Nat → Int32} {sc rc la pw ce lf mq ct : Int32} {wd er bw : Nat → Int32} {kmn kpw klf kmk ksc krc kno kpp : Int32} {kpc : Int64} {kme kwe kbo kdr ktb : Nat → Int32} (hR : RelC b mn po co dr tb sc rc la pw ce lf mq ct wd er bw kmn kpw klf kmk ksc krc kno kpp kpc kme kwe kbo kdr ktb) (t : Nat → Int32) : RelC b mn po co dr t sc rc la pw ce lf mq ct wd er bw kmn kpw klf kmk ksc krc kno kpp kpc kme kwe kbo kdr t := by
  obtain ⟨a1, a2, a3, a4, a5⟩ := hR
  exact ⟨a1, a2, a3, rfl, a5⟩
theorem sim_loadTable : Sim_loadTable RelS := by
  intro b σ τ p1 h
  obtain ⟨mn, po, co, dr, tb, sc, rc, la, pw, ce, lf, mq, ct, wd, er, bw⟩ := σ
  obtain ⟨kth, kmn, kpw, klf, kmk, ksc, krc, kno, kpp, kpc, kme, kwe, kbo, kre, kdr, ktb⟩ := τ
  have e0 : pw = kpw := h.2.2.2.2.1
  have hdr : dr = kdr := h.2.2.1
  have htb : tb = ktb := h.2.2.2.1
  by_cases h0 : pw = 0
  · have e1 : spX4_loadTable dr tb sc rc la pw ce lf mq ct wd er bw p1 = (-7, tb, sc, rc, la, pw, ce, lf, ct, wd, er, bw) := by
      unfold spX4_loadTable spX2_hasPower; rw [if_pos h0]
    have e2 : spX5_loadTable kth kpw klf kmk ksc krc kno kme kwe kbo kre kdr ktb p1 = (-7, 0, kpw, klf, ksc, krc, kno, kme, kwe, kbo, kre, ktb) := by
      unfold spX5_loadTable; rw [if_pos (e0.symm.trans h0)]
    unfold nx_loadTable mx_loadTable
    dsimp only
    rw [e1, e2]
    exact ⟨rfl, RelC_skip h⟩
  · obtain ⟨h1, h2, hmn, hb, N, c0, S0, B0, hsi, hN, -⟩ := Rel_on h h0
    have hk0 : ¬ kpw = 0 := by rw [h2]; decide
    have e13 : spX0_at bw (13 : Int32) = bw 13 := k_at (i := 13) (by decide)
    have k13 : kbo (Int32.toNatClampNeg (15 : Int32)) = bw 13 := hb 13 (by decide)
    by_cases hgo : ¬ p1 < 0 ∧ bw 13 ≤ p1
    · obtain ⟨r', sc', rc', la', pw', ce', lf', ct', wd', er', bw', klf', ksc', krc', kno', kbo', kre', happ, hput, hans, hrel⟩ := SIMA (kre := kre) (k := 9) (a := p1) (bb := 0) h h0 (VKz (by decide) _).1 (by decide)
      rcases hans with ⟨x1, x2⟩ | ⟨x1, x2⟩
      · have e1 : spX4_loadTable dr tb sc rc la pw ce lf mq ct wd er bw p1 = (1, spX3_useDrafts dr tb, sc', rc', la', pw', ce', lf', ct', wd', er', bw') := by
          unfold spX4_loadTable spX2_hasPower
          rw [if_neg h0, if_neg hgo.1, e13, if_pos hgo.2, happ]
          show (if r' = (1 : Int32) then _ else _) = _
          rw [if_pos x2, x2]
        have e2 : spX5_loadTable kth kpw klf kmk ksc krc kno kme kwe kbo kre kdr ktb p1 = (1, 0, pw', klf', ksc', krc', kno', wd', er', kbo', kre', spX3_useDrafts dr tb) := by
          unfold spX5_loadTable
          rw [if_neg hk0, if_neg hgo.1, k13, if_pos hgo.2, hput]
          show (if pw' = (0 : Int32) then _ else _) = _
          rw [if_neg (by rw [x1]; decide), ← hdr, ← htb]
          exact k_load5 321 _ _ _ _ _ _ _ _ _ _ _ dr tb p1 0 (by decide) (by decide)
        unfold nx_loadTable mx_loadTable
        dsimp only
        rw [e1, e2]
        exact ⟨rfl, RelC_tb hrel _⟩
      · have e1 : spX4_loadTable dr tb sc rc la pw ce lf mq ct wd er bw p1 = (-7, tb, sc', rc', la', pw', ce', lf', ct', wd', er', bw') := by
          unfold spX4_loadTable spX2_hasPower
          rw [if_neg h0, if_neg hgo.1, e13, if_pos hgo.2, happ]
          show (if r' = (1 : Int32) then _ else _) = _
          rw [if_neg (by rw [x2]; decide), x2]
        have e2 : spX5_loadTable kth kpw klf kmk ksc krc kno kme kwe kbo kre kdr ktb p1 = (-7, 0, pw', klf', ksc', krc', kno', wd', er', kbo', kre', ktb) := by
          unfold spX5_loadTable
          rw [if_neg hk0, if_neg hgo.1, k13, if_pos hgo.2, hput]
          show (if pw' = (0 : Int32) then _ else _) = _
          rw [if_pos x1]
        unfold nx_loadTable mx_loadTable
        dsimp only
        rw [e1, e2]
        exact ⟨rfl, hrel⟩
    · have e1 : spX4_loadTable dr tb sc rc la pw ce lf mq ct wd er bw p1 = (0, tb, sc, rc, la, pw, ce, lf, ct, wd, er, bw) := by
        unfold spX4_loadTable spX2_hasPower
        rw [if_neg h0]
        by_cases c1 : p1 < 0
        · rw [if_pos c1]
        · rw [if_neg c1, e13, if_neg (fun z => hgo ⟨c1, z⟩)]
      have e2 : spX5_loadTable kth kpw klf kmk ksc krc kno kme kwe kbo kre kdr ktb p1 = (0, 0, kpw, klf, ksc, krc, kno, kme, kwe, kbo, kre, ktb) := by
        unfold spX5_loadTable
        rw [if_neg hk0]
        by_cases c1 : p1 < 0
        · rw [if_pos c1]
        · rw [if_neg c1, k13, if_neg (fun z => hgo ⟨c1, z⟩)]
      unfold nx_loadTable mx_loadTable
      dsimp only
      rw [e1, e2]
      exact ⟨rfl, RelC_skip h⟩
