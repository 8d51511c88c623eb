/-! the calls that read, on both sides -/
theorem k_in_iff {x : Int32} {lo hi : Int64} : spX5_in (Int32.toInt64 x) lo hi = 0 ↔ ¬ (lo.toInt ≤ x.toInt ∧ x.toInt ≤ hi.toInt) := by
  constructor
  · intro h hh
    unfold spX5_in at h
    rw [if_neg (by rw [lg_cmp_lt, Int64.lt_iff_toInt_lt, Int32.toInt_toInt64]; omega), if_neg (by rw [lg_cmp_gt, Int64.lt_iff_toInt_lt, Int32.toInt_toInt64]; omega)] at h
    exact absurd h (by decide)
  · intro h
    rcases k_in01 (Int32.toInt64 x) lo hi with e | e
    · exact e
    · exact absurd (k_inI (by rw [e]; decide)) h
theorem k_isDep {x : Int32} : spX4_isDepartment x = 0 ↔ ¬ (0 ≤ x.toInt ∧ x.toInt ≤ 15) := by
  unfold spX4_isDepartment
  have h16 : (16 : Int32).toInt = 16 := rfl
  by_cases c1 : x < 0
  · rw [if_pos c1]; rw [Int32.lt_iff_toInt_lt, Int32.toInt_zero] at c1
    exact ⟨fun _ => by omega, fun _ => rfl⟩
  · rw [if_neg c1]; rw [Int32.lt_iff_toInt_lt, Int32.toInt_zero] at c1
    by_cases c2 : (16 : Int32) ≤ x
    · rw [if_pos c2]; rw [Int32.le_iff_toInt_le] at c2
      exact ⟨fun _ => by omega, fun _ => rfl⟩
    · rw [if_neg c2]; rw [Int32.le_iff_toInt_le] at c2
      exact ⟨fun h => absurd h (by decide), fun h => absurd ⟨by omega, by omega⟩ h⟩
theorem k_isDay4 {x : Int32} : spX4_isDay x = 0 ↔ ¬ (0 ≤ x.toInt ∧ x.toInt ≤ 100000) := by
  unfold spX4_isDay
  have h16 : (100000 : Int32).toInt = 100000 := rfl
  by_cases c1 : x < 0
  · rw [if_pos c1]; rw [Int32.lt_iff_toInt_lt, Int32.toInt_zero] at c1
    exact ⟨fun _ => by omega, fun _ => rfl⟩
  · rw [if_neg c1]; rw [Int32.lt_iff_toInt_lt, Int32.toInt_zero] at c1
    by_cases c2 : (100000 : Int32) < x
    · rw [if_pos c2]; rw [Int32.lt_iff_toInt_lt] at c2
      exact ⟨fun _ => by omega, fun _ => rfl⟩
    · rw [if_neg c2]; rw [Int32.lt_iff_toInt_lt] at c2
      exact ⟨fun h => absurd h (by decide), fun h => absurd ⟨by omega, by omega⟩ h⟩
theorem k_cents4 {x : Int32} : spX4_areCents x = 0 ↔ ¬ (1 ≤ x.toInt ∧ x.toInt ≤ 999999999) := by
  unfold spX4_areCents
  have h16 : (999999999 : Int32).toInt = 999999999 := rfl
  have h1 : (1 : Int32).toInt = 1 := rfl
  by_cases c1 : x < (1 : Int32)
  · rw [if_pos c1]; rw [Int32.lt_iff_toInt_lt] at c1
    exact ⟨fun _ => by omega, fun _ => rfl⟩
  · rw [if_neg c1]; rw [Int32.lt_iff_toInt_lt] at c1
    by_cases c2 : (999999999 : Int32) < x
    · rw [if_pos c2]; rw [Int32.lt_iff_toInt_lt] at c2
      exact ⟨fun _ => by omega, fun _ => rfl⟩
    · rw [if_neg c2]; rw [Int32.lt_iff_toInt_lt] at c2
      exact ⟨fun h => absurd h (by decide), fun h => absurd ⟨by omega, by omega⟩ h⟩
theorem k_poc {x : Int32} : spX4_isPiecesOrCents x = 0 ↔ ¬ (0 ≤ x.toInt ∧ x.toInt ≤ 1) := by
  unfold spX4_isPiecesOrCents
  by_cases c1 : x = 0
  · rw [if_pos c1, c1]; exact ⟨fun h => absurd h (by decide), fun h => absurd ⟨by decide, by decide⟩ h⟩
  · rw [if_neg c1]
    by_cases c2 : x = (1 : Int32)
    · rw [if_pos c2, c2]; exact ⟨fun h => absurd h (by decide), fun h => absurd ⟨by decide, by decide⟩ h⟩
    · rw [if_neg c2]
      refine ⟨fun _ h => ?_, fun _ => rfl⟩
      obtain ⟨j, e, hj⟩ := k_nat (a := x) h.1
      have hj2 : j = 0 ∨ j = 1 := by omega
      rcases hj2 with q | q
      · rw [q] at e; exact c1 e
      · rw [q] at e; exact c2 e
theorem k_dayEq (x : Int32) : spX4_isDay x = 0 ↔ spX5_isDay x = 0 := by
  unfold spX5_isDay; rw [k_isDay4, k_in_iff]; exact Iff.rfl
theorem k_moneyEq (x : Int32) : spX4_areCents x = 0 ↔ spX5_isMoney x = 0 := by
  unfold spX5_isMoney; rw [k_cents4, k_in_iff]; exact Iff.rfl
theorem k_depEq (x : Int32) : spX4_isDepartment x = 0 ↔ spX5_in (Int32.toInt64 x) (0 : Int64) (15 : Int64) = 0 := by
  rw [k_isDep, k_in_iff]; exact Iff.rfl
theorem k_pocEq (x : Int32) : spX4_isPiecesOrCents x = 0 ↔ spX5_in (Int32.toInt64 x) (0 : Int64) (1 : Int64) = 0 := by
  rw [k_poc, k_in_iff]; exact Iff.rfl
theorem k_isRate {a b c : Int32} : spX5_isRate a b c = 0 ↔ ¬ ((0 ≤ a.toInt ∧ a.toInt ≤ 7) ∧ (0 ≤ b.toInt ∧ b.toInt ≤ 9) ∧ (0 ≤ c.toInt ∧ c.toInt ≤ 3)) := by
  have i1 : spX5_in (Int32.toInt64 a) (0 : Int64) (7 : Int64) = 0 ↔ ¬ (0 ≤ a.toInt ∧ a.toInt ≤ 7) := k_in_iff
  have i2 : spX5_in (Int32.toInt64 b) (0 : Int64) (9 : Int64) = 0 ↔ ¬ (0 ≤ b.toInt ∧ b.toInt ≤ 9) := k_in_iff
  have i3 : spX5_in (Int32.toInt64 c) (0 : Int64) (3 : Int64) = 0 ↔ ¬ (0 ≤ c.toInt ∧ c.toInt ≤ 3) := k_in_iff
  unfold spX5_isRate
  by_cases c1 : spX5_in (Int32.toInt64 a) (0 : Int64) (7 : Int64) = 0
  · rw [if_pos c1]; exact ⟨fun _ h => (i1.mp c1) h.1, fun _ => rfl⟩
  · rw [if_neg c1]
    by_cases c2 : spX5_in (Int32.toInt64 b) (0 : Int64) (9 : Int64) = 0
    · rw [if_pos c2]; exact ⟨fun _ h => (i2.mp c2) h.2.1, fun _ => rfl⟩
    · rw [if_neg c2]
      by_cases c3 : spX5_in (Int32.toInt64 c) (0 : Int64) (3 : Int64) = 0
      · rw [if_pos c3]; exact ⟨fun _ h => (i3.mp c3) h.2.2, fun _ => rfl⟩
      · rw [if_neg c3]
        exact ⟨fun h => absurd h (by decide), fun h => absurd ⟨Classical.not_not.mp (fun z => c1 (i1.mpr z)), Classical.not_not.mp (fun z => c2 (i2.mpr z)), Classical.not_not.mp (fun z => c3 (i3.mpr z))⟩ h⟩
theorem k_placeEq (a b c : Int32) : spX3_placeOf a b c = if spX5_isRate a b c = 0 then (-1 : Int32) else spX5_place a b c := by
  have h8 : (8 : Int32).toInt = 8 := rfl
  have h10 : (10 : Int32).toInt = 10 := rfl
  have h4 : (4 : Int32).toInt = 4 := rfl
  unfold spX3_placeOf
  by_cases hr : spX5_isRate a b c = 0
  · rw [if_pos hr]
    have hn := k_isRate.mp hr
    by_cases c1 : a < 0
    · rw [if_pos c1]
    · rw [if_neg c1]
      by_cases c2 : (8 : Int32) ≤ a
      · rw [if_pos c2]
      · rw [if_neg c2]
        by_cases c3 : b < 0
        · rw [if_pos c3]
        · rw [if_neg c3]
          by_cases c4 : (10 : Int32) ≤ b
          · rw [if_pos c4]
          · rw [if_neg c4]
            by_cases c5 : c < 0
            · rw [if_pos c5]
            · rw [if_neg c5]
              by_cases c6 : (4 : Int32) ≤ c
              · rw [if_pos c6]
              · exfalso
                rw [Int32.lt_iff_toInt_lt, Int32.toInt_zero] at c1 c3 c5
                rw [Int32.le_iff_toInt_le] at c2 c4 c6
                exact hn ⟨by omega, by omega, by omega⟩
  · rw [if_neg hr]
    obtain ⟨i, j, k, rfl, rfl, rfl, h1, h2, h3⟩ := k_rate hr
    rw [if_neg (nI_pos (by omega)), if_neg (show ¬ (8 : Int32) ≤ nI i from nI_ge (a := i) (b := 8) h1 (by decide)), if_neg (nI_pos (by omega)), if_neg (show ¬ (10 : Int32) ≤ nI j from nI_ge (a := j) (b := 10) h2 (by decide)), if_neg (nI_pos (by omega)), if_neg (show ¬ (4 : Int32) ≤ nI k from nI_ge (a := k) (b := 4) h3 (by decide))]
    unfold spX5_place
    simp only [show (10 : Int32) = nI 10 from rfl, show (4 : Int32) = nI 4 from rfl, show (40 : Int32) = nI 40 from rfl, pk_mul, nI_add]
    congr 1
    omega
theorem k_placeIn {a b c : Int32} (h : ¬ spX5_isRate a b c = 0) : ¬ spX5_place a b c < 0 ∧ spX5_place a b c < (320 : Int32) ∧ ¬ (320 : Int32) ≤ spX5_place a b c := by
  have h1 := vp_in_iff.mp (k_ratein h)
  have h3 : (320 : Int32).toInt = 320 := rfl
  rw [Int32.lt_iff_toInt_lt, Int32.lt_iff_toInt_lt, Int32.le_iff_toInt_le, Int32.toInt_zero]
  omega
theorem sim_rate : Sim_rate RelS := by
  intro b σ τ p1 p2 p3 p4 h
  obtain ⟨mn, po, co, dr, tb, sc, rc, la, pw, ce, lf, mq, ct, wd, er, bw⟩ := σ
  obtain ⟨kth, kmn, kpw, klf, kmk, ksc, krc, kno, kpp, kpc, kme, kwe, kbo, kre, kdr, ktb⟩ := τ
  have h0 := RelC_skip h
  have hdr : dr = kdr := h.2.2.1
  have key : (spX4_rate dr p1 p2 p3 p4).1 = (spX5_rate kth kdr p1 p2 p3 p4).1 ∧ (spX4_rate dr p1 p2 p3 p4).2 = (spX5_rate kth kdr p1 p2 p3 p4).2.2 := by
    subst hdr
    have i4 : spX5_in (Int32.toInt64 p4) (0 : Int64) (999999999 : Int64) = 0 ↔ ¬ (0 ≤ p4.toInt ∧ p4.toInt ≤ 999999999) := k_in_iff
    have h9 : (999999999 : Int32).toInt = 999999999 := rfl
    unfold spX4_rate spX5_rate spX3_draft
    rw [k_placeEq]
    by_cases hr : spX5_isRate p1 p2 p3 = 0
    · rw [if_pos hr, if_pos hr, if_pos (show (-1 : Int32) < 0 by decide)]
      split
      · exact ⟨rfl, rfl⟩
      · split
        · exact ⟨rfl, rfl⟩
        · exact ⟨rfl, rfl⟩
    · obtain ⟨z1, z2, z3⟩ := k_placeIn hr
      rw [if_neg hr, if_neg hr, if_neg z1, if_pos z2]
      by_cases c1 : p4 < 0
      · rw [if_pos c1]
        rw [Int32.lt_iff_toInt_lt, Int32.toInt_zero] at c1
        rw [if_pos (i4.mpr (by omega))]
        exact ⟨rfl, rfl⟩
      · rw [if_neg c1]
        rw [Int32.lt_iff_toInt_lt, Int32.toInt_zero] at c1
        by_cases c2 : p4 ≤ (999999999 : Int32)
        · rw [if_pos c2]
          rw [Int32.le_iff_toInt_le] at c2
          rw [if_neg (fun e => (i4.mp e) ⟨by omega, by omega⟩)]
          exact ⟨rfl, rfl⟩
        · rw [if_neg c2]
          rw [Int32.le_iff_toInt_le] at c2
          rw [if_pos (i4.mpr (by omega))]
          exact ⟨rfl, rfl⟩
  obtain ⟨a1, a2, a3, a4⟩ := h0
  rcases hx : spX4_rate dr p1 p2 p3 p4 with ⟨r1, d1⟩
  rcases hy : spX5_rate kth kdr p1 p2 p3 p4 with ⟨r2, t2, d2⟩
  rw [hx, hy] at key
  unfold nx_rate mx_rate
  dsimp only
  rw [hx, hy]
  exact ⟨key.1, a1, a2, key.2, a4⟩
theorem sim_weigh : Sim_weigh RelS := by
  intro b σ τ p1 p2 p3 h
  obtain ⟨mn, po, co, dr, tb, sc, rc, la, pw, ce, lf, mq, ct, wd, er, bw⟩ := σ
  obtain ⟨kth, kmn, kpw, klf, kmk, ksc, krc, kno, kpp, kpc, kme, kwe, kbo, kre, kdr, ktb⟩ := τ
  refine ⟨?_, RelC_skip h⟩
  have htb : tb = ktb := h.2.2.2.1
  show spX4_weigh tb p1 p2 p3 = (spX5_weigh kth ktb p1 p2 p3).1
  subst htb
  have i1 : spX5_in (Int32.toInt64 p2) (1 : Int64) (500 : Int64) = 0 ↔ ¬ (1 ≤ p2.toInt ∧ p2.toInt ≤ 500) := k_in_iff
  have h1 : (1 : Int32).toInt = 1 := rfl
  unfold spX4_weigh spX5_weigh spX3_priceOf
  rw [k_placeEq]
  by_cases c1 : (1 : Int32) ≤ p2
  · rw [if_pos c1]
    rw [Int32.le_iff_toInt_le, h1] at c1
    by_cases hr : spX5_isRate p1 ((p2 - (1 : Int32)) / (50 : Int32)) p3 = 0
    · rw [if_pos hr, if_pos hr, if_pos (show (-1 : Int32) < 0 by decide), if_pos rfl]
      split <;> rfl
    · obtain ⟨z1, z2, z3⟩ := k_placeIn hr
      have hr2 := hr
      rw [k_isRate] at hr2
      have hr3 := (Classical.not_not.mp hr2).2.1
      have h500 : p2.toInt ≤ 500 := by
        obtain ⟨j, e, hj⟩ := k_nat (a := p2) (by omega)
        obtain ⟨j2, rfl⟩ : ∃ j2, j = j2 + 1 := ⟨j - 1, by omega⟩
        have hjb : j2 + 1 < 2 ^ 31 := by
          have := Int32.toInt_lt p2
          omega
        rw [e, nI_pred, show nI j2 / (50 : Int32) = nI (j2 / 50) from pk_div (d := 50) (by omega) (by decide) (by decide), nI_toInt (by omega)] at hr3
        omega
      rw [if_neg hr, if_neg hr, if_neg z1, if_neg z3, if_neg (fun e => (i1.mp e) ⟨c1, h500⟩)]
      split <;> rfl
  · rw [if_neg c1, if_pos rfl]
    rw [Int32.le_iff_toInt_le, h1] at c1
    rw [if_pos (i1.mpr (by omega))]
theorem sim_printed : Sim_printed RelS := by
  intro b σ τ p1 h
  obtain ⟨mn, po, co, dr, tb, sc, rc, la, pw, ce, lf, mq, ct, wd, er, bw⟩ := σ
  obtain ⟨kth, kmn, kpw, klf, kmk, ksc, krc, kno, kpp, kpc, kme, kwe, kbo, kre, kdr, ktb⟩ := τ
  refine ⟨?_, RelC_skip h⟩
  obtain ⟨-, -, -, -, -, -, -, -, -, -, e1, e2, -⟩ := h
  show spX4_printed po co p1 = (spX5_printed kth kpp kpc p1).1
  unfold spX4_printed spX5_printed
  rw [e1, e2]
  split
  · rfl
  · split <;> rfl
theorem sim_codeFor : Sim_codeFor RelS := by
  intro b σ τ p1 p2 h
  obtain ⟨mn, po, co, dr, tb, sc, rc, la, pw, ce, lf, mq, ct, wd, er, bw⟩ := σ
  obtain ⟨kth, kmn, kpw, klf, kmk, ksc, krc, kno, kpp, kpc, kme, kwe, kbo, kre, kdr, ktb⟩ := τ
  refine ⟨?_, RelC_skip h⟩
  have e1 : mn = kmn := h.2.1
  show spX4_codeFor mn p1 p2 = (spX5_codeFor kth kmn p1 p2).1
  unfold spX4_codeFor spX5_codeFor spX5_code
  rw [e1]
  split
  · rfl
  · split <;> rfl
theorem sim_cut : Sim_cut RelS := by
  intro b σ τ p1 p2 h
  obtain ⟨mn, po, co, dr, tb, sc, rc, la, pw, ce, lf, mq, ct, wd, er, bw⟩ := σ
  obtain ⟨kth, kmn, kpw, klf, kmk, ksc, krc, kno, kpp, kpc, kme, kwe, kbo, kre, kdr, ktb⟩ := τ
  have h0 := RelC_skip h
  obtain ⟨a1, a2, a3, a4, a5, a6, a7, a8, a9, a10, a11⟩ := h0
  have i1 : spX5_in (Int32.toInt64 p1) (0 : Int64) (100000 : Int64) = 0 ↔ ¬ (0 ≤ p1.toInt ∧ p1.toInt ≤ 100000) := k_in_iff
  have h9 : (100000 : Int32).toInt = 100000 := rfl
  by_cases hr : 0 ≤ p1.toInt ∧ p1.toInt ≤ 100000
  · have e1 : spX4_cut ce lf mq p1 p2 = (1, 1, p1, p2) := by
      unfold spX4_cut spX2_expectCut
      rw [if_neg (by rw [Int32.lt_iff_toInt_lt, Int32.toInt_zero]; omega), if_pos (by rw [Int32.le_iff_toInt_le]; omega)]
    have e2 : spX5_cut kth klf kmk p1 p2 = (1, 0, p1, p2) := by
      unfold spX5_cut
      rw [if_neg (fun e => (i1.mp e) hr)]
    unfold nx_cut mx_cut
    dsimp only
    rw [e1, e2]
    exact ⟨rfl, a1, a2, a3, a4, a5, a6, rfl, a8, a9, Or.inr ⟨rfl, rfl, by rw [Int32.le_iff_toInt_le, Int32.toInt_zero]; exact hr.1⟩, a11⟩
  · have e1 : spX4_cut ce lf mq p1 p2 = (-1, ce, lf, mq) := by
      unfold spX4_cut
      by_cases c1 : p1 < 0
      · rw [if_pos c1]
      · rw [if_neg c1, if_neg (by rw [Int32.le_iff_toInt_le]; rw [Int32.lt_iff_toInt_lt, Int32.toInt_zero] at c1; omega)]
    have e2 : spX5_cut kth klf kmk p1 p2 = (-1, 0, klf, kmk) := by
      unfold spX5_cut
      rw [if_pos (i1.mpr hr)]
    unfold nx_cut mx_cut
    dsimp only
    rw [e1, e2]
    exact ⟨rfl, a1, a2, a3, a4, a5, a6, a7, a8, a9, a10, a11⟩
theorem sim_wear : Sim_wear RelS := by
  intro b σ τ p1 h
  obtain ⟨mn, po, co, dr, tb, sc, rc, la, pw, ce, lf, mq, ct, wd, er, bw⟩ := σ
  obtain ⟨kth, kmn, kpw, klf, kmk, ksc, krc, kno, kpp, kpc, kme, kwe, kbo, kre, kdr, ktb⟩ := τ
  refine ⟨?_, RelC_skip h⟩
  obtain ⟨-, -, -, -, -, -, -, -, e1, -⟩ := h
  show spX4_wear er p1 = (spX5_wear kth kwe p1).1
  have i1 : spX5_in (Int32.toInt64 p1) (0 : Int64) (15 : Int64) = 0 ↔ ¬ (0 ≤ p1.toInt ∧ p1.toInt ≤ 15) := k_in_iff
  unfold spX4_wear spX5_wear spX2_erasesOf
  rw [← e1]
  by_cases hr : 0 ≤ p1.toInt ∧ p1.toInt ≤ 15
  · obtain ⟨j, e, hj⟩ := k_nat (a := p1) hr.1
    have hh : spX2_holds p1 (0 : Int32) = 1 := by rw [e]; exact k_holds1 (i := 0) (by omega) (by decide)
    rw [hh, if_neg (by decide), if_neg (by decide), if_neg (fun z => (i1.mp z) hr)]
  · have hh : spX2_holds p1 (0 : Int32) = 0 := by
      rcases Classical.em (spX2_holds p1 (0 : Int32) = 0) with z | z
      · exact z
      · have := k_holds z; omega
    rw [hh, if_pos rfl, if_pos (i1.mpr hr)]
theorem sim_word : Sim_word RelS := by
  intro b σ τ p1 p2 h
  obtain ⟨mn, po, co, dr, tb, sc, rc, la, pw, ce, lf, mq, ct, wd, er, bw⟩ := σ
  obtain ⟨kth, kmn, kpw, klf, kmk, ksc, krc, kno, kpp, kpc, kme, kwe, kbo, kre, kdr, ktb⟩ := τ
  refine ⟨?_, RelC_skip h⟩
  obtain ⟨-, -, -, -, -, -, -, e1, -⟩ := h
  show spX4_word wd p1 p2 = (spX5_word kth kme p1 p2).1
  have i1 : spX5_in (Int32.toInt64 p1) (0 : Int64) (15 : Int64) = 0 ↔ ¬ (0 ≤ p1.toInt ∧ p1.toInt ≤ 15) := k_in_iff
  have i2 : spX5_in (Int32.toInt64 p2) (0 : Int64) (255 : Int64) = 0 ↔ ¬ (0 ≤ p2.toInt ∧ p2.toInt ≤ 255) := k_in_iff
  unfold spX4_word spX5_word
  rw [← e1]
  by_cases hr : (0 ≤ p1.toInt ∧ p1.toInt ≤ 15) ∧ (0 ≤ p2.toInt ∧ p2.toInt ≤ 255)
  · obtain ⟨j, e, hj⟩ := k_nat (a := p1) hr.1.1
    obtain ⟨i, e2, hi⟩ := k_nat (a := p2) hr.2.1
    have hh : spX2_holds p1 p2 = 1 := by rw [e, e2]; exact k_holds1 (by omega) (by omega)
    have hrd : spX2_read wd p1 p2 = wd (256 * j + i) := by rw [e, e2]; exact k_read (by omega) (by omega)
    rw [hh, if_neg (by decide), if_neg (fun z => (i1.mp z) hr.1), if_neg (fun z => (i2.mp z) hr.2), hrd, e, e2, k_adr' (by omega) (by omega)]
  · have hh : spX2_holds p1 p2 = 0 := by
      rcases Classical.em (spX2_holds p1 p2 = 0) with z | z
      · exact z
      · have := k_holds z; omega
    rw [hh, if_pos rfl]
    by_cases c1 : 0 ≤ p1.toInt ∧ p1.toInt ≤ 15
    · rw [if_neg (fun z => (i1.mp z) c1), if_pos (i2.mpr (fun z => hr ⟨c1, z⟩))]
    · rw [if_pos (i1.mpr c1)]
