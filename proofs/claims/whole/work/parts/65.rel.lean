/-! THE RELATION of the two states, b calls before the end; an append keeps it -/
def RelC (b : Nat) (mn : Int32) (po co : Int64) (dr tb : Nat → Int32) (sc rc la pw ce lf mq ct : Int32) (wd er bw : Nat → Int32) (kmn kpw klf kmk ksc krc kno kpp : Int32) (kpc : Int64) (kme kwe kbo kdr ktb : Nat → Int32) : Prop :=
  b ≤ 512 ∧ mn = kmn ∧ dr = kdr ∧ tb = ktb ∧ pw = kpw ∧ (pw = 0 ∨ pw = 1) ∧ mq = kmk ∧ wd = kme ∧ er = kwe ∧ CR ce lf klf ∧ po = kpp.toInt64 ∧ co = kpc ∧ (∃ k : Nat, ksc = nI k ∧ k < 16) ∧ (∃ r : Nat, krc = nI r ∧ r ≤ 12) ∧ ZB bw ∧ (∃ n : Nat, kpp = nI n ∧ n + b ≤ 512) ∧
  ∃ (S r : Nat) (la' : Int32) (bw' : Nat → Int32) (c : Nat), DI wd S r la' bw' (1 + 2 * (512 - b)) ∧ ZB bw' ∧ SI bw' po co (2 * (512 - b)) ∧ WI er S c (1 + 2 * (512 - b)) ∧ ct = nI c ∧ c + b ≤ 512 ∧ (pw = 1 → sc = nI S ∧ ksc = nI S ∧ rc = nI r ∧ krc = nI r ∧ la = la' ∧ kno = la' ∧ bw = bw' ∧ BR bw kbo)
theorem DI_G {wd bw : Nat → Int32} {S r G G' : Nat} {la : Int32} (h : DI wd S r la bw G) (hG : G ≤ G') : DI wd S r la bw G' := by
  obtain ⟨b1, b2, b3, b4, b5, b6, b7, b8, g, b9, b10, b11⟩ := h
  exact ⟨b1, b2, b3, b4, b5, b6, b7, b8, g, b9, b10, Nat.le_trans b11 hG⟩
theorem AS {ce lf mq ct klf la k a bb : Int32} {wd er bw kbo kre : Nat → Int32} {s r G c B : Nat} (hd : DI wd s r la bw G) (hG : G < 100000) (hz : ZB bw) (hv : VK k bb) (hw : WI er s c B) (hct : ct = nI c) (hc : CR ce lf klf) (hb : BR bw kbo) :
    ∃ (r' sc' rc' la' pw' ce' lf' ct' : Int32) (wd' er' bw' : Nat → Int32) (klf' ksc' krc' kno' : Int32) (kbo' kre' : Nat → Int32),
      spX1_append (nI s) (nI r) la 1 ce lf mq ct wd er bw k a bb = (r', sc', rc', la', pw', ce', lf', ct', wd', er', bw') ∧
      spX5_put 1 klf mq (nI s) (nI r) la wd er kbo kre k a bb = (pw', pw', klf', ksc', krc', kno', wd', er', kbo', kre') ∧
      CR ce' lf' klf' ∧ (∃ k : Nat, ksc' = nI k ∧ k < 16) ∧ (∃ r : Nat, krc' = nI r ∧ r ≤ 12) ∧ ZB bw' ∧
      ((pw' = 1 ∧ r' = 1 ∧ ∃ S1 r1 : Nat, DI wd' S1 r1 la' bw' (G + 1) ∧ WI er' S1 c (B + 1) ∧ ct' = nI c ∧ sc' = nI S1 ∧ ksc' = nI S1 ∧ rc' = nI r1 ∧ krc' = nI r1 ∧ kno' = la' ∧ bw' = spX0_apply bw k a bb ∧ BR bw' kbo') ∨
       (pw' = 0 ∧ r' = -7 ∧ ∃ S1 r1 : Nat, DI wd' S1 r1 la bw (G + 1) ∧ WI er' S1 (c + 1) (B + 1) ∧ ct' = nI (c + 1))) := by
  obtain ⟨q1, q', s1, r1, er1, klf', kre', hpath, hq, hcr, ⟨sc', rc', happ, hsr⟩, hput⟩ := AP (mq := mq) (ct := ct) (la := la) (k := k) (a := a) (b := bb) (wd := wd) (er := er) (kre := kre) hd.1 hd.2.1 hc hb
  have hout := AP_DI hd hG hz hv hw hpath hq
  rcases hout with ⟨h1, h2, h3, h4, h5, h6⟩ | ⟨h1, h2, h3, ⟨S2, r2, h4, h5⟩, h6, h7⟩
  · have hn : ¬ q'.1 = 0 := by rw [h1]; decide
    obtain ⟨hs1, hs2⟩ := hsr hn
    rw [if_neg hn, if_neg hn, if_neg hn, h1, h2] at happ
    rw [if_neg hn, if_neg hn, if_neg hn, h1] at hput
    refine ⟨_, _, _, _, _, _, _, _, _, _, _, _, _, _, _, _, _, happ, hput, hcr, ⟨s1, rfl, h6⟩, ⟨r1 + 1, nI_1 r1, h5⟩, ZB_apply hz hv, Or.inl ⟨rfl, rfl, s1, r1 + 1, h3, h4, hct, hs1, rfl, by rw [hs2]; exact nI_1 r1, nI_1 r1, rfl, rfl, k_act hb hv⟩⟩
  · rw [if_pos h1, if_pos h1, if_pos h1, h1, h3] at happ
    rw [if_pos h1, if_pos h1, if_pos h1, h1] at hput
    refine ⟨_, _, _, _, _, _, _, _, _, _, _, _, _, _, _, _, _, happ, hput, hcr, ⟨s1, rfl, h7⟩, ⟨r1, rfl, h6⟩, hz, Or.inr ⟨rfl, rfl, S2, r2, h4, h5, by rw [hct]; exact nI_1 c⟩⟩
/-- a call that appends one record, no piece -/
theorem SIMA {b : Nat} {mn : Int32} {po co : Int64} {dr tb : Nat → Int32} {sc rc la pw ce lf mq ct : Int32} {wd er bw : Nat → Int32} {kmn kpw klf kmk ksc krc kno kpp : Int32} {kpc : Int64} {kme kwe kbo kre kdr ktb : Nat → Int32} {k a bb : Int32} (hR : RelC (b + 1) mn po co dr tb sc rc la pw ce lf mq ct wd er bw kmn kpw klf kmk ksc krc kno kpp kpc kme kwe kbo kdr ktb) (hpw : ¬ pw = 0) (hv : VK k bb) (hk : k ≠ 1) :
    ∃ (r' sc' rc' la' pw' ce' lf' ct' : Int32) (wd' er' bw' : Nat → Int32) (klf' ksc' krc' kno' : Int32) (kbo' kre' : Nat → Int32),
      spX1_append sc rc la pw ce lf mq ct wd er bw k a bb = (r', sc', rc', la', pw', ce', lf', ct', wd', er', bw') ∧
      spX5_put kpw klf kmk ksc krc kno kme kwe kbo kre k a bb = (pw', pw', klf', ksc', krc', kno', wd', er', kbo', kre') ∧
      ((pw' = 1 ∧ r' = 1) ∨ (pw' = 0 ∧ r' = -7)) ∧ RelC b mn po co dr tb sc' rc' la' pw' ce' lf' mq ct' wd' er' bw' kmn pw' klf' kmk ksc' krc' kno' kpp kpc wd' er' kbo' kdr ktb := by
  obtain ⟨a1, a2, a3, a4, a5, a6, a7, a8, a9, a10, a11, a12, a13, a14, a15, ⟨n, hn1, hn2⟩, S, r, la0, bw0, c, d1, d2, d3, d4, d5, d6, d7⟩ := hR
  have h1 : pw = 1 := a6.resolve_left hpw
  obtain ⟨e1, e2, e3, e4, e5, e6, e7, e8⟩ := d7 h1
  subst a5; subst a7; subst a8; subst a9; subst h1; subst e5; subst e7
  obtain ⟨r', sc', rc', la', pw', ce', lf', ct', wd', er', bw', klf', ksc', krc', kno', kbo', kre', happ, hput, g1, g2, g3, g4, g5⟩ := AS (mq := mq) (a := a) (kre := kre) d1 (by omega) a15 hv d4 d5 a10 e8
  rw [e1, e3, e2, e4, e6]
  refine ⟨r', sc', rc', la', pw', ce', lf', ct', wd', er', bw', klf', ksc', krc', kno', kbo', kre', happ, hput, ?_, by omega, a2, a3, a4, rfl, ?_, rfl, rfl, rfl, g1, a11, a12, g2, g3, g4, ⟨n, hn1, by omega⟩, ?_⟩
  · rcases g5 with ⟨x1, x2, -⟩ | ⟨x1, x2, -⟩
    · exact Or.inl ⟨x1, x2⟩
    · exact Or.inr ⟨x1, x2⟩
  · rcases g5 with ⟨x1, -⟩ | ⟨x1, -⟩
    · exact Or.inr x1
    · exact Or.inl x1
  · rcases g5 with ⟨x1, x2, S1, r1, y1, y2, y3, y4, y5, y6, y7, y8, y9, y10⟩ | ⟨x1, x2, S1, r1, y1, y2, y3⟩
    · refine ⟨S1, r1, la', bw', c, DI_G y1 (by omega), g4, ?_, WI_mono y2 (Nat.le_refl _) (by omega), y3, by omega, fun _ => ⟨y4, y5, y6, y7, rfl, y8, rfl, y10⟩⟩
      rw [y9]
      exact SI_mono (SI_rec d3 hv hk) (by omega)
    · exact ⟨S1, r1, la, bw, c + 1, DI_G y1 (by omega), d2, SI_mono d3 (by omega), WI_mono y2 (Nat.le_refl _) (by omega), y3, by omega, fun h => absurd (x1.symm.trans h) (by decide)⟩
theorem RelC_skip {b : Nat} {mn : Int32} {po co : Int64} {dr tb : Nat → Int32} {sc rc la pw ce lf mq ct : Int32} {wd er bw : Nat → Int32} {kmn kpw klf kmk ksc krc kno kpp : Int32} {kpc : Int64} {kme kwe kbo kdr ktb : Nat → Int32} (hR : RelC (b + 1) mn po co dr tb sc rc la pw ce lf mq ct wd er bw kmn kpw klf kmk ksc krc kno kpp kpc kme kwe kbo kdr ktb) : RelC b mn po co dr tb sc rc la pw ce lf mq ct wd er bw kmn kpw klf kmk ksc krc kno kpp kpc kme kwe kbo kdr ktb := by
  obtain ⟨a1, a2, a3, a4, a5, a6, a7, a8, a9, a10, a11, a12, a13, a14, a15, ⟨n, hn1, hn2⟩, S, r, la0, bw0, c, d1, d2, d3, d4, d5, d6, d7⟩ := hR
  exact ⟨by omega, a2, a3, a4, a5, a6, a7, a8, a9, a10, a11, a12, a13, a14, a15, ⟨n, hn1, by omega⟩, S, r, la0, bw0, c, DI_G d1 (by omega), d2, SI_mono d3 (by omega), WI_mono d4 (Nat.le_refl _) (by omega), d5, by omega, d7⟩
def RelS (b : Nat) (σ : SX) (τ : SK) : Prop := match σ, τ with
  | (mn, po, co, dr, tb, sc, rc, la, pw, ce, lf, mq, ct, wd, er, bw), (_, kmn, kpw, klf, kmk, ksc, krc, kno, kpp, kpc, kme, kwe, kbo, _, kdr, ktb) => RelC b mn po co dr tb sc rc la pw ce lf mq ct wd er bw kmn kpw klf kmk ksc krc kno kpp kpc kme kwe kbo kdr ktb
theorem sim_skip : Sim_skip RelS := by
  intro b σ τ h
  obtain ⟨mn, po, co, dr, tb, sc, rc, la, pw, ce, lf, mq, ct, wd, er, bw⟩ := σ
  obtain ⟨kth, kmn, kpw, klf, kmk, ksc, krc, kno, kpp, kpc, kme, kwe, kbo, kre, kdr, ktb⟩ := τ
  exact RelC_skip h
theorem sim_pre : Sim_pre RelS := by
  intro b σ τ h
  obtain ⟨mn, po, co, dr, tb, sc, rc, la, pw, ce, lf, mq, ct, wd, er, bw⟩ := σ
  obtain ⟨kth, kmn, kpw, klf, kmk, ksc, krc, kno, kpp, kpc, kme, kwe, kbo, kre, kdr, ktb⟩ := τ
  obtain ⟨a1, a2, a3, a4, a5, a6, a7, a8, a9, a10, a11, a12, a13, a14, a15, a16, S, r, la0, bw0, c, d1, d2, d3, d4, d5, d6, d7⟩ := h
  subst a8
  obtain ⟨f1, f2, f3, f4, f5, f6, f7, f8, f9⟩ := id d1
  have hF := k_kF16 f1 f3 f8
  refine ⟨a6, ⟨a13, a14, by rw [show kpw = pw from a5.symm]; exact a6⟩, ⟨S, hF, f1⟩, ?_⟩
  intro kf r2 e1 h16 h12 hm hk1
  have hkf : kf = S := (nI_eq (by omega) (by omega)).mp (e1.symm.trans hF)
  subst hkf
  by_cases hr2 : r2 < r
  · obtain ⟨-, -, hvk⟩ := f4 r2 hr2
    have e4 : rA kf r2 = 256 * kf + 194 + 5 * r2 := by unfold rA; omega
    have hk2 : wd (rA kf r2 + 1) = 1 := by rw [e4]; exact hk1
    have hb2 := hvk.2 hk2
    rw [e4] at hb2
    exact hb2
  · have h4 : wd (rA kf r2 + 4) = -1 := f5 r2 (by omega) h12
    have hm' : wd (rA kf r2 + 4) = mrk (wds wd (rA kf r2) 4) := by
      have e3 : spX5_markOf wd (nI (256 * kf + 194 + 5 * r2)) 4 = mrk (wds wd (256 * kf + 194 + 5 * r2) 4) := k_mark5 (n := 4) (by omega)
      have e4 : rA kf r2 = 256 * kf + 194 + 5 * r2 := by unfold rA; omega
      rw [e4]
      exact hm.trans e3
    exact absurd (hm'.symm.trans h4) (mrk_ne _)
