/-! mount: both sides find the sector in use, its books, its records -/
def rgt (wd : Nat → Int32) (s : Nat) : Prop := wd (256 * s + 193) = mrk (wds wd (256 * s) 193)
theorem OT_rgt {wd : Nat → Int32} {S s : Nat} (h : OT wd S) (hs : s < 16) (hne : s ≠ S) (hr : rgt wd s) : wd (256 * s) < wd (256 * S) := by
  rcases h s hs hne with h1 | h1
  · unfold rgt at hr
    rw [h1] at hr
    exact absurd hr.symm (mrk_ne _)
  · exact h1
theorem k_marked2 {wd : Nat → Int32} {s : Nat} (hs : s < 16) : spX1_isMarked wd (nI s) = 0 ↔ ¬ rgt wd s := by
  unfold spX1_isMarked rgt
  rw [show (193 : Int32) = nI 193 from rfl, show (0 : Int32) = nI 0 from rfl, k_read hs (by decide), k_mark2 hs (by decide), show 256 * s + 0 = 256 * s from rfl]
  by_cases h : wd (256 * s + 193) = mrk (wds wd (256 * s) 193)
  · rw [if_pos h]; exact ⟨fun e => absurd e (by decide), fun e => absurd h e⟩
  · rw [if_neg h]; exact ⟨fun _ => h, fun _ => rfl⟩
theorem k_newer2 {wd : Nat → Int32} {s m : Nat} (hs : s < 16) (hm : m < 16) : spX1_isNewer wd (nI s) (nI m) = 0 ↔ wd (256 * s) ≤ wd (256 * m) := by
  unfold spX1_isNewer
  rw [show (0 : Int32) = nI 0 from rfl, k_read hs (by decide), k_read hm (by decide), Nat.add_zero, Nat.add_zero]
  by_cases h : wd (256 * s) ≤ wd (256 * m)
  · rw [if_pos h]; exact ⟨fun _ => h, fun _ => rfl⟩
  · rw [if_neg h]; exact ⟨fun e => absurd e (by decide), fun e => absurd e h⟩
theorem i32_lt_nle {a b : Int32} (h : a < b) : ¬ b ≤ a := by
  rw [Int32.lt_iff_toInt_lt] at h
  rw [Int32.le_iff_toInt_le]
  omega
theorem i32_lt_le {a b : Int32} (h : a < b) : a ≤ b := by
  rw [Int32.lt_iff_toInt_lt] at h
  rw [Int32.le_iff_toInt_le]
  omega
theorem k_newestL {wd : Nat → Int32} {S : Nat} {sc : Int32} (hS : S < 16) (hr : rgt wd S) (ho : OT wd S) : ∀ (c i fuel : Nat) (x1 x2 : Int32), c < fuel → i + c = 16 → ((i ≤ S ∧ (x2 = 0 ∨ (x2 = 1 ∧ ∃ m : Nat, m < 16 ∧ x1 = nI m ∧ wd (256 * m) < wd (256 * S)))) ∨ (S < i ∧ x2 = 1 ∧ x1 = nI S)) → lpX1_newestSector_9 fuel sc wd x1 x2 (nI i) = nI S := by
  intro c
  induction c with
  | zero =>
    intro i fuel x1 x2 h1 h2 hI
    obtain ⟨z, rfl⟩ : ∃ z, fuel = z + 1 := ⟨fuel - 1, by omega⟩
    rw [lpX1_newestSector_9_e, if_pos (show (16 : Int32) ≤ nI i from nI_le (a := 16) (by omega) (by omega))]
    rcases hI with ⟨h, -⟩ | ⟨-, -, h⟩
    · omega
    · exact h
  | succ c ih =>
    intro i fuel x1 x2 h1 h2 hI
    obtain ⟨z, rfl⟩ : ∃ z, fuel = z + 1 := ⟨fuel - 1, by omega⟩
    have hi : i < 16 := by omega
    rw [lpX1_newestSector_9_e, if_neg (show ¬ (16 : Int32) ≤ nI i from nI_ge (a := i) (b := 16) (by omega) (by decide)), nI_1]
    have hmk := k_marked2 (wd := wd) hi
    by_cases hri : rgt wd i
    · rw [if_neg (fun e => (hmk.mp e) hri)]
      rcases hI with ⟨hiS, h⟩ | ⟨hiS, h, h'⟩
      · by_cases e : i = S
        · subst e
          rcases h with h | ⟨h, m, hm, hx, hlt⟩
          · rw [if_pos h]; exact ih (i + 1) z _ _ (by omega) (by omega) (Or.inr ⟨by omega, rfl, rfl⟩)
          · rw [if_neg (by rw [h]; decide), hx, if_neg (fun e => i32_lt_nle hlt ((k_newer2 hi hm).mp e))]
            exact ih (i + 1) z _ _ (by omega) (by omega) (Or.inr ⟨by omega, rfl, rfl⟩)
        · have hlt := OT_rgt ho hi e hri
          rcases h with h | ⟨h, m, hm, hx, hlt2⟩
          · rw [if_pos h]; exact ih (i + 1) z _ _ (by omega) (by omega) (Or.inl ⟨by omega, Or.inr ⟨rfl, i, hi, rfl, hlt⟩⟩)
          · rw [if_neg (by rw [h]; decide), hx]
            by_cases hn : spX1_isNewer wd (nI i) (nI m) = 0
            · rw [if_pos hn]; exact ih (i + 1) z _ _ (by omega) (by omega) (Or.inl ⟨by omega, Or.inr ⟨h, m, hm, rfl, hlt2⟩⟩)
            · rw [if_neg hn]; exact ih (i + 1) z _ _ (by omega) (by omega) (Or.inl ⟨by omega, Or.inr ⟨rfl, i, hi, rfl, hlt⟩⟩)
      · have hlt := OT_rgt ho hi (by omega) hri
        rw [if_neg (by rw [h]; decide), h', if_pos ((k_newer2 hi hS).mpr (i32_lt_le hlt))]
        exact ih (i + 1) z _ _ (by omega) (by omega) (Or.inr ⟨by omega, h, rfl⟩)
    · rw [if_pos (hmk.mpr hri)]
      rcases hI with ⟨hiS, h⟩ | ⟨hiS, h, h'⟩
      · have e : i ≠ S := fun e => hri (by rw [e]; exact hr)
        exact ih (i + 1) z _ _ (by omega) (by omega) (Or.inl ⟨by omega, h⟩)
      · exact ih (i + 1) z _ _ (by omega) (by omega) (Or.inr ⟨by omega, h, h'⟩)
theorem k_newest {wd : Nat → Int32} {S : Nat} {sc : Int32} (hS : S < 16) (hr : rgt wd S) (ho : OT wd S) : spX1_newestSector sc wd = nI S := by
  unfold spX1_newestSector
  exact k_newestL hS hr ho 16 0 17 sc 0 (by decide) rfl (Or.inl ⟨by omega, Or.inl rfl⟩)
theorem k_kFS {wd : Nat → Int32} {S : Nat} (hS : S < 16) (hr : rgt wd S) (ho : OT wd S) : ∀ i : Nat, i ≤ 16 → (i ≤ S → kF wd i = -1 ∨ ∃ m : Nat, m < 16 ∧ kF wd i = nI m ∧ wd (256 * m) < wd (256 * S)) ∧ (S < i → kF wd i = nI S) := by
  intro i
  induction i with
  | zero => intro _; exact ⟨fun _ => Or.inl rfl, fun h => by omega⟩
  | succ i ih =>
    intro hi
    obtain ⟨h1, h2⟩ := ih (by omega)
    have e193 : Int32.toNatClampNeg ((256 : Int32) * nI i + 193) = 256 * i + 193 := k_adr' (i := 193) (by omega) (by decide)
    have e0 : (256 : Int32) * nI i = nI (256 * i) := by rw [show (256 : Int32) = nI 256 from rfl, pk_mul]
    have ec : ∀ m, m < 16 → Int32.toNatClampNeg ((256 : Int32) * nI m) = 256 * m := fun m hm => by rw [show (256 : Int32) = nI 256 from rfl, pk_mul, nI_clamp (by omega)]
    have emk : spX5_markOf wd ((256 : Int32) * nI i) 193 = mrk (wds wd (256 * i) 193) := by rw [e0]; exact k_mark5 (n := 193) (by omega)
    rw [kF_e, e193, emk, ec i (by omega)]
    by_cases hri : wd (256 * i + 193) = mrk (wds wd (256 * i) 193)
    · rw [if_pos hri]
      constructor
      · intro hiS
        have e : i ≠ S := by omega
        have hlt := OT_rgt ho (by omega) e hri
        rcases h1 (by omega) with h | ⟨m, hm, h, hlt2⟩
        · rw [h, if_pos (by decide)]; exact Or.inr ⟨i, by omega, rfl, hlt⟩
        · rw [h, if_neg (nI_pos (by omega)), ec m hm]
          split
          · exact Or.inr ⟨m, hm, rfl, hlt2⟩
          · exact Or.inr ⟨i, by omega, rfl, hlt⟩
      · intro hiS
        by_cases e : i = S
        · subst e
          rcases h1 (Nat.le_refl _) with h | ⟨m, hm, h, hlt2⟩
          · rw [h, if_pos (by decide)]
          · rw [h, if_neg (nI_pos (by omega)), ec m hm, if_neg (i32_lt_nle hlt2)]
        · have hlt := OT_rgt ho (by omega) e hri
          rw [h2 (by omega), if_neg (nI_pos (by omega)), ec S hS, if_pos (i32_lt_le hlt)]
    · rw [if_neg hri]
      constructor
      · intro hiS; exact h1 (by omega)
      · intro hiS
        have e : i ≠ S := fun e => hri (by rw [e]; exact hr)
        exact h2 (by omega)
theorem k_kF16 {wd : Nat → Int32} {S : Nat} (hS : S < 16) (hr : rgt wd S) (ho : OT wd S) : kF wd 16 = nI S := (k_kFS hS hr ho 16 (Nat.le_refl _)).2 hS
theorem k_re31 {wd : Nat → Int32} {S : Nat} {rc la : Int32} (hS : S < 16) : ∀ (c i fuel : Nat) (bw : Nat → Int32), c < fuel → i + c = 191 → ZB bw → (∀ j, j < i → bw j = wd (256 * S + (2 + j))) → lpX1_reopen_31 fuel (nI S) rc la wd bw (nI i) = lpX1_reopen_68 13 (nI S) rc la wd (fb wd S 0) 0 := by
  intro c
  induction c with
  | zero =>
    intro i fuel bw h1 h2 hz hj
    obtain ⟨z, rfl⟩ : ∃ z, fuel = z + 1 := ⟨fuel - 1, by omega⟩
    rw [lpX1_reopen_31_e, if_pos (show (191 : Int32) ≤ nI i from nI_le (a := 191) (by omega) (by omega))]
    have : bw = fb wd S 0 := by
      funext j
      show bw j = if j < 191 then wd (256 * S + (2 + j)) else 0
      by_cases h : j < 191
      · rw [if_pos h]; exact hj j (by omega)
      · rw [if_neg h]; exact hz j (by omega)
    rw [this]
  | succ c ih =>
    intro i fuel bw h1 h2 hz hj
    obtain ⟨z, rfl⟩ : ∃ z, fuel = z + 1 := ⟨fuel - 1, by omega⟩
    rw [lpX1_reopen_31_e, if_neg (show ¬ (191 : Int32) ≤ nI i from nI_ge (a := i) (b := 191) (by omega) (by decide)), show (2 : Int32) + nI i = nI (2 + i) from nI_add 2 i, k_read hS (by omega), k_put (by omega), nI_1]
    refine ih (i + 1) z _ (by omega) (by omega) (hz.put (by omega)) (fun j hj2 => ?_)
    by_cases e : j = i
    · subst e; rw [upd_s]
    · rw [upd_n e]; exact hj j (by omega)
theorem k_next2 {wd : Nat → Int32} {S j : Nat} {la : Int32} (hS : S < 16) (hj : j < 12) : spX1_isNextRecord (nI S) la wd (spX1_recordAt (nI j)) = 0 ↔ ¬ (wd (rA S j) = la + 1 ∧ wd (rA S j + 4) = mrk (wds wd (rA S j) 4)) := by
  unfold spX1_isNextRecord
  rw [k_recAt, show nI (194 + 5 * j) + (4 : Int32) = nI (194 + 5 * j + 4) from nI_add _ 4, k_read hS (by omega), k_read hS (by omega), show (4 : Int32) = nI 4 from rfl, k_mark2 hS (by omega)]
  show (if wd (rA S j) = la + 1 then (if wd (256 * S + (194 + 5 * j + 4)) = mrk (wds wd (rA S j) 4) then (1 : Int32) else 0) else 0) = 0 ↔ _
  rw [show 256 * S + (194 + 5 * j + 4) = rA S j + 4 by unfold rA; omega]
  by_cases h1 : wd (rA S j) = la + 1
  · rw [if_pos h1]
    by_cases h2 : wd (rA S j + 4) = mrk (wds wd (rA S j) 4)
    · rw [if_pos h2]; exact ⟨fun e => absurd e (by decide), fun e => absurd ⟨h1, h2⟩ e⟩
    · rw [if_neg h2]; exact ⟨fun _ h => h2 h.2, fun _ => rfl⟩
  · rw [if_neg h1]; exact ⟨fun _ h => h1 h.1, fun _ => rfl⟩
theorem k_re68 {wd : Nat → Int32} {S r : Nat} {n0 : Int32} (hS : S < 16) (hr : r ≤ 12) (hn : n0 = wd (256 * S + 1)) (hrc : RC wd S r) (hm : ∀ j : Nat, r ≤ j → j < 12 → wd (rA S j + 4) = -1) : ∀ (c j fuel : Nat), c < fuel → j + c = r → lpX1_reopen_68 fuel (nI S) (nI j) (n0 + nI j) wd (fb wd S j) (nI j) = (nI S, nI r, n0 + nI r, fb wd S r) := by
  intro c
  induction c with
  | zero =>
    intro j fuel h1 h2
    obtain ⟨z, rfl⟩ : ∃ z, fuel = z + 1 := ⟨fuel - 1, by omega⟩
    have hj : j = r := by omega
    subst hj
    rw [lpX1_reopen_68_e]
    by_cases h12 : j = 12
    · rw [if_pos (show (12 : Int32) ≤ nI j by rw [h12]; decide)]
    · rw [if_neg (show ¬ (12 : Int32) ≤ nI j from nI_ge (a := j) (b := 12) (by omega) (by decide)), if_pos ((k_next2 hS (by omega)).mpr (fun h => mrk_ne _ (h.2.symm.trans (hm j (Nat.le_refl _) (by omega)))))]
  | succ c ih =>
    intro j fuel h1 h2
    obtain ⟨z, rfl⟩ : ∃ z, fuel = z + 1 := ⟨fuel - 1, by omega⟩
    obtain ⟨q1, q2, q3⟩ := hrc j (by omega)
    rw [lpX1_reopen_68_e, if_neg (show ¬ (12 : Int32) ≤ nI j from nI_ge (a := j) (b := 12) (by omega) (by decide)), if_neg (fun e => ((k_next2 hS (by omega)).mp e) ⟨by rw [hn]; exact q1, q2⟩), nI_1, k_recAt, show nI (194 + 5 * j) + (1 : Int32) = nI (194 + 5 * j + 1) from nI_add _ 1, show nI (194 + 5 * j) + (2 : Int32) = nI (194 + 5 * j + 2) from nI_add _ 2, show nI (194 + 5 * j) + (3 : Int32) = nI (194 + 5 * j + 3) from nI_add _ 3, k_read hS (by omega), k_read hS (by omega), k_read hS (by omega), Int32.add_assoc, nI_1]
    exact ih (j + 1) z (by omega) (by omega)
theorem k_reopen {wd bw0 bw : Nat → Int32} {S r G : Nat} {sc rc la la0 : Int32} (hd : DI wd S r la bw G) (hz : ZB bw0) : spX1_reopen sc rc la0 wd bw0 = (nI S, nI r, la, bw) := by
  obtain ⟨a1, a2, a3, a4, a5, a6, a7, a8, -⟩ := hd
  unfold spX1_reopen
  rw [k_newest a1 a3 a8, show (1 : Int32) = nI 1 from rfl, k_read a1 (by decide)]
  have h := k_re31 (wd := wd) (rc := 0) (la := wd (256 * S + 1)) a1 191 0 192 bw0 (by decide) rfl hz (fun j hj => by omega)
  have h' : lpX1_reopen_31 192 (nI S) (0 : Int32) (wd (256 * S + 1)) wd bw0 (0 : Int32) = _ := h
  rw [h']
  have h2 := k_re68 (n0 := wd (256 * S + 1)) a1 a2 rfl a4 a5 r 0 13 (by omega) (by omega)
  rw [nI_0] at h2
  have e0 : wd (256 * S + 1) + (0 : Int32) = wd (256 * S + 1) := by simp
  rw [e0] at h2
  rw [h2, a6, a7]
theorem k_m14 {wd : Nat → Int32} {ksc krc kno : Int32} {kbo : Nat → Int32} : ∀ (c i fuel : Nat), c < fuel → i + c = 16 → lpX5_mount_14 fuel 0 1 ksc krc kno wd kbo (kF wd i) (nI i) = lpX5_mount_121 192 0 1 (kF wd 16) krc (wd (Int32.toNatClampNeg (((256 : Int32) * kF wd 16) + (1 : Int32)))) wd kbo (kF wd 16) 2 := by
  intro c
  induction c with
  | zero =>
    intro i fuel h1 h2
    obtain ⟨z, rfl⟩ : ∃ z, fuel = z + 1 := ⟨fuel - 1, by omega⟩
    have hi : i = 16 := by omega
    subst hi
    rw [lpX5_mount_14_e, if_pos (by decide)]
  | succ c ih =>
    intro i fuel h1 h2
    obtain ⟨z, rfl⟩ : ∃ z, fuel = z + 1 := ⟨fuel - 1, by omega⟩
    have h := ih (i + 1) z (by omega) (by omega)
    rw [lpX5_mount_14_e, if_neg (show ¬ (16 : Int32) ≤ nI i from nI_ge (a := i) (b := 16) (by omega) (by decide)), nI_1]
    have hk := kF_e wd i
    by_cases c1 : wd (Int32.toNatClampNeg ((256 : Int32) * nI i + 193)) = spX5_markOf wd ((256 : Int32) * nI i) 193
    · rw [if_pos c1] at hk ⊢
      by_cases c2 : kF wd i < 0
      · rw [if_pos c2] at hk ⊢
        rw [hk] at h; exact h
      · rw [if_neg c2] at hk ⊢
        by_cases c3 : wd (Int32.toNatClampNeg ((256 : Int32) * nI i)) ≤ wd (Int32.toNatClampNeg ((256 : Int32) * kF wd i))
        · rw [if_pos c3] at hk ⊢
          rw [hk] at h; exact h
        · rw [if_neg c3] at hk ⊢
          rw [hk] at h; exact h
    · rw [if_neg c1] at hk ⊢
      rw [hk] at h; exact h
theorem k_m121 {wd : Nat → Int32} {S : Nat} {krc n0 : Int32} (hS : S < 16) : ∀ (c i fuel : Nat) (kbo : Nat → Int32), c < fuel → i + c = 191 → (∀ j, j < i → kbo (j + 2) = wd (256 * S + (2 + j))) → ∃ kbo' : Nat → Int32, BR (fb wd S 0) kbo' ∧ lpX5_mount_121 fuel 0 1 (nI S) krc n0 wd kbo (nI S) (nI (2 + i)) = lpX5_mount_159 14 0 1 (nI S) 0 n0 wd kbo' (nI S) 1 := by
  intro c
  induction c with
  | zero =>
    intro i fuel kbo h1 h2 hj
    obtain ⟨z, rfl⟩ : ∃ z, fuel = z + 1 := ⟨fuel - 1, by omega⟩
    refine ⟨kbo, fun j hj2 => ?_, ?_⟩
    · show kbo (j + 2) = if j < 191 then wd (256 * S + (2 + j)) else 0
      rw [if_pos hj2]; exact hj j (by omega)
    · rw [lpX5_mount_121_e, if_pos (show (193 : Int32) ≤ nI (2 + i) from nI_le (a := 193) (by omega) (by omega))]
  | succ c ih =>
    intro i fuel kbo h1 h2 hj
    obtain ⟨z, rfl⟩ : ∃ z, fuel = z + 1 := ⟨fuel - 1, by omega⟩
    rw [lpX5_mount_121_e, if_neg (show ¬ (193 : Int32) ≤ nI (2 + i) from nI_ge (a := 2 + i) (b := 193) (by omega) (by decide)), nI_clamp (by omega), k_adr' hS (by omega), nI_1]
    refine ih (i + 1) z _ (by omega) (by omega) (fun j hj2 => ?_)
    by_cases e : j = i
    · subst e; rw [show j + 2 = 2 + j by omega, upd_s]
    · rw [upd_n (by omega)]; exact hj j (by omega)
theorem k_m159 {wd : Nat → Int32} {S r : Nat} {n0 : Int32} (hS : S < 16) (hr : r ≤ 12) (hn : n0 = wd (256 * S + 1)) (hrc : RC wd S r) (hm : ∀ j : Nat, r ≤ j → j < 12 → wd (rA S j + 4) = -1) : ∀ (c j fuel : Nat) (kbo : Nat → Int32), c + 1 < fuel → j + c = r → BR (fb wd S j) kbo → ∃ kbo' : Nat → Int32, BR (fb wd S r) kbo' ∧ lpX5_mount_159 fuel 0 1 (nI S) (nI j) (n0 + nI j) wd kbo (nI S) 1 = (n0 + nI r, 0, 1, nI S, nI r, n0 + nI r, kbo') := by
  have ea : ∀ j, j < 12 → (((256 : Int32) * nI S) + (194 : Int32)) + ((5 : Int32) * nI j) = nI (rA S j) := fun j hj => by
    rw [show (256 : Int32) = nI 256 from rfl, show (194 : Int32) = nI 194 from rfl, show (5 : Int32) = nI 5 from rfl, pk_mul, pk_mul, nI_add, nI_add]
    unfold rA; congr 1; omega
  have eb : ∀ j i, j < 12 → i ≤ 4 → Int32.toNatClampNeg (nI (rA S j) + nI i) = rA S j + i := fun j i hj hi => by
    rw [nI_add, nI_clamp (by unfold rA; omega)]
  intro c
  induction c with
  | zero =>
    intro j fuel kbo h1 h2 hb
    obtain ⟨z, rfl⟩ : ∃ z, fuel = z + 1 + 1 := ⟨fuel - 2, by omega⟩
    have hj : j = r := by omega
    subst hj
    refine ⟨kbo, hb, ?_⟩
    rw [lpX5_mount_159_e, if_neg (by decide)]
    by_cases h12 : j = 12
    · rw [if_pos (show (12 : Int32) ≤ nI j by rw [h12]; decide)]
    · have hlast : lpX5_mount_159 (z + 1) 0 1 (nI S) (nI j) (n0 + nI j) wd kbo (nI S) 0 = (n0 + nI j, 0, 1, nI S, nI j, n0 + nI j, kbo) := by
        rw [lpX5_mount_159_e, if_pos rfl]
      rw [if_neg (show ¬ (12 : Int32) ≤ nI j from nI_ge (a := j) (b := 12) (by omega) (by decide)), ea j (by omega), show (4 : Int32) = nI 4 from rfl, eb j 4 (by omega) (by decide), k_mark5 (n := 4) (by unfold rA; omega), hm j (Nat.le_refl _) (by omega), if_neg (fun h => mrk_ne _ (Eq.symm h))]
      split
      · exact hlast
      · exact hlast
  | succ c ih =>
    intro j fuel kbo h1 h2 hb
    obtain ⟨z, rfl⟩ : ∃ z, fuel = z + 1 := ⟨fuel - 1, by omega⟩
    obtain ⟨q1, q2, q3⟩ := hrc j (by omega)
    have e0 : Int32.toNatClampNeg (nI (rA S j)) = rA S j := nI_clamp (by unfold rA; omega)
    have e1 : Int32.toNatClampNeg (nI (rA S j) + (1 : Int32)) = rA S j + 1 := eb j 1 (by omega) (by decide)
    have e2 : Int32.toNatClampNeg (nI (rA S j) + (2 : Int32)) = rA S j + 2 := eb j 2 (by omega) (by decide)
    have e3 : Int32.toNatClampNeg (nI (rA S j) + (3 : Int32)) = rA S j + 3 := eb j 3 (by omega) (by decide)
    have e4 : Int32.toNatClampNeg (nI (rA S j) + (4 : Int32)) = rA S j + 4 := eb j 4 (by omega) (by decide)
    have em : spX5_markOf wd (nI (rA S j)) (4 : Int32) = mrk (wds wd (rA S j) 4) := k_mark5 (n := 4) (by unfold rA; omega)
    rw [lpX5_mount_159_e, if_neg (by decide), if_neg (show ¬ (12 : Int32) ≤ nI j from nI_ge (a := j) (b := 12) (by omega) (by decide)), ea j (by omega), e0, e1, e2, e3, e4, em, if_pos (by rw [hn]; exact q1), if_pos q2, nI_1, Int32.add_assoc, nI_1]
    exact ih (j + 1) z _ (by omega) (by omega) (k_act hb q3)
theorem k_mount5 {wd bw kbo : Nat → Int32} {S r G : Nat} {kth kpw ksc krc kno la : Int32} (hd : DI wd S r la bw G) : ∃ kbo' : Nat → Int32, BR bw kbo' ∧ spX5_mount kth kpw ksc krc kno wd kbo = (la, 0, 1, nI S, nI r, la, kbo') := by
  obtain ⟨a1, a2, a3, a4, a5, a6, a7, a8, -⟩ := hd
  have hF := k_kF16 a1 a3 a8
  unfold spX5_mount
  have h14 := k_m14 (wd := wd) (ksc := ksc) (krc := krc) (kno := kno) (kbo := kbo) 16 0 17 (by decide) rfl
  have h14' : lpX5_mount_14 17 (0 : Int32) (1 : Int32) ksc krc kno wd kbo (-1 : Int32) (0 : Int32) = _ := h14
  rw [h14', hF, show Int32.toNatClampNeg (((256 : Int32) * nI S) + (1 : Int32)) = 256 * S + 1 from k_adr' (i := 1) a1 (by decide)]
  obtain ⟨kb1, hb1, h121⟩ := k_m121 (wd := wd) (krc := krc) (n0 := wd (256 * S + 1)) a1 191 0 192 kbo (by decide) rfl (fun j hj => by omega)
  have h121' : lpX5_mount_121 192 0 1 (nI S) krc (wd (256 * S + 1)) wd kbo (nI S) 2 = _ := h121
  rw [h121']
  obtain ⟨kb2, hb2, h159⟩ := k_m159 (n0 := wd (256 * S + 1)) a1 a2 rfl a4 a5 r 0 14 kb1 (by omega) (by omega) hb1
  have e0 : wd (256 * S + 1) + nI 0 = wd (256 * S + 1) := by rw [nI_0]; simp
  rw [e0] at h159
  have h159' : lpX5_mount_159 14 0 1 (nI S) 0 (wd (256 * S + 1)) wd kb1 (nI S) 1 = _ := h159
  rw [h159', a7, a6]
  exact ⟨kb2, hb2, rfl⟩
