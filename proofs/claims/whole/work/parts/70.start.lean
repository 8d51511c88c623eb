/-! the start: both sides begin sector 0 with the same words -/
theorem WS_free {lf ct : Int32} : ∀ (vs : List Int32) (wd : Nat → Int32) (a : Nat), WS (1, 0, lf, ct, wd) a vs = (1, 0, lf, ct, wAll wd a vs) := by
  intro vs
  induction vs with
  | nil => intro wd a; rfl
  | cons v vs ih =>
    intro wd a
    rw [WS_cons, wAll_cons]
    rcases W1_cases (q := (1, 0, lf, ct, wd)) (a := a) (v := v) rfl with ⟨-, e⟩ | ⟨h, -⟩ | ⟨h, -⟩
    · rw [e]; exact ih _ _
    · exact absurd rfl h
    · exact absurd rfl h
theorem EQ_free {lf ct mq : Int32} {wd : Nat → Int32} {s : Nat} : EQ (1, 0, lf, ct, wd) mq s = (1, 0, lf, ct, eL 256 wd s 0 0) := by
  unfold EQ spX2_spendOne
  dsimp only
  rw [if_neg (by decide), if_pos rfl]
  dsimp only
  rw [if_neg (by decide)]
theorem BG_free {lf ct mq g n : Int32} {wd bw : Nat → Int32} {s : Nat} : BG (1, 0, lf, ct, wd) mq s g n bw = (1, 0, lf, ct, wAll (eL 256 wd s 0 0) (256 * s) (hdr g n bw)) := by
  unfold BG
  rw [EQ_free, WS_free]
theorem DI_first {wd wd' : Nat → Int32} {S' : Nat} {la : Int32} {bw : Nat → Int32} (hK : ∀ x, x < 4096 → wd x = -1) (hz : ZB bw) (hS' : S' < 16) (hh : wd' = wAll (eL 256 wd S' 0 0) (256 * S') (hdr 1 la bw)) : DI wd' S' 0 la bw 1 := by
  have hlen := hdr_len 1 la bw
  have hout : ∀ x, x < 256 * S' ∨ 256 * S' + 256 ≤ x → wd' x = wd x := fun x hx => by
    rw [hh, wAll_out (by omega)]
    rcases eL_any 256 0 wd S' 0 x (by omega) with h | ⟨-, h1, h2⟩
    · exact h
    · omega
  have hrest : ∀ x, 256 * S' + 194 ≤ x → x < 256 * S' + 256 → wd' x = -1 := fun x h1 h2 => by
    rw [hh, wAll_out (by omega)]
    exact eL_all 256 0 wd S' x (by omega) (by omega) (by omega)
  have hin : ∀ j, j < 194 → wd' (256 * S' + j) = (hdr 1 la bw).getD j 0 := fun j hj => by
    rw [hh]; exact wAll_in (by omega)
  have hhead : wds wd' (256 * S') 193 = hd0 1 la bw := by
    have h1 := wds_wAll (f := eL 256 wd S' 0 0) (a := 256 * S') (vs := hdr 1 la bw)
    rw [← hh, hlen] at h1
    have h2 : wds wd' (256 * S') 194 = wds wd' (256 * S') 193 ++ [wd' (256 * S' + 193)] := by
      have gen : ∀ (n c : Nat), wds wd' c (n + 1) = wds wd' c n ++ [wd' (c + n)] := by
        intro n
        induction n with
        | zero => intro c; rfl
        | succ n ih =>
          intro c
          show wd' c :: wds wd' (c + 1) (n + 1) = wd' c :: (wds wd' (c + 1) n ++ [wd' (c + (n + 1))])
          rw [ih (c + 1), show c + 1 + n = c + (n + 1) by omega]
      exact gen 193 (256 * S')
    rw [h2] at h1
    exact (List.append_inj' h1 rfl).1
  have h0 : wd' (256 * S') = 1 := by
    have := hin 0 (by decide)
    rw [hdr_cons] at this
    exact this
  have h1 : wd' (256 * S' + 1) = la := by
    have := hin 1 (by decide)
    rw [hdr_cons] at this
    exact this
  have hb : ∀ i, i < 191 → wd' (256 * S' + (2 + i)) = bw i := by
    intro i hi
    have := wds_get (f := wd') (a := 256 * S') (n := 193) (j := 2 + i) (by omega)
    rw [hhead] at this
    rw [← this]
    unfold hd0
    rw [show 2 + i = (i + 1) + 1 by omega, List.getD_cons_succ, List.getD_cons_succ, wds_get hi, Nat.zero_add]
  refine ⟨hS', by omega, ?_, fun j hj => by omega, ?_, ?_, ?_, ?_, 1, h0, by omega, by omega⟩
  · rw [hhead]
    have := hin 193 (by decide)
    rw [this]
    unfold hdr
    rw [List.getD_eq_getElem?_getD, List.getElem?_append_right (by rw [hd0_len]; exact Nat.le_refl _), hd0_len]
    rfl
  · intro j _ hj
    exact hrest _ (by unfold rA; omega) (by unfold rA; omega)
  · rw [h1]
    show la = la + nI 0
    rw [nI_0]
    simp
  · funext i
    show bw i = if i < 191 then wd' (256 * S' + (2 + i)) else 0
    by_cases hi : i < 191
    · rw [if_pos hi, hb i hi]
    · rw [if_neg hi]; exact hz i (by omega)
  · intro s hs hns
    left
    rw [hout (256 * s + 193) (by omega)]
    exact hK _ (by omega)
theorem kFl_in {f : Nat → Int32} {v : Int32} : ∀ (k x : Nat), k ≤ 4096 → x < k → kFl f v k x = v := by
  intro k
  induction k with
  | zero => intro x _ h; omega
  | succ k ih =>
    intro x h1 h2
    show upd (kFl f v k) (Int32.toNatClampNeg (nI k)) v x = v
    rw [nI_clamp (by omega)]
    by_cases e : x = k
    · rw [e, upd_s]
    · rw [upd_n e]; exact ih x (by omega) (by omega)
theorem kIB_e (k : Nat) (hk : k < 32) : kIB (k + 1) = upd (kIB k) (63 + 4 * k) (-1) := by
  show spX0_put (kIB k) ((63 : Int32) + (nI k * (4 : Int32))) (-1 : Int32) = _
  rw [show (4 : Int32) = nI 4 from rfl, show (63 : Int32) = nI 63 from rfl, pk_mul, nI_add, k_put (by omega), Nat.mul_comm]
theorem kIB_z : kIB 0 = upd (fun _ => 0) 12 1000 := by
  show spX0_put (fun _ => 0) (nI 12) (1000 : Int32) = _
  rw [k_put (by decide)]
theorem kIB_low : ∀ k : Nat, k ≤ 32 → ∀ i : Nat, i < 63 ∨ 191 ≤ i → kIB k i = if i = 12 then 1000 else 0 := by
  intro k
  induction k with
  | zero =>
    intro _ i _
    rw [kIB_z]
    by_cases e : i = 12
    · rw [if_pos e, e, upd_s]
    · rw [if_neg e, upd_n e]
  | succ k ih =>
    intro hk i hi
    rw [kIB_e k (by omega), upd_n (by omega)]
    exact ih (by omega) i hi
theorem kID_e (k : Nat) (hk : k < 32) : kID (k + 1) = upd (kID k) (65 + 4 * k) (-1) := by
  show upd (kID k) (Int32.toNatClampNeg ((65 : Int32) + ((4 : Int32) * nI k))) (-1 : Int32) = _
  rw [show (4 : Int32) = nI 4 from rfl, show (65 : Int32) = nI 65 from rfl, pk_mul, nI_add, nI_clamp (by omega)]
theorem kID_IB : ∀ k : Nat, k ≤ 32 → ∀ i : Nat, i ≠ 12 → kID k (i + 2) = kIB k i := by
  intro k
  induction k with
  | zero =>
    intro _ i hi
    rw [kIB_z, upd_n hi]
    rfl
  | succ k ih =>
    intro hk i hi
    rw [kIB_e k (by omega), kID_e k (by omega)]
    by_cases e : i = 63 + 4 * k
    · rw [e, upd_s, show 63 + 4 * k + 2 = 65 + 4 * k by omega, upd_s]
    · rw [upd_n e, upd_n (by omega)]
      exact ih (by omega) i hi
theorem k_BR0 : BR (kIB 32) (upd (kID 32) (Int32.toNatClampNeg (14 : Int32)) (1000 : Int32)) := by
  intro i hi
  rw [show Int32.toNatClampNeg (14 : Int32) = 14 from rfl]
  by_cases e : i = 12
  · subst e
    rw [kIB_low 32 (Nat.le_refl _) 12 (by decide), if_pos rfl]
    exact upd_s _ _ _
  · rw [upd_n (by omega)]
    exact kID_IB 32 (Nat.le_refl _) i e
theorem k_ZB0 : ZB (kIB 32) := fun i hi => by rw [kIB_low 32 (Nat.le_refl _) i (Or.inr hi), if_neg (by omega)]
theorem sm_00 {f : Nat → Int32} {i : Nat} (h1 : f i = 0) (h2 : f (i + 1) = 0) : sm f i = 0 := by
  unfold sm
  rw [h1, h2]
  decide
theorem ds_00 {f : Nat → Int32} (h : ∀ i, i < 63 → i ≠ 12 → f i = 0) : ∀ n : Nat, n ≤ 16 → ds f n = 0 := by
  intro n
  induction n with
  | zero => intro _; rfl
  | succ n ih =>
    intro hn
    show ds f n + sm f (depP n + 1) = 0
    rw [ih (by omega), sm_00 (h _ (by unfold depP; omega) (by unfold depP; omega)) (h _ (by unfold depP; omega) (by unfold depP; omega))]
    rfl
theorem SI_00 {f : Nat → Int32} (h : ∀ i, i < 63 → i ≠ 12 → f i = 0) : SI f 0 0 0 := by
  refine ⟨?_, ?_, ⟨fun _ => 0, 0, 0, fun d hd => ?_, h 8 (by decide) (by decide), rfl, Nat.le_refl _, rfl, Nat.le_refl _⟩, ⟨0, 0, ?_, Nat.zero_le _, rfl, Nat.le_refl _⟩, Or.inl (h 11 (by decide) (by decide)), 0, h 10 (by decide) (by decide), Nat.le_refl _⟩
  · rw [sm_00 (h 0 (by decide) (by decide)) (h 1 (by decide) (by decide)), sm_00 (h 2 (by decide) (by decide)) (h 3 (by decide) (by decide)), sm_00 (h 4 (by decide) (by decide)) (h 5 (by decide) (by decide)), sm_00 (h 6 (by decide) (by decide)) (h 7 (by decide) (by decide))]
  · rw [ds_00 h 16 (Nat.le_refl _), sm_00 (h 0 (by decide) (by decide)) (h 1 (by decide) (by decide))]
  · exact h _ (by unfold depP; omega) (by unfold depP; omega)
  · rw [sm_00 (h 0 (by decide) (by decide)) (h 1 (by decide) (by decide))]; rfl
theorem WI_00 : WI (upd (fun _ => 0) 0 1) 0 0 1 := by
  refine ⟨0, by omega, fun x hx => ?_⟩
  by_cases e : x = 0
  · subst e
    exact ⟨1, by rw [upd_s]; rfl, by decide, by decide⟩
  · exact ⟨0, by rw [upd_n e]; rfl, by rw [if_neg (by omega)]; omega, by rw [if_neg (by omega)]; omega⟩
theorem k_mach (p : Int32) : (if (1 : Int32) < (if (9999999 : Int32) < p then (9999999 : Int32) else p) then (if (9999999 : Int32) < p then (9999999 : Int32) else p) else (1 : Int32)) = kMn p := by
  have h1 : (1 : Int32).toInt = 1 := rfl
  have h9 : (9999999 : Int32).toInt = 9999999 := rfl
  unfold kMn
  by_cases c1 : (9999999 : Int32) < p
  · rw [if_pos c1, if_pos (by decide)]
    rw [Int32.lt_iff_toInt_lt] at c1
    rw [if_pos (by rw [Int32.le_iff_toInt_le]; omega), if_neg (by rw [Int32.le_iff_toInt_le]; omega)]
  · rw [if_neg c1]
    rw [Int32.lt_iff_toInt_lt] at c1
    by_cases c2 : (1 : Int32) < p
    · rw [if_pos c2]
      rw [Int32.lt_iff_toInt_lt] at c2
      rw [if_pos (by rw [Int32.le_iff_toInt_le]; omega), if_pos (by rw [Int32.le_iff_toInt_le]; omega)]
    · rw [if_neg c2]
      rw [Int32.lt_iff_toInt_lt] at c2
      by_cases c3 : (1 : Int32) ≤ p
      · rw [if_pos c3, if_pos (by rw [Int32.le_iff_toInt_le]; omega)]
        rw [Int32.le_iff_toInt_le] at c3
        apply Int32.toInt_inj.mp
        omega
      · rw [if_neg c3]
theorem k_D0 {KM IB : Nat → Int32} : spX1_startSector (0 : Int32) (0 : Int32) (0 : Int32) (1 : Int32) (0 : Int32) (0 : Int32) (0 : Int32) (0 : Int32) KM (fun _ => 0) IB (0 : Int32) (1 : Int32) = (1, 0, 0, 1, 0, 0, 0, wAll (eL 256 KM 0 0 0) (256 * 0) (hdr 1 0 IB), upd (fun _ => 0) 0 1) := by
  have h := k_start (sc := 0) (rc := 0) (la := 0) (ce := 0) (lf := 0) (mq := 0) (ct := 0) (g := 1) (wd := KM) (er := fun _ => 0) (bw := IB) (s := 0) (by decide)
  rw [BG_free] at h
  rw [show (0 : Int32) = nI 0 from rfl] at h ⊢
  refine h.trans ?_
  dsimp only
  rw [if_neg (by decide), show nI 0 + (1 : Int32) = 1 from by decide]
theorem k_K0 {KM IB kbo : Nat → Int32} (hb : BR IB kbo) : spX5_begin (1 : Int32) (-1 : Int32) (0 : Int32) (15 : Int32) (0 : Int32) (0 : Int32) KM (fun _ => 0) kbo (1 : Int32) = (1, -1, 0, 0, wAll (eL 256 KM 0 0 0) (256 * 0) (hdr 1 0 IB), upd (fun _ => 0) 0 1) := by
  obtain ⟨klf', h1, h2⟩ := k_begin (ce := 0) (lf := 0) (mq := 0) (ct := 0) (klf := -1) (ksc := 15) (krc := 0) (kno := 0) (g := 1) (wd := KM) (er := fun _ => 0) (s0 := 15) (by decide) rfl (Or.inl ⟨rfl, rfl⟩) hb
  rw [show (15 + 1) % 16 = 0 from rfl, BG_free] at h1 h2
  dsimp only at h1 h2
  have hk : klf' = -1 := by
    rcases h1 with ⟨-, h⟩ | ⟨h, -⟩
    · exact h
    · exact absurd h (by decide)
  rw [h2, hk]
  rfl
theorem sim_start (p1 : Int32) : RelS 512 (σ0 p1) (τ0 p1) := by
  have hKM : ∀ x, x < 4096 → kFl (fun _ => 0) (-1 : Int32) 4096 x = -1 := fun x hx => kFl_in 4096 x (Nat.le_refl _) hx
  have hD : kD0 = _ := k_D0 (KM := kFl (fun _ => 0) (-1 : Int32) 4096) (IB := kIB 32)
  have hb := k_BR0
  have hK : kK0 = _ := k_K0 (KM := kFl (fun _ => 0) (-1 : Int32) 4096) hb
  have hsi : SI (kIB 32) 0 0 0 := SI_00 (fun i h1 h2 => by rw [kIB_low 32 (Nat.le_refl _) i (Or.inl h1), if_neg h2])
  have hz := k_ZB0
  have hwi := WI_00
  unfold σ0 τ0
  rw [hD, hK]
  generalize upd (kID 32) (Int32.toNatClampNeg (14 : Int32)) (1000 : Int32) = KB at hb ⊢
  have hdi := DI_first (la := 0) (S' := 0) hKM hz (by decide) rfl
  generalize wAll (eL 256 (kFl (fun _ => 0) (-1 : Int32) 4096) 0 0 0) (256 * 0) (hdr 1 0 (kIB 32)) = W at hdi ⊢
  generalize kIB 32 = IB at hsi hz hb hdi ⊢
  generalize upd (fun _ => (0 : Int32)) 0 1 = E at hwi ⊢
  rw [k_mach]
  show RelC 512 (kMn p1) 0 0 (fun _ => 0) (fun _ => 0) 0 0 0 1 0 0 0 0 W E IB (kMn p1) 1 (-1) 0 0 0 0 0 0 W E KB (fun _ => 0) (fun _ => 0)
  exact ⟨Nat.le_refl _, rfl, rfl, rfl, rfl, Or.inr rfl, rfl, rfl, rfl, Or.inl ⟨rfl, rfl⟩, rfl, rfl, ⟨0, rfl, by decide⟩, ⟨0, rfl, by decide⟩, hz, ⟨0, rfl, by decide⟩, 0, 0, 0, IB, 0, hdi, hz, hsi, hwi, rfl, by decide, fun _ => ⟨rfl, rfl, rfl, rfl, rfl, rfl, rfl, hb⟩⟩
theorem all_sim : AllSim RelS := ⟨sim_pre, sim_skip, sim_rate, sim_loadTable, sim_weigh, sim_frank, sim_printed, sim_refill, sim_codeFor, sim_claimBack, sim_book, sim_counter, sim_dayTotal, sim_inspect, sim_lock, sim_unlock, sim_cut, sim_mount, sim_uncertain, sim_settle, sim_wear, sim_word, sim_sound⟩
