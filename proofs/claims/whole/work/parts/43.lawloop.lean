def Sim_skip (Rel : RelT) : Prop := ∀ (b : Nat) (σ : SX) (τ : SK), Rel (b + 1) σ τ → Rel b σ τ
def AllSim (Rel : RelT) : Prop := Sim_pre Rel ∧ Sim_skip Rel ∧ Sim_rate Rel ∧ Sim_loadTable Rel ∧ Sim_weigh Rel ∧ Sim_frank Rel ∧ Sim_printed Rel ∧ Sim_refill Rel ∧ Sim_codeFor Rel ∧ Sim_claimBack Rel ∧ Sim_book Rel ∧ Sim_counter Rel ∧ Sim_dayTotal Rel ∧ Sim_inspect Rel ∧ Sim_lock Rel ∧ Sim_unlock Rel ∧ Sim_cut Rel ∧ Sim_mount Rel ∧ Sim_uncertain Rel ∧ Sim_settle Rel ∧ Sim_wear Rel ∧ Sim_word Rel ∧ Sim_sound Rel
set_option maxHeartbeats 4000000 in
set_option maxRecDepth 100000 in
theorem law_loop (Rel : RelT) (hall : AllSim Rel) {p : Program} {l : Launch} {e : Env} {s : State} {m : MethodId} {below : List Frame} {meth : Method} {c : Code} {D : va_G} {cA : ClassId} {b L : Nat} {xs : Nat → Int32} (hL : L ≤ 2561) (C0 : lw_At p s m meth c b L xs) (hK : va_K D vwCl [(cA, .int)] s) {aD aT ad af aJ aM aw ae aB ab kO km kw kb kr kd kt : Nat} : ∀ (n k : Nat) (x3 : Int32) (σ : SX) (τ : SK) (H : Heap) (locs : List Loc) (ls : Array Slot), x3 = nI (1 + 5 * k) → k ≤ 512 → 512 < k + n → Rel (512 - k) σ τ → va_P D vwCl (wX aD aT ad af aJ aM aw ae aB ab cA σ ++ wY kO km kw kb kr kd kt cA τ) H → va_D (fun q : Nat => s.heap.size ≤ q) (wX aD aT ad af aJ aM aw ae aB ab cA σ ++ wY kO km kw kb kr kd kt cA τ) → va_S (fun q : Nat => s.heap.size ≤ q) s.heap H locs → lv_has ls 4 [(0, .ref b), (1, .ref aD), (2, .ref kO), (3, .int x3)] → W p l e room_1 s m #[Value.ref b] below meth c H locs 17 9931 (lw_Z below #[Value.ref b] s) (F0 m 28 ls []) := by
  obtain ⟨hpre, hskip, h_rate, h_loadTable, h_weigh, h_frank, h_printed, h_refill, h_codeFor, h_claimBack, h_book, h_counter, h_dayTotal, h_inspect, h_lock, h_unlock, h_cut, h_mount, h_uncertain, h_settle, h_wear, h_word, h_sound⟩ := hall
  obtain ⟨hx, hb, hr, hml, hown0, hts0, hX, hbl, hlocks, hgv⟩ := id C0
  have hbA : ¬ (fun q : Nat => s.heap.size ≤ q) b := Nat.not_le.mpr hbl
  intro n
  induction n with
  | zero =>
    intro k x3 σ τ H locs ls h1 h2 h3
    exact absurd h3 (by omega)
  | succ n ih =>
    intro k x3 σ τ H locs ls hx3 hk1 hk2 hR hP hD hS hl
    refine lv_iload_n hx hb dL_law_28 rfl (lv_at hl 3 rfl) ?_
    refine lv_aload_n hx hb dL_law_29 rfl (lv_at hl 0 rfl) ?_
    refine va_slen hx hb hX hbl hbA hS dL_law_30 ?_
    refine lv_iconst (v := 5) hx hb dL_law_31 (by decide) ?_
    refine lv_isub hx hb dL_law_32 ?_
    refine lv_icmp_gt (tgt := 749) hx hb dL_law_33 (by decide) (fun c_33 => ?_) (fun c_33 => ?_)
    · refine lv_iconst (v := 1) hx hb dL_law_749 (by decide) ?_
      refine va_forget (fun q hq => hS.2.2 q hq) ?_
      exact lw_ret hx hb hr hlocks dL_law_750
    · have hlen : 1 + 5 * k + 4 < L := by
        have hL1 : (Int32.ofNat L - 5).toInt = (L : Int) - 5 := pk_sub_toInt (a := L) (b := 5) (by omega) (by decide)
        rw [Int32.lt_iff_toInt_lt, hL1, hx3, nI_toInt (by omega)] at c_33
        omega
      have hkk : k < 512 := by omega
      have hR : Rel ((511 - k) + 1) σ τ := by rw [show 511 - k + 1 = 512 - k by omega]; exact hR
      have hi0 : vp_in x3 L := by rw [hx3]; exact vp_in_nI (by omega) (by omega)
      have K743 : ∀ (σ' : SX) (τ' : SK) (H : Heap) (locs : List Loc), Rel (511 - k) σ' τ' → va_P D vwCl (wX aD aT ad af aJ aM aw ae aB ab cA σ' ++ wY kO km kw kb kr kd kt cA τ') H → va_D (fun q : Nat => s.heap.size ≤ q) (wX aD aT ad af aJ aM aw ae aB ab cA σ' ++ wY kO km kw kb kr kd kt cA τ') → va_S (fun q : Nat => s.heap.size ≤ q) s.heap H locs → W p l e room_1 s m #[Value.ref b] below meth c H locs 17 9931 (lw_Z below #[Value.ref b] s) (F0 m 743 ls []) := by
        intro σ' τ' H locs hR' hP hD hS
        refine lv_iinc (v := (x3 + 5)) (lv' := [(3, .int (x3 + 5)), (0, .ref b), (1, .ref aD), (2, .ref kO)]) hx hb dL_law_743 hl (k := 3) rfl rfl (by decide) rfl (fun ls hl => ?_)
        refine lv_goto (tgt := 28) hx hb dL_law_746 (by decide) ?_
        exact ih (k + 1) _ σ' τ' H locs ls (by rw [hx3]; exact nI_add (1 + 5 * k) 5) (by omega) (by omega) (by rw [show 512 - (k + 1) = 511 - k by omega]; exact hR') hP hD hS (lv_sub hl [1, 2, 3, 0] rfl)
      refine lv_aload_n hx hb dL_law_36 rfl (lv_at hl 0 rfl) ?_
      refine lv_iload_n hx hb dL_law_37 rfl (lv_at hl 3 rfl) ?_
      refine va_sld hx hb hX hbl hbA hS hi0 dL_law_38 ?_
      refine lv_bipush (v := 31) hx hb dL_law_39 (by decide) ?_
      refine lv_iand hx hb dL_law_41 ?_
      refine lv_topi (fun v hv => ?_)
      by_cases c_0 : v = 0
      · refine lv_tableIn (tgt := 140) hx hb dL_law_42 (by rw [c_0]; decide) (by rw [c_0]; decide) (by rw [c_0]; rfl) (by decide) ?_
        exact law_rate Rel hpre h_rate C0 hx3 hlen hL hR hK hP hD hS hl K743
      by_cases c_1 : v = 1
      · refine lv_tableIn (tgt := 193) hx hb dL_law_42 (by rw [c_1]; decide) (by rw [c_1]; decide) (by rw [c_1]; rfl) (by decide) ?_
        exact law_loadTable Rel hpre h_loadTable C0 hx3 hlen hL hR hK hP hD hS hl K743
      by_cases c_2 : v = 2
      · refine lv_tableIn (tgt := 216) hx hb dL_law_42 (by rw [c_2]; decide) (by rw [c_2]; decide) (by rw [c_2]; rfl) (by decide) ?_
        exact law_weigh Rel hpre h_weigh C0 hx3 hlen hL hR hK hP hD hS hl K743
      by_cases c_3 : v = 3
      · refine lv_tableIn (tgt := 259) hx hb dL_law_42 (by rw [c_3]; decide) (by rw [c_3]; decide) (by rw [c_3]; rfl) (by decide) ?_
        exact law_frank Rel hpre h_frank C0 hx3 hlen hL hR hK hP hD hS hl K743
      by_cases c_4 : v = 4
      · refine lv_tableIn (tgt := 302) hx hb dL_law_42 (by rw [c_4]; decide) (by rw [c_4]; decide) (by rw [c_4]; rfl) (by decide) ?_
        exact law_printed Rel hpre h_printed C0 hx3 hlen hL hR hK hP hD hS hl K743
      by_cases c_5 : v = 5
      · refine lv_tableIn (tgt := 326) hx hb dL_law_42 (by rw [c_5]; decide) (by rw [c_5]; decide) (by rw [c_5]; rfl) (by decide) ?_
        exact law_refill Rel hpre h_refill C0 hx3 hlen hL hR hK hP hD hS hl K743
      by_cases c_6 : v = 6
      · refine lv_tableIn (tgt := 359) hx hb dL_law_42 (by rw [c_6]; decide) (by rw [c_6]; decide) (by rw [c_6]; rfl) (by decide) ?_
        exact law_codeFor Rel hpre h_codeFor C0 hx3 hlen hL hR hK hP hD hS hl K743
      by_cases c_7 : v = 7
      · refine lv_tableIn (tgt := 392) hx hb dL_law_42 (by rw [c_7]; decide) (by rw [c_7]; decide) (by rw [c_7]; rfl) (by decide) ?_
        exact law_claimBack Rel hpre h_claimBack C0 hx3 hlen hL hR hK hP hD hS hl K743
      by_cases c_8 : v = 8
      · refine lv_tableIn (tgt := 425) hx hb dL_law_42 (by rw [c_8]; decide) (by rw [c_8]; decide) (by rw [c_8]; rfl) (by decide) ?_
        exact law_book Rel hpre h_book C0 hx3 hlen hL hR hK hP hD hS hl K743
      by_cases c_9 : v = 9
      · refine lv_tableIn (tgt := 449) hx hb dL_law_42 (by rw [c_9]; decide) (by rw [c_9]; decide) (by rw [c_9]; rfl) (by decide) ?_
        exact law_counter Rel hpre h_counter C0 hx3 hlen hL hR hK hP hD hS hl K743
      by_cases c_10 : v = 10
      · refine lv_tableIn (tgt := 483) hx hb dL_law_42 (by rw [c_10]; decide) (by rw [c_10]; decide) (by rw [c_10]; rfl) (by decide) ?_
        exact law_dayTotal Rel hpre h_dayTotal C0 hx3 hlen hL hR hK hP hD hS hl K743
      by_cases c_11 : v = 11
      · refine lv_tableIn (tgt := 517) hx hb dL_law_42 (by rw [c_11]; decide) (by rw [c_11]; decide) (by rw [c_11]; rfl) (by decide) ?_
        exact law_inspect Rel hpre h_inspect C0 hx3 hlen hL hR hK hP hD hS hl K743
      by_cases c_12 : v = 12
      · refine lv_tableIn (tgt := 540) hx hb dL_law_42 (by rw [c_12]; decide) (by rw [c_12]; decide) (by rw [c_12]; rfl) (by decide) ?_
        exact law_lock Rel hpre h_lock C0 hx3 hlen hL hR hK hP hD hS hl K743
      by_cases c_13 : v = 13
      · refine lv_tableIn (tgt := 553) hx hb dL_law_42 (by rw [c_13]; decide) (by rw [c_13]; decide) (by rw [c_13]; rfl) (by decide) ?_
        exact law_unlock Rel hpre h_unlock C0 hx3 hlen hL hR hK hP hD hS hl K743
      by_cases c_14 : v = 14
      · refine lv_tableIn (tgt := 576) hx hb dL_law_42 (by rw [c_14]; decide) (by rw [c_14]; decide) (by rw [c_14]; rfl) (by decide) ?_
        exact law_cut Rel hpre h_cut C0 hx3 hlen hL hR hK hP hD hS hl K743
      by_cases c_15 : v = 15
      · refine lv_tableIn (tgt := 609) hx hb dL_law_42 (by rw [c_15]; decide) (by rw [c_15]; decide) (by rw [c_15]; rfl) (by decide) ?_
        exact law_mount Rel hpre h_mount C0 hx3 hlen hL hR hK hP hD hS hl K743
      by_cases c_16 : v = 16
      · refine lv_tableIn (tgt := 622) hx hb dL_law_42 (by rw [c_16]; decide) (by rw [c_16]; decide) (by rw [c_16]; rfl) (by decide) ?_
        exact law_uncertain Rel hpre h_uncertain C0 hx3 hlen hL hR hK hP hD hS hl K743
      by_cases c_17 : v = 17
      · refine lv_tableIn (tgt := 635) hx hb dL_law_42 (by rw [c_17]; decide) (by rw [c_17]; decide) (by rw [c_17]; rfl) (by decide) ?_
        exact law_settle Rel hpre h_settle C0 hx3 hlen hL hR hK hP hD hS hl K743
      by_cases c_18 : v = 18
      · refine lv_tableIn (tgt := 674) hx hb dL_law_42 (by rw [c_18]; decide) (by rw [c_18]; decide) (by rw [c_18]; rfl) (by decide) ?_
        exact law_wear Rel hpre h_wear C0 hx3 hlen hL hR hK hP hD hS hl K743
      by_cases c_19 : v = 19
      · refine lv_tableIn (tgt := 697) hx hb dL_law_42 (by rw [c_19]; decide) (by rw [c_19]; decide) (by rw [c_19]; rfl) (by decide) ?_
        exact law_word Rel hpre h_word C0 hx3 hlen hL hR hK hP hD hS hl K743
      by_cases c_20 : v = 20
      · refine lv_tableIn (tgt := 730) hx hb dL_law_42 (by rw [c_20]; decide) (by rw [c_20]; decide) (by rw [c_20]; rfl) (by decide) ?_
        exact law_sound Rel hpre h_sound C0 hx3 hlen hL hR hK hP hD hS hl K743
      refine lv_tableOut (tgt := 743) hx hb dL_law_42 (by have n0 := lv_neT (a := 0) c_0 rfl; have n1 := lv_neT (a := 1) c_1 rfl; have n2 := lv_neT (a := 2) c_2 rfl; have n3 := lv_neT (a := 3) c_3 rfl; have n4 := lv_neT (a := 4) c_4 rfl; have n5 := lv_neT (a := 5) c_5 rfl; have n6 := lv_neT (a := 6) c_6 rfl; have n7 := lv_neT (a := 7) c_7 rfl; have n8 := lv_neT (a := 8) c_8 rfl; have n9 := lv_neT (a := 9) c_9 rfl; have n10 := lv_neT (a := 10) c_10 rfl; have n11 := lv_neT (a := 11) c_11 rfl; have n12 := lv_neT (a := 12) c_12 rfl; have n13 := lv_neT (a := 13) c_13 rfl; have n14 := lv_neT (a := 14) c_14 rfl; have n15 := lv_neT (a := 15) c_15 rfl; have n16 := lv_neT (a := 16) c_16 rfl; have n17 := lv_neT (a := 17) c_17 rfl; have n18 := lv_neT (a := 18) c_18 rfl; have n19 := lv_neT (a := 19) c_19 rfl; have n20 := lv_neT (a := 20) c_20 rfl; omega) (by decide) ?_
      exact K743 σ τ H locs (hskip _ _ _ hR) hP hD hS
