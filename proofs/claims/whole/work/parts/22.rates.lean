def spX3_placeOf (p1 : Int32) (p2 : Int32) (p3 : Int32) : Int32 := (if p1 < 0 then (-1 : Int32) else (if (8 : Int32) ≤ p1 then (-1 : Int32) else (if p2 < 0 then (-1 : Int32) else (if (10 : Int32) ≤ p2 then (-1 : Int32) else (if p3 < 0 then (-1 : Int32) else (if (4 : Int32) ≤ p3 then (-1 : Int32) else ((((p1 * (10 : Int32)) + p2) * (4 : Int32)) + p3)))))))
set_option maxHeartbeats 4000000 in
set_option maxRecDepth 100000 in
theorem c_X3_placeOf (l : Launch) (p1 : Int32) (p2 : Int32) (p3 : Int32) : kRi l yX3_placeOf cX3_placeOf 4 (some .int) { frames := 0, cells := 0, slots := 0, locals := 0 } [.int p1, .int p2, .int p3] (fun _ => True) (spX3_placeOf p1 p2 p3) := by
  refine Met.ofW (cc := cX3_placeOf) (maxL := 4) (ret := (some .int)) (by decide) rfl ?_
  intro p e s m args below meth c s₁ B hml hv
  obtain ⟨rfl, -⟩ := hv
  have hx := B.exec
  have hb := B.bytes
  have hr := B.returns
  have hts : ∀ w ∈ kG, w.before _ s = true := fun w h => atoms_spec (ws := kT yX3_placeOf cX3_placeOf 4 (some .int)) B.pre w (List.mem_cons_of_mem _ h)
  have hown : s.vm.findClass RX3 = some m.cls := findClass_of_methodNamed B.named
  have hlocks := B.notSynchronized
  have hl := lv_entry ([.int p1, .int p2, .int p3]) (n := 4) (Nat.le_of_ble_eq_true rfl)
  rw [lg_entry_eq]
  generalize (lg_sl ([.int p1, .int p2, .int p3]) ++ List.replicate (4 - (lg_sl ([.int p1, .int p2, .int p3])).length) Slot.unset).toArray = ls at hl ⊢
  have hl : lv_has ls 4 [(0, .int p1), (1, .int p2), (2, .int p3)] := hl
  refine lv_iload_n hx hb dX3_placeOf_0 rfl (lv_at hl 0 rfl) ?_
  refine lv_if_lt (tgt := 33) hx hb dX3_placeOf_1 (by decide) (fun c_1 => ?_) (fun c_1 => ?_)
  · refine lv_iconst (v := 0) hx hb dX3_placeOf_33 (by decide) ?_
    refine lv_istore_n (lv' := [(3, .int (0 : Int32)), (0, .int p1), (1, .int p2), (2, .int p3)]) hx hb dX3_placeOf_34 rfl hl (by decide) rfl (fun ls hl => ?_)
    refine lv_iload_n hx hb dX3_placeOf_35 rfl (lv_at hl 0 rfl) ?_
    refine lv_if_eq (tgt := 52) hx hb dX3_placeOf_36 (by decide) (fun c_36 => ?_) (fun c_36 => ?_)
    · refine lv_iconst (v := -1) hx hb dX3_placeOf_52 (by decide) ?_
      exact W.iret (v := (-1 : Int32)) hx hb hr (fun t ht hW => ⟨(-1 : Int32), rfl, (show _ = _ from (by unfold spX3_placeOf; rw [if_pos c_1] : spX3_placeOf p1 p2 p3 = (-1 : Int32)).symm), ht⟩) (fun q h => by cases h) dX3_placeOf_53
    · exact absurd c_36 (by decide)
  · refine lv_iload_n hx hb dX3_placeOf_4 rfl (lv_at hl 0 rfl) ?_
    refine lv_bipush (v := 8) hx hb dX3_placeOf_5 (by decide) ?_
    refine lv_icmp_ge (tgt := 33) hx hb dX3_placeOf_7 (by decide) (fun c_7 => ?_) (fun c_7 => ?_)
    · refine lv_iconst (v := 0) hx hb dX3_placeOf_33 (by decide) ?_
      refine lv_istore_n (lv' := [(3, .int (0 : Int32)), (0, .int p1), (1, .int p2), (2, .int p3)]) hx hb dX3_placeOf_34 rfl hl (by decide) rfl (fun ls hl => ?_)
      refine lv_iload_n hx hb dX3_placeOf_35 rfl (lv_at hl 0 rfl) ?_
      refine lv_if_eq (tgt := 52) hx hb dX3_placeOf_36 (by decide) (fun c_36 => ?_) (fun c_36 => ?_)
      · refine lv_iconst (v := -1) hx hb dX3_placeOf_52 (by decide) ?_
        exact W.iret (v := (-1 : Int32)) hx hb hr (fun t ht hW => ⟨(-1 : Int32), rfl, (show _ = _ from (by unfold spX3_placeOf; rw [if_neg c_1, if_pos c_7] : spX3_placeOf p1 p2 p3 = (-1 : Int32)).symm), ht⟩) (fun q h => by cases h) dX3_placeOf_53
      · exact absurd c_36 (by decide)
    · refine lv_iload_n hx hb dX3_placeOf_10 rfl (lv_at hl 1 rfl) ?_
      refine lv_if_lt (tgt := 33) hx hb dX3_placeOf_11 (by decide) (fun c_11 => ?_) (fun c_11 => ?_)
      · refine lv_iconst (v := 0) hx hb dX3_placeOf_33 (by decide) ?_
        refine lv_istore_n (lv' := [(3, .int (0 : Int32)), (0, .int p1), (1, .int p2), (2, .int p3)]) hx hb dX3_placeOf_34 rfl hl (by decide) rfl (fun ls hl => ?_)
        refine lv_iload_n hx hb dX3_placeOf_35 rfl (lv_at hl 0 rfl) ?_
        refine lv_if_eq (tgt := 52) hx hb dX3_placeOf_36 (by decide) (fun c_36 => ?_) (fun c_36 => ?_)
        · refine lv_iconst (v := -1) hx hb dX3_placeOf_52 (by decide) ?_
          exact W.iret (v := (-1 : Int32)) hx hb hr (fun t ht hW => ⟨(-1 : Int32), rfl, (show _ = _ from (by unfold spX3_placeOf; rw [if_neg c_1, if_neg c_7, if_pos c_11] : spX3_placeOf p1 p2 p3 = (-1 : Int32)).symm), ht⟩) (fun q h => by cases h) dX3_placeOf_53
        · exact absurd c_36 (by decide)
      · refine lv_iload_n hx hb dX3_placeOf_14 rfl (lv_at hl 1 rfl) ?_
        refine lv_bipush (v := 10) hx hb dX3_placeOf_15 (by decide) ?_
        refine lv_icmp_ge (tgt := 33) hx hb dX3_placeOf_17 (by decide) (fun c_17 => ?_) (fun c_17 => ?_)
        · refine lv_iconst (v := 0) hx hb dX3_placeOf_33 (by decide) ?_
          refine lv_istore_n (lv' := [(3, .int (0 : Int32)), (0, .int p1), (1, .int p2), (2, .int p3)]) hx hb dX3_placeOf_34 rfl hl (by decide) rfl (fun ls hl => ?_)
          refine lv_iload_n hx hb dX3_placeOf_35 rfl (lv_at hl 0 rfl) ?_
          refine lv_if_eq (tgt := 52) hx hb dX3_placeOf_36 (by decide) (fun c_36 => ?_) (fun c_36 => ?_)
          · refine lv_iconst (v := -1) hx hb dX3_placeOf_52 (by decide) ?_
            exact W.iret (v := (-1 : Int32)) hx hb hr (fun t ht hW => ⟨(-1 : Int32), rfl, (show _ = _ from (by unfold spX3_placeOf; rw [if_neg c_1, if_neg c_7, if_neg c_11, if_pos c_17] : spX3_placeOf p1 p2 p3 = (-1 : Int32)).symm), ht⟩) (fun q h => by cases h) dX3_placeOf_53
          · exact absurd c_36 (by decide)
        · refine lv_iload_n hx hb dX3_placeOf_20 rfl (lv_at hl 2 rfl) ?_
          refine lv_if_lt (tgt := 33) hx hb dX3_placeOf_21 (by decide) (fun c_21 => ?_) (fun c_21 => ?_)
          · refine lv_iconst (v := 0) hx hb dX3_placeOf_33 (by decide) ?_
            refine lv_istore_n (lv' := [(3, .int (0 : Int32)), (0, .int p1), (1, .int p2), (2, .int p3)]) hx hb dX3_placeOf_34 rfl hl (by decide) rfl (fun ls hl => ?_)
            refine lv_iload_n hx hb dX3_placeOf_35 rfl (lv_at hl 0 rfl) ?_
            refine lv_if_eq (tgt := 52) hx hb dX3_placeOf_36 (by decide) (fun c_36 => ?_) (fun c_36 => ?_)
            · refine lv_iconst (v := -1) hx hb dX3_placeOf_52 (by decide) ?_
              exact W.iret (v := (-1 : Int32)) hx hb hr (fun t ht hW => ⟨(-1 : Int32), rfl, (show _ = _ from (by unfold spX3_placeOf; rw [if_neg c_1, if_neg c_7, if_neg c_11, if_neg c_17, if_pos c_21] : spX3_placeOf p1 p2 p3 = (-1 : Int32)).symm), ht⟩) (fun q h => by cases h) dX3_placeOf_53
            · exact absurd c_36 (by decide)
          · refine lv_iload_n hx hb dX3_placeOf_24 rfl (lv_at hl 2 rfl) ?_
            refine lv_iconst (v := 4) hx hb dX3_placeOf_25 (by decide) ?_
            refine lv_icmp_ge (tgt := 33) hx hb dX3_placeOf_26 (by decide) (fun c_26 => ?_) (fun c_26 => ?_)
            · refine lv_iconst (v := 0) hx hb dX3_placeOf_33 (by decide) ?_
              refine lv_istore_n (lv' := [(3, .int (0 : Int32)), (0, .int p1), (1, .int p2), (2, .int p3)]) hx hb dX3_placeOf_34 rfl hl (by decide) rfl (fun ls hl => ?_)
              refine lv_iload_n hx hb dX3_placeOf_35 rfl (lv_at hl 0 rfl) ?_
              refine lv_if_eq (tgt := 52) hx hb dX3_placeOf_36 (by decide) (fun c_36 => ?_) (fun c_36 => ?_)
              · refine lv_iconst (v := -1) hx hb dX3_placeOf_52 (by decide) ?_
                exact W.iret (v := (-1 : Int32)) hx hb hr (fun t ht hW => ⟨(-1 : Int32), rfl, (show _ = _ from (by unfold spX3_placeOf; rw [if_neg c_1, if_neg c_7, if_neg c_11, if_neg c_17, if_neg c_21, if_pos c_26] : spX3_placeOf p1 p2 p3 = (-1 : Int32)).symm), ht⟩) (fun q h => by cases h) dX3_placeOf_53
              · exact absurd c_36 (by decide)
            · refine lv_iconst (v := 1) hx hb dX3_placeOf_29 (by decide) ?_
              refine lv_goto (tgt := 34) hx hb dX3_placeOf_30 (by decide) ?_
              refine lv_istore_n (lv' := [(3, .int (1 : Int32)), (0, .int p1), (1, .int p2), (2, .int p3)]) hx hb dX3_placeOf_34 rfl hl (by decide) rfl (fun ls hl => ?_)
              refine lv_iload_n hx hb dX3_placeOf_35 rfl (lv_at hl 0 rfl) ?_
              refine lv_if_eq (tgt := 52) hx hb dX3_placeOf_36 (by decide) (fun c_36 => ?_) (fun c_36 => ?_)
              · exact absurd c_36 (by decide)
              · refine lv_iload_n hx hb dX3_placeOf_39 rfl (lv_at hl 1 rfl) ?_
                refine lv_bipush (v := 10) hx hb dX3_placeOf_40 (by decide) ?_
                refine lv_imul hx hb dX3_placeOf_42 ?_
                refine lv_iload_n hx hb dX3_placeOf_43 rfl (lv_at hl 2 rfl) ?_
                refine lv_iadd hx hb dX3_placeOf_44 ?_
                refine lv_iconst (v := 4) hx hb dX3_placeOf_45 (by decide) ?_
                refine lv_imul hx hb dX3_placeOf_46 ?_
                refine lv_iload_n hx hb dX3_placeOf_47 rfl (lv_at hl 3 rfl) ?_
                refine lv_iadd hx hb dX3_placeOf_48 ?_
                refine lv_goto (tgt := 53) hx hb dX3_placeOf_49 (by decide) ?_
                exact W.iret (v := ((((p1 * (10 : Int32)) + p2) * (4 : Int32)) + p3)) hx hb hr (fun t ht hW => ⟨((((p1 * (10 : Int32)) + p2) * (4 : Int32)) + p3), rfl, (show _ = _ from (by unfold spX3_placeOf; rw [if_neg c_1, if_neg c_7, if_neg c_11, if_neg c_17, if_neg c_21, if_neg c_26] : spX3_placeOf p1 p2 p3 = ((((p1 * (10 : Int32)) + p2) * (4 : Int32)) + p3)).symm), ht⟩) (fun q h => by cases h) dX3_placeOf_53
theorem k_inl {x N : Int32} {n : Nat} (hN : N.toInt = n) (h0 : ¬ x < 0) (h1 : x < N) : vp_in x n := by
  rw [vp_in_iff]
  rw [Int32.lt_iff_toInt_lt, Int32.toInt_zero] at h0
  rw [Int32.lt_iff_toInt_lt, hN] at h1
  omega
def spX3_draft (dr : Nat → Int32) (p1 : Int32) (p2 : Int32) (p3 : Int32) (p4 : Int32) : Int32 × (Nat → Int32) := (if (spX3_placeOf p1 p2 p3) < 0 then ((0 : Int32), dr) else (if (spX3_placeOf p1 p2 p3) < (320 : Int32) then ((1 : Int32), (upd dr (Int32.toNatClampNeg (spX3_placeOf p1 p2 p3)) p4)) else ((0 : Int32), dr)))
set_option maxHeartbeats 4000000 in
set_option maxRecDepth 100000 in
theorem c_X3_draft (l : Launch) (D : va_G) (aT ad af : Nat) (cA : ClassId) (dr : Nat → Int32) (tb : Nat → Int32) (p1 : Int32) (p2 : Int32) (p3 : Int32) (p4 : Int32)  : kWi l yX3_draft cX3_draft 6 (some .boolean) { frames := 1, cells := 0, slots := 0, locals := 23 } D [(cA, .int)] [.ref aT, .int p1, .int p2, .int p3, .int p4] (wT aT ad af cA dr tb) (spX3_draft dr p1 p2 p3 p4).1 (wT aT ad af cA (spX3_draft dr p1 p2 p3 p4).2 tb) := by
  intro sz
  refine Met.ofW (cc := cX3_draft) (maxL := 6) (ret := (some .boolean)) (by decide) rfl ?_
  intro p e s m args below meth c s₁ B hml hv
  obtain ⟨rfl, hsz, hP, hK, hD0⟩ := hv
  have hx := B.exec
  have hb := B.bytes
  have hr := B.returns
  have hts : ∀ w ∈ kG, w.before _ s = true := fun w h => atoms_spec (ws := kT yX3_draft cX3_draft 6 (some .boolean)) B.pre w (List.mem_cons_of_mem _ h)
  have hown : s.vm.findClass RX3 = some m.cls := findClass_of_methodNamed B.named
  have hlocks := B.notSynchronized
  subst hsz
  have hD := hD0.self (sz := s.heap.size)
  generalize hAe : va_A (wT aT ad af cA dr tb) s.heap.size = A at hD ⊢
  have hA : ∀ q : Nat, s.heap.size ≤ q → A q := fun q h => by rw [← hAe]; exact Or.inr h
  have hS : va_S A s.heap s.heap [] := va_S.rf
  have hl := lv_entry ([.ref aT, .int p1, .int p2, .int p3, .int p4]) (n := 6) (Nat.le_of_ble_eq_true rfl)
  rw [lg_entry_eq]
  generalize (lg_sl ([.ref aT, .int p1, .int p2, .int p3, .int p4]) ++ List.replicate (6 - (lg_sl ([.ref aT, .int p1, .int p2, .int p3, .int p4])).length) Slot.unset).toArray = ls at hl ⊢
  have hl : lv_has ls 6 [(0, .ref aT), (1, .int p1), (2, .int p2), (3, .int p3), (4, .int p4)] := hl
  refine lv_iload_n hx hb dX3_draft_0 rfl (lv_at hl 1 rfl) ?_
  refine lv_iload_n hx hb dX3_draft_1 rfl (lv_at hl 2 rfl) ?_
  refine lv_iload_n hx hb dX3_draft_2 rfl (lv_at hl 3 rfl) ?_
  refine k_rdSi (As := [.int p1, .int p2, .int p3]) (rest := []) ⟨hx, hb, hml, hown, hts⟩ k_self (c_X3_placeOf l p1 p2 p3) kv_X3_16 rfl rfl ⟨Nat.le_of_ble_eq_true rfl, Nat.le_of_ble_eq_true rfl⟩ rfl hl.1 rfl (Nat.le_of_ble_eq_true rfl) dX3_draft_3 ⟨Nat.zero_le _, Nat.zero_le _⟩ ?_
  refine lv_istore (lv' := [(5, .int (spX3_placeOf p1 p2 p3)), (0, .ref aT), (1, .int p1), (2, .int p2), (3, .int p3), (4, .int p4)]) hx hb dX3_draft_6 hl (by decide) rfl (fun ls hl => ?_)
  refine lv_iload hx hb dX3_draft_8 (lv_at hl 0 rfl) ?_
  refine lv_if_lt (tgt := 23) hx hb dX3_draft_10 (by decide) (fun c_10 => ?_) (fun c_10 => ?_)
  · refine lv_iconst (v := 0) hx hb dX3_draft_23 (by decide) ?_
    have hE : spX3_draft dr p1 p2 p3 p4 = ((0 : Int32), dr) := by unfold spX3_draft; rw [if_pos c_10]
    exact W.zret (v := (0 : Int32)) hx hb hr rfl (fun t ht hW => ⟨⟨(0 : Int32), (), rfl, by rw [hE], by rw [hE, ht]; exact hP, va_K.moved hW.alike hK, by rw [hE]; exact hD⟩, hS.F ht⟩) hS.2.2 dX3_draft_24
  · refine lv_iload hx hb dX3_draft_13 (lv_at hl 0 rfl) ?_
    refine lv_aload_n hx hb dX3_draft_15 rfl (lv_at hl 1 rfl) ?_
    refine va_get (D := D) (ci := 3) (v := .ref ad) (C := RX3) (T := TX3) (N := 2) hx hb hts k_inX3 hown hK hP 0 rfl rfl 0 (by decide) (hts _ kw_58) (fun _ h9 => h9) rfl dX3_draft_16 ?_
    refine va_alen (v := (320 : Int32)) hx hb hK hP 1 0 rfl rfl rfl dX3_draft_19 ?_
    refine lv_icmp_lt (tgt := 25) hx hb dX3_draft_20 (by decide) (fun c_20 => ?_) (fun c_20 => ?_)
    · refine lv_aload_n hx hb dX3_draft_25 rfl (lv_at hl 1 rfl) ?_
      refine va_get (D := D) (ci := 3) (v := .ref ad) (C := RX3) (T := TX3) (N := 2) hx hb hts k_inX3 hown hK hP 0 rfl rfl 0 (by decide) (hts _ kw_58) (fun _ h9 => h9) rfl dX3_draft_26 ?_
      refine lv_iload hx hb dX3_draft_29 (lv_at hl 0 rfl) ?_
      refine lv_iload hx hb dX3_draft_31 (lv_at hl 5 rfl) ?_
      refine va_iast hx hb hK hP hD hS 1 0 rfl rfl (k_inl (N := 320) rfl c_10 c_20) dX3_draft_33 (fun H locs hP hD hS => ?_)
      have hP : va_P D vwCl (wT aT ad af cA (upd dr (Int32.toNatClampNeg (spX3_placeOf p1 p2 p3)) p4) tb) H := hP
      have hD : va_D A (wT aT ad af cA (upd dr (Int32.toNatClampNeg (spX3_placeOf p1 p2 p3)) p4) tb) := hD
      refine lv_iconst (v := 1) hx hb dX3_draft_34 (by decide) ?_
      have hE : spX3_draft dr p1 p2 p3 p4 = ((1 : Int32), (upd dr (Int32.toNatClampNeg (spX3_placeOf p1 p2 p3)) p4)) := by unfold spX3_draft; rw [if_neg c_10, if_pos c_20]
      exact W.zret (v := (1 : Int32)) hx hb hr rfl (fun t ht hW => ⟨⟨(1 : Int32), (), rfl, by rw [hE], by rw [hE, ht]; exact hP, va_K.moved hW.alike hK, by rw [hE]; exact hD⟩, hS.F ht⟩) hS.2.2 dX3_draft_35
    · refine lv_iconst (v := 0) hx hb dX3_draft_23 (by decide) ?_
      have hE : spX3_draft dr p1 p2 p3 p4 = ((0 : Int32), dr) := by unfold spX3_draft; rw [if_neg c_10, if_neg c_20]
      exact W.zret (v := (0 : Int32)) hx hb hr rfl (fun t ht hW => ⟨⟨(0 : Int32), (), rfl, by rw [hE], by rw [hE, ht]; exact hP, va_K.moved hW.alike hK, by rw [hE]; exact hD⟩, hS.F ht⟩) hS.2.2 dX3_draft_24
def lpX3_useDrafts_2 : Nat → (Nat → Int32) → (Nat → Int32) → Int32 → ((Nat → Int32))
  | 0, _, tb1, _ => tb1
  | n + 1, dr, tb1, x1 => (if (320 : Int32) ≤ x1 then tb1 else (lpX3_useDrafts_2 n dr (upd tb1 (Int32.toNatClampNeg x1) (dr (Int32.toNatClampNeg x1)))  (x1 + (1 : Int32))))
theorem lpX3_useDrafts_2_e (n : Nat) (dr : Nat → Int32) (tb1 : Nat → Int32) (x1 : Int32) : lpX3_useDrafts_2 (n + 1) dr tb1 x1 = (if (320 : Int32) ≤ x1 then tb1 else (lpX3_useDrafts_2 n dr (upd tb1 (Int32.toNatClampNeg x1) (dr (Int32.toNatClampNeg x1)))  (x1 + (1 : Int32)))) := rfl
def spX3_useDrafts (dr : Nat → Int32) (tb : Nat → Int32) : (Nat → Int32) := (lpX3_useDrafts_2 321 dr tb  (0 : Int32))
set_option maxHeartbeats 4000000 in
set_option maxRecDepth 100000 in
theorem c_X3_useDrafts (l : Launch) (D : va_G) (aT ad af : Nat) (cA : ClassId) (dr : Nat → Int32) (tb : Nat → Int32)   : kWv l yX3_useDrafts cX3_useDrafts 2 none { frames := 0, cells := 0, slots := 0, locals := 0 } D [(cA, .int)] [.ref aT] (wT aT ad af cA dr tb) (wT aT ad af cA dr (spX3_useDrafts dr tb)) := by
  intro sz
  refine Met.ofW (cc := cX3_useDrafts) (maxL := 2) (ret := none) (by decide) rfl ?_
  intro p e s m args below meth c s₁ B hml hv
  obtain ⟨rfl, hsz, hP, hK, hD0⟩ := hv
  have hx := B.exec
  have hb := B.bytes
  have hr := B.returns
  have hts : ∀ w ∈ kG, w.before _ s = true := fun w h => atoms_spec (ws := kT yX3_useDrafts cX3_useDrafts 2 none) B.pre w (List.mem_cons_of_mem _ h)
  have hown : s.vm.findClass RX3 = some m.cls := findClass_of_methodNamed B.named
  have hlocks := B.notSynchronized
  subst hsz
  have hD := hD0.self (sz := s.heap.size)
  generalize hAe : va_A (wT aT ad af cA dr tb) s.heap.size = A at hD ⊢
  have hA : ∀ q : Nat, s.heap.size ≤ q → A q := fun q h => by rw [← hAe]; exact Or.inr h
  have hS : va_S A s.heap s.heap [] := va_S.rf
  have hl := lv_entry ([.ref aT]) (n := 2) (Nat.le_of_ble_eq_true rfl)
  rw [lg_entry_eq]
  generalize (lg_sl ([.ref aT]) ++ List.replicate (2 - (lg_sl ([.ref aT])).length) Slot.unset).toArray = ls at hl ⊢
  have hl : lv_has ls 2 [(0, .ref aT)] := hl
  have L2 : ∀ (n : Nat) (tb1 : Nat → Int32) (x1 : Int32) (H : Heap) (locs : List Loc) (ls : Array Slot), (∃ k : Nat, x1 = nI k ∧ k ≤ 320 ∧ 320 < k + n) → spX3_useDrafts dr tb = lpX3_useDrafts_2 n dr tb1 x1 → va_P D vwCl (wT aT ad af cA dr tb1) H → va_D A (wT aT ad af cA dr tb1) → va_S A s.heap H locs → lv_has ls 2 [(0, .ref aT), (1, .int x1)] → W p l e (headSpec (kT yX3_useDrafts cX3_useDrafts 2 none) ({ frames := 0, cells := 0, slots := 0, locals := 0 })).room s m ([.ref aT] : List Value).toArray below meth c H locs 0 0 (MQ below (va_Qv (fun (_ : Unit) => True) (kPost D A (wT aT ad af cA dr (spX3_useDrafts dr tb)) [(cA, .int)]) A) ([.ref aT] : List Value).toArray s 0 0 A) (F0 m 2 ls []) := by
    intro n
    induction n with
    | zero =>
      intro tb1 x1 H locs ls hI
      exact absurd hI (by rintro ⟨k, -, h1, h2⟩; omega)
    | succ n ih =>
      intro tb1 x1 H locs ls hI hE hP hD hS hl
      obtain ⟨k, hk, hk1, hk2⟩ := hI
      refine lv_iload_n hx hb dX3_useDrafts_2 rfl (lv_at hl 1 rfl) ?_
      refine lv_aload_n hx hb dX3_useDrafts_3 rfl (lv_at hl 0 rfl) ?_
      refine va_get (D := D) (ci := 3) (v := .ref af) (C := RX3) (T := TX3) (N := 2) hx hb hts k_inX3 hown hK hP 0 rfl rfl 1 (by decide) (hts _ kw_59) (fun _ h9 => h9) rfl dX3_useDrafts_4 ?_
      refine va_alen (v := (320 : Int32)) hx hb hK hP 2 0 rfl rfl rfl dX3_useDrafts_7 ?_
      refine lv_icmp_ge (tgt := 38) hx hb dX3_useDrafts_8 (by decide) (fun c_8 => ?_) (fun c_8 => ?_)
      · have hE : spX3_useDrafts dr tb = tb1 := hE.trans (by rw [lpX3_useDrafts_2_e]; rw [if_pos c_8])
        exact W.vret hx hb hr (fun t ht hW => ⟨⟨(), rfl, trivial, by rw [hE, ht]; exact hP, va_K.moved hW.alike hK, by rw [hE]; exact hD⟩, hS.F ht⟩) hS.2.2 dX3_useDrafts_38
      · refine lv_iload_n hx hb dX3_useDrafts_11 rfl (lv_at hl 1 rfl) ?_
        refine lv_aload_n hx hb dX3_useDrafts_12 rfl (lv_at hl 0 rfl) ?_
        refine va_get (D := D) (ci := 3) (v := .ref ad) (C := RX3) (T := TX3) (N := 2) hx hb hts k_inX3 hown hK hP 0 rfl rfl 0 (by decide) (hts _ kw_58) (fun _ h9 => h9) rfl dX3_useDrafts_13 ?_
        refine va_alen (v := (320 : Int32)) hx hb hK hP 1 0 rfl rfl rfl dX3_useDrafts_16 ?_
        refine lv_icmp_ge (tgt := 38) hx hb dX3_useDrafts_17 (by decide) (fun c_17 => ?_) (fun c_17 => ?_)
        · exact absurd c_17 c_8
        · refine lv_aload_n hx hb dX3_useDrafts_20 rfl (lv_at hl 0 rfl) ?_
          refine va_get (D := D) (ci := 3) (v := .ref af) (C := RX3) (T := TX3) (N := 2) hx hb hts k_inX3 hown hK hP 0 rfl rfl 1 (by decide) (hts _ kw_59) (fun _ h9 => h9) rfl dX3_useDrafts_21 ?_
          refine lv_iload_n hx hb dX3_useDrafts_24 rfl (lv_at hl 1 rfl) ?_
          refine lv_aload_n hx hb dX3_useDrafts_25 rfl (lv_at hl 0 rfl) ?_
          refine va_get (D := D) (ci := 3) (v := .ref ad) (C := RX3) (T := TX3) (N := 2) hx hb hts k_inX3 hown hK hP 0 rfl rfl 0 (by decide) (hts _ kw_58) (fun _ h9 => h9) rfl dX3_useDrafts_26 ?_
          refine lv_iload_n hx hb dX3_useDrafts_29 rfl (lv_at hl 1 rfl) ?_
          refine va_iald hx hb hK hP 1 0 rfl rfl (by rw [hk]; exact vp_in_nI (k_lt (N := 320) rfl hk hk1 (by decide) c_8) (by decide)) dX3_useDrafts_30 ?_
          refine va_iast hx hb hK hP hD hS 2 0 rfl rfl (by rw [hk]; exact vp_in_nI (k_lt (N := 320) rfl hk hk1 (by decide) c_8) (by decide)) dX3_useDrafts_31 (fun H locs hP hD hS => ?_)
          have hP : va_P D vwCl (wT aT ad af cA dr (upd tb1 (Int32.toNatClampNeg x1) (dr (Int32.toNatClampNeg x1)))) H := hP
          have hD : va_D A (wT aT ad af cA dr (upd tb1 (Int32.toNatClampNeg x1) (dr (Int32.toNatClampNeg x1)))) := hD
          refine lv_iinc (v := (x1 + (1 : Int32))) (lv' := [(1, .int (x1 + (1 : Int32))), (0, .ref aT)]) hx hb dX3_useDrafts_32 hl (k := 1) rfl rfl (by decide) rfl (fun ls hl => ?_)
          refine lv_goto (tgt := 2) hx hb dX3_useDrafts_35 (by decide) ?_
          exact ih  (upd tb1 (Int32.toNatClampNeg x1) (dr (Int32.toNatClampNeg x1))) (x1 + (1 : Int32)) _ _ ls (k_step (N := 320) rfl (by decide) hk hk1 hk2 c_8) (hE.trans (by rw [lpX3_useDrafts_2_e]; rw [if_neg c_8])) hP hD hS (lv_sub hl [1, 0] rfl)
  refine lv_iconst (v := 0) hx hb dX3_useDrafts_0 (by decide) ?_
  refine lv_istore_n (lv' := [(1, .int (0 : Int32)), (0, .ref aT)]) hx hb dX3_useDrafts_1 rfl hl (by decide) rfl (fun ls hl => ?_)
  exact L2 321 tb (0 : Int32) _ _ ls (⟨0, rfl, by decide, by decide⟩) (by unfold spX3_useDrafts; rfl) hP hD hS (lv_sub hl [1, 0] rfl)
def spX3_priceOf (tb : Nat → Int32) (p1 : Int32) (p2 : Int32) (p3 : Int32) : Int32 := (if (1 : Int32) ≤ p2 then (if (spX3_placeOf p1 ((p2 - (1 : Int32)) / (50 : Int32)) p3) < 0 then (0 : Int32) else (if (320 : Int32) ≤ (spX3_placeOf p1 ((p2 - (1 : Int32)) / (50 : Int32)) p3) then (0 : Int32) else (tb (Int32.toNatClampNeg (spX3_placeOf p1 ((p2 - (1 : Int32)) / (50 : Int32)) p3))))) else (0 : Int32))
set_option maxHeartbeats 4000000 in
set_option maxRecDepth 100000 in
theorem c_X3_priceOf (l : Launch) (D : va_G) (aT ad af : Nat) (cA : ClassId) (dr : Nat → Int32) (tb : Nat → Int32) (p1 : Int32) (p2 : Int32) (p3 : Int32)  : kRi l yX3_priceOf cX3_priceOf 5 (some .int) { frames := 1, cells := 0, slots := 0, locals := 23 } [.ref aT, .int p1, .int p2, .int p3] (kB D (wT aT ad af cA dr tb) [(cA, .int)]) (spX3_priceOf tb p1 p2 p3) := by
  refine Met.ofW (cc := cX3_priceOf) (maxL := 5) (ret := (some .int)) (by decide) rfl ?_
  intro p e s m args below meth c s₁ B hml hv
  obtain ⟨rfl, hP, hK⟩ := hv
  have hx := B.exec
  have hb := B.bytes
  have hr := B.returns
  have hts : ∀ w ∈ kG, w.before _ s = true := fun w h => atoms_spec (ws := kT yX3_priceOf cX3_priceOf 5 (some .int)) B.pre w (List.mem_cons_of_mem _ h)
  have hown : s.vm.findClass RX3 = some m.cls := findClass_of_methodNamed B.named
  have hlocks := B.notSynchronized
  have hl := lv_entry ([.ref aT, .int p1, .int p2, .int p3]) (n := 5) (Nat.le_of_ble_eq_true rfl)
  rw [lg_entry_eq]
  generalize (lg_sl ([.ref aT, .int p1, .int p2, .int p3]) ++ List.replicate (5 - (lg_sl ([.ref aT, .int p1, .int p2, .int p3])).length) Slot.unset).toArray = ls at hl ⊢
  have hl : lv_has ls 5 [(0, .ref aT), (1, .int p1), (2, .int p2), (3, .int p3)] := hl
  refine lv_iload_n hx hb dX3_priceOf_0 rfl (lv_at hl 2 rfl) ?_
  refine lv_iconst (v := 1) hx hb dX3_priceOf_1 (by decide) ?_
  refine lv_icmp_ge (tgt := 7) hx hb dX3_priceOf_2 (by decide) (fun c_2 => ?_) (fun c_2 => ?_)
  · refine lv_iload_n hx hb dX3_priceOf_7 rfl (lv_at hl 1 rfl) ?_
    refine lv_iload_n hx hb dX3_priceOf_8 rfl (lv_at hl 2 rfl) ?_
    refine lv_iconst (v := 1) hx hb dX3_priceOf_9 (by decide) ?_
    refine lv_isub hx hb dX3_priceOf_10 ?_
    refine lv_bipush (v := 50) hx hb dX3_priceOf_11 (by decide) ?_
    refine lv_idiv hx hb dX3_priceOf_13 (by decide) ?_
    refine lv_iload_n hx hb dX3_priceOf_14 rfl (lv_at hl 3 rfl) ?_
    refine k_rdSi (As := [.int p1, .int ((p2 - (1 : Int32)) / (50 : Int32)), .int p3]) (rest := []) ⟨hx, hb, hml, hown, hts⟩ k_self (c_X3_placeOf l p1 ((p2 - (1 : Int32)) / (50 : Int32)) p3) kv_X3_16 rfl rfl ⟨Nat.le_of_ble_eq_true rfl, Nat.le_of_ble_eq_true rfl⟩ rfl hl.1 rfl (Nat.le_of_ble_eq_true rfl) dX3_priceOf_15 ⟨Nat.zero_le _, Nat.zero_le _⟩ ?_
    refine lv_istore (lv' := [(4, .int (spX3_placeOf p1 ((p2 - (1 : Int32)) / (50 : Int32)) p3)), (0, .ref aT), (1, .int p1), (2, .int p2), (3, .int p3)]) hx hb dX3_priceOf_18 hl (by decide) rfl (fun ls hl => ?_)
    refine lv_iload hx hb dX3_priceOf_20 (lv_at hl 0 rfl) ?_
    refine lv_if_lt (tgt := 45) hx hb dX3_priceOf_22 (by decide) (fun c_22 => ?_) (fun c_22 => ?_)
    · refine lv_iconst (v := 0) hx hb dX3_priceOf_45 (by decide) ?_
      exact W.iret (v := (0 : Int32)) hx hb hr (fun t ht hW => ⟨(0 : Int32), rfl, (show _ = _ from (by unfold spX3_priceOf; rw [if_pos c_2, if_pos c_22] : spX3_priceOf tb p1 p2 p3 = (0 : Int32)).symm), ht⟩) (fun q h => by cases h) dX3_priceOf_46
    · refine lv_iload hx hb dX3_priceOf_25 (lv_at hl 0 rfl) ?_
      refine lv_aload_n hx hb dX3_priceOf_27 rfl (lv_at hl 1 rfl) ?_
      refine va_get (D := D) (ci := 3) (v := .ref af) (C := RX3) (T := TX3) (N := 2) hx hb hts k_inX3 hown hK hP 0 rfl rfl 1 (by decide) (hts _ kw_59) (fun _ h9 => h9) rfl dX3_priceOf_28 ?_
      refine va_alen (v := (320 : Int32)) hx hb hK hP 2 0 rfl rfl rfl dX3_priceOf_31 ?_
      refine lv_icmp_ge (tgt := 45) hx hb dX3_priceOf_32 (by decide) (fun c_32 => ?_) (fun c_32 => ?_)
      · refine lv_iconst (v := 0) hx hb dX3_priceOf_45 (by decide) ?_
        exact W.iret (v := (0 : Int32)) hx hb hr (fun t ht hW => ⟨(0 : Int32), rfl, (show _ = _ from (by unfold spX3_priceOf; rw [if_pos c_2, if_neg c_22, if_pos c_32] : spX3_priceOf tb p1 p2 p3 = (0 : Int32)).symm), ht⟩) (fun q h => by cases h) dX3_priceOf_46
      · refine lv_aload_n hx hb dX3_priceOf_35 rfl (lv_at hl 1 rfl) ?_
        refine va_get (D := D) (ci := 3) (v := .ref af) (C := RX3) (T := TX3) (N := 2) hx hb hts k_inX3 hown hK hP 0 rfl rfl 1 (by decide) (hts _ kw_59) (fun _ h9 => h9) rfl dX3_priceOf_36 ?_
        refine lv_iload hx hb dX3_priceOf_39 (lv_at hl 0 rfl) ?_
        refine va_iald hx hb hK hP 2 0 rfl rfl (k_inr (N := 320) rfl c_22 c_32) dX3_priceOf_41 ?_
        refine lv_goto (tgt := 46) hx hb dX3_priceOf_42 (by decide) ?_
        exact W.iret (v := (tb (Int32.toNatClampNeg (spX3_placeOf p1 ((p2 - (1 : Int32)) / (50 : Int32)) p3)))) hx hb hr (fun t ht hW => ⟨(tb (Int32.toNatClampNeg (spX3_placeOf p1 ((p2 - (1 : Int32)) / (50 : Int32)) p3))), rfl, (show _ = _ from (by unfold spX3_priceOf; rw [if_pos c_2, if_neg c_22, if_neg c_32] : spX3_priceOf tb p1 p2 p3 = (tb (Int32.toNatClampNeg (spX3_placeOf p1 ((p2 - (1 : Int32)) / (50 : Int32)) p3)))).symm), ht⟩) (fun q h => by cases h) dX3_priceOf_46
  · refine lv_iconst (v := 0) hx hb dX3_priceOf_5 (by decide) ?_
    exact W.iret (v := (0 : Int32)) hx hb hr (fun t ht hW => ⟨(0 : Int32), rfl, (show _ = _ from (by unfold spX3_priceOf; rw [if_neg c_2] : spX3_priceOf tb p1 p2 p3 = (0 : Int32)).symm), ht⟩) (fun q h => by cases h) dX3_priceOf_6
