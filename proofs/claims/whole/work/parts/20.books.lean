def spX0_at (bw : Nat → Int32) (p1 : Int32) : Int32 := (if p1 < 0 then (0 : Int32) else (if (191 : Int32) ≤ p1 then (0 : Int32) else (bw (Int32.toNatClampNeg p1))))
set_option maxHeartbeats 4000000 in
set_option maxRecDepth 100000 in
theorem c_X0_at (l : Launch) (D : va_G) (aB ab : Nat) (cA : ClassId) (bw : Nat → Int32) (p1 : Int32)  : kRi l yX0_at cX0_at 2 (some .int) { frames := 0, cells := 0, slots := 0, locals := 0 } [.ref aB, .int p1] (kB D (wB aB ab cA bw) [(cA, .int)]) (spX0_at bw p1) := by
  refine Met.ofW (cc := cX0_at) (maxL := 2) (ret := (some .int)) (by decide) rfl ?_
  intro p e s m args below meth c s₁ B hml hv
  obtain ⟨rfl, hP, hK⟩ := hv
  have hx := B.exec
  have hb := B.bytes
  have hr := B.returns
  have hts : ∀ w ∈ kG, w.before _ s = true := fun w h => atoms_spec (ws := kT yX0_at cX0_at 2 (some .int)) B.pre w (List.mem_cons_of_mem _ h)
  have hown : s.vm.findClass RX0 = some m.cls := findClass_of_methodNamed B.named
  have hlocks := B.notSynchronized
  have hl := lv_entry ([.ref aB, .int p1]) (n := 2) (Nat.le_of_ble_eq_true rfl)
  rw [lg_entry_eq]
  generalize (lg_sl ([.ref aB, .int p1]) ++ List.replicate (2 - (lg_sl ([.ref aB, .int p1])).length) Slot.unset).toArray = ls at hl ⊢
  have hl : lv_has ls 2 [(0, .ref aB), (1, .int p1)] := hl
  refine lv_iload_n hx hb dX0_at_0 rfl (lv_at hl 1 rfl) ?_
  refine lv_if_lt (tgt := 22) hx hb dX0_at_1 (by decide) (fun c_1 => ?_) (fun c_1 => ?_)
  · refine lv_iconst (v := 0) hx hb dX0_at_22 (by decide) ?_
    exact W.iret (v := (0 : Int32)) hx hb hr (fun t ht hW => ⟨(0 : Int32), rfl, (show _ = _ from (by unfold spX0_at; rw [if_pos c_1] : spX0_at bw p1 = (0 : Int32)).symm), ht⟩) (fun q h => by cases h) dX0_at_23
  · refine lv_iload_n hx hb dX0_at_4 rfl (lv_at hl 1 rfl) ?_
    refine lv_aload_n hx hb dX0_at_5 rfl (lv_at hl 0 rfl) ?_
    refine va_get (D := D) (ci := 0) (v := .ref ab) (C := RX0) (T := TX0) (N := 1) hx hb hts k_inX0 hown hK hP 0 rfl rfl 0 (by decide) (hts _ kw_107) (fun _ h9 => h9) rfl dX0_at_6 ?_
    refine va_alen (v := (191 : Int32)) hx hb hK hP 1 0 rfl rfl rfl dX0_at_9 ?_
    refine lv_icmp_ge (tgt := 22) hx hb dX0_at_10 (by decide) (fun c_10 => ?_) (fun c_10 => ?_)
    · refine lv_iconst (v := 0) hx hb dX0_at_22 (by decide) ?_
      exact W.iret (v := (0 : Int32)) hx hb hr (fun t ht hW => ⟨(0 : Int32), rfl, (show _ = _ from (by unfold spX0_at; rw [if_neg c_1, if_pos c_10] : spX0_at bw p1 = (0 : Int32)).symm), ht⟩) (fun q h => by cases h) dX0_at_23
    · refine lv_aload_n hx hb dX0_at_13 rfl (lv_at hl 0 rfl) ?_
      refine va_get (D := D) (ci := 0) (v := .ref ab) (C := RX0) (T := TX0) (N := 1) hx hb hts k_inX0 hown hK hP 0 rfl rfl 0 (by decide) (hts _ kw_107) (fun _ h9 => h9) rfl dX0_at_14 ?_
      refine lv_iload_n hx hb dX0_at_17 rfl (lv_at hl 1 rfl) ?_
      refine va_iald hx hb hK hP 1 0 rfl rfl (k_inr (N := 191) rfl c_1 c_10) dX0_at_18 ?_
      refine lv_goto (tgt := 23) hx hb dX0_at_19 (by decide) ?_
      exact W.iret (v := (bw (Int32.toNatClampNeg p1))) hx hb hr (fun t ht hW => ⟨(bw (Int32.toNatClampNeg p1)), rfl, (show _ = _ from (by unfold spX0_at; rw [if_neg c_1, if_neg c_10] : spX0_at bw p1 = (bw (Int32.toNatClampNeg p1))).symm), ht⟩) (fun q h => by cases h) dX0_at_23
def spX0_put (bw : Nat → Int32) (p1 : Int32) (p2 : Int32) : (Nat → Int32) := (if p1 < 0 then bw else (if (191 : Int32) ≤ p1 then bw else (upd bw (Int32.toNatClampNeg p1) p2)))
set_option maxHeartbeats 4000000 in
set_option maxRecDepth 100000 in
theorem c_X0_put (l : Launch) (D : va_G) (aB ab : Nat) (cA : ClassId) (bw : Nat → Int32) (p1 : Int32) (p2 : Int32)  : kWv l yX0_put cX0_put 3 none { frames := 0, cells := 0, slots := 0, locals := 0 } D [(cA, .int)] [.ref aB, .int p1, .int p2] (wB aB ab cA bw) (wB aB ab cA (spX0_put bw p1 p2)) := by
  intro sz
  refine Met.ofW (cc := cX0_put) (maxL := 3) (ret := none) (by decide) rfl ?_
  intro p e s m args below meth c s₁ B hml hv
  obtain ⟨rfl, hsz, hP, hK, hD0⟩ := hv
  have hx := B.exec
  have hb := B.bytes
  have hr := B.returns
  have hts : ∀ w ∈ kG, w.before _ s = true := fun w h => atoms_spec (ws := kT yX0_put cX0_put 3 none) B.pre w (List.mem_cons_of_mem _ h)
  have hown : s.vm.findClass RX0 = some m.cls := findClass_of_methodNamed B.named
  have hlocks := B.notSynchronized
  subst hsz
  have hD := hD0.self (sz := s.heap.size)
  generalize hAe : va_A (wB aB ab cA bw) s.heap.size = A at hD ⊢
  have hA : ∀ q : Nat, s.heap.size ≤ q → A q := fun q h => by rw [← hAe]; exact Or.inr h
  have hS : va_S A s.heap s.heap [] := va_S.rf
  have hl := lv_entry ([.ref aB, .int p1, .int p2]) (n := 3) (Nat.le_of_ble_eq_true rfl)
  rw [lg_entry_eq]
  generalize (lg_sl ([.ref aB, .int p1, .int p2]) ++ List.replicate (3 - (lg_sl ([.ref aB, .int p1, .int p2])).length) Slot.unset).toArray = ls at hl ⊢
  have hl : lv_has ls 3 [(0, .ref aB), (1, .int p1), (2, .int p2)] := hl
  refine lv_iload_n hx hb dX0_put_0 rfl (lv_at hl 1 rfl) ?_
  refine lv_if_lt (tgt := 20) hx hb dX0_put_1 (by decide) (fun c_1 => ?_) (fun c_1 => ?_)
  · have hE : spX0_put bw p1 p2 = bw := by unfold spX0_put; rw [if_pos c_1]
    exact W.vret hx hb hr (fun t ht hW => ⟨⟨(), rfl, trivial, by rw [hE, ht]; exact hP, va_K.moved hW.alike hK, by rw [hE]; exact hD⟩, hS.F ht⟩) hS.2.2 dX0_put_20
  · refine lv_iload_n hx hb dX0_put_4 rfl (lv_at hl 1 rfl) ?_
    refine lv_aload_n hx hb dX0_put_5 rfl (lv_at hl 0 rfl) ?_
    refine va_get (D := D) (ci := 0) (v := .ref ab) (C := RX0) (T := TX0) (N := 1) hx hb hts k_inX0 hown hK hP 0 rfl rfl 0 (by decide) (hts _ kw_107) (fun _ h9 => h9) rfl dX0_put_6 ?_
    refine va_alen (v := (191 : Int32)) hx hb hK hP 1 0 rfl rfl rfl dX0_put_9 ?_
    refine lv_icmp_ge (tgt := 20) hx hb dX0_put_10 (by decide) (fun c_10 => ?_) (fun c_10 => ?_)
    · have hE : spX0_put bw p1 p2 = bw := by unfold spX0_put; rw [if_neg c_1, if_pos c_10]
      exact W.vret hx hb hr (fun t ht hW => ⟨⟨(), rfl, trivial, by rw [hE, ht]; exact hP, va_K.moved hW.alike hK, by rw [hE]; exact hD⟩, hS.F ht⟩) hS.2.2 dX0_put_20
    · refine lv_aload_n hx hb dX0_put_13 rfl (lv_at hl 0 rfl) ?_
      refine va_get (D := D) (ci := 0) (v := .ref ab) (C := RX0) (T := TX0) (N := 1) hx hb hts k_inX0 hown hK hP 0 rfl rfl 0 (by decide) (hts _ kw_107) (fun _ h9 => h9) rfl dX0_put_14 ?_
      refine lv_iload_n hx hb dX0_put_17 rfl (lv_at hl 1 rfl) ?_
      refine lv_iload_n hx hb dX0_put_18 rfl (lv_at hl 2 rfl) ?_
      refine va_iast hx hb hK hP hD hS 1 0 rfl rfl (k_inr (N := 191) rfl c_1 c_10) dX0_put_19 (fun H locs hP hD hS => ?_)
      have hP : va_P D vwCl (wB aB ab cA (upd bw (Int32.toNatClampNeg p1) p2)) H := hP
      have hD : va_D A (wB aB ab cA (upd bw (Int32.toNatClampNeg p1) p2)) := hD
      have hE : spX0_put bw p1 p2 = (upd bw (Int32.toNatClampNeg p1) p2) := by unfold spX0_put; rw [if_neg c_1, if_neg c_10]
      exact W.vret hx hb hr (fun t ht hW => ⟨⟨(), rfl, trivial, by rw [hE, ht]; exact hP, va_K.moved hW.alike hK, by rw [hE]; exact hD⟩, hS.F ht⟩) hS.2.2 dX0_put_20
def spX0_sumAt (bw : Nat → Int32) (p1 : Int32) : Int64 := (((Int32.toInt64 (spX0_at bw (p1 + (1 : Int32)))) <<< (Int32.toInt64 (32 : Int32) &&& 63)) ||| ((Int32.toInt64 (spX0_at bw p1)) &&& (4294967295 : Int64)))
set_option maxHeartbeats 4000000 in
set_option maxRecDepth 100000 in
theorem c_X0_sumAt (l : Launch) (D : va_G) (aB ab : Nat) (cA : ClassId) (bw : Nat → Int32) (p1 : Int32)  : kRl l yX0_sumAt cX0_sumAt 2 (some .long) { frames := 1, cells := 0, slots := 0, locals := 21 } [.ref aB, .int p1] (kB D (wB aB ab cA bw) [(cA, .int)]) (spX0_sumAt bw p1) := by
  refine Met.ofW (cc := cX0_sumAt) (maxL := 2) (ret := (some .long)) (by decide) rfl ?_
  intro p e s m args below meth c s₁ B hml hv
  obtain ⟨rfl, hP, hK⟩ := hv
  have hx := B.exec
  have hb := B.bytes
  have hr := B.returns
  have hts : ∀ w ∈ kG, w.before _ s = true := fun w h => atoms_spec (ws := kT yX0_sumAt cX0_sumAt 2 (some .long)) B.pre w (List.mem_cons_of_mem _ h)
  have hown : s.vm.findClass RX0 = some m.cls := findClass_of_methodNamed B.named
  have hlocks := B.notSynchronized
  have hl := lv_entry ([.ref aB, .int p1]) (n := 2) (Nat.le_of_ble_eq_true rfl)
  rw [lg_entry_eq]
  generalize (lg_sl ([.ref aB, .int p1]) ++ List.replicate (2 - (lg_sl ([.ref aB, .int p1])).length) Slot.unset).toArray = ls at hl ⊢
  have hl : lv_has ls 2 [(0, .ref aB), (1, .int p1)] := hl
  refine lv_aload_n hx hb dX0_sumAt_0 rfl (lv_at hl 0 rfl) ?_
  refine lv_iload_n hx hb dX0_sumAt_1 rfl (lv_at hl 1 rfl) ?_
  refine lv_iconst (v := 1) hx hb dX0_sumAt_2 (by decide) ?_
  refine lv_iadd hx hb dX0_sumAt_3 ?_
  refine k_rdVi (As := [.int (p1 + (1 : Int32))]) (rest := []) (ci := 0) (q0 := 0) ⟨hx, hb, hml, hown, hts⟩ k_self (c_X0_at l D aB ab cA bw (p1 + (1 : Int32))) kv_X0_17 (hP.sub [0, 1] rfl) (hK.sub [0] rfl) rfl rfl rfl rfl ⟨Nat.le_of_ble_eq_true rfl, Nat.le_of_ble_eq_true rfl⟩ rfl hl.1 rfl (Nat.le_of_ble_eq_true rfl) dX0_sumAt_4 ⟨Nat.zero_le _, Nat.zero_le _⟩ ?_
  refine lv_i2l (v := (Int32.toInt64 (spX0_at bw (p1 + (1 : Int32))))) hx hb dX0_sumAt_7 rfl ?_
  refine lv_bipush (v := 32) hx hb dX0_sumAt_8 (by decide) ?_
  refine lv_lshl (v := ((Int32.toInt64 (spX0_at bw (p1 + (1 : Int32)))) <<< (Int32.toInt64 (32 : Int32) &&& 63))) hx hb dX0_sumAt_10 rfl ?_
  refine lv_aload_n hx hb dX0_sumAt_11 rfl (lv_at hl 0 rfl) ?_
  refine lv_iload_n hx hb dX0_sumAt_12 rfl (lv_at hl 1 rfl) ?_
  refine k_rdVi (As := [.int p1]) (rest := [.long ((Int32.toInt64 (spX0_at bw (p1 + (1 : Int32)))) <<< (Int32.toInt64 (32 : Int32) &&& 63))]) (ci := 0) (q0 := 0) ⟨hx, hb, hml, hown, hts⟩ k_self (c_X0_at l D aB ab cA bw p1) kv_X0_17 (hP.sub [0, 1] rfl) (hK.sub [0] rfl) rfl rfl rfl rfl ⟨Nat.le_of_ble_eq_true rfl, Nat.le_of_ble_eq_true rfl⟩ rfl hl.1 rfl (Nat.le_of_ble_eq_true rfl) dX0_sumAt_13 ⟨Nat.zero_le _, Nat.zero_le _⟩ ?_
  refine lv_i2l (v := (Int32.toInt64 (spX0_at bw p1))) hx hb dX0_sumAt_16 rfl ?_
  refine lv_ldc2 (v := 4294967295) hx hb hown (hts _ kw_246) dX0_sumAt_17 ?_
  refine lv_land hx hb dX0_sumAt_20 ?_
  refine lv_lor hx hb dX0_sumAt_21 ?_
  exact W.lret (v := (((Int32.toInt64 (spX0_at bw (p1 + (1 : Int32)))) <<< (Int32.toInt64 (32 : Int32) &&& 63)) ||| ((Int32.toInt64 (spX0_at bw p1)) &&& (4294967295 : Int64)))) hx hb hr (fun t ht hW => ⟨(((Int32.toInt64 (spX0_at bw (p1 + (1 : Int32)))) <<< (Int32.toInt64 (32 : Int32) &&& 63)) ||| ((Int32.toInt64 (spX0_at bw p1)) &&& (4294967295 : Int64))), rfl, (show _ = _ from (by unfold spX0_sumAt; rfl : spX0_sumAt bw p1 = (((Int32.toInt64 (spX0_at bw (p1 + (1 : Int32)))) <<< (Int32.toInt64 (32 : Int32) &&& 63)) ||| ((Int32.toInt64 (spX0_at bw p1)) &&& (4294967295 : Int64)))).symm), ht⟩) (fun q h => by cases h) dX0_sumAt_22
def spX0_departmentAt (p1 : Int32) : Int32 := ((15 : Int32) + (p1 * (3 : Int32)))
set_option maxHeartbeats 4000000 in
set_option maxRecDepth 100000 in
theorem c_X0_departmentAt (l : Launch) (p1 : Int32) : kRi l yX0_departmentAt cX0_departmentAt 1 (some .int) { frames := 0, cells := 0, slots := 0, locals := 0 } [.int p1] (fun _ => True) (spX0_departmentAt p1) := by
  refine Met.ofW (cc := cX0_departmentAt) (maxL := 1) (ret := (some .int)) (by decide) rfl ?_
  intro p e s m args below meth c s₁ B hml hv
  obtain ⟨rfl, -⟩ := hv
  have hx := B.exec
  have hb := B.bytes
  have hr := B.returns
  have hts : ∀ w ∈ kG, w.before _ s = true := fun w h => atoms_spec (ws := kT yX0_departmentAt cX0_departmentAt 1 (some .int)) B.pre w (List.mem_cons_of_mem _ h)
  have hown : s.vm.findClass RX0 = some m.cls := findClass_of_methodNamed B.named
  have hlocks := B.notSynchronized
  have hl := lv_entry ([.int p1]) (n := 1) (Nat.le_of_ble_eq_true rfl)
  rw [lg_entry_eq]
  generalize (lg_sl ([.int p1]) ++ List.replicate (1 - (lg_sl ([.int p1])).length) Slot.unset).toArray = ls at hl ⊢
  have hl : lv_has ls 1 [(0, .int p1)] := hl
  refine lv_bipush (v := 15) hx hb dX0_departmentAt_0 (by decide) ?_
  refine lv_iload_n hx hb dX0_departmentAt_2 rfl (lv_at hl 0 rfl) ?_
  refine lv_iconst (v := 3) hx hb dX0_departmentAt_3 (by decide) ?_
  refine lv_imul hx hb dX0_departmentAt_4 ?_
  refine lv_iadd hx hb dX0_departmentAt_5 ?_
  exact W.iret (v := ((15 : Int32) + (p1 * (3 : Int32)))) hx hb hr (fun t ht hW => ⟨((15 : Int32) + (p1 * (3 : Int32))), rfl, (show _ = _ from (by unfold spX0_departmentAt; rfl : spX0_departmentAt p1 = ((15 : Int32) + (p1 * (3 : Int32)))).symm), ht⟩) (fun q h => by cases h) dX0_departmentAt_6
def spX0_placeOfDay (p1 : Int32) : Int32 := ((63 : Int32) + ((p1 - p1 / (32 : Int32) * (32 : Int32)) * (4 : Int32)))
set_option maxHeartbeats 4000000 in
set_option maxRecDepth 100000 in
theorem c_X0_placeOfDay (l : Launch) (p1 : Int32) : kRi l yX0_placeOfDay cX0_placeOfDay 1 (some .int) { frames := 0, cells := 0, slots := 0, locals := 0 } [.int p1] (fun _ => True) (spX0_placeOfDay p1) := by
  refine Met.ofW (cc := cX0_placeOfDay) (maxL := 1) (ret := (some .int)) (by decide) rfl ?_
  intro p e s m args below meth c s₁ B hml hv
  obtain ⟨rfl, -⟩ := hv
  have hx := B.exec
  have hb := B.bytes
  have hr := B.returns
  have hts : ∀ w ∈ kG, w.before _ s = true := fun w h => atoms_spec (ws := kT yX0_placeOfDay cX0_placeOfDay 1 (some .int)) B.pre w (List.mem_cons_of_mem _ h)
  have hown : s.vm.findClass RX0 = some m.cls := findClass_of_methodNamed B.named
  have hlocks := B.notSynchronized
  have hl := lv_entry ([.int p1]) (n := 1) (Nat.le_of_ble_eq_true rfl)
  rw [lg_entry_eq]
  generalize (lg_sl ([.int p1]) ++ List.replicate (1 - (lg_sl ([.int p1])).length) Slot.unset).toArray = ls at hl ⊢
  have hl : lv_has ls 1 [(0, .int p1)] := hl
  refine lv_bipush (v := 63) hx hb dX0_placeOfDay_0 (by decide) ?_
  refine lv_iload_n hx hb dX0_placeOfDay_2 rfl (lv_at hl 0 rfl) ?_
  refine lv_bipush (v := 32) hx hb dX0_placeOfDay_3 (by decide) ?_
  refine lv_irem hx hb dX0_placeOfDay_5 (by decide) ?_
  refine lv_iconst (v := 4) hx hb dX0_placeOfDay_6 (by decide) ?_
  refine lv_imul hx hb dX0_placeOfDay_7 ?_
  refine lv_iadd hx hb dX0_placeOfDay_8 ?_
  exact W.iret (v := ((63 : Int32) + ((p1 - p1 / (32 : Int32) * (32 : Int32)) * (4 : Int32)))) hx hb hr (fun t ht hW => ⟨((63 : Int32) + ((p1 - p1 / (32 : Int32) * (32 : Int32)) * (4 : Int32))), rfl, (show _ = _ from (by unfold spX0_placeOfDay; rfl : spX0_placeOfDay p1 = ((63 : Int32) + ((p1 - p1 / (32 : Int32) * (32 : Int32)) * (4 : Int32)))).symm), ht⟩) (fun q h => by cases h) dX0_placeOfDay_9
def spX0_piecesOf (bw : Nat → Int32) (p1 : Int32) : Int32 := (spX0_at bw (spX0_departmentAt p1))
set_option maxHeartbeats 4000000 in
set_option maxRecDepth 100000 in
theorem c_X0_piecesOf (l : Launch) (D : va_G) (aB ab : Nat) (cA : ClassId) (bw : Nat → Int32) (p1 : Int32)  : kRi l yX0_piecesOf cX0_piecesOf 2 (some .int) { frames := 1, cells := 0, slots := 0, locals := 21 } [.ref aB, .int p1] (kB D (wB aB ab cA bw) [(cA, .int)]) (spX0_piecesOf bw p1) := by
  refine Met.ofW (cc := cX0_piecesOf) (maxL := 2) (ret := (some .int)) (by decide) rfl ?_
  intro p e s m args below meth c s₁ B hml hv
  obtain ⟨rfl, hP, hK⟩ := hv
  have hx := B.exec
  have hb := B.bytes
  have hr := B.returns
  have hts : ∀ w ∈ kG, w.before _ s = true := fun w h => atoms_spec (ws := kT yX0_piecesOf cX0_piecesOf 2 (some .int)) B.pre w (List.mem_cons_of_mem _ h)
  have hown : s.vm.findClass RX0 = some m.cls := findClass_of_methodNamed B.named
  have hlocks := B.notSynchronized
  have hl := lv_entry ([.ref aB, .int p1]) (n := 2) (Nat.le_of_ble_eq_true rfl)
  rw [lg_entry_eq]
  generalize (lg_sl ([.ref aB, .int p1]) ++ List.replicate (2 - (lg_sl ([.ref aB, .int p1])).length) Slot.unset).toArray = ls at hl ⊢
  have hl : lv_has ls 2 [(0, .ref aB), (1, .int p1)] := hl
  refine lv_aload_n hx hb dX0_piecesOf_0 rfl (lv_at hl 0 rfl) ?_
  refine lv_iload_n hx hb dX0_piecesOf_1 rfl (lv_at hl 1 rfl) ?_
  refine k_rdSi (As := [.int p1]) (rest := [.ref aB]) ⟨hx, hb, hml, hown, hts⟩ k_self (c_X0_departmentAt l p1) kv_X0_23 rfl rfl ⟨Nat.le_of_ble_eq_true rfl, Nat.le_of_ble_eq_true rfl⟩ rfl hl.1 rfl (Nat.le_of_ble_eq_true rfl) dX0_piecesOf_2 ⟨Nat.zero_le _, Nat.zero_le _⟩ ?_
  refine k_rdVi (As := [.int (spX0_departmentAt p1)]) (rest := []) (ci := 0) (q0 := 0) ⟨hx, hb, hml, hown, hts⟩ k_self (c_X0_at l D aB ab cA bw (spX0_departmentAt p1)) kv_X0_17 (hP.sub [0, 1] rfl) (hK.sub [0] rfl) rfl rfl rfl rfl ⟨Nat.le_of_ble_eq_true rfl, Nat.le_of_ble_eq_true rfl⟩ rfl hl.1 rfl (Nat.le_of_ble_eq_true rfl) dX0_piecesOf_5 ⟨Nat.zero_le _, Nat.zero_le _⟩ ?_
  exact W.iret (v := (spX0_at bw (spX0_departmentAt p1))) hx hb hr (fun t ht hW => ⟨(spX0_at bw (spX0_departmentAt p1)), rfl, (show _ = _ from (by unfold spX0_piecesOf; rfl : spX0_piecesOf bw p1 = (spX0_at bw (spX0_departmentAt p1))).symm), ht⟩) (fun q h => by cases h) dX0_piecesOf_8
def spX0_centsOf (bw : Nat → Int32) (p1 : Int32) : Int64 := (spX0_sumAt bw ((spX0_departmentAt p1) + (1 : Int32)))
set_option maxHeartbeats 4000000 in
set_option maxRecDepth 100000 in
theorem c_X0_centsOf (l : Launch) (D : va_G) (aB ab : Nat) (cA : ClassId) (bw : Nat → Int32) (p1 : Int32)  : kRl l yX0_centsOf cX0_centsOf 2 (some .long) { frames := 2, cells := 0, slots := 0, locals := 42 } [.ref aB, .int p1] (kB D (wB aB ab cA bw) [(cA, .int)]) (spX0_centsOf bw p1) := by
  refine Met.ofW (cc := cX0_centsOf) (maxL := 2) (ret := (some .long)) (by decide) rfl ?_
  intro p e s m args below meth c s₁ B hml hv
  obtain ⟨rfl, hP, hK⟩ := hv
  have hx := B.exec
  have hb := B.bytes
  have hr := B.returns
  have hts : ∀ w ∈ kG, w.before _ s = true := fun w h => atoms_spec (ws := kT yX0_centsOf cX0_centsOf 2 (some .long)) B.pre w (List.mem_cons_of_mem _ h)
  have hown : s.vm.findClass RX0 = some m.cls := findClass_of_methodNamed B.named
  have hlocks := B.notSynchronized
  have hl := lv_entry ([.ref aB, .int p1]) (n := 2) (Nat.le_of_ble_eq_true rfl)
  rw [lg_entry_eq]
  generalize (lg_sl ([.ref aB, .int p1]) ++ List.replicate (2 - (lg_sl ([.ref aB, .int p1])).length) Slot.unset).toArray = ls at hl ⊢
  have hl : lv_has ls 2 [(0, .ref aB), (1, .int p1)] := hl
  refine lv_aload_n hx hb dX0_centsOf_0 rfl (lv_at hl 0 rfl) ?_
  refine lv_iload_n hx hb dX0_centsOf_1 rfl (lv_at hl 1 rfl) ?_
  refine k_rdSi (As := [.int p1]) (rest := [.ref aB]) ⟨hx, hb, hml, hown, hts⟩ k_self (c_X0_departmentAt l p1) kv_X0_23 rfl rfl ⟨Nat.le_of_ble_eq_true rfl, Nat.le_of_ble_eq_true rfl⟩ rfl hl.1 rfl (Nat.le_of_ble_eq_true rfl) dX0_centsOf_2 ⟨Nat.zero_le _, Nat.zero_le _⟩ ?_
  refine lv_iconst (v := 1) hx hb dX0_centsOf_5 (by decide) ?_
  refine lv_iadd hx hb dX0_centsOf_6 ?_
  refine k_rdVl (As := [.int ((spX0_departmentAt p1) + (1 : Int32))]) (rest := []) (ci := 0) (q0 := 0) ⟨hx, hb, hml, hown, hts⟩ k_self (c_X0_sumAt l D aB ab cA bw ((spX0_departmentAt p1) + (1 : Int32))) kv_X0_26 (hP.sub [0, 1] rfl) (hK.sub [0] rfl) rfl rfl rfl rfl ⟨Nat.le_of_ble_eq_true rfl, Nat.le_of_ble_eq_true rfl⟩ rfl hl.1 rfl (Nat.le_of_ble_eq_true rfl) dX0_centsOf_7 ⟨Nat.zero_le _, Nat.zero_le _⟩ ?_
  exact W.lret (v := (spX0_sumAt bw ((spX0_departmentAt p1) + (1 : Int32)))) hx hb hr (fun t ht hW => ⟨(spX0_sumAt bw ((spX0_departmentAt p1) + (1 : Int32))), rfl, (show _ = _ from (by unfold spX0_centsOf; rfl : spX0_centsOf bw p1 = (spX0_sumAt bw ((spX0_departmentAt p1) + (1 : Int32)))).symm), ht⟩) (fun q h => by cases h) dX0_centsOf_10
def spX0_piecesOn (bw : Nat → Int32) (p1 : Int32) : Int32 := (if (spX0_at bw (spX0_placeOfDay p1)) = p1 then (spX0_at bw ((spX0_placeOfDay p1) + (1 : Int32))) else (0 : Int32))
set_option maxHeartbeats 4000000 in
set_option maxRecDepth 100000 in
theorem c_X0_piecesOn (l : Launch) (D : va_G) (aB ab : Nat) (cA : ClassId) (bw : Nat → Int32) (p1 : Int32)  : kRi l yX0_piecesOn cX0_piecesOn 3 (some .int) { frames := 1, cells := 0, slots := 0, locals := 21 } [.ref aB, .int p1] (kB D (wB aB ab cA bw) [(cA, .int)]) (spX0_piecesOn bw p1) := by
  refine Met.ofW (cc := cX0_piecesOn) (maxL := 3) (ret := (some .int)) (by decide) rfl ?_
  intro p e s m args below meth c s₁ B hml hv
  obtain ⟨rfl, hP, hK⟩ := hv
  have hx := B.exec
  have hb := B.bytes
  have hr := B.returns
  have hts : ∀ w ∈ kG, w.before _ s = true := fun w h => atoms_spec (ws := kT yX0_piecesOn cX0_piecesOn 3 (some .int)) B.pre w (List.mem_cons_of_mem _ h)
  have hown : s.vm.findClass RX0 = some m.cls := findClass_of_methodNamed B.named
  have hlocks := B.notSynchronized
  have hl := lv_entry ([.ref aB, .int p1]) (n := 3) (Nat.le_of_ble_eq_true rfl)
  rw [lg_entry_eq]
  generalize (lg_sl ([.ref aB, .int p1]) ++ List.replicate (3 - (lg_sl ([.ref aB, .int p1])).length) Slot.unset).toArray = ls at hl ⊢
  have hl : lv_has ls 3 [(0, .ref aB), (1, .int p1)] := hl
  refine lv_iload_n hx hb dX0_piecesOn_0 rfl (lv_at hl 1 rfl) ?_
  refine k_rdSi (As := [.int p1]) (rest := []) ⟨hx, hb, hml, hown, hts⟩ k_self (c_X0_placeOfDay l p1) kv_X0_30 rfl rfl ⟨Nat.le_of_ble_eq_true rfl, Nat.le_of_ble_eq_true rfl⟩ rfl hl.1 rfl (Nat.le_of_ble_eq_true rfl) dX0_piecesOn_1 ⟨Nat.zero_le _, Nat.zero_le _⟩ ?_
  refine lv_istore_n (lv' := [(2, .int (spX0_placeOfDay p1)), (0, .ref aB), (1, .int p1)]) hx hb dX0_piecesOn_4 rfl hl (by decide) rfl (fun ls hl => ?_)
  refine lv_aload_n hx hb dX0_piecesOn_5 rfl (lv_at hl 1 rfl) ?_
  refine lv_iload_n hx hb dX0_piecesOn_6 rfl (lv_at hl 0 rfl) ?_
  refine k_rdVi (As := [.int (spX0_placeOfDay p1)]) (rest := []) (ci := 0) (q0 := 0) ⟨hx, hb, hml, hown, hts⟩ k_self (c_X0_at l D aB ab cA bw (spX0_placeOfDay p1)) kv_X0_17 (hP.sub [0, 1] rfl) (hK.sub [0] rfl) rfl rfl rfl rfl ⟨Nat.le_of_ble_eq_true rfl, Nat.le_of_ble_eq_true rfl⟩ rfl hl.1 rfl (Nat.le_of_ble_eq_true rfl) dX0_piecesOn_7 ⟨Nat.zero_le _, Nat.zero_le _⟩ ?_
  refine lv_iload_n hx hb dX0_piecesOn_10 rfl (lv_at hl 2 rfl) ?_
  refine lv_icmp_ne (tgt := 24) hx hb dX0_piecesOn_11 (by decide) (fun c_11 => ?_) (fun c_11 => ?_)
  · refine lv_iconst (v := 0) hx hb dX0_piecesOn_24 (by decide) ?_
    exact W.iret (v := (0 : Int32)) hx hb hr (fun t ht hW => ⟨(0 : Int32), rfl, (show _ = _ from (by unfold spX0_piecesOn; rw [if_neg c_11] : spX0_piecesOn bw p1 = (0 : Int32)).symm), ht⟩) (fun q h => by cases h) dX0_piecesOn_25
  · refine lv_aload_n hx hb dX0_piecesOn_14 rfl (lv_at hl 1 rfl) ?_
    refine lv_iload_n hx hb dX0_piecesOn_15 rfl (lv_at hl 0 rfl) ?_
    refine lv_iconst (v := 1) hx hb dX0_piecesOn_16 (by decide) ?_
    refine lv_iadd hx hb dX0_piecesOn_17 ?_
    refine k_rdVi (As := [.int ((spX0_placeOfDay p1) + (1 : Int32))]) (rest := []) (ci := 0) (q0 := 0) ⟨hx, hb, hml, hown, hts⟩ k_self (c_X0_at l D aB ab cA bw ((spX0_placeOfDay p1) + (1 : Int32))) kv_X0_17 (hP.sub [0, 1] rfl) (hK.sub [0] rfl) rfl rfl rfl rfl ⟨Nat.le_of_ble_eq_true rfl, Nat.le_of_ble_eq_true rfl⟩ rfl hl.1 rfl (Nat.le_of_ble_eq_true rfl) dX0_piecesOn_18 ⟨Nat.zero_le _, Nat.zero_le _⟩ ?_
    refine lv_goto (tgt := 25) hx hb dX0_piecesOn_21 (by decide) ?_
    exact W.iret (v := (spX0_at bw ((spX0_placeOfDay p1) + (1 : Int32)))) hx hb hr (fun t ht hW => ⟨(spX0_at bw ((spX0_placeOfDay p1) + (1 : Int32))), rfl, (show _ = _ from (by unfold spX0_piecesOn; rw [if_pos c_11] : spX0_piecesOn bw p1 = (spX0_at bw ((spX0_placeOfDay p1) + (1 : Int32)))).symm), ht⟩) (fun q h => by cases h) dX0_piecesOn_25
def spX0_centsOn (bw : Nat → Int32) (p1 : Int32) : Int64 := (if (spX0_at bw (spX0_placeOfDay p1)) = p1 then (spX0_sumAt bw ((spX0_placeOfDay p1) + (2 : Int32))) else (0 : Int64))
set_option maxHeartbeats 4000000 in
set_option maxRecDepth 100000 in
theorem c_X0_centsOn (l : Launch) (D : va_G) (aB ab : Nat) (cA : ClassId) (bw : Nat → Int32) (p1 : Int32)  : kRl l yX0_centsOn cX0_centsOn 3 (some .long) { frames := 2, cells := 0, slots := 0, locals := 42 } [.ref aB, .int p1] (kB D (wB aB ab cA bw) [(cA, .int)]) (spX0_centsOn bw p1) := by
  refine Met.ofW (cc := cX0_centsOn) (maxL := 3) (ret := (some .long)) (by decide) rfl ?_
  intro p e s m args below meth c s₁ B hml hv
  obtain ⟨rfl, hP, hK⟩ := hv
  have hx := B.exec
  have hb := B.bytes
  have hr := B.returns
  have hts : ∀ w ∈ kG, w.before _ s = true := fun w h => atoms_spec (ws := kT yX0_centsOn cX0_centsOn 3 (some .long)) B.pre w (List.mem_cons_of_mem _ h)
  have hown : s.vm.findClass RX0 = some m.cls := findClass_of_methodNamed B.named
  have hlocks := B.notSynchronized
  have hl := lv_entry ([.ref aB, .int p1]) (n := 3) (Nat.le_of_ble_eq_true rfl)
  rw [lg_entry_eq]
  generalize (lg_sl ([.ref aB, .int p1]) ++ List.replicate (3 - (lg_sl ([.ref aB, .int p1])).length) Slot.unset).toArray = ls at hl ⊢
  have hl : lv_has ls 3 [(0, .ref aB), (1, .int p1)] := hl
  refine lv_iload_n hx hb dX0_centsOn_0 rfl (lv_at hl 1 rfl) ?_
  refine k_rdSi (As := [.int p1]) (rest := []) ⟨hx, hb, hml, hown, hts⟩ k_self (c_X0_placeOfDay l p1) kv_X0_30 rfl rfl ⟨Nat.le_of_ble_eq_true rfl, Nat.le_of_ble_eq_true rfl⟩ rfl hl.1 rfl (Nat.le_of_ble_eq_true rfl) dX0_centsOn_1 ⟨Nat.zero_le _, Nat.zero_le _⟩ ?_
  refine lv_istore_n (lv' := [(2, .int (spX0_placeOfDay p1)), (0, .ref aB), (1, .int p1)]) hx hb dX0_centsOn_4 rfl hl (by decide) rfl (fun ls hl => ?_)
  refine lv_aload_n hx hb dX0_centsOn_5 rfl (lv_at hl 1 rfl) ?_
  refine lv_iload_n hx hb dX0_centsOn_6 rfl (lv_at hl 0 rfl) ?_
  refine k_rdVi (As := [.int (spX0_placeOfDay p1)]) (rest := []) (ci := 0) (q0 := 0) ⟨hx, hb, hml, hown, hts⟩ k_self (c_X0_at l D aB ab cA bw (spX0_placeOfDay p1)) kv_X0_17 (hP.sub [0, 1] rfl) (hK.sub [0] rfl) rfl rfl rfl rfl ⟨Nat.le_of_ble_eq_true rfl, Nat.le_of_ble_eq_true rfl⟩ rfl hl.1 rfl (Nat.le_of_ble_eq_true rfl) dX0_centsOn_7 ⟨Nat.zero_le _, Nat.zero_le _⟩ ?_
  refine lv_iload_n hx hb dX0_centsOn_10 rfl (lv_at hl 2 rfl) ?_
  refine lv_icmp_ne (tgt := 24) hx hb dX0_centsOn_11 (by decide) (fun c_11 => ?_) (fun c_11 => ?_)
  · refine lv_lconst (v := 0) hx hb dX0_centsOn_24 (by decide) ?_
    exact W.lret (v := (0 : Int64)) hx hb hr (fun t ht hW => ⟨(0 : Int64), rfl, (show _ = _ from (by unfold spX0_centsOn; rw [if_neg c_11] : spX0_centsOn bw p1 = (0 : Int64)).symm), ht⟩) (fun q h => by cases h) dX0_centsOn_25
  · refine lv_aload_n hx hb dX0_centsOn_14 rfl (lv_at hl 1 rfl) ?_
    refine lv_iload_n hx hb dX0_centsOn_15 rfl (lv_at hl 0 rfl) ?_
    refine lv_iconst (v := 2) hx hb dX0_centsOn_16 (by decide) ?_
    refine lv_iadd hx hb dX0_centsOn_17 ?_
    refine k_rdVl (As := [.int ((spX0_placeOfDay p1) + (2 : Int32))]) (rest := []) (ci := 0) (q0 := 0) ⟨hx, hb, hml, hown, hts⟩ k_self (c_X0_sumAt l D aB ab cA bw ((spX0_placeOfDay p1) + (2 : Int32))) kv_X0_26 (hP.sub [0, 1] rfl) (hK.sub [0] rfl) rfl rfl rfl rfl ⟨Nat.le_of_ble_eq_true rfl, Nat.le_of_ble_eq_true rfl⟩ rfl hl.1 rfl (Nat.le_of_ble_eq_true rfl) dX0_centsOn_18 ⟨Nat.zero_le _, Nat.zero_le _⟩ ?_
    refine lv_goto (tgt := 25) hx hb dX0_centsOn_21 (by decide) ?_
    exact W.lret (v := (spX0_sumAt bw ((spX0_placeOfDay p1) + (2 : Int32)))) hx hb hr (fun t ht hW => ⟨(spX0_sumAt bw ((spX0_placeOfDay p1) + (2 : Int32))), rfl, (show _ = _ from (by unfold spX0_centsOn; rw [if_pos c_11] : spX0_centsOn bw p1 = (spX0_sumAt bw ((spX0_placeOfDay p1) + (2 : Int32)))).symm), ht⟩) (fun q h => by cases h) dX0_centsOn_25
def spX0_registersAddUp (bw : Nat → Int32) : Int32 := (if (lg_cmp ((spX0_sumAt bw (0 : Int32)) + (spX0_sumAt bw (2 : Int32))) ((spX0_sumAt bw (4 : Int32)) + (spX0_sumAt bw (6 : Int32)))) = 0 then (1 : Int32) else (0 : Int32))
set_option maxHeartbeats 4000000 in
set_option maxRecDepth 100000 in
theorem c_X0_registersAddUp (l : Launch) (D : va_G) (aB ab : Nat) (cA : ClassId) (bw : Nat → Int32)   : kRi l yX0_registersAddUp cX0_registersAddUp 1 (some .boolean) { frames := 2, cells := 0, slots := 0, locals := 42 } [.ref aB] (kB D (wB aB ab cA bw) [(cA, .int)]) (spX0_registersAddUp bw) := by
  refine Met.ofW (cc := cX0_registersAddUp) (maxL := 1) (ret := (some .boolean)) (by decide) rfl ?_
  intro p e s m args below meth c s₁ B hml hv
  obtain ⟨rfl, hP, hK⟩ := hv
  have hx := B.exec
  have hb := B.bytes
  have hr := B.returns
  have hts : ∀ w ∈ kG, w.before _ s = true := fun w h => atoms_spec (ws := kT yX0_registersAddUp cX0_registersAddUp 1 (some .boolean)) B.pre w (List.mem_cons_of_mem _ h)
  have hown : s.vm.findClass RX0 = some m.cls := findClass_of_methodNamed B.named
  have hlocks := B.notSynchronized
  have hl := lv_entry ([.ref aB]) (n := 1) (Nat.le_of_ble_eq_true rfl)
  rw [lg_entry_eq]
  generalize (lg_sl ([.ref aB]) ++ List.replicate (1 - (lg_sl ([.ref aB])).length) Slot.unset).toArray = ls at hl ⊢
  have hl : lv_has ls 1 [(0, .ref aB)] := hl
  refine lv_aload_n hx hb dX0_registersAddUp_0 rfl (lv_at hl 0 rfl) ?_
  refine lv_iconst (v := 0) hx hb dX0_registersAddUp_1 (by decide) ?_
  refine k_rdVl (As := [.int (0 : Int32)]) (rest := []) (ci := 0) (q0 := 0) ⟨hx, hb, hml, hown, hts⟩ k_self (c_X0_sumAt l D aB ab cA bw (0 : Int32)) kv_X0_26 (hP.sub [0, 1] rfl) (hK.sub [0] rfl) rfl rfl rfl rfl ⟨Nat.le_of_ble_eq_true rfl, Nat.le_of_ble_eq_true rfl⟩ rfl hl.1 rfl (Nat.le_of_ble_eq_true rfl) dX0_registersAddUp_2 ⟨Nat.zero_le _, Nat.zero_le _⟩ ?_
  refine lv_aload_n hx hb dX0_registersAddUp_5 rfl (lv_at hl 0 rfl) ?_
  refine lv_iconst (v := 2) hx hb dX0_registersAddUp_6 (by decide) ?_
  refine k_rdVl (As := [.int (2 : Int32)]) (rest := [.long (spX0_sumAt bw (0 : Int32))]) (ci := 0) (q0 := 0) ⟨hx, hb, hml, hown, hts⟩ k_self (c_X0_sumAt l D aB ab cA bw (2 : Int32)) kv_X0_26 (hP.sub [0, 1] rfl) (hK.sub [0] rfl) rfl rfl rfl rfl ⟨Nat.le_of_ble_eq_true rfl, Nat.le_of_ble_eq_true rfl⟩ rfl hl.1 rfl (Nat.le_of_ble_eq_true rfl) dX0_registersAddUp_7 ⟨Nat.zero_le _, Nat.zero_le _⟩ ?_
  refine lv_ladd hx hb dX0_registersAddUp_10 ?_
  refine lv_aload_n hx hb dX0_registersAddUp_11 rfl (lv_at hl 0 rfl) ?_
  refine lv_iconst (v := 4) hx hb dX0_registersAddUp_12 (by decide) ?_
  refine k_rdVl (As := [.int (4 : Int32)]) (rest := [.long ((spX0_sumAt bw (0 : Int32)) + (spX0_sumAt bw (2 : Int32)))]) (ci := 0) (q0 := 0) ⟨hx, hb, hml, hown, hts⟩ k_self (c_X0_sumAt l D aB ab cA bw (4 : Int32)) kv_X0_26 (hP.sub [0, 1] rfl) (hK.sub [0] rfl) rfl rfl rfl rfl ⟨Nat.le_of_ble_eq_true rfl, Nat.le_of_ble_eq_true rfl⟩ rfl hl.1 rfl (Nat.le_of_ble_eq_true rfl) dX0_registersAddUp_13 ⟨Nat.zero_le _, Nat.zero_le _⟩ ?_
  refine lv_aload_n hx hb dX0_registersAddUp_16 rfl (lv_at hl 0 rfl) ?_
  refine lv_bipush (v := 6) hx hb dX0_registersAddUp_17 (by decide) ?_
  refine k_rdVl (As := [.int (6 : Int32)]) (rest := [.long (spX0_sumAt bw (4 : Int32)), .long ((spX0_sumAt bw (0 : Int32)) + (spX0_sumAt bw (2 : Int32)))]) (ci := 0) (q0 := 0) ⟨hx, hb, hml, hown, hts⟩ k_self (c_X0_sumAt l D aB ab cA bw (6 : Int32)) kv_X0_26 (hP.sub [0, 1] rfl) (hK.sub [0] rfl) rfl rfl rfl rfl ⟨Nat.le_of_ble_eq_true rfl, Nat.le_of_ble_eq_true rfl⟩ rfl hl.1 rfl (Nat.le_of_ble_eq_true rfl) dX0_registersAddUp_19 ⟨Nat.zero_le _, Nat.zero_le _⟩ ?_
  refine lv_ladd hx hb dX0_registersAddUp_22 ?_
  refine W.lcmp hx hb dX0_registersAddUp_23 ?_
  refine lv_if_ne (tgt := 31) hx hb dX0_registersAddUp_24 (by decide) (fun c_24 => ?_) (fun c_24 => ?_)
  · refine lv_iconst (v := 0) hx hb dX0_registersAddUp_31 (by decide) ?_
    exact W.zret (v := (0 : Int32)) hx hb hr rfl (fun t ht hW => ⟨(0 : Int32), rfl, (show _ = _ from (by unfold spX0_registersAddUp; rw [if_neg c_24] : spX0_registersAddUp bw = (0 : Int32)).symm), ht⟩) (fun q h => by cases h) dX0_registersAddUp_32
  · refine lv_iconst (v := 1) hx hb dX0_registersAddUp_27 (by decide) ?_
    refine lv_goto (tgt := 32) hx hb dX0_registersAddUp_28 (by decide) ?_
    exact W.zret (v := (1 : Int32)) hx hb hr rfl (fun t ht hW => ⟨(1 : Int32), rfl, (show _ = _ from (by unfold spX0_registersAddUp; rw [if_pos c_24] : spX0_registersAddUp bw = (1 : Int32)).symm), ht⟩) (fun q h => by cases h) dX0_registersAddUp_32
def spX0_addOne (bw : Nat → Int32) (p1 : Int32) : (Nat → Int32) := (spX0_put bw p1 ((spX0_at bw p1) + (1 : Int32)))
set_option maxHeartbeats 4000000 in
set_option maxRecDepth 100000 in
theorem c_X0_addOne (l : Launch) (D : va_G) (aB ab : Nat) (cA : ClassId) (bw : Nat → Int32) (p1 : Int32)  : kWv l yX0_addOne cX0_addOne 2 none { frames := 1, cells := 0, slots := 0, locals := 22 } D [(cA, .int)] [.ref aB, .int p1] (wB aB ab cA bw) (wB aB ab cA (spX0_addOne bw p1)) := by
  intro sz
  refine Met.ofW (cc := cX0_addOne) (maxL := 2) (ret := none) (by decide) rfl ?_
  intro p e s m args below meth c s₁ B hml hv
  obtain ⟨rfl, hsz, hP, hK, hD0⟩ := hv
  have hx := B.exec
  have hb := B.bytes
  have hr := B.returns
  have hts : ∀ w ∈ kG, w.before _ s = true := fun w h => atoms_spec (ws := kT yX0_addOne cX0_addOne 2 none) B.pre w (List.mem_cons_of_mem _ h)
  have hown : s.vm.findClass RX0 = some m.cls := findClass_of_methodNamed B.named
  have hlocks := B.notSynchronized
  subst hsz
  have hD := hD0.self (sz := s.heap.size)
  generalize hAe : va_A (wB aB ab cA bw) s.heap.size = A at hD ⊢
  have hA : ∀ q : Nat, s.heap.size ≤ q → A q := fun q h => by rw [← hAe]; exact Or.inr h
  have hS : va_S A s.heap s.heap [] := va_S.rf
  have hl := lv_entry ([.ref aB, .int p1]) (n := 2) (Nat.le_of_ble_eq_true rfl)
  rw [lg_entry_eq]
  generalize (lg_sl ([.ref aB, .int p1]) ++ List.replicate (2 - (lg_sl ([.ref aB, .int p1])).length) Slot.unset).toArray = ls at hl ⊢
  have hl : lv_has ls 2 [(0, .ref aB), (1, .int p1)] := hl
  refine lv_aload_n hx hb dX0_addOne_0 rfl (lv_at hl 0 rfl) ?_
  refine lv_iload_n hx hb dX0_addOne_1 rfl (lv_at hl 1 rfl) ?_
  refine lv_aload_n hx hb dX0_addOne_2 rfl (lv_at hl 0 rfl) ?_
  refine lv_iload_n hx hb dX0_addOne_3 rfl (lv_at hl 1 rfl) ?_
  refine k_rdVi (As := [.int p1]) (rest := [.int p1, .ref aB]) (ci := 0) (q0 := 0) ⟨hx, hb, hml, hown, hts⟩ k_self (c_X0_at l D aB ab cA bw p1) kv_X0_17 (hP.sub [0, 1] rfl) (hK.sub [0] rfl) rfl rfl rfl rfl ⟨Nat.le_of_ble_eq_true rfl, Nat.le_of_ble_eq_true rfl⟩ rfl hl.1 rfl (Nat.le_of_ble_eq_true rfl) dX0_addOne_4 ⟨Nat.zero_le _, Nat.zero_le _⟩ ?_
  refine lv_iconst (v := 1) hx hb dX0_addOne_7 (by decide) ?_
  refine lv_iadd hx hb dX0_addOne_8 ?_
  refine k_wrVv (As := [.int p1, .int ((spX0_at bw p1) + (1 : Int32))]) (rest := []) (ci := 0) (q0 := 0) (ws' := (wB aB ab cA (spX0_put bw p1 ((spX0_at bw p1) + (1 : Int32))))) (wr := []) ⟨hx, hb, hml, hown, hts⟩ k_self (c_X0_put l D aB ab cA bw p1 ((spX0_at bw p1) + (1 : Int32))) kv_X0_13 hP hD hS hA hK rfl rfl [0, 1] [] [0, 1] rfl (by decide) rfl (by decide) (by decide) rfl (by decide) rfl rfl ⟨Nat.le_of_ble_eq_true rfl, Nat.le_of_ble_eq_true rfl⟩ rfl hl.1 rfl (Nat.le_of_ble_eq_true rfl) dX0_addOne_9 ⟨Nat.zero_le _, Nat.zero_le _⟩ (fun H locs hP hD hS => ?_)
  have hE : spX0_addOne bw p1 = (spX0_put bw p1 ((spX0_at bw p1) + (1 : Int32))) := by unfold spX0_addOne; rfl
  exact W.vret hx hb hr (fun t ht hW => ⟨⟨(), rfl, trivial, by rw [hE, ht]; exact hP, va_K.moved hW.alike hK, by rw [hE]; exact hD⟩, hS.F ht⟩) hS.2.2 dX0_addOne_12
def spX0_addToSum (bw : Nat → Int32) (p1 : Int32) (p2 : Int32) : (Nat → Int32) := (spX0_put (spX0_put bw p1 (Int64.toInt32 ((spX0_sumAt bw p1) + (Int32.toInt64 p2)))) (p1 + (1 : Int32)) (Int64.toInt32 ((Int64.toUInt64 ((spX0_sumAt bw p1) + (Int32.toInt64 p2)) >>> ((Int32.toInt64 (32 : Int32)).toUInt64 &&& Int64.toUInt64 63)).toInt64)))
set_option maxHeartbeats 4000000 in
set_option maxRecDepth 100000 in
theorem c_X0_addToSum (l : Launch) (D : va_G) (aB ab : Nat) (cA : ClassId) (bw : Nat → Int32) (p1 : Int32) (p2 : Int32)  : kWv l yX0_addToSum cX0_addToSum 5 none { frames := 2, cells := 0, slots := 0, locals := 42 } D [(cA, .int)] [.ref aB, .int p1, .int p2] (wB aB ab cA bw) (wB aB ab cA (spX0_addToSum bw p1 p2)) := by
  intro sz
  refine Met.ofW (cc := cX0_addToSum) (maxL := 5) (ret := none) (by decide) rfl ?_
  intro p e s m args below meth c s₁ B hml hv
  obtain ⟨rfl, hsz, hP, hK, hD0⟩ := hv
  have hx := B.exec
  have hb := B.bytes
  have hr := B.returns
  have hts : ∀ w ∈ kG, w.before _ s = true := fun w h => atoms_spec (ws := kT yX0_addToSum cX0_addToSum 5 none) B.pre w (List.mem_cons_of_mem _ h)
  have hown : s.vm.findClass RX0 = some m.cls := findClass_of_methodNamed B.named
  have hlocks := B.notSynchronized
  subst hsz
  have hD := hD0.self (sz := s.heap.size)
  generalize hAe : va_A (wB aB ab cA bw) s.heap.size = A at hD ⊢
  have hA : ∀ q : Nat, s.heap.size ≤ q → A q := fun q h => by rw [← hAe]; exact Or.inr h
  have hS : va_S A s.heap s.heap [] := va_S.rf
  have hl := lv_entry ([.ref aB, .int p1, .int p2]) (n := 5) (Nat.le_of_ble_eq_true rfl)
  rw [lg_entry_eq]
  generalize (lg_sl ([.ref aB, .int p1, .int p2]) ++ List.replicate (5 - (lg_sl ([.ref aB, .int p1, .int p2])).length) Slot.unset).toArray = ls at hl ⊢
  have hl : lv_has ls 5 [(0, .ref aB), (1, .int p1), (2, .int p2)] := hl
  refine lv_aload_n hx hb dX0_addToSum_0 rfl (lv_at hl 0 rfl) ?_
  refine lv_iload_n hx hb dX0_addToSum_1 rfl (lv_at hl 1 rfl) ?_
  refine k_rdVl (As := [.int p1]) (rest := []) (ci := 0) (q0 := 0) ⟨hx, hb, hml, hown, hts⟩ k_self (c_X0_sumAt l D aB ab cA bw p1) kv_X0_26 (hP.sub [0, 1] rfl) (hK.sub [0] rfl) rfl rfl rfl rfl ⟨Nat.le_of_ble_eq_true rfl, Nat.le_of_ble_eq_true rfl⟩ rfl hl.1 rfl (Nat.le_of_ble_eq_true rfl) dX0_addToSum_2 ⟨Nat.zero_le _, Nat.zero_le _⟩ ?_
  refine lv_iload_n hx hb dX0_addToSum_5 rfl (lv_at hl 2 rfl) ?_
  refine lv_i2l (v := (Int32.toInt64 p2)) hx hb dX0_addToSum_6 rfl ?_
  refine lv_ladd hx hb dX0_addToSum_7 ?_
  refine lv_lstore_n (lv' := [(3, .long ((spX0_sumAt bw p1) + (Int32.toInt64 p2))), (0, .ref aB), (1, .int p1), (2, .int p2)]) hx hb dX0_addToSum_8 rfl hl (by decide) rfl (fun ls hl => ?_)
  refine lv_aload_n hx hb dX0_addToSum_9 rfl (lv_at hl 1 rfl) ?_
  refine lv_iload_n hx hb dX0_addToSum_10 rfl (lv_at hl 2 rfl) ?_
  refine lv_lload_n hx hb dX0_addToSum_11 rfl (lv_at hl 0 rfl) ?_
  refine lv_l2i (v := (Int64.toInt32 ((spX0_sumAt bw p1) + (Int32.toInt64 p2)))) hx hb dX0_addToSum_12 rfl ?_
  refine k_wrVv (As := [.int p1, .int (Int64.toInt32 ((spX0_sumAt bw p1) + (Int32.toInt64 p2)))]) (rest := []) (ci := 0) (q0 := 0) (ws' := (wB aB ab cA (spX0_put bw p1 (Int64.toInt32 ((spX0_sumAt bw p1) + (Int32.toInt64 p2)))))) (wr := []) ⟨hx, hb, hml, hown, hts⟩ k_self (c_X0_put l D aB ab cA bw p1 (Int64.toInt32 ((spX0_sumAt bw p1) + (Int32.toInt64 p2)))) kv_X0_13 hP hD hS hA hK rfl rfl [0, 1] [] [0, 1] rfl (by decide) rfl (by decide) (by decide) rfl (by decide) rfl rfl ⟨Nat.le_of_ble_eq_true rfl, Nat.le_of_ble_eq_true rfl⟩ rfl hl.1 rfl (Nat.le_of_ble_eq_true rfl) dX0_addToSum_13 ⟨Nat.zero_le _, Nat.zero_le _⟩ (fun H locs hP hD hS => ?_)
  refine lv_aload_n hx hb dX0_addToSum_16 rfl (lv_at hl 1 rfl) ?_
  refine lv_iload_n hx hb dX0_addToSum_17 rfl (lv_at hl 2 rfl) ?_
  refine lv_iconst (v := 1) hx hb dX0_addToSum_18 (by decide) ?_
  refine lv_iadd hx hb dX0_addToSum_19 ?_
  refine lv_lload_n hx hb dX0_addToSum_20 rfl (lv_at hl 0 rfl) ?_
  refine lv_bipush (v := 32) hx hb dX0_addToSum_21 (by decide) ?_
  refine lv_lushr (v := (Int64.toUInt64 ((spX0_sumAt bw p1) + (Int32.toInt64 p2)) >>> ((Int32.toInt64 (32 : Int32)).toUInt64 &&& Int64.toUInt64 63)).toInt64) hx hb dX0_addToSum_23 rfl ?_
  refine lv_l2i (v := (Int64.toInt32 ((Int64.toUInt64 ((spX0_sumAt bw p1) + (Int32.toInt64 p2)) >>> ((Int32.toInt64 (32 : Int32)).toUInt64 &&& Int64.toUInt64 63)).toInt64))) hx hb dX0_addToSum_24 rfl ?_
  refine k_wrVv (As := [.int (p1 + (1 : Int32)), .int (Int64.toInt32 ((Int64.toUInt64 ((spX0_sumAt bw p1) + (Int32.toInt64 p2)) >>> ((Int32.toInt64 (32 : Int32)).toUInt64 &&& Int64.toUInt64 63)).toInt64))]) (rest := []) (ci := 0) (q0 := 0) (ws' := (wB aB ab cA (spX0_put (spX0_put bw p1 (Int64.toInt32 ((spX0_sumAt bw p1) + (Int32.toInt64 p2)))) (p1 + (1 : Int32)) (Int64.toInt32 ((Int64.toUInt64 ((spX0_sumAt bw p1) + (Int32.toInt64 p2)) >>> ((Int32.toInt64 (32 : Int32)).toUInt64 &&& Int64.toUInt64 63)).toInt64))))) (wr := []) ⟨hx, hb, hml, hown, hts⟩ k_self (c_X0_put l D aB ab cA (spX0_put bw p1 (Int64.toInt32 ((spX0_sumAt bw p1) + (Int32.toInt64 p2)))) (p1 + (1 : Int32)) (Int64.toInt32 ((Int64.toUInt64 ((spX0_sumAt bw p1) + (Int32.toInt64 p2)) >>> ((Int32.toInt64 (32 : Int32)).toUInt64 &&& Int64.toUInt64 63)).toInt64))) kv_X0_13 hP hD hS hA hK rfl rfl [0, 1] [] [0, 1] rfl (by decide) rfl (by decide) (by decide) rfl (by decide) rfl rfl ⟨Nat.le_of_ble_eq_true rfl, Nat.le_of_ble_eq_true rfl⟩ rfl hl.1 rfl (Nat.le_of_ble_eq_true rfl) dX0_addToSum_25 ⟨Nat.zero_le _, Nat.zero_le _⟩ (fun H locs hP hD hS => ?_)
  have hE : spX0_addToSum bw p1 p2 = (spX0_put (spX0_put bw p1 (Int64.toInt32 ((spX0_sumAt bw p1) + (Int32.toInt64 p2)))) (p1 + (1 : Int32)) (Int64.toInt32 ((Int64.toUInt64 ((spX0_sumAt bw p1) + (Int32.toInt64 p2)) >>> ((Int32.toInt64 (32 : Int32)).toUInt64 &&& Int64.toUInt64 63)).toInt64))) := by unfold spX0_addToSum; rfl
  exact W.vret hx hb hr (fun t ht hW => ⟨⟨(), rfl, trivial, by rw [hE, ht]; exact hP, va_K.moved hW.alike hK, by rw [hE]; exact hD⟩, hS.F ht⟩) hS.2.2 dX0_addToSum_28
def spX0_addPiece (bw : Nat → Int32) (p1 : Int32) (p2 : Int32) : (Nat → Int32) := (spX0_put (spX0_addToSum (spX0_addOne (spX0_addOne (spX0_addToSum (spX0_addToSum bw (0 : Int32) p1) (2 : Int32) (-p1)) (8 : Int32)) (spX0_departmentAt p2)) ((spX0_departmentAt p2) + (1 : Int32)) p1) (14 : Int32) p1)
set_option maxHeartbeats 4000000 in
set_option maxRecDepth 100000 in
theorem c_X0_addPiece (l : Launch) (D : va_G) (aB ab : Nat) (cA : ClassId) (bw : Nat → Int32) (p1 : Int32) (p2 : Int32)  : kWv l yX0_addPiece cX0_addPiece 3 none { frames := 3, cells := 0, slots := 0, locals := 66 } D [(cA, .int)] [.ref aB, .int p1, .int p2] (wB aB ab cA bw) (wB aB ab cA (spX0_addPiece bw p1 p2)) := by
  intro sz
  refine Met.ofW (cc := cX0_addPiece) (maxL := 3) (ret := none) (by decide) rfl ?_
  intro p e s m args below meth c s₁ B hml hv
  obtain ⟨rfl, hsz, hP, hK, hD0⟩ := hv
  have hx := B.exec
  have hb := B.bytes
  have hr := B.returns
  have hts : ∀ w ∈ kG, w.before _ s = true := fun w h => atoms_spec (ws := kT yX0_addPiece cX0_addPiece 3 none) B.pre w (List.mem_cons_of_mem _ h)
  have hown : s.vm.findClass RX0 = some m.cls := findClass_of_methodNamed B.named
  have hlocks := B.notSynchronized
  subst hsz
  have hD := hD0.self (sz := s.heap.size)
  generalize hAe : va_A (wB aB ab cA bw) s.heap.size = A at hD ⊢
  have hA : ∀ q : Nat, s.heap.size ≤ q → A q := fun q h => by rw [← hAe]; exact Or.inr h
  have hS : va_S A s.heap s.heap [] := va_S.rf
  have hl := lv_entry ([.ref aB, .int p1, .int p2]) (n := 3) (Nat.le_of_ble_eq_true rfl)
  rw [lg_entry_eq]
  generalize (lg_sl ([.ref aB, .int p1, .int p2]) ++ List.replicate (3 - (lg_sl ([.ref aB, .int p1, .int p2])).length) Slot.unset).toArray = ls at hl ⊢
  have hl : lv_has ls 3 [(0, .ref aB), (1, .int p1), (2, .int p2)] := hl
  refine lv_aload_n hx hb dX0_addPiece_0 rfl (lv_at hl 0 rfl) ?_
  refine lv_iconst (v := 0) hx hb dX0_addPiece_1 (by decide) ?_
  refine lv_iload_n hx hb dX0_addPiece_2 rfl (lv_at hl 1 rfl) ?_
  refine k_wrVv (As := [.int (0 : Int32), .int p1]) (rest := []) (ci := 0) (q0 := 0) (ws' := (wB aB ab cA (spX0_addToSum bw (0 : Int32) p1))) (wr := []) ⟨hx, hb, hml, hown, hts⟩ k_self (c_X0_addToSum l D aB ab cA bw (0 : Int32) p1) kv_X0_49 hP hD hS hA hK rfl rfl [0, 1] [] [0, 1] rfl (by decide) rfl (by decide) (by decide) rfl (by decide) rfl rfl ⟨Nat.le_of_ble_eq_true rfl, Nat.le_of_ble_eq_true rfl⟩ rfl hl.1 rfl (Nat.le_of_ble_eq_true rfl) dX0_addPiece_3 ⟨Nat.zero_le _, Nat.zero_le _⟩ (fun H locs hP hD hS => ?_)
  refine lv_aload_n hx hb dX0_addPiece_6 rfl (lv_at hl 0 rfl) ?_
  refine lv_iconst (v := 2) hx hb dX0_addPiece_7 (by decide) ?_
  refine lv_iload_n hx hb dX0_addPiece_8 rfl (lv_at hl 1 rfl) ?_
  refine lv_ineg hx hb dX0_addPiece_9 ?_
  refine k_wrVv (As := [.int (2 : Int32), .int (-p1)]) (rest := []) (ci := 0) (q0 := 0) (ws' := (wB aB ab cA (spX0_addToSum (spX0_addToSum bw (0 : Int32) p1) (2 : Int32) (-p1)))) (wr := []) ⟨hx, hb, hml, hown, hts⟩ k_self (c_X0_addToSum l D aB ab cA (spX0_addToSum bw (0 : Int32) p1) (2 : Int32) (-p1)) kv_X0_49 hP hD hS hA hK rfl rfl [0, 1] [] [0, 1] rfl (by decide) rfl (by decide) (by decide) rfl (by decide) rfl rfl ⟨Nat.le_of_ble_eq_true rfl, Nat.le_of_ble_eq_true rfl⟩ rfl hl.1 rfl (Nat.le_of_ble_eq_true rfl) dX0_addPiece_10 ⟨Nat.zero_le _, Nat.zero_le _⟩ (fun H locs hP hD hS => ?_)
  refine lv_aload_n hx hb dX0_addPiece_13 rfl (lv_at hl 0 rfl) ?_
  refine lv_bipush (v := 8) hx hb dX0_addPiece_14 (by decide) ?_
  refine k_wrVv (As := [.int (8 : Int32)]) (rest := []) (ci := 0) (q0 := 0) (ws' := (wB aB ab cA (spX0_addOne (spX0_addToSum (spX0_addToSum bw (0 : Int32) p1) (2 : Int32) (-p1)) (8 : Int32)))) (wr := []) ⟨hx, hb, hml, hown, hts⟩ k_self (c_X0_addOne l D aB ab cA (spX0_addToSum (spX0_addToSum bw (0 : Int32) p1) (2 : Int32) (-p1)) (8 : Int32)) kv_X0_52 hP hD hS hA hK rfl rfl [0, 1] [] [0, 1] rfl (by decide) rfl (by decide) (by decide) rfl (by decide) rfl rfl ⟨Nat.le_of_ble_eq_true rfl, Nat.le_of_ble_eq_true rfl⟩ rfl hl.1 rfl (Nat.le_of_ble_eq_true rfl) dX0_addPiece_16 ⟨Nat.zero_le _, Nat.zero_le _⟩ (fun H locs hP hD hS => ?_)
  refine lv_aload_n hx hb dX0_addPiece_19 rfl (lv_at hl 0 rfl) ?_
  refine lv_iload_n hx hb dX0_addPiece_20 rfl (lv_at hl 2 rfl) ?_
  refine k_rdSi (As := [.int p2]) (rest := [.ref aB]) ⟨hx, hb, hml, hown, hts⟩ k_self (c_X0_departmentAt l p2) kv_X0_23 rfl rfl ⟨Nat.le_of_ble_eq_true rfl, Nat.le_of_ble_eq_true rfl⟩ rfl hl.1 rfl (Nat.le_of_ble_eq_true rfl) dX0_addPiece_21 ⟨Nat.zero_le _, Nat.zero_le _⟩ ?_
  refine k_wrVv (As := [.int (spX0_departmentAt p2)]) (rest := []) (ci := 0) (q0 := 0) (ws' := (wB aB ab cA (spX0_addOne (spX0_addOne (spX0_addToSum (spX0_addToSum bw (0 : Int32) p1) (2 : Int32) (-p1)) (8 : Int32)) (spX0_departmentAt p2)))) (wr := []) ⟨hx, hb, hml, hown, hts⟩ k_self (c_X0_addOne l D aB ab cA (spX0_addOne (spX0_addToSum (spX0_addToSum bw (0 : Int32) p1) (2 : Int32) (-p1)) (8 : Int32)) (spX0_departmentAt p2)) kv_X0_52 hP hD hS hA hK rfl rfl [0, 1] [] [0, 1] rfl (by decide) rfl (by decide) (by decide) rfl (by decide) rfl rfl ⟨Nat.le_of_ble_eq_true rfl, Nat.le_of_ble_eq_true rfl⟩ rfl hl.1 rfl (Nat.le_of_ble_eq_true rfl) dX0_addPiece_24 ⟨Nat.zero_le _, Nat.zero_le _⟩ (fun H locs hP hD hS => ?_)
  refine lv_aload_n hx hb dX0_addPiece_27 rfl (lv_at hl 0 rfl) ?_
  refine lv_iload_n hx hb dX0_addPiece_28 rfl (lv_at hl 2 rfl) ?_
  refine k_rdSi (As := [.int p2]) (rest := [.ref aB]) ⟨hx, hb, hml, hown, hts⟩ k_self (c_X0_departmentAt l p2) kv_X0_23 rfl rfl ⟨Nat.le_of_ble_eq_true rfl, Nat.le_of_ble_eq_true rfl⟩ rfl hl.1 rfl (Nat.le_of_ble_eq_true rfl) dX0_addPiece_29 ⟨Nat.zero_le _, Nat.zero_le _⟩ ?_
  refine lv_iconst (v := 1) hx hb dX0_addPiece_32 (by decide) ?_
  refine lv_iadd hx hb dX0_addPiece_33 ?_
  refine lv_iload_n hx hb dX0_addPiece_34 rfl (lv_at hl 1 rfl) ?_
  refine k_wrVv (As := [.int ((spX0_departmentAt p2) + (1 : Int32)), .int p1]) (rest := []) (ci := 0) (q0 := 0) (ws' := (wB aB ab cA (spX0_addToSum (spX0_addOne (spX0_addOne (spX0_addToSum (spX0_addToSum bw (0 : Int32) p1) (2 : Int32) (-p1)) (8 : Int32)) (spX0_departmentAt p2)) ((spX0_departmentAt p2) + (1 : Int32)) p1))) (wr := []) ⟨hx, hb, hml, hown, hts⟩ k_self (c_X0_addToSum l D aB ab cA (spX0_addOne (spX0_addOne (spX0_addToSum (spX0_addToSum bw (0 : Int32) p1) (2 : Int32) (-p1)) (8 : Int32)) (spX0_departmentAt p2)) ((spX0_departmentAt p2) + (1 : Int32)) p1) kv_X0_49 hP hD hS hA hK rfl rfl [0, 1] [] [0, 1] rfl (by decide) rfl (by decide) (by decide) rfl (by decide) rfl rfl ⟨Nat.le_of_ble_eq_true rfl, Nat.le_of_ble_eq_true rfl⟩ rfl hl.1 rfl (Nat.le_of_ble_eq_true rfl) dX0_addPiece_35 ⟨Nat.zero_le _, Nat.zero_le _⟩ (fun H locs hP hD hS => ?_)
  refine lv_aload_n hx hb dX0_addPiece_38 rfl (lv_at hl 0 rfl) ?_
  refine lv_bipush (v := 14) hx hb dX0_addPiece_39 (by decide) ?_
  refine lv_iload_n hx hb dX0_addPiece_41 rfl (lv_at hl 1 rfl) ?_
  refine k_wrVv (As := [.int (14 : Int32), .int p1]) (rest := []) (ci := 0) (q0 := 0) (ws' := (wB aB ab cA (spX0_put (spX0_addToSum (spX0_addOne (spX0_addOne (spX0_addToSum (spX0_addToSum bw (0 : Int32) p1) (2 : Int32) (-p1)) (8 : Int32)) (spX0_departmentAt p2)) ((spX0_departmentAt p2) + (1 : Int32)) p1) (14 : Int32) p1))) (wr := []) ⟨hx, hb, hml, hown, hts⟩ k_self (c_X0_put l D aB ab cA (spX0_addToSum (spX0_addOne (spX0_addOne (spX0_addToSum (spX0_addToSum bw (0 : Int32) p1) (2 : Int32) (-p1)) (8 : Int32)) (spX0_departmentAt p2)) ((spX0_departmentAt p2) + (1 : Int32)) p1) (14 : Int32) p1) kv_X0_13 hP hD hS hA hK rfl rfl [0, 1] [] [0, 1] rfl (by decide) rfl (by decide) (by decide) rfl (by decide) rfl rfl ⟨Nat.le_of_ble_eq_true rfl, Nat.le_of_ble_eq_true rfl⟩ rfl hl.1 rfl (Nat.le_of_ble_eq_true rfl) dX0_addPiece_42 ⟨Nat.zero_le _, Nat.zero_le _⟩ (fun H locs hP hD hS => ?_)
  have hE : spX0_addPiece bw p1 p2 = (spX0_put (spX0_addToSum (spX0_addOne (spX0_addOne (spX0_addToSum (spX0_addToSum bw (0 : Int32) p1) (2 : Int32) (-p1)) (8 : Int32)) (spX0_departmentAt p2)) ((spX0_departmentAt p2) + (1 : Int32)) p1) (14 : Int32) p1) := by unfold spX0_addPiece; rfl
  exact W.vret hx hb hr (fun t ht hW => ⟨⟨(), rfl, trivial, by rw [hE, ht]; exact hP, va_K.moved hW.alike hK, by rw [hE]; exact hD⟩, hS.F ht⟩) hS.2.2 dX0_addPiece_45
def spX0_addToDay (bw : Nat → Int32) (p1 : Int32) (p2 : Int32) : (Nat → Int32) := (if (spX0_at bw (spX0_placeOfDay p2)) = (-1 : Int32) then (if (spX0_at (spX0_put (spX0_put (spX0_put (spX0_put bw (spX0_placeOfDay p2) p2) ((spX0_placeOfDay p2) + (1 : Int32)) (0 : Int32)) ((spX0_placeOfDay p2) + (2 : Int32)) (0 : Int32)) ((spX0_placeOfDay p2) + (3 : Int32)) (0 : Int32)) (spX0_placeOfDay p2)) = p2 then (spX0_addToSum (spX0_addOne (spX0_put (spX0_put (spX0_put (spX0_put bw (spX0_placeOfDay p2) p2) ((spX0_placeOfDay p2) + (1 : Int32)) (0 : Int32)) ((spX0_placeOfDay p2) + (2 : Int32)) (0 : Int32)) ((spX0_placeOfDay p2) + (3 : Int32)) (0 : Int32)) ((spX0_placeOfDay p2) + (1 : Int32))) ((spX0_placeOfDay p2) + (2 : Int32)) p1) else (spX0_put (spX0_put (spX0_put (spX0_put bw (spX0_placeOfDay p2) p2) ((spX0_placeOfDay p2) + (1 : Int32)) (0 : Int32)) ((spX0_placeOfDay p2) + (2 : Int32)) (0 : Int32)) ((spX0_placeOfDay p2) + (3 : Int32)) (0 : Int32))) else (if p2 ≤ (spX0_at bw (spX0_placeOfDay p2)) then (if (spX0_at bw (spX0_placeOfDay p2)) = p2 then (spX0_addToSum (spX0_addOne bw ((spX0_placeOfDay p2) + (1 : Int32))) ((spX0_placeOfDay p2) + (2 : Int32)) p1) else bw) else (if (spX0_at (spX0_put (spX0_put (spX0_put (spX0_put bw (spX0_placeOfDay p2) p2) ((spX0_placeOfDay p2) + (1 : Int32)) (0 : Int32)) ((spX0_placeOfDay p2) + (2 : Int32)) (0 : Int32)) ((spX0_placeOfDay p2) + (3 : Int32)) (0 : Int32)) (spX0_placeOfDay p2)) = p2 then (spX0_addToSum (spX0_addOne (spX0_put (spX0_put (spX0_put (spX0_put bw (spX0_placeOfDay p2) p2) ((spX0_placeOfDay p2) + (1 : Int32)) (0 : Int32)) ((spX0_placeOfDay p2) + (2 : Int32)) (0 : Int32)) ((spX0_placeOfDay p2) + (3 : Int32)) (0 : Int32)) ((spX0_placeOfDay p2) + (1 : Int32))) ((spX0_placeOfDay p2) + (2 : Int32)) p1) else (spX0_put (spX0_put (spX0_put (spX0_put bw (spX0_placeOfDay p2) p2) ((spX0_placeOfDay p2) + (1 : Int32)) (0 : Int32)) ((spX0_placeOfDay p2) + (2 : Int32)) (0 : Int32)) ((spX0_placeOfDay p2) + (3 : Int32)) (0 : Int32)))))
set_option maxHeartbeats 4000000 in
set_option maxRecDepth 100000 in
theorem c_X0_addToDay (l : Launch) (D : va_G) (aB ab : Nat) (cA : ClassId) (bw : Nat → Int32) (p1 : Int32) (p2 : Int32)  : kWv l yX0_addToDay cX0_addToDay 4 none { frames := 3, cells := 0, slots := 0, locals := 66 } D [(cA, .int)] [.ref aB, .int p1, .int p2] (wB aB ab cA bw) (wB aB ab cA (spX0_addToDay bw p1 p2)) := by
  intro sz
  refine Met.ofW (cc := cX0_addToDay) (maxL := 4) (ret := none) (by decide) rfl ?_
  intro p e s m args below meth c s₁ B hml hv
  obtain ⟨rfl, hsz, hP, hK, hD0⟩ := hv
  have hx := B.exec
  have hb := B.bytes
  have hr := B.returns
  have hts : ∀ w ∈ kG, w.before _ s = true := fun w h => atoms_spec (ws := kT yX0_addToDay cX0_addToDay 4 none) B.pre w (List.mem_cons_of_mem _ h)
  have hown : s.vm.findClass RX0 = some m.cls := findClass_of_methodNamed B.named
  have hlocks := B.notSynchronized
  subst hsz
  have hD := hD0.self (sz := s.heap.size)
  generalize hAe : va_A (wB aB ab cA bw) s.heap.size = A at hD ⊢
  have hA : ∀ q : Nat, s.heap.size ≤ q → A q := fun q h => by rw [← hAe]; exact Or.inr h
  have hS : va_S A s.heap s.heap [] := va_S.rf
  have hl := lv_entry ([.ref aB, .int p1, .int p2]) (n := 4) (Nat.le_of_ble_eq_true rfl)
  rw [lg_entry_eq]
  generalize (lg_sl ([.ref aB, .int p1, .int p2]) ++ List.replicate (4 - (lg_sl ([.ref aB, .int p1, .int p2])).length) Slot.unset).toArray = ls at hl ⊢
  have hl : lv_has ls 4 [(0, .ref aB), (1, .int p1), (2, .int p2)] := hl
  refine lv_iload_n hx hb dX0_addToDay_0 rfl (lv_at hl 2 rfl) ?_
  refine k_rdSi (As := [.int p2]) (rest := []) ⟨hx, hb, hml, hown, hts⟩ k_self (c_X0_placeOfDay l p2) kv_X0_30 rfl rfl ⟨Nat.le_of_ble_eq_true rfl, Nat.le_of_ble_eq_true rfl⟩ rfl hl.1 rfl (Nat.le_of_ble_eq_true rfl) dX0_addToDay_1 ⟨Nat.zero_le _, Nat.zero_le _⟩ ?_
  refine lv_istore_n (lv' := [(3, .int (spX0_placeOfDay p2)), (0, .ref aB), (1, .int p1), (2, .int p2)]) hx hb dX0_addToDay_4 rfl hl (by decide) rfl (fun ls hl => ?_)
  refine lv_aload_n hx hb dX0_addToDay_5 rfl (lv_at hl 1 rfl) ?_
  refine lv_iload_n hx hb dX0_addToDay_6 rfl (lv_at hl 0 rfl) ?_
  refine k_rdVi (As := [.int (spX0_placeOfDay p2)]) (rest := []) (ci := 0) (q0 := 0) ⟨hx, hb, hml, hown, hts⟩ k_self (c_X0_at l D aB ab cA bw (spX0_placeOfDay p2)) kv_X0_17 (hP.sub [0, 1] rfl) (hK.sub [0] rfl) rfl rfl rfl rfl ⟨Nat.le_of_ble_eq_true rfl, Nat.le_of_ble_eq_true rfl⟩ rfl hl.1 rfl (Nat.le_of_ble_eq_true rfl) dX0_addToDay_7 ⟨Nat.zero_le _, Nat.zero_le _⟩ ?_
  refine lv_iconst (v := -1) hx hb dX0_addToDay_10 (by decide) ?_
  refine lv_icmp_eq (tgt := 23) hx hb dX0_addToDay_11 (by decide) (fun c_11 => ?_) (fun c_11 => ?_)
  · refine lv_aload_n hx hb dX0_addToDay_23 rfl (lv_at hl 1 rfl) ?_
    refine lv_iload_n hx hb dX0_addToDay_24 rfl (lv_at hl 0 rfl) ?_
    refine lv_iload_n hx hb dX0_addToDay_25 rfl (lv_at hl 3 rfl) ?_
    refine k_wrVv (As := [.int (spX0_placeOfDay p2), .int p2]) (rest := []) (ci := 0) (q0 := 0) (ws' := (wB aB ab cA (spX0_put bw (spX0_placeOfDay p2) p2))) (wr := []) ⟨hx, hb, hml, hown, hts⟩ k_self (c_X0_put l D aB ab cA bw (spX0_placeOfDay p2) p2) kv_X0_13 hP hD hS hA hK rfl rfl [0, 1] [] [0, 1] rfl (by decide) rfl (by decide) (by decide) rfl (by decide) rfl rfl ⟨Nat.le_of_ble_eq_true rfl, Nat.le_of_ble_eq_true rfl⟩ rfl hl.1 rfl (Nat.le_of_ble_eq_true rfl) dX0_addToDay_26 ⟨Nat.zero_le _, Nat.zero_le _⟩ (fun H locs hP hD hS => ?_)
    refine lv_aload_n hx hb dX0_addToDay_29 rfl (lv_at hl 1 rfl) ?_
    refine lv_iload_n hx hb dX0_addToDay_30 rfl (lv_at hl 0 rfl) ?_
    refine lv_iconst (v := 1) hx hb dX0_addToDay_31 (by decide) ?_
    refine lv_iadd hx hb dX0_addToDay_32 ?_
    refine lv_iconst (v := 0) hx hb dX0_addToDay_33 (by decide) ?_
    refine k_wrVv (As := [.int ((spX0_placeOfDay p2) + (1 : Int32)), .int (0 : Int32)]) (rest := []) (ci := 0) (q0 := 0) (ws' := (wB aB ab cA (spX0_put (spX0_put bw (spX0_placeOfDay p2) p2) ((spX0_placeOfDay p2) + (1 : Int32)) (0 : Int32)))) (wr := []) ⟨hx, hb, hml, hown, hts⟩ k_self (c_X0_put l D aB ab cA (spX0_put bw (spX0_placeOfDay p2) p2) ((spX0_placeOfDay p2) + (1 : Int32)) (0 : Int32)) kv_X0_13 hP hD hS hA hK rfl rfl [0, 1] [] [0, 1] rfl (by decide) rfl (by decide) (by decide) rfl (by decide) rfl rfl ⟨Nat.le_of_ble_eq_true rfl, Nat.le_of_ble_eq_true rfl⟩ rfl hl.1 rfl (Nat.le_of_ble_eq_true rfl) dX0_addToDay_34 ⟨Nat.zero_le _, Nat.zero_le _⟩ (fun H locs hP hD hS => ?_)
    refine lv_aload_n hx hb dX0_addToDay_37 rfl (lv_at hl 1 rfl) ?_
    refine lv_iload_n hx hb dX0_addToDay_38 rfl (lv_at hl 0 rfl) ?_
    refine lv_iconst (v := 2) hx hb dX0_addToDay_39 (by decide) ?_
    refine lv_iadd hx hb dX0_addToDay_40 ?_
    refine lv_iconst (v := 0) hx hb dX0_addToDay_41 (by decide) ?_
    refine k_wrVv (As := [.int ((spX0_placeOfDay p2) + (2 : Int32)), .int (0 : Int32)]) (rest := []) (ci := 0) (q0 := 0) (ws' := (wB aB ab cA (spX0_put (spX0_put (spX0_put bw (spX0_placeOfDay p2) p2) ((spX0_placeOfDay p2) + (1 : Int32)) (0 : Int32)) ((spX0_placeOfDay p2) + (2 : Int32)) (0 : Int32)))) (wr := []) ⟨hx, hb, hml, hown, hts⟩ k_self (c_X0_put l D aB ab cA (spX0_put (spX0_put bw (spX0_placeOfDay p2) p2) ((spX0_placeOfDay p2) + (1 : Int32)) (0 : Int32)) ((spX0_placeOfDay p2) + (2 : Int32)) (0 : Int32)) kv_X0_13 hP hD hS hA hK rfl rfl [0, 1] [] [0, 1] rfl (by decide) rfl (by decide) (by decide) rfl (by decide) rfl rfl ⟨Nat.le_of_ble_eq_true rfl, Nat.le_of_ble_eq_true rfl⟩ rfl hl.1 rfl (Nat.le_of_ble_eq_true rfl) dX0_addToDay_42 ⟨Nat.zero_le _, Nat.zero_le _⟩ (fun H locs hP hD hS => ?_)
    refine lv_aload_n hx hb dX0_addToDay_45 rfl (lv_at hl 1 rfl) ?_
    refine lv_iload_n hx hb dX0_addToDay_46 rfl (lv_at hl 0 rfl) ?_
    refine lv_iconst (v := 3) hx hb dX0_addToDay_47 (by decide) ?_
    refine lv_iadd hx hb dX0_addToDay_48 ?_
    refine lv_iconst (v := 0) hx hb dX0_addToDay_49 (by decide) ?_
    refine k_wrVv (As := [.int ((spX0_placeOfDay p2) + (3 : Int32)), .int (0 : Int32)]) (rest := []) (ci := 0) (q0 := 0) (ws' := (wB aB ab cA (spX0_put (spX0_put (spX0_put (spX0_put bw (spX0_placeOfDay p2) p2) ((spX0_placeOfDay p2) + (1 : Int32)) (0 : Int32)) ((spX0_placeOfDay p2) + (2 : Int32)) (0 : Int32)) ((spX0_placeOfDay p2) + (3 : Int32)) (0 : Int32)))) (wr := []) ⟨hx, hb, hml, hown, hts⟩ k_self (c_X0_put l D aB ab cA (spX0_put (spX0_put (spX0_put bw (spX0_placeOfDay p2) p2) ((spX0_placeOfDay p2) + (1 : Int32)) (0 : Int32)) ((spX0_placeOfDay p2) + (2 : Int32)) (0 : Int32)) ((spX0_placeOfDay p2) + (3 : Int32)) (0 : Int32)) kv_X0_13 hP hD hS hA hK rfl rfl [0, 1] [] [0, 1] rfl (by decide) rfl (by decide) (by decide) rfl (by decide) rfl rfl ⟨Nat.le_of_ble_eq_true rfl, Nat.le_of_ble_eq_true rfl⟩ rfl hl.1 rfl (Nat.le_of_ble_eq_true rfl) dX0_addToDay_50 ⟨Nat.zero_le _, Nat.zero_le _⟩ (fun H locs hP hD hS => ?_)
    refine lv_aload_n hx hb dX0_addToDay_53 rfl (lv_at hl 1 rfl) ?_
    refine lv_iload_n hx hb dX0_addToDay_54 rfl (lv_at hl 0 rfl) ?_
    refine k_rdVi (As := [.int (spX0_placeOfDay p2)]) (rest := []) (ci := 0) (q0 := 0) ⟨hx, hb, hml, hown, hts⟩ k_self (c_X0_at l D aB ab cA (spX0_put (spX0_put (spX0_put (spX0_put bw (spX0_placeOfDay p2) p2) ((spX0_placeOfDay p2) + (1 : Int32)) (0 : Int32)) ((spX0_placeOfDay p2) + (2 : Int32)) (0 : Int32)) ((spX0_placeOfDay p2) + (3 : Int32)) (0 : Int32)) (spX0_placeOfDay p2)) kv_X0_17 (hP.sub [0, 1] rfl) (hK.sub [0] rfl) rfl rfl rfl rfl ⟨Nat.le_of_ble_eq_true rfl, Nat.le_of_ble_eq_true rfl⟩ rfl hl.1 rfl (Nat.le_of_ble_eq_true rfl) dX0_addToDay_55 ⟨Nat.zero_le _, Nat.zero_le _⟩ ?_
    refine lv_iload_n hx hb dX0_addToDay_58 rfl (lv_at hl 3 rfl) ?_
    refine lv_icmp_ne (tgt := 77) hx hb dX0_addToDay_59 (by decide) (fun c_59 => ?_) (fun c_59 => ?_)
    · have hE : spX0_addToDay bw p1 p2 = (spX0_put (spX0_put (spX0_put (spX0_put bw (spX0_placeOfDay p2) p2) ((spX0_placeOfDay p2) + (1 : Int32)) (0 : Int32)) ((spX0_placeOfDay p2) + (2 : Int32)) (0 : Int32)) ((spX0_placeOfDay p2) + (3 : Int32)) (0 : Int32)) := by unfold spX0_addToDay; rw [if_pos c_11, if_neg c_59]
      exact W.vret hx hb hr (fun t ht hW => ⟨⟨(), rfl, trivial, by rw [hE, ht]; exact hP, va_K.moved hW.alike hK, by rw [hE]; exact hD⟩, hS.F ht⟩) hS.2.2 dX0_addToDay_77
    · refine lv_aload_n hx hb dX0_addToDay_62 rfl (lv_at hl 1 rfl) ?_
      refine lv_iload_n hx hb dX0_addToDay_63 rfl (lv_at hl 0 rfl) ?_
      refine lv_iconst (v := 1) hx hb dX0_addToDay_64 (by decide) ?_
      refine lv_iadd hx hb dX0_addToDay_65 ?_
      refine k_wrVv (As := [.int ((spX0_placeOfDay p2) + (1 : Int32))]) (rest := []) (ci := 0) (q0 := 0) (ws' := (wB aB ab cA (spX0_addOne (spX0_put (spX0_put (spX0_put (spX0_put bw (spX0_placeOfDay p2) p2) ((spX0_placeOfDay p2) + (1 : Int32)) (0 : Int32)) ((spX0_placeOfDay p2) + (2 : Int32)) (0 : Int32)) ((spX0_placeOfDay p2) + (3 : Int32)) (0 : Int32)) ((spX0_placeOfDay p2) + (1 : Int32))))) (wr := []) ⟨hx, hb, hml, hown, hts⟩ k_self (c_X0_addOne l D aB ab cA (spX0_put (spX0_put (spX0_put (spX0_put bw (spX0_placeOfDay p2) p2) ((spX0_placeOfDay p2) + (1 : Int32)) (0 : Int32)) ((spX0_placeOfDay p2) + (2 : Int32)) (0 : Int32)) ((spX0_placeOfDay p2) + (3 : Int32)) (0 : Int32)) ((spX0_placeOfDay p2) + (1 : Int32))) kv_X0_52 hP hD hS hA hK rfl rfl [0, 1] [] [0, 1] rfl (by decide) rfl (by decide) (by decide) rfl (by decide) rfl rfl ⟨Nat.le_of_ble_eq_true rfl, Nat.le_of_ble_eq_true rfl⟩ rfl hl.1 rfl (Nat.le_of_ble_eq_true rfl) dX0_addToDay_66 ⟨Nat.zero_le _, Nat.zero_le _⟩ (fun H locs hP hD hS => ?_)
      refine lv_aload_n hx hb dX0_addToDay_69 rfl (lv_at hl 1 rfl) ?_
      refine lv_iload_n hx hb dX0_addToDay_70 rfl (lv_at hl 0 rfl) ?_
      refine lv_iconst (v := 2) hx hb dX0_addToDay_71 (by decide) ?_
      refine lv_iadd hx hb dX0_addToDay_72 ?_
      refine lv_iload_n hx hb dX0_addToDay_73 rfl (lv_at hl 2 rfl) ?_
      refine k_wrVv (As := [.int ((spX0_placeOfDay p2) + (2 : Int32)), .int p1]) (rest := []) (ci := 0) (q0 := 0) (ws' := (wB aB ab cA (spX0_addToSum (spX0_addOne (spX0_put (spX0_put (spX0_put (spX0_put bw (spX0_placeOfDay p2) p2) ((spX0_placeOfDay p2) + (1 : Int32)) (0 : Int32)) ((spX0_placeOfDay p2) + (2 : Int32)) (0 : Int32)) ((spX0_placeOfDay p2) + (3 : Int32)) (0 : Int32)) ((spX0_placeOfDay p2) + (1 : Int32))) ((spX0_placeOfDay p2) + (2 : Int32)) p1))) (wr := []) ⟨hx, hb, hml, hown, hts⟩ k_self (c_X0_addToSum l D aB ab cA (spX0_addOne (spX0_put (spX0_put (spX0_put (spX0_put bw (spX0_placeOfDay p2) p2) ((spX0_placeOfDay p2) + (1 : Int32)) (0 : Int32)) ((spX0_placeOfDay p2) + (2 : Int32)) (0 : Int32)) ((spX0_placeOfDay p2) + (3 : Int32)) (0 : Int32)) ((spX0_placeOfDay p2) + (1 : Int32))) ((spX0_placeOfDay p2) + (2 : Int32)) p1) kv_X0_49 hP hD hS hA hK rfl rfl [0, 1] [] [0, 1] rfl (by decide) rfl (by decide) (by decide) rfl (by decide) rfl rfl ⟨Nat.le_of_ble_eq_true rfl, Nat.le_of_ble_eq_true rfl⟩ rfl hl.1 rfl (Nat.le_of_ble_eq_true rfl) dX0_addToDay_74 ⟨Nat.zero_le _, Nat.zero_le _⟩ (fun H locs hP hD hS => ?_)
      have hE : spX0_addToDay bw p1 p2 = (spX0_addToSum (spX0_addOne (spX0_put (spX0_put (spX0_put (spX0_put bw (spX0_placeOfDay p2) p2) ((spX0_placeOfDay p2) + (1 : Int32)) (0 : Int32)) ((spX0_placeOfDay p2) + (2 : Int32)) (0 : Int32)) ((spX0_placeOfDay p2) + (3 : Int32)) (0 : Int32)) ((spX0_placeOfDay p2) + (1 : Int32))) ((spX0_placeOfDay p2) + (2 : Int32)) p1) := by unfold spX0_addToDay; rw [if_pos c_11, if_pos c_59]
      exact W.vret hx hb hr (fun t ht hW => ⟨⟨(), rfl, trivial, by rw [hE, ht]; exact hP, va_K.moved hW.alike hK, by rw [hE]; exact hD⟩, hS.F ht⟩) hS.2.2 dX0_addToDay_77
  · refine lv_aload_n hx hb dX0_addToDay_14 rfl (lv_at hl 1 rfl) ?_
    refine lv_iload_n hx hb dX0_addToDay_15 rfl (lv_at hl 0 rfl) ?_
    refine k_rdVi (As := [.int (spX0_placeOfDay p2)]) (rest := []) (ci := 0) (q0 := 0) ⟨hx, hb, hml, hown, hts⟩ k_self (c_X0_at l D aB ab cA bw (spX0_placeOfDay p2)) kv_X0_17 (hP.sub [0, 1] rfl) (hK.sub [0] rfl) rfl rfl rfl rfl ⟨Nat.le_of_ble_eq_true rfl, Nat.le_of_ble_eq_true rfl⟩ rfl hl.1 rfl (Nat.le_of_ble_eq_true rfl) dX0_addToDay_16 ⟨Nat.zero_le _, Nat.zero_le _⟩ ?_
    refine lv_iload_n hx hb dX0_addToDay_19 rfl (lv_at hl 3 rfl) ?_
    refine lv_icmp_ge (tgt := 53) hx hb dX0_addToDay_20 (by decide) (fun c_20 => ?_) (fun c_20 => ?_)
    · refine lv_aload_n hx hb dX0_addToDay_53 rfl (lv_at hl 1 rfl) ?_
      refine lv_iload_n hx hb dX0_addToDay_54 rfl (lv_at hl 0 rfl) ?_
      refine k_rdVi (As := [.int (spX0_placeOfDay p2)]) (rest := []) (ci := 0) (q0 := 0) ⟨hx, hb, hml, hown, hts⟩ k_self (c_X0_at l D aB ab cA bw (spX0_placeOfDay p2)) kv_X0_17 (hP.sub [0, 1] rfl) (hK.sub [0] rfl) rfl rfl rfl rfl ⟨Nat.le_of_ble_eq_true rfl, Nat.le_of_ble_eq_true rfl⟩ rfl hl.1 rfl (Nat.le_of_ble_eq_true rfl) dX0_addToDay_55 ⟨Nat.zero_le _, Nat.zero_le _⟩ ?_
      refine lv_iload_n hx hb dX0_addToDay_58 rfl (lv_at hl 3 rfl) ?_
      refine lv_icmp_ne (tgt := 77) hx hb dX0_addToDay_59 (by decide) (fun c_59 => ?_) (fun c_59 => ?_)
      · have hE : spX0_addToDay bw p1 p2 = bw := by unfold spX0_addToDay; rw [if_neg c_11, if_pos c_20, if_neg c_59]
        exact W.vret hx hb hr (fun t ht hW => ⟨⟨(), rfl, trivial, by rw [hE, ht]; exact hP, va_K.moved hW.alike hK, by rw [hE]; exact hD⟩, hS.F ht⟩) hS.2.2 dX0_addToDay_77
      · refine lv_aload_n hx hb dX0_addToDay_62 rfl (lv_at hl 1 rfl) ?_
        refine lv_iload_n hx hb dX0_addToDay_63 rfl (lv_at hl 0 rfl) ?_
        refine lv_iconst (v := 1) hx hb dX0_addToDay_64 (by decide) ?_
        refine lv_iadd hx hb dX0_addToDay_65 ?_
        refine k_wrVv (As := [.int ((spX0_placeOfDay p2) + (1 : Int32))]) (rest := []) (ci := 0) (q0 := 0) (ws' := (wB aB ab cA (spX0_addOne bw ((spX0_placeOfDay p2) + (1 : Int32))))) (wr := []) ⟨hx, hb, hml, hown, hts⟩ k_self (c_X0_addOne l D aB ab cA bw ((spX0_placeOfDay p2) + (1 : Int32))) kv_X0_52 hP hD hS hA hK rfl rfl [0, 1] [] [0, 1] rfl (by decide) rfl (by decide) (by decide) rfl (by decide) rfl rfl ⟨Nat.le_of_ble_eq_true rfl, Nat.le_of_ble_eq_true rfl⟩ rfl hl.1 rfl (Nat.le_of_ble_eq_true rfl) dX0_addToDay_66 ⟨Nat.zero_le _, Nat.zero_le _⟩ (fun H locs hP hD hS => ?_)
        refine lv_aload_n hx hb dX0_addToDay_69 rfl (lv_at hl 1 rfl) ?_
        refine lv_iload_n hx hb dX0_addToDay_70 rfl (lv_at hl 0 rfl) ?_
        refine lv_iconst (v := 2) hx hb dX0_addToDay_71 (by decide) ?_
        refine lv_iadd hx hb dX0_addToDay_72 ?_
        refine lv_iload_n hx hb dX0_addToDay_73 rfl (lv_at hl 2 rfl) ?_
        refine k_wrVv (As := [.int ((spX0_placeOfDay p2) + (2 : Int32)), .int p1]) (rest := []) (ci := 0) (q0 := 0) (ws' := (wB aB ab cA (spX0_addToSum (spX0_addOne bw ((spX0_placeOfDay p2) + (1 : Int32))) ((spX0_placeOfDay p2) + (2 : Int32)) p1))) (wr := []) ⟨hx, hb, hml, hown, hts⟩ k_self (c_X0_addToSum l D aB ab cA (spX0_addOne bw ((spX0_placeOfDay p2) + (1 : Int32))) ((spX0_placeOfDay p2) + (2 : Int32)) p1) kv_X0_49 hP hD hS hA hK rfl rfl [0, 1] [] [0, 1] rfl (by decide) rfl (by decide) (by decide) rfl (by decide) rfl rfl ⟨Nat.le_of_ble_eq_true rfl, Nat.le_of_ble_eq_true rfl⟩ rfl hl.1 rfl (Nat.le_of_ble_eq_true rfl) dX0_addToDay_74 ⟨Nat.zero_le _, Nat.zero_le _⟩ (fun H locs hP hD hS => ?_)
        have hE : spX0_addToDay bw p1 p2 = (spX0_addToSum (spX0_addOne bw ((spX0_placeOfDay p2) + (1 : Int32))) ((spX0_placeOfDay p2) + (2 : Int32)) p1) := by unfold spX0_addToDay; rw [if_neg c_11, if_pos c_20, if_pos c_59]
        exact W.vret hx hb hr (fun t ht hW => ⟨⟨(), rfl, trivial, by rw [hE, ht]; exact hP, va_K.moved hW.alike hK, by rw [hE]; exact hD⟩, hS.F ht⟩) hS.2.2 dX0_addToDay_77
    · refine lv_aload_n hx hb dX0_addToDay_23 rfl (lv_at hl 1 rfl) ?_
      refine lv_iload_n hx hb dX0_addToDay_24 rfl (lv_at hl 0 rfl) ?_
      refine lv_iload_n hx hb dX0_addToDay_25 rfl (lv_at hl 3 rfl) ?_
      refine k_wrVv (As := [.int (spX0_placeOfDay p2), .int p2]) (rest := []) (ci := 0) (q0 := 0) (ws' := (wB aB ab cA (spX0_put bw (spX0_placeOfDay p2) p2))) (wr := []) ⟨hx, hb, hml, hown, hts⟩ k_self (c_X0_put l D aB ab cA bw (spX0_placeOfDay p2) p2) kv_X0_13 hP hD hS hA hK rfl rfl [0, 1] [] [0, 1] rfl (by decide) rfl (by decide) (by decide) rfl (by decide) rfl rfl ⟨Nat.le_of_ble_eq_true rfl, Nat.le_of_ble_eq_true rfl⟩ rfl hl.1 rfl (Nat.le_of_ble_eq_true rfl) dX0_addToDay_26 ⟨Nat.zero_le _, Nat.zero_le _⟩ (fun H locs hP hD hS => ?_)
      refine lv_aload_n hx hb dX0_addToDay_29 rfl (lv_at hl 1 rfl) ?_
      refine lv_iload_n hx hb dX0_addToDay_30 rfl (lv_at hl 0 rfl) ?_
      refine lv_iconst (v := 1) hx hb dX0_addToDay_31 (by decide) ?_
      refine lv_iadd hx hb dX0_addToDay_32 ?_
      refine lv_iconst (v := 0) hx hb dX0_addToDay_33 (by decide) ?_
      refine k_wrVv (As := [.int ((spX0_placeOfDay p2) + (1 : Int32)), .int (0 : Int32)]) (rest := []) (ci := 0) (q0 := 0) (ws' := (wB aB ab cA (spX0_put (spX0_put bw (spX0_placeOfDay p2) p2) ((spX0_placeOfDay p2) + (1 : Int32)) (0 : Int32)))) (wr := []) ⟨hx, hb, hml, hown, hts⟩ k_self (c_X0_put l D aB ab cA (spX0_put bw (spX0_placeOfDay p2) p2) ((spX0_placeOfDay p2) + (1 : Int32)) (0 : Int32)) kv_X0_13 hP hD hS hA hK rfl rfl [0, 1] [] [0, 1] rfl (by decide) rfl (by decide) (by decide) rfl (by decide) rfl rfl ⟨Nat.le_of_ble_eq_true rfl, Nat.le_of_ble_eq_true rfl⟩ rfl hl.1 rfl (Nat.le_of_ble_eq_true rfl) dX0_addToDay_34 ⟨Nat.zero_le _, Nat.zero_le _⟩ (fun H locs hP hD hS => ?_)
      refine lv_aload_n hx hb dX0_addToDay_37 rfl (lv_at hl 1 rfl) ?_
      refine lv_iload_n hx hb dX0_addToDay_38 rfl (lv_at hl 0 rfl) ?_
      refine lv_iconst (v := 2) hx hb dX0_addToDay_39 (by decide) ?_
      refine lv_iadd hx hb dX0_addToDay_40 ?_
      refine lv_iconst (v := 0) hx hb dX0_addToDay_41 (by decide) ?_
      refine k_wrVv (As := [.int ((spX0_placeOfDay p2) + (2 : Int32)), .int (0 : Int32)]) (rest := []) (ci := 0) (q0 := 0) (ws' := (wB aB ab cA (spX0_put (spX0_put (spX0_put bw (spX0_placeOfDay p2) p2) ((spX0_placeOfDay p2) + (1 : Int32)) (0 : Int32)) ((spX0_placeOfDay p2) + (2 : Int32)) (0 : Int32)))) (wr := []) ⟨hx, hb, hml, hown, hts⟩ k_self (c_X0_put l D aB ab cA (spX0_put (spX0_put bw (spX0_placeOfDay p2) p2) ((spX0_placeOfDay p2) + (1 : Int32)) (0 : Int32)) ((spX0_placeOfDay p2) + (2 : Int32)) (0 : Int32)) kv_X0_13 hP hD hS hA hK rfl rfl [0, 1] [] [0, 1] rfl (by decide) rfl (by decide) (by decide) rfl (by decide) rfl rfl ⟨Nat.le_of_ble_eq_true rfl, Nat.le_of_ble_eq_true rfl⟩ rfl hl.1 rfl (Nat.le_of_ble_eq_true rfl) dX0_addToDay_42 ⟨Nat.zero_le _, Nat.zero_le _⟩ (fun H locs hP hD hS => ?_)
      refine lv_aload_n hx hb dX0_addToDay_45 rfl (lv_at hl 1 rfl) ?_
      refine lv_iload_n hx hb dX0_addToDay_46 rfl (lv_at hl 0 rfl) ?_
      refine lv_iconst (v := 3) hx hb dX0_addToDay_47 (by decide) ?_
      refine lv_iadd hx hb dX0_addToDay_48 ?_
      refine lv_iconst (v := 0) hx hb dX0_addToDay_49 (by decide) ?_
      refine k_wrVv (As := [.int ((spX0_placeOfDay p2) + (3 : Int32)), .int (0 : Int32)]) (rest := []) (ci := 0) (q0 := 0) (ws' := (wB aB ab cA (spX0_put (spX0_put (spX0_put (spX0_put bw (spX0_placeOfDay p2) p2) ((spX0_placeOfDay p2) + (1 : Int32)) (0 : Int32)) ((spX0_placeOfDay p2) + (2 : Int32)) (0 : Int32)) ((spX0_placeOfDay p2) + (3 : Int32)) (0 : Int32)))) (wr := []) ⟨hx, hb, hml, hown, hts⟩ k_self (c_X0_put l D aB ab cA (spX0_put (spX0_put (spX0_put bw (spX0_placeOfDay p2) p2) ((spX0_placeOfDay p2) + (1 : Int32)) (0 : Int32)) ((spX0_placeOfDay p2) + (2 : Int32)) (0 : Int32)) ((spX0_placeOfDay p2) + (3 : Int32)) (0 : Int32)) kv_X0_13 hP hD hS hA hK rfl rfl [0, 1] [] [0, 1] rfl (by decide) rfl (by decide) (by decide) rfl (by decide) rfl rfl ⟨Nat.le_of_ble_eq_true rfl, Nat.le_of_ble_eq_true rfl⟩ rfl hl.1 rfl (Nat.le_of_ble_eq_true rfl) dX0_addToDay_50 ⟨Nat.zero_le _, Nat.zero_le _⟩ (fun H locs hP hD hS => ?_)
      refine lv_aload_n hx hb dX0_addToDay_53 rfl (lv_at hl 1 rfl) ?_
      refine lv_iload_n hx hb dX0_addToDay_54 rfl (lv_at hl 0 rfl) ?_
      refine k_rdVi (As := [.int (spX0_placeOfDay p2)]) (rest := []) (ci := 0) (q0 := 0) ⟨hx, hb, hml, hown, hts⟩ k_self (c_X0_at l D aB ab cA (spX0_put (spX0_put (spX0_put (spX0_put bw (spX0_placeOfDay p2) p2) ((spX0_placeOfDay p2) + (1 : Int32)) (0 : Int32)) ((spX0_placeOfDay p2) + (2 : Int32)) (0 : Int32)) ((spX0_placeOfDay p2) + (3 : Int32)) (0 : Int32)) (spX0_placeOfDay p2)) kv_X0_17 (hP.sub [0, 1] rfl) (hK.sub [0] rfl) rfl rfl rfl rfl ⟨Nat.le_of_ble_eq_true rfl, Nat.le_of_ble_eq_true rfl⟩ rfl hl.1 rfl (Nat.le_of_ble_eq_true rfl) dX0_addToDay_55 ⟨Nat.zero_le _, Nat.zero_le _⟩ ?_
      refine lv_iload_n hx hb dX0_addToDay_58 rfl (lv_at hl 3 rfl) ?_
      refine lv_icmp_ne (tgt := 77) hx hb dX0_addToDay_59 (by decide) (fun c_59 => ?_) (fun c_59 => ?_)
      · have hE : spX0_addToDay bw p1 p2 = (spX0_put (spX0_put (spX0_put (spX0_put bw (spX0_placeOfDay p2) p2) ((spX0_placeOfDay p2) + (1 : Int32)) (0 : Int32)) ((spX0_placeOfDay p2) + (2 : Int32)) (0 : Int32)) ((spX0_placeOfDay p2) + (3 : Int32)) (0 : Int32)) := by unfold spX0_addToDay; rw [if_neg c_11, if_neg c_20, if_neg c_59]
        exact W.vret hx hb hr (fun t ht hW => ⟨⟨(), rfl, trivial, by rw [hE, ht]; exact hP, va_K.moved hW.alike hK, by rw [hE]; exact hD⟩, hS.F ht⟩) hS.2.2 dX0_addToDay_77
      · refine lv_aload_n hx hb dX0_addToDay_62 rfl (lv_at hl 1 rfl) ?_
        refine lv_iload_n hx hb dX0_addToDay_63 rfl (lv_at hl 0 rfl) ?_
        refine lv_iconst (v := 1) hx hb dX0_addToDay_64 (by decide) ?_
        refine lv_iadd hx hb dX0_addToDay_65 ?_
        refine k_wrVv (As := [.int ((spX0_placeOfDay p2) + (1 : Int32))]) (rest := []) (ci := 0) (q0 := 0) (ws' := (wB aB ab cA (spX0_addOne (spX0_put (spX0_put (spX0_put (spX0_put bw (spX0_placeOfDay p2) p2) ((spX0_placeOfDay p2) + (1 : Int32)) (0 : Int32)) ((spX0_placeOfDay p2) + (2 : Int32)) (0 : Int32)) ((spX0_placeOfDay p2) + (3 : Int32)) (0 : Int32)) ((spX0_placeOfDay p2) + (1 : Int32))))) (wr := []) ⟨hx, hb, hml, hown, hts⟩ k_self (c_X0_addOne l D aB ab cA (spX0_put (spX0_put (spX0_put (spX0_put bw (spX0_placeOfDay p2) p2) ((spX0_placeOfDay p2) + (1 : Int32)) (0 : Int32)) ((spX0_placeOfDay p2) + (2 : Int32)) (0 : Int32)) ((spX0_placeOfDay p2) + (3 : Int32)) (0 : Int32)) ((spX0_placeOfDay p2) + (1 : Int32))) kv_X0_52 hP hD hS hA hK rfl rfl [0, 1] [] [0, 1] rfl (by decide) rfl (by decide) (by decide) rfl (by decide) rfl rfl ⟨Nat.le_of_ble_eq_true rfl, Nat.le_of_ble_eq_true rfl⟩ rfl hl.1 rfl (Nat.le_of_ble_eq_true rfl) dX0_addToDay_66 ⟨Nat.zero_le _, Nat.zero_le _⟩ (fun H locs hP hD hS => ?_)
        refine lv_aload_n hx hb dX0_addToDay_69 rfl (lv_at hl 1 rfl) ?_
        refine lv_iload_n hx hb dX0_addToDay_70 rfl (lv_at hl 0 rfl) ?_
        refine lv_iconst (v := 2) hx hb dX0_addToDay_71 (by decide) ?_
        refine lv_iadd hx hb dX0_addToDay_72 ?_
        refine lv_iload_n hx hb dX0_addToDay_73 rfl (lv_at hl 2 rfl) ?_
        refine k_wrVv (As := [.int ((spX0_placeOfDay p2) + (2 : Int32)), .int p1]) (rest := []) (ci := 0) (q0 := 0) (ws' := (wB aB ab cA (spX0_addToSum (spX0_addOne (spX0_put (spX0_put (spX0_put (spX0_put bw (spX0_placeOfDay p2) p2) ((spX0_placeOfDay p2) + (1 : Int32)) (0 : Int32)) ((spX0_placeOfDay p2) + (2 : Int32)) (0 : Int32)) ((spX0_placeOfDay p2) + (3 : Int32)) (0 : Int32)) ((spX0_placeOfDay p2) + (1 : Int32))) ((spX0_placeOfDay p2) + (2 : Int32)) p1))) (wr := []) ⟨hx, hb, hml, hown, hts⟩ k_self (c_X0_addToSum l D aB ab cA (spX0_addOne (spX0_put (spX0_put (spX0_put (spX0_put bw (spX0_placeOfDay p2) p2) ((spX0_placeOfDay p2) + (1 : Int32)) (0 : Int32)) ((spX0_placeOfDay p2) + (2 : Int32)) (0 : Int32)) ((spX0_placeOfDay p2) + (3 : Int32)) (0 : Int32)) ((spX0_placeOfDay p2) + (1 : Int32))) ((spX0_placeOfDay p2) + (2 : Int32)) p1) kv_X0_49 hP hD hS hA hK rfl rfl [0, 1] [] [0, 1] rfl (by decide) rfl (by decide) (by decide) rfl (by decide) rfl rfl ⟨Nat.le_of_ble_eq_true rfl, Nat.le_of_ble_eq_true rfl⟩ rfl hl.1 rfl (Nat.le_of_ble_eq_true rfl) dX0_addToDay_74 ⟨Nat.zero_le _, Nat.zero_le _⟩ (fun H locs hP hD hS => ?_)
        have hE : spX0_addToDay bw p1 p2 = (spX0_addToSum (spX0_addOne (spX0_put (spX0_put (spX0_put (spX0_put bw (spX0_placeOfDay p2) p2) ((spX0_placeOfDay p2) + (1 : Int32)) (0 : Int32)) ((spX0_placeOfDay p2) + (2 : Int32)) (0 : Int32)) ((spX0_placeOfDay p2) + (3 : Int32)) (0 : Int32)) ((spX0_placeOfDay p2) + (1 : Int32))) ((spX0_placeOfDay p2) + (2 : Int32)) p1) := by unfold spX0_addToDay; rw [if_neg c_11, if_neg c_20, if_pos c_59]
        exact W.vret hx hb hr (fun t ht hW => ⟨⟨(), rfl, trivial, by rw [hE, ht]; exact hP, va_K.moved hW.alike hK, by rw [hE]; exact hD⟩, hS.F ht⟩) hS.2.2 dX0_addToDay_77
def spX0_settleFor (bw : Nat → Int32) (p1 : Int32) : (Nat → Int32) := (if p1 = 0 then (spX0_put (spX0_addToSum (spX0_addToSum bw (2 : Int32) (spX0_at bw (14 : Int32))) (6 : Int32) (spX0_at (spX0_addToSum bw (2 : Int32) (spX0_at bw (14 : Int32))) (14 : Int32))) (14 : Int32) (0 : Int32)) else (spX0_put bw (14 : Int32) (0 : Int32)))
set_option maxHeartbeats 4000000 in
set_option maxRecDepth 100000 in
theorem c_X0_settleFor (l : Launch) (D : va_G) (aB ab : Nat) (cA : ClassId) (bw : Nat → Int32) (p1 : Int32)  : kWv l yX0_settleFor cX0_settleFor 2 none { frames := 3, cells := 0, slots := 0, locals := 66 } D [(cA, .int)] [.ref aB, .int p1] (wB aB ab cA bw) (wB aB ab cA (spX0_settleFor bw p1)) := by
  intro sz
  refine Met.ofW (cc := cX0_settleFor) (maxL := 2) (ret := none) (by decide) rfl ?_
  intro p e s m args below meth c s₁ B hml hv
  obtain ⟨rfl, hsz, hP, hK, hD0⟩ := hv
  have hx := B.exec
  have hb := B.bytes
  have hr := B.returns
  have hts : ∀ w ∈ kG, w.before _ s = true := fun w h => atoms_spec (ws := kT yX0_settleFor cX0_settleFor 2 none) B.pre w (List.mem_cons_of_mem _ h)
  have hown : s.vm.findClass RX0 = some m.cls := findClass_of_methodNamed B.named
  have hlocks := B.notSynchronized
  subst hsz
  have hD := hD0.self (sz := s.heap.size)
  generalize hAe : va_A (wB aB ab cA bw) s.heap.size = A at hD ⊢
  have hA : ∀ q : Nat, s.heap.size ≤ q → A q := fun q h => by rw [← hAe]; exact Or.inr h
  have hS : va_S A s.heap s.heap [] := va_S.rf
  have hl := lv_entry ([.ref aB, .int p1]) (n := 2) (Nat.le_of_ble_eq_true rfl)
  rw [lg_entry_eq]
  generalize (lg_sl ([.ref aB, .int p1]) ++ List.replicate (2 - (lg_sl ([.ref aB, .int p1])).length) Slot.unset).toArray = ls at hl ⊢
  have hl : lv_has ls 2 [(0, .ref aB), (1, .int p1)] := hl
  refine lv_iload_n hx hb dX0_settleFor_0 rfl (lv_at hl 1 rfl) ?_
  refine lv_if_ne (tgt := 27) hx hb dX0_settleFor_1 (by decide) (fun c_1 => ?_) (fun c_1 => ?_)
  · refine lv_aload_n hx hb dX0_settleFor_27 rfl (lv_at hl 0 rfl) ?_
    refine lv_bipush (v := 14) hx hb dX0_settleFor_28 (by decide) ?_
    refine lv_iconst (v := 0) hx hb dX0_settleFor_30 (by decide) ?_
    refine k_wrVv (As := [.int (14 : Int32), .int (0 : Int32)]) (rest := []) (ci := 0) (q0 := 0) (ws' := (wB aB ab cA (spX0_put bw (14 : Int32) (0 : Int32)))) (wr := []) ⟨hx, hb, hml, hown, hts⟩ k_self (c_X0_put l D aB ab cA bw (14 : Int32) (0 : Int32)) kv_X0_13 hP hD hS hA hK rfl rfl [0, 1] [] [0, 1] rfl (by decide) rfl (by decide) (by decide) rfl (by decide) rfl rfl ⟨Nat.le_of_ble_eq_true rfl, Nat.le_of_ble_eq_true rfl⟩ rfl hl.1 rfl (Nat.le_of_ble_eq_true rfl) dX0_settleFor_31 ⟨Nat.zero_le _, Nat.zero_le _⟩ (fun H locs hP hD hS => ?_)
    have hE : spX0_settleFor bw p1 = (spX0_put bw (14 : Int32) (0 : Int32)) := by unfold spX0_settleFor; rw [if_neg c_1]
    exact W.vret hx hb hr (fun t ht hW => ⟨⟨(), rfl, trivial, by rw [hE, ht]; exact hP, va_K.moved hW.alike hK, by rw [hE]; exact hD⟩, hS.F ht⟩) hS.2.2 dX0_settleFor_34
  · refine lv_aload_n hx hb dX0_settleFor_4 rfl (lv_at hl 0 rfl) ?_
    refine lv_iconst (v := 2) hx hb dX0_settleFor_5 (by decide) ?_
    refine lv_aload_n hx hb dX0_settleFor_6 rfl (lv_at hl 0 rfl) ?_
    refine lv_bipush (v := 14) hx hb dX0_settleFor_7 (by decide) ?_
    refine k_rdVi (As := [.int (14 : Int32)]) (rest := [.int (2 : Int32), .ref aB]) (ci := 0) (q0 := 0) ⟨hx, hb, hml, hown, hts⟩ k_self (c_X0_at l D aB ab cA bw (14 : Int32)) kv_X0_17 (hP.sub [0, 1] rfl) (hK.sub [0] rfl) rfl rfl rfl rfl ⟨Nat.le_of_ble_eq_true rfl, Nat.le_of_ble_eq_true rfl⟩ rfl hl.1 rfl (Nat.le_of_ble_eq_true rfl) dX0_settleFor_9 ⟨Nat.zero_le _, Nat.zero_le _⟩ ?_
    refine k_wrVv (As := [.int (2 : Int32), .int (spX0_at bw (14 : Int32))]) (rest := []) (ci := 0) (q0 := 0) (ws' := (wB aB ab cA (spX0_addToSum bw (2 : Int32) (spX0_at bw (14 : Int32))))) (wr := []) ⟨hx, hb, hml, hown, hts⟩ k_self (c_X0_addToSum l D aB ab cA bw (2 : Int32) (spX0_at bw (14 : Int32))) kv_X0_49 hP hD hS hA hK rfl rfl [0, 1] [] [0, 1] rfl (by decide) rfl (by decide) (by decide) rfl (by decide) rfl rfl ⟨Nat.le_of_ble_eq_true rfl, Nat.le_of_ble_eq_true rfl⟩ rfl hl.1 rfl (Nat.le_of_ble_eq_true rfl) dX0_settleFor_12 ⟨Nat.zero_le _, Nat.zero_le _⟩ (fun H locs hP hD hS => ?_)
    refine lv_aload_n hx hb dX0_settleFor_15 rfl (lv_at hl 0 rfl) ?_
    refine lv_bipush (v := 6) hx hb dX0_settleFor_16 (by decide) ?_
    refine lv_aload_n hx hb dX0_settleFor_18 rfl (lv_at hl 0 rfl) ?_
    refine lv_bipush (v := 14) hx hb dX0_settleFor_19 (by decide) ?_
    refine k_rdVi (As := [.int (14 : Int32)]) (rest := [.int (6 : Int32), .ref aB]) (ci := 0) (q0 := 0) ⟨hx, hb, hml, hown, hts⟩ k_self (c_X0_at l D aB ab cA (spX0_addToSum bw (2 : Int32) (spX0_at bw (14 : Int32))) (14 : Int32)) kv_X0_17 (hP.sub [0, 1] rfl) (hK.sub [0] rfl) rfl rfl rfl rfl ⟨Nat.le_of_ble_eq_true rfl, Nat.le_of_ble_eq_true rfl⟩ rfl hl.1 rfl (Nat.le_of_ble_eq_true rfl) dX0_settleFor_21 ⟨Nat.zero_le _, Nat.zero_le _⟩ ?_
    refine k_wrVv (As := [.int (6 : Int32), .int (spX0_at (spX0_addToSum bw (2 : Int32) (spX0_at bw (14 : Int32))) (14 : Int32))]) (rest := []) (ci := 0) (q0 := 0) (ws' := (wB aB ab cA (spX0_addToSum (spX0_addToSum bw (2 : Int32) (spX0_at bw (14 : Int32))) (6 : Int32) (spX0_at (spX0_addToSum bw (2 : Int32) (spX0_at bw (14 : Int32))) (14 : Int32))))) (wr := []) ⟨hx, hb, hml, hown, hts⟩ k_self (c_X0_addToSum l D aB ab cA (spX0_addToSum bw (2 : Int32) (spX0_at bw (14 : Int32))) (6 : Int32) (spX0_at (spX0_addToSum bw (2 : Int32) (spX0_at bw (14 : Int32))) (14 : Int32))) kv_X0_49 hP hD hS hA hK rfl rfl [0, 1] [] [0, 1] rfl (by decide) rfl (by decide) (by decide) rfl (by decide) rfl rfl ⟨Nat.le_of_ble_eq_true rfl, Nat.le_of_ble_eq_true rfl⟩ rfl hl.1 rfl (Nat.le_of_ble_eq_true rfl) dX0_settleFor_24 ⟨Nat.zero_le _, Nat.zero_le _⟩ (fun H locs hP hD hS => ?_)
    refine lv_aload_n hx hb dX0_settleFor_27 rfl (lv_at hl 0 rfl) ?_
    refine lv_bipush (v := 14) hx hb dX0_settleFor_28 (by decide) ?_
    refine lv_iconst (v := 0) hx hb dX0_settleFor_30 (by decide) ?_
    refine k_wrVv (As := [.int (14 : Int32), .int (0 : Int32)]) (rest := []) (ci := 0) (q0 := 0) (ws' := (wB aB ab cA (spX0_put (spX0_addToSum (spX0_addToSum bw (2 : Int32) (spX0_at bw (14 : Int32))) (6 : Int32) (spX0_at (spX0_addToSum bw (2 : Int32) (spX0_at bw (14 : Int32))) (14 : Int32))) (14 : Int32) (0 : Int32)))) (wr := []) ⟨hx, hb, hml, hown, hts⟩ k_self (c_X0_put l D aB ab cA (spX0_addToSum (spX0_addToSum bw (2 : Int32) (spX0_at bw (14 : Int32))) (6 : Int32) (spX0_at (spX0_addToSum bw (2 : Int32) (spX0_at bw (14 : Int32))) (14 : Int32))) (14 : Int32) (0 : Int32)) kv_X0_13 hP hD hS hA hK rfl rfl [0, 1] [] [0, 1] rfl (by decide) rfl (by decide) (by decide) rfl (by decide) rfl rfl ⟨Nat.le_of_ble_eq_true rfl, Nat.le_of_ble_eq_true rfl⟩ rfl hl.1 rfl (Nat.le_of_ble_eq_true rfl) dX0_settleFor_31 ⟨Nat.zero_le _, Nat.zero_le _⟩ (fun H locs hP hD hS => ?_)
    have hE : spX0_settleFor bw p1 = (spX0_put (spX0_addToSum (spX0_addToSum bw (2 : Int32) (spX0_at bw (14 : Int32))) (6 : Int32) (spX0_at (spX0_addToSum bw (2 : Int32) (spX0_at bw (14 : Int32))) (14 : Int32))) (14 : Int32) (0 : Int32)) := by unfold spX0_settleFor; rw [if_pos c_1]
    exact W.vret hx hb hr (fun t ht hW => ⟨⟨(), rfl, trivial, by rw [hE, ht]; exact hP, va_K.moved hW.alike hK, by rw [hE]; exact hD⟩, hS.F ht⟩) hS.2.2 dX0_settleFor_34
def spX0_apply (bw : Nat → Int32) (p1 : Int32) (p2 : Int32) (p3 : Int32) : (Nat → Int32) := (if p1 = 1 then (spX0_addToDay (spX0_addPiece bw p2 (p3 - p3 / (16 : Int32) * (16 : Int32))) p2 (p3 / (16 : Int32))) else (if p1 = 2 then (spX0_put bw (14 : Int32) (0 : Int32)) else (if p1 = 3 then (spX0_settleFor bw p2) else (if p1 = 4 then (spX0_addOne (spX0_addToSum (spX0_addToSum bw (2 : Int32) p2) (4 : Int32) p2) (10 : Int32)) else (if p1 = 5 then (spX0_addOne (spX0_addToSum (spX0_addToSum bw (2 : Int32) p2) (6 : Int32) p2) (9 : Int32)) else (if p1 = 6 then (spX0_put bw (12 : Int32) p2) else (if p1 = 7 then (spX0_put bw (11 : Int32) (1 : Int32)) else (if p1 = 8 then (spX0_put bw (11 : Int32) (0 : Int32)) else (if p1 = 9 then (spX0_put bw (13 : Int32) p2) else bw)))))))))
set_option maxHeartbeats 4000000 in
set_option maxRecDepth 100000 in
theorem c_X0_apply (l : Launch) (D : va_G) (aB ab : Nat) (cA : ClassId) (bw : Nat → Int32) (p1 : Int32) (p2 : Int32) (p3 : Int32)  : kWv l yX0_apply cX0_apply 4 none { frames := 4, cells := 0, slots := 0, locals := 89 } D [(cA, .int)] [.ref aB, .int p1, .int p2, .int p3] (wB aB ab cA bw) (wB aB ab cA (spX0_apply bw p1 p2 p3)) := by
  intro sz
  refine Met.ofW (cc := cX0_apply) (maxL := 4) (ret := none) (by decide) rfl ?_
  intro p e s m args below meth c s₁ B hml hv
  obtain ⟨rfl, hsz, hP, hK, hD0⟩ := hv
  have hx := B.exec
  have hb := B.bytes
  have hr := B.returns
  have hts : ∀ w ∈ kG, w.before _ s = true := fun w h => atoms_spec (ws := kT yX0_apply cX0_apply 4 none) B.pre w (List.mem_cons_of_mem _ h)
  have hown : s.vm.findClass RX0 = some m.cls := findClass_of_methodNamed B.named
  have hlocks := B.notSynchronized
  subst hsz
  have hD := hD0.self (sz := s.heap.size)
  generalize hAe : va_A (wB aB ab cA bw) s.heap.size = A at hD ⊢
  have hA : ∀ q : Nat, s.heap.size ≤ q → A q := fun q h => by rw [← hAe]; exact Or.inr h
  have hS : va_S A s.heap s.heap [] := va_S.rf
  have hl := lv_entry ([.ref aB, .int p1, .int p2, .int p3]) (n := 4) (Nat.le_of_ble_eq_true rfl)
  rw [lg_entry_eq]
  generalize (lg_sl ([.ref aB, .int p1, .int p2, .int p3]) ++ List.replicate (4 - (lg_sl ([.ref aB, .int p1, .int p2, .int p3])).length) Slot.unset).toArray = ls at hl ⊢
  have hl : lv_has ls 4 [(0, .ref aB), (1, .int p1), (2, .int p2), (3, .int p3)] := hl
  refine lv_iload_n hx hb dX0_apply_0 rfl (lv_at hl 1 rfl) ?_
  by_cases c_1_1 : p1 = 1
  · refine lv_tableIn (tgt := 52) hx hb dX0_apply_1 (by rw [c_1_1]; decide) (by rw [c_1_1]; decide) (by rw [c_1_1]; rfl) (by decide) ?_
    refine lv_aload_n hx hb dX0_apply_52 rfl (lv_at hl 0 rfl) ?_
    refine lv_iload_n hx hb dX0_apply_53 rfl (lv_at hl 2 rfl) ?_
    refine lv_iload_n hx hb dX0_apply_54 rfl (lv_at hl 3 rfl) ?_
    refine lv_bipush (v := 16) hx hb dX0_apply_55 (by decide) ?_
    refine lv_irem hx hb dX0_apply_57 (by decide) ?_
    refine k_wrVv (As := [.int p2, .int (p3 - p3 / (16 : Int32) * (16 : Int32))]) (rest := []) (ci := 0) (q0 := 0) (ws' := (wB aB ab cA (spX0_addPiece bw p2 (p3 - p3 / (16 : Int32) * (16 : Int32))))) (wr := []) ⟨hx, hb, hml, hown, hts⟩ k_self (c_X0_addPiece l D aB ab cA bw p2 (p3 - p3 / (16 : Int32) * (16 : Int32))) kv_X0_39 hP hD hS hA hK rfl rfl [0, 1] [] [0, 1] rfl (by decide) rfl (by decide) (by decide) rfl (by decide) rfl rfl ⟨Nat.le_of_ble_eq_true rfl, Nat.le_of_ble_eq_true rfl⟩ rfl hl.1 rfl (Nat.le_of_ble_eq_true rfl) dX0_apply_58 ⟨Nat.zero_le _, Nat.zero_le _⟩ (fun H locs hP hD hS => ?_)
    refine lv_aload_n hx hb dX0_apply_61 rfl (lv_at hl 0 rfl) ?_
    refine lv_iload_n hx hb dX0_apply_62 rfl (lv_at hl 2 rfl) ?_
    refine lv_iload_n hx hb dX0_apply_63 rfl (lv_at hl 3 rfl) ?_
    refine lv_bipush (v := 16) hx hb dX0_apply_64 (by decide) ?_
    refine lv_idiv hx hb dX0_apply_66 (by decide) ?_
    refine k_wrVv (As := [.int p2, .int (p3 / (16 : Int32))]) (rest := []) (ci := 0) (q0 := 0) (ws' := (wB aB ab cA (spX0_addToDay (spX0_addPiece bw p2 (p3 - p3 / (16 : Int32) * (16 : Int32))) p2 (p3 / (16 : Int32))))) (wr := []) ⟨hx, hb, hml, hown, hts⟩ k_self (c_X0_addToDay l D aB ab cA (spX0_addPiece bw p2 (p3 - p3 / (16 : Int32) * (16 : Int32))) p2 (p3 / (16 : Int32))) kv_X0_42 hP hD hS hA hK rfl rfl [0, 1] [] [0, 1] rfl (by decide) rfl (by decide) (by decide) rfl (by decide) rfl rfl ⟨Nat.le_of_ble_eq_true rfl, Nat.le_of_ble_eq_true rfl⟩ rfl hl.1 rfl (Nat.le_of_ble_eq_true rfl) dX0_apply_67 ⟨Nat.zero_le _, Nat.zero_le _⟩ (fun H locs hP hD hS => ?_)
    refine lv_goto (tgt := 174) hx hb dX0_apply_70 (by decide) ?_
    have hE : spX0_apply bw p1 p2 p3 = (spX0_addToDay (spX0_addPiece bw p2 (p3 - p3 / (16 : Int32) * (16 : Int32))) p2 (p3 / (16 : Int32))) := by unfold spX0_apply; rw [if_pos c_1_1]
    exact W.vret hx hb hr (fun t ht hW => ⟨⟨(), rfl, trivial, by rw [hE, ht]; exact hP, va_K.moved hW.alike hK, by rw [hE]; exact hD⟩, hS.F ht⟩) hS.2.2 dX0_apply_174
  by_cases c_1_2 : p1 = 2
  · refine lv_tableIn (tgt := 73) hx hb dX0_apply_1 (by rw [c_1_2]; decide) (by rw [c_1_2]; decide) (by rw [c_1_2]; rfl) (by decide) ?_
    refine lv_aload_n hx hb dX0_apply_73 rfl (lv_at hl 0 rfl) ?_
    refine lv_bipush (v := 14) hx hb dX0_apply_74 (by decide) ?_
    refine lv_iconst (v := 0) hx hb dX0_apply_76 (by decide) ?_
    refine k_wrVv (As := [.int (14 : Int32), .int (0 : Int32)]) (rest := []) (ci := 0) (q0 := 0) (ws' := (wB aB ab cA (spX0_put bw (14 : Int32) (0 : Int32)))) (wr := []) ⟨hx, hb, hml, hown, hts⟩ k_self (c_X0_put l D aB ab cA bw (14 : Int32) (0 : Int32)) kv_X0_13 hP hD hS hA hK rfl rfl [0, 1] [] [0, 1] rfl (by decide) rfl (by decide) (by decide) rfl (by decide) rfl rfl ⟨Nat.le_of_ble_eq_true rfl, Nat.le_of_ble_eq_true rfl⟩ rfl hl.1 rfl (Nat.le_of_ble_eq_true rfl) dX0_apply_77 ⟨Nat.zero_le _, Nat.zero_le _⟩ (fun H locs hP hD hS => ?_)
    refine lv_goto (tgt := 174) hx hb dX0_apply_80 (by decide) ?_
    have hE : spX0_apply bw p1 p2 p3 = (spX0_put bw (14 : Int32) (0 : Int32)) := by unfold spX0_apply; rw [if_neg c_1_1, if_pos c_1_2]
    exact W.vret hx hb hr (fun t ht hW => ⟨⟨(), rfl, trivial, by rw [hE, ht]; exact hP, va_K.moved hW.alike hK, by rw [hE]; exact hD⟩, hS.F ht⟩) hS.2.2 dX0_apply_174
  by_cases c_1_3 : p1 = 3
  · refine lv_tableIn (tgt := 83) hx hb dX0_apply_1 (by rw [c_1_3]; decide) (by rw [c_1_3]; decide) (by rw [c_1_3]; rfl) (by decide) ?_
    refine lv_aload_n hx hb dX0_apply_83 rfl (lv_at hl 0 rfl) ?_
    refine lv_iload_n hx hb dX0_apply_84 rfl (lv_at hl 2 rfl) ?_
    refine k_wrVv (As := [.int p2]) (rest := []) (ci := 0) (q0 := 0) (ws' := (wB aB ab cA (spX0_settleFor bw p2))) (wr := []) ⟨hx, hb, hml, hown, hts⟩ k_self (c_X0_settleFor l D aB ab cA bw p2) kv_X0_45 hP hD hS hA hK rfl rfl [0, 1] [] [0, 1] rfl (by decide) rfl (by decide) (by decide) rfl (by decide) rfl rfl ⟨Nat.le_of_ble_eq_true rfl, Nat.le_of_ble_eq_true rfl⟩ rfl hl.1 rfl (Nat.le_of_ble_eq_true rfl) dX0_apply_85 ⟨Nat.zero_le _, Nat.zero_le _⟩ (fun H locs hP hD hS => ?_)
    refine lv_goto (tgt := 174) hx hb dX0_apply_88 (by decide) ?_
    have hE : spX0_apply bw p1 p2 p3 = (spX0_settleFor bw p2) := by unfold spX0_apply; rw [if_neg c_1_1, if_neg c_1_2, if_pos c_1_3]
    exact W.vret hx hb hr (fun t ht hW => ⟨⟨(), rfl, trivial, by rw [hE, ht]; exact hP, va_K.moved hW.alike hK, by rw [hE]; exact hD⟩, hS.F ht⟩) hS.2.2 dX0_apply_174
  by_cases c_1_4 : p1 = 4
  · refine lv_tableIn (tgt := 91) hx hb dX0_apply_1 (by rw [c_1_4]; decide) (by rw [c_1_4]; decide) (by rw [c_1_4]; rfl) (by decide) ?_
    refine lv_aload_n hx hb dX0_apply_91 rfl (lv_at hl 0 rfl) ?_
    refine lv_iconst (v := 2) hx hb dX0_apply_92 (by decide) ?_
    refine lv_iload_n hx hb dX0_apply_93 rfl (lv_at hl 2 rfl) ?_
    refine k_wrVv (As := [.int (2 : Int32), .int p2]) (rest := []) (ci := 0) (q0 := 0) (ws' := (wB aB ab cA (spX0_addToSum bw (2 : Int32) p2))) (wr := []) ⟨hx, hb, hml, hown, hts⟩ k_self (c_X0_addToSum l D aB ab cA bw (2 : Int32) p2) kv_X0_49 hP hD hS hA hK rfl rfl [0, 1] [] [0, 1] rfl (by decide) rfl (by decide) (by decide) rfl (by decide) rfl rfl ⟨Nat.le_of_ble_eq_true rfl, Nat.le_of_ble_eq_true rfl⟩ rfl hl.1 rfl (Nat.le_of_ble_eq_true rfl) dX0_apply_94 ⟨Nat.zero_le _, Nat.zero_le _⟩ (fun H locs hP hD hS => ?_)
    refine lv_aload_n hx hb dX0_apply_97 rfl (lv_at hl 0 rfl) ?_
    refine lv_iconst (v := 4) hx hb dX0_apply_98 (by decide) ?_
    refine lv_iload_n hx hb dX0_apply_99 rfl (lv_at hl 2 rfl) ?_
    refine k_wrVv (As := [.int (4 : Int32), .int p2]) (rest := []) (ci := 0) (q0 := 0) (ws' := (wB aB ab cA (spX0_addToSum (spX0_addToSum bw (2 : Int32) p2) (4 : Int32) p2))) (wr := []) ⟨hx, hb, hml, hown, hts⟩ k_self (c_X0_addToSum l D aB ab cA (spX0_addToSum bw (2 : Int32) p2) (4 : Int32) p2) kv_X0_49 hP hD hS hA hK rfl rfl [0, 1] [] [0, 1] rfl (by decide) rfl (by decide) (by decide) rfl (by decide) rfl rfl ⟨Nat.le_of_ble_eq_true rfl, Nat.le_of_ble_eq_true rfl⟩ rfl hl.1 rfl (Nat.le_of_ble_eq_true rfl) dX0_apply_100 ⟨Nat.zero_le _, Nat.zero_le _⟩ (fun H locs hP hD hS => ?_)
    refine lv_aload_n hx hb dX0_apply_103 rfl (lv_at hl 0 rfl) ?_
    refine lv_bipush (v := 10) hx hb dX0_apply_104 (by decide) ?_
    refine k_wrVv (As := [.int (10 : Int32)]) (rest := []) (ci := 0) (q0 := 0) (ws' := (wB aB ab cA (spX0_addOne (spX0_addToSum (spX0_addToSum bw (2 : Int32) p2) (4 : Int32) p2) (10 : Int32)))) (wr := []) ⟨hx, hb, hml, hown, hts⟩ k_self (c_X0_addOne l D aB ab cA (spX0_addToSum (spX0_addToSum bw (2 : Int32) p2) (4 : Int32) p2) (10 : Int32)) kv_X0_52 hP hD hS hA hK rfl rfl [0, 1] [] [0, 1] rfl (by decide) rfl (by decide) (by decide) rfl (by decide) rfl rfl ⟨Nat.le_of_ble_eq_true rfl, Nat.le_of_ble_eq_true rfl⟩ rfl hl.1 rfl (Nat.le_of_ble_eq_true rfl) dX0_apply_106 ⟨Nat.zero_le _, Nat.zero_le _⟩ (fun H locs hP hD hS => ?_)
    refine lv_goto (tgt := 174) hx hb dX0_apply_109 (by decide) ?_
    have hE : spX0_apply bw p1 p2 p3 = (spX0_addOne (spX0_addToSum (spX0_addToSum bw (2 : Int32) p2) (4 : Int32) p2) (10 : Int32)) := by unfold spX0_apply; rw [if_neg c_1_1, if_neg c_1_2, if_neg c_1_3, if_pos c_1_4]
    exact W.vret hx hb hr (fun t ht hW => ⟨⟨(), rfl, trivial, by rw [hE, ht]; exact hP, va_K.moved hW.alike hK, by rw [hE]; exact hD⟩, hS.F ht⟩) hS.2.2 dX0_apply_174
  by_cases c_1_5 : p1 = 5
  · refine lv_tableIn (tgt := 112) hx hb dX0_apply_1 (by rw [c_1_5]; decide) (by rw [c_1_5]; decide) (by rw [c_1_5]; rfl) (by decide) ?_
    refine lv_aload_n hx hb dX0_apply_112 rfl (lv_at hl 0 rfl) ?_
    refine lv_iconst (v := 2) hx hb dX0_apply_113 (by decide) ?_
    refine lv_iload_n hx hb dX0_apply_114 rfl (lv_at hl 2 rfl) ?_
    refine k_wrVv (As := [.int (2 : Int32), .int p2]) (rest := []) (ci := 0) (q0 := 0) (ws' := (wB aB ab cA (spX0_addToSum bw (2 : Int32) p2))) (wr := []) ⟨hx, hb, hml, hown, hts⟩ k_self (c_X0_addToSum l D aB ab cA bw (2 : Int32) p2) kv_X0_49 hP hD hS hA hK rfl rfl [0, 1] [] [0, 1] rfl (by decide) rfl (by decide) (by decide) rfl (by decide) rfl rfl ⟨Nat.le_of_ble_eq_true rfl, Nat.le_of_ble_eq_true rfl⟩ rfl hl.1 rfl (Nat.le_of_ble_eq_true rfl) dX0_apply_115 ⟨Nat.zero_le _, Nat.zero_le _⟩ (fun H locs hP hD hS => ?_)
    refine lv_aload_n hx hb dX0_apply_118 rfl (lv_at hl 0 rfl) ?_
    refine lv_bipush (v := 6) hx hb dX0_apply_119 (by decide) ?_
    refine lv_iload_n hx hb dX0_apply_121 rfl (lv_at hl 2 rfl) ?_
    refine k_wrVv (As := [.int (6 : Int32), .int p2]) (rest := []) (ci := 0) (q0 := 0) (ws' := (wB aB ab cA (spX0_addToSum (spX0_addToSum bw (2 : Int32) p2) (6 : Int32) p2))) (wr := []) ⟨hx, hb, hml, hown, hts⟩ k_self (c_X0_addToSum l D aB ab cA (spX0_addToSum bw (2 : Int32) p2) (6 : Int32) p2) kv_X0_49 hP hD hS hA hK rfl rfl [0, 1] [] [0, 1] rfl (by decide) rfl (by decide) (by decide) rfl (by decide) rfl rfl ⟨Nat.le_of_ble_eq_true rfl, Nat.le_of_ble_eq_true rfl⟩ rfl hl.1 rfl (Nat.le_of_ble_eq_true rfl) dX0_apply_122 ⟨Nat.zero_le _, Nat.zero_le _⟩ (fun H locs hP hD hS => ?_)
    refine lv_aload_n hx hb dX0_apply_125 rfl (lv_at hl 0 rfl) ?_
    refine lv_bipush (v := 9) hx hb dX0_apply_126 (by decide) ?_
    refine k_wrVv (As := [.int (9 : Int32)]) (rest := []) (ci := 0) (q0 := 0) (ws' := (wB aB ab cA (spX0_addOne (spX0_addToSum (spX0_addToSum bw (2 : Int32) p2) (6 : Int32) p2) (9 : Int32)))) (wr := []) ⟨hx, hb, hml, hown, hts⟩ k_self (c_X0_addOne l D aB ab cA (spX0_addToSum (spX0_addToSum bw (2 : Int32) p2) (6 : Int32) p2) (9 : Int32)) kv_X0_52 hP hD hS hA hK rfl rfl [0, 1] [] [0, 1] rfl (by decide) rfl (by decide) (by decide) rfl (by decide) rfl rfl ⟨Nat.le_of_ble_eq_true rfl, Nat.le_of_ble_eq_true rfl⟩ rfl hl.1 rfl (Nat.le_of_ble_eq_true rfl) dX0_apply_128 ⟨Nat.zero_le _, Nat.zero_le _⟩ (fun H locs hP hD hS => ?_)
    refine lv_goto (tgt := 174) hx hb dX0_apply_131 (by decide) ?_
    have hE : spX0_apply bw p1 p2 p3 = (spX0_addOne (spX0_addToSum (spX0_addToSum bw (2 : Int32) p2) (6 : Int32) p2) (9 : Int32)) := by unfold spX0_apply; rw [if_neg c_1_1, if_neg c_1_2, if_neg c_1_3, if_neg c_1_4, if_pos c_1_5]
    exact W.vret hx hb hr (fun t ht hW => ⟨⟨(), rfl, trivial, by rw [hE, ht]; exact hP, va_K.moved hW.alike hK, by rw [hE]; exact hD⟩, hS.F ht⟩) hS.2.2 dX0_apply_174
  by_cases c_1_6 : p1 = 6
  · refine lv_tableIn (tgt := 134) hx hb dX0_apply_1 (by rw [c_1_6]; decide) (by rw [c_1_6]; decide) (by rw [c_1_6]; rfl) (by decide) ?_
    refine lv_aload_n hx hb dX0_apply_134 rfl (lv_at hl 0 rfl) ?_
    refine lv_bipush (v := 12) hx hb dX0_apply_135 (by decide) ?_
    refine lv_iload_n hx hb dX0_apply_137 rfl (lv_at hl 2 rfl) ?_
    refine k_wrVv (As := [.int (12 : Int32), .int p2]) (rest := []) (ci := 0) (q0 := 0) (ws' := (wB aB ab cA (spX0_put bw (12 : Int32) p2))) (wr := []) ⟨hx, hb, hml, hown, hts⟩ k_self (c_X0_put l D aB ab cA bw (12 : Int32) p2) kv_X0_13 hP hD hS hA hK rfl rfl [0, 1] [] [0, 1] rfl (by decide) rfl (by decide) (by decide) rfl (by decide) rfl rfl ⟨Nat.le_of_ble_eq_true rfl, Nat.le_of_ble_eq_true rfl⟩ rfl hl.1 rfl (Nat.le_of_ble_eq_true rfl) dX0_apply_138 ⟨Nat.zero_le _, Nat.zero_le _⟩ (fun H locs hP hD hS => ?_)
    refine lv_goto (tgt := 174) hx hb dX0_apply_141 (by decide) ?_
    have hE : spX0_apply bw p1 p2 p3 = (spX0_put bw (12 : Int32) p2) := by unfold spX0_apply; rw [if_neg c_1_1, if_neg c_1_2, if_neg c_1_3, if_neg c_1_4, if_neg c_1_5, if_pos c_1_6]
    exact W.vret hx hb hr (fun t ht hW => ⟨⟨(), rfl, trivial, by rw [hE, ht]; exact hP, va_K.moved hW.alike hK, by rw [hE]; exact hD⟩, hS.F ht⟩) hS.2.2 dX0_apply_174
  by_cases c_1_7 : p1 = 7
  · refine lv_tableIn (tgt := 144) hx hb dX0_apply_1 (by rw [c_1_7]; decide) (by rw [c_1_7]; decide) (by rw [c_1_7]; rfl) (by decide) ?_
    refine lv_aload_n hx hb dX0_apply_144 rfl (lv_at hl 0 rfl) ?_
    refine lv_bipush (v := 11) hx hb dX0_apply_145 (by decide) ?_
    refine lv_iconst (v := 1) hx hb dX0_apply_147 (by decide) ?_
    refine k_wrVv (As := [.int (11 : Int32), .int (1 : Int32)]) (rest := []) (ci := 0) (q0 := 0) (ws' := (wB aB ab cA (spX0_put bw (11 : Int32) (1 : Int32)))) (wr := []) ⟨hx, hb, hml, hown, hts⟩ k_self (c_X0_put l D aB ab cA bw (11 : Int32) (1 : Int32)) kv_X0_13 hP hD hS hA hK rfl rfl [0, 1] [] [0, 1] rfl (by decide) rfl (by decide) (by decide) rfl (by decide) rfl rfl ⟨Nat.le_of_ble_eq_true rfl, Nat.le_of_ble_eq_true rfl⟩ rfl hl.1 rfl (Nat.le_of_ble_eq_true rfl) dX0_apply_148 ⟨Nat.zero_le _, Nat.zero_le _⟩ (fun H locs hP hD hS => ?_)
    refine lv_goto (tgt := 174) hx hb dX0_apply_151 (by decide) ?_
    have hE : spX0_apply bw p1 p2 p3 = (spX0_put bw (11 : Int32) (1 : Int32)) := by unfold spX0_apply; rw [if_neg c_1_1, if_neg c_1_2, if_neg c_1_3, if_neg c_1_4, if_neg c_1_5, if_neg c_1_6, if_pos c_1_7]
    exact W.vret hx hb hr (fun t ht hW => ⟨⟨(), rfl, trivial, by rw [hE, ht]; exact hP, va_K.moved hW.alike hK, by rw [hE]; exact hD⟩, hS.F ht⟩) hS.2.2 dX0_apply_174
  by_cases c_1_8 : p1 = 8
  · refine lv_tableIn (tgt := 154) hx hb dX0_apply_1 (by rw [c_1_8]; decide) (by rw [c_1_8]; decide) (by rw [c_1_8]; rfl) (by decide) ?_
    refine lv_aload_n hx hb dX0_apply_154 rfl (lv_at hl 0 rfl) ?_
    refine lv_bipush (v := 11) hx hb dX0_apply_155 (by decide) ?_
    refine lv_iconst (v := 0) hx hb dX0_apply_157 (by decide) ?_
    refine k_wrVv (As := [.int (11 : Int32), .int (0 : Int32)]) (rest := []) (ci := 0) (q0 := 0) (ws' := (wB aB ab cA (spX0_put bw (11 : Int32) (0 : Int32)))) (wr := []) ⟨hx, hb, hml, hown, hts⟩ k_self (c_X0_put l D aB ab cA bw (11 : Int32) (0 : Int32)) kv_X0_13 hP hD hS hA hK rfl rfl [0, 1] [] [0, 1] rfl (by decide) rfl (by decide) (by decide) rfl (by decide) rfl rfl ⟨Nat.le_of_ble_eq_true rfl, Nat.le_of_ble_eq_true rfl⟩ rfl hl.1 rfl (Nat.le_of_ble_eq_true rfl) dX0_apply_158 ⟨Nat.zero_le _, Nat.zero_le _⟩ (fun H locs hP hD hS => ?_)
    refine lv_goto (tgt := 174) hx hb dX0_apply_161 (by decide) ?_
    have hE : spX0_apply bw p1 p2 p3 = (spX0_put bw (11 : Int32) (0 : Int32)) := by unfold spX0_apply; rw [if_neg c_1_1, if_neg c_1_2, if_neg c_1_3, if_neg c_1_4, if_neg c_1_5, if_neg c_1_6, if_neg c_1_7, if_pos c_1_8]
    exact W.vret hx hb hr (fun t ht hW => ⟨⟨(), rfl, trivial, by rw [hE, ht]; exact hP, va_K.moved hW.alike hK, by rw [hE]; exact hD⟩, hS.F ht⟩) hS.2.2 dX0_apply_174
  by_cases c_1_9 : p1 = 9
  · refine lv_tableIn (tgt := 164) hx hb dX0_apply_1 (by rw [c_1_9]; decide) (by rw [c_1_9]; decide) (by rw [c_1_9]; rfl) (by decide) ?_
    refine lv_aload_n hx hb dX0_apply_164 rfl (lv_at hl 0 rfl) ?_
    refine lv_bipush (v := 13) hx hb dX0_apply_165 (by decide) ?_
    refine lv_iload_n hx hb dX0_apply_167 rfl (lv_at hl 2 rfl) ?_
    refine k_wrVv (As := [.int (13 : Int32), .int p2]) (rest := []) (ci := 0) (q0 := 0) (ws' := (wB aB ab cA (spX0_put bw (13 : Int32) p2))) (wr := []) ⟨hx, hb, hml, hown, hts⟩ k_self (c_X0_put l D aB ab cA bw (13 : Int32) p2) kv_X0_13 hP hD hS hA hK rfl rfl [0, 1] [] [0, 1] rfl (by decide) rfl (by decide) (by decide) rfl (by decide) rfl rfl ⟨Nat.le_of_ble_eq_true rfl, Nat.le_of_ble_eq_true rfl⟩ rfl hl.1 rfl (Nat.le_of_ble_eq_true rfl) dX0_apply_168 ⟨Nat.zero_le _, Nat.zero_le _⟩ (fun H locs hP hD hS => ?_)
    refine lv_goto (tgt := 174) hx hb dX0_apply_171 (by decide) ?_
    have hE : spX0_apply bw p1 p2 p3 = (spX0_put bw (13 : Int32) p2) := by unfold spX0_apply; rw [if_neg c_1_1, if_neg c_1_2, if_neg c_1_3, if_neg c_1_4, if_neg c_1_5, if_neg c_1_6, if_neg c_1_7, if_neg c_1_8, if_pos c_1_9]
    exact W.vret hx hb hr (fun t ht hW => ⟨⟨(), rfl, trivial, by rw [hE, ht]; exact hP, va_K.moved hW.alike hK, by rw [hE]; exact hD⟩, hS.F ht⟩) hS.2.2 dX0_apply_174
  refine lv_tableOut (tgt := 174) hx hb dX0_apply_1 (by have nc_1_1 := lv_neT (a := 1) c_1_1 rfl; have nc_1_2 := lv_neT (a := 2) c_1_2 rfl; have nc_1_3 := lv_neT (a := 3) c_1_3 rfl; have nc_1_4 := lv_neT (a := 4) c_1_4 rfl; have nc_1_5 := lv_neT (a := 5) c_1_5 rfl; have nc_1_6 := lv_neT (a := 6) c_1_6 rfl; have nc_1_7 := lv_neT (a := 7) c_1_7 rfl; have nc_1_8 := lv_neT (a := 8) c_1_8 rfl; have nc_1_9 := lv_neT (a := 9) c_1_9 rfl; omega) (by decide) ?_
  have hE : spX0_apply bw p1 p2 p3 = bw := by unfold spX0_apply; rw [if_neg c_1_1, if_neg c_1_2, if_neg c_1_3, if_neg c_1_4, if_neg c_1_5, if_neg c_1_6, if_neg c_1_7, if_neg c_1_8, if_neg c_1_9]
  exact W.vret hx hb hr (fun t ht hW => ⟨⟨(), rfl, trivial, by rw [hE, ht]; exact hP, va_K.moved hW.alike hK, by rw [hE]; exact hD⟩, hS.F ht⟩) hS.2.2 dX0_apply_174
def lpX0_departmentsAddUp_7 : Nat → (Nat → Int32) → Int64 → Int64 → Int32 → Int32
  | 0, _, _, _, _ => 0
  | n + 1, bw, x1, x3, x5 => (if (16 : Int32) ≤ x5 then (if (lg_cmp x1 (Int32.toInt64 (spX0_at bw (8 : Int32)))) = 0 then (if (lg_cmp x3 (spX0_sumAt bw (0 : Int32))) = 0 then (1 : Int32) else (0 : Int32)) else (0 : Int32)) else (lpX0_departmentsAddUp_7 n bw  (x1 + (Int32.toInt64 (spX0_piecesOf bw x5))) (x3 + (spX0_centsOf bw x5)) (x5 + (1 : Int32))))
theorem lpX0_departmentsAddUp_7_e (n : Nat) (bw : Nat → Int32) (x1 : Int64) (x3 : Int64) (x5 : Int32) : lpX0_departmentsAddUp_7 (n + 1) bw x1 x3 x5 = (if (16 : Int32) ≤ x5 then (if (lg_cmp x1 (Int32.toInt64 (spX0_at bw (8 : Int32)))) = 0 then (if (lg_cmp x3 (spX0_sumAt bw (0 : Int32))) = 0 then (1 : Int32) else (0 : Int32)) else (0 : Int32)) else (lpX0_departmentsAddUp_7 n bw  (x1 + (Int32.toInt64 (spX0_piecesOf bw x5))) (x3 + (spX0_centsOf bw x5)) (x5 + (1 : Int32)))) := rfl
def spX0_departmentsAddUp (bw : Nat → Int32) : Int32 := (lpX0_departmentsAddUp_7 17 bw  (0 : Int64) (0 : Int64) (0 : Int32))
set_option maxHeartbeats 4000000 in
set_option maxRecDepth 100000 in
theorem c_X0_departmentsAddUp (l : Launch) (D : va_G) (aB ab : Nat) (cA : ClassId) (bw : Nat → Int32)   : kRi l yX0_departmentsAddUp cX0_departmentsAddUp 6 (some .boolean) { frames := 3, cells := 0, slots := 0, locals := 63 } [.ref aB] (kB D (wB aB ab cA bw) [(cA, .int)]) (spX0_departmentsAddUp bw) := by
  refine Met.ofW (cc := cX0_departmentsAddUp) (maxL := 6) (ret := (some .boolean)) (by decide) rfl ?_
  intro p e s m args below meth c s₁ B hml hv
  obtain ⟨rfl, hP, hK⟩ := hv
  have hx := B.exec
  have hb := B.bytes
  have hr := B.returns
  have hts : ∀ w ∈ kG, w.before _ s = true := fun w h => atoms_spec (ws := kT yX0_departmentsAddUp cX0_departmentsAddUp 6 (some .boolean)) B.pre w (List.mem_cons_of_mem _ h)
  have hown : s.vm.findClass RX0 = some m.cls := findClass_of_methodNamed B.named
  have hlocks := B.notSynchronized
  have hl := lv_entry ([.ref aB]) (n := 6) (Nat.le_of_ble_eq_true rfl)
  rw [lg_entry_eq]
  generalize (lg_sl ([.ref aB]) ++ List.replicate (6 - (lg_sl ([.ref aB])).length) Slot.unset).toArray = ls at hl ⊢
  have hl : lv_has ls 6 [(0, .ref aB)] := hl
  have L7 : ∀ (n : Nat)  (x1 : Int64) (x3 : Int64) (x5 : Int32) (ls : Array Slot), (∃ k : Nat, x5 = nI k ∧ k ≤ 16 ∧ 16 < k + n) → spX0_departmentsAddUp bw = lpX0_departmentsAddUp_7 n bw x1 x3 x5 → lv_has ls 6 [(0, .ref aB), (1, .long x1), (3, .long x3), (5, .int x5)] → W p l e (headSpec (kT yX0_departmentsAddUp cX0_departmentsAddUp 6 (some .boolean)) ({ frames := 3, cells := 0, slots := 0, locals := 63 })).room s m ([.ref aB] : List Value).toArray below meth c s.heap [] 0 0 (MQ below (vp_Si (fun r => r = spX0_departmentsAddUp bw)) ([.ref aB] : List Value).toArray s 0 0 (fun _ => False)) (F0 m 7 ls []) := by
    intro n
    induction n with
    | zero =>
      intro x1 x3 x5 ls hI
      exact absurd hI (by rintro ⟨k, -, h1, h2⟩; omega)
    | succ n ih =>
      intro x1 x3 x5 ls hI hE hl
      obtain ⟨k, hk, hk1, hk2⟩ := hI
      refine lv_iload hx hb dX0_departmentsAddUp_7 (lv_at hl 3 rfl) ?_
      refine lv_bipush (v := 16) hx hb dX0_departmentsAddUp_9 (by decide) ?_
      refine lv_icmp_ge (tgt := 39) hx hb dX0_departmentsAddUp_11 (by decide) (fun c_11 => ?_) (fun c_11 => ?_)
      · refine lv_lload_n hx hb dX0_departmentsAddUp_39 rfl (lv_at hl 1 rfl) ?_
        refine lv_aload_n hx hb dX0_departmentsAddUp_40 rfl (lv_at hl 0 rfl) ?_
        refine lv_bipush (v := 8) hx hb dX0_departmentsAddUp_41 (by decide) ?_
        refine k_rdVi (As := [.int (8 : Int32)]) (rest := [.long x1]) (ci := 0) (q0 := 0) ⟨hx, hb, hml, hown, hts⟩ k_self (c_X0_at l D aB ab cA bw (8 : Int32)) kv_X0_17 (hP.sub [0, 1] rfl) (hK.sub [0] rfl) rfl rfl rfl rfl ⟨Nat.le_of_ble_eq_true rfl, Nat.le_of_ble_eq_true rfl⟩ rfl hl.1 rfl (Nat.le_of_ble_eq_true rfl) dX0_departmentsAddUp_43 ⟨Nat.zero_le _, Nat.zero_le _⟩ ?_
        refine lv_i2l (v := (Int32.toInt64 (spX0_at bw (8 : Int32)))) hx hb dX0_departmentsAddUp_46 rfl ?_
        refine W.lcmp hx hb dX0_departmentsAddUp_47 ?_
        refine lv_if_ne (tgt := 65) hx hb dX0_departmentsAddUp_48 (by decide) (fun c_48 => ?_) (fun c_48 => ?_)
        · refine lv_iconst (v := 0) hx hb dX0_departmentsAddUp_65 (by decide) ?_
          exact W.zret (v := (0 : Int32)) hx hb hr rfl (fun t ht hW => ⟨(0 : Int32), rfl, (show _ = _ from (hE.trans (by rw [lpX0_departmentsAddUp_7_e]; rw [if_pos c_11, if_neg c_48]) : spX0_departmentsAddUp bw = (0 : Int32)).symm), ht⟩) (fun q h => by cases h) dX0_departmentsAddUp_66
        · refine lv_lload_n hx hb dX0_departmentsAddUp_51 rfl (lv_at hl 2 rfl) ?_
          refine lv_aload_n hx hb dX0_departmentsAddUp_52 rfl (lv_at hl 0 rfl) ?_
          refine lv_iconst (v := 0) hx hb dX0_departmentsAddUp_53 (by decide) ?_
          refine k_rdVl (As := [.int (0 : Int32)]) (rest := [.long x3]) (ci := 0) (q0 := 0) ⟨hx, hb, hml, hown, hts⟩ k_self (c_X0_sumAt l D aB ab cA bw (0 : Int32)) kv_X0_26 (hP.sub [0, 1] rfl) (hK.sub [0] rfl) rfl rfl rfl rfl ⟨Nat.le_of_ble_eq_true rfl, Nat.le_of_ble_eq_true rfl⟩ rfl hl.1 rfl (Nat.le_of_ble_eq_true rfl) dX0_departmentsAddUp_54 ⟨Nat.zero_le _, Nat.zero_le _⟩ ?_
          refine W.lcmp hx hb dX0_departmentsAddUp_57 ?_
          refine lv_if_ne (tgt := 65) hx hb dX0_departmentsAddUp_58 (by decide) (fun c_58 => ?_) (fun c_58 => ?_)
          · refine lv_iconst (v := 0) hx hb dX0_departmentsAddUp_65 (by decide) ?_
            exact W.zret (v := (0 : Int32)) hx hb hr rfl (fun t ht hW => ⟨(0 : Int32), rfl, (show _ = _ from (hE.trans (by rw [lpX0_departmentsAddUp_7_e]; rw [if_pos c_11, if_pos c_48, if_neg c_58]) : spX0_departmentsAddUp bw = (0 : Int32)).symm), ht⟩) (fun q h => by cases h) dX0_departmentsAddUp_66
          · refine lv_iconst (v := 1) hx hb dX0_departmentsAddUp_61 (by decide) ?_
            refine lv_goto (tgt := 66) hx hb dX0_departmentsAddUp_62 (by decide) ?_
            exact W.zret (v := (1 : Int32)) hx hb hr rfl (fun t ht hW => ⟨(1 : Int32), rfl, (show _ = _ from (hE.trans (by rw [lpX0_departmentsAddUp_7_e]; rw [if_pos c_11, if_pos c_48, if_pos c_58]) : spX0_departmentsAddUp bw = (1 : Int32)).symm), ht⟩) (fun q h => by cases h) dX0_departmentsAddUp_66
      · refine lv_lload_n hx hb dX0_departmentsAddUp_14 rfl (lv_at hl 1 rfl) ?_
        refine lv_aload_n hx hb dX0_departmentsAddUp_15 rfl (lv_at hl 0 rfl) ?_
        refine lv_iload hx hb dX0_departmentsAddUp_16 (lv_at hl 3 rfl) ?_
        refine k_rdVi (As := [.int x5]) (rest := [.long x1]) (ci := 0) (q0 := 0) ⟨hx, hb, hml, hown, hts⟩ k_self (c_X0_piecesOf l D aB ab cA bw x5) kv_X0_33 (hP.sub [0, 1] rfl) (hK.sub [0] rfl) rfl rfl rfl rfl ⟨Nat.le_of_ble_eq_true rfl, Nat.le_of_ble_eq_true rfl⟩ rfl hl.1 rfl (Nat.le_of_ble_eq_true rfl) dX0_departmentsAddUp_18 ⟨Nat.zero_le _, Nat.zero_le _⟩ ?_
        refine lv_i2l (v := (Int32.toInt64 (spX0_piecesOf bw x5))) hx hb dX0_departmentsAddUp_21 rfl ?_
        refine lv_ladd hx hb dX0_departmentsAddUp_22 ?_
        refine lv_lstore_n (lv' := [(1, .long (x1 + (Int32.toInt64 (spX0_piecesOf bw x5)))), (0, .ref aB), (3, .long x3), (5, .int x5)]) hx hb dX0_departmentsAddUp_23 rfl hl (by decide) rfl (fun ls hl => ?_)
        refine lv_lload_n hx hb dX0_departmentsAddUp_24 rfl (lv_at hl 2 rfl) ?_
        refine lv_aload_n hx hb dX0_departmentsAddUp_25 rfl (lv_at hl 1 rfl) ?_
        refine lv_iload hx hb dX0_departmentsAddUp_26 (lv_at hl 3 rfl) ?_
        refine k_rdVl (As := [.int x5]) (rest := [.long x3]) (ci := 0) (q0 := 0) ⟨hx, hb, hml, hown, hts⟩ k_self (c_X0_centsOf l D aB ab cA bw x5) kv_X0_36 (hP.sub [0, 1] rfl) (hK.sub [0] rfl) rfl rfl rfl rfl ⟨Nat.le_of_ble_eq_true rfl, Nat.le_of_ble_eq_true rfl⟩ rfl hl.1 rfl (Nat.le_of_ble_eq_true rfl) dX0_departmentsAddUp_28 ⟨Nat.zero_le _, Nat.zero_le _⟩ ?_
        refine lv_ladd hx hb dX0_departmentsAddUp_31 ?_
        refine lv_lstore_n (lv' := [(3, .long (x3 + (spX0_centsOf bw x5))), (1, .long (x1 + (Int32.toInt64 (spX0_piecesOf bw x5)))), (0, .ref aB), (5, .int x5)]) hx hb dX0_departmentsAddUp_32 rfl hl (by decide) rfl (fun ls hl => ?_)
        refine lv_iinc (v := (x5 + (1 : Int32))) (lv' := [(5, .int (x5 + (1 : Int32))), (3, .long (x3 + (spX0_centsOf bw x5))), (1, .long (x1 + (Int32.toInt64 (spX0_piecesOf bw x5)))), (0, .ref aB)]) hx hb dX0_departmentsAddUp_33 hl (k := 3) rfl rfl (by decide) rfl (fun ls hl => ?_)
        refine lv_goto (tgt := 7) hx hb dX0_departmentsAddUp_36 (by decide) ?_
        exact ih   (x1 + (Int32.toInt64 (spX0_piecesOf bw x5))) (x3 + (spX0_centsOf bw x5)) (x5 + (1 : Int32)) ls (k_step (N := 16) rfl (by decide) hk hk1 hk2 c_11) (hE.trans (by rw [lpX0_departmentsAddUp_7_e]; rw [if_neg c_11])) (lv_sub hl [3, 2, 1, 0] rfl)
  refine lv_lconst (v := 0) hx hb dX0_departmentsAddUp_0 (by decide) ?_
  refine lv_lstore_n (lv' := [(1, .long (0 : Int64)), (0, .ref aB)]) hx hb dX0_departmentsAddUp_1 rfl hl (by decide) rfl (fun ls hl => ?_)
  refine lv_lconst (v := 0) hx hb dX0_departmentsAddUp_2 (by decide) ?_
  refine lv_lstore_n (lv' := [(3, .long (0 : Int64)), (1, .long (0 : Int64)), (0, .ref aB)]) hx hb dX0_departmentsAddUp_3 rfl hl (by decide) rfl (fun ls hl => ?_)
  refine lv_iconst (v := 0) hx hb dX0_departmentsAddUp_4 (by decide) ?_
  refine lv_istore (lv' := [(5, .int (0 : Int32)), (3, .long (0 : Int64)), (1, .long (0 : Int64)), (0, .ref aB)]) hx hb dX0_departmentsAddUp_5 hl (by decide) rfl (fun ls hl => ?_)
  exact L7 17  (0 : Int64) (0 : Int64) (0 : Int32) ls (⟨0, rfl, by decide, by decide⟩) (by unfold spX0_departmentsAddUp; rfl) (lv_sub hl [3, 2, 1, 0] rfl)
