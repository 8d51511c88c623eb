def spX4_areCents (p1 : Int32) : Int32 := (if p1 < (1 : Int32) then (0 : Int32) else (if (999999999 : Int32) < p1 then (0 : Int32) else (1 : Int32)))
set_option maxHeartbeats 4000000 in
set_option maxRecDepth 100000 in
theorem c_X4_areCents (l : Launch) (p1 : Int32) : kRi l yX4_areCents cX4_areCents 1 (some .boolean) { frames := 0, cells := 0, slots := 0, locals := 0 } [.int p1] (fun _ => True) (spX4_areCents p1) := by
  refine Met.ofW (cc := cX4_areCents) (maxL := 1) (ret := (some .boolean)) (by decide) rfl ?_
  intro p e s m args below meth c s₁ B hml hv
  obtain ⟨rfl, -⟩ := hv
  have hx := B.exec
  have hb := B.bytes
  have hr := B.returns
  have hts : ∀ w ∈ kG, w.before _ s = true := fun w h => atoms_spec (ws := kT yX4_areCents cX4_areCents 1 (some .boolean)) B.pre w (List.mem_cons_of_mem _ h)
  have hown : s.vm.findClass RX4 = some m.cls := findClass_of_methodNamed B.named
  have hlocks := B.notSynchronized
  have hl := lv_entry ([.int p1]) (n := 1) (Nat.le_of_ble_eq_true rfl)
  rw [lg_entry_eq]
  generalize (lg_sl ([.int p1]) ++ List.replicate (1 - (lg_sl ([.int p1])).length) Slot.unset).toArray = ls at hl ⊢
  have hl : lv_has ls 1 [(0, .int p1)] := hl
  refine lv_iload_n hx hb dX4_areCents_0 rfl (lv_at hl 0 rfl) ?_
  refine lv_iconst (v := 1) hx hb dX4_areCents_1 (by decide) ?_
  refine lv_icmp_lt (tgt := 15) hx hb dX4_areCents_2 (by decide) (fun c_2 => ?_) (fun c_2 => ?_)
  · refine lv_iconst (v := 0) hx hb dX4_areCents_15 (by decide) ?_
    exact W.zret (v := (0 : Int32)) hx hb hr rfl (fun t ht hW => ⟨(0 : Int32), rfl, (show _ = _ from (by unfold spX4_areCents; rw [if_pos c_2] : spX4_areCents p1 = (0 : Int32)).symm), ht⟩) (fun q h => by cases h) dX4_areCents_16
  · refine lv_iload_n hx hb dX4_areCents_5 rfl (lv_at hl 0 rfl) ?_
    refine lv_ldc (v := 999999999) hx hb hown (hts _ kw_196) dX4_areCents_6 ?_
    refine lv_icmp_gt (tgt := 15) hx hb dX4_areCents_8 (by decide) (fun c_8 => ?_) (fun c_8 => ?_)
    · refine lv_iconst (v := 0) hx hb dX4_areCents_15 (by decide) ?_
      exact W.zret (v := (0 : Int32)) hx hb hr rfl (fun t ht hW => ⟨(0 : Int32), rfl, (show _ = _ from (by unfold spX4_areCents; rw [if_neg c_2, if_pos c_8] : spX4_areCents p1 = (0 : Int32)).symm), ht⟩) (fun q h => by cases h) dX4_areCents_16
    · refine lv_iconst (v := 1) hx hb dX4_areCents_11 (by decide) ?_
      refine lv_goto (tgt := 16) hx hb dX4_areCents_12 (by decide) ?_
      exact W.zret (v := (1 : Int32)) hx hb hr rfl (fun t ht hW => ⟨(1 : Int32), rfl, (show _ = _ from (by unfold spX4_areCents; rw [if_neg c_2, if_neg c_8] : spX4_areCents p1 = (1 : Int32)).symm), ht⟩) (fun q h => by cases h) dX4_areCents_16
def spX4_isDay (p1 : Int32) : Int32 := (if p1 < 0 then (0 : Int32) else (if (100000 : Int32) < p1 then (0 : Int32) else (1 : Int32)))
set_option maxHeartbeats 4000000 in
set_option maxRecDepth 100000 in
theorem c_X4_isDay (l : Launch) (p1 : Int32) : kRi l yX4_isDay cX4_isDay 1 (some .boolean) { frames := 0, cells := 0, slots := 0, locals := 0 } [.int p1] (fun _ => True) (spX4_isDay p1) := by
  refine Met.ofW (cc := cX4_isDay) (maxL := 1) (ret := (some .boolean)) (by decide) rfl ?_
  intro p e s m args below meth c s₁ B hml hv
  obtain ⟨rfl, -⟩ := hv
  have hx := B.exec
  have hb := B.bytes
  have hr := B.returns
  have hts : ∀ w ∈ kG, w.before _ s = true := fun w h => atoms_spec (ws := kT yX4_isDay cX4_isDay 1 (some .boolean)) B.pre w (List.mem_cons_of_mem _ h)
  have hown : s.vm.findClass RX4 = some m.cls := findClass_of_methodNamed B.named
  have hlocks := B.notSynchronized
  have hl := lv_entry ([.int p1]) (n := 1) (Nat.le_of_ble_eq_true rfl)
  rw [lg_entry_eq]
  generalize (lg_sl ([.int p1]) ++ List.replicate (1 - (lg_sl ([.int p1])).length) Slot.unset).toArray = ls at hl ⊢
  have hl : lv_has ls 1 [(0, .int p1)] := hl
  refine lv_iload_n hx hb dX4_isDay_0 rfl (lv_at hl 0 rfl) ?_
  refine lv_if_lt (tgt := 14) hx hb dX4_isDay_1 (by decide) (fun c_1 => ?_) (fun c_1 => ?_)
  · refine lv_iconst (v := 0) hx hb dX4_isDay_14 (by decide) ?_
    exact W.zret (v := (0 : Int32)) hx hb hr rfl (fun t ht hW => ⟨(0 : Int32), rfl, (show _ = _ from (by unfold spX4_isDay; rw [if_pos c_1] : spX4_isDay p1 = (0 : Int32)).symm), ht⟩) (fun q h => by cases h) dX4_isDay_15
  · refine lv_iload_n hx hb dX4_isDay_4 rfl (lv_at hl 0 rfl) ?_
    refine lv_ldc (v := 100000) hx hb hown (hts _ kw_291) dX4_isDay_5 ?_
    refine lv_icmp_gt (tgt := 14) hx hb dX4_isDay_7 (by decide) (fun c_7 => ?_) (fun c_7 => ?_)
    · refine lv_iconst (v := 0) hx hb dX4_isDay_14 (by decide) ?_
      exact W.zret (v := (0 : Int32)) hx hb hr rfl (fun t ht hW => ⟨(0 : Int32), rfl, (show _ = _ from (by unfold spX4_isDay; rw [if_neg c_1, if_pos c_7] : spX4_isDay p1 = (0 : Int32)).symm), ht⟩) (fun q h => by cases h) dX4_isDay_15
    · refine lv_iconst (v := 1) hx hb dX4_isDay_10 (by decide) ?_
      refine lv_goto (tgt := 15) hx hb dX4_isDay_11 (by decide) ?_
      exact W.zret (v := (1 : Int32)) hx hb hr rfl (fun t ht hW => ⟨(1 : Int32), rfl, (show _ = _ from (by unfold spX4_isDay; rw [if_neg c_1, if_neg c_7] : spX4_isDay p1 = (1 : Int32)).symm), ht⟩) (fun q h => by cases h) dX4_isDay_15
def spX4_isDepartment (p1 : Int32) : Int32 := (if p1 < 0 then (0 : Int32) else (if (16 : Int32) ≤ p1 then (0 : Int32) else (1 : Int32)))
set_option maxHeartbeats 4000000 in
set_option maxRecDepth 100000 in
theorem c_X4_isDepartment (l : Launch) (p1 : Int32) : kRi l yX4_isDepartment cX4_isDepartment 1 (some .boolean) { frames := 0, cells := 0, slots := 0, locals := 0 } [.int p1] (fun _ => True) (spX4_isDepartment p1) := by
  refine Met.ofW (cc := cX4_isDepartment) (maxL := 1) (ret := (some .boolean)) (by decide) rfl ?_
  intro p e s m args below meth c s₁ B hml hv
  obtain ⟨rfl, -⟩ := hv
  have hx := B.exec
  have hb := B.bytes
  have hr := B.returns
  have hts : ∀ w ∈ kG, w.before _ s = true := fun w h => atoms_spec (ws := kT yX4_isDepartment cX4_isDepartment 1 (some .boolean)) B.pre w (List.mem_cons_of_mem _ h)
  have hown : s.vm.findClass RX4 = some m.cls := findClass_of_methodNamed B.named
  have hlocks := B.notSynchronized
  have hl := lv_entry ([.int p1]) (n := 1) (Nat.le_of_ble_eq_true rfl)
  rw [lg_entry_eq]
  generalize (lg_sl ([.int p1]) ++ List.replicate (1 - (lg_sl ([.int p1])).length) Slot.unset).toArray = ls at hl ⊢
  have hl : lv_has ls 1 [(0, .int p1)] := hl
  refine lv_iload_n hx hb dX4_isDepartment_0 rfl (lv_at hl 0 rfl) ?_
  refine lv_if_lt (tgt := 14) hx hb dX4_isDepartment_1 (by decide) (fun c_1 => ?_) (fun c_1 => ?_)
  · refine lv_iconst (v := 0) hx hb dX4_isDepartment_14 (by decide) ?_
    exact W.zret (v := (0 : Int32)) hx hb hr rfl (fun t ht hW => ⟨(0 : Int32), rfl, (show _ = _ from (by unfold spX4_isDepartment; rw [if_pos c_1] : spX4_isDepartment p1 = (0 : Int32)).symm), ht⟩) (fun q h => by cases h) dX4_isDepartment_15
  · refine lv_iload_n hx hb dX4_isDepartment_4 rfl (lv_at hl 0 rfl) ?_
    refine lv_bipush (v := 16) hx hb dX4_isDepartment_5 (by decide) ?_
    refine lv_icmp_ge (tgt := 14) hx hb dX4_isDepartment_7 (by decide) (fun c_7 => ?_) (fun c_7 => ?_)
    · refine lv_iconst (v := 0) hx hb dX4_isDepartment_14 (by decide) ?_
      exact W.zret (v := (0 : Int32)) hx hb hr rfl (fun t ht hW => ⟨(0 : Int32), rfl, (show _ = _ from (by unfold spX4_isDepartment; rw [if_neg c_1, if_pos c_7] : spX4_isDepartment p1 = (0 : Int32)).symm), ht⟩) (fun q h => by cases h) dX4_isDepartment_15
    · refine lv_iconst (v := 1) hx hb dX4_isDepartment_10 (by decide) ?_
      refine lv_goto (tgt := 15) hx hb dX4_isDepartment_11 (by decide) ?_
      exact W.zret (v := (1 : Int32)) hx hb hr rfl (fun t ht hW => ⟨(1 : Int32), rfl, (show _ = _ from (by unfold spX4_isDepartment; rw [if_neg c_1, if_neg c_7] : spX4_isDepartment p1 = (1 : Int32)).symm), ht⟩) (fun q h => by cases h) dX4_isDepartment_15
def spX4_isPiecesOrCents (p1 : Int32) : Int32 := (if p1 = 0 then (1 : Int32) else (if p1 = (1 : Int32) then (1 : Int32) else (0 : Int32)))
set_option maxHeartbeats 4000000 in
set_option maxRecDepth 100000 in
theorem c_X4_isPiecesOrCents (l : Launch) (p1 : Int32) : kRi l yX4_isPiecesOrCents cX4_isPiecesOrCents 1 (some .boolean) { frames := 0, cells := 0, slots := 0, locals := 0 } [.int p1] (fun _ => True) (spX4_isPiecesOrCents p1) := by
  refine Met.ofW (cc := cX4_isPiecesOrCents) (maxL := 1) (ret := (some .boolean)) (by decide) rfl ?_
  intro p e s m args below meth c s₁ B hml hv
  obtain ⟨rfl, -⟩ := hv
  have hx := B.exec
  have hb := B.bytes
  have hr := B.returns
  have hts : ∀ w ∈ kG, w.before _ s = true := fun w h => atoms_spec (ws := kT yX4_isPiecesOrCents cX4_isPiecesOrCents 1 (some .boolean)) B.pre w (List.mem_cons_of_mem _ h)
  have hown : s.vm.findClass RX4 = some m.cls := findClass_of_methodNamed B.named
  have hlocks := B.notSynchronized
  have hl := lv_entry ([.int p1]) (n := 1) (Nat.le_of_ble_eq_true rfl)
  rw [lg_entry_eq]
  generalize (lg_sl ([.int p1]) ++ List.replicate (1 - (lg_sl ([.int p1])).length) Slot.unset).toArray = ls at hl ⊢
  have hl : lv_has ls 1 [(0, .int p1)] := hl
  refine lv_iload_n hx hb dX4_isPiecesOrCents_0 rfl (lv_at hl 0 rfl) ?_
  refine lv_if_eq (tgt := 9) hx hb dX4_isPiecesOrCents_1 (by decide) (fun c_1 => ?_) (fun c_1 => ?_)
  · refine lv_iconst (v := 1) hx hb dX4_isPiecesOrCents_9 (by decide) ?_
    refine lv_goto (tgt := 14) hx hb dX4_isPiecesOrCents_10 (by decide) ?_
    exact W.zret (v := (1 : Int32)) hx hb hr rfl (fun t ht hW => ⟨(1 : Int32), rfl, (show _ = _ from (by unfold spX4_isPiecesOrCents; rw [if_pos c_1] : spX4_isPiecesOrCents p1 = (1 : Int32)).symm), ht⟩) (fun q h => by cases h) dX4_isPiecesOrCents_14
  · refine lv_iload_n hx hb dX4_isPiecesOrCents_4 rfl (lv_at hl 0 rfl) ?_
    refine lv_iconst (v := 1) hx hb dX4_isPiecesOrCents_5 (by decide) ?_
    refine lv_icmp_ne (tgt := 13) hx hb dX4_isPiecesOrCents_6 (by decide) (fun c_6 => ?_) (fun c_6 => ?_)
    · refine lv_iconst (v := 0) hx hb dX4_isPiecesOrCents_13 (by decide) ?_
      exact W.zret (v := (0 : Int32)) hx hb hr rfl (fun t ht hW => ⟨(0 : Int32), rfl, (show _ = _ from (by unfold spX4_isPiecesOrCents; rw [if_neg c_1, if_neg c_6] : spX4_isPiecesOrCents p1 = (0 : Int32)).symm), ht⟩) (fun q h => by cases h) dX4_isPiecesOrCents_14
    · refine lv_iconst (v := 1) hx hb dX4_isPiecesOrCents_9 (by decide) ?_
      refine lv_goto (tgt := 14) hx hb dX4_isPiecesOrCents_10 (by decide) ?_
      exact W.zret (v := (1 : Int32)) hx hb hr rfl (fun t ht hW => ⟨(1 : Int32), rfl, (show _ = _ from (by unfold spX4_isPiecesOrCents; rw [if_neg c_1, if_pos c_6] : spX4_isPiecesOrCents p1 = (1 : Int32)).symm), ht⟩) (fun q h => by cases h) dX4_isPiecesOrCents_14
def spX4_isLocked (bw : Nat → Int32) : Int32 := (if (spX0_at bw (11 : Int32)) = 0 then (0 : Int32) else (1 : Int32))
set_option maxHeartbeats 4000000 in
set_option maxRecDepth 100000 in
theorem c_X4_isLocked (l : Launch) (D : va_G) (aD aT ad af aJ aM aw ae aB ab : Nat) (cA : ClassId) (mn : Int32) (po : Int64) (co : Int64) (dr : Nat → Int32) (tb : Nat → Int32) (sc : Int32) (rc : Int32) (la : Int32) (pw : Int32) (ce : Int32) (lf : Int32) (mq : Int32) (ct : Int32) (wd : Nat → Int32) (er : Nat → Int32) (bw : Nat → Int32)   : kRi l yX4_isLocked cX4_isLocked 1 (some .boolean) { frames := 1, cells := 0, slots := 0, locals := 21 } [.ref aD] (kB D (wD aD aT ad af aJ aM aw ae aB ab cA mn po co dr tb sc rc la pw ce lf mq ct wd er bw) [(cA, .int)]) (spX4_isLocked bw) := by
  refine Met.ofW (cc := cX4_isLocked) (maxL := 1) (ret := (some .boolean)) (by decide) rfl ?_
  intro p e s m args below meth c s₁ B hml hv
  obtain ⟨rfl, hP, hK⟩ := hv
  have hx := B.exec
  have hb := B.bytes
  have hr := B.returns
  have hts : ∀ w ∈ kG, w.before _ s = true := fun w h => atoms_spec (ws := kT yX4_isLocked cX4_isLocked 1 (some .boolean)) B.pre w (List.mem_cons_of_mem _ h)
  have hown : s.vm.findClass RX4 = some m.cls := findClass_of_methodNamed B.named
  have hlocks := B.notSynchronized
  have hl := lv_entry ([.ref aD]) (n := 1) (Nat.le_of_ble_eq_true rfl)
  rw [lg_entry_eq]
  generalize (lg_sl ([.ref aD]) ++ List.replicate (1 - (lg_sl ([.ref aD])).length) Slot.unset).toArray = ls at hl ⊢
  have hl : lv_has ls 1 [(0, .ref aD)] := hl
  refine lv_aload_n hx hb dX4_isLocked_0 rfl (lv_at hl 0 rfl) ?_
  refine va_get (D := D) (ci := 4) (v := .ref aB) (C := RX4) (T := TX4) (N := 7) hx hb hts k_inX4 hown hK hP 0 rfl rfl 3 (by decide) (hts _ kw_173) (fun _ h9 => h9) rfl dX4_isLocked_1 ?_
  refine lv_bipush (v := 11) hx hb dX4_isLocked_4 (by decide) ?_
  refine k_rdVi (As := [.int (11 : Int32)]) (rest := []) (ci := 0) (q0 := 0) ⟨hx, hb, hml, hown, hts⟩ k_self (c_X0_at l D aB ab cA bw (11 : Int32)) kv_X4_62 (hP.sub [8, 9] rfl) (hK.sub [0] rfl) rfl rfl rfl rfl ⟨Nat.le_of_ble_eq_true rfl, Nat.le_of_ble_eq_true rfl⟩ rfl hl.1 rfl (Nat.le_of_ble_eq_true rfl) dX4_isLocked_6 ⟨Nat.zero_le _, Nat.zero_le _⟩ ?_
  refine lv_if_eq (tgt := 16) hx hb dX4_isLocked_9 (by decide) (fun c_9 => ?_) (fun c_9 => ?_)
  · refine lv_iconst (v := 0) hx hb dX4_isLocked_16 (by decide) ?_
    exact W.zret (v := (0 : Int32)) hx hb hr rfl (fun t ht hW => ⟨(0 : Int32), rfl, (show _ = _ from (by unfold spX4_isLocked; rw [if_pos c_9] : spX4_isLocked bw = (0 : Int32)).symm), ht⟩) (fun q h => by cases h) dX4_isLocked_17
  · refine lv_iconst (v := 1) hx hb dX4_isLocked_12 (by decide) ?_
    refine lv_goto (tgt := 17) hx hb dX4_isLocked_13 (by decide) ?_
    exact W.zret (v := (1 : Int32)) hx hb hr rfl (fun t ht hW => ⟨(1 : Int32), rfl, (show _ = _ from (by unfold spX4_isLocked; rw [if_neg c_9] : spX4_isLocked bw = (1 : Int32)).symm), ht⟩) (fun q h => by cases h) dX4_isLocked_17
def spX4_isUncertain (bw : Nat → Int32) : Int32 := (if (spX0_at bw (14 : Int32)) = 0 then (0 : Int32) else (1 : Int32))
set_option maxHeartbeats 4000000 in
set_option maxRecDepth 100000 in
theorem c_X4_isUncertain (l : Launch) (D : va_G) (aD aT ad af aJ aM aw ae aB ab : Nat) (cA : ClassId) (mn : Int32) (po : Int64) (co : Int64) (dr : Nat → Int32) (tb : Nat → Int32) (sc : Int32) (rc : Int32) (la : Int32) (pw : Int32) (ce : Int32) (lf : Int32) (mq : Int32) (ct : Int32) (wd : Nat → Int32) (er : Nat → Int32) (bw : Nat → Int32)   : kRi l yX4_isUncertain cX4_isUncertain 1 (some .boolean) { frames := 1, cells := 0, slots := 0, locals := 21 } [.ref aD] (kB D (wD aD aT ad af aJ aM aw ae aB ab cA mn po co dr tb sc rc la pw ce lf mq ct wd er bw) [(cA, .int)]) (spX4_isUncertain bw) := by
  refine Met.ofW (cc := cX4_isUncertain) (maxL := 1) (ret := (some .boolean)) (by decide) rfl ?_
  intro p e s m args below meth c s₁ B hml hv
  obtain ⟨rfl, hP, hK⟩ := hv
  have hx := B.exec
  have hb := B.bytes
  have hr := B.returns
  have hts : ∀ w ∈ kG, w.before _ s = true := fun w h => atoms_spec (ws := kT yX4_isUncertain cX4_isUncertain 1 (some .boolean)) B.pre w (List.mem_cons_of_mem _ h)
  have hown : s.vm.findClass RX4 = some m.cls := findClass_of_methodNamed B.named
  have hlocks := B.notSynchronized
  have hl := lv_entry ([.ref aD]) (n := 1) (Nat.le_of_ble_eq_true rfl)
  rw [lg_entry_eq]
  generalize (lg_sl ([.ref aD]) ++ List.replicate (1 - (lg_sl ([.ref aD])).length) Slot.unset).toArray = ls at hl ⊢
  have hl : lv_has ls 1 [(0, .ref aD)] := hl
  refine lv_aload_n hx hb dX4_isUncertain_0 rfl (lv_at hl 0 rfl) ?_
  refine va_get (D := D) (ci := 4) (v := .ref aB) (C := RX4) (T := TX4) (N := 7) hx hb hts k_inX4 hown hK hP 0 rfl rfl 3 (by decide) (hts _ kw_173) (fun _ h9 => h9) rfl dX4_isUncertain_1 ?_
  refine lv_bipush (v := 14) hx hb dX4_isUncertain_4 (by decide) ?_
  refine k_rdVi (As := [.int (14 : Int32)]) (rest := []) (ci := 0) (q0 := 0) ⟨hx, hb, hml, hown, hts⟩ k_self (c_X0_at l D aB ab cA bw (14 : Int32)) kv_X4_62 (hP.sub [8, 9] rfl) (hK.sub [0] rfl) rfl rfl rfl rfl ⟨Nat.le_of_ble_eq_true rfl, Nat.le_of_ble_eq_true rfl⟩ rfl hl.1 rfl (Nat.le_of_ble_eq_true rfl) dX4_isUncertain_6 ⟨Nat.zero_le _, Nat.zero_le _⟩ ?_
  refine lv_if_eq (tgt := 16) hx hb dX4_isUncertain_9 (by decide) (fun c_9 => ?_) (fun c_9 => ?_)
  · refine lv_iconst (v := 0) hx hb dX4_isUncertain_16 (by decide) ?_
    exact W.zret (v := (0 : Int32)) hx hb hr rfl (fun t ht hW => ⟨(0 : Int32), rfl, (show _ = _ from (by unfold spX4_isUncertain; rw [if_pos c_9] : spX4_isUncertain bw = (0 : Int32)).symm), ht⟩) (fun q h => by cases h) dX4_isUncertain_17
  · refine lv_iconst (v := 1) hx hb dX4_isUncertain_12 (by decide) ?_
    refine lv_goto (tgt := 17) hx hb dX4_isUncertain_13 (by decide) ?_
    exact W.zret (v := (1 : Int32)) hx hb hr rfl (fun t ht hW => ⟨(1 : Int32), rfl, (show _ = _ from (by unfold spX4_isUncertain; rw [if_neg c_9] : spX4_isUncertain bw = (1 : Int32)).symm), ht⟩) (fun q h => by cases h) dX4_isUncertain_17
def spX4_mayFrank (bw : Nat → Int32) (p1 : Int32) (p2 : Int32) (p3 : Int32) : Int32 := (if (spX4_isDepartment p1) = 0 then (0 : Int32) else (if (spX4_isDay p3) = 0 then (0 : Int32) else (if (spX4_areCents p2) = 0 then (0 : Int32) else (if 0 < (lg_cmp (Int32.toInt64 p2) (spX0_sumAt bw (2 : Int32))) then (0 : Int32) else (if (spX0_at bw (12 : Int32)) < p3 then (0 : Int32) else (if (spX4_isLocked bw) = 0 then (if (spX4_isUncertain bw) = 0 then (1 : Int32) else (0 : Int32)) else (0 : Int32)))))))
set_option maxHeartbeats 4000000 in
set_option maxRecDepth 100000 in
theorem c_X4_mayFrank (l : Launch) (D : va_G) (aD aT ad af aJ aM aw ae aB ab : Nat) (cA : ClassId) (mn : Int32) (po : Int64) (co : Int64) (dr : Nat → Int32) (tb : Nat → Int32) (sc : Int32) (rc : Int32) (la : Int32) (pw : Int32) (ce : Int32) (lf : Int32) (mq : Int32) (ct : Int32) (wd : Nat → Int32) (er : Nat → Int32) (bw : Nat → Int32) (p1 : Int32) (p2 : Int32) (p3 : Int32)  : kRi l yX4_mayFrank cX4_mayFrank 4 (some .boolean) { frames := 2, cells := 0, slots := 0, locals := 42 } [.ref aD, .int p1, .int p2, .int p3] (kB D (wD aD aT ad af aJ aM aw ae aB ab cA mn po co dr tb sc rc la pw ce lf mq ct wd er bw) [(cA, .int)]) (spX4_mayFrank bw p1 p2 p3) := by
  refine Met.ofW (cc := cX4_mayFrank) (maxL := 4) (ret := (some .boolean)) (by decide) rfl ?_
  intro p e s m args below meth c s₁ B hml hv
  obtain ⟨rfl, hP, hK⟩ := hv
  have hx := B.exec
  have hb := B.bytes
  have hr := B.returns
  have hts : ∀ w ∈ kG, w.before _ s = true := fun w h => atoms_spec (ws := kT yX4_mayFrank cX4_mayFrank 4 (some .boolean)) B.pre w (List.mem_cons_of_mem _ h)
  have hown : s.vm.findClass RX4 = some m.cls := findClass_of_methodNamed B.named
  have hlocks := B.notSynchronized
  have hl := lv_entry ([.ref aD, .int p1, .int p2, .int p3]) (n := 4) (Nat.le_of_ble_eq_true rfl)
  rw [lg_entry_eq]
  generalize (lg_sl ([.ref aD, .int p1, .int p2, .int p3]) ++ List.replicate (4 - (lg_sl ([.ref aD, .int p1, .int p2, .int p3])).length) Slot.unset).toArray = ls at hl ⊢
  have hl : lv_has ls 4 [(0, .ref aD), (1, .int p1), (2, .int p2), (3, .int p3)] := hl
  refine lv_iload_n hx hb dX4_mayFrank_0 rfl (lv_at hl 1 rfl) ?_
  refine k_rdSi (As := [.int p1]) (rest := []) ⟨hx, hb, hml, hown, hts⟩ k_self (c_X4_isDepartment l p1) kv_X4_115 rfl rfl ⟨Nat.le_of_ble_eq_true rfl, Nat.le_of_ble_eq_true rfl⟩ rfl hl.1 rfl (Nat.le_of_ble_eq_true rfl) dX4_mayFrank_1 ⟨Nat.zero_le _, Nat.zero_le _⟩ ?_
  refine lv_if_eq (tgt := 66) hx hb dX4_mayFrank_4 (by decide) (fun c_4 => ?_) (fun c_4 => ?_)
  · refine lv_iconst (v := 0) hx hb dX4_mayFrank_66 (by decide) ?_
    exact W.zret (v := (0 : Int32)) hx hb hr rfl (fun t ht hW => ⟨(0 : Int32), rfl, (show _ = _ from (by unfold spX4_mayFrank; rw [if_pos c_4] : spX4_mayFrank bw p1 p2 p3 = (0 : Int32)).symm), ht⟩) (fun q h => by cases h) dX4_mayFrank_67
  · refine lv_iload_n hx hb dX4_mayFrank_7 rfl (lv_at hl 3 rfl) ?_
    refine k_rdSi (As := [.int p3]) (rest := []) ⟨hx, hb, hml, hown, hts⟩ k_self (c_X4_isDay l p3) kv_X4_110 rfl rfl ⟨Nat.le_of_ble_eq_true rfl, Nat.le_of_ble_eq_true rfl⟩ rfl hl.1 rfl (Nat.le_of_ble_eq_true rfl) dX4_mayFrank_8 ⟨Nat.zero_le _, Nat.zero_le _⟩ ?_
    refine lv_if_eq (tgt := 66) hx hb dX4_mayFrank_11 (by decide) (fun c_11 => ?_) (fun c_11 => ?_)
    · refine lv_iconst (v := 0) hx hb dX4_mayFrank_66 (by decide) ?_
      exact W.zret (v := (0 : Int32)) hx hb hr rfl (fun t ht hW => ⟨(0 : Int32), rfl, (show _ = _ from (by unfold spX4_mayFrank; rw [if_neg c_4, if_pos c_11] : spX4_mayFrank bw p1 p2 p3 = (0 : Int32)).symm), ht⟩) (fun q h => by cases h) dX4_mayFrank_67
    · refine lv_iload_n hx hb dX4_mayFrank_14 rfl (lv_at hl 2 rfl) ?_
      refine k_rdSi (As := [.int p2]) (rest := []) ⟨hx, hb, hml, hown, hts⟩ k_self (c_X4_areCents l p2) kv_X4_89 rfl rfl ⟨Nat.le_of_ble_eq_true rfl, Nat.le_of_ble_eq_true rfl⟩ rfl hl.1 rfl (Nat.le_of_ble_eq_true rfl) dX4_mayFrank_15 ⟨Nat.zero_le _, Nat.zero_le _⟩ ?_
      refine lv_if_eq (tgt := 66) hx hb dX4_mayFrank_18 (by decide) (fun c_18 => ?_) (fun c_18 => ?_)
      · refine lv_iconst (v := 0) hx hb dX4_mayFrank_66 (by decide) ?_
        exact W.zret (v := (0 : Int32)) hx hb hr rfl (fun t ht hW => ⟨(0 : Int32), rfl, (show _ = _ from (by unfold spX4_mayFrank; rw [if_neg c_4, if_neg c_11, if_pos c_18] : spX4_mayFrank bw p1 p2 p3 = (0 : Int32)).symm), ht⟩) (fun q h => by cases h) dX4_mayFrank_67
      · refine lv_iload_n hx hb dX4_mayFrank_21 rfl (lv_at hl 2 rfl) ?_
        refine lv_i2l (v := (Int32.toInt64 p2)) hx hb dX4_mayFrank_22 rfl ?_
        refine lv_aload_n hx hb dX4_mayFrank_23 rfl (lv_at hl 0 rfl) ?_
        refine va_get (D := D) (ci := 4) (v := .ref aB) (C := RX4) (T := TX4) (N := 7) hx hb hts k_inX4 hown hK hP 0 rfl rfl 3 (by decide) (hts _ kw_173) (fun _ h9 => h9) rfl dX4_mayFrank_24 ?_
        refine lv_iconst (v := 2) hx hb dX4_mayFrank_27 (by decide) ?_
        refine k_rdVl (As := [.int (2 : Int32)]) (rest := [.long (Int32.toInt64 p2)]) (ci := 0) (q0 := 0) ⟨hx, hb, hml, hown, hts⟩ k_self (c_X0_sumAt l D aB ab cA bw (2 : Int32)) kv_X4_96 (hP.sub [8, 9] rfl) (hK.sub [0] rfl) rfl rfl rfl rfl ⟨Nat.le_of_ble_eq_true rfl, Nat.le_of_ble_eq_true rfl⟩ rfl hl.1 rfl (Nat.le_of_ble_eq_true rfl) dX4_mayFrank_28 ⟨Nat.zero_le _, Nat.zero_le _⟩ ?_
        refine W.lcmp hx hb dX4_mayFrank_31 ?_
        refine lv_if_gt (tgt := 66) hx hb dX4_mayFrank_32 (by decide) (fun c_32 => ?_) (fun c_32 => ?_)
        · refine lv_iconst (v := 0) hx hb dX4_mayFrank_66 (by decide) ?_
          exact W.zret (v := (0 : Int32)) hx hb hr rfl (fun t ht hW => ⟨(0 : Int32), rfl, (show _ = _ from (by unfold spX4_mayFrank; rw [if_neg c_4, if_neg c_11, if_neg c_18, if_pos c_32] : spX4_mayFrank bw p1 p2 p3 = (0 : Int32)).symm), ht⟩) (fun q h => by cases h) dX4_mayFrank_67
        · refine lv_iload_n hx hb dX4_mayFrank_35 rfl (lv_at hl 3 rfl) ?_
          refine lv_aload_n hx hb dX4_mayFrank_36 rfl (lv_at hl 0 rfl) ?_
          refine va_get (D := D) (ci := 4) (v := .ref aB) (C := RX4) (T := TX4) (N := 7) hx hb hts k_inX4 hown hK hP 0 rfl rfl 3 (by decide) (hts _ kw_173) (fun _ h9 => h9) rfl dX4_mayFrank_37 ?_
          refine lv_bipush (v := 12) hx hb dX4_mayFrank_40 (by decide) ?_
          refine k_rdVi (As := [.int (12 : Int32)]) (rest := [.int p3]) (ci := 0) (q0 := 0) ⟨hx, hb, hml, hown, hts⟩ k_self (c_X0_at l D aB ab cA bw (12 : Int32)) kv_X4_62 (hP.sub [8, 9] rfl) (hK.sub [0] rfl) rfl rfl rfl rfl ⟨Nat.le_of_ble_eq_true rfl, Nat.le_of_ble_eq_true rfl⟩ rfl hl.1 rfl (Nat.le_of_ble_eq_true rfl) dX4_mayFrank_42 ⟨Nat.zero_le _, Nat.zero_le _⟩ ?_
          refine lv_icmp_gt (tgt := 66) hx hb dX4_mayFrank_45 (by decide) (fun c_45 => ?_) (fun c_45 => ?_)
          · refine lv_iconst (v := 0) hx hb dX4_mayFrank_66 (by decide) ?_
            exact W.zret (v := (0 : Int32)) hx hb hr rfl (fun t ht hW => ⟨(0 : Int32), rfl, (show _ = _ from (by unfold spX4_mayFrank; rw [if_neg c_4, if_neg c_11, if_neg c_18, if_neg c_32, if_pos c_45] : spX4_mayFrank bw p1 p2 p3 = (0 : Int32)).symm), ht⟩) (fun q h => by cases h) dX4_mayFrank_67
          · refine lv_aload_n hx hb dX4_mayFrank_48 rfl (lv_at hl 0 rfl) ?_
            refine k_rdVi (As := []) (rest := []) (ci := 4) (q0 := 0) ⟨hx, hb, hml, hown, hts⟩ k_self (c_X4_isLocked l D aD aT ad af aJ aM aw ae aB ab cA mn po co dr tb sc rc la pw ce lf mq ct wd er bw ) kv_X4_133 (hP.sub [0, 1, 2, 3, 4, 5, 6, 7, 8, 9] rfl) (hK.sub [0] rfl) rfl rfl rfl rfl ⟨Nat.le_of_ble_eq_true rfl, Nat.le_of_ble_eq_true rfl⟩ rfl hl.1 rfl (Nat.le_of_ble_eq_true rfl) dX4_mayFrank_49 ⟨Nat.zero_le _, Nat.zero_le _⟩ ?_
            refine lv_if_ne (tgt := 66) hx hb dX4_mayFrank_52 (by decide) (fun c_52 => ?_) (fun c_52 => ?_)
            · refine lv_iconst (v := 0) hx hb dX4_mayFrank_66 (by decide) ?_
              exact W.zret (v := (0 : Int32)) hx hb hr rfl (fun t ht hW => ⟨(0 : Int32), rfl, (show _ = _ from (by unfold spX4_mayFrank; rw [if_neg c_4, if_neg c_11, if_neg c_18, if_neg c_32, if_neg c_45, if_neg c_52] : spX4_mayFrank bw p1 p2 p3 = (0 : Int32)).symm), ht⟩) (fun q h => by cases h) dX4_mayFrank_67
            · refine lv_aload_n hx hb dX4_mayFrank_55 rfl (lv_at hl 0 rfl) ?_
              refine k_rdVi (As := []) (rest := []) (ci := 4) (q0 := 0) ⟨hx, hb, hml, hown, hts⟩ k_self (c_X4_isUncertain l D aD aT ad af aJ aM aw ae aB ab cA mn po co dr tb sc rc la pw ce lf mq ct wd er bw ) kv_X4_151 (hP.sub [0, 1, 2, 3, 4, 5, 6, 7, 8, 9] rfl) (hK.sub [0] rfl) rfl rfl rfl rfl ⟨Nat.le_of_ble_eq_true rfl, Nat.le_of_ble_eq_true rfl⟩ rfl hl.1 rfl (Nat.le_of_ble_eq_true rfl) dX4_mayFrank_56 ⟨Nat.zero_le _, Nat.zero_le _⟩ ?_
              refine lv_if_ne (tgt := 66) hx hb dX4_mayFrank_59 (by decide) (fun c_59 => ?_) (fun c_59 => ?_)
              · refine lv_iconst (v := 0) hx hb dX4_mayFrank_66 (by decide) ?_
                exact W.zret (v := (0 : Int32)) hx hb hr rfl (fun t ht hW => ⟨(0 : Int32), rfl, (show _ = _ from (by unfold spX4_mayFrank; rw [if_neg c_4, if_neg c_11, if_neg c_18, if_neg c_32, if_neg c_45, if_pos c_52, if_neg c_59] : spX4_mayFrank bw p1 p2 p3 = (0 : Int32)).symm), ht⟩) (fun q h => by cases h) dX4_mayFrank_67
              · refine lv_iconst (v := 1) hx hb dX4_mayFrank_62 (by decide) ?_
                refine lv_goto (tgt := 67) hx hb dX4_mayFrank_63 (by decide) ?_
                exact W.zret (v := (1 : Int32)) hx hb hr rfl (fun t ht hW => ⟨(1 : Int32), rfl, (show _ = _ from (by unfold spX4_mayFrank; rw [if_neg c_4, if_neg c_11, if_neg c_18, if_neg c_32, if_neg c_45, if_pos c_52, if_pos c_59] : spX4_mayFrank bw p1 p2 p3 = (1 : Int32)).symm), ht⟩) (fun q h => by cases h) dX4_mayFrank_67
def spX4_codeFor (mn : Int32) (p1 : Int32) (p2 : Int32) : Int32 := (if p1 < 0 then (-1 : Int32) else (if 0 ≤ p2 then (Int64.toInt32 ((((((Int32.toInt64 mn) * (1009 : Int64)) + (Int32.toInt64 p1)) * (1000003 : Int64)) + ((Int32.toInt64 p2) * (7919 : Int64))) - (((((Int32.toInt64 mn) * (1009 : Int64)) + (Int32.toInt64 p1)) * (1000003 : Int64)) + ((Int32.toInt64 p2) * (7919 : Int64))) / (1000000 : Int64) * (1000000 : Int64))) else (-1 : Int32)))
set_option maxHeartbeats 4000000 in
set_option maxRecDepth 100000 in
theorem c_X4_codeFor (l : Launch) (D : va_G) (aD aT ad af aJ aM aw ae aB ab : Nat) (cA : ClassId) (mn : Int32) (po : Int64) (co : Int64) (dr : Nat → Int32) (tb : Nat → Int32) (sc : Int32) (rc : Int32) (la : Int32) (pw : Int32) (ce : Int32) (lf : Int32) (mq : Int32) (ct : Int32) (wd : Nat → Int32) (er : Nat → Int32) (bw : Nat → Int32) (p1 : Int32) (p2 : Int32)  : kRi l yX4_codeFor cX4_codeFor 5 (some .int) { frames := 0, cells := 0, slots := 0, locals := 0 } [.ref aD, .int p1, .int p2] (kB D (wD aD aT ad af aJ aM aw ae aB ab cA mn po co dr tb sc rc la pw ce lf mq ct wd er bw) [(cA, .int)]) (spX4_codeFor mn p1 p2) := by
  refine Met.ofW (cc := cX4_codeFor) (maxL := 5) (ret := (some .int)) (by decide) rfl ?_
  intro p e s m args below meth c s₁ B hml hv
  obtain ⟨rfl, hP, hK⟩ := hv
  have hx := B.exec
  have hb := B.bytes
  have hr := B.returns
  have hts : ∀ w ∈ kG, w.before _ s = true := fun w h => atoms_spec (ws := kT yX4_codeFor cX4_codeFor 5 (some .int)) B.pre w (List.mem_cons_of_mem _ h)
  have hown : s.vm.findClass RX4 = some m.cls := findClass_of_methodNamed B.named
  have hlocks := B.notSynchronized
  have hl := lv_entry ([.ref aD, .int p1, .int p2]) (n := 5) (Nat.le_of_ble_eq_true rfl)
  rw [lg_entry_eq]
  generalize (lg_sl ([.ref aD, .int p1, .int p2]) ++ List.replicate (5 - (lg_sl ([.ref aD, .int p1, .int p2])).length) Slot.unset).toArray = ls at hl ⊢
  have hl : lv_has ls 5 [(0, .ref aD), (1, .int p1), (2, .int p2)] := hl
  refine lv_iload_n hx hb dX4_codeFor_0 rfl (lv_at hl 1 rfl) ?_
  refine lv_if_lt (tgt := 8) hx hb dX4_codeFor_1 (by decide) (fun c_1 => ?_) (fun c_1 => ?_)
  · refine lv_iconst (v := -1) hx hb dX4_codeFor_8 (by decide) ?_
    exact W.iret (v := (-1 : Int32)) hx hb hr (fun t ht hW => ⟨(-1 : Int32), rfl, (show _ = _ from (by unfold spX4_codeFor; rw [if_pos c_1] : spX4_codeFor mn p1 p2 = (-1 : Int32)).symm), ht⟩) (fun q h => by cases h) dX4_codeFor_9
  · refine lv_iload_n hx hb dX4_codeFor_4 rfl (lv_at hl 2 rfl) ?_
    refine lv_if_ge (tgt := 10) hx hb dX4_codeFor_5 (by decide) (fun c_5 => ?_) (fun c_5 => ?_)
    · refine lv_aload_n hx hb dX4_codeFor_10 rfl (lv_at hl 0 rfl) ?_
      refine va_get (D := D) (ci := 4) (v := .int mn) (C := RX4) (T := TX4) (N := 7) hx hb hts k_inX4 hown hK hP 0 rfl rfl 0 (by decide) (hts _ kw_170) (fun _ h9 => h9) rfl dX4_codeFor_11 ?_
      refine lv_i2l (v := (Int32.toInt64 mn)) hx hb dX4_codeFor_14 rfl ?_
      refine lv_ldc2 (v := 1009) hx hb hown (hts _ kw_317) dX4_codeFor_15 ?_
      refine lv_lmul hx hb dX4_codeFor_18 ?_
      refine lv_iload_n hx hb dX4_codeFor_19 rfl (lv_at hl 1 rfl) ?_
      refine lv_i2l (v := (Int32.toInt64 p1)) hx hb dX4_codeFor_20 rfl ?_
      refine lv_ladd hx hb dX4_codeFor_21 ?_
      refine lv_ldc2 (v := 1000003) hx hb hown (hts _ kw_318) dX4_codeFor_22 ?_
      refine lv_lmul hx hb dX4_codeFor_25 ?_
      refine lv_iload_n hx hb dX4_codeFor_26 rfl (lv_at hl 2 rfl) ?_
      refine lv_i2l (v := (Int32.toInt64 p2)) hx hb dX4_codeFor_27 rfl ?_
      refine lv_ldc2 (v := 7919) hx hb hown (hts _ kw_319) dX4_codeFor_28 ?_
      refine lv_lmul hx hb dX4_codeFor_31 ?_
      refine lv_ladd hx hb dX4_codeFor_32 ?_
      refine lv_lstore_n (lv' := [(3, .long (((((Int32.toInt64 mn) * (1009 : Int64)) + (Int32.toInt64 p1)) * (1000003 : Int64)) + ((Int32.toInt64 p2) * (7919 : Int64)))), (0, .ref aD), (1, .int p1), (2, .int p2)]) hx hb dX4_codeFor_33 rfl hl (by decide) rfl (fun ls hl => ?_)
      refine lv_lload_n hx hb dX4_codeFor_34 rfl (lv_at hl 0 rfl) ?_
      refine lv_ldc2 (v := 1000000) hx hb hown (hts _ kw_320) dX4_codeFor_35 ?_
      refine lv_lrem hx hb dX4_codeFor_38 (by decide) ?_
      refine lv_l2i (v := (Int64.toInt32 ((((((Int32.toInt64 mn) * (1009 : Int64)) + (Int32.toInt64 p1)) * (1000003 : Int64)) + ((Int32.toInt64 p2) * (7919 : Int64))) - (((((Int32.toInt64 mn) * (1009 : Int64)) + (Int32.toInt64 p1)) * (1000003 : Int64)) + ((Int32.toInt64 p2) * (7919 : Int64))) / (1000000 : Int64) * (1000000 : Int64)))) hx hb dX4_codeFor_39 rfl ?_
      exact W.iret (v := (Int64.toInt32 ((((((Int32.toInt64 mn) * (1009 : Int64)) + (Int32.toInt64 p1)) * (1000003 : Int64)) + ((Int32.toInt64 p2) * (7919 : Int64))) - (((((Int32.toInt64 mn) * (1009 : Int64)) + (Int32.toInt64 p1)) * (1000003 : Int64)) + ((Int32.toInt64 p2) * (7919 : Int64))) / (1000000 : Int64) * (1000000 : Int64)))) hx hb hr (fun t ht hW => ⟨(Int64.toInt32 ((((((Int32.toInt64 mn) * (1009 : Int64)) + (Int32.toInt64 p1)) * (1000003 : Int64)) + ((Int32.toInt64 p2) * (7919 : Int64))) - (((((Int32.toInt64 mn) * (1009 : Int64)) + (Int32.toInt64 p1)) * (1000003 : Int64)) + ((Int32.toInt64 p2) * (7919 : Int64))) / (1000000 : Int64) * (1000000 : Int64))), rfl, (show _ = _ from (by unfold spX4_codeFor; rw [if_neg c_1, if_pos c_5] : spX4_codeFor mn p1 p2 = (Int64.toInt32 ((((((Int32.toInt64 mn) * (1009 : Int64)) + (Int32.toInt64 p1)) * (1000003 : Int64)) + ((Int32.toInt64 p2) * (7919 : Int64))) - (((((Int32.toInt64 mn) * (1009 : Int64)) + (Int32.toInt64 p1)) * (1000003 : Int64)) + ((Int32.toInt64 p2) * (7919 : Int64))) / (1000000 : Int64) * (1000000 : Int64)))).symm), ht⟩) (fun q h => by cases h) dX4_codeFor_40
    · refine lv_iconst (v := -1) hx hb dX4_codeFor_8 (by decide) ?_
      exact W.iret (v := (-1 : Int32)) hx hb hr (fun t ht hW => ⟨(-1 : Int32), rfl, (show _ = _ from (by unfold spX4_codeFor; rw [if_neg c_1, if_neg c_5] : spX4_codeFor mn p1 p2 = (-1 : Int32)).symm), ht⟩) (fun q h => by cases h) dX4_codeFor_9
def spX4_rate (dr : Nat → Int32) (p1 : Int32) (p2 : Int32) (p3 : Int32) (p4 : Int32) : Int32 × (Nat → Int32) := (if p4 < 0 then ((-1 : Int32), dr) else (if p4 ≤ (999999999 : Int32) then (match spX3_draft dr p1 p2 p3 p4 with | (r_23, dr_23) => (if r_23 = 0 then ((-1 : Int32), dr_23) else ((1 : Int32), dr_23))) else ((-1 : Int32), dr)))
set_option maxHeartbeats 4000000 in
set_option maxRecDepth 100000 in
theorem c_X4_rate (l : Launch) (D : va_G) (aD aT ad af aJ aM aw ae aB ab : Nat) (cA : ClassId) (mn : Int32) (po : Int64) (co : Int64) (dr : Nat → Int32) (tb : Nat → Int32) (sc : Int32) (rc : Int32) (la : Int32) (pw : Int32) (ce : Int32) (lf : Int32) (mq : Int32) (ct : Int32) (wd : Nat → Int32) (er : Nat → Int32) (bw : Nat → Int32) (p1 : Int32) (p2 : Int32) (p3 : Int32) (p4 : Int32)  : kWi l yX4_rate cX4_rate 5 (some .int) { frames := 2, cells := 0, slots := 0, locals := 48 } D [(cA, .int)] [.ref aD, .int p1, .int p2, .int p3, .int p4] (wD aD aT ad af aJ aM aw ae aB ab cA mn po co dr tb sc rc la pw ce lf mq ct wd er bw) (spX4_rate dr p1 p2 p3 p4).1 (wD aD aT ad af aJ aM aw ae aB ab cA mn po co (spX4_rate dr p1 p2 p3 p4).2 tb sc rc la pw ce lf mq ct wd er bw) := by
  intro sz
  refine Met.ofW (cc := cX4_rate) (maxL := 5) (ret := (some .int)) (by decide) rfl ?_
  intro p e s m args below meth c s₁ B hml hv
  obtain ⟨rfl, hsz, hP, hK, hD0⟩ := hv
  have hx := B.exec
  have hb := B.bytes
  have hr := B.returns
  have hts : ∀ w ∈ kG, w.before _ s = true := fun w h => atoms_spec (ws := kT yX4_rate cX4_rate 5 (some .int)) B.pre w (List.mem_cons_of_mem _ h)
  have hown : s.vm.findClass RX4 = some m.cls := findClass_of_methodNamed B.named
  have hlocks := B.notSynchronized
  subst hsz
  have hD := hD0.self (sz := s.heap.size)
  generalize hAe : va_A (wD aD aT ad af aJ aM aw ae aB ab cA mn po co dr tb sc rc la pw ce lf mq ct wd er bw) s.heap.size = A at hD ⊢
  have hA : ∀ q : Nat, s.heap.size ≤ q → A q := fun q h => by rw [← hAe]; exact Or.inr h
  have hS : va_S A s.heap s.heap [] := va_S.rf
  have hl := lv_entry ([.ref aD, .int p1, .int p2, .int p3, .int p4]) (n := 5) (Nat.le_of_ble_eq_true rfl)
  rw [lg_entry_eq]
  generalize (lg_sl ([.ref aD, .int p1, .int p2, .int p3, .int p4]) ++ List.replicate (5 - (lg_sl ([.ref aD, .int p1, .int p2, .int p3, .int p4])).length) Slot.unset).toArray = ls at hl ⊢
  have hl : lv_has ls 5 [(0, .ref aD), (1, .int p1), (2, .int p2), (3, .int p3), (4, .int p4)] := hl
  refine lv_iload hx hb dX4_rate_0 (lv_at hl 4 rfl) ?_
  refine lv_if_lt (tgt := 12) hx hb dX4_rate_2 (by decide) (fun c_2 => ?_) (fun c_2 => ?_)
  · refine lv_iconst (v := -1) hx hb dX4_rate_12 (by decide) ?_
    have hE : spX4_rate dr p1 p2 p3 p4 = ((-1 : Int32), dr) := by unfold spX4_rate; rw [if_pos c_2]
    exact W.iret (v := (-1 : Int32)) hx hb hr (fun t ht hW => ⟨⟨(-1 : Int32), (), rfl, by rw [hE], by rw [hE, ht]; exact hP, va_K.moved hW.alike hK, by rw [hE]; exact hD⟩, hS.F ht⟩) hS.2.2 dX4_rate_13
  · refine lv_iload hx hb dX4_rate_5 (lv_at hl 4 rfl) ?_
    refine lv_ldc (v := 999999999) hx hb hown (hts _ kw_196) dX4_rate_7 ?_
    refine lv_icmp_le (tgt := 14) hx hb dX4_rate_9 (by decide) (fun c_9 => ?_) (fun c_9 => ?_)
    · refine lv_aload_n hx hb dX4_rate_14 rfl (lv_at hl 0 rfl) ?_
      refine va_get (D := D) (ci := 4) (v := .ref aT) (C := RX4) (T := TX4) (N := 7) hx hb hts k_inX4 hown hK hP 0 rfl rfl 1 (by decide) (hts _ kw_171) (fun _ h9 => h9) rfl dX4_rate_15 ?_
      refine lv_iload_n hx hb dX4_rate_18 rfl (lv_at hl 1 rfl) ?_
      refine lv_iload_n hx hb dX4_rate_19 rfl (lv_at hl 2 rfl) ?_
      refine lv_iload_n hx hb dX4_rate_20 rfl (lv_at hl 3 rfl) ?_
      refine lv_iload hx hb dX4_rate_21 (lv_at hl 4 rfl) ?_
      rcases hq_23 : spX3_draft dr p1 p2 p3 p4 with ⟨r_23, dr_23⟩
      have hM_23 : kWi l yX3_draft cX3_draft 6 (some .boolean) { frames := 1, cells := 0, slots := 0, locals := 23 } D [(cA, .int)] [.ref aT, .int p1, .int p2, .int p3, .int p4] (wT aT ad af cA dr tb) r_23 (wT aT ad af cA dr_23 tb) := by
        have h := c_X3_draft l D aT ad af cA dr tb p1 p2 p3 p4
        rw [hq_23] at h
        exact h
      refine k_wrVi (As := [.int p1, .int p2, .int p3, .int p4]) (rest := []) (ci := 3) (q0 := 0) (ws' := (wD aD aT ad af aJ aM aw ae aB ab cA mn po co dr_23 tb sc rc la pw ce lf mq ct wd er bw)) (wr := [(aD, .inr (4, [.int mn, .ref aT, .ref aM, .ref aB, .ref aJ, .long po, .long co])), (aJ, .inr (1, [.ref aM, .ref aB, .int sc, .int rc, .int la])), (aM, .inr (2, [.ref aw, .ref ae, .int pw, .int ce, .int lf, .int mq, .int ct])), (aw, .inl (cA, 4096, .inl wd)), (ae, .inl (cA, 16, .inl er)), (aB, .inr (0, [.ref ab])), (ab, .inl (cA, 191, .inl bw))]) ⟨hx, hb, hml, hown, hts⟩ k_self hM_23 kv_X4_54 hP hD hS hA hK rfl rfl [1, 2, 3] [0, 4, 5, 6, 7, 8, 9] [0, 7, 8, 9, 1, 2, 3, 4, 5, 6] rfl (by decide) rfl (by decide) (by decide) rfl (by decide) rfl rfl ⟨Nat.le_of_ble_eq_true rfl, Nat.le_of_ble_eq_true rfl⟩ rfl hl.1 rfl (Nat.le_of_ble_eq_true rfl) dX4_rate_23 ⟨Nat.zero_le _, Nat.zero_le _⟩ (fun H locs hP hD hS => ?_)
      refine lv_if_eq (tgt := 33) hx hb dX4_rate_26 (by decide) (fun c_26 => ?_) (fun c_26 => ?_)
      · refine lv_iconst (v := -1) hx hb dX4_rate_33 (by decide) ?_
        have hE : spX4_rate dr p1 p2 p3 p4 = ((-1 : Int32), dr_23) := by unfold spX4_rate; rw [if_neg c_2, if_pos c_9]; rw [hq_23]; dsimp only; rw [if_pos c_26]
        exact W.iret (v := (-1 : Int32)) hx hb hr (fun t ht hW => ⟨⟨(-1 : Int32), (), rfl, by rw [hE], by rw [hE, ht]; exact hP, va_K.moved hW.alike hK, by rw [hE]; exact hD⟩, hS.F ht⟩) hS.2.2 dX4_rate_34
      · refine lv_iconst (v := 1) hx hb dX4_rate_29 (by decide) ?_
        refine lv_goto (tgt := 34) hx hb dX4_rate_30 (by decide) ?_
        have hE : spX4_rate dr p1 p2 p3 p4 = ((1 : Int32), dr_23) := by unfold spX4_rate; rw [if_neg c_2, if_pos c_9]; rw [hq_23]; dsimp only; rw [if_neg c_26]
        exact W.iret (v := (1 : Int32)) hx hb hr (fun t ht hW => ⟨⟨(1 : Int32), (), rfl, by rw [hE], by rw [hE, ht]; exact hP, va_K.moved hW.alike hK, by rw [hE]; exact hD⟩, hS.F ht⟩) hS.2.2 dX4_rate_34
    · refine lv_iconst (v := -1) hx hb dX4_rate_12 (by decide) ?_
      have hE : spX4_rate dr p1 p2 p3 p4 = ((-1 : Int32), dr) := by unfold spX4_rate; rw [if_neg c_2, if_neg c_9]
      exact W.iret (v := (-1 : Int32)) hx hb hr (fun t ht hW => ⟨⟨(-1 : Int32), (), rfl, by rw [hE], by rw [hE, ht]; exact hP, va_K.moved hW.alike hK, by rw [hE]; exact hD⟩, hS.F ht⟩) hS.2.2 dX4_rate_13
def spX4_loadTable (dr : Nat → Int32) (tb : Nat → Int32) (sc : Int32) (rc : Int32) (la : Int32) (pw : Int32) (ce : Int32) (lf : Int32) (mq : Int32) (ct : Int32) (wd : Nat → Int32) (er : Nat → Int32) (bw : Nat → Int32) (p1 : Int32) : Int32 × (Nat → Int32) × Int32 × Int32 × Int32 × Int32 × Int32 × Int32 × Int32 × (Nat → Int32) × (Nat → Int32) × (Nat → Int32) := (if (spX2_hasPower pw) = 0 then ((-7 : Int32), tb, sc, rc, la, pw, ce, lf, ct, wd, er, bw) else (if p1 < 0 then ((0 : Int32), tb, sc, rc, la, pw, ce, lf, ct, wd, er, bw) else (if (spX0_at bw (13 : Int32)) ≤ p1 then (match spX1_append sc rc la pw ce lf mq ct wd er bw (9 : Int32) p1 (0 : Int32) with | (r_40, sc_40, rc_40, la_40, pw_40, ce_40, lf_40, ct_40, wd_40, er_40, bw_40) => (if r_40 = (1 : Int32) then (r_40, (spX3_useDrafts dr tb), sc_40, rc_40, la_40, pw_40, ce_40, lf_40, ct_40, wd_40, er_40, bw_40) else (r_40, tb, sc_40, rc_40, la_40, pw_40, ce_40, lf_40, ct_40, wd_40, er_40, bw_40))) else ((0 : Int32), tb, sc, rc, la, pw, ce, lf, ct, wd, er, bw))))
set_option maxHeartbeats 4000000 in
set_option maxRecDepth 100000 in
theorem c_X4_loadTable (l : Launch) (D : va_G) (aD aT ad af aJ aM aw ae aB ab : Nat) (cA : ClassId) (mn : Int32) (po : Int64) (co : Int64) (dr : Nat → Int32) (tb : Nat → Int32) (sc : Int32) (rc : Int32) (la : Int32) (pw : Int32) (ce : Int32) (lf : Int32) (mq : Int32) (ct : Int32) (wd : Nat → Int32) (er : Nat → Int32) (bw : Nat → Int32) (p1 : Int32) (hpw : pw = 0 ∨ pw = 1) : kWi l yX4_loadTable cX4_loadTable 3 (some .int) { frames := 6, cells := 0, slots := 0, locals := 137 } D [(cA, .int)] [.ref aD, .int p1] (wD aD aT ad af aJ aM aw ae aB ab cA mn po co dr tb sc rc la pw ce lf mq ct wd er bw) (spX4_loadTable dr tb sc rc la pw ce lf mq ct wd er bw p1).1 (wD aD aT ad af aJ aM aw ae aB ab cA mn po co dr (spX4_loadTable dr tb sc rc la pw ce lf mq ct wd er bw p1).2.1 (spX4_loadTable dr tb sc rc la pw ce lf mq ct wd er bw p1).2.2.1 (spX4_loadTable dr tb sc rc la pw ce lf mq ct wd er bw p1).2.2.2.1 (spX4_loadTable dr tb sc rc la pw ce lf mq ct wd er bw p1).2.2.2.2.1 (spX4_loadTable dr tb sc rc la pw ce lf mq ct wd er bw p1).2.2.2.2.2.1 (spX4_loadTable dr tb sc rc la pw ce lf mq ct wd er bw p1).2.2.2.2.2.2.1 (spX4_loadTable dr tb sc rc la pw ce lf mq ct wd er bw p1).2.2.2.2.2.2.2.1 mq (spX4_loadTable dr tb sc rc la pw ce lf mq ct wd er bw p1).2.2.2.2.2.2.2.2.1 (spX4_loadTable dr tb sc rc la pw ce lf mq ct wd er bw p1).2.2.2.2.2.2.2.2.2.1 (spX4_loadTable dr tb sc rc la pw ce lf mq ct wd er bw p1).2.2.2.2.2.2.2.2.2.2.1 (spX4_loadTable dr tb sc rc la pw ce lf mq ct wd er bw p1).2.2.2.2.2.2.2.2.2.2.2) := by
  intro sz
  refine Met.ofW (cc := cX4_loadTable) (maxL := 3) (ret := (some .int)) (by decide) rfl ?_
  intro p e s m args below meth c s₁ B hml hv
  obtain ⟨rfl, hsz, hP, hK, hD0⟩ := hv
  have hx := B.exec
  have hb := B.bytes
  have hr := B.returns
  have hts : ∀ w ∈ kG, w.before _ s = true := fun w h => atoms_spec (ws := kT yX4_loadTable cX4_loadTable 3 (some .int)) B.pre w (List.mem_cons_of_mem _ h)
  have hown : s.vm.findClass RX4 = some m.cls := findClass_of_methodNamed B.named
  have hlocks := B.notSynchronized
  subst hsz
  have hD := hD0.self (sz := s.heap.size)
  generalize hAe : va_A (wD aD aT ad af aJ aM aw ae aB ab cA mn po co dr tb sc rc la pw ce lf mq ct wd er bw) s.heap.size = A at hD ⊢
  have hA : ∀ q : Nat, s.heap.size ≤ q → A q := fun q h => by rw [← hAe]; exact Or.inr h
  have hS : va_S A s.heap s.heap [] := va_S.rf
  have hl := lv_entry ([.ref aD, .int p1]) (n := 3) (Nat.le_of_ble_eq_true rfl)
  rw [lg_entry_eq]
  generalize (lg_sl ([.ref aD, .int p1]) ++ List.replicate (3 - (lg_sl ([.ref aD, .int p1])).length) Slot.unset).toArray = ls at hl ⊢
  have hl : lv_has ls 3 [(0, .ref aD), (1, .int p1)] := hl
  refine lv_aload_n hx hb dX4_loadTable_0 rfl (lv_at hl 0 rfl) ?_
  refine va_get (D := D) (ci := 4) (v := .ref aM) (C := RX4) (T := TX4) (N := 7) hx hb hts k_inX4 hown hK hP 0 rfl rfl 2 (by decide) (hts _ kw_172) (fun _ h9 => h9) rfl dX4_loadTable_1 ?_
  refine k_rdVi (As := []) (rest := []) (ci := 2) (q0 := 0) ⟨hx, hb, hml, hown, hts⟩ k_self (c_X2_hasPower l D aM aw ae cA pw ce lf mq ct wd er  hpw) kv_X4_58 (hP.sub [5, 6, 7] rfl) (hK.sub [0] rfl) rfl rfl rfl rfl ⟨Nat.le_of_ble_eq_true rfl, Nat.le_of_ble_eq_true rfl⟩ rfl hl.1 rfl (Nat.le_of_ble_eq_true rfl) dX4_loadTable_4 ⟨Nat.zero_le _, Nat.zero_le _⟩ ?_
  refine lv_if_ne (tgt := 13) hx hb dX4_loadTable_7 (by decide) (fun c_7 => ?_) (fun c_7 => ?_)
  · refine lv_iload_n hx hb dX4_loadTable_13 rfl (lv_at hl 1 rfl) ?_
    refine lv_if_lt (tgt := 30) hx hb dX4_loadTable_14 (by decide) (fun c_14 => ?_) (fun c_14 => ?_)
    · refine lv_iconst (v := 0) hx hb dX4_loadTable_30 (by decide) ?_
      have hE : spX4_loadTable dr tb sc rc la pw ce lf mq ct wd er bw p1 = ((0 : Int32), tb, sc, rc, la, pw, ce, lf, ct, wd, er, bw) := by unfold spX4_loadTable; rw [if_neg c_7, if_pos c_14]
      exact W.iret (v := (0 : Int32)) hx hb hr (fun t ht hW => ⟨⟨(0 : Int32), (), rfl, by rw [hE], by rw [hE, ht]; exact hP, va_K.moved hW.alike hK, by rw [hE]; exact hD⟩, hS.F ht⟩) hS.2.2 dX4_loadTable_31
    · refine lv_iload_n hx hb dX4_loadTable_17 rfl (lv_at hl 1 rfl) ?_
      refine lv_aload_n hx hb dX4_loadTable_18 rfl (lv_at hl 0 rfl) ?_
      refine va_get (D := D) (ci := 4) (v := .ref aB) (C := RX4) (T := TX4) (N := 7) hx hb hts k_inX4 hown hK hP 0 rfl rfl 3 (by decide) (hts _ kw_173) (fun _ h9 => h9) rfl dX4_loadTable_19 ?_
      refine lv_bipush (v := 13) hx hb dX4_loadTable_22 (by decide) ?_
      refine k_rdVi (As := [.int (13 : Int32)]) (rest := [.int p1]) (ci := 0) (q0 := 0) ⟨hx, hb, hml, hown, hts⟩ k_self (c_X0_at l D aB ab cA bw (13 : Int32)) kv_X4_62 (hP.sub [8, 9] rfl) (hK.sub [0] rfl) rfl rfl rfl rfl ⟨Nat.le_of_ble_eq_true rfl, Nat.le_of_ble_eq_true rfl⟩ rfl hl.1 rfl (Nat.le_of_ble_eq_true rfl) dX4_loadTable_24 ⟨Nat.zero_le _, Nat.zero_le _⟩ ?_
      refine lv_icmp_ge (tgt := 32) hx hb dX4_loadTable_27 (by decide) (fun c_27 => ?_) (fun c_27 => ?_)
      · refine lv_aload_n hx hb dX4_loadTable_32 rfl (lv_at hl 0 rfl) ?_
        refine va_get (D := D) (ci := 4) (v := .ref aJ) (C := RX4) (T := TX4) (N := 7) hx hb hts k_inX4 hown hK hP 0 rfl rfl 4 (by decide) (hts _ kw_174) (fun _ h9 => h9) rfl dX4_loadTable_33 ?_
        refine lv_bipush (v := 9) hx hb dX4_loadTable_36 (by decide) ?_
        refine lv_iload_n hx hb dX4_loadTable_38 rfl (lv_at hl 1 rfl) ?_
        refine lv_iconst (v := 0) hx hb dX4_loadTable_39 (by decide) ?_
        rcases hq_40 : spX1_append sc rc la pw ce lf mq ct wd er bw (9 : Int32) p1 (0 : Int32) with ⟨r_40, sc_40, rc_40, la_40, pw_40, ce_40, lf_40, ct_40, wd_40, er_40, bw_40⟩
        have hM_40 : kWi l yX1_append cX1_append 6 (some .int) { frames := 5, cells := 0, slots := 0, locals := 112 } D [(cA, .int)] [.ref aJ, .int (9 : Int32), .int p1, .int (0 : Int32)] (wJ aJ aM aw ae aB ab cA sc rc la pw ce lf mq ct wd er bw) r_40 (wJ aJ aM aw ae aB ab cA sc_40 rc_40 la_40 pw_40 ce_40 lf_40 mq ct_40 wd_40 er_40 bw_40) := by
          have h := c_X1_append l D aJ aM aw ae aB ab cA sc rc la pw ce lf mq ct wd er bw (9 : Int32) p1 (0 : Int32)
          rw [hq_40] at h
          exact h
        refine k_wrVi (As := [.int (9 : Int32), .int p1, .int (0 : Int32)]) (rest := []) (ci := 1) (q0 := 0) (ws' := (wD aD aT ad af aJ aM aw ae aB ab cA mn po co dr tb sc_40 rc_40 la_40 pw_40 ce_40 lf_40 mq ct_40 wd_40 er_40 bw_40)) (wr := [(aD, .inr (4, [.int mn, .ref aT, .ref aM, .ref aB, .ref aJ, .long po, .long co])), (aT, .inr (3, [.ref ad, .ref af])), (ad, .inl (cA, 320, .inl dr)), (af, .inl (cA, 320, .inl tb))]) ⟨hx, hb, hml, hown, hts⟩ k_self hM_40 kv_X4_66 hP hD hS hA hK rfl rfl [4, 5, 6, 7, 8, 9] [0, 1, 2, 3] [0, 1, 2, 3, 4, 5, 6, 7, 8, 9] rfl (by decide) rfl (by decide) (by decide) rfl (by decide) rfl rfl ⟨Nat.le_of_ble_eq_true rfl, Nat.le_of_ble_eq_true rfl⟩ rfl hl.1 rfl (Nat.le_of_ble_eq_true rfl) dX4_loadTable_40 ⟨Nat.zero_le _, Nat.zero_le _⟩ (fun H locs hP hD hS => ?_)
        refine lv_istore_n (lv' := [(2, .int r_40), (0, .ref aD), (1, .int p1)]) hx hb dX4_loadTable_43 rfl hl (by decide) rfl (fun ls hl => ?_)
        refine lv_iload_n hx hb dX4_loadTable_44 rfl (lv_at hl 0 rfl) ?_
        refine lv_iconst (v := 1) hx hb dX4_loadTable_45 (by decide) ?_
        refine lv_icmp_ne (tgt := 56) hx hb dX4_loadTable_46 (by decide) (fun c_46 => ?_) (fun c_46 => ?_)
        · refine lv_iload_n hx hb dX4_loadTable_56 rfl (lv_at hl 0 rfl) ?_
          have hE : spX4_loadTable dr tb sc rc la pw ce lf mq ct wd er bw p1 = (r_40, tb, sc_40, rc_40, la_40, pw_40, ce_40, lf_40, ct_40, wd_40, er_40, bw_40) := by unfold spX4_loadTable; rw [if_neg c_7, if_neg c_14, if_pos c_27]; rw [hq_40]; dsimp only; rw [if_neg c_46]
          exact W.iret (v := r_40) hx hb hr (fun t ht hW => ⟨⟨r_40, (), rfl, by rw [hE], by rw [hE, ht]; exact hP, va_K.moved hW.alike hK, by rw [hE]; exact hD⟩, hS.F ht⟩) hS.2.2 dX4_loadTable_57
        · refine lv_aload_n hx hb dX4_loadTable_49 rfl (lv_at hl 1 rfl) ?_
          refine va_get (D := D) (ci := 4) (v := .ref aT) (C := RX4) (T := TX4) (N := 7) hx hb hts k_inX4 hown hK hP 0 rfl rfl 1 (by decide) (hts _ kw_171) (fun _ h9 => h9) rfl dX4_loadTable_50 ?_
          refine k_wrVv (As := []) (rest := []) (ci := 3) (q0 := 0) (ws' := (wD aD aT ad af aJ aM aw ae aB ab cA mn po co dr (spX3_useDrafts dr tb) sc_40 rc_40 la_40 pw_40 ce_40 lf_40 mq ct_40 wd_40 er_40 bw_40)) (wr := [(aD, .inr (4, [.int mn, .ref aT, .ref aM, .ref aB, .ref aJ, .long po, .long co])), (aJ, .inr (1, [.ref aM, .ref aB, .int sc_40, .int rc_40, .int la_40])), (aM, .inr (2, [.ref aw, .ref ae, .int pw_40, .int ce_40, .int lf_40, .int mq, .int ct_40])), (aw, .inl (cA, 4096, .inl wd_40)), (ae, .inl (cA, 16, .inl er_40)), (aB, .inr (0, [.ref ab])), (ab, .inl (cA, 191, .inl bw_40))]) ⟨hx, hb, hml, hown, hts⟩ k_self (c_X3_useDrafts l D aT ad af cA dr tb ) kv_X4_70 hP hD hS hA hK rfl rfl [1, 2, 3] [0, 4, 5, 6, 7, 8, 9] [0, 7, 8, 9, 1, 2, 3, 4, 5, 6] rfl (by decide) rfl (by decide) (by decide) rfl (by decide) rfl rfl ⟨Nat.le_of_ble_eq_true rfl, Nat.le_of_ble_eq_true rfl⟩ rfl hl.1 rfl (Nat.le_of_ble_eq_true rfl) dX4_loadTable_53 ⟨Nat.zero_le _, Nat.zero_le _⟩ (fun H locs hP hD hS => ?_)
          refine lv_iload_n hx hb dX4_loadTable_56 rfl (lv_at hl 0 rfl) ?_
          have hE : spX4_loadTable dr tb sc rc la pw ce lf mq ct wd er bw p1 = (r_40, (spX3_useDrafts dr tb), sc_40, rc_40, la_40, pw_40, ce_40, lf_40, ct_40, wd_40, er_40, bw_40) := by unfold spX4_loadTable; rw [if_neg c_7, if_neg c_14, if_pos c_27]; rw [hq_40]; dsimp only; rw [if_pos c_46]
          exact W.iret (v := r_40) hx hb hr (fun t ht hW => ⟨⟨r_40, (), rfl, by rw [hE], by rw [hE, ht]; exact hP, va_K.moved hW.alike hK, by rw [hE]; exact hD⟩, hS.F ht⟩) hS.2.2 dX4_loadTable_57
      · refine lv_iconst (v := 0) hx hb dX4_loadTable_30 (by decide) ?_
        have hE : spX4_loadTable dr tb sc rc la pw ce lf mq ct wd er bw p1 = ((0 : Int32), tb, sc, rc, la, pw, ce, lf, ct, wd, er, bw) := by unfold spX4_loadTable; rw [if_neg c_7, if_neg c_14, if_neg c_27]
        exact W.iret (v := (0 : Int32)) hx hb hr (fun t ht hW => ⟨⟨(0 : Int32), (), rfl, by rw [hE], by rw [hE, ht]; exact hP, va_K.moved hW.alike hK, by rw [hE]; exact hD⟩, hS.F ht⟩) hS.2.2 dX4_loadTable_31
  · refine lv_bipush (v := -7) hx hb dX4_loadTable_10 (by decide) ?_
    have hE : spX4_loadTable dr tb sc rc la pw ce lf mq ct wd er bw p1 = ((-7 : Int32), tb, sc, rc, la, pw, ce, lf, ct, wd, er, bw) := by unfold spX4_loadTable; rw [if_pos c_7]
    exact W.iret (v := (-7 : Int32)) hx hb hr (fun t ht hW => ⟨⟨(-7 : Int32), (), rfl, by rw [hE], by rw [hE, ht]; exact hP, va_K.moved hW.alike hK, by rw [hE]; exact hD⟩, hS.F ht⟩) hS.2.2 dX4_loadTable_12
def spX4_weigh (tb : Nat → Int32) (p1 : Int32) (p2 : Int32) (p3 : Int32) : Int32 := (if (spX3_priceOf tb p1 p2 p3) = 0 then (-1 : Int32) else (spX3_priceOf tb p1 p2 p3))
set_option maxHeartbeats 4000000 in
set_option maxRecDepth 100000 in
theorem c_X4_weigh (l : Launch) (D : va_G) (aD aT ad af aJ aM aw ae aB ab : Nat) (cA : ClassId) (mn : Int32) (po : Int64) (co : Int64) (dr : Nat → Int32) (tb : Nat → Int32) (sc : Int32) (rc : Int32) (la : Int32) (pw : Int32) (ce : Int32) (lf : Int32) (mq : Int32) (ct : Int32) (wd : Nat → Int32) (er : Nat → Int32) (bw : Nat → Int32) (p1 : Int32) (p2 : Int32) (p3 : Int32)  : kRi l yX4_weigh cX4_weigh 5 (some .int) { frames := 2, cells := 0, slots := 0, locals := 47 } [.ref aD, .int p1, .int p2, .int p3] (kB D (wD aD aT ad af aJ aM aw ae aB ab cA mn po co dr tb sc rc la pw ce lf mq ct wd er bw) [(cA, .int)]) (spX4_weigh tb p1 p2 p3) := by
  refine Met.ofW (cc := cX4_weigh) (maxL := 5) (ret := (some .int)) (by decide) rfl ?_
  intro p e s m args below meth c s₁ B hml hv
  obtain ⟨rfl, hP, hK⟩ := hv
  have hx := B.exec
  have hb := B.bytes
  have hr := B.returns
  have hts : ∀ w ∈ kG, w.before _ s = true := fun w h => atoms_spec (ws := kT yX4_weigh cX4_weigh 5 (some .int)) B.pre w (List.mem_cons_of_mem _ h)
  have hown : s.vm.findClass RX4 = some m.cls := findClass_of_methodNamed B.named
  have hlocks := B.notSynchronized
  have hl := lv_entry ([.ref aD, .int p1, .int p2, .int p3]) (n := 5) (Nat.le_of_ble_eq_true rfl)
  rw [lg_entry_eq]
  generalize (lg_sl ([.ref aD, .int p1, .int p2, .int p3]) ++ List.replicate (5 - (lg_sl ([.ref aD, .int p1, .int p2, .int p3])).length) Slot.unset).toArray = ls at hl ⊢
  have hl : lv_has ls 5 [(0, .ref aD), (1, .int p1), (2, .int p2), (3, .int p3)] := hl
  refine lv_aload_n hx hb dX4_weigh_0 rfl (lv_at hl 0 rfl) ?_
  refine va_get (D := D) (ci := 4) (v := .ref aT) (C := RX4) (T := TX4) (N := 7) hx hb hts k_inX4 hown hK hP 0 rfl rfl 1 (by decide) (hts _ kw_171) (fun _ h9 => h9) rfl dX4_weigh_1 ?_
  refine lv_iload_n hx hb dX4_weigh_4 rfl (lv_at hl 1 rfl) ?_
  refine lv_iload_n hx hb dX4_weigh_5 rfl (lv_at hl 2 rfl) ?_
  refine lv_iload_n hx hb dX4_weigh_6 rfl (lv_at hl 3 rfl) ?_
  refine k_rdVi (As := [.int p1, .int p2, .int p3]) (rest := []) (ci := 3) (q0 := 0) ⟨hx, hb, hml, hown, hts⟩ k_self (c_X3_priceOf l D aT ad af cA dr tb p1 p2 p3) kv_X4_73 (hP.sub [1, 2, 3] rfl) (hK.sub [0] rfl) rfl rfl rfl rfl ⟨Nat.le_of_ble_eq_true rfl, Nat.le_of_ble_eq_true rfl⟩ rfl hl.1 rfl (Nat.le_of_ble_eq_true rfl) dX4_weigh_7 ⟨Nat.zero_le _, Nat.zero_le _⟩ ?_
  refine lv_istore (lv' := [(4, .int (spX3_priceOf tb p1 p2 p3)), (0, .ref aD), (1, .int p1), (2, .int p2), (3, .int p3)]) hx hb dX4_weigh_10 hl (by decide) rfl (fun ls hl => ?_)
  refine lv_iload hx hb dX4_weigh_12 (lv_at hl 0 rfl) ?_
  refine lv_if_ne (tgt := 21) hx hb dX4_weigh_14 (by decide) (fun c_14 => ?_) (fun c_14 => ?_)
  · refine lv_iload hx hb dX4_weigh_21 (lv_at hl 0 rfl) ?_
    exact W.iret (v := (spX3_priceOf tb p1 p2 p3)) hx hb hr (fun t ht hW => ⟨(spX3_priceOf tb p1 p2 p3), rfl, (show _ = _ from (by unfold spX4_weigh; rw [if_neg c_14] : spX4_weigh tb p1 p2 p3 = (spX3_priceOf tb p1 p2 p3)).symm), ht⟩) (fun q h => by cases h) dX4_weigh_23
  · refine lv_iconst (v := -1) hx hb dX4_weigh_17 (by decide) ?_
    refine lv_goto (tgt := 23) hx hb dX4_weigh_18 (by decide) ?_
    exact W.iret (v := (-1 : Int32)) hx hb hr (fun t ht hW => ⟨(-1 : Int32), rfl, (show _ = _ from (by unfold spX4_weigh; rw [if_pos c_14] : spX4_weigh tb p1 p2 p3 = (-1 : Int32)).symm), ht⟩) (fun q h => by cases h) dX4_weigh_23
def spX4_frank (po : Int64) (co : Int64) (sc : Int32) (rc : Int32) (la : Int32) (pw : Int32) (ce : Int32) (lf : Int32) (mq : Int32) (ct : Int32) (wd : Nat → Int32) (er : Nat → Int32) (bw : Nat → Int32) (p1 : Int32) (p2 : Int32) (p3 : Int32) : Int32 × Int64 × Int64 × Int32 × Int32 × Int32 × Int32 × Int32 × Int32 × Int32 × (Nat → Int32) × (Nat → Int32) × (Nat → Int32) := (if (spX2_hasPower pw) = 0 then ((-7 : Int32), po, co, sc, rc, la, pw, ce, lf, ct, wd, er, bw) else (if (spX4_mayFrank bw p1 p2 p3) = 0 then ((0 : Int32), po, co, sc, rc, la, pw, ce, lf, ct, wd, er, bw) else (match spX1_append sc rc la pw ce lf mq ct wd er bw (1 : Int32) p2 (p1 + ((16 : Int32) * p3)) with | (r_37, sc_37, rc_37, la_37, pw_37, ce_37, lf_37, ct_37, wd_37, er_37, bw_37) => (if r_37 = (1 : Int32) then (match spX1_append sc_37 rc_37 la_37 pw_37 ce_37 lf_37 mq ct_37 wd_37 er_37 bw_37 (2 : Int32) (0 : Int32) (0 : Int32) with | (r_75, sc_75, rc_75, la_75, pw_75, ce_75, lf_75, ct_75, wd_75, er_75, bw_75) => (r_75, (po + (1 : Int64)), (co + (Int32.toInt64 p2)), sc_75, rc_75, la_75, pw_75, ce_75, lf_75, ct_75, wd_75, er_75, bw_75)) else ((-7 : Int32), po, co, sc_37, rc_37, la_37, pw_37, ce_37, lf_37, ct_37, wd_37, er_37, bw_37)))))
set_option maxHeartbeats 4000000 in
set_option maxRecDepth 100000 in
theorem c_X4_frank (l : Launch) (D : va_G) (aD aT ad af aJ aM aw ae aB ab : Nat) (cA : ClassId) (mn : Int32) (po : Int64) (co : Int64) (dr : Nat → Int32) (tb : Nat → Int32) (sc : Int32) (rc : Int32) (la : Int32) (pw : Int32) (ce : Int32) (lf : Int32) (mq : Int32) (ct : Int32) (wd : Nat → Int32) (er : Nat → Int32) (bw : Nat → Int32) (p1 : Int32) (p2 : Int32) (p3 : Int32) (hpw : pw = 0 ∨ pw = 1) : kWi l yX4_frank cX4_frank 4 (some .int) { frames := 6, cells := 0, slots := 0, locals := 137 } D [(cA, .int)] [.ref aD, .int p1, .int p2, .int p3] (wD aD aT ad af aJ aM aw ae aB ab cA mn po co dr tb sc rc la pw ce lf mq ct wd er bw) (spX4_frank po co sc rc la pw ce lf mq ct wd er bw p1 p2 p3).1 (wD aD aT ad af aJ aM aw ae aB ab cA mn (spX4_frank po co sc rc la pw ce lf mq ct wd er bw p1 p2 p3).2.1 (spX4_frank po co sc rc la pw ce lf mq ct wd er bw p1 p2 p3).2.2.1 dr tb (spX4_frank po co sc rc la pw ce lf mq ct wd er bw p1 p2 p3).2.2.2.1 (spX4_frank po co sc rc la pw ce lf mq ct wd er bw p1 p2 p3).2.2.2.2.1 (spX4_frank po co sc rc la pw ce lf mq ct wd er bw p1 p2 p3).2.2.2.2.2.1 (spX4_frank po co sc rc la pw ce lf mq ct wd er bw p1 p2 p3).2.2.2.2.2.2.1 (spX4_frank po co sc rc la pw ce lf mq ct wd er bw p1 p2 p3).2.2.2.2.2.2.2.1 (spX4_frank po co sc rc la pw ce lf mq ct wd er bw p1 p2 p3).2.2.2.2.2.2.2.2.1 mq (spX4_frank po co sc rc la pw ce lf mq ct wd er bw p1 p2 p3).2.2.2.2.2.2.2.2.2.1 (spX4_frank po co sc rc la pw ce lf mq ct wd er bw p1 p2 p3).2.2.2.2.2.2.2.2.2.2.1 (spX4_frank po co sc rc la pw ce lf mq ct wd er bw p1 p2 p3).2.2.2.2.2.2.2.2.2.2.2.1 (spX4_frank po co sc rc la pw ce lf mq ct wd er bw p1 p2 p3).2.2.2.2.2.2.2.2.2.2.2.2) := by
  intro sz
  refine Met.ofW (cc := cX4_frank) (maxL := 4) (ret := (some .int)) (by decide) rfl ?_
  intro p e s m args below meth c s₁ B hml hv
  obtain ⟨rfl, hsz, hP, hK, hD0⟩ := hv
  have hx := B.exec
  have hb := B.bytes
  have hr := B.returns
  have hts : ∀ w ∈ kG, w.before _ s = true := fun w h => atoms_spec (ws := kT yX4_frank cX4_frank 4 (some .int)) B.pre w (List.mem_cons_of_mem _ h)
  have hown : s.vm.findClass RX4 = some m.cls := findClass_of_methodNamed B.named
  have hlocks := B.notSynchronized
  subst hsz
  have hD := hD0.self (sz := s.heap.size)
  generalize hAe : va_A (wD aD aT ad af aJ aM aw ae aB ab cA mn po co dr tb sc rc la pw ce lf mq ct wd er bw) s.heap.size = A at hD ⊢
  have hA : ∀ q : Nat, s.heap.size ≤ q → A q := fun q h => by rw [← hAe]; exact Or.inr h
  have hS : va_S A s.heap s.heap [] := va_S.rf
  have hl := lv_entry ([.ref aD, .int p1, .int p2, .int p3]) (n := 4) (Nat.le_of_ble_eq_true rfl)
  rw [lg_entry_eq]
  generalize (lg_sl ([.ref aD, .int p1, .int p2, .int p3]) ++ List.replicate (4 - (lg_sl ([.ref aD, .int p1, .int p2, .int p3])).length) Slot.unset).toArray = ls at hl ⊢
  have hl : lv_has ls 4 [(0, .ref aD), (1, .int p1), (2, .int p2), (3, .int p3)] := hl
  refine lv_aload_n hx hb dX4_frank_0 rfl (lv_at hl 0 rfl) ?_
  refine va_get (D := D) (ci := 4) (v := .ref aM) (C := RX4) (T := TX4) (N := 7) hx hb hts k_inX4 hown hK hP 0 rfl rfl 2 (by decide) (hts _ kw_172) (fun _ h9 => h9) rfl dX4_frank_1 ?_
  refine k_rdVi (As := []) (rest := []) (ci := 2) (q0 := 0) ⟨hx, hb, hml, hown, hts⟩ k_self (c_X2_hasPower l D aM aw ae cA pw ce lf mq ct wd er  hpw) kv_X4_58 (hP.sub [5, 6, 7] rfl) (hK.sub [0] rfl) rfl rfl rfl rfl ⟨Nat.le_of_ble_eq_true rfl, Nat.le_of_ble_eq_true rfl⟩ rfl hl.1 rfl (Nat.le_of_ble_eq_true rfl) dX4_frank_4 ⟨Nat.zero_le _, Nat.zero_le _⟩ ?_
  refine lv_if_ne (tgt := 13) hx hb dX4_frank_7 (by decide) (fun c_7 => ?_) (fun c_7 => ?_)
  · refine lv_aload_n hx hb dX4_frank_13 rfl (lv_at hl 0 rfl) ?_
    refine lv_iload_n hx hb dX4_frank_14 rfl (lv_at hl 1 rfl) ?_
    refine lv_iload_n hx hb dX4_frank_15 rfl (lv_at hl 2 rfl) ?_
    refine lv_iload_n hx hb dX4_frank_16 rfl (lv_at hl 3 rfl) ?_
    refine k_rdVi (As := [.int p1, .int p2, .int p3]) (rest := []) (ci := 4) (q0 := 0) ⟨hx, hb, hml, hown, hts⟩ k_self (c_X4_mayFrank l D aD aT ad af aJ aM aw ae aB ab cA mn po co dr tb sc rc la pw ce lf mq ct wd er bw p1 p2 p3) kv_X4_76 (hP.sub [0, 1, 2, 3, 4, 5, 6, 7, 8, 9] rfl) (hK.sub [0] rfl) rfl rfl rfl rfl ⟨Nat.le_of_ble_eq_true rfl, Nat.le_of_ble_eq_true rfl⟩ rfl hl.1 rfl (Nat.le_of_ble_eq_true rfl) dX4_frank_17 ⟨Nat.zero_le _, Nat.zero_le _⟩ ?_
    refine lv_if_ne (tgt := 25) hx hb dX4_frank_20 (by decide) (fun c_20 => ?_) (fun c_20 => ?_)
    · refine lv_aload_n hx hb dX4_frank_25 rfl (lv_at hl 0 rfl) ?_
      refine va_get (D := D) (ci := 4) (v := .ref aJ) (C := RX4) (T := TX4) (N := 7) hx hb hts k_inX4 hown hK hP 0 rfl rfl 4 (by decide) (hts _ kw_174) (fun _ h9 => h9) rfl dX4_frank_26 ?_
      refine lv_iconst (v := 1) hx hb dX4_frank_29 (by decide) ?_
      refine lv_iload_n hx hb dX4_frank_30 rfl (lv_at hl 2 rfl) ?_
      refine lv_iload_n hx hb dX4_frank_31 rfl (lv_at hl 1 rfl) ?_
      refine lv_bipush (v := 16) hx hb dX4_frank_32 (by decide) ?_
      refine lv_iload_n hx hb dX4_frank_34 rfl (lv_at hl 3 rfl) ?_
      refine lv_imul hx hb dX4_frank_35 ?_
      refine lv_iadd hx hb dX4_frank_36 ?_
      rcases hq_37 : spX1_append sc rc la pw ce lf mq ct wd er bw (1 : Int32) p2 (p1 + ((16 : Int32) * p3)) with ⟨r_37, sc_37, rc_37, la_37, pw_37, ce_37, lf_37, ct_37, wd_37, er_37, bw_37⟩
      have hM_37 : kWi l yX1_append cX1_append 6 (some .int) { frames := 5, cells := 0, slots := 0, locals := 112 } D [(cA, .int)] [.ref aJ, .int (1 : Int32), .int p2, .int (p1 + ((16 : Int32) * p3))] (wJ aJ aM aw ae aB ab cA sc rc la pw ce lf mq ct wd er bw) r_37 (wJ aJ aM aw ae aB ab cA sc_37 rc_37 la_37 pw_37 ce_37 lf_37 mq ct_37 wd_37 er_37 bw_37) := by
        have h := c_X1_append l D aJ aM aw ae aB ab cA sc rc la pw ce lf mq ct wd er bw (1 : Int32) p2 (p1 + ((16 : Int32) * p3))
        rw [hq_37] at h
        exact h
      refine k_wrVi (As := [.int (1 : Int32), .int p2, .int (p1 + ((16 : Int32) * p3))]) (rest := []) (ci := 1) (q0 := 0) (ws' := (wD aD aT ad af aJ aM aw ae aB ab cA mn po co dr tb sc_37 rc_37 la_37 pw_37 ce_37 lf_37 mq ct_37 wd_37 er_37 bw_37)) (wr := [(aD, .inr (4, [.int mn, .ref aT, .ref aM, .ref aB, .ref aJ, .long po, .long co])), (aT, .inr (3, [.ref ad, .ref af])), (ad, .inl (cA, 320, .inl dr)), (af, .inl (cA, 320, .inl tb))]) ⟨hx, hb, hml, hown, hts⟩ k_self hM_37 kv_X4_66 hP hD hS hA hK rfl rfl [4, 5, 6, 7, 8, 9] [0, 1, 2, 3] [0, 1, 2, 3, 4, 5, 6, 7, 8, 9] rfl (by decide) rfl (by decide) (by decide) rfl (by decide) rfl rfl ⟨Nat.le_of_ble_eq_true rfl, Nat.le_of_ble_eq_true rfl⟩ rfl hl.1 rfl (Nat.le_of_ble_eq_true rfl) dX4_frank_37 ⟨Nat.zero_le _, Nat.zero_le _⟩ (fun H locs hP hD hS => ?_)
      refine lv_iconst (v := 1) hx hb dX4_frank_40 (by decide) ?_
      refine lv_icmp_eq (tgt := 47) hx hb dX4_frank_41 (by decide) (fun c_41 => ?_) (fun c_41 => ?_)
      · refine lv_aload_n hx hb dX4_frank_47 rfl (lv_at hl 0 rfl) ?_
        refine lv_dup hx hb dX4_frank_48 rfl ?_
        refine va_get (D := D) (ci := 4) (v := .long po) (C := RX4) (T := TX4) (N := 7) hx hb hts k_inX4 hown hK hP 0 rfl rfl 5 (by decide) (hts _ kw_175) (fun _ h9 => h9) rfl dX4_frank_49 ?_
        refine lv_lconst (v := 1) hx hb dX4_frank_52 (by decide) ?_
        refine lv_ladd hx hb dX4_frank_53 ?_
        refine va_put (D := D) (ci := 4) (v := .long (po + (1 : Int64))) (ty := .long) (C := RX4) (T := TX4) (N := 7) hx hb hts k_inX4 tyX4 tyX4_ok nmX4 hown hK hP hD hS 0 rfl rfl 5 (by decide) (hts _ kw_175) (fun _ h9 => h9) rfl (by decide +kernel) rfl rfl (Nat.le_of_ble_eq_true rfl) dX4_frank_54 (fun H locs hP hD hS => ?_)
        have hP : va_P D vwCl (wD aD aT ad af aJ aM aw ae aB ab cA mn (po + (1 : Int64)) co dr tb sc_37 rc_37 la_37 pw_37 ce_37 lf_37 mq ct_37 wd_37 er_37 bw_37) H := hP
        have hD : va_D A (wD aD aT ad af aJ aM aw ae aB ab cA mn (po + (1 : Int64)) co dr tb sc_37 rc_37 la_37 pw_37 ce_37 lf_37 mq ct_37 wd_37 er_37 bw_37) := hD
        refine lv_aload_n hx hb dX4_frank_57 rfl (lv_at hl 0 rfl) ?_
        refine lv_dup hx hb dX4_frank_58 rfl ?_
        refine va_get (D := D) (ci := 4) (v := .long co) (C := RX4) (T := TX4) (N := 7) hx hb hts k_inX4 hown hK hP 0 rfl rfl 6 (by decide) (hts _ kw_176) (fun _ h9 => h9) rfl dX4_frank_59 ?_
        refine lv_iload_n hx hb dX4_frank_62 rfl (lv_at hl 2 rfl) ?_
        refine lv_i2l (v := (Int32.toInt64 p2)) hx hb dX4_frank_63 rfl ?_
        refine lv_ladd hx hb dX4_frank_64 ?_
        refine va_put (D := D) (ci := 4) (v := .long (co + (Int32.toInt64 p2))) (ty := .long) (C := RX4) (T := TX4) (N := 7) hx hb hts k_inX4 tyX4 tyX4_ok nmX4 hown hK hP hD hS 0 rfl rfl 6 (by decide) (hts _ kw_176) (fun _ h9 => h9) rfl (by decide +kernel) rfl rfl (Nat.le_of_ble_eq_true rfl) dX4_frank_65 (fun H locs hP hD hS => ?_)
        have hP : va_P D vwCl (wD aD aT ad af aJ aM aw ae aB ab cA mn (po + (1 : Int64)) (co + (Int32.toInt64 p2)) dr tb sc_37 rc_37 la_37 pw_37 ce_37 lf_37 mq ct_37 wd_37 er_37 bw_37) H := hP
        have hD : va_D A (wD aD aT ad af aJ aM aw ae aB ab cA mn (po + (1 : Int64)) (co + (Int32.toInt64 p2)) dr tb sc_37 rc_37 la_37 pw_37 ce_37 lf_37 mq ct_37 wd_37 er_37 bw_37) := hD
        refine lv_aload_n hx hb dX4_frank_68 rfl (lv_at hl 0 rfl) ?_
        refine va_get (D := D) (ci := 4) (v := .ref aJ) (C := RX4) (T := TX4) (N := 7) hx hb hts k_inX4 hown hK hP 0 rfl rfl 4 (by decide) (hts _ kw_174) (fun _ h9 => h9) rfl dX4_frank_69 ?_
        refine lv_iconst (v := 2) hx hb dX4_frank_72 (by decide) ?_
        refine lv_iconst (v := 0) hx hb dX4_frank_73 (by decide) ?_
        refine lv_iconst (v := 0) hx hb dX4_frank_74 (by decide) ?_
        rcases hq_75 : spX1_append sc_37 rc_37 la_37 pw_37 ce_37 lf_37 mq ct_37 wd_37 er_37 bw_37 (2 : Int32) (0 : Int32) (0 : Int32) with ⟨r_75, sc_75, rc_75, la_75, pw_75, ce_75, lf_75, ct_75, wd_75, er_75, bw_75⟩
        have hM_75 : kWi l yX1_append cX1_append 6 (some .int) { frames := 5, cells := 0, slots := 0, locals := 112 } D [(cA, .int)] [.ref aJ, .int (2 : Int32), .int (0 : Int32), .int (0 : Int32)] (wJ aJ aM aw ae aB ab cA sc_37 rc_37 la_37 pw_37 ce_37 lf_37 mq ct_37 wd_37 er_37 bw_37) r_75 (wJ aJ aM aw ae aB ab cA sc_75 rc_75 la_75 pw_75 ce_75 lf_75 mq ct_75 wd_75 er_75 bw_75) := by
          have h := c_X1_append l D aJ aM aw ae aB ab cA sc_37 rc_37 la_37 pw_37 ce_37 lf_37 mq ct_37 wd_37 er_37 bw_37 (2 : Int32) (0 : Int32) (0 : Int32)
          rw [hq_75] at h
          exact h
        refine k_wrVi (As := [.int (2 : Int32), .int (0 : Int32), .int (0 : Int32)]) (rest := []) (ci := 1) (q0 := 0) (ws' := (wD aD aT ad af aJ aM aw ae aB ab cA mn (po + (1 : Int64)) (co + (Int32.toInt64 p2)) dr tb sc_75 rc_75 la_75 pw_75 ce_75 lf_75 mq ct_75 wd_75 er_75 bw_75)) (wr := [(aD, .inr (4, [.int mn, .ref aT, .ref aM, .ref aB, .ref aJ, .long (po + (1 : Int64)), .long (co + (Int32.toInt64 p2))])), (aT, .inr (3, [.ref ad, .ref af])), (ad, .inl (cA, 320, .inl dr)), (af, .inl (cA, 320, .inl tb))]) ⟨hx, hb, hml, hown, hts⟩ k_self hM_75 kv_X4_66 hP hD hS hA hK rfl rfl [4, 5, 6, 7, 8, 9] [0, 1, 2, 3] [0, 1, 2, 3, 4, 5, 6, 7, 8, 9] rfl (by decide) rfl (by decide) (by decide) rfl (by decide) rfl rfl ⟨Nat.le_of_ble_eq_true rfl, Nat.le_of_ble_eq_true rfl⟩ rfl hl.1 rfl (Nat.le_of_ble_eq_true rfl) dX4_frank_75 ⟨Nat.zero_le _, Nat.zero_le _⟩ (fun H locs hP hD hS => ?_)
        have hE : spX4_frank po co sc rc la pw ce lf mq ct wd er bw p1 p2 p3 = (r_75, (po + (1 : Int64)), (co + (Int32.toInt64 p2)), sc_75, rc_75, la_75, pw_75, ce_75, lf_75, ct_75, wd_75, er_75, bw_75) := by unfold spX4_frank; rw [if_neg c_7, if_neg c_20]; rw [hq_37]; dsimp only; rw [if_pos c_41]; rw [hq_75]; try dsimp only
        exact W.iret (v := r_75) hx hb hr (fun t ht hW => ⟨⟨r_75, (), rfl, by rw [hE], by rw [hE, ht]; exact hP, va_K.moved hW.alike hK, by rw [hE]; exact hD⟩, hS.F ht⟩) hS.2.2 dX4_frank_78
      · refine lv_bipush (v := -7) hx hb dX4_frank_44 (by decide) ?_
        have hE : spX4_frank po co sc rc la pw ce lf mq ct wd er bw p1 p2 p3 = ((-7 : Int32), po, co, sc_37, rc_37, la_37, pw_37, ce_37, lf_37, ct_37, wd_37, er_37, bw_37) := by unfold spX4_frank; rw [if_neg c_7, if_neg c_20]; rw [hq_37]; dsimp only; rw [if_neg c_41]
        exact W.iret (v := (-7 : Int32)) hx hb hr (fun t ht hW => ⟨⟨(-7 : Int32), (), rfl, by rw [hE], by rw [hE, ht]; exact hP, va_K.moved hW.alike hK, by rw [hE]; exact hD⟩, hS.F ht⟩) hS.2.2 dX4_frank_46
    · refine lv_iconst (v := 0) hx hb dX4_frank_23 (by decide) ?_
      have hE : spX4_frank po co sc rc la pw ce lf mq ct wd er bw p1 p2 p3 = ((0 : Int32), po, co, sc, rc, la, pw, ce, lf, ct, wd, er, bw) := by unfold spX4_frank; rw [if_neg c_7, if_pos c_20]
      exact W.iret (v := (0 : Int32)) hx hb hr (fun t ht hW => ⟨⟨(0 : Int32), (), rfl, by rw [hE], by rw [hE, ht]; exact hP, va_K.moved hW.alike hK, by rw [hE]; exact hD⟩, hS.F ht⟩) hS.2.2 dX4_frank_24
  · refine lv_bipush (v := -7) hx hb dX4_frank_10 (by decide) ?_
    have hE : spX4_frank po co sc rc la pw ce lf mq ct wd er bw p1 p2 p3 = ((-7 : Int32), po, co, sc, rc, la, pw, ce, lf, ct, wd, er, bw) := by unfold spX4_frank; rw [if_pos c_7]
    exact W.iret (v := (-7 : Int32)) hx hb hr (fun t ht hW => ⟨⟨(-7 : Int32), (), rfl, by rw [hE], by rw [hE, ht]; exact hP, va_K.moved hW.alike hK, by rw [hE]; exact hD⟩, hS.F ht⟩) hS.2.2 dX4_frank_12
def spX4_printed (po : Int64) (co : Int64) (p1 : Int32) : Int64 := (if p1 = 0 then po else (if p1 = 1 then co else (-1 : Int64)))
set_option maxHeartbeats 4000000 in
set_option maxRecDepth 100000 in
theorem c_X4_printed (l : Launch) (D : va_G) (aD aT ad af aJ aM aw ae aB ab : Nat) (cA : ClassId) (mn : Int32) (po : Int64) (co : Int64) (dr : Nat → Int32) (tb : Nat → Int32) (sc : Int32) (rc : Int32) (la : Int32) (pw : Int32) (ce : Int32) (lf : Int32) (mq : Int32) (ct : Int32) (wd : Nat → Int32) (er : Nat → Int32) (bw : Nat → Int32) (p1 : Int32)  : kRl l yX4_printed cX4_printed 2 (some .long) { frames := 0, cells := 0, slots := 0, locals := 0 } [.ref aD, .int p1] (kB D (wD aD aT ad af aJ aM aw ae aB ab cA mn po co dr tb sc rc la pw ce lf mq ct wd er bw) [(cA, .int)]) (spX4_printed po co p1) := by
  refine Met.ofW (cc := cX4_printed) (maxL := 2) (ret := (some .long)) (by decide) rfl ?_
  intro p e s m args below meth c s₁ B hml hv
  obtain ⟨rfl, hP, hK⟩ := hv
  have hx := B.exec
  have hb := B.bytes
  have hr := B.returns
  have hts : ∀ w ∈ kG, w.before _ s = true := fun w h => atoms_spec (ws := kT yX4_printed cX4_printed 2 (some .long)) B.pre w (List.mem_cons_of_mem _ h)
  have hown : s.vm.findClass RX4 = some m.cls := findClass_of_methodNamed B.named
  have hlocks := B.notSynchronized
  have hl := lv_entry ([.ref aD, .int p1]) (n := 2) (Nat.le_of_ble_eq_true rfl)
  rw [lg_entry_eq]
  generalize (lg_sl ([.ref aD, .int p1]) ++ List.replicate (2 - (lg_sl ([.ref aD, .int p1])).length) Slot.unset).toArray = ls at hl ⊢
  have hl : lv_has ls 2 [(0, .ref aD), (1, .int p1)] := hl
  refine lv_iload_n hx hb dX4_printed_0 rfl (lv_at hl 1 rfl) ?_
  by_cases c_1_0 : p1 = 0
  · refine lv_lookup (off := 27) (tgt := 28) hx hb dX4_printed_1 (by decide) (by rw [c_1_0]; try rfl) (by decide) ?_
    refine lv_aload_n hx hb dX4_printed_28 rfl (lv_at hl 0 rfl) ?_
    refine va_get (D := D) (ci := 4) (v := .long po) (C := RX4) (T := TX4) (N := 7) hx hb hts k_inX4 hown hK hP 0 rfl rfl 5 (by decide) (hts _ kw_175) (fun _ h9 => h9) rfl dX4_printed_29 ?_
    exact W.lret (v := po) hx hb hr (fun t ht hW => ⟨po, rfl, (show _ = _ from (by unfold spX4_printed; rw [if_pos c_1_0] : spX4_printed po co p1 = po).symm), ht⟩) (fun q h => by cases h) dX4_printed_32
  by_cases c_1_1 : p1 = 1
  · refine lv_lookup (off := 32) (tgt := 33) hx hb dX4_printed_1 (by decide) (by rw [c_1_1]; try rfl) (by decide) ?_
    refine lv_aload_n hx hb dX4_printed_33 rfl (lv_at hl 0 rfl) ?_
    refine va_get (D := D) (ci := 4) (v := .long co) (C := RX4) (T := TX4) (N := 7) hx hb hts k_inX4 hown hK hP 0 rfl rfl 6 (by decide) (hts _ kw_176) (fun _ h9 => h9) rfl dX4_printed_34 ?_
    exact W.lret (v := co) hx hb hr (fun t ht hW => ⟨co, rfl, (show _ = _ from (by unfold spX4_printed; rw [if_neg c_1_0, if_pos c_1_1] : spX4_printed po co p1 = co).symm), ht⟩) (fun q h => by cases h) dX4_printed_37
  refine lv_lookup (off := 37) (tgt := 38) hx hb dX4_printed_1 (by decide) ((lv_osw c_1_0 rfl).trans ((lv_osw c_1_1 rfl).trans rfl)) (by decide) ?_
  refine lv_ldc2 (v := -1) hx hb hown (hts _ kw_308) dX4_printed_38 ?_
  exact W.lret (v := (-1 : Int64)) hx hb hr (fun t ht hW => ⟨(-1 : Int64), rfl, (show _ = _ from (by unfold spX4_printed; rw [if_neg c_1_0, if_neg c_1_1] : spX4_printed po co p1 = (-1 : Int64)).symm), ht⟩) (fun q h => by cases h) dX4_printed_41
def spX4_refill (mn : Int32) (sc : Int32) (rc : Int32) (la : Int32) (pw : Int32) (ce : Int32) (lf : Int32) (mq : Int32) (ct : Int32) (wd : Nat → Int32) (er : Nat → Int32) (bw : Nat → Int32) (p1 : Int32) (p2 : Int32) : Int32 × Int32 × Int32 × Int32 × Int32 × Int32 × Int32 × Int32 × (Nat → Int32) × (Nat → Int32) × (Nat → Int32) := (if (spX2_hasPower pw) = 0 then ((-7 : Int32), sc, rc, la, pw, ce, lf, ct, wd, er, bw) else (if (spX4_areCents p1) = 0 then ((0 : Int32), sc, rc, la, pw, ce, lf, ct, wd, er, bw) else (if p2 = (spX4_codeFor mn (spX0_at bw (10 : Int32)) p1) then (if (lg_cmp ((spX0_sumAt bw (4 : Int32)) + (Int32.toInt64 p1)) (1099511627776 : Int64)) < 0 then (match spX1_append sc rc la pw ce lf mq ct wd er bw (4 : Int32) p1 (0 : Int32) with | (r_67, sc_67, rc_67, la_67, pw_67, ce_67, lf_67, ct_67, wd_67, er_67, bw_67) => (r_67, sc_67, rc_67, la_67, pw_67, ce_67, lf_67, ct_67, wd_67, er_67, bw_67)) else ((0 : Int32), sc, rc, la, pw, ce, lf, ct, wd, er, bw)) else ((0 : Int32), sc, rc, la, pw, ce, lf, ct, wd, er, bw))))
set_option maxHeartbeats 4000000 in
set_option maxRecDepth 100000 in
theorem c_X4_refill (l : Launch) (D : va_G) (aD aT ad af aJ aM aw ae aB ab : Nat) (cA : ClassId) (mn : Int32) (po : Int64) (co : Int64) (dr : Nat → Int32) (tb : Nat → Int32) (sc : Int32) (rc : Int32) (la : Int32) (pw : Int32) (ce : Int32) (lf : Int32) (mq : Int32) (ct : Int32) (wd : Nat → Int32) (er : Nat → Int32) (bw : Nat → Int32) (p1 : Int32) (p2 : Int32) (hpw : pw = 0 ∨ pw = 1) : kWi l yX4_refill cX4_refill 3 (some .int) { frames := 6, cells := 0, slots := 0, locals := 137 } D [(cA, .int)] [.ref aD, .int p1, .int p2] (wD aD aT ad af aJ aM aw ae aB ab cA mn po co dr tb sc rc la pw ce lf mq ct wd er bw) (spX4_refill mn sc rc la pw ce lf mq ct wd er bw p1 p2).1 (wD aD aT ad af aJ aM aw ae aB ab cA mn po co dr tb (spX4_refill mn sc rc la pw ce lf mq ct wd er bw p1 p2).2.1 (spX4_refill mn sc rc la pw ce lf mq ct wd er bw p1 p2).2.2.1 (spX4_refill mn sc rc la pw ce lf mq ct wd er bw p1 p2).2.2.2.1 (spX4_refill mn sc rc la pw ce lf mq ct wd er bw p1 p2).2.2.2.2.1 (spX4_refill mn sc rc la pw ce lf mq ct wd er bw p1 p2).2.2.2.2.2.1 (spX4_refill mn sc rc la pw ce lf mq ct wd er bw p1 p2).2.2.2.2.2.2.1 mq (spX4_refill mn sc rc la pw ce lf mq ct wd er bw p1 p2).2.2.2.2.2.2.2.1 (spX4_refill mn sc rc la pw ce lf mq ct wd er bw p1 p2).2.2.2.2.2.2.2.2.1 (spX4_refill mn sc rc la pw ce lf mq ct wd er bw p1 p2).2.2.2.2.2.2.2.2.2.1 (spX4_refill mn sc rc la pw ce lf mq ct wd er bw p1 p2).2.2.2.2.2.2.2.2.2.2) := by
  intro sz
  refine Met.ofW (cc := cX4_refill) (maxL := 3) (ret := (some .int)) (by decide) rfl ?_
  intro p e s m args below meth c s₁ B hml hv
  obtain ⟨rfl, hsz, hP, hK, hD0⟩ := hv
  have hx := B.exec
  have hb := B.bytes
  have hr := B.returns
  have hts : ∀ w ∈ kG, w.before _ s = true := fun w h => atoms_spec (ws := kT yX4_refill cX4_refill 3 (some .int)) B.pre w (List.mem_cons_of_mem _ h)
  have hown : s.vm.findClass RX4 = some m.cls := findClass_of_methodNamed B.named
  have hlocks := B.notSynchronized
  subst hsz
  have hD := hD0.self (sz := s.heap.size)
  generalize hAe : va_A (wD aD aT ad af aJ aM aw ae aB ab cA mn po co dr tb sc rc la pw ce lf mq ct wd er bw) s.heap.size = A at hD ⊢
  have hA : ∀ q : Nat, s.heap.size ≤ q → A q := fun q h => by rw [← hAe]; exact Or.inr h
  have hS : va_S A s.heap s.heap [] := va_S.rf
  have hl := lv_entry ([.ref aD, .int p1, .int p2]) (n := 3) (Nat.le_of_ble_eq_true rfl)
  rw [lg_entry_eq]
  generalize (lg_sl ([.ref aD, .int p1, .int p2]) ++ List.replicate (3 - (lg_sl ([.ref aD, .int p1, .int p2])).length) Slot.unset).toArray = ls at hl ⊢
  have hl : lv_has ls 3 [(0, .ref aD), (1, .int p1), (2, .int p2)] := hl
  refine lv_aload_n hx hb dX4_refill_0 rfl (lv_at hl 0 rfl) ?_
  refine va_get (D := D) (ci := 4) (v := .ref aM) (C := RX4) (T := TX4) (N := 7) hx hb hts k_inX4 hown hK hP 0 rfl rfl 2 (by decide) (hts _ kw_172) (fun _ h9 => h9) rfl dX4_refill_1 ?_
  refine k_rdVi (As := []) (rest := []) (ci := 2) (q0 := 0) ⟨hx, hb, hml, hown, hts⟩ k_self (c_X2_hasPower l D aM aw ae cA pw ce lf mq ct wd er  hpw) kv_X4_58 (hP.sub [5, 6, 7] rfl) (hK.sub [0] rfl) rfl rfl rfl rfl ⟨Nat.le_of_ble_eq_true rfl, Nat.le_of_ble_eq_true rfl⟩ rfl hl.1 rfl (Nat.le_of_ble_eq_true rfl) dX4_refill_4 ⟨Nat.zero_le _, Nat.zero_le _⟩ ?_
  refine lv_if_ne (tgt := 13) hx hb dX4_refill_7 (by decide) (fun c_7 => ?_) (fun c_7 => ?_)
  · refine lv_iload_n hx hb dX4_refill_13 rfl (lv_at hl 1 rfl) ?_
    refine k_rdSi (As := [.int p1]) (rest := []) ⟨hx, hb, hml, hown, hts⟩ k_self (c_X4_areCents l p1) kv_X4_89 rfl rfl ⟨Nat.le_of_ble_eq_true rfl, Nat.le_of_ble_eq_true rfl⟩ rfl hl.1 rfl (Nat.le_of_ble_eq_true rfl) dX4_refill_14 ⟨Nat.zero_le _, Nat.zero_le _⟩ ?_
    refine lv_if_eq (tgt := 38) hx hb dX4_refill_17 (by decide) (fun c_17 => ?_) (fun c_17 => ?_)
    · refine lv_iconst (v := 0) hx hb dX4_refill_38 (by decide) ?_
      have hE : spX4_refill mn sc rc la pw ce lf mq ct wd er bw p1 p2 = ((0 : Int32), sc, rc, la, pw, ce, lf, ct, wd, er, bw) := by unfold spX4_refill; rw [if_neg c_7, if_pos c_17]
      exact W.iret (v := (0 : Int32)) hx hb hr (fun t ht hW => ⟨⟨(0 : Int32), (), rfl, by rw [hE], by rw [hE, ht]; exact hP, va_K.moved hW.alike hK, by rw [hE]; exact hD⟩, hS.F ht⟩) hS.2.2 dX4_refill_39
    · refine lv_iload_n hx hb dX4_refill_20 rfl (lv_at hl 2 rfl) ?_
      refine lv_aload_n hx hb dX4_refill_21 rfl (lv_at hl 0 rfl) ?_
      refine lv_aload_n hx hb dX4_refill_22 rfl (lv_at hl 0 rfl) ?_
      refine va_get (D := D) (ci := 4) (v := .ref aB) (C := RX4) (T := TX4) (N := 7) hx hb hts k_inX4 hown hK hP 0 rfl rfl 3 (by decide) (hts _ kw_173) (fun _ h9 => h9) rfl dX4_refill_23 ?_
      refine lv_bipush (v := 10) hx hb dX4_refill_26 (by decide) ?_
      refine k_rdVi (As := [.int (10 : Int32)]) (rest := [.ref aD, .int p2]) (ci := 0) (q0 := 0) ⟨hx, hb, hml, hown, hts⟩ k_self (c_X0_at l D aB ab cA bw (10 : Int32)) kv_X4_62 (hP.sub [8, 9] rfl) (hK.sub [0] rfl) rfl rfl rfl rfl ⟨Nat.le_of_ble_eq_true rfl, Nat.le_of_ble_eq_true rfl⟩ rfl hl.1 rfl (Nat.le_of_ble_eq_true rfl) dX4_refill_28 ⟨Nat.zero_le _, Nat.zero_le _⟩ ?_
      refine lv_iload_n hx hb dX4_refill_31 rfl (lv_at hl 1 rfl) ?_
      refine k_rdVi (As := [.int (spX0_at bw (10 : Int32)), .int p1]) (rest := [.int p2]) (ci := 4) (q0 := 0) ⟨hx, hb, hml, hown, hts⟩ k_self (c_X4_codeFor l D aD aT ad af aJ aM aw ae aB ab cA mn po co dr tb sc rc la pw ce lf mq ct wd er bw (spX0_at bw (10 : Int32)) p1) kv_X4_93 (hP.sub [0, 1, 2, 3, 4, 5, 6, 7, 8, 9] rfl) (hK.sub [0] rfl) rfl rfl rfl rfl ⟨Nat.le_of_ble_eq_true rfl, Nat.le_of_ble_eq_true rfl⟩ rfl hl.1 rfl (Nat.le_of_ble_eq_true rfl) dX4_refill_32 ⟨Nat.zero_le _, Nat.zero_le _⟩ ?_
      refine lv_icmp_eq (tgt := 40) hx hb dX4_refill_35 (by decide) (fun c_35 => ?_) (fun c_35 => ?_)
      · refine lv_aload_n hx hb dX4_refill_40 rfl (lv_at hl 0 rfl) ?_
        refine va_get (D := D) (ci := 4) (v := .ref aB) (C := RX4) (T := TX4) (N := 7) hx hb hts k_inX4 hown hK hP 0 rfl rfl 3 (by decide) (hts _ kw_173) (fun _ h9 => h9) rfl dX4_refill_41 ?_
        refine lv_iconst (v := 4) hx hb dX4_refill_44 (by decide) ?_
        refine k_rdVl (As := [.int (4 : Int32)]) (rest := []) (ci := 0) (q0 := 0) ⟨hx, hb, hml, hown, hts⟩ k_self (c_X0_sumAt l D aB ab cA bw (4 : Int32)) kv_X4_96 (hP.sub [8, 9] rfl) (hK.sub [0] rfl) rfl rfl rfl rfl ⟨Nat.le_of_ble_eq_true rfl, Nat.le_of_ble_eq_true rfl⟩ rfl hl.1 rfl (Nat.le_of_ble_eq_true rfl) dX4_refill_45 ⟨Nat.zero_le _, Nat.zero_le _⟩ ?_
        refine lv_iload_n hx hb dX4_refill_48 rfl (lv_at hl 1 rfl) ?_
        refine lv_i2l (v := (Int32.toInt64 p1)) hx hb dX4_refill_49 rfl ?_
        refine lv_ladd hx hb dX4_refill_50 ?_
        refine lv_ldc2 (v := 1099511627776) hx hb hown (hts _ kw_321) dX4_refill_51 ?_
        refine W.lcmp hx hb dX4_refill_54 ?_
        refine lv_if_lt (tgt := 60) hx hb dX4_refill_55 (by decide) (fun c_55 => ?_) (fun c_55 => ?_)
        · refine lv_aload_n hx hb dX4_refill_60 rfl (lv_at hl 0 rfl) ?_
          refine va_get (D := D) (ci := 4) (v := .ref aJ) (C := RX4) (T := TX4) (N := 7) hx hb hts k_inX4 hown hK hP 0 rfl rfl 4 (by decide) (hts _ kw_174) (fun _ h9 => h9) rfl dX4_refill_61 ?_
          refine lv_iconst (v := 4) hx hb dX4_refill_64 (by decide) ?_
          refine lv_iload_n hx hb dX4_refill_65 rfl (lv_at hl 1 rfl) ?_
          refine lv_iconst (v := 0) hx hb dX4_refill_66 (by decide) ?_
          rcases hq_67 : spX1_append sc rc la pw ce lf mq ct wd er bw (4 : Int32) p1 (0 : Int32) with ⟨r_67, sc_67, rc_67, la_67, pw_67, ce_67, lf_67, ct_67, wd_67, er_67, bw_67⟩
          have hM_67 : kWi l yX1_append cX1_append 6 (some .int) { frames := 5, cells := 0, slots := 0, locals := 112 } D [(cA, .int)] [.ref aJ, .int (4 : Int32), .int p1, .int (0 : Int32)] (wJ aJ aM aw ae aB ab cA sc rc la pw ce lf mq ct wd er bw) r_67 (wJ aJ aM aw ae aB ab cA sc_67 rc_67 la_67 pw_67 ce_67 lf_67 mq ct_67 wd_67 er_67 bw_67) := by
            have h := c_X1_append l D aJ aM aw ae aB ab cA sc rc la pw ce lf mq ct wd er bw (4 : Int32) p1 (0 : Int32)
            rw [hq_67] at h
            exact h
          refine k_wrVi (As := [.int (4 : Int32), .int p1, .int (0 : Int32)]) (rest := []) (ci := 1) (q0 := 0) (ws' := (wD aD aT ad af aJ aM aw ae aB ab cA mn po co dr tb sc_67 rc_67 la_67 pw_67 ce_67 lf_67 mq ct_67 wd_67 er_67 bw_67)) (wr := [(aD, .inr (4, [.int mn, .ref aT, .ref aM, .ref aB, .ref aJ, .long po, .long co])), (aT, .inr (3, [.ref ad, .ref af])), (ad, .inl (cA, 320, .inl dr)), (af, .inl (cA, 320, .inl tb))]) ⟨hx, hb, hml, hown, hts⟩ k_self hM_67 kv_X4_66 hP hD hS hA hK rfl rfl [4, 5, 6, 7, 8, 9] [0, 1, 2, 3] [0, 1, 2, 3, 4, 5, 6, 7, 8, 9] rfl (by decide) rfl (by decide) (by decide) rfl (by decide) rfl rfl ⟨Nat.le_of_ble_eq_true rfl, Nat.le_of_ble_eq_true rfl⟩ rfl hl.1 rfl (Nat.le_of_ble_eq_true rfl) dX4_refill_67 ⟨Nat.zero_le _, Nat.zero_le _⟩ (fun H locs hP hD hS => ?_)
          have hE : spX4_refill mn sc rc la pw ce lf mq ct wd er bw p1 p2 = (r_67, sc_67, rc_67, la_67, pw_67, ce_67, lf_67, ct_67, wd_67, er_67, bw_67) := by unfold spX4_refill; rw [if_neg c_7, if_neg c_17, if_pos c_35, if_pos c_55]; rw [hq_67]; try dsimp only
          exact W.iret (v := r_67) hx hb hr (fun t ht hW => ⟨⟨r_67, (), rfl, by rw [hE], by rw [hE, ht]; exact hP, va_K.moved hW.alike hK, by rw [hE]; exact hD⟩, hS.F ht⟩) hS.2.2 dX4_refill_70
        · refine lv_iconst (v := 0) hx hb dX4_refill_58 (by decide) ?_
          have hE : spX4_refill mn sc rc la pw ce lf mq ct wd er bw p1 p2 = ((0 : Int32), sc, rc, la, pw, ce, lf, ct, wd, er, bw) := by unfold spX4_refill; rw [if_neg c_7, if_neg c_17, if_pos c_35, if_neg c_55]
          exact W.iret (v := (0 : Int32)) hx hb hr (fun t ht hW => ⟨⟨(0 : Int32), (), rfl, by rw [hE], by rw [hE, ht]; exact hP, va_K.moved hW.alike hK, by rw [hE]; exact hD⟩, hS.F ht⟩) hS.2.2 dX4_refill_59
      · refine lv_iconst (v := 0) hx hb dX4_refill_38 (by decide) ?_
        have hE : spX4_refill mn sc rc la pw ce lf mq ct wd er bw p1 p2 = ((0 : Int32), sc, rc, la, pw, ce, lf, ct, wd, er, bw) := by unfold spX4_refill; rw [if_neg c_7, if_neg c_17, if_neg c_35]
        exact W.iret (v := (0 : Int32)) hx hb hr (fun t ht hW => ⟨⟨(0 : Int32), (), rfl, by rw [hE], by rw [hE, ht]; exact hP, va_K.moved hW.alike hK, by rw [hE]; exact hD⟩, hS.F ht⟩) hS.2.2 dX4_refill_39
  · refine lv_bipush (v := -7) hx hb dX4_refill_10 (by decide) ?_
    have hE : spX4_refill mn sc rc la pw ce lf mq ct wd er bw p1 p2 = ((-7 : Int32), sc, rc, la, pw, ce, lf, ct, wd, er, bw) := by unfold spX4_refill; rw [if_pos c_7]
    exact W.iret (v := (-7 : Int32)) hx hb hr (fun t ht hW => ⟨⟨(-7 : Int32), (), rfl, by rw [hE], by rw [hE, ht]; exact hP, va_K.moved hW.alike hK, by rw [hE]; exact hD⟩, hS.F ht⟩) hS.2.2 dX4_refill_12
def spX4_claimBack (sc : Int32) (rc : Int32) (la : Int32) (pw : Int32) (ce : Int32) (lf : Int32) (mq : Int32) (ct : Int32) (wd : Nat → Int32) (er : Nat → Int32) (bw : Nat → Int32) (p1 : Int32) (p2 : Int32) : Int32 × Int32 × Int32 × Int32 × Int32 × Int32 × Int32 × Int32 × (Nat → Int32) × (Nat → Int32) × (Nat → Int32) := (if (spX2_hasPower pw) = 0 then ((-7 : Int32), sc, rc, la, pw, ce, lf, ct, wd, er, bw) else (if ((spX0_at bw (9 : Int32)) + (1 : Int32)) ≤ ((spX0_at bw (8 : Int32)) / (100 : Int32)) then (if (spX4_areCents p2) = 0 then ((0 : Int32), sc, rc, la, pw, ce, lf, ct, wd, er, bw) else (if 0 < (lg_cmp (Int32.toInt64 p2) (spX0_sumAt bw (0 : Int32))) then ((0 : Int32), sc, rc, la, pw, ce, lf, ct, wd, er, bw) else (if (spX4_isDay p1) = 0 then ((0 : Int32), sc, rc, la, pw, ce, lf, ct, wd, er, bw) else (match spX1_append sc rc la pw ce lf mq ct wd er bw (5 : Int32) p2 p1 with | (r_78, sc_78, rc_78, la_78, pw_78, ce_78, lf_78, ct_78, wd_78, er_78, bw_78) => (r_78, sc_78, rc_78, la_78, pw_78, ce_78, lf_78, ct_78, wd_78, er_78, bw_78))))) else ((0 : Int32), sc, rc, la, pw, ce, lf, ct, wd, er, bw)))
set_option maxHeartbeats 4000000 in
set_option maxRecDepth 100000 in
theorem c_X4_claimBack (l : Launch) (D : va_G) (aD aT ad af aJ aM aw ae aB ab : Nat) (cA : ClassId) (mn : Int32) (po : Int64) (co : Int64) (dr : Nat → Int32) (tb : Nat → Int32) (sc : Int32) (rc : Int32) (la : Int32) (pw : Int32) (ce : Int32) (lf : Int32) (mq : Int32) (ct : Int32) (wd : Nat → Int32) (er : Nat → Int32) (bw : Nat → Int32) (p1 : Int32) (p2 : Int32) (hpw : pw = 0 ∨ pw = 1) : kWi l yX4_claimBack cX4_claimBack 3 (some .int) { frames := 6, cells := 0, slots := 0, locals := 137 } D [(cA, .int)] [.ref aD, .int p1, .int p2] (wD aD aT ad af aJ aM aw ae aB ab cA mn po co dr tb sc rc la pw ce lf mq ct wd er bw) (spX4_claimBack sc rc la pw ce lf mq ct wd er bw p1 p2).1 (wD aD aT ad af aJ aM aw ae aB ab cA mn po co dr tb (spX4_claimBack sc rc la pw ce lf mq ct wd er bw p1 p2).2.1 (spX4_claimBack sc rc la pw ce lf mq ct wd er bw p1 p2).2.2.1 (spX4_claimBack sc rc la pw ce lf mq ct wd er bw p1 p2).2.2.2.1 (spX4_claimBack sc rc la pw ce lf mq ct wd er bw p1 p2).2.2.2.2.1 (spX4_claimBack sc rc la pw ce lf mq ct wd er bw p1 p2).2.2.2.2.2.1 (spX4_claimBack sc rc la pw ce lf mq ct wd er bw p1 p2).2.2.2.2.2.2.1 mq (spX4_claimBack sc rc la pw ce lf mq ct wd er bw p1 p2).2.2.2.2.2.2.2.1 (spX4_claimBack sc rc la pw ce lf mq ct wd er bw p1 p2).2.2.2.2.2.2.2.2.1 (spX4_claimBack sc rc la pw ce lf mq ct wd er bw p1 p2).2.2.2.2.2.2.2.2.2.1 (spX4_claimBack sc rc la pw ce lf mq ct wd er bw p1 p2).2.2.2.2.2.2.2.2.2.2) := by
  intro sz
  refine Met.ofW (cc := cX4_claimBack) (maxL := 3) (ret := (some .int)) (by decide) rfl ?_
  intro p e s m args below meth c s₁ B hml hv
  obtain ⟨rfl, hsz, hP, hK, hD0⟩ := hv
  have hx := B.exec
  have hb := B.bytes
  have hr := B.returns
  have hts : ∀ w ∈ kG, w.before _ s = true := fun w h => atoms_spec (ws := kT yX4_claimBack cX4_claimBack 3 (some .int)) B.pre w (List.mem_cons_of_mem _ h)
  have hown : s.vm.findClass RX4 = some m.cls := findClass_of_methodNamed B.named
  have hlocks := B.notSynchronized
  subst hsz
  have hD := hD0.self (sz := s.heap.size)
  generalize hAe : va_A (wD aD aT ad af aJ aM aw ae aB ab cA mn po co dr tb sc rc la pw ce lf mq ct wd er bw) s.heap.size = A at hD ⊢
  have hA : ∀ q : Nat, s.heap.size ≤ q → A q := fun q h => by rw [← hAe]; exact Or.inr h
  have hS : va_S A s.heap s.heap [] := va_S.rf
  have hl := lv_entry ([.ref aD, .int p1, .int p2]) (n := 3) (Nat.le_of_ble_eq_true rfl)
  rw [lg_entry_eq]
  generalize (lg_sl ([.ref aD, .int p1, .int p2]) ++ List.replicate (3 - (lg_sl ([.ref aD, .int p1, .int p2])).length) Slot.unset).toArray = ls at hl ⊢
  have hl : lv_has ls 3 [(0, .ref aD), (1, .int p1), (2, .int p2)] := hl
  refine lv_aload_n hx hb dX4_claimBack_0 rfl (lv_at hl 0 rfl) ?_
  refine va_get (D := D) (ci := 4) (v := .ref aM) (C := RX4) (T := TX4) (N := 7) hx hb hts k_inX4 hown hK hP 0 rfl rfl 2 (by decide) (hts _ kw_172) (fun _ h9 => h9) rfl dX4_claimBack_1 ?_
  refine k_rdVi (As := []) (rest := []) (ci := 2) (q0 := 0) ⟨hx, hb, hml, hown, hts⟩ k_self (c_X2_hasPower l D aM aw ae cA pw ce lf mq ct wd er  hpw) kv_X4_58 (hP.sub [5, 6, 7] rfl) (hK.sub [0] rfl) rfl rfl rfl rfl ⟨Nat.le_of_ble_eq_true rfl, Nat.le_of_ble_eq_true rfl⟩ rfl hl.1 rfl (Nat.le_of_ble_eq_true rfl) dX4_claimBack_4 ⟨Nat.zero_le _, Nat.zero_le _⟩ ?_
  refine lv_if_ne (tgt := 13) hx hb dX4_claimBack_7 (by decide) (fun c_7 => ?_) (fun c_7 => ?_)
  · refine lv_aload_n hx hb dX4_claimBack_13 rfl (lv_at hl 0 rfl) ?_
    refine va_get (D := D) (ci := 4) (v := .ref aB) (C := RX4) (T := TX4) (N := 7) hx hb hts k_inX4 hown hK hP 0 rfl rfl 3 (by decide) (hts _ kw_173) (fun _ h9 => h9) rfl dX4_claimBack_14 ?_
    refine lv_bipush (v := 9) hx hb dX4_claimBack_17 (by decide) ?_
    refine k_rdVi (As := [.int (9 : Int32)]) (rest := []) (ci := 0) (q0 := 0) ⟨hx, hb, hml, hown, hts⟩ k_self (c_X0_at l D aB ab cA bw (9 : Int32)) kv_X4_62 (hP.sub [8, 9] rfl) (hK.sub [0] rfl) rfl rfl rfl rfl ⟨Nat.le_of_ble_eq_true rfl, Nat.le_of_ble_eq_true rfl⟩ rfl hl.1 rfl (Nat.le_of_ble_eq_true rfl) dX4_claimBack_19 ⟨Nat.zero_le _, Nat.zero_le _⟩ ?_
    refine lv_iconst (v := 1) hx hb dX4_claimBack_22 (by decide) ?_
    refine lv_iadd hx hb dX4_claimBack_23 ?_
    refine lv_aload_n hx hb dX4_claimBack_24 rfl (lv_at hl 0 rfl) ?_
    refine va_get (D := D) (ci := 4) (v := .ref aB) (C := RX4) (T := TX4) (N := 7) hx hb hts k_inX4 hown hK hP 0 rfl rfl 3 (by decide) (hts _ kw_173) (fun _ h9 => h9) rfl dX4_claimBack_25 ?_
    refine lv_bipush (v := 8) hx hb dX4_claimBack_28 (by decide) ?_
    refine k_rdVi (As := [.int (8 : Int32)]) (rest := [.int ((spX0_at bw (9 : Int32)) + (1 : Int32))]) (ci := 0) (q0 := 0) ⟨hx, hb, hml, hown, hts⟩ k_self (c_X0_at l D aB ab cA bw (8 : Int32)) kv_X4_62 (hP.sub [8, 9] rfl) (hK.sub [0] rfl) rfl rfl rfl rfl ⟨Nat.le_of_ble_eq_true rfl, Nat.le_of_ble_eq_true rfl⟩ rfl hl.1 rfl (Nat.le_of_ble_eq_true rfl) dX4_claimBack_30 ⟨Nat.zero_le _, Nat.zero_le _⟩ ?_
    refine lv_bipush (v := 100) hx hb dX4_claimBack_33 (by decide) ?_
    refine lv_idiv hx hb dX4_claimBack_35 (by decide) ?_
    refine lv_icmp_le (tgt := 41) hx hb dX4_claimBack_36 (by decide) (fun c_36 => ?_) (fun c_36 => ?_)
    · refine lv_iload_n hx hb dX4_claimBack_41 rfl (lv_at hl 2 rfl) ?_
      refine k_rdSi (As := [.int p2]) (rest := []) ⟨hx, hb, hml, hown, hts⟩ k_self (c_X4_areCents l p2) kv_X4_89 rfl rfl ⟨Nat.le_of_ble_eq_true rfl, Nat.le_of_ble_eq_true rfl⟩ rfl hl.1 rfl (Nat.le_of_ble_eq_true rfl) dX4_claimBack_42 ⟨Nat.zero_le _, Nat.zero_le _⟩ ?_
      refine lv_if_eq (tgt := 69) hx hb dX4_claimBack_45 (by decide) (fun c_45 => ?_) (fun c_45 => ?_)
      · refine lv_iconst (v := 0) hx hb dX4_claimBack_69 (by decide) ?_
        have hE : spX4_claimBack sc rc la pw ce lf mq ct wd er bw p1 p2 = ((0 : Int32), sc, rc, la, pw, ce, lf, ct, wd, er, bw) := by unfold spX4_claimBack; rw [if_neg c_7, if_pos c_36, if_pos c_45]
        exact W.iret (v := (0 : Int32)) hx hb hr (fun t ht hW => ⟨⟨(0 : Int32), (), rfl, by rw [hE], by rw [hE, ht]; exact hP, va_K.moved hW.alike hK, by rw [hE]; exact hD⟩, hS.F ht⟩) hS.2.2 dX4_claimBack_70
      · refine lv_iload_n hx hb dX4_claimBack_48 rfl (lv_at hl 2 rfl) ?_
        refine lv_i2l (v := (Int32.toInt64 p2)) hx hb dX4_claimBack_49 rfl ?_
        refine lv_aload_n hx hb dX4_claimBack_50 rfl (lv_at hl 0 rfl) ?_
        refine va_get (D := D) (ci := 4) (v := .ref aB) (C := RX4) (T := TX4) (N := 7) hx hb hts k_inX4 hown hK hP 0 rfl rfl 3 (by decide) (hts _ kw_173) (fun _ h9 => h9) rfl dX4_claimBack_51 ?_
        refine lv_iconst (v := 0) hx hb dX4_claimBack_54 (by decide) ?_
        refine k_rdVl (As := [.int (0 : Int32)]) (rest := [.long (Int32.toInt64 p2)]) (ci := 0) (q0 := 0) ⟨hx, hb, hml, hown, hts⟩ k_self (c_X0_sumAt l D aB ab cA bw (0 : Int32)) kv_X4_96 (hP.sub [8, 9] rfl) (hK.sub [0] rfl) rfl rfl rfl rfl ⟨Nat.le_of_ble_eq_true rfl, Nat.le_of_ble_eq_true rfl⟩ rfl hl.1 rfl (Nat.le_of_ble_eq_true rfl) dX4_claimBack_55 ⟨Nat.zero_le _, Nat.zero_le _⟩ ?_
        refine W.lcmp hx hb dX4_claimBack_58 ?_
        refine lv_if_gt (tgt := 69) hx hb dX4_claimBack_59 (by decide) (fun c_59 => ?_) (fun c_59 => ?_)
        · refine lv_iconst (v := 0) hx hb dX4_claimBack_69 (by decide) ?_
          have hE : spX4_claimBack sc rc la pw ce lf mq ct wd er bw p1 p2 = ((0 : Int32), sc, rc, la, pw, ce, lf, ct, wd, er, bw) := by unfold spX4_claimBack; rw [if_neg c_7, if_pos c_36, if_neg c_45, if_pos c_59]
          exact W.iret (v := (0 : Int32)) hx hb hr (fun t ht hW => ⟨⟨(0 : Int32), (), rfl, by rw [hE], by rw [hE, ht]; exact hP, va_K.moved hW.alike hK, by rw [hE]; exact hD⟩, hS.F ht⟩) hS.2.2 dX4_claimBack_70
        · refine lv_iload_n hx hb dX4_claimBack_62 rfl (lv_at hl 1 rfl) ?_
          refine k_rdSi (As := [.int p1]) (rest := []) ⟨hx, hb, hml, hown, hts⟩ k_self (c_X4_isDay l p1) kv_X4_110 rfl rfl ⟨Nat.le_of_ble_eq_true rfl, Nat.le_of_ble_eq_true rfl⟩ rfl hl.1 rfl (Nat.le_of_ble_eq_true rfl) dX4_claimBack_63 ⟨Nat.zero_le _, Nat.zero_le _⟩ ?_
          refine lv_if_ne (tgt := 71) hx hb dX4_claimBack_66 (by decide) (fun c_66 => ?_) (fun c_66 => ?_)
          · refine lv_aload_n hx hb dX4_claimBack_71 rfl (lv_at hl 0 rfl) ?_
            refine va_get (D := D) (ci := 4) (v := .ref aJ) (C := RX4) (T := TX4) (N := 7) hx hb hts k_inX4 hown hK hP 0 rfl rfl 4 (by decide) (hts _ kw_174) (fun _ h9 => h9) rfl dX4_claimBack_72 ?_
            refine lv_iconst (v := 5) hx hb dX4_claimBack_75 (by decide) ?_
            refine lv_iload_n hx hb dX4_claimBack_76 rfl (lv_at hl 2 rfl) ?_
            refine lv_iload_n hx hb dX4_claimBack_77 rfl (lv_at hl 1 rfl) ?_
            rcases hq_78 : spX1_append sc rc la pw ce lf mq ct wd er bw (5 : Int32) p2 p1 with ⟨r_78, sc_78, rc_78, la_78, pw_78, ce_78, lf_78, ct_78, wd_78, er_78, bw_78⟩
            have hM_78 : kWi l yX1_append cX1_append 6 (some .int) { frames := 5, cells := 0, slots := 0, locals := 112 } D [(cA, .int)] [.ref aJ, .int (5 : Int32), .int p2, .int p1] (wJ aJ aM aw ae aB ab cA sc rc la pw ce lf mq ct wd er bw) r_78 (wJ aJ aM aw ae aB ab cA sc_78 rc_78 la_78 pw_78 ce_78 lf_78 mq ct_78 wd_78 er_78 bw_78) := by
              have h := c_X1_append l D aJ aM aw ae aB ab cA sc rc la pw ce lf mq ct wd er bw (5 : Int32) p2 p1
              rw [hq_78] at h
              exact h
            refine k_wrVi (As := [.int (5 : Int32), .int p2, .int p1]) (rest := []) (ci := 1) (q0 := 0) (ws' := (wD aD aT ad af aJ aM aw ae aB ab cA mn po co dr tb sc_78 rc_78 la_78 pw_78 ce_78 lf_78 mq ct_78 wd_78 er_78 bw_78)) (wr := [(aD, .inr (4, [.int mn, .ref aT, .ref aM, .ref aB, .ref aJ, .long po, .long co])), (aT, .inr (3, [.ref ad, .ref af])), (ad, .inl (cA, 320, .inl dr)), (af, .inl (cA, 320, .inl tb))]) ⟨hx, hb, hml, hown, hts⟩ k_self hM_78 kv_X4_66 hP hD hS hA hK rfl rfl [4, 5, 6, 7, 8, 9] [0, 1, 2, 3] [0, 1, 2, 3, 4, 5, 6, 7, 8, 9] rfl (by decide) rfl (by decide) (by decide) rfl (by decide) rfl rfl ⟨Nat.le_of_ble_eq_true rfl, Nat.le_of_ble_eq_true rfl⟩ rfl hl.1 rfl (Nat.le_of_ble_eq_true rfl) dX4_claimBack_78 ⟨Nat.zero_le _, Nat.zero_le _⟩ (fun H locs hP hD hS => ?_)
            have hE : spX4_claimBack sc rc la pw ce lf mq ct wd er bw p1 p2 = (r_78, sc_78, rc_78, la_78, pw_78, ce_78, lf_78, ct_78, wd_78, er_78, bw_78) := by unfold spX4_claimBack; rw [if_neg c_7, if_pos c_36, if_neg c_45, if_neg c_59, if_neg c_66]; rw [hq_78]; try dsimp only
            exact W.iret (v := r_78) hx hb hr (fun t ht hW => ⟨⟨r_78, (), rfl, by rw [hE], by rw [hE, ht]; exact hP, va_K.moved hW.alike hK, by rw [hE]; exact hD⟩, hS.F ht⟩) hS.2.2 dX4_claimBack_81
          · refine lv_iconst (v := 0) hx hb dX4_claimBack_69 (by decide) ?_
            have hE : spX4_claimBack sc rc la pw ce lf mq ct wd er bw p1 p2 = ((0 : Int32), sc, rc, la, pw, ce, lf, ct, wd, er, bw) := by unfold spX4_claimBack; rw [if_neg c_7, if_pos c_36, if_neg c_45, if_neg c_59, if_pos c_66]
            exact W.iret (v := (0 : Int32)) hx hb hr (fun t ht hW => ⟨⟨(0 : Int32), (), rfl, by rw [hE], by rw [hE, ht]; exact hP, va_K.moved hW.alike hK, by rw [hE]; exact hD⟩, hS.F ht⟩) hS.2.2 dX4_claimBack_70
    · refine lv_iconst (v := 0) hx hb dX4_claimBack_39 (by decide) ?_
      have hE : spX4_claimBack sc rc la pw ce lf mq ct wd er bw p1 p2 = ((0 : Int32), sc, rc, la, pw, ce, lf, ct, wd, er, bw) := by unfold spX4_claimBack; rw [if_neg c_7, if_neg c_36]
      exact W.iret (v := (0 : Int32)) hx hb hr (fun t ht hW => ⟨⟨(0 : Int32), (), rfl, by rw [hE], by rw [hE, ht]; exact hP, va_K.moved hW.alike hK, by rw [hE]; exact hD⟩, hS.F ht⟩) hS.2.2 dX4_claimBack_40
  · refine lv_bipush (v := -7) hx hb dX4_claimBack_10 (by decide) ?_
    have hE : spX4_claimBack sc rc la pw ce lf mq ct wd er bw p1 p2 = ((-7 : Int32), sc, rc, la, pw, ce, lf, ct, wd, er, bw) := by unfold spX4_claimBack; rw [if_pos c_7]
    exact W.iret (v := (-7 : Int32)) hx hb hr (fun t ht hW => ⟨⟨(-7 : Int32), (), rfl, by rw [hE], by rw [hE, ht]; exact hP, va_K.moved hW.alike hK, by rw [hE]; exact hD⟩, hS.F ht⟩) hS.2.2 dX4_claimBack_12
def spX4_book (pw : Int32) (bw : Nat → Int32) (p1 : Int32) : Int64 := (if (spX2_hasPower pw) = 0 then (-7 : Int64) else (if p1 = 0 then (spX0_sumAt bw (0 : Int32)) else (if p1 = 1 then (spX0_sumAt bw (2 : Int32)) else (if p1 = 2 then (spX0_sumAt bw (4 : Int32)) else (if p1 = 3 then (spX0_sumAt bw (6 : Int32)) else (if p1 = 4 then (Int32.toInt64 (spX0_at bw (8 : Int32))) else (if p1 = 5 then (Int32.toInt64 (spX0_at bw (9 : Int32))) else (if p1 = 6 then (Int32.toInt64 (spX0_at bw (10 : Int32))) else (if p1 = 7 then (Int32.toInt64 (spX0_at bw (11 : Int32))) else (if p1 = 8 then (Int32.toInt64 (spX0_at bw (12 : Int32))) else (if p1 = 9 then (Int32.toInt64 (spX0_at bw (13 : Int32))) else (-1 : Int64))))))))))))
set_option maxHeartbeats 4000000 in
set_option maxRecDepth 100000 in
theorem c_X4_book (l : Launch) (D : va_G) (aD aT ad af aJ aM aw ae aB ab : Nat) (cA : ClassId) (mn : Int32) (po : Int64) (co : Int64) (dr : Nat → Int32) (tb : Nat → Int32) (sc : Int32) (rc : Int32) (la : Int32) (pw : Int32) (ce : Int32) (lf : Int32) (mq : Int32) (ct : Int32) (wd : Nat → Int32) (er : Nat → Int32) (bw : Nat → Int32) (p1 : Int32) (hpw : pw = 0 ∨ pw = 1) : kRl l yX4_book cX4_book 2 (some .long) { frames := 2, cells := 0, slots := 0, locals := 42 } [.ref aD, .int p1] (kB D (wD aD aT ad af aJ aM aw ae aB ab cA mn po co dr tb sc rc la pw ce lf mq ct wd er bw) [(cA, .int)]) (spX4_book pw bw p1) := by
  refine Met.ofW (cc := cX4_book) (maxL := 2) (ret := (some .long)) (by decide) rfl ?_
  intro p e s m args below meth c s₁ B hml hv
  obtain ⟨rfl, hP, hK⟩ := hv
  have hx := B.exec
  have hb := B.bytes
  have hr := B.returns
  have hts : ∀ w ∈ kG, w.before _ s = true := fun w h => atoms_spec (ws := kT yX4_book cX4_book 2 (some .long)) B.pre w (List.mem_cons_of_mem _ h)
  have hown : s.vm.findClass RX4 = some m.cls := findClass_of_methodNamed B.named
  have hlocks := B.notSynchronized
  have hl := lv_entry ([.ref aD, .int p1]) (n := 2) (Nat.le_of_ble_eq_true rfl)
  rw [lg_entry_eq]
  generalize (lg_sl ([.ref aD, .int p1]) ++ List.replicate (2 - (lg_sl ([.ref aD, .int p1])).length) Slot.unset).toArray = ls at hl ⊢
  have hl : lv_has ls 2 [(0, .ref aD), (1, .int p1)] := hl
  refine lv_aload_n hx hb dX4_book_0 rfl (lv_at hl 0 rfl) ?_
  refine va_get (D := D) (ci := 4) (v := .ref aM) (C := RX4) (T := TX4) (N := 7) hx hb hts k_inX4 hown hK hP 0 rfl rfl 2 (by decide) (hts _ kw_172) (fun _ h9 => h9) rfl dX4_book_1 ?_
  refine k_rdVi (As := []) (rest := []) (ci := 2) (q0 := 0) ⟨hx, hb, hml, hown, hts⟩ k_self (c_X2_hasPower l D aM aw ae cA pw ce lf mq ct wd er  hpw) kv_X4_58 (hP.sub [5, 6, 7] rfl) (hK.sub [0] rfl) rfl rfl rfl rfl ⟨Nat.le_of_ble_eq_true rfl, Nat.le_of_ble_eq_true rfl⟩ rfl hl.1 rfl (Nat.le_of_ble_eq_true rfl) dX4_book_4 ⟨Nat.zero_le _, Nat.zero_le _⟩ ?_
  refine lv_if_ne (tgt := 14) hx hb dX4_book_7 (by decide) (fun c_7 => ?_) (fun c_7 => ?_)
  · refine lv_iload_n hx hb dX4_book_14 rfl (lv_at hl 1 rfl) ?_
    by_cases c_15_0 : p1 = 0
    · refine lv_tableIn (tgt := 68) hx hb dX4_book_15 (by rw [c_15_0]; decide) (by rw [c_15_0]; decide) (by rw [c_15_0]; rfl) (by decide) ?_
      refine lv_aload_n hx hb dX4_book_68 rfl (lv_at hl 0 rfl) ?_
      refine va_get (D := D) (ci := 4) (v := .ref aB) (C := RX4) (T := TX4) (N := 7) hx hb hts k_inX4 hown hK hP 0 rfl rfl 3 (by decide) (hts _ kw_173) (fun _ h9 => h9) rfl dX4_book_69 ?_
      refine lv_iconst (v := 0) hx hb dX4_book_72 (by decide) ?_
      refine k_rdVl (As := [.int (0 : Int32)]) (rest := []) (ci := 0) (q0 := 0) ⟨hx, hb, hml, hown, hts⟩ k_self (c_X0_sumAt l D aB ab cA bw (0 : Int32)) kv_X4_96 (hP.sub [8, 9] rfl) (hK.sub [0] rfl) rfl rfl rfl rfl ⟨Nat.le_of_ble_eq_true rfl, Nat.le_of_ble_eq_true rfl⟩ rfl hl.1 rfl (Nat.le_of_ble_eq_true rfl) dX4_book_73 ⟨Nat.zero_le _, Nat.zero_le _⟩ ?_
      exact W.lret (v := (spX0_sumAt bw (0 : Int32))) hx hb hr (fun t ht hW => ⟨(spX0_sumAt bw (0 : Int32)), rfl, (show _ = _ from (by unfold spX4_book; rw [if_neg c_7, if_pos c_15_0] : spX4_book pw bw p1 = (spX0_sumAt bw (0 : Int32))).symm), ht⟩) (fun q h => by cases h) dX4_book_76
    by_cases c_15_1 : p1 = 1
    · refine lv_tableIn (tgt := 77) hx hb dX4_book_15 (by rw [c_15_1]; decide) (by rw [c_15_1]; decide) (by rw [c_15_1]; rfl) (by decide) ?_
      refine lv_aload_n hx hb dX4_book_77 rfl (lv_at hl 0 rfl) ?_
      refine va_get (D := D) (ci := 4) (v := .ref aB) (C := RX4) (T := TX4) (N := 7) hx hb hts k_inX4 hown hK hP 0 rfl rfl 3 (by decide) (hts _ kw_173) (fun _ h9 => h9) rfl dX4_book_78 ?_
      refine lv_iconst (v := 2) hx hb dX4_book_81 (by decide) ?_
      refine k_rdVl (As := [.int (2 : Int32)]) (rest := []) (ci := 0) (q0 := 0) ⟨hx, hb, hml, hown, hts⟩ k_self (c_X0_sumAt l D aB ab cA bw (2 : Int32)) kv_X4_96 (hP.sub [8, 9] rfl) (hK.sub [0] rfl) rfl rfl rfl rfl ⟨Nat.le_of_ble_eq_true rfl, Nat.le_of_ble_eq_true rfl⟩ rfl hl.1 rfl (Nat.le_of_ble_eq_true rfl) dX4_book_82 ⟨Nat.zero_le _, Nat.zero_le _⟩ ?_
      exact W.lret (v := (spX0_sumAt bw (2 : Int32))) hx hb hr (fun t ht hW => ⟨(spX0_sumAt bw (2 : Int32)), rfl, (show _ = _ from (by unfold spX4_book; rw [if_neg c_7, if_neg c_15_0, if_pos c_15_1] : spX4_book pw bw p1 = (spX0_sumAt bw (2 : Int32))).symm), ht⟩) (fun q h => by cases h) dX4_book_85
    by_cases c_15_2 : p1 = 2
    · refine lv_tableIn (tgt := 86) hx hb dX4_book_15 (by rw [c_15_2]; decide) (by rw [c_15_2]; decide) (by rw [c_15_2]; rfl) (by decide) ?_
      refine lv_aload_n hx hb dX4_book_86 rfl (lv_at hl 0 rfl) ?_
      refine va_get (D := D) (ci := 4) (v := .ref aB) (C := RX4) (T := TX4) (N := 7) hx hb hts k_inX4 hown hK hP 0 rfl rfl 3 (by decide) (hts _ kw_173) (fun _ h9 => h9) rfl dX4_book_87 ?_
      refine lv_iconst (v := 4) hx hb dX4_book_90 (by decide) ?_
      refine k_rdVl (As := [.int (4 : Int32)]) (rest := []) (ci := 0) (q0 := 0) ⟨hx, hb, hml, hown, hts⟩ k_self (c_X0_sumAt l D aB ab cA bw (4 : Int32)) kv_X4_96 (hP.sub [8, 9] rfl) (hK.sub [0] rfl) rfl rfl rfl rfl ⟨Nat.le_of_ble_eq_true rfl, Nat.le_of_ble_eq_true rfl⟩ rfl hl.1 rfl (Nat.le_of_ble_eq_true rfl) dX4_book_91 ⟨Nat.zero_le _, Nat.zero_le _⟩ ?_
      exact W.lret (v := (spX0_sumAt bw (4 : Int32))) hx hb hr (fun t ht hW => ⟨(spX0_sumAt bw (4 : Int32)), rfl, (show _ = _ from (by unfold spX4_book; rw [if_neg c_7, if_neg c_15_0, if_neg c_15_1, if_pos c_15_2] : spX4_book pw bw p1 = (spX0_sumAt bw (4 : Int32))).symm), ht⟩) (fun q h => by cases h) dX4_book_94
    by_cases c_15_3 : p1 = 3
    · refine lv_tableIn (tgt := 95) hx hb dX4_book_15 (by rw [c_15_3]; decide) (by rw [c_15_3]; decide) (by rw [c_15_3]; rfl) (by decide) ?_
      refine lv_aload_n hx hb dX4_book_95 rfl (lv_at hl 0 rfl) ?_
      refine va_get (D := D) (ci := 4) (v := .ref aB) (C := RX4) (T := TX4) (N := 7) hx hb hts k_inX4 hown hK hP 0 rfl rfl 3 (by decide) (hts _ kw_173) (fun _ h9 => h9) rfl dX4_book_96 ?_
      refine lv_bipush (v := 6) hx hb dX4_book_99 (by decide) ?_
      refine k_rdVl (As := [.int (6 : Int32)]) (rest := []) (ci := 0) (q0 := 0) ⟨hx, hb, hml, hown, hts⟩ k_self (c_X0_sumAt l D aB ab cA bw (6 : Int32)) kv_X4_96 (hP.sub [8, 9] rfl) (hK.sub [0] rfl) rfl rfl rfl rfl ⟨Nat.le_of_ble_eq_true rfl, Nat.le_of_ble_eq_true rfl⟩ rfl hl.1 rfl (Nat.le_of_ble_eq_true rfl) dX4_book_101 ⟨Nat.zero_le _, Nat.zero_le _⟩ ?_
      exact W.lret (v := (spX0_sumAt bw (6 : Int32))) hx hb hr (fun t ht hW => ⟨(spX0_sumAt bw (6 : Int32)), rfl, (show _ = _ from (by unfold spX4_book; rw [if_neg c_7, if_neg c_15_0, if_neg c_15_1, if_neg c_15_2, if_pos c_15_3] : spX4_book pw bw p1 = (spX0_sumAt bw (6 : Int32))).symm), ht⟩) (fun q h => by cases h) dX4_book_104
    by_cases c_15_4 : p1 = 4
    · refine lv_tableIn (tgt := 105) hx hb dX4_book_15 (by rw [c_15_4]; decide) (by rw [c_15_4]; decide) (by rw [c_15_4]; rfl) (by decide) ?_
      refine lv_aload_n hx hb dX4_book_105 rfl (lv_at hl 0 rfl) ?_
      refine va_get (D := D) (ci := 4) (v := .ref aB) (C := RX4) (T := TX4) (N := 7) hx hb hts k_inX4 hown hK hP 0 rfl rfl 3 (by decide) (hts _ kw_173) (fun _ h9 => h9) rfl dX4_book_106 ?_
      refine lv_bipush (v := 8) hx hb dX4_book_109 (by decide) ?_
      refine k_rdVi (As := [.int (8 : Int32)]) (rest := []) (ci := 0) (q0 := 0) ⟨hx, hb, hml, hown, hts⟩ k_self (c_X0_at l D aB ab cA bw (8 : Int32)) kv_X4_62 (hP.sub [8, 9] rfl) (hK.sub [0] rfl) rfl rfl rfl rfl ⟨Nat.le_of_ble_eq_true rfl, Nat.le_of_ble_eq_true rfl⟩ rfl hl.1 rfl (Nat.le_of_ble_eq_true rfl) dX4_book_111 ⟨Nat.zero_le _, Nat.zero_le _⟩ ?_
      refine lv_i2l (v := (Int32.toInt64 (spX0_at bw (8 : Int32)))) hx hb dX4_book_114 rfl ?_
      exact W.lret (v := (Int32.toInt64 (spX0_at bw (8 : Int32)))) hx hb hr (fun t ht hW => ⟨(Int32.toInt64 (spX0_at bw (8 : Int32))), rfl, (show _ = _ from (by unfold spX4_book; rw [if_neg c_7, if_neg c_15_0, if_neg c_15_1, if_neg c_15_2, if_neg c_15_3, if_pos c_15_4] : spX4_book pw bw p1 = (Int32.toInt64 (spX0_at bw (8 : Int32)))).symm), ht⟩) (fun q h => by cases h) dX4_book_115
    by_cases c_15_5 : p1 = 5
    · refine lv_tableIn (tgt := 116) hx hb dX4_book_15 (by rw [c_15_5]; decide) (by rw [c_15_5]; decide) (by rw [c_15_5]; rfl) (by decide) ?_
      refine lv_aload_n hx hb dX4_book_116 rfl (lv_at hl 0 rfl) ?_
      refine va_get (D := D) (ci := 4) (v := .ref aB) (C := RX4) (T := TX4) (N := 7) hx hb hts k_inX4 hown hK hP 0 rfl rfl 3 (by decide) (hts _ kw_173) (fun _ h9 => h9) rfl dX4_book_117 ?_
      refine lv_bipush (v := 9) hx hb dX4_book_120 (by decide) ?_
      refine k_rdVi (As := [.int (9 : Int32)]) (rest := []) (ci := 0) (q0 := 0) ⟨hx, hb, hml, hown, hts⟩ k_self (c_X0_at l D aB ab cA bw (9 : Int32)) kv_X4_62 (hP.sub [8, 9] rfl) (hK.sub [0] rfl) rfl rfl rfl rfl ⟨Nat.le_of_ble_eq_true rfl, Nat.le_of_ble_eq_true rfl⟩ rfl hl.1 rfl (Nat.le_of_ble_eq_true rfl) dX4_book_122 ⟨Nat.zero_le _, Nat.zero_le _⟩ ?_
      refine lv_i2l (v := (Int32.toInt64 (spX0_at bw (9 : Int32)))) hx hb dX4_book_125 rfl ?_
      exact W.lret (v := (Int32.toInt64 (spX0_at bw (9 : Int32)))) hx hb hr (fun t ht hW => ⟨(Int32.toInt64 (spX0_at bw (9 : Int32))), rfl, (show _ = _ from (by unfold spX4_book; rw [if_neg c_7, if_neg c_15_0, if_neg c_15_1, if_neg c_15_2, if_neg c_15_3, if_neg c_15_4, if_pos c_15_5] : spX4_book pw bw p1 = (Int32.toInt64 (spX0_at bw (9 : Int32)))).symm), ht⟩) (fun q h => by cases h) dX4_book_126
    by_cases c_15_6 : p1 = 6
    · refine lv_tableIn (tgt := 127) hx hb dX4_book_15 (by rw [c_15_6]; decide) (by rw [c_15_6]; decide) (by rw [c_15_6]; rfl) (by decide) ?_
      refine lv_aload_n hx hb dX4_book_127 rfl (lv_at hl 0 rfl) ?_
      refine va_get (D := D) (ci := 4) (v := .ref aB) (C := RX4) (T := TX4) (N := 7) hx hb hts k_inX4 hown hK hP 0 rfl rfl 3 (by decide) (hts _ kw_173) (fun _ h9 => h9) rfl dX4_book_128 ?_
      refine lv_bipush (v := 10) hx hb dX4_book_131 (by decide) ?_
      refine k_rdVi (As := [.int (10 : Int32)]) (rest := []) (ci := 0) (q0 := 0) ⟨hx, hb, hml, hown, hts⟩ k_self (c_X0_at l D aB ab cA bw (10 : Int32)) kv_X4_62 (hP.sub [8, 9] rfl) (hK.sub [0] rfl) rfl rfl rfl rfl ⟨Nat.le_of_ble_eq_true rfl, Nat.le_of_ble_eq_true rfl⟩ rfl hl.1 rfl (Nat.le_of_ble_eq_true rfl) dX4_book_133 ⟨Nat.zero_le _, Nat.zero_le _⟩ ?_
      refine lv_i2l (v := (Int32.toInt64 (spX0_at bw (10 : Int32)))) hx hb dX4_book_136 rfl ?_
      exact W.lret (v := (Int32.toInt64 (spX0_at bw (10 : Int32)))) hx hb hr (fun t ht hW => ⟨(Int32.toInt64 (spX0_at bw (10 : Int32))), rfl, (show _ = _ from (by unfold spX4_book; rw [if_neg c_7, if_neg c_15_0, if_neg c_15_1, if_neg c_15_2, if_neg c_15_3, if_neg c_15_4, if_neg c_15_5, if_pos c_15_6] : spX4_book pw bw p1 = (Int32.toInt64 (spX0_at bw (10 : Int32)))).symm), ht⟩) (fun q h => by cases h) dX4_book_137
    by_cases c_15_7 : p1 = 7
    · refine lv_tableIn (tgt := 138) hx hb dX4_book_15 (by rw [c_15_7]; decide) (by rw [c_15_7]; decide) (by rw [c_15_7]; rfl) (by decide) ?_
      refine lv_aload_n hx hb dX4_book_138 rfl (lv_at hl 0 rfl) ?_
      refine va_get (D := D) (ci := 4) (v := .ref aB) (C := RX4) (T := TX4) (N := 7) hx hb hts k_inX4 hown hK hP 0 rfl rfl 3 (by decide) (hts _ kw_173) (fun _ h9 => h9) rfl dX4_book_139 ?_
      refine lv_bipush (v := 11) hx hb dX4_book_142 (by decide) ?_
      refine k_rdVi (As := [.int (11 : Int32)]) (rest := []) (ci := 0) (q0 := 0) ⟨hx, hb, hml, hown, hts⟩ k_self (c_X0_at l D aB ab cA bw (11 : Int32)) kv_X4_62 (hP.sub [8, 9] rfl) (hK.sub [0] rfl) rfl rfl rfl rfl ⟨Nat.le_of_ble_eq_true rfl, Nat.le_of_ble_eq_true rfl⟩ rfl hl.1 rfl (Nat.le_of_ble_eq_true rfl) dX4_book_144 ⟨Nat.zero_le _, Nat.zero_le _⟩ ?_
      refine lv_i2l (v := (Int32.toInt64 (spX0_at bw (11 : Int32)))) hx hb dX4_book_147 rfl ?_
      exact W.lret (v := (Int32.toInt64 (spX0_at bw (11 : Int32)))) hx hb hr (fun t ht hW => ⟨(Int32.toInt64 (spX0_at bw (11 : Int32))), rfl, (show _ = _ from (by unfold spX4_book; rw [if_neg c_7, if_neg c_15_0, if_neg c_15_1, if_neg c_15_2, if_neg c_15_3, if_neg c_15_4, if_neg c_15_5, if_neg c_15_6, if_pos c_15_7] : spX4_book pw bw p1 = (Int32.toInt64 (spX0_at bw (11 : Int32)))).symm), ht⟩) (fun q h => by cases h) dX4_book_148
    by_cases c_15_8 : p1 = 8
    · refine lv_tableIn (tgt := 149) hx hb dX4_book_15 (by rw [c_15_8]; decide) (by rw [c_15_8]; decide) (by rw [c_15_8]; rfl) (by decide) ?_
      refine lv_aload_n hx hb dX4_book_149 rfl (lv_at hl 0 rfl) ?_
      refine va_get (D := D) (ci := 4) (v := .ref aB) (C := RX4) (T := TX4) (N := 7) hx hb hts k_inX4 hown hK hP 0 rfl rfl 3 (by decide) (hts _ kw_173) (fun _ h9 => h9) rfl dX4_book_150 ?_
      refine lv_bipush (v := 12) hx hb dX4_book_153 (by decide) ?_
      refine k_rdVi (As := [.int (12 : Int32)]) (rest := []) (ci := 0) (q0 := 0) ⟨hx, hb, hml, hown, hts⟩ k_self (c_X0_at l D aB ab cA bw (12 : Int32)) kv_X4_62 (hP.sub [8, 9] rfl) (hK.sub [0] rfl) rfl rfl rfl rfl ⟨Nat.le_of_ble_eq_true rfl, Nat.le_of_ble_eq_true rfl⟩ rfl hl.1 rfl (Nat.le_of_ble_eq_true rfl) dX4_book_155 ⟨Nat.zero_le _, Nat.zero_le _⟩ ?_
      refine lv_i2l (v := (Int32.toInt64 (spX0_at bw (12 : Int32)))) hx hb dX4_book_158 rfl ?_
      exact W.lret (v := (Int32.toInt64 (spX0_at bw (12 : Int32)))) hx hb hr (fun t ht hW => ⟨(Int32.toInt64 (spX0_at bw (12 : Int32))), rfl, (show _ = _ from (by unfold spX4_book; rw [if_neg c_7, if_neg c_15_0, if_neg c_15_1, if_neg c_15_2, if_neg c_15_3, if_neg c_15_4, if_neg c_15_5, if_neg c_15_6, if_neg c_15_7, if_pos c_15_8] : spX4_book pw bw p1 = (Int32.toInt64 (spX0_at bw (12 : Int32)))).symm), ht⟩) (fun q h => by cases h) dX4_book_159
    by_cases c_15_9 : p1 = 9
    · refine lv_tableIn (tgt := 160) hx hb dX4_book_15 (by rw [c_15_9]; decide) (by rw [c_15_9]; decide) (by rw [c_15_9]; rfl) (by decide) ?_
      refine lv_aload_n hx hb dX4_book_160 rfl (lv_at hl 0 rfl) ?_
      refine va_get (D := D) (ci := 4) (v := .ref aB) (C := RX4) (T := TX4) (N := 7) hx hb hts k_inX4 hown hK hP 0 rfl rfl 3 (by decide) (hts _ kw_173) (fun _ h9 => h9) rfl dX4_book_161 ?_
      refine lv_bipush (v := 13) hx hb dX4_book_164 (by decide) ?_
      refine k_rdVi (As := [.int (13 : Int32)]) (rest := []) (ci := 0) (q0 := 0) ⟨hx, hb, hml, hown, hts⟩ k_self (c_X0_at l D aB ab cA bw (13 : Int32)) kv_X4_62 (hP.sub [8, 9] rfl) (hK.sub [0] rfl) rfl rfl rfl rfl ⟨Nat.le_of_ble_eq_true rfl, Nat.le_of_ble_eq_true rfl⟩ rfl hl.1 rfl (Nat.le_of_ble_eq_true rfl) dX4_book_166 ⟨Nat.zero_le _, Nat.zero_le _⟩ ?_
      refine lv_i2l (v := (Int32.toInt64 (spX0_at bw (13 : Int32)))) hx hb dX4_book_169 rfl ?_
      exact W.lret (v := (Int32.toInt64 (spX0_at bw (13 : Int32)))) hx hb hr (fun t ht hW => ⟨(Int32.toInt64 (spX0_at bw (13 : Int32))), rfl, (show _ = _ from (by unfold spX4_book; rw [if_neg c_7, if_neg c_15_0, if_neg c_15_1, if_neg c_15_2, if_neg c_15_3, if_neg c_15_4, if_neg c_15_5, if_neg c_15_6, if_neg c_15_7, if_neg c_15_8, if_pos c_15_9] : spX4_book pw bw p1 = (Int32.toInt64 (spX0_at bw (13 : Int32)))).symm), ht⟩) (fun q h => by cases h) dX4_book_170
    refine lv_tableOut (tgt := 171) hx hb dX4_book_15 (by have nc_15_0 := lv_neT (a := 0) c_15_0 rfl; have nc_15_1 := lv_neT (a := 1) c_15_1 rfl; have nc_15_2 := lv_neT (a := 2) c_15_2 rfl; have nc_15_3 := lv_neT (a := 3) c_15_3 rfl; have nc_15_4 := lv_neT (a := 4) c_15_4 rfl; have nc_15_5 := lv_neT (a := 5) c_15_5 rfl; have nc_15_6 := lv_neT (a := 6) c_15_6 rfl; have nc_15_7 := lv_neT (a := 7) c_15_7 rfl; have nc_15_8 := lv_neT (a := 8) c_15_8 rfl; have nc_15_9 := lv_neT (a := 9) c_15_9 rfl; omega) (by decide) ?_
    refine lv_ldc2 (v := -1) hx hb hown (hts _ kw_308) dX4_book_171 ?_
    exact W.lret (v := (-1 : Int64)) hx hb hr (fun t ht hW => ⟨(-1 : Int64), rfl, (show _ = _ from (by unfold spX4_book; rw [if_neg c_7, if_neg c_15_0, if_neg c_15_1, if_neg c_15_2, if_neg c_15_3, if_neg c_15_4, if_neg c_15_5, if_neg c_15_6, if_neg c_15_7, if_neg c_15_8, if_neg c_15_9] : spX4_book pw bw p1 = (-1 : Int64)).symm), ht⟩) (fun q h => by cases h) dX4_book_174
  · refine lv_ldc2 (v := -7) hx hb hown (hts _ kw_331) dX4_book_10 ?_
    exact W.lret (v := (-7 : Int64)) hx hb hr (fun t ht hW => ⟨(-7 : Int64), rfl, (show _ = _ from (by unfold spX4_book; rw [if_pos c_7] : spX4_book pw bw p1 = (-7 : Int64)).symm), ht⟩) (fun q h => by cases h) dX4_book_13
def spX4_counter (pw : Int32) (bw : Nat → Int32) (p1 : Int32) (p2 : Int32) : Int64 := (if (spX2_hasPower pw) = 0 then (-7 : Int64) else (if (spX4_isDepartment p1) = 0 then (-1 : Int64) else (if (spX4_isPiecesOrCents p2) = 0 then (-1 : Int64) else (if p2 = 0 then (Int32.toInt64 (spX0_piecesOf bw p1)) else (spX0_centsOf bw p1)))))
set_option maxHeartbeats 4000000 in
set_option maxRecDepth 100000 in
theorem c_X4_counter (l : Launch) (D : va_G) (aD aT ad af aJ aM aw ae aB ab : Nat) (cA : ClassId) (mn : Int32) (po : Int64) (co : Int64) (dr : Nat → Int32) (tb : Nat → Int32) (sc : Int32) (rc : Int32) (la : Int32) (pw : Int32) (ce : Int32) (lf : Int32) (mq : Int32) (ct : Int32) (wd : Nat → Int32) (er : Nat → Int32) (bw : Nat → Int32) (p1 : Int32) (p2 : Int32) (hpw : pw = 0 ∨ pw = 1) : kRl l yX4_counter cX4_counter 3 (some .long) { frames := 3, cells := 0, slots := 0, locals := 63 } [.ref aD, .int p1, .int p2] (kB D (wD aD aT ad af aJ aM aw ae aB ab cA mn po co dr tb sc rc la pw ce lf mq ct wd er bw) [(cA, .int)]) (spX4_counter pw bw p1 p2) := by
  refine Met.ofW (cc := cX4_counter) (maxL := 3) (ret := (some .long)) (by decide) rfl ?_
  intro p e s m args below meth c s₁ B hml hv
  obtain ⟨rfl, hP, hK⟩ := hv
  have hx := B.exec
  have hb := B.bytes
  have hr := B.returns
  have hts : ∀ w ∈ kG, w.before _ s = true := fun w h => atoms_spec (ws := kT yX4_counter cX4_counter 3 (some .long)) B.pre w (List.mem_cons_of_mem _ h)
  have hown : s.vm.findClass RX4 = some m.cls := findClass_of_methodNamed B.named
  have hlocks := B.notSynchronized
  have hl := lv_entry ([.ref aD, .int p1, .int p2]) (n := 3) (Nat.le_of_ble_eq_true rfl)
  rw [lg_entry_eq]
  generalize (lg_sl ([.ref aD, .int p1, .int p2]) ++ List.replicate (3 - (lg_sl ([.ref aD, .int p1, .int p2])).length) Slot.unset).toArray = ls at hl ⊢
  have hl : lv_has ls 3 [(0, .ref aD), (1, .int p1), (2, .int p2)] := hl
  refine lv_aload_n hx hb dX4_counter_0 rfl (lv_at hl 0 rfl) ?_
  refine va_get (D := D) (ci := 4) (v := .ref aM) (C := RX4) (T := TX4) (N := 7) hx hb hts k_inX4 hown hK hP 0 rfl rfl 2 (by decide) (hts _ kw_172) (fun _ h9 => h9) rfl dX4_counter_1 ?_
  refine k_rdVi (As := []) (rest := []) (ci := 2) (q0 := 0) ⟨hx, hb, hml, hown, hts⟩ k_self (c_X2_hasPower l D aM aw ae cA pw ce lf mq ct wd er  hpw) kv_X4_58 (hP.sub [5, 6, 7] rfl) (hK.sub [0] rfl) rfl rfl rfl rfl ⟨Nat.le_of_ble_eq_true rfl, Nat.le_of_ble_eq_true rfl⟩ rfl hl.1 rfl (Nat.le_of_ble_eq_true rfl) dX4_counter_4 ⟨Nat.zero_le _, Nat.zero_le _⟩ ?_
  refine lv_if_ne (tgt := 14) hx hb dX4_counter_7 (by decide) (fun c_7 => ?_) (fun c_7 => ?_)
  · refine lv_iload_n hx hb dX4_counter_14 rfl (lv_at hl 1 rfl) ?_
    refine k_rdSi (As := [.int p1]) (rest := []) ⟨hx, hb, hml, hown, hts⟩ k_self (c_X4_isDepartment l p1) kv_X4_115 rfl rfl ⟨Nat.le_of_ble_eq_true rfl, Nat.le_of_ble_eq_true rfl⟩ rfl hl.1 rfl (Nat.le_of_ble_eq_true rfl) dX4_counter_15 ⟨Nat.zero_le _, Nat.zero_le _⟩ ?_
    refine lv_if_eq (tgt := 28) hx hb dX4_counter_18 (by decide) (fun c_18 => ?_) (fun c_18 => ?_)
    · refine lv_ldc2 (v := -1) hx hb hown (hts _ kw_308) dX4_counter_28 ?_
      exact W.lret (v := (-1 : Int64)) hx hb hr (fun t ht hW => ⟨(-1 : Int64), rfl, (show _ = _ from (by unfold spX4_counter; rw [if_neg c_7, if_pos c_18] : spX4_counter pw bw p1 p2 = (-1 : Int64)).symm), ht⟩) (fun q h => by cases h) dX4_counter_31
    · refine lv_iload_n hx hb dX4_counter_21 rfl (lv_at hl 2 rfl) ?_
      refine k_rdSi (As := [.int p2]) (rest := []) ⟨hx, hb, hml, hown, hts⟩ k_self (c_X4_isPiecesOrCents l p2) kv_X4_118 rfl rfl ⟨Nat.le_of_ble_eq_true rfl, Nat.le_of_ble_eq_true rfl⟩ rfl hl.1 rfl (Nat.le_of_ble_eq_true rfl) dX4_counter_22 ⟨Nat.zero_le _, Nat.zero_le _⟩ ?_
      refine lv_if_ne (tgt := 32) hx hb dX4_counter_25 (by decide) (fun c_25 => ?_) (fun c_25 => ?_)
      · refine lv_iload_n hx hb dX4_counter_32 rfl (lv_at hl 2 rfl) ?_
        refine lv_if_ne (tgt := 48) hx hb dX4_counter_33 (by decide) (fun c_33 => ?_) (fun c_33 => ?_)
        · refine lv_aload_n hx hb dX4_counter_48 rfl (lv_at hl 0 rfl) ?_
          refine va_get (D := D) (ci := 4) (v := .ref aB) (C := RX4) (T := TX4) (N := 7) hx hb hts k_inX4 hown hK hP 0 rfl rfl 3 (by decide) (hts _ kw_173) (fun _ h9 => h9) rfl dX4_counter_49 ?_
          refine lv_iload_n hx hb dX4_counter_52 rfl (lv_at hl 1 rfl) ?_
          refine k_rdVl (As := [.int p1]) (rest := []) (ci := 0) (q0 := 0) ⟨hx, hb, hml, hown, hts⟩ k_self (c_X0_centsOf l D aB ab cA bw p1) kv_X4_124 (hP.sub [8, 9] rfl) (hK.sub [0] rfl) rfl rfl rfl rfl ⟨Nat.le_of_ble_eq_true rfl, Nat.le_of_ble_eq_true rfl⟩ rfl hl.1 rfl (Nat.le_of_ble_eq_true rfl) dX4_counter_53 ⟨Nat.zero_le _, Nat.zero_le _⟩ ?_
          exact W.lret (v := (spX0_centsOf bw p1)) hx hb hr (fun t ht hW => ⟨(spX0_centsOf bw p1), rfl, (show _ = _ from (by unfold spX4_counter; rw [if_neg c_7, if_neg c_18, if_neg c_25, if_neg c_33] : spX4_counter pw bw p1 p2 = (spX0_centsOf bw p1)).symm), ht⟩) (fun q h => by cases h) dX4_counter_56
        · refine lv_aload_n hx hb dX4_counter_36 rfl (lv_at hl 0 rfl) ?_
          refine va_get (D := D) (ci := 4) (v := .ref aB) (C := RX4) (T := TX4) (N := 7) hx hb hts k_inX4 hown hK hP 0 rfl rfl 3 (by decide) (hts _ kw_173) (fun _ h9 => h9) rfl dX4_counter_37 ?_
          refine lv_iload_n hx hb dX4_counter_40 rfl (lv_at hl 1 rfl) ?_
          refine k_rdVi (As := [.int p1]) (rest := []) (ci := 0) (q0 := 0) ⟨hx, hb, hml, hown, hts⟩ k_self (c_X0_piecesOf l D aB ab cA bw p1) kv_X4_121 (hP.sub [8, 9] rfl) (hK.sub [0] rfl) rfl rfl rfl rfl ⟨Nat.le_of_ble_eq_true rfl, Nat.le_of_ble_eq_true rfl⟩ rfl hl.1 rfl (Nat.le_of_ble_eq_true rfl) dX4_counter_41 ⟨Nat.zero_le _, Nat.zero_le _⟩ ?_
          refine lv_i2l (v := (Int32.toInt64 (spX0_piecesOf bw p1))) hx hb dX4_counter_44 rfl ?_
          refine lv_goto (tgt := 56) hx hb dX4_counter_45 (by decide) ?_
          exact W.lret (v := (Int32.toInt64 (spX0_piecesOf bw p1))) hx hb hr (fun t ht hW => ⟨(Int32.toInt64 (spX0_piecesOf bw p1)), rfl, (show _ = _ from (by unfold spX4_counter; rw [if_neg c_7, if_neg c_18, if_neg c_25, if_pos c_33] : spX4_counter pw bw p1 p2 = (Int32.toInt64 (spX0_piecesOf bw p1))).symm), ht⟩) (fun q h => by cases h) dX4_counter_56
      · refine lv_ldc2 (v := -1) hx hb hown (hts _ kw_308) dX4_counter_28 ?_
        exact W.lret (v := (-1 : Int64)) hx hb hr (fun t ht hW => ⟨(-1 : Int64), rfl, (show _ = _ from (by unfold spX4_counter; rw [if_neg c_7, if_neg c_18, if_pos c_25] : spX4_counter pw bw p1 p2 = (-1 : Int64)).symm), ht⟩) (fun q h => by cases h) dX4_counter_31
  · refine lv_ldc2 (v := -7) hx hb hown (hts _ kw_331) dX4_counter_10 ?_
    exact W.lret (v := (-7 : Int64)) hx hb hr (fun t ht hW => ⟨(-7 : Int64), rfl, (show _ = _ from (by unfold spX4_counter; rw [if_pos c_7] : spX4_counter pw bw p1 p2 = (-7 : Int64)).symm), ht⟩) (fun q h => by cases h) dX4_counter_13
def spX4_dayTotal (pw : Int32) (bw : Nat → Int32) (p1 : Int32) (p2 : Int32) : Int64 := (if (spX2_hasPower pw) = 0 then (-7 : Int64) else (if (spX4_isDay p1) = 0 then (-1 : Int64) else (if (spX4_isPiecesOrCents p2) = 0 then (-1 : Int64) else (if p2 = 0 then (Int32.toInt64 (spX0_piecesOn bw p1)) else (spX0_centsOn bw p1)))))
set_option maxHeartbeats 4000000 in
set_option maxRecDepth 100000 in
theorem c_X4_dayTotal (l : Launch) (D : va_G) (aD aT ad af aJ aM aw ae aB ab : Nat) (cA : ClassId) (mn : Int32) (po : Int64) (co : Int64) (dr : Nat → Int32) (tb : Nat → Int32) (sc : Int32) (rc : Int32) (la : Int32) (pw : Int32) (ce : Int32) (lf : Int32) (mq : Int32) (ct : Int32) (wd : Nat → Int32) (er : Nat → Int32) (bw : Nat → Int32) (p1 : Int32) (p2 : Int32) (hpw : pw = 0 ∨ pw = 1) : kRl l yX4_dayTotal cX4_dayTotal 3 (some .long) { frames := 3, cells := 0, slots := 0, locals := 64 } [.ref aD, .int p1, .int p2] (kB D (wD aD aT ad af aJ aM aw ae aB ab cA mn po co dr tb sc rc la pw ce lf mq ct wd er bw) [(cA, .int)]) (spX4_dayTotal pw bw p1 p2) := by
  refine Met.ofW (cc := cX4_dayTotal) (maxL := 3) (ret := (some .long)) (by decide) rfl ?_
  intro p e s m args below meth c s₁ B hml hv
  obtain ⟨rfl, hP, hK⟩ := hv
  have hx := B.exec
  have hb := B.bytes
  have hr := B.returns
  have hts : ∀ w ∈ kG, w.before _ s = true := fun w h => atoms_spec (ws := kT yX4_dayTotal cX4_dayTotal 3 (some .long)) B.pre w (List.mem_cons_of_mem _ h)
  have hown : s.vm.findClass RX4 = some m.cls := findClass_of_methodNamed B.named
  have hlocks := B.notSynchronized
  have hl := lv_entry ([.ref aD, .int p1, .int p2]) (n := 3) (Nat.le_of_ble_eq_true rfl)
  rw [lg_entry_eq]
  generalize (lg_sl ([.ref aD, .int p1, .int p2]) ++ List.replicate (3 - (lg_sl ([.ref aD, .int p1, .int p2])).length) Slot.unset).toArray = ls at hl ⊢
  have hl : lv_has ls 3 [(0, .ref aD), (1, .int p1), (2, .int p2)] := hl
  refine lv_aload_n hx hb dX4_dayTotal_0 rfl (lv_at hl 0 rfl) ?_
  refine va_get (D := D) (ci := 4) (v := .ref aM) (C := RX4) (T := TX4) (N := 7) hx hb hts k_inX4 hown hK hP 0 rfl rfl 2 (by decide) (hts _ kw_172) (fun _ h9 => h9) rfl dX4_dayTotal_1 ?_
  refine k_rdVi (As := []) (rest := []) (ci := 2) (q0 := 0) ⟨hx, hb, hml, hown, hts⟩ k_self (c_X2_hasPower l D aM aw ae cA pw ce lf mq ct wd er  hpw) kv_X4_58 (hP.sub [5, 6, 7] rfl) (hK.sub [0] rfl) rfl rfl rfl rfl ⟨Nat.le_of_ble_eq_true rfl, Nat.le_of_ble_eq_true rfl⟩ rfl hl.1 rfl (Nat.le_of_ble_eq_true rfl) dX4_dayTotal_4 ⟨Nat.zero_le _, Nat.zero_le _⟩ ?_
  refine lv_if_ne (tgt := 14) hx hb dX4_dayTotal_7 (by decide) (fun c_7 => ?_) (fun c_7 => ?_)
  · refine lv_iload_n hx hb dX4_dayTotal_14 rfl (lv_at hl 1 rfl) ?_
    refine k_rdSi (As := [.int p1]) (rest := []) ⟨hx, hb, hml, hown, hts⟩ k_self (c_X4_isDay l p1) kv_X4_110 rfl rfl ⟨Nat.le_of_ble_eq_true rfl, Nat.le_of_ble_eq_true rfl⟩ rfl hl.1 rfl (Nat.le_of_ble_eq_true rfl) dX4_dayTotal_15 ⟨Nat.zero_le _, Nat.zero_le _⟩ ?_
    refine lv_if_eq (tgt := 28) hx hb dX4_dayTotal_18 (by decide) (fun c_18 => ?_) (fun c_18 => ?_)
    · refine lv_ldc2 (v := -1) hx hb hown (hts _ kw_308) dX4_dayTotal_28 ?_
      exact W.lret (v := (-1 : Int64)) hx hb hr (fun t ht hW => ⟨(-1 : Int64), rfl, (show _ = _ from (by unfold spX4_dayTotal; rw [if_neg c_7, if_pos c_18] : spX4_dayTotal pw bw p1 p2 = (-1 : Int64)).symm), ht⟩) (fun q h => by cases h) dX4_dayTotal_31
    · refine lv_iload_n hx hb dX4_dayTotal_21 rfl (lv_at hl 2 rfl) ?_
      refine k_rdSi (As := [.int p2]) (rest := []) ⟨hx, hb, hml, hown, hts⟩ k_self (c_X4_isPiecesOrCents l p2) kv_X4_118 rfl rfl ⟨Nat.le_of_ble_eq_true rfl, Nat.le_of_ble_eq_true rfl⟩ rfl hl.1 rfl (Nat.le_of_ble_eq_true rfl) dX4_dayTotal_22 ⟨Nat.zero_le _, Nat.zero_le _⟩ ?_
      refine lv_if_ne (tgt := 32) hx hb dX4_dayTotal_25 (by decide) (fun c_25 => ?_) (fun c_25 => ?_)
      · refine lv_iload_n hx hb dX4_dayTotal_32 rfl (lv_at hl 2 rfl) ?_
        refine lv_if_ne (tgt := 48) hx hb dX4_dayTotal_33 (by decide) (fun c_33 => ?_) (fun c_33 => ?_)
        · refine lv_aload_n hx hb dX4_dayTotal_48 rfl (lv_at hl 0 rfl) ?_
          refine va_get (D := D) (ci := 4) (v := .ref aB) (C := RX4) (T := TX4) (N := 7) hx hb hts k_inX4 hown hK hP 0 rfl rfl 3 (by decide) (hts _ kw_173) (fun _ h9 => h9) rfl dX4_dayTotal_49 ?_
          refine lv_iload_n hx hb dX4_dayTotal_52 rfl (lv_at hl 1 rfl) ?_
          refine k_rdVl (As := [.int p1]) (rest := []) (ci := 0) (q0 := 0) ⟨hx, hb, hml, hown, hts⟩ k_self (c_X0_centsOn l D aB ab cA bw p1) kv_X4_130 (hP.sub [8, 9] rfl) (hK.sub [0] rfl) rfl rfl rfl rfl ⟨Nat.le_of_ble_eq_true rfl, Nat.le_of_ble_eq_true rfl⟩ rfl hl.1 rfl (Nat.le_of_ble_eq_true rfl) dX4_dayTotal_53 ⟨Nat.zero_le _, Nat.zero_le _⟩ ?_
          exact W.lret (v := (spX0_centsOn bw p1)) hx hb hr (fun t ht hW => ⟨(spX0_centsOn bw p1), rfl, (show _ = _ from (by unfold spX4_dayTotal; rw [if_neg c_7, if_neg c_18, if_neg c_25, if_neg c_33] : spX4_dayTotal pw bw p1 p2 = (spX0_centsOn bw p1)).symm), ht⟩) (fun q h => by cases h) dX4_dayTotal_56
        · refine lv_aload_n hx hb dX4_dayTotal_36 rfl (lv_at hl 0 rfl) ?_
          refine va_get (D := D) (ci := 4) (v := .ref aB) (C := RX4) (T := TX4) (N := 7) hx hb hts k_inX4 hown hK hP 0 rfl rfl 3 (by decide) (hts _ kw_173) (fun _ h9 => h9) rfl dX4_dayTotal_37 ?_
          refine lv_iload_n hx hb dX4_dayTotal_40 rfl (lv_at hl 1 rfl) ?_
          refine k_rdVi (As := [.int p1]) (rest := []) (ci := 0) (q0 := 0) ⟨hx, hb, hml, hown, hts⟩ k_self (c_X0_piecesOn l D aB ab cA bw p1) kv_X4_127 (hP.sub [8, 9] rfl) (hK.sub [0] rfl) rfl rfl rfl rfl ⟨Nat.le_of_ble_eq_true rfl, Nat.le_of_ble_eq_true rfl⟩ rfl hl.1 rfl (Nat.le_of_ble_eq_true rfl) dX4_dayTotal_41 ⟨Nat.zero_le _, Nat.zero_le _⟩ ?_
          refine lv_i2l (v := (Int32.toInt64 (spX0_piecesOn bw p1))) hx hb dX4_dayTotal_44 rfl ?_
          refine lv_goto (tgt := 56) hx hb dX4_dayTotal_45 (by decide) ?_
          exact W.lret (v := (Int32.toInt64 (spX0_piecesOn bw p1))) hx hb hr (fun t ht hW => ⟨(Int32.toInt64 (spX0_piecesOn bw p1)), rfl, (show _ = _ from (by unfold spX4_dayTotal; rw [if_neg c_7, if_neg c_18, if_neg c_25, if_pos c_33] : spX4_dayTotal pw bw p1 p2 = (Int32.toInt64 (spX0_piecesOn bw p1))).symm), ht⟩) (fun q h => by cases h) dX4_dayTotal_56
      · refine lv_ldc2 (v := -1) hx hb hown (hts _ kw_308) dX4_dayTotal_28 ?_
        exact W.lret (v := (-1 : Int64)) hx hb hr (fun t ht hW => ⟨(-1 : Int64), rfl, (show _ = _ from (by unfold spX4_dayTotal; rw [if_neg c_7, if_neg c_18, if_pos c_25] : spX4_dayTotal pw bw p1 p2 = (-1 : Int64)).symm), ht⟩) (fun q h => by cases h) dX4_dayTotal_31
  · refine lv_ldc2 (v := -7) hx hb hown (hts _ kw_331) dX4_dayTotal_10 ?_
    exact W.lret (v := (-7 : Int64)) hx hb hr (fun t ht hW => ⟨(-7 : Int64), rfl, (show _ = _ from (by unfold spX4_dayTotal; rw [if_pos c_7] : spX4_dayTotal pw bw p1 p2 = (-7 : Int64)).symm), ht⟩) (fun q h => by cases h) dX4_dayTotal_13
def spX4_inspect (sc : Int32) (rc : Int32) (la : Int32) (pw : Int32) (ce : Int32) (lf : Int32) (mq : Int32) (ct : Int32) (wd : Nat → Int32) (er : Nat → Int32) (bw : Nat → Int32) (p1 : Int32) : Int32 × Int32 × Int32 × Int32 × Int32 × Int32 × Int32 × Int32 × (Nat → Int32) × (Nat → Int32) × (Nat → Int32) := (if (spX2_hasPower pw) = 0 then ((-7 : Int32), sc, rc, la, pw, ce, lf, ct, wd, er, bw) else (if (spX4_isDay p1) = 0 then ((0 : Int32), sc, rc, la, pw, ce, lf, ct, wd, er, bw) else (if (spX0_at bw (12 : Int32)) ≤ p1 then (match spX1_append sc rc la pw ce lf mq ct wd er bw (6 : Int32) p1 (0 : Int32) with | (r_43, sc_43, rc_43, la_43, pw_43, ce_43, lf_43, ct_43, wd_43, er_43, bw_43) => (r_43, sc_43, rc_43, la_43, pw_43, ce_43, lf_43, ct_43, wd_43, er_43, bw_43)) else ((0 : Int32), sc, rc, la, pw, ce, lf, ct, wd, er, bw))))
set_option maxHeartbeats 4000000 in
set_option maxRecDepth 100000 in
theorem c_X4_inspect (l : Launch) (D : va_G) (aD aT ad af aJ aM aw ae aB ab : Nat) (cA : ClassId) (mn : Int32) (po : Int64) (co : Int64) (dr : Nat → Int32) (tb : Nat → Int32) (sc : Int32) (rc : Int32) (la : Int32) (pw : Int32) (ce : Int32) (lf : Int32) (mq : Int32) (ct : Int32) (wd : Nat → Int32) (er : Nat → Int32) (bw : Nat → Int32) (p1 : Int32) (hpw : pw = 0 ∨ pw = 1) : kWi l yX4_inspect cX4_inspect 2 (some .int) { frames := 6, cells := 0, slots := 0, locals := 137 } D [(cA, .int)] [.ref aD, .int p1] (wD aD aT ad af aJ aM aw ae aB ab cA mn po co dr tb sc rc la pw ce lf mq ct wd er bw) (spX4_inspect sc rc la pw ce lf mq ct wd er bw p1).1 (wD aD aT ad af aJ aM aw ae aB ab cA mn po co dr tb (spX4_inspect sc rc la pw ce lf mq ct wd er bw p1).2.1 (spX4_inspect sc rc la pw ce lf mq ct wd er bw p1).2.2.1 (spX4_inspect sc rc la pw ce lf mq ct wd er bw p1).2.2.2.1 (spX4_inspect sc rc la pw ce lf mq ct wd er bw p1).2.2.2.2.1 (spX4_inspect sc rc la pw ce lf mq ct wd er bw p1).2.2.2.2.2.1 (spX4_inspect sc rc la pw ce lf mq ct wd er bw p1).2.2.2.2.2.2.1 mq (spX4_inspect sc rc la pw ce lf mq ct wd er bw p1).2.2.2.2.2.2.2.1 (spX4_inspect sc rc la pw ce lf mq ct wd er bw p1).2.2.2.2.2.2.2.2.1 (spX4_inspect sc rc la pw ce lf mq ct wd er bw p1).2.2.2.2.2.2.2.2.2.1 (spX4_inspect sc rc la pw ce lf mq ct wd er bw p1).2.2.2.2.2.2.2.2.2.2) := by
  intro sz
  refine Met.ofW (cc := cX4_inspect) (maxL := 2) (ret := (some .int)) (by decide) rfl ?_
  intro p e s m args below meth c s₁ B hml hv
  obtain ⟨rfl, hsz, hP, hK, hD0⟩ := hv
  have hx := B.exec
  have hb := B.bytes
  have hr := B.returns
  have hts : ∀ w ∈ kG, w.before _ s = true := fun w h => atoms_spec (ws := kT yX4_inspect cX4_inspect 2 (some .int)) B.pre w (List.mem_cons_of_mem _ h)
  have hown : s.vm.findClass RX4 = some m.cls := findClass_of_methodNamed B.named
  have hlocks := B.notSynchronized
  subst hsz
  have hD := hD0.self (sz := s.heap.size)
  generalize hAe : va_A (wD aD aT ad af aJ aM aw ae aB ab cA mn po co dr tb sc rc la pw ce lf mq ct wd er bw) s.heap.size = A at hD ⊢
  have hA : ∀ q : Nat, s.heap.size ≤ q → A q := fun q h => by rw [← hAe]; exact Or.inr h
  have hS : va_S A s.heap s.heap [] := va_S.rf
  have hl := lv_entry ([.ref aD, .int p1]) (n := 2) (Nat.le_of_ble_eq_true rfl)
  rw [lg_entry_eq]
  generalize (lg_sl ([.ref aD, .int p1]) ++ List.replicate (2 - (lg_sl ([.ref aD, .int p1])).length) Slot.unset).toArray = ls at hl ⊢
  have hl : lv_has ls 2 [(0, .ref aD), (1, .int p1)] := hl
  refine lv_aload_n hx hb dX4_inspect_0 rfl (lv_at hl 0 rfl) ?_
  refine va_get (D := D) (ci := 4) (v := .ref aM) (C := RX4) (T := TX4) (N := 7) hx hb hts k_inX4 hown hK hP 0 rfl rfl 2 (by decide) (hts _ kw_172) (fun _ h9 => h9) rfl dX4_inspect_1 ?_
  refine k_rdVi (As := []) (rest := []) (ci := 2) (q0 := 0) ⟨hx, hb, hml, hown, hts⟩ k_self (c_X2_hasPower l D aM aw ae cA pw ce lf mq ct wd er  hpw) kv_X4_58 (hP.sub [5, 6, 7] rfl) (hK.sub [0] rfl) rfl rfl rfl rfl ⟨Nat.le_of_ble_eq_true rfl, Nat.le_of_ble_eq_true rfl⟩ rfl hl.1 rfl (Nat.le_of_ble_eq_true rfl) dX4_inspect_4 ⟨Nat.zero_le _, Nat.zero_le _⟩ ?_
  refine lv_if_ne (tgt := 13) hx hb dX4_inspect_7 (by decide) (fun c_7 => ?_) (fun c_7 => ?_)
  · refine lv_iload_n hx hb dX4_inspect_13 rfl (lv_at hl 1 rfl) ?_
    refine k_rdSi (As := [.int p1]) (rest := []) ⟨hx, hb, hml, hown, hts⟩ k_self (c_X4_isDay l p1) kv_X4_110 rfl rfl ⟨Nat.le_of_ble_eq_true rfl, Nat.le_of_ble_eq_true rfl⟩ rfl hl.1 rfl (Nat.le_of_ble_eq_true rfl) dX4_inspect_14 ⟨Nat.zero_le _, Nat.zero_le _⟩ ?_
    refine lv_if_eq (tgt := 33) hx hb dX4_inspect_17 (by decide) (fun c_17 => ?_) (fun c_17 => ?_)
    · refine lv_iconst (v := 0) hx hb dX4_inspect_33 (by decide) ?_
      have hE : spX4_inspect sc rc la pw ce lf mq ct wd er bw p1 = ((0 : Int32), sc, rc, la, pw, ce, lf, ct, wd, er, bw) := by unfold spX4_inspect; rw [if_neg c_7, if_pos c_17]
      exact W.iret (v := (0 : Int32)) hx hb hr (fun t ht hW => ⟨⟨(0 : Int32), (), rfl, by rw [hE], by rw [hE, ht]; exact hP, va_K.moved hW.alike hK, by rw [hE]; exact hD⟩, hS.F ht⟩) hS.2.2 dX4_inspect_34
    · refine lv_iload_n hx hb dX4_inspect_20 rfl (lv_at hl 1 rfl) ?_
      refine lv_aload_n hx hb dX4_inspect_21 rfl (lv_at hl 0 rfl) ?_
      refine va_get (D := D) (ci := 4) (v := .ref aB) (C := RX4) (T := TX4) (N := 7) hx hb hts k_inX4 hown hK hP 0 rfl rfl 3 (by decide) (hts _ kw_173) (fun _ h9 => h9) rfl dX4_inspect_22 ?_
      refine lv_bipush (v := 12) hx hb dX4_inspect_25 (by decide) ?_
      refine k_rdVi (As := [.int (12 : Int32)]) (rest := [.int p1]) (ci := 0) (q0 := 0) ⟨hx, hb, hml, hown, hts⟩ k_self (c_X0_at l D aB ab cA bw (12 : Int32)) kv_X4_62 (hP.sub [8, 9] rfl) (hK.sub [0] rfl) rfl rfl rfl rfl ⟨Nat.le_of_ble_eq_true rfl, Nat.le_of_ble_eq_true rfl⟩ rfl hl.1 rfl (Nat.le_of_ble_eq_true rfl) dX4_inspect_27 ⟨Nat.zero_le _, Nat.zero_le _⟩ ?_
      refine lv_icmp_ge (tgt := 35) hx hb dX4_inspect_30 (by decide) (fun c_30 => ?_) (fun c_30 => ?_)
      · refine lv_aload_n hx hb dX4_inspect_35 rfl (lv_at hl 0 rfl) ?_
        refine va_get (D := D) (ci := 4) (v := .ref aJ) (C := RX4) (T := TX4) (N := 7) hx hb hts k_inX4 hown hK hP 0 rfl rfl 4 (by decide) (hts _ kw_174) (fun _ h9 => h9) rfl dX4_inspect_36 ?_
        refine lv_bipush (v := 6) hx hb dX4_inspect_39 (by decide) ?_
        refine lv_iload_n hx hb dX4_inspect_41 rfl (lv_at hl 1 rfl) ?_
        refine lv_iconst (v := 0) hx hb dX4_inspect_42 (by decide) ?_
        rcases hq_43 : spX1_append sc rc la pw ce lf mq ct wd er bw (6 : Int32) p1 (0 : Int32) with ⟨r_43, sc_43, rc_43, la_43, pw_43, ce_43, lf_43, ct_43, wd_43, er_43, bw_43⟩
        have hM_43 : kWi l yX1_append cX1_append 6 (some .int) { frames := 5, cells := 0, slots := 0, locals := 112 } D [(cA, .int)] [.ref aJ, .int (6 : Int32), .int p1, .int (0 : Int32)] (wJ aJ aM aw ae aB ab cA sc rc la pw ce lf mq ct wd er bw) r_43 (wJ aJ aM aw ae aB ab cA sc_43 rc_43 la_43 pw_43 ce_43 lf_43 mq ct_43 wd_43 er_43 bw_43) := by
          have h := c_X1_append l D aJ aM aw ae aB ab cA sc rc la pw ce lf mq ct wd er bw (6 : Int32) p1 (0 : Int32)
          rw [hq_43] at h
          exact h
        refine k_wrVi (As := [.int (6 : Int32), .int p1, .int (0 : Int32)]) (rest := []) (ci := 1) (q0 := 0) (ws' := (wD aD aT ad af aJ aM aw ae aB ab cA mn po co dr tb sc_43 rc_43 la_43 pw_43 ce_43 lf_43 mq ct_43 wd_43 er_43 bw_43)) (wr := [(aD, .inr (4, [.int mn, .ref aT, .ref aM, .ref aB, .ref aJ, .long po, .long co])), (aT, .inr (3, [.ref ad, .ref af])), (ad, .inl (cA, 320, .inl dr)), (af, .inl (cA, 320, .inl tb))]) ⟨hx, hb, hml, hown, hts⟩ k_self hM_43 kv_X4_66 hP hD hS hA hK rfl rfl [4, 5, 6, 7, 8, 9] [0, 1, 2, 3] [0, 1, 2, 3, 4, 5, 6, 7, 8, 9] rfl (by decide) rfl (by decide) (by decide) rfl (by decide) rfl rfl ⟨Nat.le_of_ble_eq_true rfl, Nat.le_of_ble_eq_true rfl⟩ rfl hl.1 rfl (Nat.le_of_ble_eq_true rfl) dX4_inspect_43 ⟨Nat.zero_le _, Nat.zero_le _⟩ (fun H locs hP hD hS => ?_)
        have hE : spX4_inspect sc rc la pw ce lf mq ct wd er bw p1 = (r_43, sc_43, rc_43, la_43, pw_43, ce_43, lf_43, ct_43, wd_43, er_43, bw_43) := by unfold spX4_inspect; rw [if_neg c_7, if_neg c_17, if_pos c_30]; rw [hq_43]; try dsimp only
        exact W.iret (v := r_43) hx hb hr (fun t ht hW => ⟨⟨r_43, (), rfl, by rw [hE], by rw [hE, ht]; exact hP, va_K.moved hW.alike hK, by rw [hE]; exact hD⟩, hS.F ht⟩) hS.2.2 dX4_inspect_46
      · refine lv_iconst (v := 0) hx hb dX4_inspect_33 (by decide) ?_
        have hE : spX4_inspect sc rc la pw ce lf mq ct wd er bw p1 = ((0 : Int32), sc, rc, la, pw, ce, lf, ct, wd, er, bw) := by unfold spX4_inspect; rw [if_neg c_7, if_neg c_17, if_neg c_30]
        exact W.iret (v := (0 : Int32)) hx hb hr (fun t ht hW => ⟨⟨(0 : Int32), (), rfl, by rw [hE], by rw [hE, ht]; exact hP, va_K.moved hW.alike hK, by rw [hE]; exact hD⟩, hS.F ht⟩) hS.2.2 dX4_inspect_34
  · refine lv_bipush (v := -7) hx hb dX4_inspect_10 (by decide) ?_
    have hE : spX4_inspect sc rc la pw ce lf mq ct wd er bw p1 = ((-7 : Int32), sc, rc, la, pw, ce, lf, ct, wd, er, bw) := by unfold spX4_inspect; rw [if_pos c_7]
    exact W.iret (v := (-7 : Int32)) hx hb hr (fun t ht hW => ⟨⟨(-7 : Int32), (), rfl, by rw [hE], by rw [hE, ht]; exact hP, va_K.moved hW.alike hK, by rw [hE]; exact hD⟩, hS.F ht⟩) hS.2.2 dX4_inspect_12
def spX4_lock (sc : Int32) (rc : Int32) (la : Int32) (pw : Int32) (ce : Int32) (lf : Int32) (mq : Int32) (ct : Int32) (wd : Nat → Int32) (er : Nat → Int32) (bw : Nat → Int32) : Int32 × Int32 × Int32 × Int32 × Int32 × Int32 × Int32 × Int32 × (Nat → Int32) × (Nat → Int32) × (Nat → Int32) := (if (spX2_hasPower pw) = 0 then ((-7 : Int32), sc, rc, la, pw, ce, lf, ct, wd, er, bw) else (if (spX4_isLocked bw) = 0 then (match spX1_append sc rc la pw ce lf mq ct wd er bw (7 : Int32) (0 : Int32) (0 : Int32) with | (r_32, sc_32, rc_32, la_32, pw_32, ce_32, lf_32, ct_32, wd_32, er_32, bw_32) => (r_32, sc_32, rc_32, la_32, pw_32, ce_32, lf_32, ct_32, wd_32, er_32, bw_32)) else ((0 : Int32), sc, rc, la, pw, ce, lf, ct, wd, er, bw)))
set_option maxHeartbeats 4000000 in
set_option maxRecDepth 100000 in
theorem c_X4_lock (l : Launch) (D : va_G) (aD aT ad af aJ aM aw ae aB ab : Nat) (cA : ClassId) (mn : Int32) (po : Int64) (co : Int64) (dr : Nat → Int32) (tb : Nat → Int32) (sc : Int32) (rc : Int32) (la : Int32) (pw : Int32) (ce : Int32) (lf : Int32) (mq : Int32) (ct : Int32) (wd : Nat → Int32) (er : Nat → Int32) (bw : Nat → Int32)  (hpw : pw = 0 ∨ pw = 1) : kWi l yX4_lock cX4_lock 1 (some .int) { frames := 6, cells := 0, slots := 0, locals := 137 } D [(cA, .int)] [.ref aD] (wD aD aT ad af aJ aM aw ae aB ab cA mn po co dr tb sc rc la pw ce lf mq ct wd er bw) (spX4_lock sc rc la pw ce lf mq ct wd er bw).1 (wD aD aT ad af aJ aM aw ae aB ab cA mn po co dr tb (spX4_lock sc rc la pw ce lf mq ct wd er bw).2.1 (spX4_lock sc rc la pw ce lf mq ct wd er bw).2.2.1 (spX4_lock sc rc la pw ce lf mq ct wd er bw).2.2.2.1 (spX4_lock sc rc la pw ce lf mq ct wd er bw).2.2.2.2.1 (spX4_lock sc rc la pw ce lf mq ct wd er bw).2.2.2.2.2.1 (spX4_lock sc rc la pw ce lf mq ct wd er bw).2.2.2.2.2.2.1 mq (spX4_lock sc rc la pw ce lf mq ct wd er bw).2.2.2.2.2.2.2.1 (spX4_lock sc rc la pw ce lf mq ct wd er bw).2.2.2.2.2.2.2.2.1 (spX4_lock sc rc la pw ce lf mq ct wd er bw).2.2.2.2.2.2.2.2.2.1 (spX4_lock sc rc la pw ce lf mq ct wd er bw).2.2.2.2.2.2.2.2.2.2) := by
  intro sz
  refine Met.ofW (cc := cX4_lock) (maxL := 1) (ret := (some .int)) (by decide) rfl ?_
  intro p e s m args below meth c s₁ B hml hv
  obtain ⟨rfl, hsz, hP, hK, hD0⟩ := hv
  have hx := B.exec
  have hb := B.bytes
  have hr := B.returns
  have hts : ∀ w ∈ kG, w.before _ s = true := fun w h => atoms_spec (ws := kT yX4_lock cX4_lock 1 (some .int)) B.pre w (List.mem_cons_of_mem _ h)
  have hown : s.vm.findClass RX4 = some m.cls := findClass_of_methodNamed B.named
  have hlocks := B.notSynchronized
  subst hsz
  have hD := hD0.self (sz := s.heap.size)
  generalize hAe : va_A (wD aD aT ad af aJ aM aw ae aB ab cA mn po co dr tb sc rc la pw ce lf mq ct wd er bw) s.heap.size = A at hD ⊢
  have hA : ∀ q : Nat, s.heap.size ≤ q → A q := fun q h => by rw [← hAe]; exact Or.inr h
  have hS : va_S A s.heap s.heap [] := va_S.rf
  have hl := lv_entry ([.ref aD]) (n := 1) (Nat.le_of_ble_eq_true rfl)
  rw [lg_entry_eq]
  generalize (lg_sl ([.ref aD]) ++ List.replicate (1 - (lg_sl ([.ref aD])).length) Slot.unset).toArray = ls at hl ⊢
  have hl : lv_has ls 1 [(0, .ref aD)] := hl
  refine lv_aload_n hx hb dX4_lock_0 rfl (lv_at hl 0 rfl) ?_
  refine va_get (D := D) (ci := 4) (v := .ref aM) (C := RX4) (T := TX4) (N := 7) hx hb hts k_inX4 hown hK hP 0 rfl rfl 2 (by decide) (hts _ kw_172) (fun _ h9 => h9) rfl dX4_lock_1 ?_
  refine k_rdVi (As := []) (rest := []) (ci := 2) (q0 := 0) ⟨hx, hb, hml, hown, hts⟩ k_self (c_X2_hasPower l D aM aw ae cA pw ce lf mq ct wd er  hpw) kv_X4_58 (hP.sub [5, 6, 7] rfl) (hK.sub [0] rfl) rfl rfl rfl rfl ⟨Nat.le_of_ble_eq_true rfl, Nat.le_of_ble_eq_true rfl⟩ rfl hl.1 rfl (Nat.le_of_ble_eq_true rfl) dX4_lock_4 ⟨Nat.zero_le _, Nat.zero_le _⟩ ?_
  refine lv_if_ne (tgt := 13) hx hb dX4_lock_7 (by decide) (fun c_7 => ?_) (fun c_7 => ?_)
  · refine lv_aload_n hx hb dX4_lock_13 rfl (lv_at hl 0 rfl) ?_
    refine k_rdVi (As := []) (rest := []) (ci := 4) (q0 := 0) ⟨hx, hb, hml, hown, hts⟩ k_self (c_X4_isLocked l D aD aT ad af aJ aM aw ae aB ab cA mn po co dr tb sc rc la pw ce lf mq ct wd er bw ) kv_X4_133 (hP.sub [0, 1, 2, 3, 4, 5, 6, 7, 8, 9] rfl) (hK.sub [0] rfl) rfl rfl rfl rfl ⟨Nat.le_of_ble_eq_true rfl, Nat.le_of_ble_eq_true rfl⟩ rfl hl.1 rfl (Nat.le_of_ble_eq_true rfl) dX4_lock_14 ⟨Nat.zero_le _, Nat.zero_le _⟩ ?_
    refine lv_if_eq (tgt := 24) hx hb dX4_lock_17 (by decide) (fun c_17 => ?_) (fun c_17 => ?_)
    · refine lv_aload_n hx hb dX4_lock_24 rfl (lv_at hl 0 rfl) ?_
      refine va_get (D := D) (ci := 4) (v := .ref aJ) (C := RX4) (T := TX4) (N := 7) hx hb hts k_inX4 hown hK hP 0 rfl rfl 4 (by decide) (hts _ kw_174) (fun _ h9 => h9) rfl dX4_lock_25 ?_
      refine lv_bipush (v := 7) hx hb dX4_lock_28 (by decide) ?_
      refine lv_iconst (v := 0) hx hb dX4_lock_30 (by decide) ?_
      refine lv_iconst (v := 0) hx hb dX4_lock_31 (by decide) ?_
      rcases hq_32 : spX1_append sc rc la pw ce lf mq ct wd er bw (7 : Int32) (0 : Int32) (0 : Int32) with ⟨r_32, sc_32, rc_32, la_32, pw_32, ce_32, lf_32, ct_32, wd_32, er_32, bw_32⟩
      have hM_32 : kWi l yX1_append cX1_append 6 (some .int) { frames := 5, cells := 0, slots := 0, locals := 112 } D [(cA, .int)] [.ref aJ, .int (7 : Int32), .int (0 : Int32), .int (0 : Int32)] (wJ aJ aM aw ae aB ab cA sc rc la pw ce lf mq ct wd er bw) r_32 (wJ aJ aM aw ae aB ab cA sc_32 rc_32 la_32 pw_32 ce_32 lf_32 mq ct_32 wd_32 er_32 bw_32) := by
        have h := c_X1_append l D aJ aM aw ae aB ab cA sc rc la pw ce lf mq ct wd er bw (7 : Int32) (0 : Int32) (0 : Int32)
        rw [hq_32] at h
        exact h
      refine k_wrVi (As := [.int (7 : Int32), .int (0 : Int32), .int (0 : Int32)]) (rest := []) (ci := 1) (q0 := 0) (ws' := (wD aD aT ad af aJ aM aw ae aB ab cA mn po co dr tb sc_32 rc_32 la_32 pw_32 ce_32 lf_32 mq ct_32 wd_32 er_32 bw_32)) (wr := [(aD, .inr (4, [.int mn, .ref aT, .ref aM, .ref aB, .ref aJ, .long po, .long co])), (aT, .inr (3, [.ref ad, .ref af])), (ad, .inl (cA, 320, .inl dr)), (af, .inl (cA, 320, .inl tb))]) ⟨hx, hb, hml, hown, hts⟩ k_self hM_32 kv_X4_66 hP hD hS hA hK rfl rfl [4, 5, 6, 7, 8, 9] [0, 1, 2, 3] [0, 1, 2, 3, 4, 5, 6, 7, 8, 9] rfl (by decide) rfl (by decide) (by decide) rfl (by decide) rfl rfl ⟨Nat.le_of_ble_eq_true rfl, Nat.le_of_ble_eq_true rfl⟩ rfl hl.1 rfl (Nat.le_of_ble_eq_true rfl) dX4_lock_32 ⟨Nat.zero_le _, Nat.zero_le _⟩ (fun H locs hP hD hS => ?_)
      have hE : spX4_lock sc rc la pw ce lf mq ct wd er bw = (r_32, sc_32, rc_32, la_32, pw_32, ce_32, lf_32, ct_32, wd_32, er_32, bw_32) := by unfold spX4_lock; rw [if_neg c_7, if_pos c_17]; rw [hq_32]; try dsimp only
      exact W.iret (v := r_32) hx hb hr (fun t ht hW => ⟨⟨r_32, (), rfl, by rw [hE], by rw [hE, ht]; exact hP, va_K.moved hW.alike hK, by rw [hE]; exact hD⟩, hS.F ht⟩) hS.2.2 dX4_lock_35
    · refine lv_iconst (v := 0) hx hb dX4_lock_20 (by decide) ?_
      refine lv_goto (tgt := 35) hx hb dX4_lock_21 (by decide) ?_
      have hE : spX4_lock sc rc la pw ce lf mq ct wd er bw = ((0 : Int32), sc, rc, la, pw, ce, lf, ct, wd, er, bw) := by unfold spX4_lock; rw [if_neg c_7, if_neg c_17]
      exact W.iret (v := (0 : Int32)) hx hb hr (fun t ht hW => ⟨⟨(0 : Int32), (), rfl, by rw [hE], by rw [hE, ht]; exact hP, va_K.moved hW.alike hK, by rw [hE]; exact hD⟩, hS.F ht⟩) hS.2.2 dX4_lock_35
  · refine lv_bipush (v := -7) hx hb dX4_lock_10 (by decide) ?_
    have hE : spX4_lock sc rc la pw ce lf mq ct wd er bw = ((-7 : Int32), sc, rc, la, pw, ce, lf, ct, wd, er, bw) := by unfold spX4_lock; rw [if_pos c_7]
    exact W.iret (v := (-7 : Int32)) hx hb hr (fun t ht hW => ⟨⟨(-7 : Int32), (), rfl, by rw [hE], by rw [hE, ht]; exact hP, va_K.moved hW.alike hK, by rw [hE]; exact hD⟩, hS.F ht⟩) hS.2.2 dX4_lock_12
def spX4_unlock (mn : Int32) (sc : Int32) (rc : Int32) (la : Int32) (pw : Int32) (ce : Int32) (lf : Int32) (mq : Int32) (ct : Int32) (wd : Nat → Int32) (er : Nat → Int32) (bw : Nat → Int32) (p1 : Int32) : Int32 × Int32 × Int32 × Int32 × Int32 × Int32 × Int32 × Int32 × (Nat → Int32) × (Nat → Int32) × (Nat → Int32) := (if (spX2_hasPower pw) = 0 then ((-7 : Int32), sc, rc, la, pw, ce, lf, ct, wd, er, bw) else (if (spX4_isLocked bw) = 0 then ((0 : Int32), sc, rc, la, pw, ce, lf, ct, wd, er, bw) else (if p1 = (spX4_codeFor mn (spX0_at bw (10 : Int32)) (0 : Int32)) then (match spX1_append sc rc la pw ce lf mq ct wd er bw (8 : Int32) (0 : Int32) (0 : Int32) with | (r_48, sc_48, rc_48, la_48, pw_48, ce_48, lf_48, ct_48, wd_48, er_48, bw_48) => (r_48, sc_48, rc_48, la_48, pw_48, ce_48, lf_48, ct_48, wd_48, er_48, bw_48)) else ((0 : Int32), sc, rc, la, pw, ce, lf, ct, wd, er, bw))))
set_option maxHeartbeats 4000000 in
set_option maxRecDepth 100000 in
theorem c_X4_unlock (l : Launch) (D : va_G) (aD aT ad af aJ aM aw ae aB ab : Nat) (cA : ClassId) (mn : Int32) (po : Int64) (co : Int64) (dr : Nat → Int32) (tb : Nat → Int32) (sc : Int32) (rc : Int32) (la : Int32) (pw : Int32) (ce : Int32) (lf : Int32) (mq : Int32) (ct : Int32) (wd : Nat → Int32) (er : Nat → Int32) (bw : Nat → Int32) (p1 : Int32) (hpw : pw = 0 ∨ pw = 1) : kWi l yX4_unlock cX4_unlock 2 (some .int) { frames := 6, cells := 0, slots := 0, locals := 137 } D [(cA, .int)] [.ref aD, .int p1] (wD aD aT ad af aJ aM aw ae aB ab cA mn po co dr tb sc rc la pw ce lf mq ct wd er bw) (spX4_unlock mn sc rc la pw ce lf mq ct wd er bw p1).1 (wD aD aT ad af aJ aM aw ae aB ab cA mn po co dr tb (spX4_unlock mn sc rc la pw ce lf mq ct wd er bw p1).2.1 (spX4_unlock mn sc rc la pw ce lf mq ct wd er bw p1).2.2.1 (spX4_unlock mn sc rc la pw ce lf mq ct wd er bw p1).2.2.2.1 (spX4_unlock mn sc rc la pw ce lf mq ct wd er bw p1).2.2.2.2.1 (spX4_unlock mn sc rc la pw ce lf mq ct wd er bw p1).2.2.2.2.2.1 (spX4_unlock mn sc rc la pw ce lf mq ct wd er bw p1).2.2.2.2.2.2.1 mq (spX4_unlock mn sc rc la pw ce lf mq ct wd er bw p1).2.2.2.2.2.2.2.1 (spX4_unlock mn sc rc la pw ce lf mq ct wd er bw p1).2.2.2.2.2.2.2.2.1 (spX4_unlock mn sc rc la pw ce lf mq ct wd er bw p1).2.2.2.2.2.2.2.2.2.1 (spX4_unlock mn sc rc la pw ce lf mq ct wd er bw p1).2.2.2.2.2.2.2.2.2.2) := by
  intro sz
  refine Met.ofW (cc := cX4_unlock) (maxL := 2) (ret := (some .int)) (by decide) rfl ?_
  intro p e s m args below meth c s₁ B hml hv
  obtain ⟨rfl, hsz, hP, hK, hD0⟩ := hv
  have hx := B.exec
  have hb := B.bytes
  have hr := B.returns
  have hts : ∀ w ∈ kG, w.before _ s = true := fun w h => atoms_spec (ws := kT yX4_unlock cX4_unlock 2 (some .int)) B.pre w (List.mem_cons_of_mem _ h)
  have hown : s.vm.findClass RX4 = some m.cls := findClass_of_methodNamed B.named
  have hlocks := B.notSynchronized
  subst hsz
  have hD := hD0.self (sz := s.heap.size)
  generalize hAe : va_A (wD aD aT ad af aJ aM aw ae aB ab cA mn po co dr tb sc rc la pw ce lf mq ct wd er bw) s.heap.size = A at hD ⊢
  have hA : ∀ q : Nat, s.heap.size ≤ q → A q := fun q h => by rw [← hAe]; exact Or.inr h
  have hS : va_S A s.heap s.heap [] := va_S.rf
  have hl := lv_entry ([.ref aD, .int p1]) (n := 2) (Nat.le_of_ble_eq_true rfl)
  rw [lg_entry_eq]
  generalize (lg_sl ([.ref aD, .int p1]) ++ List.replicate (2 - (lg_sl ([.ref aD, .int p1])).length) Slot.unset).toArray = ls at hl ⊢
  have hl : lv_has ls 2 [(0, .ref aD), (1, .int p1)] := hl
  refine lv_aload_n hx hb dX4_unlock_0 rfl (lv_at hl 0 rfl) ?_
  refine va_get (D := D) (ci := 4) (v := .ref aM) (C := RX4) (T := TX4) (N := 7) hx hb hts k_inX4 hown hK hP 0 rfl rfl 2 (by decide) (hts _ kw_172) (fun _ h9 => h9) rfl dX4_unlock_1 ?_
  refine k_rdVi (As := []) (rest := []) (ci := 2) (q0 := 0) ⟨hx, hb, hml, hown, hts⟩ k_self (c_X2_hasPower l D aM aw ae cA pw ce lf mq ct wd er  hpw) kv_X4_58 (hP.sub [5, 6, 7] rfl) (hK.sub [0] rfl) rfl rfl rfl rfl ⟨Nat.le_of_ble_eq_true rfl, Nat.le_of_ble_eq_true rfl⟩ rfl hl.1 rfl (Nat.le_of_ble_eq_true rfl) dX4_unlock_4 ⟨Nat.zero_le _, Nat.zero_le _⟩ ?_
  refine lv_if_ne (tgt := 13) hx hb dX4_unlock_7 (by decide) (fun c_7 => ?_) (fun c_7 => ?_)
  · refine lv_aload_n hx hb dX4_unlock_13 rfl (lv_at hl 0 rfl) ?_
    refine k_rdVi (As := []) (rest := []) (ci := 4) (q0 := 0) ⟨hx, hb, hml, hown, hts⟩ k_self (c_X4_isLocked l D aD aT ad af aJ aM aw ae aB ab cA mn po co dr tb sc rc la pw ce lf mq ct wd er bw ) kv_X4_133 (hP.sub [0, 1, 2, 3, 4, 5, 6, 7, 8, 9] rfl) (hK.sub [0] rfl) rfl rfl rfl rfl ⟨Nat.le_of_ble_eq_true rfl, Nat.le_of_ble_eq_true rfl⟩ rfl hl.1 rfl (Nat.le_of_ble_eq_true rfl) dX4_unlock_14 ⟨Nat.zero_le _, Nat.zero_le _⟩ ?_
    refine lv_if_eq (tgt := 38) hx hb dX4_unlock_17 (by decide) (fun c_17 => ?_) (fun c_17 => ?_)
    · refine lv_iconst (v := 0) hx hb dX4_unlock_38 (by decide) ?_
      have hE : spX4_unlock mn sc rc la pw ce lf mq ct wd er bw p1 = ((0 : Int32), sc, rc, la, pw, ce, lf, ct, wd, er, bw) := by unfold spX4_unlock; rw [if_neg c_7, if_pos c_17]
      exact W.iret (v := (0 : Int32)) hx hb hr (fun t ht hW => ⟨⟨(0 : Int32), (), rfl, by rw [hE], by rw [hE, ht]; exact hP, va_K.moved hW.alike hK, by rw [hE]; exact hD⟩, hS.F ht⟩) hS.2.2 dX4_unlock_39
    · refine lv_iload_n hx hb dX4_unlock_20 rfl (lv_at hl 1 rfl) ?_
      refine lv_aload_n hx hb dX4_unlock_21 rfl (lv_at hl 0 rfl) ?_
      refine lv_aload_n hx hb dX4_unlock_22 rfl (lv_at hl 0 rfl) ?_
      refine va_get (D := D) (ci := 4) (v := .ref aB) (C := RX4) (T := TX4) (N := 7) hx hb hts k_inX4 hown hK hP 0 rfl rfl 3 (by decide) (hts _ kw_173) (fun _ h9 => h9) rfl dX4_unlock_23 ?_
      refine lv_bipush (v := 10) hx hb dX4_unlock_26 (by decide) ?_
      refine k_rdVi (As := [.int (10 : Int32)]) (rest := [.ref aD, .int p1]) (ci := 0) (q0 := 0) ⟨hx, hb, hml, hown, hts⟩ k_self (c_X0_at l D aB ab cA bw (10 : Int32)) kv_X4_62 (hP.sub [8, 9] rfl) (hK.sub [0] rfl) rfl rfl rfl rfl ⟨Nat.le_of_ble_eq_true rfl, Nat.le_of_ble_eq_true rfl⟩ rfl hl.1 rfl (Nat.le_of_ble_eq_true rfl) dX4_unlock_28 ⟨Nat.zero_le _, Nat.zero_le _⟩ ?_
      refine lv_iconst (v := 0) hx hb dX4_unlock_31 (by decide) ?_
      refine k_rdVi (As := [.int (spX0_at bw (10 : Int32)), .int (0 : Int32)]) (rest := [.int p1]) (ci := 4) (q0 := 0) ⟨hx, hb, hml, hown, hts⟩ k_self (c_X4_codeFor l D aD aT ad af aJ aM aw ae aB ab cA mn po co dr tb sc rc la pw ce lf mq ct wd er bw (spX0_at bw (10 : Int32)) (0 : Int32)) kv_X4_93 (hP.sub [0, 1, 2, 3, 4, 5, 6, 7, 8, 9] rfl) (hK.sub [0] rfl) rfl rfl rfl rfl ⟨Nat.le_of_ble_eq_true rfl, Nat.le_of_ble_eq_true rfl⟩ rfl hl.1 rfl (Nat.le_of_ble_eq_true rfl) dX4_unlock_32 ⟨Nat.zero_le _, Nat.zero_le _⟩ ?_
      refine lv_icmp_eq (tgt := 40) hx hb dX4_unlock_35 (by decide) (fun c_35 => ?_) (fun c_35 => ?_)
      · refine lv_aload_n hx hb dX4_unlock_40 rfl (lv_at hl 0 rfl) ?_
        refine va_get (D := D) (ci := 4) (v := .ref aJ) (C := RX4) (T := TX4) (N := 7) hx hb hts k_inX4 hown hK hP 0 rfl rfl 4 (by decide) (hts _ kw_174) (fun _ h9 => h9) rfl dX4_unlock_41 ?_
        refine lv_bipush (v := 8) hx hb dX4_unlock_44 (by decide) ?_
        refine lv_iconst (v := 0) hx hb dX4_unlock_46 (by decide) ?_
        refine lv_iconst (v := 0) hx hb dX4_unlock_47 (by decide) ?_
        rcases hq_48 : spX1_append sc rc la pw ce lf mq ct wd er bw (8 : Int32) (0 : Int32) (0 : Int32) with ⟨r_48, sc_48, rc_48, la_48, pw_48, ce_48, lf_48, ct_48, wd_48, er_48, bw_48⟩
        have hM_48 : kWi l yX1_append cX1_append 6 (some .int) { frames := 5, cells := 0, slots := 0, locals := 112 } D [(cA, .int)] [.ref aJ, .int (8 : Int32), .int (0 : Int32), .int (0 : Int32)] (wJ aJ aM aw ae aB ab cA sc rc la pw ce lf mq ct wd er bw) r_48 (wJ aJ aM aw ae aB ab cA sc_48 rc_48 la_48 pw_48 ce_48 lf_48 mq ct_48 wd_48 er_48 bw_48) := by
          have h := c_X1_append l D aJ aM aw ae aB ab cA sc rc la pw ce lf mq ct wd er bw (8 : Int32) (0 : Int32) (0 : Int32)
          rw [hq_48] at h
          exact h
        refine k_wrVi (As := [.int (8 : Int32), .int (0 : Int32), .int (0 : Int32)]) (rest := []) (ci := 1) (q0 := 0) (ws' := (wD aD aT ad af aJ aM aw ae aB ab cA mn po co dr tb sc_48 rc_48 la_48 pw_48 ce_48 lf_48 mq ct_48 wd_48 er_48 bw_48)) (wr := [(aD, .inr (4, [.int mn, .ref aT, .ref aM, .ref aB, .ref aJ, .long po, .long co])), (aT, .inr (3, [.ref ad, .ref af])), (ad, .inl (cA, 320, .inl dr)), (af, .inl (cA, 320, .inl tb))]) ⟨hx, hb, hml, hown, hts⟩ k_self hM_48 kv_X4_66 hP hD hS hA hK rfl rfl [4, 5, 6, 7, 8, 9] [0, 1, 2, 3] [0, 1, 2, 3, 4, 5, 6, 7, 8, 9] rfl (by decide) rfl (by decide) (by decide) rfl (by decide) rfl rfl ⟨Nat.le_of_ble_eq_true rfl, Nat.le_of_ble_eq_true rfl⟩ rfl hl.1 rfl (Nat.le_of_ble_eq_true rfl) dX4_unlock_48 ⟨Nat.zero_le _, Nat.zero_le _⟩ (fun H locs hP hD hS => ?_)
        have hE : spX4_unlock mn sc rc la pw ce lf mq ct wd er bw p1 = (r_48, sc_48, rc_48, la_48, pw_48, ce_48, lf_48, ct_48, wd_48, er_48, bw_48) := by unfold spX4_unlock; rw [if_neg c_7, if_neg c_17, if_pos c_35]; rw [hq_48]; try dsimp only
        exact W.iret (v := r_48) hx hb hr (fun t ht hW => ⟨⟨r_48, (), rfl, by rw [hE], by rw [hE, ht]; exact hP, va_K.moved hW.alike hK, by rw [hE]; exact hD⟩, hS.F ht⟩) hS.2.2 dX4_unlock_51
      · refine lv_iconst (v := 0) hx hb dX4_unlock_38 (by decide) ?_
        have hE : spX4_unlock mn sc rc la pw ce lf mq ct wd er bw p1 = ((0 : Int32), sc, rc, la, pw, ce, lf, ct, wd, er, bw) := by unfold spX4_unlock; rw [if_neg c_7, if_neg c_17, if_neg c_35]
        exact W.iret (v := (0 : Int32)) hx hb hr (fun t ht hW => ⟨⟨(0 : Int32), (), rfl, by rw [hE], by rw [hE, ht]; exact hP, va_K.moved hW.alike hK, by rw [hE]; exact hD⟩, hS.F ht⟩) hS.2.2 dX4_unlock_39
  · refine lv_bipush (v := -7) hx hb dX4_unlock_10 (by decide) ?_
    have hE : spX4_unlock mn sc rc la pw ce lf mq ct wd er bw p1 = ((-7 : Int32), sc, rc, la, pw, ce, lf, ct, wd, er, bw) := by unfold spX4_unlock; rw [if_pos c_7]
    exact W.iret (v := (-7 : Int32)) hx hb hr (fun t ht hW => ⟨⟨(-7 : Int32), (), rfl, by rw [hE], by rw [hE, ht]; exact hP, va_K.moved hW.alike hK, by rw [hE]; exact hD⟩, hS.F ht⟩) hS.2.2 dX4_unlock_12
def spX4_cut (ce : Int32) (lf : Int32) (mq : Int32) (p1 : Int32) (p2 : Int32) : Int32 × Int32 × Int32 × Int32 := (if p1 < 0 then ((-1 : Int32), ce, lf, mq) else (if p1 ≤ (100000 : Int32) then (match spX2_expectCut ce lf mq p1 p2 with | (ce_18, lf_18, mq_18) => ((1 : Int32), ce_18, lf_18, mq_18)) else ((-1 : Int32), ce, lf, mq)))
set_option maxHeartbeats 4000000 in
set_option maxRecDepth 100000 in
theorem c_X4_cut (l : Launch) (D : va_G) (aD aT ad af aJ aM aw ae aB ab : Nat) (cA : ClassId) (mn : Int32) (po : Int64) (co : Int64) (dr : Nat → Int32) (tb : Nat → Int32) (sc : Int32) (rc : Int32) (la : Int32) (pw : Int32) (ce : Int32) (lf : Int32) (mq : Int32) (ct : Int32) (wd : Nat → Int32) (er : Nat → Int32) (bw : Nat → Int32) (p1 : Int32) (p2 : Int32)  : kWi l yX4_cut cX4_cut 3 (some .int) { frames := 1, cells := 0, slots := 0, locals := 22 } D [(cA, .int)] [.ref aD, .int p1, .int p2] (wD aD aT ad af aJ aM aw ae aB ab cA mn po co dr tb sc rc la pw ce lf mq ct wd er bw) (spX4_cut ce lf mq p1 p2).1 (wD aD aT ad af aJ aM aw ae aB ab cA mn po co dr tb sc rc la pw (spX4_cut ce lf mq p1 p2).2.1 (spX4_cut ce lf mq p1 p2).2.2.1 (spX4_cut ce lf mq p1 p2).2.2.2 ct wd er bw) := by
  intro sz
  refine Met.ofW (cc := cX4_cut) (maxL := 3) (ret := (some .int)) (by decide) rfl ?_
  intro p e s m args below meth c s₁ B hml hv
  obtain ⟨rfl, hsz, hP, hK, hD0⟩ := hv
  have hx := B.exec
  have hb := B.bytes
  have hr := B.returns
  have hts : ∀ w ∈ kG, w.before _ s = true := fun w h => atoms_spec (ws := kT yX4_cut cX4_cut 3 (some .int)) B.pre w (List.mem_cons_of_mem _ h)
  have hown : s.vm.findClass RX4 = some m.cls := findClass_of_methodNamed B.named
  have hlocks := B.notSynchronized
  subst hsz
  have hD := hD0.self (sz := s.heap.size)
  generalize hAe : va_A (wD aD aT ad af aJ aM aw ae aB ab cA mn po co dr tb sc rc la pw ce lf mq ct wd er bw) s.heap.size = A at hD ⊢
  have hA : ∀ q : Nat, s.heap.size ≤ q → A q := fun q h => by rw [← hAe]; exact Or.inr h
  have hS : va_S A s.heap s.heap [] := va_S.rf
  have hl := lv_entry ([.ref aD, .int p1, .int p2]) (n := 3) (Nat.le_of_ble_eq_true rfl)
  rw [lg_entry_eq]
  generalize (lg_sl ([.ref aD, .int p1, .int p2]) ++ List.replicate (3 - (lg_sl ([.ref aD, .int p1, .int p2])).length) Slot.unset).toArray = ls at hl ⊢
  have hl : lv_has ls 3 [(0, .ref aD), (1, .int p1), (2, .int p2)] := hl
  refine lv_iload_n hx hb dX4_cut_0 rfl (lv_at hl 1 rfl) ?_
  refine lv_if_lt (tgt := 10) hx hb dX4_cut_1 (by decide) (fun c_1 => ?_) (fun c_1 => ?_)
  · refine lv_iconst (v := -1) hx hb dX4_cut_10 (by decide) ?_
    have hE : spX4_cut ce lf mq p1 p2 = ((-1 : Int32), ce, lf, mq) := by unfold spX4_cut; rw [if_pos c_1]
    exact W.iret (v := (-1 : Int32)) hx hb hr (fun t ht hW => ⟨⟨(-1 : Int32), (), rfl, by rw [hE], by rw [hE, ht]; exact hP, va_K.moved hW.alike hK, by rw [hE]; exact hD⟩, hS.F ht⟩) hS.2.2 dX4_cut_11
  · refine lv_iload_n hx hb dX4_cut_4 rfl (lv_at hl 1 rfl) ?_
    refine lv_ldc (v := 100000) hx hb hown (hts _ kw_291) dX4_cut_5 ?_
    refine lv_icmp_le (tgt := 12) hx hb dX4_cut_7 (by decide) (fun c_7 => ?_) (fun c_7 => ?_)
    · refine lv_aload_n hx hb dX4_cut_12 rfl (lv_at hl 0 rfl) ?_
      refine va_get (D := D) (ci := 4) (v := .ref aM) (C := RX4) (T := TX4) (N := 7) hx hb hts k_inX4 hown hK hP 0 rfl rfl 2 (by decide) (hts _ kw_172) (fun _ h9 => h9) rfl dX4_cut_13 ?_
      refine lv_iload_n hx hb dX4_cut_16 rfl (lv_at hl 1 rfl) ?_
      refine lv_iload_n hx hb dX4_cut_17 rfl (lv_at hl 2 rfl) ?_
      rcases hq_18 : spX2_expectCut ce lf mq p1 p2 with ⟨ce_18, lf_18, mq_18⟩
      have hM_18 : kWv l yX2_expectCut cX2_expectCut 3 none { frames := 0, cells := 0, slots := 0, locals := 0 } D [(cA, .int)] [.ref aM, .int p1, .int p2] (wM aM aw ae cA pw ce lf mq ct wd er) (wM aM aw ae cA pw ce_18 lf_18 mq_18 ct wd er) := by
        have h := c_X2_expectCut l D aM aw ae cA pw ce lf mq ct wd er p1 p2
        rw [hq_18] at h
        exact h
      refine k_wrVv (As := [.int p1, .int p2]) (rest := []) (ci := 2) (q0 := 0) (ws' := (wD aD aT ad af aJ aM aw ae aB ab cA mn po co dr tb sc rc la pw ce_18 lf_18 mq_18 ct wd er bw)) (wr := [(aD, .inr (4, [.int mn, .ref aT, .ref aM, .ref aB, .ref aJ, .long po, .long co])), (aT, .inr (3, [.ref ad, .ref af])), (ad, .inl (cA, 320, .inl dr)), (af, .inl (cA, 320, .inl tb)), (aJ, .inr (1, [.ref aM, .ref aB, .int sc, .int rc, .int la])), (aB, .inr (0, [.ref ab])), (ab, .inl (cA, 191, .inl bw))]) ⟨hx, hb, hml, hown, hts⟩ k_self hM_18 kv_X4_137 hP hD hS hA hK rfl rfl [5, 6, 7] [0, 1, 2, 3, 4, 8, 9] [0, 1, 2, 3, 4, 7, 8, 9, 5, 6] rfl (by decide) rfl (by decide) (by decide) rfl (by decide) rfl rfl ⟨Nat.le_of_ble_eq_true rfl, Nat.le_of_ble_eq_true rfl⟩ rfl hl.1 rfl (Nat.le_of_ble_eq_true rfl) dX4_cut_18 ⟨Nat.zero_le _, Nat.zero_le _⟩ (fun H locs hP hD hS => ?_)
      refine lv_iconst (v := 1) hx hb dX4_cut_21 (by decide) ?_
      have hE : spX4_cut ce lf mq p1 p2 = ((1 : Int32), ce_18, lf_18, mq_18) := by unfold spX4_cut; rw [if_neg c_1, if_pos c_7]; rw [hq_18]; try dsimp only
      exact W.iret (v := (1 : Int32)) hx hb hr (fun t ht hW => ⟨⟨(1 : Int32), (), rfl, by rw [hE], by rw [hE, ht]; exact hP, va_K.moved hW.alike hK, by rw [hE]; exact hD⟩, hS.F ht⟩) hS.2.2 dX4_cut_22
    · refine lv_iconst (v := -1) hx hb dX4_cut_10 (by decide) ?_
      have hE : spX4_cut ce lf mq p1 p2 = ((-1 : Int32), ce, lf, mq) := by unfold spX4_cut; rw [if_neg c_1, if_neg c_7]
      exact W.iret (v := (-1 : Int32)) hx hb hr (fun t ht hW => ⟨⟨(-1 : Int32), (), rfl, by rw [hE], by rw [hE, ht]; exact hP, va_K.moved hW.alike hK, by rw [hE]; exact hD⟩, hS.F ht⟩) hS.2.2 dX4_cut_11
def spX4_mount (sc : Int32) (rc : Int32) (la : Int32) (pw : Int32) (wd : Nat → Int32) (bw : Nat → Int32) : Int32 × Int32 × Int32 × Int32 × Int32 × (Nat → Int32) := (if (spX2_hasPower pw) = 0 then (match spX1_reopen sc rc la wd bw with | (sc_21, rc_21, la_21, bw_21) => ((spX1_lastNumber la_21), sc_21, rc_21, la_21, (spX2_restorePower pw), bw_21)) else ((spX1_lastNumber la), sc, rc, la, pw, bw))
set_option maxHeartbeats 4000000 in
set_option maxRecDepth 100000 in
theorem c_X4_mount (l : Launch) (D : va_G) (aD aT ad af aJ aM aw ae aB ab : Nat) (cA : ClassId) (mn : Int32) (po : Int64) (co : Int64) (dr : Nat → Int32) (tb : Nat → Int32) (sc : Int32) (rc : Int32) (la : Int32) (pw : Int32) (ce : Int32) (lf : Int32) (mq : Int32) (ct : Int32) (wd : Nat → Int32) (er : Nat → Int32) (bw : Nat → Int32)  (hpw : pw = 0 ∨ pw = 1) : kWi l yX4_mount cX4_mount 1 (some .int) { frames := 6, cells := 0, slots := 0, locals := 135 } D [(cA, .int)] [.ref aD] (wD aD aT ad af aJ aM aw ae aB ab cA mn po co dr tb sc rc la pw ce lf mq ct wd er bw) (spX4_mount sc rc la pw wd bw).1 (wD aD aT ad af aJ aM aw ae aB ab cA mn po co dr tb (spX4_mount sc rc la pw wd bw).2.1 (spX4_mount sc rc la pw wd bw).2.2.1 (spX4_mount sc rc la pw wd bw).2.2.2.1 (spX4_mount sc rc la pw wd bw).2.2.2.2.1 ce lf mq ct wd er (spX4_mount sc rc la pw wd bw).2.2.2.2.2) := by
  intro sz
  refine Met.ofW (cc := cX4_mount) (maxL := 1) (ret := (some .int)) (by decide) rfl ?_
  intro p e s m args below meth c s₁ B hml hv
  obtain ⟨rfl, hsz, hP, hK, hD0⟩ := hv
  have hx := B.exec
  have hb := B.bytes
  have hr := B.returns
  have hts : ∀ w ∈ kG, w.before _ s = true := fun w h => atoms_spec (ws := kT yX4_mount cX4_mount 1 (some .int)) B.pre w (List.mem_cons_of_mem _ h)
  have hown : s.vm.findClass RX4 = some m.cls := findClass_of_methodNamed B.named
  have hlocks := B.notSynchronized
  subst hsz
  have hD := hD0.self (sz := s.heap.size)
  generalize hAe : va_A (wD aD aT ad af aJ aM aw ae aB ab cA mn po co dr tb sc rc la pw ce lf mq ct wd er bw) s.heap.size = A at hD ⊢
  have hA : ∀ q : Nat, s.heap.size ≤ q → A q := fun q h => by rw [← hAe]; exact Or.inr h
  have hS : va_S A s.heap s.heap [] := va_S.rf
  have hl := lv_entry ([.ref aD]) (n := 1) (Nat.le_of_ble_eq_true rfl)
  rw [lg_entry_eq]
  generalize (lg_sl ([.ref aD]) ++ List.replicate (1 - (lg_sl ([.ref aD])).length) Slot.unset).toArray = ls at hl ⊢
  have hl : lv_has ls 1 [(0, .ref aD)] := hl
  refine lv_aload_n hx hb dX4_mount_0 rfl (lv_at hl 0 rfl) ?_
  refine va_get (D := D) (ci := 4) (v := .ref aM) (C := RX4) (T := TX4) (N := 7) hx hb hts k_inX4 hown hK hP 0 rfl rfl 2 (by decide) (hts _ kw_172) (fun _ h9 => h9) rfl dX4_mount_1 ?_
  refine k_rdVi (As := []) (rest := []) (ci := 2) (q0 := 0) ⟨hx, hb, hml, hown, hts⟩ k_self (c_X2_hasPower l D aM aw ae cA pw ce lf mq ct wd er  hpw) kv_X4_58 (hP.sub [5, 6, 7] rfl) (hK.sub [0] rfl) rfl rfl rfl rfl ⟨Nat.le_of_ble_eq_true rfl, Nat.le_of_ble_eq_true rfl⟩ rfl hl.1 rfl (Nat.le_of_ble_eq_true rfl) dX4_mount_4 ⟨Nat.zero_le _, Nat.zero_le _⟩ ?_
  refine lv_if_ne (tgt := 24) hx hb dX4_mount_7 (by decide) (fun c_7 => ?_) (fun c_7 => ?_)
  · refine lv_aload_n hx hb dX4_mount_24 rfl (lv_at hl 0 rfl) ?_
    refine va_get (D := D) (ci := 4) (v := .ref aJ) (C := RX4) (T := TX4) (N := 7) hx hb hts k_inX4 hown hK hP 0 rfl rfl 4 (by decide) (hts _ kw_174) (fun _ h9 => h9) rfl dX4_mount_25 ?_
    refine k_rdVi (As := []) (rest := []) (ci := 1) (q0 := 0) ⟨hx, hb, hml, hown, hts⟩ k_self (c_X1_lastNumber l D aJ aM aw ae aB ab cA sc rc la pw ce lf mq ct wd er bw ) kv_X4_147 (hP.sub [4, 5, 6, 7, 8, 9] rfl) (hK.sub [0] rfl) rfl rfl rfl rfl ⟨Nat.le_of_ble_eq_true rfl, Nat.le_of_ble_eq_true rfl⟩ rfl hl.1 rfl (Nat.le_of_ble_eq_true rfl) dX4_mount_28 ⟨Nat.zero_le _, Nat.zero_le _⟩ ?_
    have hE : spX4_mount sc rc la pw wd bw = ((spX1_lastNumber la), sc, rc, la, pw, bw) := by unfold spX4_mount; rw [if_neg c_7]
    exact W.iret (v := (spX1_lastNumber la)) hx hb hr (fun t ht hW => ⟨⟨(spX1_lastNumber la), (), rfl, by rw [hE], by rw [hE, ht]; exact hP, va_K.moved hW.alike hK, by rw [hE]; exact hD⟩, hS.F ht⟩) hS.2.2 dX4_mount_31
  · refine lv_aload_n hx hb dX4_mount_10 rfl (lv_at hl 0 rfl) ?_
    refine va_get (D := D) (ci := 4) (v := .ref aM) (C := RX4) (T := TX4) (N := 7) hx hb hts k_inX4 hown hK hP 0 rfl rfl 2 (by decide) (hts _ kw_172) (fun _ h9 => h9) rfl dX4_mount_11 ?_
    refine k_wrVv (As := []) (rest := []) (ci := 2) (q0 := 0) (ws' := (wD aD aT ad af aJ aM aw ae aB ab cA mn po co dr tb sc rc la (spX2_restorePower pw) ce lf mq ct wd er bw)) (wr := [(aD, .inr (4, [.int mn, .ref aT, .ref aM, .ref aB, .ref aJ, .long po, .long co])), (aT, .inr (3, [.ref ad, .ref af])), (ad, .inl (cA, 320, .inl dr)), (af, .inl (cA, 320, .inl tb)), (aJ, .inr (1, [.ref aM, .ref aB, .int sc, .int rc, .int la])), (aB, .inr (0, [.ref ab])), (ab, .inl (cA, 191, .inl bw))]) ⟨hx, hb, hml, hown, hts⟩ k_self (c_X2_restorePower l D aM aw ae cA pw ce lf mq ct wd er ) kv_X4_141 hP hD hS hA hK rfl rfl [5, 6, 7] [0, 1, 2, 3, 4, 8, 9] [0, 1, 2, 3, 4, 7, 8, 9, 5, 6] rfl (by decide) rfl (by decide) (by decide) rfl (by decide) rfl rfl ⟨Nat.le_of_ble_eq_true rfl, Nat.le_of_ble_eq_true rfl⟩ rfl hl.1 rfl (Nat.le_of_ble_eq_true rfl) dX4_mount_14 ⟨Nat.zero_le _, Nat.zero_le _⟩ (fun H locs hP hD hS => ?_)
    refine lv_aload_n hx hb dX4_mount_17 rfl (lv_at hl 0 rfl) ?_
    refine va_get (D := D) (ci := 4) (v := .ref aJ) (C := RX4) (T := TX4) (N := 7) hx hb hts k_inX4 hown hK hP 0 rfl rfl 4 (by decide) (hts _ kw_174) (fun _ h9 => h9) rfl dX4_mount_18 ?_
    rcases hq_21 : spX1_reopen sc rc la wd bw with ⟨sc_21, rc_21, la_21, bw_21⟩
    have hM_21 : kWv l yX1_reopen cX1_reopen 3 none { frames := 5, cells := 0, slots := 0, locals := 113 } D [(cA, .int)] [.ref aJ] (wJ aJ aM aw ae aB ab cA sc rc la (spX2_restorePower pw) ce lf mq ct wd er bw) (wJ aJ aM aw ae aB ab cA sc_21 rc_21 la_21 (spX2_restorePower pw) ce lf mq ct wd er bw_21) := by
      have h := c_X1_reopen l D aJ aM aw ae aB ab cA sc rc la (spX2_restorePower pw) ce lf mq ct wd er bw 
      rw [hq_21] at h
      exact h
    refine k_wrVv (As := []) (rest := []) (ci := 1) (q0 := 0) (ws' := (wD aD aT ad af aJ aM aw ae aB ab cA mn po co dr tb sc_21 rc_21 la_21 (spX2_restorePower pw) ce lf mq ct wd er bw_21)) (wr := [(aD, .inr (4, [.int mn, .ref aT, .ref aM, .ref aB, .ref aJ, .long po, .long co])), (aT, .inr (3, [.ref ad, .ref af])), (ad, .inl (cA, 320, .inl dr)), (af, .inl (cA, 320, .inl tb))]) ⟨hx, hb, hml, hown, hts⟩ k_self hM_21 kv_X4_144 hP hD hS hA hK rfl rfl [4, 5, 6, 7, 8, 9] [0, 1, 2, 3] [0, 1, 2, 3, 4, 5, 6, 7, 8, 9] rfl (by decide) rfl (by decide) (by decide) rfl (by decide) rfl rfl ⟨Nat.le_of_ble_eq_true rfl, Nat.le_of_ble_eq_true rfl⟩ rfl hl.1 rfl (Nat.le_of_ble_eq_true rfl) dX4_mount_21 ⟨Nat.zero_le _, Nat.zero_le _⟩ (fun H locs hP hD hS => ?_)
    refine lv_aload_n hx hb dX4_mount_24 rfl (lv_at hl 0 rfl) ?_
    refine va_get (D := D) (ci := 4) (v := .ref aJ) (C := RX4) (T := TX4) (N := 7) hx hb hts k_inX4 hown hK hP 0 rfl rfl 4 (by decide) (hts _ kw_174) (fun _ h9 => h9) rfl dX4_mount_25 ?_
    refine k_rdVi (As := []) (rest := []) (ci := 1) (q0 := 0) ⟨hx, hb, hml, hown, hts⟩ k_self (c_X1_lastNumber l D aJ aM aw ae aB ab cA sc_21 rc_21 la_21 (spX2_restorePower pw) ce lf mq ct wd er bw_21 ) kv_X4_147 (hP.sub [4, 5, 6, 7, 8, 9] rfl) (hK.sub [0] rfl) rfl rfl rfl rfl ⟨Nat.le_of_ble_eq_true rfl, Nat.le_of_ble_eq_true rfl⟩ rfl hl.1 rfl (Nat.le_of_ble_eq_true rfl) dX4_mount_28 ⟨Nat.zero_le _, Nat.zero_le _⟩ ?_
    have hE : spX4_mount sc rc la pw wd bw = ((spX1_lastNumber la_21), sc_21, rc_21, la_21, (spX2_restorePower pw), bw_21) := by unfold spX4_mount; rw [if_pos c_7]; rw [hq_21]; try dsimp only
    exact W.iret (v := (spX1_lastNumber la_21)) hx hb hr (fun t ht hW => ⟨⟨(spX1_lastNumber la_21), (), rfl, by rw [hE], by rw [hE, ht]; exact hP, va_K.moved hW.alike hK, by rw [hE]; exact hD⟩, hS.F ht⟩) hS.2.2 dX4_mount_31
def spX4_uncertain (pw : Int32) (bw : Nat → Int32) : Int32 := (if (spX2_hasPower pw) = 0 then (-7 : Int32) else (if (spX4_isUncertain bw) = 0 then (0 : Int32) else (1 : Int32)))
set_option maxHeartbeats 4000000 in
set_option maxRecDepth 100000 in
theorem c_X4_uncertain (l : Launch) (D : va_G) (aD aT ad af aJ aM aw ae aB ab : Nat) (cA : ClassId) (mn : Int32) (po : Int64) (co : Int64) (dr : Nat → Int32) (tb : Nat → Int32) (sc : Int32) (rc : Int32) (la : Int32) (pw : Int32) (ce : Int32) (lf : Int32) (mq : Int32) (ct : Int32) (wd : Nat → Int32) (er : Nat → Int32) (bw : Nat → Int32)  (hpw : pw = 0 ∨ pw = 1) : kRi l yX4_uncertain cX4_uncertain 1 (some .int) { frames := 2, cells := 0, slots := 0, locals := 41 } [.ref aD] (kB D (wD aD aT ad af aJ aM aw ae aB ab cA mn po co dr tb sc rc la pw ce lf mq ct wd er bw) [(cA, .int)]) (spX4_uncertain pw bw) := by
  refine Met.ofW (cc := cX4_uncertain) (maxL := 1) (ret := (some .int)) (by decide) rfl ?_
  intro p e s m args below meth c s₁ B hml hv
  obtain ⟨rfl, hP, hK⟩ := hv
  have hx := B.exec
  have hb := B.bytes
  have hr := B.returns
  have hts : ∀ w ∈ kG, w.before _ s = true := fun w h => atoms_spec (ws := kT yX4_uncertain cX4_uncertain 1 (some .int)) B.pre w (List.mem_cons_of_mem _ h)
  have hown : s.vm.findClass RX4 = some m.cls := findClass_of_methodNamed B.named
  have hlocks := B.notSynchronized
  have hl := lv_entry ([.ref aD]) (n := 1) (Nat.le_of_ble_eq_true rfl)
  rw [lg_entry_eq]
  generalize (lg_sl ([.ref aD]) ++ List.replicate (1 - (lg_sl ([.ref aD])).length) Slot.unset).toArray = ls at hl ⊢
  have hl : lv_has ls 1 [(0, .ref aD)] := hl
  refine lv_aload_n hx hb dX4_uncertain_0 rfl (lv_at hl 0 rfl) ?_
  refine va_get (D := D) (ci := 4) (v := .ref aM) (C := RX4) (T := TX4) (N := 7) hx hb hts k_inX4 hown hK hP 0 rfl rfl 2 (by decide) (hts _ kw_172) (fun _ h9 => h9) rfl dX4_uncertain_1 ?_
  refine k_rdVi (As := []) (rest := []) (ci := 2) (q0 := 0) ⟨hx, hb, hml, hown, hts⟩ k_self (c_X2_hasPower l D aM aw ae cA pw ce lf mq ct wd er  hpw) kv_X4_58 (hP.sub [5, 6, 7] rfl) (hK.sub [0] rfl) rfl rfl rfl rfl ⟨Nat.le_of_ble_eq_true rfl, Nat.le_of_ble_eq_true rfl⟩ rfl hl.1 rfl (Nat.le_of_ble_eq_true rfl) dX4_uncertain_4 ⟨Nat.zero_le _, Nat.zero_le _⟩ ?_
  refine lv_if_ne (tgt := 13) hx hb dX4_uncertain_7 (by decide) (fun c_7 => ?_) (fun c_7 => ?_)
  · refine lv_aload_n hx hb dX4_uncertain_13 rfl (lv_at hl 0 rfl) ?_
    refine k_rdVi (As := []) (rest := []) (ci := 4) (q0 := 0) ⟨hx, hb, hml, hown, hts⟩ k_self (c_X4_isUncertain l D aD aT ad af aJ aM aw ae aB ab cA mn po co dr tb sc rc la pw ce lf mq ct wd er bw ) kv_X4_151 (hP.sub [0, 1, 2, 3, 4, 5, 6, 7, 8, 9] rfl) (hK.sub [0] rfl) rfl rfl rfl rfl ⟨Nat.le_of_ble_eq_true rfl, Nat.le_of_ble_eq_true rfl⟩ rfl hl.1 rfl (Nat.le_of_ble_eq_true rfl) dX4_uncertain_14 ⟨Nat.zero_le _, Nat.zero_le _⟩ ?_
    refine lv_if_eq (tgt := 24) hx hb dX4_uncertain_17 (by decide) (fun c_17 => ?_) (fun c_17 => ?_)
    · refine lv_iconst (v := 0) hx hb dX4_uncertain_24 (by decide) ?_
      exact W.iret (v := (0 : Int32)) hx hb hr (fun t ht hW => ⟨(0 : Int32), rfl, (show _ = _ from (by unfold spX4_uncertain; rw [if_neg c_7, if_pos c_17] : spX4_uncertain pw bw = (0 : Int32)).symm), ht⟩) (fun q h => by cases h) dX4_uncertain_25
    · refine lv_iconst (v := 1) hx hb dX4_uncertain_20 (by decide) ?_
      refine lv_goto (tgt := 25) hx hb dX4_uncertain_21 (by decide) ?_
      exact W.iret (v := (1 : Int32)) hx hb hr (fun t ht hW => ⟨(1 : Int32), rfl, (show _ = _ from (by unfold spX4_uncertain; rw [if_neg c_7, if_neg c_17] : spX4_uncertain pw bw = (1 : Int32)).symm), ht⟩) (fun q h => by cases h) dX4_uncertain_25
  · refine lv_bipush (v := -7) hx hb dX4_uncertain_10 (by decide) ?_
    exact W.iret (v := (-7 : Int32)) hx hb hr (fun t ht hW => ⟨(-7 : Int32), rfl, (show _ = _ from (by unfold spX4_uncertain; rw [if_pos c_7] : spX4_uncertain pw bw = (-7 : Int32)).symm), ht⟩) (fun q h => by cases h) dX4_uncertain_12
def spX4_settle (sc : Int32) (rc : Int32) (la : Int32) (pw : Int32) (ce : Int32) (lf : Int32) (mq : Int32) (ct : Int32) (wd : Nat → Int32) (er : Nat → Int32) (bw : Nat → Int32) (p1 : Int32) : Int32 × Int32 × Int32 × Int32 × Int32 × Int32 × Int32 × Int32 × (Nat → Int32) × (Nat → Int32) × (Nat → Int32) := (if (spX2_hasPower pw) = 0 then ((-7 : Int32), sc, rc, la, pw, ce, lf, ct, wd, er, bw) else (if (spX4_isUncertain bw) = 0 then ((0 : Int32), sc, rc, la, pw, ce, lf, ct, wd, er, bw) else (if p1 = 0 then (match spX1_append sc rc la pw ce lf mq ct wd er bw (3 : Int32) (0 : Int32) (0 : Int32) with | (r_35, sc_35, rc_35, la_35, pw_35, ce_35, lf_35, ct_35, wd_35, er_35, bw_35) => (r_35, sc_35, rc_35, la_35, pw_35, ce_35, lf_35, ct_35, wd_35, er_35, bw_35)) else (match spX1_append sc rc la pw ce lf mq ct wd er bw (3 : Int32) (1 : Int32) (0 : Int32) with | (r_35, sc_35, rc_35, la_35, pw_35, ce_35, lf_35, ct_35, wd_35, er_35, bw_35) => (r_35, sc_35, rc_35, la_35, pw_35, ce_35, lf_35, ct_35, wd_35, er_35, bw_35)))))
set_option maxHeartbeats 4000000 in
set_option maxRecDepth 100000 in
theorem c_X4_settle (l : Launch) (D : va_G) (aD aT ad af aJ aM aw ae aB ab : Nat) (cA : ClassId) (mn : Int32) (po : Int64) (co : Int64) (dr : Nat → Int32) (tb : Nat → Int32) (sc : Int32) (rc : Int32) (la : Int32) (pw : Int32) (ce : Int32) (lf : Int32) (mq : Int32) (ct : Int32) (wd : Nat → Int32) (er : Nat → Int32) (bw : Nat → Int32) (p1 : Int32) (hpw : pw = 0 ∨ pw = 1) : kWi l yX4_settle cX4_settle 2 (some .int) { frames := 6, cells := 0, slots := 0, locals := 137 } D [(cA, .int)] [.ref aD, .int p1] (wD aD aT ad af aJ aM aw ae aB ab cA mn po co dr tb sc rc la pw ce lf mq ct wd er bw) (spX4_settle sc rc la pw ce lf mq ct wd er bw p1).1 (wD aD aT ad af aJ aM aw ae aB ab cA mn po co dr tb (spX4_settle sc rc la pw ce lf mq ct wd er bw p1).2.1 (spX4_settle sc rc la pw ce lf mq ct wd er bw p1).2.2.1 (spX4_settle sc rc la pw ce lf mq ct wd er bw p1).2.2.2.1 (spX4_settle sc rc la pw ce lf mq ct wd er bw p1).2.2.2.2.1 (spX4_settle sc rc la pw ce lf mq ct wd er bw p1).2.2.2.2.2.1 (spX4_settle sc rc la pw ce lf mq ct wd er bw p1).2.2.2.2.2.2.1 mq (spX4_settle sc rc la pw ce lf mq ct wd er bw p1).2.2.2.2.2.2.2.1 (spX4_settle sc rc la pw ce lf mq ct wd er bw p1).2.2.2.2.2.2.2.2.1 (spX4_settle sc rc la pw ce lf mq ct wd er bw p1).2.2.2.2.2.2.2.2.2.1 (spX4_settle sc rc la pw ce lf mq ct wd er bw p1).2.2.2.2.2.2.2.2.2.2) := by
  intro sz
  refine Met.ofW (cc := cX4_settle) (maxL := 2) (ret := (some .int)) (by decide) rfl ?_
  intro p e s m args below meth c s₁ B hml hv
  obtain ⟨rfl, hsz, hP, hK, hD0⟩ := hv
  have hx := B.exec
  have hb := B.bytes
  have hr := B.returns
  have hts : ∀ w ∈ kG, w.before _ s = true := fun w h => atoms_spec (ws := kT yX4_settle cX4_settle 2 (some .int)) B.pre w (List.mem_cons_of_mem _ h)
  have hown : s.vm.findClass RX4 = some m.cls := findClass_of_methodNamed B.named
  have hlocks := B.notSynchronized
  subst hsz
  have hD := hD0.self (sz := s.heap.size)
  generalize hAe : va_A (wD aD aT ad af aJ aM aw ae aB ab cA mn po co dr tb sc rc la pw ce lf mq ct wd er bw) s.heap.size = A at hD ⊢
  have hA : ∀ q : Nat, s.heap.size ≤ q → A q := fun q h => by rw [← hAe]; exact Or.inr h
  have hS : va_S A s.heap s.heap [] := va_S.rf
  have hl := lv_entry ([.ref aD, .int p1]) (n := 2) (Nat.le_of_ble_eq_true rfl)
  rw [lg_entry_eq]
  generalize (lg_sl ([.ref aD, .int p1]) ++ List.replicate (2 - (lg_sl ([.ref aD, .int p1])).length) Slot.unset).toArray = ls at hl ⊢
  have hl : lv_has ls 2 [(0, .ref aD), (1, .int p1)] := hl
  refine lv_aload_n hx hb dX4_settle_0 rfl (lv_at hl 0 rfl) ?_
  refine va_get (D := D) (ci := 4) (v := .ref aM) (C := RX4) (T := TX4) (N := 7) hx hb hts k_inX4 hown hK hP 0 rfl rfl 2 (by decide) (hts _ kw_172) (fun _ h9 => h9) rfl dX4_settle_1 ?_
  refine k_rdVi (As := []) (rest := []) (ci := 2) (q0 := 0) ⟨hx, hb, hml, hown, hts⟩ k_self (c_X2_hasPower l D aM aw ae cA pw ce lf mq ct wd er  hpw) kv_X4_58 (hP.sub [5, 6, 7] rfl) (hK.sub [0] rfl) rfl rfl rfl rfl ⟨Nat.le_of_ble_eq_true rfl, Nat.le_of_ble_eq_true rfl⟩ rfl hl.1 rfl (Nat.le_of_ble_eq_true rfl) dX4_settle_4 ⟨Nat.zero_le _, Nat.zero_le _⟩ ?_
  refine lv_if_ne (tgt := 13) hx hb dX4_settle_7 (by decide) (fun c_7 => ?_) (fun c_7 => ?_)
  · refine lv_aload_n hx hb dX4_settle_13 rfl (lv_at hl 0 rfl) ?_
    refine k_rdVi (As := []) (rest := []) (ci := 4) (q0 := 0) ⟨hx, hb, hml, hown, hts⟩ k_self (c_X4_isUncertain l D aD aT ad af aJ aM aw ae aB ab cA mn po co dr tb sc rc la pw ce lf mq ct wd er bw ) kv_X4_151 (hP.sub [0, 1, 2, 3, 4, 5, 6, 7, 8, 9] rfl) (hK.sub [0] rfl) rfl rfl rfl rfl ⟨Nat.le_of_ble_eq_true rfl, Nat.le_of_ble_eq_true rfl⟩ rfl hl.1 rfl (Nat.le_of_ble_eq_true rfl) dX4_settle_14 ⟨Nat.zero_le _, Nat.zero_le _⟩ ?_
    refine lv_if_eq (tgt := 41) hx hb dX4_settle_17 (by decide) (fun c_17 => ?_) (fun c_17 => ?_)
    · refine lv_iconst (v := 0) hx hb dX4_settle_41 (by decide) ?_
      have hE : spX4_settle sc rc la pw ce lf mq ct wd er bw p1 = ((0 : Int32), sc, rc, la, pw, ce, lf, ct, wd, er, bw) := by unfold spX4_settle; rw [if_neg c_7, if_pos c_17]
      exact W.iret (v := (0 : Int32)) hx hb hr (fun t ht hW => ⟨⟨(0 : Int32), (), rfl, by rw [hE], by rw [hE, ht]; exact hP, va_K.moved hW.alike hK, by rw [hE]; exact hD⟩, hS.F ht⟩) hS.2.2 dX4_settle_42
    · refine lv_aload_n hx hb dX4_settle_20 rfl (lv_at hl 0 rfl) ?_
      refine va_get (D := D) (ci := 4) (v := .ref aJ) (C := RX4) (T := TX4) (N := 7) hx hb hts k_inX4 hown hK hP 0 rfl rfl 4 (by decide) (hts _ kw_174) (fun _ h9 => h9) rfl dX4_settle_21 ?_
      refine lv_iconst (v := 3) hx hb dX4_settle_24 (by decide) ?_
      refine lv_iload_n hx hb dX4_settle_25 rfl (lv_at hl 1 rfl) ?_
      refine lv_if_eq (tgt := 33) hx hb dX4_settle_26 (by decide) (fun c_26 => ?_) (fun c_26 => ?_)
      · refine lv_iconst (v := 0) hx hb dX4_settle_33 (by decide) ?_
        refine lv_iconst (v := 0) hx hb dX4_settle_34 (by decide) ?_
        rcases hq_35 : spX1_append sc rc la pw ce lf mq ct wd er bw (3 : Int32) (0 : Int32) (0 : Int32) with ⟨r_35, sc_35, rc_35, la_35, pw_35, ce_35, lf_35, ct_35, wd_35, er_35, bw_35⟩
        have hM_35 : kWi l yX1_append cX1_append 6 (some .int) { frames := 5, cells := 0, slots := 0, locals := 112 } D [(cA, .int)] [.ref aJ, .int (3 : Int32), .int (0 : Int32), .int (0 : Int32)] (wJ aJ aM aw ae aB ab cA sc rc la pw ce lf mq ct wd er bw) r_35 (wJ aJ aM aw ae aB ab cA sc_35 rc_35 la_35 pw_35 ce_35 lf_35 mq ct_35 wd_35 er_35 bw_35) := by
          have h := c_X1_append l D aJ aM aw ae aB ab cA sc rc la pw ce lf mq ct wd er bw (3 : Int32) (0 : Int32) (0 : Int32)
          rw [hq_35] at h
          exact h
        refine k_wrVi (As := [.int (3 : Int32), .int (0 : Int32), .int (0 : Int32)]) (rest := []) (ci := 1) (q0 := 0) (ws' := (wD aD aT ad af aJ aM aw ae aB ab cA mn po co dr tb sc_35 rc_35 la_35 pw_35 ce_35 lf_35 mq ct_35 wd_35 er_35 bw_35)) (wr := [(aD, .inr (4, [.int mn, .ref aT, .ref aM, .ref aB, .ref aJ, .long po, .long co])), (aT, .inr (3, [.ref ad, .ref af])), (ad, .inl (cA, 320, .inl dr)), (af, .inl (cA, 320, .inl tb))]) ⟨hx, hb, hml, hown, hts⟩ k_self hM_35 kv_X4_66 hP hD hS hA hK rfl rfl [4, 5, 6, 7, 8, 9] [0, 1, 2, 3] [0, 1, 2, 3, 4, 5, 6, 7, 8, 9] rfl (by decide) rfl (by decide) (by decide) rfl (by decide) rfl rfl ⟨Nat.le_of_ble_eq_true rfl, Nat.le_of_ble_eq_true rfl⟩ rfl hl.1 rfl (Nat.le_of_ble_eq_true rfl) dX4_settle_35 ⟨Nat.zero_le _, Nat.zero_le _⟩ (fun H locs hP hD hS => ?_)
        refine lv_goto (tgt := 42) hx hb dX4_settle_38 (by decide) ?_
        have hE : spX4_settle sc rc la pw ce lf mq ct wd er bw p1 = (r_35, sc_35, rc_35, la_35, pw_35, ce_35, lf_35, ct_35, wd_35, er_35, bw_35) := by unfold spX4_settle; rw [if_neg c_7, if_neg c_17, if_pos c_26]; rw [hq_35]; try dsimp only
        exact W.iret (v := r_35) hx hb hr (fun t ht hW => ⟨⟨r_35, (), rfl, by rw [hE], by rw [hE, ht]; exact hP, va_K.moved hW.alike hK, by rw [hE]; exact hD⟩, hS.F ht⟩) hS.2.2 dX4_settle_42
      · refine lv_iconst (v := 1) hx hb dX4_settle_29 (by decide) ?_
        refine lv_goto (tgt := 34) hx hb dX4_settle_30 (by decide) ?_
        refine lv_iconst (v := 0) hx hb dX4_settle_34 (by decide) ?_
        rcases hq_35 : spX1_append sc rc la pw ce lf mq ct wd er bw (3 : Int32) (1 : Int32) (0 : Int32) with ⟨r_35, sc_35, rc_35, la_35, pw_35, ce_35, lf_35, ct_35, wd_35, er_35, bw_35⟩
        have hM_35 : kWi l yX1_append cX1_append 6 (some .int) { frames := 5, cells := 0, slots := 0, locals := 112 } D [(cA, .int)] [.ref aJ, .int (3 : Int32), .int (1 : Int32), .int (0 : Int32)] (wJ aJ aM aw ae aB ab cA sc rc la pw ce lf mq ct wd er bw) r_35 (wJ aJ aM aw ae aB ab cA sc_35 rc_35 la_35 pw_35 ce_35 lf_35 mq ct_35 wd_35 er_35 bw_35) := by
          have h := c_X1_append l D aJ aM aw ae aB ab cA sc rc la pw ce lf mq ct wd er bw (3 : Int32) (1 : Int32) (0 : Int32)
          rw [hq_35] at h
          exact h
        refine k_wrVi (As := [.int (3 : Int32), .int (1 : Int32), .int (0 : Int32)]) (rest := []) (ci := 1) (q0 := 0) (ws' := (wD aD aT ad af aJ aM aw ae aB ab cA mn po co dr tb sc_35 rc_35 la_35 pw_35 ce_35 lf_35 mq ct_35 wd_35 er_35 bw_35)) (wr := [(aD, .inr (4, [.int mn, .ref aT, .ref aM, .ref aB, .ref aJ, .long po, .long co])), (aT, .inr (3, [.ref ad, .ref af])), (ad, .inl (cA, 320, .inl dr)), (af, .inl (cA, 320, .inl tb))]) ⟨hx, hb, hml, hown, hts⟩ k_self hM_35 kv_X4_66 hP hD hS hA hK rfl rfl [4, 5, 6, 7, 8, 9] [0, 1, 2, 3] [0, 1, 2, 3, 4, 5, 6, 7, 8, 9] rfl (by decide) rfl (by decide) (by decide) rfl (by decide) rfl rfl ⟨Nat.le_of_ble_eq_true rfl, Nat.le_of_ble_eq_true rfl⟩ rfl hl.1 rfl (Nat.le_of_ble_eq_true rfl) dX4_settle_35 ⟨Nat.zero_le _, Nat.zero_le _⟩ (fun H locs hP hD hS => ?_)
        refine lv_goto (tgt := 42) hx hb dX4_settle_38 (by decide) ?_
        have hE : spX4_settle sc rc la pw ce lf mq ct wd er bw p1 = (r_35, sc_35, rc_35, la_35, pw_35, ce_35, lf_35, ct_35, wd_35, er_35, bw_35) := by unfold spX4_settle; rw [if_neg c_7, if_neg c_17, if_neg c_26]; rw [hq_35]; try dsimp only
        exact W.iret (v := r_35) hx hb hr (fun t ht hW => ⟨⟨r_35, (), rfl, by rw [hE], by rw [hE, ht]; exact hP, va_K.moved hW.alike hK, by rw [hE]; exact hD⟩, hS.F ht⟩) hS.2.2 dX4_settle_42
  · refine lv_bipush (v := -7) hx hb dX4_settle_10 (by decide) ?_
    have hE : spX4_settle sc rc la pw ce lf mq ct wd er bw p1 = ((-7 : Int32), sc, rc, la, pw, ce, lf, ct, wd, er, bw) := by unfold spX4_settle; rw [if_pos c_7]
    exact W.iret (v := (-7 : Int32)) hx hb hr (fun t ht hW => ⟨⟨(-7 : Int32), (), rfl, by rw [hE], by rw [hE, ht]; exact hP, va_K.moved hW.alike hK, by rw [hE]; exact hD⟩, hS.F ht⟩) hS.2.2 dX4_settle_12
def spX4_wear (er : Nat → Int32) (p1 : Int32) : Int32 := (if (spX2_holds p1 (0 : Int32)) = 0 then (-1 : Int32) else (spX2_erasesOf er p1))
set_option maxHeartbeats 4000000 in
set_option maxRecDepth 100000 in
theorem c_X4_wear (l : Launch) (D : va_G) (aD aT ad af aJ aM aw ae aB ab : Nat) (cA : ClassId) (mn : Int32) (po : Int64) (co : Int64) (dr : Nat → Int32) (tb : Nat → Int32) (sc : Int32) (rc : Int32) (la : Int32) (pw : Int32) (ce : Int32) (lf : Int32) (mq : Int32) (ct : Int32) (wd : Nat → Int32) (er : Nat → Int32) (bw : Nat → Int32) (p1 : Int32)  : kRi l yX4_wear cX4_wear 2 (some .int) { frames := 2, cells := 0, slots := 0, locals := 43 } [.ref aD, .int p1] (kB D (wD aD aT ad af aJ aM aw ae aB ab cA mn po co dr tb sc rc la pw ce lf mq ct wd er bw) [(cA, .int)]) (spX4_wear er p1) := by
  refine Met.ofW (cc := cX4_wear) (maxL := 2) (ret := (some .int)) (by decide) rfl ?_
  intro p e s m args below meth c s₁ B hml hv
  obtain ⟨rfl, hP, hK⟩ := hv
  have hx := B.exec
  have hb := B.bytes
  have hr := B.returns
  have hts : ∀ w ∈ kG, w.before _ s = true := fun w h => atoms_spec (ws := kT yX4_wear cX4_wear 2 (some .int)) B.pre w (List.mem_cons_of_mem _ h)
  have hown : s.vm.findClass RX4 = some m.cls := findClass_of_methodNamed B.named
  have hlocks := B.notSynchronized
  have hl := lv_entry ([.ref aD, .int p1]) (n := 2) (Nat.le_of_ble_eq_true rfl)
  rw [lg_entry_eq]
  generalize (lg_sl ([.ref aD, .int p1]) ++ List.replicate (2 - (lg_sl ([.ref aD, .int p1])).length) Slot.unset).toArray = ls at hl ⊢
  have hl : lv_has ls 2 [(0, .ref aD), (1, .int p1)] := hl
  refine lv_aload_n hx hb dX4_wear_0 rfl (lv_at hl 0 rfl) ?_
  refine va_get (D := D) (ci := 4) (v := .ref aM) (C := RX4) (T := TX4) (N := 7) hx hb hts k_inX4 hown hK hP 0 rfl rfl 2 (by decide) (hts _ kw_172) (fun _ h9 => h9) rfl dX4_wear_1 ?_
  refine lv_iload_n hx hb dX4_wear_4 rfl (lv_at hl 1 rfl) ?_
  refine lv_iconst (v := 0) hx hb dX4_wear_5 (by decide) ?_
  refine k_rdVi (As := [.int p1, .int (0 : Int32)]) (rest := []) (ci := 2) (q0 := 0) ⟨hx, hb, hml, hown, hts⟩ k_self (c_X2_holds l D aM aw ae cA pw ce lf mq ct wd er p1 (0 : Int32)) kv_X4_154 (hP.sub [5, 6, 7] rfl) (hK.sub [0] rfl) rfl rfl rfl rfl ⟨Nat.le_of_ble_eq_true rfl, Nat.le_of_ble_eq_true rfl⟩ rfl hl.1 rfl (Nat.le_of_ble_eq_true rfl) dX4_wear_6 ⟨Nat.zero_le _, Nat.zero_le _⟩ ?_
  refine lv_if_eq (tgt := 23) hx hb dX4_wear_9 (by decide) (fun c_9 => ?_) (fun c_9 => ?_)
  · refine lv_iconst (v := -1) hx hb dX4_wear_23 (by decide) ?_
    exact W.iret (v := (-1 : Int32)) hx hb hr (fun t ht hW => ⟨(-1 : Int32), rfl, (show _ = _ from (by unfold spX4_wear; rw [if_pos c_9] : spX4_wear er p1 = (-1 : Int32)).symm), ht⟩) (fun q h => by cases h) dX4_wear_24
  · refine lv_aload_n hx hb dX4_wear_12 rfl (lv_at hl 0 rfl) ?_
    refine va_get (D := D) (ci := 4) (v := .ref aM) (C := RX4) (T := TX4) (N := 7) hx hb hts k_inX4 hown hK hP 0 rfl rfl 2 (by decide) (hts _ kw_172) (fun _ h9 => h9) rfl dX4_wear_13 ?_
    refine lv_iload_n hx hb dX4_wear_16 rfl (lv_at hl 1 rfl) ?_
    refine k_rdVi (As := [.int p1]) (rest := []) (ci := 2) (q0 := 0) ⟨hx, hb, hml, hown, hts⟩ k_self (c_X2_erasesOf l D aM aw ae cA pw ce lf mq ct wd er p1) kv_X4_158 (hP.sub [5, 6, 7] rfl) (hK.sub [0] rfl) rfl rfl rfl rfl ⟨Nat.le_of_ble_eq_true rfl, Nat.le_of_ble_eq_true rfl⟩ rfl hl.1 rfl (Nat.le_of_ble_eq_true rfl) dX4_wear_17 ⟨Nat.zero_le _, Nat.zero_le _⟩ ?_
    refine lv_goto (tgt := 24) hx hb dX4_wear_20 (by decide) ?_
    exact W.iret (v := (spX2_erasesOf er p1)) hx hb hr (fun t ht hW => ⟨(spX2_erasesOf er p1), rfl, (show _ = _ from (by unfold spX4_wear; rw [if_neg c_9] : spX4_wear er p1 = (spX2_erasesOf er p1)).symm), ht⟩) (fun q h => by cases h) dX4_wear_24
def spX4_word (wd : Nat → Int32) (p1 : Int32) (p2 : Int32) : Int32 := (if (spX2_holds p1 p2) = 0 then (-1 : Int32) else (spX2_read wd p1 p2))
set_option maxHeartbeats 4000000 in
set_option maxRecDepth 100000 in
theorem c_X4_word (l : Launch) (D : va_G) (aD aT ad af aJ aM aw ae aB ab : Nat) (cA : ClassId) (mn : Int32) (po : Int64) (co : Int64) (dr : Nat → Int32) (tb : Nat → Int32) (sc : Int32) (rc : Int32) (la : Int32) (pw : Int32) (ce : Int32) (lf : Int32) (mq : Int32) (ct : Int32) (wd : Nat → Int32) (er : Nat → Int32) (bw : Nat → Int32) (p1 : Int32) (p2 : Int32)  : kRi l yX4_word cX4_word 3 (some .int) { frames := 2, cells := 0, slots := 0, locals := 44 } [.ref aD, .int p1, .int p2] (kB D (wD aD aT ad af aJ aM aw ae aB ab cA mn po co dr tb sc rc la pw ce lf mq ct wd er bw) [(cA, .int)]) (spX4_word wd p1 p2) := by
  refine Met.ofW (cc := cX4_word) (maxL := 3) (ret := (some .int)) (by decide) rfl ?_
  intro p e s m args below meth c s₁ B hml hv
  obtain ⟨rfl, hP, hK⟩ := hv
  have hx := B.exec
  have hb := B.bytes
  have hr := B.returns
  have hts : ∀ w ∈ kG, w.before _ s = true := fun w h => atoms_spec (ws := kT yX4_word cX4_word 3 (some .int)) B.pre w (List.mem_cons_of_mem _ h)
  have hown : s.vm.findClass RX4 = some m.cls := findClass_of_methodNamed B.named
  have hlocks := B.notSynchronized
  have hl := lv_entry ([.ref aD, .int p1, .int p2]) (n := 3) (Nat.le_of_ble_eq_true rfl)
  rw [lg_entry_eq]
  generalize (lg_sl ([.ref aD, .int p1, .int p2]) ++ List.replicate (3 - (lg_sl ([.ref aD, .int p1, .int p2])).length) Slot.unset).toArray = ls at hl ⊢
  have hl : lv_has ls 3 [(0, .ref aD), (1, .int p1), (2, .int p2)] := hl
  refine lv_aload_n hx hb dX4_word_0 rfl (lv_at hl 0 rfl) ?_
  refine va_get (D := D) (ci := 4) (v := .ref aM) (C := RX4) (T := TX4) (N := 7) hx hb hts k_inX4 hown hK hP 0 rfl rfl 2 (by decide) (hts _ kw_172) (fun _ h9 => h9) rfl dX4_word_1 ?_
  refine lv_iload_n hx hb dX4_word_4 rfl (lv_at hl 1 rfl) ?_
  refine lv_iload_n hx hb dX4_word_5 rfl (lv_at hl 2 rfl) ?_
  refine k_rdVi (As := [.int p1, .int p2]) (rest := []) (ci := 2) (q0 := 0) ⟨hx, hb, hml, hown, hts⟩ k_self (c_X2_holds l D aM aw ae cA pw ce lf mq ct wd er p1 p2) kv_X4_154 (hP.sub [5, 6, 7] rfl) (hK.sub [0] rfl) rfl rfl rfl rfl ⟨Nat.le_of_ble_eq_true rfl, Nat.le_of_ble_eq_true rfl⟩ rfl hl.1 rfl (Nat.le_of_ble_eq_true rfl) dX4_word_6 ⟨Nat.zero_le _, Nat.zero_le _⟩ ?_
  refine lv_if_eq (tgt := 24) hx hb dX4_word_9 (by decide) (fun c_9 => ?_) (fun c_9 => ?_)
  · refine lv_iconst (v := -1) hx hb dX4_word_24 (by decide) ?_
    exact W.iret (v := (-1 : Int32)) hx hb hr (fun t ht hW => ⟨(-1 : Int32), rfl, (show _ = _ from (by unfold spX4_word; rw [if_pos c_9] : spX4_word wd p1 p2 = (-1 : Int32)).symm), ht⟩) (fun q h => by cases h) dX4_word_25
  · refine lv_aload_n hx hb dX4_word_12 rfl (lv_at hl 0 rfl) ?_
    refine va_get (D := D) (ci := 4) (v := .ref aM) (C := RX4) (T := TX4) (N := 7) hx hb hts k_inX4 hown hK hP 0 rfl rfl 2 (by decide) (hts _ kw_172) (fun _ h9 => h9) rfl dX4_word_13 ?_
    refine lv_iload_n hx hb dX4_word_16 rfl (lv_at hl 1 rfl) ?_
    refine lv_iload_n hx hb dX4_word_17 rfl (lv_at hl 2 rfl) ?_
    refine k_rdVi (As := [.int p1, .int p2]) (rest := []) (ci := 2) (q0 := 0) ⟨hx, hb, hml, hown, hts⟩ k_self (c_X2_read l D aM aw ae cA pw ce lf mq ct wd er p1 p2) kv_X4_161 (hP.sub [5, 6, 7] rfl) (hK.sub [0] rfl) rfl rfl rfl rfl ⟨Nat.le_of_ble_eq_true rfl, Nat.le_of_ble_eq_true rfl⟩ rfl hl.1 rfl (Nat.le_of_ble_eq_true rfl) dX4_word_18 ⟨Nat.zero_le _, Nat.zero_le _⟩ ?_
    refine lv_goto (tgt := 25) hx hb dX4_word_21 (by decide) ?_
    exact W.iret (v := (spX2_read wd p1 p2)) hx hb hr (fun t ht hW => ⟨(spX2_read wd p1 p2), rfl, (show _ = _ from (by unfold spX4_word; rw [if_neg c_9] : spX4_word wd p1 p2 = (spX2_read wd p1 p2)).symm), ht⟩) (fun q h => by cases h) dX4_word_25
def spX4_sound (po : Int64) (co : Int64) (pw : Int32) (ct : Int32) (er : Nat → Int32) (bw : Nat → Int32) : Int32 := (if (spX2_hasPower pw) = 0 then (-7 : Int32) else (if (spX0_registersAddUp bw) = 0 then (0 : Int32) else (if (spX0_departmentsAddUp bw) = 0 then (0 : Int32) else (if 0 < (lg_cmp po (Int32.toInt64 (spX0_at bw (8 : Int32)))) then (0 : Int32) else (if 0 < (lg_cmp co (spX0_sumAt bw (0 : Int32))) then (0 : Int32) else (if ((1 : Int32) + (spX2_cutsSuffered ct)) < (spX2_wearSpread er) then (0 : Int32) else (1 : Int32)))))))
set_option maxHeartbeats 4000000 in
set_option maxRecDepth 100000 in
theorem c_X4_sound (l : Launch) (D : va_G) (aD aT ad af aJ aM aw ae aB ab : Nat) (cA : ClassId) (mn : Int32) (po : Int64) (co : Int64) (dr : Nat → Int32) (tb : Nat → Int32) (sc : Int32) (rc : Int32) (la : Int32) (pw : Int32) (ce : Int32) (lf : Int32) (mq : Int32) (ct : Int32) (wd : Nat → Int32) (er : Nat → Int32) (bw : Nat → Int32)  (hpw : pw = 0 ∨ pw = 1) : kRi l yX4_sound cX4_sound 2 (some .int) { frames := 4, cells := 0, slots := 0, locals := 88 } [.ref aD] (kB D (wD aD aT ad af aJ aM aw ae aB ab cA mn po co dr tb sc rc la pw ce lf mq ct wd er bw) [(cA, .int)]) (spX4_sound po co pw ct er bw) := by
  refine Met.ofW (cc := cX4_sound) (maxL := 2) (ret := (some .int)) (by decide) rfl ?_
  intro p e s m args below meth c s₁ B hml hv
  obtain ⟨rfl, hP, hK⟩ := hv
  have hx := B.exec
  have hb := B.bytes
  have hr := B.returns
  have hts : ∀ w ∈ kG, w.before _ s = true := fun w h => atoms_spec (ws := kT yX4_sound cX4_sound 2 (some .int)) B.pre w (List.mem_cons_of_mem _ h)
  have hown : s.vm.findClass RX4 = some m.cls := findClass_of_methodNamed B.named
  have hlocks := B.notSynchronized
  have hl := lv_entry ([.ref aD]) (n := 2) (Nat.le_of_ble_eq_true rfl)
  rw [lg_entry_eq]
  generalize (lg_sl ([.ref aD]) ++ List.replicate (2 - (lg_sl ([.ref aD])).length) Slot.unset).toArray = ls at hl ⊢
  have hl : lv_has ls 2 [(0, .ref aD)] := hl
  refine lv_aload_n hx hb dX4_sound_0 rfl (lv_at hl 0 rfl) ?_
  refine va_get (D := D) (ci := 4) (v := .ref aM) (C := RX4) (T := TX4) (N := 7) hx hb hts k_inX4 hown hK hP 0 rfl rfl 2 (by decide) (hts _ kw_172) (fun _ h9 => h9) rfl dX4_sound_1 ?_
  refine k_rdVi (As := []) (rest := []) (ci := 2) (q0 := 0) ⟨hx, hb, hml, hown, hts⟩ k_self (c_X2_hasPower l D aM aw ae cA pw ce lf mq ct wd er  hpw) kv_X4_58 (hP.sub [5, 6, 7] rfl) (hK.sub [0] rfl) rfl rfl rfl rfl ⟨Nat.le_of_ble_eq_true rfl, Nat.le_of_ble_eq_true rfl⟩ rfl hl.1 rfl (Nat.le_of_ble_eq_true rfl) dX4_sound_4 ⟨Nat.zero_le _, Nat.zero_le _⟩ ?_
  refine lv_if_ne (tgt := 13) hx hb dX4_sound_7 (by decide) (fun c_7 => ?_) (fun c_7 => ?_)
  · refine lv_aload_n hx hb dX4_sound_13 rfl (lv_at hl 0 rfl) ?_
    refine va_get (D := D) (ci := 4) (v := .ref aB) (C := RX4) (T := TX4) (N := 7) hx hb hts k_inX4 hown hK hP 0 rfl rfl 3 (by decide) (hts _ kw_173) (fun _ h9 => h9) rfl dX4_sound_14 ?_
    refine k_rdVi (As := []) (rest := []) (ci := 0) (q0 := 0) ⟨hx, hb, hml, hown, hts⟩ k_self (c_X0_registersAddUp l D aB ab cA bw ) kv_X4_164 (hP.sub [8, 9] rfl) (hK.sub [0] rfl) rfl rfl rfl rfl ⟨Nat.le_of_ble_eq_true rfl, Nat.le_of_ble_eq_true rfl⟩ rfl hl.1 rfl (Nat.le_of_ble_eq_true rfl) dX4_sound_17 ⟨Nat.zero_le _, Nat.zero_le _⟩ ?_
    refine lv_if_eq (tgt := 90) hx hb dX4_sound_20 (by decide) (fun c_20 => ?_) (fun c_20 => ?_)
    · refine lv_iconst (v := 0) hx hb dX4_sound_90 (by decide) ?_
      refine lv_istore_n (lv' := [(1, .int (0 : Int32)), (0, .ref aD)]) hx hb dX4_sound_91 rfl hl (by decide) rfl (fun ls hl => ?_)
      refine lv_iload_n hx hb dX4_sound_92 rfl (lv_at hl 0 rfl) ?_
      refine lv_if_eq (tgt := 100) hx hb dX4_sound_93 (by decide) (fun c_93 => ?_) (fun c_93 => ?_)
      · refine lv_iconst (v := 0) hx hb dX4_sound_100 (by decide) ?_
        exact W.iret (v := (0 : Int32)) hx hb hr (fun t ht hW => ⟨(0 : Int32), rfl, (show _ = _ from (by unfold spX4_sound; rw [if_neg c_7, if_pos c_20] : spX4_sound po co pw ct er bw = (0 : Int32)).symm), ht⟩) (fun q h => by cases h) dX4_sound_101
      · exact absurd c_93 (by decide)
    · refine lv_aload_n hx hb dX4_sound_23 rfl (lv_at hl 0 rfl) ?_
      refine va_get (D := D) (ci := 4) (v := .ref aB) (C := RX4) (T := TX4) (N := 7) hx hb hts k_inX4 hown hK hP 0 rfl rfl 3 (by decide) (hts _ kw_173) (fun _ h9 => h9) rfl dX4_sound_24 ?_
      refine k_rdVi (As := []) (rest := []) (ci := 0) (q0 := 0) ⟨hx, hb, hml, hown, hts⟩ k_self (c_X0_departmentsAddUp l D aB ab cA bw ) kv_X4_167 (hP.sub [8, 9] rfl) (hK.sub [0] rfl) rfl rfl rfl rfl ⟨Nat.le_of_ble_eq_true rfl, Nat.le_of_ble_eq_true rfl⟩ rfl hl.1 rfl (Nat.le_of_ble_eq_true rfl) dX4_sound_27 ⟨Nat.zero_le _, Nat.zero_le _⟩ ?_
      refine lv_if_eq (tgt := 90) hx hb dX4_sound_30 (by decide) (fun c_30 => ?_) (fun c_30 => ?_)
      · refine lv_iconst (v := 0) hx hb dX4_sound_90 (by decide) ?_
        refine lv_istore_n (lv' := [(1, .int (0 : Int32)), (0, .ref aD)]) hx hb dX4_sound_91 rfl hl (by decide) rfl (fun ls hl => ?_)
        refine lv_iload_n hx hb dX4_sound_92 rfl (lv_at hl 0 rfl) ?_
        refine lv_if_eq (tgt := 100) hx hb dX4_sound_93 (by decide) (fun c_93 => ?_) (fun c_93 => ?_)
        · refine lv_iconst (v := 0) hx hb dX4_sound_100 (by decide) ?_
          exact W.iret (v := (0 : Int32)) hx hb hr (fun t ht hW => ⟨(0 : Int32), rfl, (show _ = _ from (by unfold spX4_sound; rw [if_neg c_7, if_neg c_20, if_pos c_30] : spX4_sound po co pw ct er bw = (0 : Int32)).symm), ht⟩) (fun q h => by cases h) dX4_sound_101
        · exact absurd c_93 (by decide)
      · refine lv_aload_n hx hb dX4_sound_33 rfl (lv_at hl 0 rfl) ?_
        refine va_get (D := D) (ci := 4) (v := .long po) (C := RX4) (T := TX4) (N := 7) hx hb hts k_inX4 hown hK hP 0 rfl rfl 5 (by decide) (hts _ kw_175) (fun _ h9 => h9) rfl dX4_sound_34 ?_
        refine lv_aload_n hx hb dX4_sound_37 rfl (lv_at hl 0 rfl) ?_
        refine va_get (D := D) (ci := 4) (v := .ref aB) (C := RX4) (T := TX4) (N := 7) hx hb hts k_inX4 hown hK hP 0 rfl rfl 3 (by decide) (hts _ kw_173) (fun _ h9 => h9) rfl dX4_sound_38 ?_
        refine lv_bipush (v := 8) hx hb dX4_sound_41 (by decide) ?_
        refine k_rdVi (As := [.int (8 : Int32)]) (rest := [.long po]) (ci := 0) (q0 := 0) ⟨hx, hb, hml, hown, hts⟩ k_self (c_X0_at l D aB ab cA bw (8 : Int32)) kv_X4_62 (hP.sub [8, 9] rfl) (hK.sub [0] rfl) rfl rfl rfl rfl ⟨Nat.le_of_ble_eq_true rfl, Nat.le_of_ble_eq_true rfl⟩ rfl hl.1 rfl (Nat.le_of_ble_eq_true rfl) dX4_sound_43 ⟨Nat.zero_le _, Nat.zero_le _⟩ ?_
        refine lv_i2l (v := (Int32.toInt64 (spX0_at bw (8 : Int32)))) hx hb dX4_sound_46 rfl ?_
        refine W.lcmp hx hb dX4_sound_47 ?_
        refine lv_if_gt (tgt := 90) hx hb dX4_sound_48 (by decide) (fun c_48 => ?_) (fun c_48 => ?_)
        · refine lv_iconst (v := 0) hx hb dX4_sound_90 (by decide) ?_
          refine lv_istore_n (lv' := [(1, .int (0 : Int32)), (0, .ref aD)]) hx hb dX4_sound_91 rfl hl (by decide) rfl (fun ls hl => ?_)
          refine lv_iload_n hx hb dX4_sound_92 rfl (lv_at hl 0 rfl) ?_
          refine lv_if_eq (tgt := 100) hx hb dX4_sound_93 (by decide) (fun c_93 => ?_) (fun c_93 => ?_)
          · refine lv_iconst (v := 0) hx hb dX4_sound_100 (by decide) ?_
            exact W.iret (v := (0 : Int32)) hx hb hr (fun t ht hW => ⟨(0 : Int32), rfl, (show _ = _ from (by unfold spX4_sound; rw [if_neg c_7, if_neg c_20, if_neg c_30, if_pos c_48] : spX4_sound po co pw ct er bw = (0 : Int32)).symm), ht⟩) (fun q h => by cases h) dX4_sound_101
          · exact absurd c_93 (by decide)
        · refine lv_aload_n hx hb dX4_sound_51 rfl (lv_at hl 0 rfl) ?_
          refine va_get (D := D) (ci := 4) (v := .long co) (C := RX4) (T := TX4) (N := 7) hx hb hts k_inX4 hown hK hP 0 rfl rfl 6 (by decide) (hts _ kw_176) (fun _ h9 => h9) rfl dX4_sound_52 ?_
          refine lv_aload_n hx hb dX4_sound_55 rfl (lv_at hl 0 rfl) ?_
          refine va_get (D := D) (ci := 4) (v := .ref aB) (C := RX4) (T := TX4) (N := 7) hx hb hts k_inX4 hown hK hP 0 rfl rfl 3 (by decide) (hts _ kw_173) (fun _ h9 => h9) rfl dX4_sound_56 ?_
          refine lv_iconst (v := 0) hx hb dX4_sound_59 (by decide) ?_
          refine k_rdVl (As := [.int (0 : Int32)]) (rest := [.long co]) (ci := 0) (q0 := 0) ⟨hx, hb, hml, hown, hts⟩ k_self (c_X0_sumAt l D aB ab cA bw (0 : Int32)) kv_X4_96 (hP.sub [8, 9] rfl) (hK.sub [0] rfl) rfl rfl rfl rfl ⟨Nat.le_of_ble_eq_true rfl, Nat.le_of_ble_eq_true rfl⟩ rfl hl.1 rfl (Nat.le_of_ble_eq_true rfl) dX4_sound_60 ⟨Nat.zero_le _, Nat.zero_le _⟩ ?_
          refine W.lcmp hx hb dX4_sound_63 ?_
          refine lv_if_gt (tgt := 90) hx hb dX4_sound_64 (by decide) (fun c_64 => ?_) (fun c_64 => ?_)
          · refine lv_iconst (v := 0) hx hb dX4_sound_90 (by decide) ?_
            refine lv_istore_n (lv' := [(1, .int (0 : Int32)), (0, .ref aD)]) hx hb dX4_sound_91 rfl hl (by decide) rfl (fun ls hl => ?_)
            refine lv_iload_n hx hb dX4_sound_92 rfl (lv_at hl 0 rfl) ?_
            refine lv_if_eq (tgt := 100) hx hb dX4_sound_93 (by decide) (fun c_93 => ?_) (fun c_93 => ?_)
            · refine lv_iconst (v := 0) hx hb dX4_sound_100 (by decide) ?_
              exact W.iret (v := (0 : Int32)) hx hb hr (fun t ht hW => ⟨(0 : Int32), rfl, (show _ = _ from (by unfold spX4_sound; rw [if_neg c_7, if_neg c_20, if_neg c_30, if_neg c_48, if_pos c_64] : spX4_sound po co pw ct er bw = (0 : Int32)).symm), ht⟩) (fun q h => by cases h) dX4_sound_101
            · exact absurd c_93 (by decide)
          · refine lv_aload_n hx hb dX4_sound_67 rfl (lv_at hl 0 rfl) ?_
            refine va_get (D := D) (ci := 4) (v := .ref aM) (C := RX4) (T := TX4) (N := 7) hx hb hts k_inX4 hown hK hP 0 rfl rfl 2 (by decide) (hts _ kw_172) (fun _ h9 => h9) rfl dX4_sound_68 ?_
            refine k_rdVi (As := []) (rest := []) (ci := 2) (q0 := 0) ⟨hx, hb, hml, hown, hts⟩ k_self (c_X2_wearSpread l D aM aw ae cA pw ce lf mq ct wd er ) kv_X4_170 (hP.sub [5, 6, 7] rfl) (hK.sub [0] rfl) rfl rfl rfl rfl ⟨Nat.le_of_ble_eq_true rfl, Nat.le_of_ble_eq_true rfl⟩ rfl hl.1 rfl (Nat.le_of_ble_eq_true rfl) dX4_sound_71 ⟨Nat.zero_le _, Nat.zero_le _⟩ ?_
            refine lv_iconst (v := 1) hx hb dX4_sound_74 (by decide) ?_
            refine lv_aload_n hx hb dX4_sound_75 rfl (lv_at hl 0 rfl) ?_
            refine va_get (D := D) (ci := 4) (v := .ref aM) (C := RX4) (T := TX4) (N := 7) hx hb hts k_inX4 hown hK hP 0 rfl rfl 2 (by decide) (hts _ kw_172) (fun _ h9 => h9) rfl dX4_sound_76 ?_
            refine k_rdVi (As := []) (rest := [.int (1 : Int32), .int (spX2_wearSpread er)]) (ci := 2) (q0 := 0) ⟨hx, hb, hml, hown, hts⟩ k_self (c_X2_cutsSuffered l D aM aw ae cA pw ce lf mq ct wd er ) kv_X4_173 (hP.sub [5, 6, 7] rfl) (hK.sub [0] rfl) rfl rfl rfl rfl ⟨Nat.le_of_ble_eq_true rfl, Nat.le_of_ble_eq_true rfl⟩ rfl hl.1 rfl (Nat.le_of_ble_eq_true rfl) dX4_sound_79 ⟨Nat.zero_le _, Nat.zero_le _⟩ ?_
            refine lv_iadd hx hb dX4_sound_82 ?_
            refine lv_icmp_gt (tgt := 90) hx hb dX4_sound_83 (by decide) (fun c_83 => ?_) (fun c_83 => ?_)
            · refine lv_iconst (v := 0) hx hb dX4_sound_90 (by decide) ?_
              refine lv_istore_n (lv' := [(1, .int (0 : Int32)), (0, .ref aD)]) hx hb dX4_sound_91 rfl hl (by decide) rfl (fun ls hl => ?_)
              refine lv_iload_n hx hb dX4_sound_92 rfl (lv_at hl 0 rfl) ?_
              refine lv_if_eq (tgt := 100) hx hb dX4_sound_93 (by decide) (fun c_93 => ?_) (fun c_93 => ?_)
              · refine lv_iconst (v := 0) hx hb dX4_sound_100 (by decide) ?_
                exact W.iret (v := (0 : Int32)) hx hb hr (fun t ht hW => ⟨(0 : Int32), rfl, (show _ = _ from (by unfold spX4_sound; rw [if_neg c_7, if_neg c_20, if_neg c_30, if_neg c_48, if_neg c_64, if_pos c_83] : spX4_sound po co pw ct er bw = (0 : Int32)).symm), ht⟩) (fun q h => by cases h) dX4_sound_101
              · exact absurd c_93 (by decide)
            · refine lv_iconst (v := 1) hx hb dX4_sound_86 (by decide) ?_
              refine lv_goto (tgt := 91) hx hb dX4_sound_87 (by decide) ?_
              refine lv_istore_n (lv' := [(1, .int (1 : Int32)), (0, .ref aD)]) hx hb dX4_sound_91 rfl hl (by decide) rfl (fun ls hl => ?_)
              refine lv_iload_n hx hb dX4_sound_92 rfl (lv_at hl 0 rfl) ?_
              refine lv_if_eq (tgt := 100) hx hb dX4_sound_93 (by decide) (fun c_93 => ?_) (fun c_93 => ?_)
              · exact absurd c_93 (by decide)
              · refine lv_iconst (v := 1) hx hb dX4_sound_96 (by decide) ?_
                refine lv_goto (tgt := 101) hx hb dX4_sound_97 (by decide) ?_
                exact W.iret (v := (1 : Int32)) hx hb hr (fun t ht hW => ⟨(1 : Int32), rfl, (show _ = _ from (by unfold spX4_sound; rw [if_neg c_7, if_neg c_20, if_neg c_30, if_neg c_48, if_neg c_64, if_neg c_83] : spX4_sound po co pw ct er bw = (1 : Int32)).symm), ht⟩) (fun q h => by cases h) dX4_sound_101
  · refine lv_bipush (v := -7) hx hb dX4_sound_10 (by decide) ?_
    exact W.iret (v := (-7 : Int32)) hx hb hr (fun t ht hW => ⟨(-7 : Int32), rfl, (show _ = _ from (by unfold spX4_sound; rw [if_pos c_7] : spX4_sound po co pw ct er bw = (-7 : Int32)).symm), ht⟩) (fun q h => by cases h) dX4_sound_12
