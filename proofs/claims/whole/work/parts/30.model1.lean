def spX5_in (p1 : Int64) (p2 : Int64) (p3 : Int64) : Int32 := (if (lg_cmp p1 p2) < 0 then (0 : Int32) else (if 0 < (lg_cmp p1 p3) then (0 : Int32) else (1 : Int32)))
set_option maxHeartbeats 4000000 in
set_option maxRecDepth 100000 in
theorem c_X5_in (l : Launch) (p1 : Int64) (p2 : Int64) (p3 : Int64) : kRi l yX5_in cX5_in 6 (some .boolean) { frames := 0, cells := 0, slots := 0, locals := 0 } [.long p1, .long p2, .long p3] (fun _ => True) (spX5_in p1 p2 p3) := by
  refine Met.ofW (cc := cX5_in) (maxL := 6) (ret := (some .boolean)) (by decide) rfl ?_
  intro p e s m args below meth c s₁ B hml hv
  obtain ⟨rfl, -⟩ := hv
  have hx := B.exec
  have hb := B.bytes
  have hr := B.returns
  have hts : ∀ w ∈ kG, w.before _ s = true := fun w h => atoms_spec (ws := kT yX5_in cX5_in 6 (some .boolean)) B.pre w (List.mem_cons_of_mem _ h)
  have hown : s.vm.findClass RX5 = some m.cls := findClass_of_methodNamed B.named
  have hlocks := B.notSynchronized
  have hl := lv_entry ([.long p1, .long p2, .long p3]) (n := 6) (Nat.le_of_ble_eq_true rfl)
  rw [lg_entry_eq]
  generalize (lg_sl ([.long p1, .long p2, .long p3]) ++ List.replicate (6 - (lg_sl ([.long p1, .long p2, .long p3])).length) Slot.unset).toArray = ls at hl ⊢
  have hl : lv_has ls 6 [(0, .long p1), (2, .long p2), (4, .long p3)] := hl
  refine lv_lload_n hx hb dX5_in_0 rfl (lv_at hl 0 rfl) ?_
  refine lv_lload_n hx hb dX5_in_1 rfl (lv_at hl 1 rfl) ?_
  refine W.lcmp hx hb dX5_in_2 ?_
  refine lv_if_lt (tgt := 17) hx hb dX5_in_3 (by decide) (fun c_3 => ?_) (fun c_3 => ?_)
  · refine lv_iconst (v := 0) hx hb dX5_in_17 (by decide) ?_
    exact W.zret (v := (0 : Int32)) hx hb hr rfl (fun t ht hW => ⟨(0 : Int32), rfl, (show _ = _ from (by unfold spX5_in; rw [if_pos c_3] : spX5_in p1 p2 p3 = (0 : Int32)).symm), ht⟩) (fun q h => by cases h) dX5_in_18
  · refine lv_lload_n hx hb dX5_in_6 rfl (lv_at hl 0 rfl) ?_
    refine lv_lload hx hb dX5_in_7 (lv_at hl 2 rfl) ?_
    refine W.lcmp hx hb dX5_in_9 ?_
    refine lv_if_gt (tgt := 17) hx hb dX5_in_10 (by decide) (fun c_10 => ?_) (fun c_10 => ?_)
    · refine lv_iconst (v := 0) hx hb dX5_in_17 (by decide) ?_
      exact W.zret (v := (0 : Int32)) hx hb hr rfl (fun t ht hW => ⟨(0 : Int32), rfl, (show _ = _ from (by unfold spX5_in; rw [if_neg c_3, if_pos c_10] : spX5_in p1 p2 p3 = (0 : Int32)).symm), ht⟩) (fun q h => by cases h) dX5_in_18
    · refine lv_iconst (v := 1) hx hb dX5_in_13 (by decide) ?_
      refine lv_goto (tgt := 18) hx hb dX5_in_14 (by decide) ?_
      exact W.zret (v := (1 : Int32)) hx hb hr rfl (fun t ht hW => ⟨(1 : Int32), rfl, (show _ = _ from (by unfold spX5_in; rw [if_neg c_3, if_neg c_10] : spX5_in p1 p2 p3 = (1 : Int32)).symm), ht⟩) (fun q h => by cases h) dX5_in_18
theorem k_in01 (a b c : Int64) : spX5_in a b c = 0 ∨ spX5_in a b c = 1 := by
  unfold spX5_in; split
  · exact Or.inl rfl
  · split
    · exact Or.inl rfl
    · exact Or.inr rfl
def spX5_isMoney (p1 : Int32) : Int32 := (spX5_in (Int32.toInt64 p1) (1 : Int64) (999999999 : Int64))
set_option maxHeartbeats 4000000 in
set_option maxRecDepth 100000 in
theorem c_X5_isMoney (l : Launch) (p1 : Int32) : kRi l yX5_isMoney cX5_isMoney 1 (some .boolean) { frames := 1, cells := 0, slots := 0, locals := 25 } [.int p1] (fun _ => True) (spX5_isMoney p1) := by
  refine Met.ofW (cc := cX5_isMoney) (maxL := 1) (ret := (some .boolean)) (by decide) rfl ?_
  intro p e s m args below meth c s₁ B hml hv
  obtain ⟨rfl, -⟩ := hv
  have hx := B.exec
  have hb := B.bytes
  have hr := B.returns
  have hts : ∀ w ∈ kG, w.before _ s = true := fun w h => atoms_spec (ws := kT yX5_isMoney cX5_isMoney 1 (some .boolean)) B.pre w (List.mem_cons_of_mem _ h)
  have hown : s.vm.findClass RX5 = some m.cls := findClass_of_methodNamed B.named
  have hlocks := B.notSynchronized
  have hl := lv_entry ([.int p1]) (n := 1) (Nat.le_of_ble_eq_true rfl)
  rw [lg_entry_eq]
  generalize (lg_sl ([.int p1]) ++ List.replicate (1 - (lg_sl ([.int p1])).length) Slot.unset).toArray = ls at hl ⊢
  have hl : lv_has ls 1 [(0, .int p1)] := hl
  refine lv_iload_n hx hb dX5_isMoney_0 rfl (lv_at hl 0 rfl) ?_
  refine lv_i2l (v := (Int32.toInt64 p1)) hx hb dX5_isMoney_1 rfl ?_
  refine lv_lconst (v := 1) hx hb dX5_isMoney_2 (by decide) ?_
  refine lv_ldc2 (v := 999999999) hx hb hown (hts _ kw_551) dX5_isMoney_3 ?_
  refine k_rdSi (As := [.long (Int32.toInt64 p1), .long (1 : Int64), .long (999999999 : Int64)]) (rest := []) ⟨hx, hb, hml, hown, hts⟩ k_self (c_X5_in l (Int32.toInt64 p1) (1 : Int64) (999999999 : Int64)) kv_X5_52 rfl rfl ⟨Nat.le_of_ble_eq_true rfl, Nat.le_of_ble_eq_true rfl⟩ rfl hl.1 rfl (Nat.le_of_ble_eq_true rfl) dX5_isMoney_6 ⟨Nat.zero_le _, Nat.zero_le _⟩ ?_
  exact W.zret (v := (spX5_in (Int32.toInt64 p1) (1 : Int64) (999999999 : Int64))) hx hb hr (k_bool (k_in01 _ _ _)) (fun t ht hW => ⟨(spX5_in (Int32.toInt64 p1) (1 : Int64) (999999999 : Int64)), rfl, (show _ = _ from (by unfold spX5_isMoney; rfl : spX5_isMoney p1 = (spX5_in (Int32.toInt64 p1) (1 : Int64) (999999999 : Int64))).symm), ht⟩) (fun q h => by cases h) dX5_isMoney_9
def spX5_isDone (kpw : Int32) (klf : Int32) : Int32 × Int32 × Int32 := (if klf = 0 then ((0 : Int32), (0 : Int32), (-1 : Int32)) else (if klf ≤ 0 then ((1 : Int32), kpw, klf) else ((1 : Int32), kpw, (klf - (1 : Int32)))))
set_option maxHeartbeats 4000000 in
set_option maxRecDepth 100000 in
theorem c_X5_isDone (l : Launch) (D : va_G) (kO km kw kb kr kd kt : Nat) (cA : ClassId) (kth : Int32) (kmn : Int32) (kpw : Int32) (klf : Int32) (kmk : Int32) (ksc : Int32) (krc : Int32) (kno : Int32) (kpp : Int32) (kpc : Int64) (kme : Nat → Int32) (kwe : Nat → Int32) (kbo : Nat → Int32) (kre : Nat → Int32) (kdr : Nat → Int32) (ktb : Nat → Int32)   : kWi l yX5_isDone cX5_isDone 1 (some .boolean) { frames := 0, cells := 0, slots := 0, locals := 0 } D [(cA, .int)] [.ref kO] (wK kO km kw kb kr kd kt cA kth kmn kpw klf kmk ksc krc kno kpp kpc kme kwe kbo kre kdr ktb) (spX5_isDone kpw klf).1 (wK kO km kw kb kr kd kt cA kth kmn (spX5_isDone kpw klf).2.1 (spX5_isDone kpw klf).2.2 kmk ksc krc kno kpp kpc kme kwe kbo kre kdr ktb) := by
  intro sz
  refine Met.ofW (cc := cX5_isDone) (maxL := 1) (ret := (some .boolean)) (by decide) rfl ?_
  intro p e s m args below meth c s₁ B hml hv
  obtain ⟨rfl, hsz, hP, hK, hD0⟩ := hv
  have hx := B.exec
  have hb := B.bytes
  have hr := B.returns
  have hts : ∀ w ∈ kG, w.before _ s = true := fun w h => atoms_spec (ws := kT yX5_isDone cX5_isDone 1 (some .boolean)) B.pre w (List.mem_cons_of_mem _ h)
  have hown : s.vm.findClass RX5 = some m.cls := findClass_of_methodNamed B.named
  have hlocks := B.notSynchronized
  subst hsz
  have hD := hD0.self (sz := s.heap.size)
  generalize hAe : va_A (wK kO km kw kb kr kd kt cA kth kmn kpw klf kmk ksc krc kno kpp kpc kme kwe kbo kre kdr ktb) s.heap.size = A at hD ⊢
  have hA : ∀ q : Nat, s.heap.size ≤ q → A q := fun q h => by rw [← hAe]; exact Or.inr h
  have hS : va_S A s.heap s.heap [] := va_S.rf
  have hl := lv_entry ([.ref kO]) (n := 1) (Nat.le_of_ble_eq_true rfl)
  rw [lg_entry_eq]
  generalize (lg_sl ([.ref kO]) ++ List.replicate (1 - (lg_sl ([.ref kO])).length) Slot.unset).toArray = ls at hl ⊢
  have hl : lv_has ls 1 [(0, .ref kO)] := hl
  refine lv_aload_n hx hb dX5_isDone_0 rfl (lv_at hl 0 rfl) ?_
  refine va_get (D := D) (ci := 5) (v := .int klf) (C := RX5) (T := TX5) (N := 16) hx hb hts k_inX5 hown hK hP 0 rfl rfl 9 (by decide) (hts _ kw_498) (fun _ h9 => h9) rfl dX5_isDone_1 ?_
  refine lv_if_ne (tgt := 19) hx hb dX5_isDone_4 (by decide) (fun c_4 => ?_) (fun c_4 => ?_)
  · refine lv_aload_n hx hb dX5_isDone_19 rfl (lv_at hl 0 rfl) ?_
    refine lv_aload_n hx hb dX5_isDone_20 rfl (lv_at hl 0 rfl) ?_
    refine va_get (D := D) (ci := 5) (v := .int klf) (C := RX5) (T := TX5) (N := 16) hx hb hts k_inX5 hown hK hP 0 rfl rfl 9 (by decide) (hts _ kw_498) (fun _ h9 => h9) rfl dX5_isDone_21 ?_
    refine lv_if_le (tgt := 36) hx hb dX5_isDone_24 (by decide) (fun c_24 => ?_) (fun c_24 => ?_)
    · refine lv_aload_n hx hb dX5_isDone_36 rfl (lv_at hl 0 rfl) ?_
      refine va_get (D := D) (ci := 5) (v := .int klf) (C := RX5) (T := TX5) (N := 16) hx hb hts k_inX5 hown hK hP 0 rfl rfl 9 (by decide) (hts _ kw_498) (fun _ h9 => h9) rfl dX5_isDone_37 ?_
      refine va_put (D := D) (ci := 5) (v := .int klf) (ty := .int) (C := RX5) (T := TX5) (N := 16) hx hb hts k_inX5 tyX5 tyX5_ok nmX5 hown hK hP hD hS 0 rfl rfl 9 (by decide) (hts _ kw_498) (fun _ h9 => h9) rfl (by decide +kernel) rfl rfl (Nat.le_of_ble_eq_true rfl) dX5_isDone_40 (fun H locs hP hD hS => ?_)
      have hP : va_P D vwCl (wK kO km kw kb kr kd kt cA kth kmn kpw klf kmk ksc krc kno kpp kpc kme kwe kbo kre kdr ktb) H := hP
      have hD : va_D A (wK kO km kw kb kr kd kt cA kth kmn kpw klf kmk ksc krc kno kpp kpc kme kwe kbo kre kdr ktb) := hD
      refine lv_iconst (v := 1) hx hb dX5_isDone_43 (by decide) ?_
      have hE : spX5_isDone kpw klf = ((1 : Int32), kpw, klf) := by unfold spX5_isDone; rw [if_neg c_4, if_pos c_24]
      exact W.zret (v := (1 : Int32)) hx hb hr rfl (fun t ht hW => ⟨⟨(1 : Int32), (), rfl, by rw [hE], by rw [hE, ht]; exact hP, va_K.moved hW.alike hK, by rw [hE]; exact hD⟩, hS.F ht⟩) hS.2.2 dX5_isDone_44
    · refine lv_aload_n hx hb dX5_isDone_27 rfl (lv_at hl 0 rfl) ?_
      refine va_get (D := D) (ci := 5) (v := .int klf) (C := RX5) (T := TX5) (N := 16) hx hb hts k_inX5 hown hK hP 0 rfl rfl 9 (by decide) (hts _ kw_498) (fun _ h9 => h9) rfl dX5_isDone_28 ?_
      refine lv_iconst (v := 1) hx hb dX5_isDone_31 (by decide) ?_
      refine lv_isub hx hb dX5_isDone_32 ?_
      refine lv_goto (tgt := 40) hx hb dX5_isDone_33 (by decide) ?_
      refine va_put (D := D) (ci := 5) (v := .int (klf - (1 : Int32))) (ty := .int) (C := RX5) (T := TX5) (N := 16) hx hb hts k_inX5 tyX5 tyX5_ok nmX5 hown hK hP hD hS 0 rfl rfl 9 (by decide) (hts _ kw_498) (fun _ h9 => h9) rfl (by decide +kernel) rfl rfl (Nat.le_of_ble_eq_true rfl) dX5_isDone_40 (fun H locs hP hD hS => ?_)
      have hP : va_P D vwCl (wK kO km kw kb kr kd kt cA kth kmn kpw (klf - (1 : Int32)) kmk ksc krc kno kpp kpc kme kwe kbo kre kdr ktb) H := hP
      have hD : va_D A (wK kO km kw kb kr kd kt cA kth kmn kpw (klf - (1 : Int32)) kmk ksc krc kno kpp kpc kme kwe kbo kre kdr ktb) := hD
      refine lv_iconst (v := 1) hx hb dX5_isDone_43 (by decide) ?_
      have hE : spX5_isDone kpw klf = ((1 : Int32), kpw, (klf - (1 : Int32))) := by unfold spX5_isDone; rw [if_neg c_4, if_neg c_24]
      exact W.zret (v := (1 : Int32)) hx hb hr rfl (fun t ht hW => ⟨⟨(1 : Int32), (), rfl, by rw [hE], by rw [hE, ht]; exact hP, va_K.moved hW.alike hK, by rw [hE]; exact hD⟩, hS.F ht⟩) hS.2.2 dX5_isDone_44
  · refine lv_aload_n hx hb dX5_isDone_7 rfl (lv_at hl 0 rfl) ?_
    refine lv_iconst (v := -1) hx hb dX5_isDone_8 (by decide) ?_
    refine va_put (D := D) (ci := 5) (v := .int (-1 : Int32)) (ty := .int) (C := RX5) (T := TX5) (N := 16) hx hb hts k_inX5 tyX5 tyX5_ok nmX5 hown hK hP hD hS 0 rfl rfl 9 (by decide) (hts _ kw_498) (fun _ h9 => h9) rfl (by decide +kernel) rfl rfl (Nat.le_of_ble_eq_true rfl) dX5_isDone_9 (fun H locs hP hD hS => ?_)
    have hP : va_P D vwCl (wK kO km kw kb kr kd kt cA kth kmn kpw (-1 : Int32) kmk ksc krc kno kpp kpc kme kwe kbo kre kdr ktb) H := hP
    have hD : va_D A (wK kO km kw kb kr kd kt cA kth kmn kpw (-1 : Int32) kmk ksc krc kno kpp kpc kme kwe kbo kre kdr ktb) := hD
    refine lv_aload_n hx hb dX5_isDone_12 rfl (lv_at hl 0 rfl) ?_
    refine lv_iconst (v := 0) hx hb dX5_isDone_13 (by decide) ?_
    refine va_put (D := D) (ci := 5) (v := .int (0 : Int32)) (ty := .boolean) (C := RX5) (T := TX5) (N := 16) hx hb hts k_inX5 tyX5 tyX5_ok nmX5 hown hK hP hD hS 0 rfl rfl 8 (by decide) (hts _ kw_497) (fun _ h9 => h9) rfl (by decide +kernel) rfl rfl (Nat.le_of_ble_eq_true rfl) dX5_isDone_14 (fun H locs hP hD hS => ?_)
    have hP : va_P D vwCl (wK kO km kw kb kr kd kt cA kth kmn (0 : Int32) (-1 : Int32) kmk ksc krc kno kpp kpc kme kwe kbo kre kdr ktb) H := hP
    have hD : va_D A (wK kO km kw kb kr kd kt cA kth kmn (0 : Int32) (-1 : Int32) kmk ksc krc kno kpp kpc kme kwe kbo kre kdr ktb) := hD
    refine lv_iconst (v := 0) hx hb dX5_isDone_17 (by decide) ?_
    have hE : spX5_isDone kpw klf = ((0 : Int32), (0 : Int32), (-1 : Int32)) := by unfold spX5_isDone; rw [if_pos c_4]
    exact W.zret (v := (0 : Int32)) hx hb hr rfl (fun t ht hW => ⟨⟨(0 : Int32), (), rfl, by rw [hE], by rw [hE, ht]; exact hP, va_K.moved hW.alike hK, by rw [hE]; exact hD⟩, hS.F ht⟩) hS.2.2 dX5_isDone_18
theorem k_done01 (kpw klf : Int32) : (spX5_isDone kpw klf).1 = 0 ∨ (spX5_isDone kpw klf).1 = 1 := by
  unfold spX5_isDone; split
  · exact Or.inl rfl
  · split <;> exact Or.inr rfl
theorem k_donep {kpw klf r a b : Int32} (h : spX5_isDone kpw klf = (r, a, b)) (hp : kpw = 0 ∨ kpw = 1) : a = 0 ∨ a = 1 := by
  unfold spX5_isDone at h; revert h; split
  · intro h; cases h; exact Or.inl rfl
  · split
    · intro h; cases h; exact hp
    · intro h; cases h; exact hp
def spX5_write (kpw : Int32) (klf : Int32) (ksc : Int32) (kme : Nat → Int32) (p1 : Int32) (p2 : Int32) : Int32 × Int32 × (Nat → Int32) := (if kpw = 0 then (kpw, klf, kme) else (match spX5_isDone kpw klf with | (r_8, kpw_8, klf_8) => (if r_8 = 0 then (kpw_8, klf_8, kme) else (kpw_8, klf_8, (upd kme (Int32.toNatClampNeg (((256 : Int32) * ksc) + p1)) p2)))))
set_option maxHeartbeats 4000000 in
set_option maxRecDepth 100000 in
theorem c_X5_write (l : Launch) (D : va_G) (kO km kw kb kr kd kt : Nat) (cA : ClassId) (kth : Int32) (kmn : Int32) (kpw : Int32) (klf : Int32) (kmk : Int32) (ksc : Int32) (krc : Int32) (kno : Int32) (kpp : Int32) (kpc : Int64) (kme : Nat → Int32) (kwe : Nat → Int32) (kbo : Nat → Int32) (kre : Nat → Int32) (kdr : Nat → Int32) (ktb : Nat → Int32) (p1 : Int32) (p2 : Int32) (hw : vp_in (((256 : Int32) * ksc) + p1) 4096) : kWv l yX5_write cX5_write 3 none { frames := 1, cells := 0, slots := 0, locals := 20 } D [(cA, .int)] [.ref kO, .int p1, .int p2] (wK kO km kw kb kr kd kt cA kth kmn kpw klf kmk ksc krc kno kpp kpc kme kwe kbo kre kdr ktb) (wK kO km kw kb kr kd kt cA kth kmn (spX5_write kpw klf ksc kme p1 p2).1 (spX5_write kpw klf ksc kme p1 p2).2.1 kmk ksc krc kno kpp kpc (spX5_write kpw klf ksc kme p1 p2).2.2 kwe kbo kre kdr ktb) := by
  intro sz
  refine Met.ofW (cc := cX5_write) (maxL := 3) (ret := none) (by decide) rfl ?_
  intro p e s m args below meth c s₁ B hml hv
  obtain ⟨rfl, hsz, hP, hK, hD0⟩ := hv
  have hx := B.exec
  have hb := B.bytes
  have hr := B.returns
  have hts : ∀ w ∈ kG, w.before _ s = true := fun w h => atoms_spec (ws := kT yX5_write cX5_write 3 none) B.pre w (List.mem_cons_of_mem _ h)
  have hown : s.vm.findClass RX5 = some m.cls := findClass_of_methodNamed B.named
  have hlocks := B.notSynchronized
  subst hsz
  have hD := hD0.self (sz := s.heap.size)
  generalize hAe : va_A (wK kO km kw kb kr kd kt cA kth kmn kpw klf kmk ksc krc kno kpp kpc kme kwe kbo kre kdr ktb) s.heap.size = A at hD ⊢
  have hA : ∀ q : Nat, s.heap.size ≤ q → A q := fun q h => by rw [← hAe]; exact Or.inr h
  have hS : va_S A s.heap s.heap [] := va_S.rf
  have hl := lv_entry ([.ref kO, .int p1, .int p2]) (n := 3) (Nat.le_of_ble_eq_true rfl)
  rw [lg_entry_eq]
  generalize (lg_sl ([.ref kO, .int p1, .int p2]) ++ List.replicate (3 - (lg_sl ([.ref kO, .int p1, .int p2])).length) Slot.unset).toArray = ls at hl ⊢
  have hl : lv_has ls 3 [(0, .ref kO), (1, .int p1), (2, .int p2)] := hl
  refine lv_aload_n hx hb dX5_write_0 rfl (lv_at hl 0 rfl) ?_
  refine va_get (D := D) (ci := 5) (v := .int kpw) (C := RX5) (T := TX5) (N := 16) hx hb hts k_inX5 hown hK hP 0 rfl rfl 8 (by decide) (hts _ kw_497) (fun _ h9 => h9) rfl dX5_write_1 ?_
  refine lv_if_eq (tgt := 30) hx hb dX5_write_4 (by decide) (fun c_4 => ?_) (fun c_4 => ?_)
  · have hE : spX5_write kpw klf ksc kme p1 p2 = (kpw, klf, kme) := by unfold spX5_write; rw [if_pos c_4]
    exact W.vret hx hb hr (fun t ht hW => ⟨⟨(), rfl, trivial, by rw [hE, ht]; exact hP, va_K.moved hW.alike hK, by rw [hE]; exact hD⟩, hS.F ht⟩) hS.2.2 dX5_write_30
  · refine lv_aload_n hx hb dX5_write_7 rfl (lv_at hl 0 rfl) ?_
    rcases hq_8 : spX5_isDone kpw klf with ⟨r_8, kpw_8, klf_8⟩
    have hM_8 : kWi l yX5_isDone cX5_isDone 1 (some .boolean) { frames := 0, cells := 0, slots := 0, locals := 0 } D [(cA, .int)] [.ref kO] (wK kO km kw kb kr kd kt cA kth kmn kpw klf kmk ksc krc kno kpp kpc kme kwe kbo kre kdr ktb) r_8 (wK kO km kw kb kr kd kt cA kth kmn kpw_8 klf_8 kmk ksc krc kno kpp kpc kme kwe kbo kre kdr ktb) := by
      have h := c_X5_isDone l D kO km kw kb kr kd kt cA kth kmn kpw klf kmk ksc krc kno kpp kpc kme kwe kbo kre kdr ktb 
      rw [hq_8] at h
      exact h
    refine k_wrVi (As := []) (rest := []) (ci := 5) (q0 := 0) (ws' := (wK kO km kw kb kr kd kt cA kth kmn kpw_8 klf_8 kmk ksc krc kno kpp kpc kme kwe kbo kre kdr ktb)) (wr := []) ⟨hx, hb, hml, hown, hts⟩ k_self hM_8 kv_X5_56 hP hD hS hA hK rfl rfl [0, 1, 2, 3, 4, 5, 6] [] [0, 1, 2, 3, 4, 5, 6] rfl (by decide) rfl (by decide) (by decide) rfl (by decide) rfl rfl ⟨Nat.le_of_ble_eq_true rfl, Nat.le_of_ble_eq_true rfl⟩ rfl hl.1 rfl (Nat.le_of_ble_eq_true rfl) dX5_write_8 ⟨Nat.zero_le _, Nat.zero_le _⟩ (fun H locs hP hD hS => ?_)
    refine lv_if_eq (tgt := 30) hx hb dX5_write_11 (by decide) (fun c_11 => ?_) (fun c_11 => ?_)
    · have hE : spX5_write kpw klf ksc kme p1 p2 = (kpw_8, klf_8, kme) := by unfold spX5_write; rw [if_neg c_4]; rw [hq_8]; dsimp only; rw [if_pos c_11]
      exact W.vret hx hb hr (fun t ht hW => ⟨⟨(), rfl, trivial, by rw [hE, ht]; exact hP, va_K.moved hW.alike hK, by rw [hE]; exact hD⟩, hS.F ht⟩) hS.2.2 dX5_write_30
    · refine lv_aload_n hx hb dX5_write_14 rfl (lv_at hl 0 rfl) ?_
      refine va_get (D := D) (ci := 5) (v := .ref km) (C := RX5) (T := TX5) (N := 16) hx hb hts k_inX5 hown hK hP 0 rfl rfl 2 (by decide) (hts _ kw_491) (fun _ h9 => h9) rfl dX5_write_15 ?_
      refine lv_sipush (v := 256) hx hb dX5_write_18 (by decide) ?_
      refine lv_aload_n hx hb dX5_write_21 rfl (lv_at hl 0 rfl) ?_
      refine va_get (D := D) (ci := 5) (v := .int ksc) (C := RX5) (T := TX5) (N := 16) hx hb hts k_inX5 hown hK hP 0 rfl rfl 11 (by decide) (hts _ kw_500) (fun _ h9 => h9) rfl dX5_write_22 ?_
      refine lv_imul hx hb dX5_write_25 ?_
      refine lv_iload_n hx hb dX5_write_26 rfl (lv_at hl 1 rfl) ?_
      refine lv_iadd hx hb dX5_write_27 ?_
      refine lv_iload_n hx hb dX5_write_28 rfl (lv_at hl 2 rfl) ?_
      refine va_iast hx hb hK hP hD hS 1 0 rfl rfl (hw) dX5_write_29 (fun H locs hP hD hS => ?_)
      have hP : va_P D vwCl (wK kO km kw kb kr kd kt cA kth kmn kpw_8 klf_8 kmk ksc krc kno kpp kpc (upd kme (Int32.toNatClampNeg (((256 : Int32) * ksc) + p1)) p2) kwe kbo kre kdr ktb) H := hP
      have hD : va_D A (wK kO km kw kb kr kd kt cA kth kmn kpw_8 klf_8 kmk ksc krc kno kpp kpc (upd kme (Int32.toNatClampNeg (((256 : Int32) * ksc) + p1)) p2) kwe kbo kre kdr ktb) := hD
      have hE : spX5_write kpw klf ksc kme p1 p2 = (kpw_8, klf_8, (upd kme (Int32.toNatClampNeg (((256 : Int32) * ksc) + p1)) p2)) := by unfold spX5_write; rw [if_neg c_4]; rw [hq_8]; dsimp only; rw [if_neg c_11]
      exact W.vret hx hb hr (fun t ht hW => ⟨⟨(), rfl, trivial, by rw [hE, ht]; exact hP, va_K.moved hW.alike hK, by rw [hE]; exact hD⟩, hS.F ht⟩) hS.2.2 dX5_write_30
theorem k_writep {kpw klf ksc p1 p2 a b : Int32} {kme c : Nat → Int32} (h : spX5_write kpw klf ksc kme p1 p2 = (a, b, c)) (hp : kpw = 0 ∨ kpw = 1) : a = 0 ∨ a = 1 := by
  unfold spX5_write at h; revert h; split
  · intro h; cases h; exact hp
  · rcases hq : spX5_isDone kpw klf with ⟨x, y, z⟩
    dsimp only
    split
    · intro h; cases h; exact k_donep hq hp
    · intro h; cases h; exact k_donep hq hp
def lpX5_erase_25 : Nat → Int32 → Int32 → Int32 → (Nat → Int32) → (Nat → Int32) → Int32 → Int32 → Int32 → (Int32 × Int32 × (Nat → Int32) × (Nat → Int32))
  | 0, kpw1, klf1, _, kme1, kwe1, _, _, _ => (kpw1, klf1, kme1, kwe1)
  | n + 1, kpw1, klf1, kmk, kme1, kwe1, p1, x2, x3 => (if (256 : Int32) ≤ x3 then (kpw1, klf1, kme1, kwe1) else (if x2 = 0 then (if ((kmk >>> ((x3 - x3 / (32 : Int32) * (32 : Int32)) &&& 31)) &&& (1 : Int32)) = (1 : Int32) then (lpX5_erase_25 n kpw1 klf1 kmk (upd kme1 (Int32.toNatClampNeg (((256 : Int32) * p1) + x3)) (kme1 (Int32.toNatClampNeg (((256 : Int32) * p1) + x3)))) kwe1 p1 x2 (x3 + (1 : Int32))) else (lpX5_erase_25 n kpw1 klf1 kmk (upd kme1 (Int32.toNatClampNeg (((256 : Int32) * p1) + x3)) (-1 : Int32)) kwe1 p1 x2 (x3 + (1 : Int32)))) else (lpX5_erase_25 n kpw1 klf1 kmk (upd kme1 (Int32.toNatClampNeg (((256 : Int32) * p1) + x3)) (-1 : Int32)) kwe1 p1 x2 (x3 + (1 : Int32)))))
theorem lpX5_erase_25_e (n : Nat) (kpw1 : Int32) (klf1 : Int32) (kmk : Int32) (kme1 : Nat → Int32) (kwe1 : Nat → Int32) (p1 : Int32) (x2 : Int32) (x3 : Int32) : lpX5_erase_25 (n + 1) kpw1 klf1 kmk kme1 kwe1 p1 x2 x3 = (if (256 : Int32) ≤ x3 then (kpw1, klf1, kme1, kwe1) else (if x2 = 0 then (if ((kmk >>> ((x3 - x3 / (32 : Int32) * (32 : Int32)) &&& 31)) &&& (1 : Int32)) = (1 : Int32) then (lpX5_erase_25 n kpw1 klf1 kmk (upd kme1 (Int32.toNatClampNeg (((256 : Int32) * p1) + x3)) (kme1 (Int32.toNatClampNeg (((256 : Int32) * p1) + x3)))) kwe1 p1 x2 (x3 + (1 : Int32))) else (lpX5_erase_25 n kpw1 klf1 kmk (upd kme1 (Int32.toNatClampNeg (((256 : Int32) * p1) + x3)) (-1 : Int32)) kwe1 p1 x2 (x3 + (1 : Int32)))) else (lpX5_erase_25 n kpw1 klf1 kmk (upd kme1 (Int32.toNatClampNeg (((256 : Int32) * p1) + x3)) (-1 : Int32)) kwe1 p1 x2 (x3 + (1 : Int32))))) := rfl
def spX5_erase (kpw : Int32) (klf : Int32) (kmk : Int32) (kme : Nat → Int32) (kwe : Nat → Int32) (p1 : Int32) : Int32 × Int32 × (Nat → Int32) × (Nat → Int32) := (if kpw = 0 then (kpw, klf, kme, kwe) else (match spX5_isDone kpw klf with | (r_19, kpw_19, klf_19) => (lpX5_erase_25 257 kpw_19 klf_19 kmk kme (upd kwe (Int32.toNatClampNeg p1) ((kwe (Int32.toNatClampNeg p1)) + (1 : Int32))) p1 r_19 (0 : Int32))))
set_option maxHeartbeats 4000000 in
set_option maxRecDepth 100000 in
theorem c_X5_erase (l : Launch) (D : va_G) (kO km kw kb kr kd kt : Nat) (cA : ClassId) (kth : Int32) (kmn : Int32) (kpw : Int32) (klf : Int32) (kmk : Int32) (ksc : Int32) (krc : Int32) (kno : Int32) (kpp : Int32) (kpc : Int64) (kme : Nat → Int32) (kwe : Nat → Int32) (kbo : Nat → Int32) (kre : Nat → Int32) (kdr : Nat → Int32) (ktb : Nat → Int32) (p1 : Int32) (hs : ∃ k : Nat, p1 = nI k ∧ k < 16) : kWv l yX5_erase cX5_erase 5 none { frames := 1, cells := 0, slots := 0, locals := 20 } D [(cA, .int)] [.ref kO, .int p1] (wK kO km kw kb kr kd kt cA kth kmn kpw klf kmk ksc krc kno kpp kpc kme kwe kbo kre kdr ktb) (wK kO km kw kb kr kd kt cA kth kmn (spX5_erase kpw klf kmk kme kwe p1).1 (spX5_erase kpw klf kmk kme kwe p1).2.1 kmk ksc krc kno kpp kpc (spX5_erase kpw klf kmk kme kwe p1).2.2.1 (spX5_erase kpw klf kmk kme kwe p1).2.2.2 kbo kre kdr ktb) := by
  intro sz
  refine Met.ofW (cc := cX5_erase) (maxL := 5) (ret := none) (by decide) rfl ?_
  intro p e s m args below meth c s₁ B hml hv
  obtain ⟨rfl, hsz, hP, hK, hD0⟩ := hv
  have hx := B.exec
  have hb := B.bytes
  have hr := B.returns
  have hts : ∀ w ∈ kG, w.before _ s = true := fun w h => atoms_spec (ws := kT yX5_erase cX5_erase 5 none) B.pre w (List.mem_cons_of_mem _ h)
  have hown : s.vm.findClass RX5 = some m.cls := findClass_of_methodNamed B.named
  have hlocks := B.notSynchronized
  subst hsz
  have hD := hD0.self (sz := s.heap.size)
  generalize hAe : va_A (wK kO km kw kb kr kd kt cA kth kmn kpw klf kmk ksc krc kno kpp kpc kme kwe kbo kre kdr ktb) s.heap.size = A at hD ⊢
  have hA : ∀ q : Nat, s.heap.size ≤ q → A q := fun q h => by rw [← hAe]; exact Or.inr h
  have hS : va_S A s.heap s.heap [] := va_S.rf
  have hl := lv_entry ([.ref kO, .int p1]) (n := 5) (Nat.le_of_ble_eq_true rfl)
  rw [lg_entry_eq]
  generalize (lg_sl ([.ref kO, .int p1]) ++ List.replicate (5 - (lg_sl ([.ref kO, .int p1])).length) Slot.unset).toArray = ls at hl ⊢
  have hl : lv_has ls 5 [(0, .ref kO), (1, .int p1)] := hl
  obtain ⟨kq, hkq, hkq1⟩ := hs
  have L25 : ∀ (n : Nat) (kpw1 : Int32) (klf1 : Int32) (kme1 : Nat → Int32) (kwe1 : Nat → Int32) (x2 : Int32) (x3 : Int32) (H : Heap) (locs : List Loc) (ls : Array Slot), (∃ k : Nat, x3 = nI k ∧ k ≤ 256 ∧ 256 < k + n) → spX5_erase kpw klf kmk kme kwe p1 = lpX5_erase_25 n kpw1 klf1 kmk kme1 kwe1 p1 x2 x3 → va_P D vwCl (wK kO km kw kb kr kd kt cA kth kmn kpw1 klf1 kmk ksc krc kno kpp kpc kme1 kwe1 kbo kre kdr ktb) H → va_D A (wK kO km kw kb kr kd kt cA kth kmn kpw1 klf1 kmk ksc krc kno kpp kpc kme1 kwe1 kbo kre kdr ktb) → va_S A s.heap H locs → lv_has ls 5 [(0, .ref kO), (1, .int p1), (2, .int x2), (3, .int x3)] → W p l e (headSpec (kT yX5_erase cX5_erase 5 none) ({ frames := 1, cells := 0, slots := 0, locals := 20 })).room s m ([.ref kO, .int p1] : List Value).toArray below meth c H locs 0 0 (MQ below (va_Qv (fun (_ : Unit) => True) (kPost D A (wK kO km kw kb kr kd kt cA kth kmn (spX5_erase kpw klf kmk kme kwe p1).1 (spX5_erase kpw klf kmk kme kwe p1).2.1 kmk ksc krc kno kpp kpc (spX5_erase kpw klf kmk kme kwe p1).2.2.1 (spX5_erase kpw klf kmk kme kwe p1).2.2.2 kbo kre kdr ktb) [(cA, .int)]) A) ([.ref kO, .int p1] : List Value).toArray s 0 0 A) (F0 m 25 ls []) := by
    intro n
    induction n with
    | zero =>
      intro kpw1 klf1 kme1 kwe1 x2 x3 H locs ls hI
      exact absurd hI (by rintro ⟨k, -, h1, h2⟩; omega)
    | succ n ih =>
      intro kpw1 klf1 kme1 kwe1 x2 x3 H locs ls hI hE hP hD hS hl
      obtain ⟨k, hk, hk1, hk2⟩ := hI
      refine lv_iload_n hx hb dX5_erase_25 rfl (lv_at hl 3 rfl) ?_
      refine lv_sipush (v := 256) hx hb dX5_erase_26 (by decide) ?_
      refine lv_icmp_ge (tgt := 97) hx hb dX5_erase_29 (by decide) (fun c_29 => ?_) (fun c_29 => ?_)
      · have hE : spX5_erase kpw klf kmk kme kwe p1 = (kpw1, klf1, kme1, kwe1) := hE.trans (by rw [lpX5_erase_25_e]; rw [if_pos c_29])
        exact W.vret hx hb hr (fun t ht hW => ⟨⟨(), rfl, trivial, by rw [hE, ht]; exact hP, va_K.moved hW.alike hK, by rw [hE]; exact hD⟩, hS.F ht⟩) hS.2.2 dX5_erase_97
      · refine lv_iload_n hx hb dX5_erase_32 rfl (lv_at hl 2 rfl) ?_
        refine lv_if_ne (tgt := 55) hx hb dX5_erase_33 (by decide) (fun c_33 => ?_) (fun c_33 => ?_)
        · refine lv_iconst (v := 0) hx hb dX5_erase_55 (by decide) ?_
          refine lv_istore (lv' := [(4, .int (0 : Int32)), (0, .ref kO), (1, .int p1), (2, .int x2), (3, .int x3)]) hx hb dX5_erase_56 hl (by decide) rfl (fun ls hl => ?_)
          refine lv_aload_n hx hb dX5_erase_58 rfl (lv_at hl 1 rfl) ?_
          refine va_get (D := D) (ci := 5) (v := .ref km) (C := RX5) (T := TX5) (N := 16) hx hb hts k_inX5 hown hK hP 0 rfl rfl 2 (by decide) (hts _ kw_491) (fun _ h9 => h9) rfl dX5_erase_59 ?_
          refine lv_sipush (v := 256) hx hb dX5_erase_62 (by decide) ?_
          refine lv_iload_n hx hb dX5_erase_65 rfl (lv_at hl 2 rfl) ?_
          refine lv_imul hx hb dX5_erase_66 ?_
          refine lv_iload_n hx hb dX5_erase_67 rfl (lv_at hl 4 rfl) ?_
          refine lv_iadd hx hb dX5_erase_68 ?_
          refine lv_iload hx hb dX5_erase_69 (lv_at hl 0 rfl) ?_
          refine lv_if_eq (tgt := 89) hx hb dX5_erase_71 (by decide) (fun c_71 => ?_) (fun c_71 => ?_)
          · refine lv_iconst (v := -1) hx hb dX5_erase_89 (by decide) ?_
            refine va_iast hx hb hK hP hD hS 1 0 rfl rfl (by have h3 := k_lt (N := 256) rfl hk hk1 (by decide) c_29; simp only [hkq, hk, show (256 : Int32) = nI 256 from rfl, pk_mul, nI_add]; exact vp_in_nI (by omega) (by decide)) dX5_erase_90 (fun H locs hP hD hS => ?_)
            have hP : va_P D vwCl (wK kO km kw kb kr kd kt cA kth kmn kpw1 klf1 kmk ksc krc kno kpp kpc (upd kme1 (Int32.toNatClampNeg (((256 : Int32) * p1) + x3)) (-1 : Int32)) kwe1 kbo kre kdr ktb) H := hP
            have hD : va_D A (wK kO km kw kb kr kd kt cA kth kmn kpw1 klf1 kmk ksc krc kno kpp kpc (upd kme1 (Int32.toNatClampNeg (((256 : Int32) * p1) + x3)) (-1 : Int32)) kwe1 kbo kre kdr ktb) := hD
            refine lv_iinc (v := (x3 + (1 : Int32))) (lv' := [(3, .int (x3 + (1 : Int32))), (4, .int (0 : Int32)), (0, .ref kO), (1, .int p1), (2, .int x2)]) hx hb dX5_erase_91 hl (k := 4) rfl rfl (by decide) rfl (fun ls hl => ?_)
            refine lv_goto (tgt := 25) hx hb dX5_erase_94 (by decide) ?_
            exact ih  kpw1 klf1 (upd kme1 (Int32.toNatClampNeg (((256 : Int32) * p1) + x3)) (-1 : Int32)) kwe1 x2 (x3 + (1 : Int32)) _ _ ls (k_step (N := 256) rfl (by decide) hk hk1 hk2 c_29) (hE.trans (by rw [lpX5_erase_25_e]; rw [if_neg c_29, if_neg c_33])) hP hD hS (lv_sub hl [2, 3, 4, 0] rfl)
          · exact absurd c_71 (by decide)
        · refine lv_aload_n hx hb dX5_erase_36 rfl (lv_at hl 0 rfl) ?_
          refine va_get (D := D) (ci := 5) (v := .int kmk) (C := RX5) (T := TX5) (N := 16) hx hb hts k_inX5 hown hK hP 0 rfl rfl 10 (by decide) (hts _ kw_499) (fun _ h9 => h9) rfl dX5_erase_37 ?_
          refine lv_iload_n hx hb dX5_erase_40 rfl (lv_at hl 3 rfl) ?_
          refine lv_bipush (v := 32) hx hb dX5_erase_41 (by decide) ?_
          refine lv_irem hx hb dX5_erase_43 (by decide) ?_
          refine lv_ishr hx hb dX5_erase_44 ?_
          refine lv_iconst (v := 1) hx hb dX5_erase_45 (by decide) ?_
          refine lv_iand hx hb dX5_erase_46 ?_
          refine lv_iconst (v := 1) hx hb dX5_erase_47 (by decide) ?_
          refine lv_icmp_ne (tgt := 55) hx hb dX5_erase_48 (by decide) (fun c_48 => ?_) (fun c_48 => ?_)
          · refine lv_iconst (v := 0) hx hb dX5_erase_55 (by decide) ?_
            refine lv_istore (lv' := [(4, .int (0 : Int32)), (0, .ref kO), (1, .int p1), (2, .int x2), (3, .int x3)]) hx hb dX5_erase_56 hl (by decide) rfl (fun ls hl => ?_)
            refine lv_aload_n hx hb dX5_erase_58 rfl (lv_at hl 1 rfl) ?_
            refine va_get (D := D) (ci := 5) (v := .ref km) (C := RX5) (T := TX5) (N := 16) hx hb hts k_inX5 hown hK hP 0 rfl rfl 2 (by decide) (hts _ kw_491) (fun _ h9 => h9) rfl dX5_erase_59 ?_
            refine lv_sipush (v := 256) hx hb dX5_erase_62 (by decide) ?_
            refine lv_iload_n hx hb dX5_erase_65 rfl (lv_at hl 2 rfl) ?_
            refine lv_imul hx hb dX5_erase_66 ?_
            refine lv_iload_n hx hb dX5_erase_67 rfl (lv_at hl 4 rfl) ?_
            refine lv_iadd hx hb dX5_erase_68 ?_
            refine lv_iload hx hb dX5_erase_69 (lv_at hl 0 rfl) ?_
            refine lv_if_eq (tgt := 89) hx hb dX5_erase_71 (by decide) (fun c_71 => ?_) (fun c_71 => ?_)
            · refine lv_iconst (v := -1) hx hb dX5_erase_89 (by decide) ?_
              refine va_iast hx hb hK hP hD hS 1 0 rfl rfl (by have h3 := k_lt (N := 256) rfl hk hk1 (by decide) c_29; simp only [hkq, hk, show (256 : Int32) = nI 256 from rfl, pk_mul, nI_add]; exact vp_in_nI (by omega) (by decide)) dX5_erase_90 (fun H locs hP hD hS => ?_)
              have hP : va_P D vwCl (wK kO km kw kb kr kd kt cA kth kmn kpw1 klf1 kmk ksc krc kno kpp kpc (upd kme1 (Int32.toNatClampNeg (((256 : Int32) * p1) + x3)) (-1 : Int32)) kwe1 kbo kre kdr ktb) H := hP
              have hD : va_D A (wK kO km kw kb kr kd kt cA kth kmn kpw1 klf1 kmk ksc krc kno kpp kpc (upd kme1 (Int32.toNatClampNeg (((256 : Int32) * p1) + x3)) (-1 : Int32)) kwe1 kbo kre kdr ktb) := hD
              refine lv_iinc (v := (x3 + (1 : Int32))) (lv' := [(3, .int (x3 + (1 : Int32))), (4, .int (0 : Int32)), (0, .ref kO), (1, .int p1), (2, .int x2)]) hx hb dX5_erase_91 hl (k := 4) rfl rfl (by decide) rfl (fun ls hl => ?_)
              refine lv_goto (tgt := 25) hx hb dX5_erase_94 (by decide) ?_
              exact ih  kpw1 klf1 (upd kme1 (Int32.toNatClampNeg (((256 : Int32) * p1) + x3)) (-1 : Int32)) kwe1 x2 (x3 + (1 : Int32)) _ _ ls (k_step (N := 256) rfl (by decide) hk hk1 hk2 c_29) (hE.trans (by rw [lpX5_erase_25_e]; rw [if_neg c_29, if_pos c_33, if_neg c_48])) hP hD hS (lv_sub hl [2, 3, 4, 0] rfl)
            · exact absurd c_71 (by decide)
          · refine lv_iconst (v := 1) hx hb dX5_erase_51 (by decide) ?_
            refine lv_goto (tgt := 56) hx hb dX5_erase_52 (by decide) ?_
            refine lv_istore (lv' := [(4, .int (1 : Int32)), (0, .ref kO), (1, .int p1), (2, .int x2), (3, .int x3)]) hx hb dX5_erase_56 hl (by decide) rfl (fun ls hl => ?_)
            refine lv_aload_n hx hb dX5_erase_58 rfl (lv_at hl 1 rfl) ?_
            refine va_get (D := D) (ci := 5) (v := .ref km) (C := RX5) (T := TX5) (N := 16) hx hb hts k_inX5 hown hK hP 0 rfl rfl 2 (by decide) (hts _ kw_491) (fun _ h9 => h9) rfl dX5_erase_59 ?_
            refine lv_sipush (v := 256) hx hb dX5_erase_62 (by decide) ?_
            refine lv_iload_n hx hb dX5_erase_65 rfl (lv_at hl 2 rfl) ?_
            refine lv_imul hx hb dX5_erase_66 ?_
            refine lv_iload_n hx hb dX5_erase_67 rfl (lv_at hl 4 rfl) ?_
            refine lv_iadd hx hb dX5_erase_68 ?_
            refine lv_iload hx hb dX5_erase_69 (lv_at hl 0 rfl) ?_
            refine lv_if_eq (tgt := 89) hx hb dX5_erase_71 (by decide) (fun c_71 => ?_) (fun c_71 => ?_)
            · exact absurd c_71 (by decide)
            · refine lv_aload_n hx hb dX5_erase_74 rfl (lv_at hl 1 rfl) ?_
              refine va_get (D := D) (ci := 5) (v := .ref km) (C := RX5) (T := TX5) (N := 16) hx hb hts k_inX5 hown hK hP 0 rfl rfl 2 (by decide) (hts _ kw_491) (fun _ h9 => h9) rfl dX5_erase_75 ?_
              refine lv_sipush (v := 256) hx hb dX5_erase_78 (by decide) ?_
              refine lv_iload_n hx hb dX5_erase_81 rfl (lv_at hl 2 rfl) ?_
              refine lv_imul hx hb dX5_erase_82 ?_
              refine lv_iload_n hx hb dX5_erase_83 rfl (lv_at hl 4 rfl) ?_
              refine lv_iadd hx hb dX5_erase_84 ?_
              refine va_iald hx hb hK hP 1 0 rfl rfl (by have h3 := k_lt (N := 256) rfl hk hk1 (by decide) c_29; simp only [hkq, hk, show (256 : Int32) = nI 256 from rfl, pk_mul, nI_add]; exact vp_in_nI (by omega) (by decide)) dX5_erase_85 ?_
              refine lv_goto (tgt := 90) hx hb dX5_erase_86 (by decide) ?_
              refine va_iast hx hb hK hP hD hS 1 0 rfl rfl (by have h3 := k_lt (N := 256) rfl hk hk1 (by decide) c_29; simp only [hkq, hk, show (256 : Int32) = nI 256 from rfl, pk_mul, nI_add]; exact vp_in_nI (by omega) (by decide)) dX5_erase_90 (fun H locs hP hD hS => ?_)
              have hP : va_P D vwCl (wK kO km kw kb kr kd kt cA kth kmn kpw1 klf1 kmk ksc krc kno kpp kpc (upd kme1 (Int32.toNatClampNeg (((256 : Int32) * p1) + x3)) (kme1 (Int32.toNatClampNeg (((256 : Int32) * p1) + x3)))) kwe1 kbo kre kdr ktb) H := hP
              have hD : va_D A (wK kO km kw kb kr kd kt cA kth kmn kpw1 klf1 kmk ksc krc kno kpp kpc (upd kme1 (Int32.toNatClampNeg (((256 : Int32) * p1) + x3)) (kme1 (Int32.toNatClampNeg (((256 : Int32) * p1) + x3)))) kwe1 kbo kre kdr ktb) := hD
              refine lv_iinc (v := (x3 + (1 : Int32))) (lv' := [(3, .int (x3 + (1 : Int32))), (4, .int (1 : Int32)), (0, .ref kO), (1, .int p1), (2, .int x2)]) hx hb dX5_erase_91 hl (k := 4) rfl rfl (by decide) rfl (fun ls hl => ?_)
              refine lv_goto (tgt := 25) hx hb dX5_erase_94 (by decide) ?_
              exact ih  kpw1 klf1 (upd kme1 (Int32.toNatClampNeg (((256 : Int32) * p1) + x3)) (kme1 (Int32.toNatClampNeg (((256 : Int32) * p1) + x3)))) kwe1 x2 (x3 + (1 : Int32)) _ _ ls (k_step (N := 256) rfl (by decide) hk hk1 hk2 c_29) (hE.trans (by rw [lpX5_erase_25_e]; rw [if_neg c_29, if_pos c_33, if_pos c_48])) hP hD hS (lv_sub hl [2, 3, 4, 0] rfl)
  refine lv_aload_n hx hb dX5_erase_0 rfl (lv_at hl 0 rfl) ?_
  refine va_get (D := D) (ci := 5) (v := .int kpw) (C := RX5) (T := TX5) (N := 16) hx hb hts k_inX5 hown hK hP 0 rfl rfl 8 (by decide) (hts _ kw_497) (fun _ h9 => h9) rfl dX5_erase_1 ?_
  refine lv_if_ne (tgt := 8) hx hb dX5_erase_4 (by decide) (fun c_4 => ?_) (fun c_4 => ?_)
  · refine lv_aload_n hx hb dX5_erase_8 rfl (lv_at hl 0 rfl) ?_
    refine va_get (D := D) (ci := 5) (v := .ref kw) (C := RX5) (T := TX5) (N := 16) hx hb hts k_inX5 hown hK hP 0 rfl rfl 3 (by decide) (hts _ kw_492) (fun _ h9 => h9) rfl dX5_erase_9 ?_
    refine lv_iload_n hx hb dX5_erase_12 rfl (lv_at hl 1 rfl) ?_
    refine lv_dup2_11 hx hb dX5_erase_13 rfl rfl ?_
    refine va_iald hx hb hK hP 2 0 rfl rfl (by rw [hkq]; exact vp_in_nI hkq1 (by decide)) dX5_erase_14 ?_
    refine lv_iconst (v := 1) hx hb dX5_erase_15 (by decide) ?_
    refine lv_iadd hx hb dX5_erase_16 ?_
    refine va_iast hx hb hK hP hD hS 2 0 rfl rfl (by rw [hkq]; exact vp_in_nI hkq1 (by decide)) dX5_erase_17 (fun H locs hP hD hS => ?_)
    have hP : va_P D vwCl (wK kO km kw kb kr kd kt cA kth kmn kpw klf kmk ksc krc kno kpp kpc kme (upd kwe (Int32.toNatClampNeg p1) ((kwe (Int32.toNatClampNeg p1)) + (1 : Int32))) kbo kre kdr ktb) H := hP
    have hD : va_D A (wK kO km kw kb kr kd kt cA kth kmn kpw klf kmk ksc krc kno kpp kpc kme (upd kwe (Int32.toNatClampNeg p1) ((kwe (Int32.toNatClampNeg p1)) + (1 : Int32))) kbo kre kdr ktb) := hD
    refine lv_aload_n hx hb dX5_erase_18 rfl (lv_at hl 0 rfl) ?_
    rcases hq_19 : spX5_isDone kpw klf with ⟨r_19, kpw_19, klf_19⟩
    have hM_19 : kWi l yX5_isDone cX5_isDone 1 (some .boolean) { frames := 0, cells := 0, slots := 0, locals := 0 } D [(cA, .int)] [.ref kO] (wK kO km kw kb kr kd kt cA kth kmn kpw klf kmk ksc krc kno kpp kpc kme (upd kwe (Int32.toNatClampNeg p1) ((kwe (Int32.toNatClampNeg p1)) + (1 : Int32))) kbo kre kdr ktb) r_19 (wK kO km kw kb kr kd kt cA kth kmn kpw_19 klf_19 kmk ksc krc kno kpp kpc kme (upd kwe (Int32.toNatClampNeg p1) ((kwe (Int32.toNatClampNeg p1)) + (1 : Int32))) kbo kre kdr ktb) := by
      have h := c_X5_isDone l D kO km kw kb kr kd kt cA kth kmn kpw klf kmk ksc krc kno kpp kpc kme (upd kwe (Int32.toNatClampNeg p1) ((kwe (Int32.toNatClampNeg p1)) + (1 : Int32))) kbo kre kdr ktb 
      rw [hq_19] at h
      exact h
    refine k_wrVi (As := []) (rest := []) (ci := 5) (q0 := 0) (ws' := (wK kO km kw kb kr kd kt cA kth kmn kpw_19 klf_19 kmk ksc krc kno kpp kpc kme (upd kwe (Int32.toNatClampNeg p1) ((kwe (Int32.toNatClampNeg p1)) + (1 : Int32))) kbo kre kdr ktb)) (wr := []) ⟨hx, hb, hml, hown, hts⟩ k_self hM_19 kv_X5_56 hP hD hS hA hK rfl rfl [0, 1, 2, 3, 4, 5, 6] [] [0, 1, 2, 3, 4, 5, 6] rfl (by decide) rfl (by decide) (by decide) rfl (by decide) rfl rfl ⟨Nat.le_of_ble_eq_true rfl, Nat.le_of_ble_eq_true rfl⟩ rfl hl.1 rfl (Nat.le_of_ble_eq_true rfl) dX5_erase_19 ⟨Nat.zero_le _, Nat.zero_le _⟩ (fun H locs hP hD hS => ?_)
    refine lv_istore_n (lv' := [(2, .int r_19), (0, .ref kO), (1, .int p1)]) hx hb dX5_erase_22 rfl hl (by decide) rfl (fun ls hl => ?_)
    refine lv_iconst (v := 0) hx hb dX5_erase_23 (by decide) ?_
    refine lv_istore_n (lv' := [(3, .int (0 : Int32)), (2, .int r_19), (0, .ref kO), (1, .int p1)]) hx hb dX5_erase_24 rfl hl (by decide) rfl (fun ls hl => ?_)
    exact L25 257 kpw_19 klf_19 kme (upd kwe (Int32.toNatClampNeg p1) ((kwe (Int32.toNatClampNeg p1)) + (1 : Int32))) r_19 (0 : Int32) _ _ ls (⟨0, rfl, by decide, by decide⟩) (by unfold spX5_erase; rw [if_neg c_4]; rw [hq_19]; try dsimp only) hP hD hS (lv_sub hl [2, 3, 1, 0] rfl)
  · have hE : spX5_erase kpw klf kmk kme kwe p1 = (kpw, klf, kme, kwe) := by unfold spX5_erase; rw [if_pos c_4]
    exact W.vret hx hb hr (fun t ht hW => ⟨⟨(), rfl, trivial, by rw [hE, ht]; exact hP, va_K.moved hW.alike hK, by rw [hE]; exact hD⟩, hS.F ht⟩) hS.2.2 dX5_erase_7
def spX5_marked (p1 : Int32) : Int32 := (if (p1 ^^^ (1515870810 : Int32)) = (-1 : Int32) then (0 : Int32) else (p1 ^^^ (1515870810 : Int32)))
set_option maxHeartbeats 4000000 in
set_option maxRecDepth 100000 in
theorem c_X5_marked (l : Launch) (p1 : Int32) : kRi l yX5_marked cX5_marked 2 (some .int) { frames := 0, cells := 0, slots := 0, locals := 0 } [.int p1] (fun _ => True) (spX5_marked p1) := by
  refine Met.ofW (cc := cX5_marked) (maxL := 2) (ret := (some .int)) (by decide) rfl ?_
  intro p e s m args below meth c s₁ B hml hv
  obtain ⟨rfl, -⟩ := hv
  have hx := B.exec
  have hb := B.bytes
  have hr := B.returns
  have hts : ∀ w ∈ kG, w.before _ s = true := fun w h => atoms_spec (ws := kT yX5_marked cX5_marked 2 (some .int)) B.pre w (List.mem_cons_of_mem _ h)
  have hown : s.vm.findClass RX5 = some m.cls := findClass_of_methodNamed B.named
  have hlocks := B.notSynchronized
  have hl := lv_entry ([.int p1]) (n := 2) (Nat.le_of_ble_eq_true rfl)
  rw [lg_entry_eq]
  generalize (lg_sl ([.int p1]) ++ List.replicate (2 - (lg_sl ([.int p1])).length) Slot.unset).toArray = ls at hl ⊢
  have hl : lv_has ls 2 [(0, .int p1)] := hl
  refine lv_iload_n hx hb dX5_marked_0 rfl (lv_at hl 0 rfl) ?_
  refine lv_ldc (v := 1515870810) hx hb hown (hts _ kw_488) dX5_marked_1 ?_
  refine lv_ixor hx hb dX5_marked_3 ?_
  refine lv_istore_n (lv' := [(1, .int (p1 ^^^ (1515870810 : Int32))), (0, .int p1)]) hx hb dX5_marked_4 rfl hl (by decide) rfl (fun ls hl => ?_)
  refine lv_iload_n hx hb dX5_marked_5 rfl (lv_at hl 0 rfl) ?_
  refine lv_iconst (v := -1) hx hb dX5_marked_6 (by decide) ?_
  refine lv_icmp_ne (tgt := 14) hx hb dX5_marked_7 (by decide) (fun c_7 => ?_) (fun c_7 => ?_)
  · refine lv_iload_n hx hb dX5_marked_14 rfl (lv_at hl 0 rfl) ?_
    exact W.iret (v := (p1 ^^^ (1515870810 : Int32))) hx hb hr (fun t ht hW => ⟨(p1 ^^^ (1515870810 : Int32)), rfl, (show _ = _ from (by unfold spX5_marked; rw [if_neg c_7] : spX5_marked p1 = (p1 ^^^ (1515870810 : Int32))).symm), ht⟩) (fun q h => by cases h) dX5_marked_15
  · refine lv_iconst (v := 0) hx hb dX5_marked_10 (by decide) ?_
    refine lv_goto (tgt := 15) hx hb dX5_marked_11 (by decide) ?_
    exact W.iret (v := (0 : Int32)) hx hb hr (fun t ht hW => ⟨(0 : Int32), rfl, (show _ = _ from (by unfold spX5_marked; rw [if_pos c_7] : spX5_marked p1 = (0 : Int32)).symm), ht⟩) (fun q h => by cases h) dX5_marked_15
def lpX5_markOf_6 : Nat → (Nat → Int32) → Int32 → Int32 → Int32 → Int32 → Int32
  | 0, _, _, _, _, _ => 0
  | n + 1, kme, p1, p2, x3, x4 => (if (p1 + p2) ≤ x4 then (spX5_marked x3) else (lpX5_markOf_6 n kme p1 p2 (((31 : Int32) * x3) + (kme (Int32.toNatClampNeg x4))) (x4 + (1 : Int32))))
theorem lpX5_markOf_6_e (n : Nat) (kme : Nat → Int32) (p1 : Int32) (p2 : Int32) (x3 : Int32) (x4 : Int32) : lpX5_markOf_6 (n + 1) kme p1 p2 x3 x4 = (if (p1 + p2) ≤ x4 then (spX5_marked x3) else (lpX5_markOf_6 n kme p1 p2 (((31 : Int32) * x3) + (kme (Int32.toNatClampNeg x4))) (x4 + (1 : Int32)))) := rfl
def spX5_markOf (kme : Nat → Int32) (p1 : Int32) (p2 : Int32) : Int32 := (lpX5_markOf_6 4097 kme p1 p2 (17 : Int32) p1)
set_option maxHeartbeats 4000000 in
set_option maxRecDepth 100000 in
theorem c_X5_markOf (l : Launch) (D : va_G) (kO km kw kb kr kd kt : Nat) (cA : ClassId) (kth : Int32) (kmn : Int32) (kpw : Int32) (klf : Int32) (kmk : Int32) (ksc : Int32) (krc : Int32) (kno : Int32) (kpp : Int32) (kpc : Int64) (kme : Nat → Int32) (kwe : Nat → Int32) (kbo : Nat → Int32) (kre : Nat → Int32) (kdr : Nat → Int32) (ktb : Nat → Int32) (p1 : Int32) (p2 : Int32) (hm : ∃ f q : Nat, p1 = nI f ∧ p2 = nI q ∧ f + q ≤ 4096) : kRi l yX5_markOf cX5_markOf 5 (some .int) { frames := 1, cells := 0, slots := 0, locals := 21 } [.ref kO, .int p1, .int p2] (kB D (wK kO km kw kb kr kd kt cA kth kmn kpw klf kmk ksc krc kno kpp kpc kme kwe kbo kre kdr ktb) [(cA, .int)]) (spX5_markOf kme p1 p2) := by
  refine Met.ofW (cc := cX5_markOf) (maxL := 5) (ret := (some .int)) (by decide) rfl ?_
  intro p e s m args below meth c s₁ B hml hv
  obtain ⟨rfl, hP, hK⟩ := hv
  have hx := B.exec
  have hb := B.bytes
  have hr := B.returns
  have hts : ∀ w ∈ kG, w.before _ s = true := fun w h => atoms_spec (ws := kT yX5_markOf cX5_markOf 5 (some .int)) B.pre w (List.mem_cons_of_mem _ h)
  have hown : s.vm.findClass RX5 = some m.cls := findClass_of_methodNamed B.named
  have hlocks := B.notSynchronized
  have hl := lv_entry ([.ref kO, .int p1, .int p2]) (n := 5) (Nat.le_of_ble_eq_true rfl)
  rw [lg_entry_eq]
  generalize (lg_sl ([.ref kO, .int p1, .int p2]) ++ List.replicate (5 - (lg_sl ([.ref kO, .int p1, .int p2])).length) Slot.unset).toArray = ls at hl ⊢
  have hl : lv_has ls 5 [(0, .ref kO), (1, .int p1), (2, .int p2)] := hl
  obtain ⟨fm, qm, hfm, hqm, hfq⟩ := hm
  have L6 : ∀ (n : Nat)  (x3 : Int32) (x4 : Int32) (ls : Array Slot), (∃ k : Nat, x4 = nI k ∧ k ≤ fm + qm ∧ fm + qm < k + n) → spX5_markOf kme p1 p2 = lpX5_markOf_6 n kme p1 p2 x3 x4 → lv_has ls 5 [(0, .ref kO), (1, .int p1), (2, .int p2), (3, .int x3), (4, .int x4)] → W p l e (headSpec (kT yX5_markOf cX5_markOf 5 (some .int)) ({ frames := 1, cells := 0, slots := 0, locals := 21 })).room s m ([.ref kO, .int p1, .int p2] : List Value).toArray below meth c s.heap [] 0 0 (MQ below (vp_Si (fun r => r = spX5_markOf kme p1 p2)) ([.ref kO, .int p1, .int p2] : List Value).toArray s 0 0 (fun _ => False)) (F0 m 6 ls []) := by
    intro n
    induction n with
    | zero =>
      intro x3 x4 ls hI
      exact absurd hI (by rintro ⟨k, -, h1, h2⟩; omega)
    | succ n ih =>
      intro x3 x4 ls hI hE hl
      obtain ⟨k, hk, hk1, hk2⟩ := hI
      refine lv_iload hx hb dX5_markOf_6 (lv_at hl 4 rfl) ?_
      refine lv_iload_n hx hb dX5_markOf_8 rfl (lv_at hl 1 rfl) ?_
      refine lv_iload_n hx hb dX5_markOf_9 rfl (lv_at hl 2 rfl) ?_
      refine lv_iadd hx hb dX5_markOf_10 ?_
      refine lv_icmp_ge (tgt := 33) hx hb dX5_markOf_11 (by decide) (fun c_11 => ?_) (fun c_11 => ?_)
      · refine lv_iload_n hx hb dX5_markOf_33 rfl (lv_at hl 3 rfl) ?_
        refine k_rdSi (As := [.int x3]) (rest := []) ⟨hx, hb, hml, hown, hts⟩ k_self (c_X5_marked l x3) kv_X5_64 rfl rfl ⟨Nat.le_of_ble_eq_true rfl, Nat.le_of_ble_eq_true rfl⟩ rfl hl.1 rfl (Nat.le_of_ble_eq_true rfl) dX5_markOf_34 ⟨Nat.zero_le _, Nat.zero_le _⟩ ?_
        exact W.iret (v := (spX5_marked x3)) hx hb hr (fun t ht hW => ⟨(spX5_marked x3), rfl, (show _ = _ from (hE.trans (by rw [lpX5_markOf_6_e]; rw [if_pos c_11]) : spX5_markOf kme p1 p2 = (spX5_marked x3)).symm), ht⟩) (fun q h => by cases h) dX5_markOf_37
      · refine lv_bipush (v := 31) hx hb dX5_markOf_14 (by decide) ?_
        refine lv_iload_n hx hb dX5_markOf_16 rfl (lv_at hl 3 rfl) ?_
        refine lv_imul hx hb dX5_markOf_17 ?_
        refine lv_aload_n hx hb dX5_markOf_18 rfl (lv_at hl 0 rfl) ?_
        refine va_get (D := D) (ci := 5) (v := .ref km) (C := RX5) (T := TX5) (N := 16) hx hb hts k_inX5 hown hK hP 0 rfl rfl 2 (by decide) (hts _ kw_491) (fun _ h9 => h9) rfl dX5_markOf_19 ?_
        refine lv_iload hx hb dX5_markOf_22 (lv_at hl 4 rfl) ?_
        refine va_iald hx hb hK hP 1 0 rfl rfl (by rw [hk]; exact vp_in_nI (by have := k_lt (NI := (p1 + p2)) (N := fm + qm) (by rw [hfm, hqm, nI_add]) hk hk1 (by omega) c_11; omega) (by decide)) dX5_markOf_24 ?_
        refine lv_iadd hx hb dX5_markOf_25 ?_
        refine lv_istore_n (lv' := [(3, .int (((31 : Int32) * x3) + (kme (Int32.toNatClampNeg x4)))), (0, .ref kO), (1, .int p1), (2, .int p2), (4, .int x4)]) hx hb dX5_markOf_26 rfl hl (by decide) rfl (fun ls hl => ?_)
        refine lv_iinc (v := (x4 + (1 : Int32))) (lv' := [(4, .int (x4 + (1 : Int32))), (3, .int (((31 : Int32) * x3) + (kme (Int32.toNatClampNeg x4)))), (0, .ref kO), (1, .int p1), (2, .int p2)]) hx hb dX5_markOf_27 hl (k := 4) rfl rfl (by decide) rfl (fun ls hl => ?_)
        refine lv_goto (tgt := 6) hx hb dX5_markOf_30 (by decide) ?_
        exact ih   (((31 : Int32) * x3) + (kme (Int32.toNatClampNeg x4))) (x4 + (1 : Int32)) ls (k_step (NI := (p1 + p2)) (N := fm + qm) (by rw [hfm, hqm, nI_add]) (by omega) hk hk1 hk2 c_11) (hE.trans (by rw [lpX5_markOf_6_e]; rw [if_neg c_11])) (lv_sub hl [2, 3, 4, 1, 0] rfl)
  refine lv_bipush (v := 17) hx hb dX5_markOf_0 (by decide) ?_
  refine lv_istore_n (lv' := [(3, .int (17 : Int32)), (0, .ref kO), (1, .int p1), (2, .int p2)]) hx hb dX5_markOf_2 rfl hl (by decide) rfl (fun ls hl => ?_)
  refine lv_iload_n hx hb dX5_markOf_3 rfl (lv_at hl 2 rfl) ?_
  refine lv_istore (lv' := [(4, .int p1), (3, .int (17 : Int32)), (0, .ref kO), (1, .int p1), (2, .int p2)]) hx hb dX5_markOf_4 hl (by decide) rfl (fun ls hl => ?_)
  exact L6 4097  (17 : Int32) p1 ls (⟨fm, hfm, by omega, by omega⟩) (by unfold spX5_markOf; rfl) (lv_sub hl [2, 3, 4, 1, 0] rfl)
theorem k_next {x : Int32} (h : ∃ k : Nat, x = nI k ∧ k < 16) : ∃ k : Nat, (x + (1 : Int32) - (x + (1 : Int32)) / (16 : Int32) * (16 : Int32)) = nI k ∧ k < 16 := by
  obtain ⟨k, rfl, hk⟩ := h
  refine ⟨(k + 1) % 16, ?_, Nat.mod_lt _ (by decide)⟩
  rw [nI_1]
  exact pk_rem (d := 16) (by omega) (by decide) (by decide)
theorem k_dep {b : Int32} (h : ¬ b < 0) : ∃ j : Nat, (b - b / (16 : Int32) * (16 : Int32)) = nI j ∧ j < 16 := by
  obtain ⟨j, hj, rfl⟩ := nI_of h
  exact ⟨j % 16, pk_rem (d := 16) hj (by decide) (by decide), Nat.mod_lt _ (by decide)⟩
theorem k_day {b : Int32} (h : ¬ b < 0) : ∃ j : Nat, (b / (16 : Int32)) = nI j ∧ j < 2 ^ 31 := by
  obtain ⟨j, hj, rfl⟩ := nI_of h
  exact ⟨j / 16, pk_div (d := 16) hj (by decide) (by decide), by omega⟩
def lpX5_begin_57 : Nat → Int32 → Int32 → Int32 → Int32 → Int32 → Int32 → (Nat → Int32) → (Nat → Int32) → (Nat → Int32) → Int32 → Int32 → Int32 → (Int32 × Int32 × Int32 × Int32 × (Nat → Int32) × (Nat → Int32))
  | 0, kpw1, klf1, _, ksc1, krc1, _, kme1, kwe1, _, _, _, _ => (kpw1, klf1, ksc1, krc1, kme1, kwe1)
  | n + 1, kpw1, klf1, kmk, ksc1, krc1, kno, kme1, kwe1, kbo, p1, x2, x3 => (if (193 : Int32) ≤ x3 then (match spX5_write kpw1 klf1 ksc1 kme1 (193 : Int32) (spX5_marked x2) with | (kpw_101, klf_101, kme_101) => (kpw_101, klf_101, ksc1, krc1, kme_101, kwe1)) else (match spX5_write kpw1 klf1 ksc1 kme1 x3 (kbo (Int32.toNatClampNeg x3)) with | (kpw_72, klf_72, kme_72) => (lpX5_begin_57 n kpw_72 klf_72 kmk ksc1 krc1 kno kme_72 kwe1 kbo p1 (((31 : Int32) * x2) + (kbo (Int32.toNatClampNeg x3))) (x3 + (1 : Int32)))))
theorem lpX5_begin_57_e (n : Nat) (kpw1 : Int32) (klf1 : Int32) (kmk : Int32) (ksc1 : Int32) (krc1 : Int32) (kno : Int32) (kme1 : Nat → Int32) (kwe1 : Nat → Int32) (kbo : Nat → Int32) (p1 : Int32) (x2 : Int32) (x3 : Int32) : lpX5_begin_57 (n + 1) kpw1 klf1 kmk ksc1 krc1 kno kme1 kwe1 kbo p1 x2 x3 = (if (193 : Int32) ≤ x3 then (match spX5_write kpw1 klf1 ksc1 kme1 (193 : Int32) (spX5_marked x2) with | (kpw_101, klf_101, kme_101) => (kpw_101, klf_101, ksc1, krc1, kme_101, kwe1)) else (match spX5_write kpw1 klf1 ksc1 kme1 x3 (kbo (Int32.toNatClampNeg x3)) with | (kpw_72, klf_72, kme_72) => (lpX5_begin_57 n kpw_72 klf_72 kmk ksc1 krc1 kno kme_72 kwe1 kbo p1 (((31 : Int32) * x2) + (kbo (Int32.toNatClampNeg x3))) (x3 + (1 : Int32))))) := rfl
def spX5_begin (kpw : Int32) (klf : Int32) (kmk : Int32) (ksc : Int32) (krc : Int32) (kno : Int32) (kme : Nat → Int32) (kwe : Nat → Int32) (kbo : Nat → Int32) (p1 : Int32) : Int32 × Int32 × Int32 × Int32 × (Nat → Int32) × (Nat → Int32) := (match spX5_erase kpw klf kmk kme kwe ((ksc + (1 : Int32)) - (ksc + (1 : Int32)) / (16 : Int32) * (16 : Int32)) with | (kpw_18, klf_18, kme_18, kwe_18) => (match spX5_write kpw_18 klf_18 ((ksc + (1 : Int32)) - (ksc + (1 : Int32)) / (16 : Int32) * (16 : Int32)) kme_18 (0 : Int32) p1 with | (kpw_43, klf_43, kme_43) => (match spX5_write kpw_43 klf_43 ((ksc + (1 : Int32)) - (ksc + (1 : Int32)) / (16 : Int32) * (16 : Int32)) kme_43 (1 : Int32) kno with | (kpw_52, klf_52, kme_52) => (lpX5_begin_57 192 kpw_52 klf_52 kmk ((ksc + (1 : Int32)) - (ksc + (1 : Int32)) / (16 : Int32) * (16 : Int32)) (0 : Int32) kno kme_52 kwe_18 kbo p1 (((31 : Int32) * ((527 : Int32) + p1)) + kno) (2 : Int32)))))
set_option maxHeartbeats 4000000 in
set_option maxRecDepth 100000 in
theorem c_X5_begin (l : Launch) (D : va_G) (kO km kw kb kr kd kt : Nat) (cA : ClassId) (kth : Int32) (kmn : Int32) (kpw : Int32) (klf : Int32) (kmk : Int32) (ksc : Int32) (krc : Int32) (kno : Int32) (kpp : Int32) (kpc : Int64) (kme : Nat → Int32) (kwe : Nat → Int32) (kbo : Nat → Int32) (kre : Nat → Int32) (kdr : Nat → Int32) (ktb : Nat → Int32) (p1 : Int32) (hs : ∃ k : Nat, ksc = nI k ∧ k < 16) : kWv l yX5_begin cX5_begin 4 none { frames := 2, cells := 0, slots := 0, locals := 44 } D [(cA, .int)] [.ref kO, .int p1] (wK kO km kw kb kr kd kt cA kth kmn kpw klf kmk ksc krc kno kpp kpc kme kwe kbo kre kdr ktb) (wK kO km kw kb kr kd kt cA kth kmn (spX5_begin kpw klf kmk ksc krc kno kme kwe kbo p1).1 (spX5_begin kpw klf kmk ksc krc kno kme kwe kbo p1).2.1 kmk (spX5_begin kpw klf kmk ksc krc kno kme kwe kbo p1).2.2.1 (spX5_begin kpw klf kmk ksc krc kno kme kwe kbo p1).2.2.2.1 kno kpp kpc (spX5_begin kpw klf kmk ksc krc kno kme kwe kbo p1).2.2.2.2.1 (spX5_begin kpw klf kmk ksc krc kno kme kwe kbo p1).2.2.2.2.2 kbo kre kdr ktb) := by
  intro sz
  refine Met.ofW (cc := cX5_begin) (maxL := 4) (ret := none) (by decide) rfl ?_
  intro p e s m args below meth c s₁ B hml hv
  obtain ⟨rfl, hsz, hP, hK, hD0⟩ := hv
  have hx := B.exec
  have hb := B.bytes
  have hr := B.returns
  have hts : ∀ w ∈ kG, w.before _ s = true := fun w h => atoms_spec (ws := kT yX5_begin cX5_begin 4 none) B.pre w (List.mem_cons_of_mem _ h)
  have hown : s.vm.findClass RX5 = some m.cls := findClass_of_methodNamed B.named
  have hlocks := B.notSynchronized
  subst hsz
  have hD := hD0.self (sz := s.heap.size)
  generalize hAe : va_A (wK kO km kw kb kr kd kt cA kth kmn kpw klf kmk ksc krc kno kpp kpc kme kwe kbo kre kdr ktb) s.heap.size = A at hD ⊢
  have hA : ∀ q : Nat, s.heap.size ≤ q → A q := fun q h => by rw [← hAe]; exact Or.inr h
  have hS : va_S A s.heap s.heap [] := va_S.rf
  have hl := lv_entry ([.ref kO, .int p1]) (n := 4) (Nat.le_of_ble_eq_true rfl)
  rw [lg_entry_eq]
  generalize (lg_sl ([.ref kO, .int p1]) ++ List.replicate (4 - (lg_sl ([.ref kO, .int p1])).length) Slot.unset).toArray = ls at hl ⊢
  have hl : lv_has ls 4 [(0, .ref kO), (1, .int p1)] := hl
  have hs2 := k_next hs
  obtain ⟨kq, hkq, hkq1⟩ := id hs2
  have L57 : ∀ (n : Nat) (kpw1 : Int32) (klf1 : Int32) (ksc1 : Int32) (krc1 : Int32) (kme1 : Nat → Int32) (kwe1 : Nat → Int32) (x2 : Int32) (x3 : Int32) (H : Heap) (locs : List Loc) (ls : Array Slot), ((∃ k : Nat, x3 = nI k ∧ k ≤ 193 ∧ 193 < k + n) ∧ (∃ k : Nat, ksc1 = nI k ∧ k < 16)) → spX5_begin kpw klf kmk ksc krc kno kme kwe kbo p1 = lpX5_begin_57 n kpw1 klf1 kmk ksc1 krc1 kno kme1 kwe1 kbo p1 x2 x3 → va_P D vwCl (wK kO km kw kb kr kd kt cA kth kmn kpw1 klf1 kmk ksc1 krc1 kno kpp kpc kme1 kwe1 kbo kre kdr ktb) H → va_D A (wK kO km kw kb kr kd kt cA kth kmn kpw1 klf1 kmk ksc1 krc1 kno kpp kpc kme1 kwe1 kbo kre kdr ktb) → va_S A s.heap H locs → lv_has ls 4 [(0, .ref kO), (1, .int p1), (2, .int x2), (3, .int x3)] → W p l e (headSpec (kT yX5_begin cX5_begin 4 none) ({ frames := 2, cells := 0, slots := 0, locals := 44 })).room s m ([.ref kO, .int p1] : List Value).toArray below meth c H locs 0 0 (MQ below (va_Qv (fun (_ : Unit) => True) (kPost D A (wK kO km kw kb kr kd kt cA kth kmn (spX5_begin kpw klf kmk ksc krc kno kme kwe kbo p1).1 (spX5_begin kpw klf kmk ksc krc kno kme kwe kbo p1).2.1 kmk (spX5_begin kpw klf kmk ksc krc kno kme kwe kbo p1).2.2.1 (spX5_begin kpw klf kmk ksc krc kno kme kwe kbo p1).2.2.2.1 kno kpp kpc (spX5_begin kpw klf kmk ksc krc kno kme kwe kbo p1).2.2.2.2.1 (spX5_begin kpw klf kmk ksc krc kno kme kwe kbo p1).2.2.2.2.2 kbo kre kdr ktb) [(cA, .int)]) A) ([.ref kO, .int p1] : List Value).toArray s 0 0 A) (F0 m 57 ls []) := by
    intro n
    induction n with
    | zero =>
      intro kpw1 klf1 ksc1 krc1 kme1 kwe1 x2 x3 H locs ls hI
      exact absurd hI (by rintro ⟨⟨k, -, h1, h2⟩, -⟩; omega)
    | succ n ih =>
      intro kpw1 klf1 ksc1 krc1 kme1 kwe1 x2 x3 H locs ls hI hE hP hD hS hl
      obtain ⟨⟨k, hk, hk1, hk2⟩, hI2⟩ := hI
      obtain ⟨kq2, hkq2, hkq21⟩ := id hI2
      refine lv_iload_n hx hb dX5_begin_57 rfl (lv_at hl 3 rfl) ?_
      refine lv_sipush (v := 193) hx hb dX5_begin_58 (by decide) ?_
      refine lv_icmp_ge (tgt := 93) hx hb dX5_begin_61 (by decide) (fun c_61 => ?_) (fun c_61 => ?_)
      · refine lv_aload_n hx hb dX5_begin_93 rfl (lv_at hl 0 rfl) ?_
        refine lv_sipush (v := 193) hx hb dX5_begin_94 (by decide) ?_
        refine lv_iload_n hx hb dX5_begin_97 rfl (lv_at hl 2 rfl) ?_
        refine k_rdSi (As := [.int x2]) (rest := [.int (193 : Int32), .ref kO]) ⟨hx, hb, hml, hown, hts⟩ k_self (c_X5_marked l x2) kv_X5_64 rfl rfl ⟨Nat.le_of_ble_eq_true rfl, Nat.le_of_ble_eq_true rfl⟩ rfl hl.1 rfl (Nat.le_of_ble_eq_true rfl) dX5_begin_98 ⟨Nat.zero_le _, Nat.zero_le _⟩ ?_
        rcases hq_101 : spX5_write kpw1 klf1 ksc1 kme1 (193 : Int32) (spX5_marked x2) with ⟨kpw_101, klf_101, kme_101⟩
        have hM_101 : kWv l yX5_write cX5_write 3 none { frames := 1, cells := 0, slots := 0, locals := 20 } D [(cA, .int)] [.ref kO, .int (193 : Int32), .int (spX5_marked x2)] (wK kO km kw kb kr kd kt cA kth kmn kpw1 klf1 kmk ksc1 krc1 kno kpp kpc kme1 kwe1 kbo kre kdr ktb) (wK kO km kw kb kr kd kt cA kth kmn kpw_101 klf_101 kmk ksc1 krc1 kno kpp kpc kme_101 kwe1 kbo kre kdr ktb) := by
          have h := c_X5_write l D kO km kw kb kr kd kt cA kth kmn kpw1 klf1 kmk ksc1 krc1 kno kpp kpc kme1 kwe1 kbo kre kdr ktb (193 : Int32) (spX5_marked x2) (by rw [hkq2]; simp only [show (256 : Int32) = nI 256 from rfl, show (193 : Int32) = nI 193 from rfl, pk_mul, nI_add]; exact vp_in_nI (by omega) (by decide))
          rw [hq_101] at h
          exact h
        refine k_wrVv (As := [.int (193 : Int32), .int (spX5_marked x2)]) (rest := []) (ci := 5) (q0 := 0) (ws' := (wK kO km kw kb kr kd kt cA kth kmn kpw_101 klf_101 kmk ksc1 krc1 kno kpp kpc kme_101 kwe1 kbo kre kdr ktb)) (wr := []) ⟨hx, hb, hml, hown, hts⟩ k_self hM_101 kv_X5_77 hP hD hS hA hK rfl rfl [0, 1, 2, 3, 4, 5, 6] [] [0, 1, 2, 3, 4, 5, 6] rfl (by decide) rfl (by decide) (by decide) rfl (by decide) rfl rfl ⟨Nat.le_of_ble_eq_true rfl, Nat.le_of_ble_eq_true rfl⟩ rfl hl.1 rfl (Nat.le_of_ble_eq_true rfl) dX5_begin_101 ⟨Nat.zero_le _, Nat.zero_le _⟩ (fun H locs hP hD hS => ?_)
        have hE : spX5_begin kpw klf kmk ksc krc kno kme kwe kbo p1 = (kpw_101, klf_101, ksc1, krc1, kme_101, kwe1) := hE.trans (by rw [lpX5_begin_57_e]; rw [if_pos c_61]; rw [hq_101]; try dsimp only)
        exact W.vret hx hb hr (fun t ht hW => ⟨⟨(), rfl, trivial, by rw [hE, ht]; exact hP, va_K.moved hW.alike hK, by rw [hE]; exact hD⟩, hS.F ht⟩) hS.2.2 dX5_begin_104
      · refine lv_aload_n hx hb dX5_begin_64 rfl (lv_at hl 0 rfl) ?_
        refine lv_iload_n hx hb dX5_begin_65 rfl (lv_at hl 3 rfl) ?_
        refine lv_aload_n hx hb dX5_begin_66 rfl (lv_at hl 0 rfl) ?_
        refine va_get (D := D) (ci := 5) (v := .ref kb) (C := RX5) (T := TX5) (N := 16) hx hb hts k_inX5 hown hK hP 0 rfl rfl 4 (by decide) (hts _ kw_493) (fun _ h9 => h9) rfl dX5_begin_67 ?_
        refine lv_iload_n hx hb dX5_begin_70 rfl (lv_at hl 3 rfl) ?_
        refine va_iald hx hb hK hP 3 0 rfl rfl (by rw [hk]; exact vp_in_nI (k_lt (N := 193) rfl hk hk1 (by decide) c_61) (by decide)) dX5_begin_71 ?_
        rcases hq_72 : spX5_write kpw1 klf1 ksc1 kme1 x3 (kbo (Int32.toNatClampNeg x3)) with ⟨kpw_72, klf_72, kme_72⟩
        have hM_72 : kWv l yX5_write cX5_write 3 none { frames := 1, cells := 0, slots := 0, locals := 20 } D [(cA, .int)] [.ref kO, .int x3, .int (kbo (Int32.toNatClampNeg x3))] (wK kO km kw kb kr kd kt cA kth kmn kpw1 klf1 kmk ksc1 krc1 kno kpp kpc kme1 kwe1 kbo kre kdr ktb) (wK kO km kw kb kr kd kt cA kth kmn kpw_72 klf_72 kmk ksc1 krc1 kno kpp kpc kme_72 kwe1 kbo kre kdr ktb) := by
          have h := c_X5_write l D kO km kw kb kr kd kt cA kth kmn kpw1 klf1 kmk ksc1 krc1 kno kpp kpc kme1 kwe1 kbo kre kdr ktb x3 (kbo (Int32.toNatClampNeg x3)) (by have h3 := k_lt (N := 193) rfl hk hk1 (by decide) c_61; rw [hkq2]; simp only [hk, show (256 : Int32) = nI 256 from rfl, pk_mul, nI_add]; exact vp_in_nI (by omega) (by decide))
          rw [hq_72] at h
          exact h
        refine k_wrVv (As := [.int x3, .int (kbo (Int32.toNatClampNeg x3))]) (rest := []) (ci := 5) (q0 := 0) (ws' := (wK kO km kw kb kr kd kt cA kth kmn kpw_72 klf_72 kmk ksc1 krc1 kno kpp kpc kme_72 kwe1 kbo kre kdr ktb)) (wr := []) ⟨hx, hb, hml, hown, hts⟩ k_self hM_72 kv_X5_77 hP hD hS hA hK rfl rfl [0, 1, 2, 3, 4, 5, 6] [] [0, 1, 2, 3, 4, 5, 6] rfl (by decide) rfl (by decide) (by decide) rfl (by decide) rfl rfl ⟨Nat.le_of_ble_eq_true rfl, Nat.le_of_ble_eq_true rfl⟩ rfl hl.1 rfl (Nat.le_of_ble_eq_true rfl) dX5_begin_72 ⟨Nat.zero_le _, Nat.zero_le _⟩ (fun H locs hP hD hS => ?_)
        refine lv_bipush (v := 31) hx hb dX5_begin_75 (by decide) ?_
        refine lv_iload_n hx hb dX5_begin_77 rfl (lv_at hl 2 rfl) ?_
        refine lv_imul hx hb dX5_begin_78 ?_
        refine lv_aload_n hx hb dX5_begin_79 rfl (lv_at hl 0 rfl) ?_
        refine va_get (D := D) (ci := 5) (v := .ref kb) (C := RX5) (T := TX5) (N := 16) hx hb hts k_inX5 hown hK hP 0 rfl rfl 4 (by decide) (hts _ kw_493) (fun _ h9 => h9) rfl dX5_begin_80 ?_
        refine lv_iload_n hx hb dX5_begin_83 rfl (lv_at hl 3 rfl) ?_
        refine va_iald hx hb hK hP 3 0 rfl rfl (by rw [hk]; exact vp_in_nI (k_lt (N := 193) rfl hk hk1 (by decide) c_61) (by decide)) dX5_begin_84 ?_
        refine lv_iadd hx hb dX5_begin_85 ?_
        refine lv_istore_n (lv' := [(2, .int (((31 : Int32) * x2) + (kbo (Int32.toNatClampNeg x3)))), (0, .ref kO), (1, .int p1), (3, .int x3)]) hx hb dX5_begin_86 rfl hl (by decide) rfl (fun ls hl => ?_)
        refine lv_iinc (v := (x3 + (1 : Int32))) (lv' := [(3, .int (x3 + (1 : Int32))), (2, .int (((31 : Int32) * x2) + (kbo (Int32.toNatClampNeg x3)))), (0, .ref kO), (1, .int p1)]) hx hb dX5_begin_87 hl (k := 3) rfl rfl (by decide) rfl (fun ls hl => ?_)
        refine lv_goto (tgt := 57) hx hb dX5_begin_90 (by decide) ?_
        exact ih  kpw_72 klf_72 ksc1 krc1 kme_72 kwe1 (((31 : Int32) * x2) + (kbo (Int32.toNatClampNeg x3))) (x3 + (1 : Int32)) _ _ ls (⟨k_step (N := 193) rfl (by decide) hk hk1 hk2 c_61, hI2⟩) (hE.trans (by rw [lpX5_begin_57_e]; rw [if_neg c_61]; rw [hq_72]; try dsimp only)) hP hD hS (lv_sub hl [2, 3, 1, 0] rfl)
  refine lv_aload_n hx hb dX5_begin_0 rfl (lv_at hl 0 rfl) ?_
  refine lv_aload_n hx hb dX5_begin_1 rfl (lv_at hl 0 rfl) ?_
  refine va_get (D := D) (ci := 5) (v := .int ksc) (C := RX5) (T := TX5) (N := 16) hx hb hts k_inX5 hown hK hP 0 rfl rfl 11 (by decide) (hts _ kw_500) (fun _ h9 => h9) rfl dX5_begin_2 ?_
  refine lv_iconst (v := 1) hx hb dX5_begin_5 (by decide) ?_
  refine lv_iadd hx hb dX5_begin_6 ?_
  refine lv_bipush (v := 16) hx hb dX5_begin_7 (by decide) ?_
  refine lv_irem hx hb dX5_begin_9 (by decide) ?_
  refine va_put (D := D) (ci := 5) (v := .int ((ksc + (1 : Int32)) - (ksc + (1 : Int32)) / (16 : Int32) * (16 : Int32))) (ty := .int) (C := RX5) (T := TX5) (N := 16) hx hb hts k_inX5 tyX5 tyX5_ok nmX5 hown hK hP hD hS 0 rfl rfl 11 (by decide) (hts _ kw_500) (fun _ h9 => h9) rfl (by decide +kernel) rfl rfl (Nat.le_of_ble_eq_true rfl) dX5_begin_10 (fun H locs hP hD hS => ?_)
  have hP : va_P D vwCl (wK kO km kw kb kr kd kt cA kth kmn kpw klf kmk ((ksc + (1 : Int32)) - (ksc + (1 : Int32)) / (16 : Int32) * (16 : Int32)) krc kno kpp kpc kme kwe kbo kre kdr ktb) H := hP
  have hD : va_D A (wK kO km kw kb kr kd kt cA kth kmn kpw klf kmk ((ksc + (1 : Int32)) - (ksc + (1 : Int32)) / (16 : Int32) * (16 : Int32)) krc kno kpp kpc kme kwe kbo kre kdr ktb) := hD
  refine lv_aload_n hx hb dX5_begin_13 rfl (lv_at hl 0 rfl) ?_
  refine lv_aload_n hx hb dX5_begin_14 rfl (lv_at hl 0 rfl) ?_
  refine va_get (D := D) (ci := 5) (v := .int ((ksc + (1 : Int32)) - (ksc + (1 : Int32)) / (16 : Int32) * (16 : Int32))) (C := RX5) (T := TX5) (N := 16) hx hb hts k_inX5 hown hK hP 0 rfl rfl 11 (by decide) (hts _ kw_500) (fun _ h9 => h9) rfl dX5_begin_15 ?_
  rcases hq_18 : spX5_erase kpw klf kmk kme kwe ((ksc + (1 : Int32)) - (ksc + (1 : Int32)) / (16 : Int32) * (16 : Int32)) with ⟨kpw_18, klf_18, kme_18, kwe_18⟩
  have hM_18 : kWv l yX5_erase cX5_erase 5 none { frames := 1, cells := 0, slots := 0, locals := 20 } D [(cA, .int)] [.ref kO, .int ((ksc + (1 : Int32)) - (ksc + (1 : Int32)) / (16 : Int32) * (16 : Int32))] (wK kO km kw kb kr kd kt cA kth kmn kpw klf kmk ((ksc + (1 : Int32)) - (ksc + (1 : Int32)) / (16 : Int32) * (16 : Int32)) krc kno kpp kpc kme kwe kbo kre kdr ktb) (wK kO km kw kb kr kd kt cA kth kmn kpw_18 klf_18 kmk ((ksc + (1 : Int32)) - (ksc + (1 : Int32)) / (16 : Int32) * (16 : Int32)) krc kno kpp kpc kme_18 kwe_18 kbo kre kdr ktb) := by
    have h := c_X5_erase l D kO km kw kb kr kd kt cA kth kmn kpw klf kmk ((ksc + (1 : Int32)) - (ksc + (1 : Int32)) / (16 : Int32) * (16 : Int32)) krc kno kpp kpc kme kwe kbo kre kdr ktb ((ksc + (1 : Int32)) - (ksc + (1 : Int32)) / (16 : Int32) * (16 : Int32)) hs2
    rw [hq_18] at h
    exact h
  refine k_wrVv (As := [.int ((ksc + (1 : Int32)) - (ksc + (1 : Int32)) / (16 : Int32) * (16 : Int32))]) (rest := []) (ci := 5) (q0 := 0) (ws' := (wK kO km kw kb kr kd kt cA kth kmn kpw_18 klf_18 kmk ((ksc + (1 : Int32)) - (ksc + (1 : Int32)) / (16 : Int32) * (16 : Int32)) krc kno kpp kpc kme_18 kwe_18 kbo kre kdr ktb)) (wr := []) ⟨hx, hb, hml, hown, hts⟩ k_self hM_18 kv_X5_68 hP hD hS hA hK rfl rfl [0, 1, 2, 3, 4, 5, 6] [] [0, 1, 2, 3, 4, 5, 6] rfl (by decide) rfl (by decide) (by decide) rfl (by decide) rfl rfl ⟨Nat.le_of_ble_eq_true rfl, Nat.le_of_ble_eq_true rfl⟩ rfl hl.1 rfl (Nat.le_of_ble_eq_true rfl) dX5_begin_18 ⟨Nat.zero_le _, Nat.zero_le _⟩ (fun H locs hP hD hS => ?_)
  refine lv_aload_n hx hb dX5_begin_21 rfl (lv_at hl 0 rfl) ?_
  refine lv_iconst (v := 0) hx hb dX5_begin_22 (by decide) ?_
  refine va_put (D := D) (ci := 5) (v := .int (0 : Int32)) (ty := .int) (C := RX5) (T := TX5) (N := 16) hx hb hts k_inX5 tyX5 tyX5_ok nmX5 hown hK hP hD hS 0 rfl rfl 12 (by decide) (hts _ kw_501) (fun _ h9 => h9) rfl (by decide +kernel) rfl rfl (Nat.le_of_ble_eq_true rfl) dX5_begin_23 (fun H locs hP hD hS => ?_)
  have hP : va_P D vwCl (wK kO km kw kb kr kd kt cA kth kmn kpw_18 klf_18 kmk ((ksc + (1 : Int32)) - (ksc + (1 : Int32)) / (16 : Int32) * (16 : Int32)) (0 : Int32) kno kpp kpc kme_18 kwe_18 kbo kre kdr ktb) H := hP
  have hD : va_D A (wK kO km kw kb kr kd kt cA kth kmn kpw_18 klf_18 kmk ((ksc + (1 : Int32)) - (ksc + (1 : Int32)) / (16 : Int32) * (16 : Int32)) (0 : Int32) kno kpp kpc kme_18 kwe_18 kbo kre kdr ktb) := hD
  refine lv_bipush (v := 31) hx hb dX5_begin_26 (by decide) ?_
  refine lv_sipush (v := 527) hx hb dX5_begin_28 (by decide) ?_
  refine lv_iload_n hx hb dX5_begin_31 rfl (lv_at hl 1 rfl) ?_
  refine lv_iadd hx hb dX5_begin_32 ?_
  refine lv_imul hx hb dX5_begin_33 ?_
  refine lv_aload_n hx hb dX5_begin_34 rfl (lv_at hl 0 rfl) ?_
  refine va_get (D := D) (ci := 5) (v := .int kno) (C := RX5) (T := TX5) (N := 16) hx hb hts k_inX5 hown hK hP 0 rfl rfl 13 (by decide) (hts _ kw_502) (fun _ h9 => h9) rfl dX5_begin_35 ?_
  refine lv_iadd hx hb dX5_begin_38 ?_
  refine lv_istore_n (lv' := [(2, .int (((31 : Int32) * ((527 : Int32) + p1)) + kno)), (0, .ref kO), (1, .int p1)]) hx hb dX5_begin_39 rfl hl (by decide) rfl (fun ls hl => ?_)
  refine lv_aload_n hx hb dX5_begin_40 rfl (lv_at hl 1 rfl) ?_
  refine lv_iconst (v := 0) hx hb dX5_begin_41 (by decide) ?_
  refine lv_iload_n hx hb dX5_begin_42 rfl (lv_at hl 2 rfl) ?_
  rcases hq_43 : spX5_write kpw_18 klf_18 ((ksc + (1 : Int32)) - (ksc + (1 : Int32)) / (16 : Int32) * (16 : Int32)) kme_18 (0 : Int32) p1 with ⟨kpw_43, klf_43, kme_43⟩
  have hM_43 : kWv l yX5_write cX5_write 3 none { frames := 1, cells := 0, slots := 0, locals := 20 } D [(cA, .int)] [.ref kO, .int (0 : Int32), .int p1] (wK kO km kw kb kr kd kt cA kth kmn kpw_18 klf_18 kmk ((ksc + (1 : Int32)) - (ksc + (1 : Int32)) / (16 : Int32) * (16 : Int32)) (0 : Int32) kno kpp kpc kme_18 kwe_18 kbo kre kdr ktb) (wK kO km kw kb kr kd kt cA kth kmn kpw_43 klf_43 kmk ((ksc + (1 : Int32)) - (ksc + (1 : Int32)) / (16 : Int32) * (16 : Int32)) (0 : Int32) kno kpp kpc kme_43 kwe_18 kbo kre kdr ktb) := by
    have h := c_X5_write l D kO km kw kb kr kd kt cA kth kmn kpw_18 klf_18 kmk ((ksc + (1 : Int32)) - (ksc + (1 : Int32)) / (16 : Int32) * (16 : Int32)) (0 : Int32) kno kpp kpc kme_18 kwe_18 kbo kre kdr ktb (0 : Int32) p1 (by rw [hkq]; simp only [hkq, show (256 : Int32) = nI 256 from rfl, show (0 : Int32) = nI 0 from rfl, pk_mul, nI_add]; exact vp_in_nI (by omega) (by decide))
    rw [hq_43] at h
    exact h
  refine k_wrVv (As := [.int (0 : Int32), .int p1]) (rest := []) (ci := 5) (q0 := 0) (ws' := (wK kO km kw kb kr kd kt cA kth kmn kpw_43 klf_43 kmk ((ksc + (1 : Int32)) - (ksc + (1 : Int32)) / (16 : Int32) * (16 : Int32)) (0 : Int32) kno kpp kpc kme_43 kwe_18 kbo kre kdr ktb)) (wr := []) ⟨hx, hb, hml, hown, hts⟩ k_self hM_43 kv_X5_77 hP hD hS hA hK rfl rfl [0, 1, 2, 3, 4, 5, 6] [] [0, 1, 2, 3, 4, 5, 6] rfl (by decide) rfl (by decide) (by decide) rfl (by decide) rfl rfl ⟨Nat.le_of_ble_eq_true rfl, Nat.le_of_ble_eq_true rfl⟩ rfl hl.1 rfl (Nat.le_of_ble_eq_true rfl) dX5_begin_43 ⟨Nat.zero_le _, Nat.zero_le _⟩ (fun H locs hP hD hS => ?_)
  refine lv_aload_n hx hb dX5_begin_46 rfl (lv_at hl 1 rfl) ?_
  refine lv_iconst (v := 1) hx hb dX5_begin_47 (by decide) ?_
  refine lv_aload_n hx hb dX5_begin_48 rfl (lv_at hl 1 rfl) ?_
  refine va_get (D := D) (ci := 5) (v := .int kno) (C := RX5) (T := TX5) (N := 16) hx hb hts k_inX5 hown hK hP 0 rfl rfl 13 (by decide) (hts _ kw_502) (fun _ h9 => h9) rfl dX5_begin_49 ?_
  rcases hq_52 : spX5_write kpw_43 klf_43 ((ksc + (1 : Int32)) - (ksc + (1 : Int32)) / (16 : Int32) * (16 : Int32)) kme_43 (1 : Int32) kno with ⟨kpw_52, klf_52, kme_52⟩
  have hM_52 : kWv l yX5_write cX5_write 3 none { frames := 1, cells := 0, slots := 0, locals := 20 } D [(cA, .int)] [.ref kO, .int (1 : Int32), .int kno] (wK kO km kw kb kr kd kt cA kth kmn kpw_43 klf_43 kmk ((ksc + (1 : Int32)) - (ksc + (1 : Int32)) / (16 : Int32) * (16 : Int32)) (0 : Int32) kno kpp kpc kme_43 kwe_18 kbo kre kdr ktb) (wK kO km kw kb kr kd kt cA kth kmn kpw_52 klf_52 kmk ((ksc + (1 : Int32)) - (ksc + (1 : Int32)) / (16 : Int32) * (16 : Int32)) (0 : Int32) kno kpp kpc kme_52 kwe_18 kbo kre kdr ktb) := by
    have h := c_X5_write l D kO km kw kb kr kd kt cA kth kmn kpw_43 klf_43 kmk ((ksc + (1 : Int32)) - (ksc + (1 : Int32)) / (16 : Int32) * (16 : Int32)) (0 : Int32) kno kpp kpc kme_43 kwe_18 kbo kre kdr ktb (1 : Int32) kno (by rw [hkq]; simp only [hkq, show (256 : Int32) = nI 256 from rfl, show (1 : Int32) = nI 1 from rfl, pk_mul, nI_add]; exact vp_in_nI (by omega) (by decide))
    rw [hq_52] at h
    exact h
  refine k_wrVv (As := [.int (1 : Int32), .int kno]) (rest := []) (ci := 5) (q0 := 0) (ws' := (wK kO km kw kb kr kd kt cA kth kmn kpw_52 klf_52 kmk ((ksc + (1 : Int32)) - (ksc + (1 : Int32)) / (16 : Int32) * (16 : Int32)) (0 : Int32) kno kpp kpc kme_52 kwe_18 kbo kre kdr ktb)) (wr := []) ⟨hx, hb, hml, hown, hts⟩ k_self hM_52 kv_X5_77 hP hD hS hA hK rfl rfl [0, 1, 2, 3, 4, 5, 6] [] [0, 1, 2, 3, 4, 5, 6] rfl (by decide) rfl (by decide) (by decide) rfl (by decide) rfl rfl ⟨Nat.le_of_ble_eq_true rfl, Nat.le_of_ble_eq_true rfl⟩ rfl hl.1 rfl (Nat.le_of_ble_eq_true rfl) dX5_begin_52 ⟨Nat.zero_le _, Nat.zero_le _⟩ (fun H locs hP hD hS => ?_)
  refine lv_iconst (v := 2) hx hb dX5_begin_55 (by decide) ?_
  refine lv_istore_n (lv' := [(3, .int (2 : Int32)), (2, .int (((31 : Int32) * ((527 : Int32) + p1)) + kno)), (0, .ref kO), (1, .int p1)]) hx hb dX5_begin_56 rfl hl (by decide) rfl (fun ls hl => ?_)
  exact L57 192 kpw_52 klf_52 ((ksc + (1 : Int32)) - (ksc + (1 : Int32)) / (16 : Int32) * (16 : Int32)) (0 : Int32) kme_52 kwe_18 (((31 : Int32) * ((527 : Int32) + p1)) + kno) (2 : Int32) _ _ ls (⟨⟨2, rfl, by decide, by decide⟩, hs2⟩) (by unfold spX5_begin; rw [hq_18]; dsimp only; rw [hq_43]; dsimp only; rw [hq_52]; try dsimp only) hP hD hS (lv_sub hl [2, 3, 1, 0] rfl)
def lpX5_isFree_4 : Nat → Int32 → (Nat → Int32) → Int32 → Int32 → Int32 → Int32
  | 0, _, _, _, _, _ => 0
  | n + 1, ksc, kme, p1, x2, x3 => (if (5 : Int32) ≤ x3 then x2 else (if x2 = 0 then (lpX5_isFree_4 n ksc kme p1 (0 : Int32) (x3 + (1 : Int32))) else (if (kme (Int32.toNatClampNeg ((((256 : Int32) * ksc) + p1) + x3))) = (-1 : Int32) then (lpX5_isFree_4 n ksc kme p1 (1 : Int32) (x3 + (1 : Int32))) else (lpX5_isFree_4 n ksc kme p1 (0 : Int32) (x3 + (1 : Int32))))))
theorem lpX5_isFree_4_e (n : Nat) (ksc : Int32) (kme : Nat → Int32) (p1 : Int32) (x2 : Int32) (x3 : Int32) : lpX5_isFree_4 (n + 1) ksc kme p1 x2 x3 = (if (5 : Int32) ≤ x3 then x2 else (if x2 = 0 then (lpX5_isFree_4 n ksc kme p1 (0 : Int32) (x3 + (1 : Int32))) else (if (kme (Int32.toNatClampNeg ((((256 : Int32) * ksc) + p1) + x3))) = (-1 : Int32) then (lpX5_isFree_4 n ksc kme p1 (1 : Int32) (x3 + (1 : Int32))) else (lpX5_isFree_4 n ksc kme p1 (0 : Int32) (x3 + (1 : Int32)))))) := rfl
def spX5_isFree (ksc : Int32) (kme : Nat → Int32) (p1 : Int32) : Int32 := (lpX5_isFree_4 6 ksc kme p1 (1 : Int32) (0 : Int32))
set_option maxHeartbeats 4000000 in
set_option maxRecDepth 100000 in
theorem c_X5_isFree (l : Launch) (D : va_G) (kO km kw kb kr kd kt : Nat) (cA : ClassId) (kth : Int32) (kmn : Int32) (kpw : Int32) (klf : Int32) (kmk : Int32) (ksc : Int32) (krc : Int32) (kno : Int32) (kpp : Int32) (kpc : Int64) (kme : Nat → Int32) (kwe : Nat → Int32) (kbo : Nat → Int32) (kre : Nat → Int32) (kdr : Nat → Int32) (ktb : Nat → Int32) (p1 : Int32) (hs : ∃ k : Nat, ksc = nI k ∧ k < 16) (hj : ∃ j : Nat, p1 = nI j ∧ j + 5 ≤ 256) : kRi l yX5_isFree cX5_isFree 4 (some .boolean) { frames := 0, cells := 0, slots := 0, locals := 0 } [.ref kO, .int p1] (kB D (wK kO km kw kb kr kd kt cA kth kmn kpw klf kmk ksc krc kno kpp kpc kme kwe kbo kre kdr ktb) [(cA, .int)]) (spX5_isFree ksc kme p1) := by
  refine Met.ofW (cc := cX5_isFree) (maxL := 4) (ret := (some .boolean)) (by decide) rfl ?_
  intro p e s m args below meth c s₁ B hml hv
  obtain ⟨rfl, hP, hK⟩ := hv
  have hx := B.exec
  have hb := B.bytes
  have hr := B.returns
  have hts : ∀ w ∈ kG, w.before _ s = true := fun w h => atoms_spec (ws := kT yX5_isFree cX5_isFree 4 (some .boolean)) B.pre w (List.mem_cons_of_mem _ h)
  have hown : s.vm.findClass RX5 = some m.cls := findClass_of_methodNamed B.named
  have hlocks := B.notSynchronized
  have hl := lv_entry ([.ref kO, .int p1]) (n := 4) (Nat.le_of_ble_eq_true rfl)
  rw [lg_entry_eq]
  generalize (lg_sl ([.ref kO, .int p1]) ++ List.replicate (4 - (lg_sl ([.ref kO, .int p1])).length) Slot.unset).toArray = ls at hl ⊢
  have hl : lv_has ls 4 [(0, .ref kO), (1, .int p1)] := hl
  obtain ⟨kq, hkq, hkq1⟩ := hs
  obtain ⟨jq, hjq, hjq1⟩ := hj
  have L4 : ∀ (n : Nat)  (x2 : Int32) (x3 : Int32) (ls : Array Slot), ((∃ k : Nat, x3 = nI k ∧ k ≤ 5 ∧ 5 < k + n) ∧ (x2 = 0 ∨ x2 = 1)) → spX5_isFree ksc kme p1 = lpX5_isFree_4 n ksc kme p1 x2 x3 → lv_has ls 4 [(0, .ref kO), (1, .int p1), (2, .int x2), (3, .int x3)] → W p l e (headSpec (kT yX5_isFree cX5_isFree 4 (some .boolean)) ({ frames := 0, cells := 0, slots := 0, locals := 0 })).room s m ([.ref kO, .int p1] : List Value).toArray below meth c s.heap [] 0 0 (MQ below (vp_Si (fun r => r = spX5_isFree ksc kme p1)) ([.ref kO, .int p1] : List Value).toArray s 0 0 (fun _ => False)) (F0 m 4 ls []) := by
    intro n
    induction n with
    | zero =>
      intro x2 x3 ls hI
      exact absurd hI (by rintro ⟨⟨k, -, h1, h2⟩, -⟩; omega)
    | succ n ih =>
      intro x2 x3 ls hI hE hl
      obtain ⟨⟨k, hk, hk1, hk2⟩, hI2⟩ := hI
      refine lv_iload_n hx hb dX5_isFree_4 rfl (lv_at hl 3 rfl) ?_
      refine lv_iconst (v := 5) hx hb dX5_isFree_5 (by decide) ?_
      refine lv_icmp_ge (tgt := 46) hx hb dX5_isFree_6 (by decide) (fun c_6 => ?_) (fun c_6 => ?_)
      · refine lv_iload_n hx hb dX5_isFree_46 rfl (lv_at hl 2 rfl) ?_
        exact W.zret (v := x2) hx hb hr (k_bool hI2) (fun t ht hW => ⟨x2, rfl, (show _ = _ from (hE.trans (by rw [lpX5_isFree_4_e]; rw [if_pos c_6]) : spX5_isFree ksc kme p1 = x2).symm), ht⟩) (fun q h => by cases h) dX5_isFree_47
      · refine lv_iload_n hx hb dX5_isFree_9 rfl (lv_at hl 2 rfl) ?_
        refine lv_if_eq (tgt := 38) hx hb dX5_isFree_10 (by decide) (fun c_10 => ?_) (fun c_10 => ?_)
        · refine lv_iconst (v := 0) hx hb dX5_isFree_38 (by decide) ?_
          refine lv_istore_n (lv' := [(2, .int (0 : Int32)), (0, .ref kO), (1, .int p1), (3, .int x3)]) hx hb dX5_isFree_39 rfl hl (by decide) rfl (fun ls hl => ?_)
          refine lv_iinc (v := (x3 + (1 : Int32))) (lv' := [(3, .int (x3 + (1 : Int32))), (2, .int (0 : Int32)), (0, .ref kO), (1, .int p1)]) hx hb dX5_isFree_40 hl (k := 3) rfl rfl (by decide) rfl (fun ls hl => ?_)
          refine lv_goto (tgt := 4) hx hb dX5_isFree_43 (by decide) ?_
          exact ih   (0 : Int32) (x3 + (1 : Int32)) ls (⟨k_step (N := 5) rfl (by decide) hk hk1 hk2 c_6, (by first | exact Or.inl rfl | exact Or.inr rfl | exact hI2)⟩) (hE.trans (by rw [lpX5_isFree_4_e]; rw [if_neg c_6, if_pos c_10])) (lv_sub hl [2, 3, 1, 0] rfl)
        · refine lv_aload_n hx hb dX5_isFree_13 rfl (lv_at hl 0 rfl) ?_
          refine va_get (D := D) (ci := 5) (v := .ref km) (C := RX5) (T := TX5) (N := 16) hx hb hts k_inX5 hown hK hP 0 rfl rfl 2 (by decide) (hts _ kw_491) (fun _ h9 => h9) rfl dX5_isFree_14 ?_
          refine lv_sipush (v := 256) hx hb dX5_isFree_17 (by decide) ?_
          refine lv_aload_n hx hb dX5_isFree_20 rfl (lv_at hl 0 rfl) ?_
          refine va_get (D := D) (ci := 5) (v := .int ksc) (C := RX5) (T := TX5) (N := 16) hx hb hts k_inX5 hown hK hP 0 rfl rfl 11 (by decide) (hts _ kw_500) (fun _ h9 => h9) rfl dX5_isFree_21 ?_
          refine lv_imul hx hb dX5_isFree_24 ?_
          refine lv_iload_n hx hb dX5_isFree_25 rfl (lv_at hl 1 rfl) ?_
          refine lv_iadd hx hb dX5_isFree_26 ?_
          refine lv_iload_n hx hb dX5_isFree_27 rfl (lv_at hl 3 rfl) ?_
          refine lv_iadd hx hb dX5_isFree_28 ?_
          refine va_iald hx hb hK hP 1 0 rfl rfl (by have h3 := k_lt (N := 5) rfl hk hk1 (by decide) c_6; simp only [hkq, hjq, hk, show (256 : Int32) = nI 256 from rfl, pk_mul, nI_add]; exact vp_in_nI (by omega) (by decide)) dX5_isFree_29 ?_
          refine lv_iconst (v := -1) hx hb dX5_isFree_30 (by decide) ?_
          refine lv_icmp_ne (tgt := 38) hx hb dX5_isFree_31 (by decide) (fun c_31 => ?_) (fun c_31 => ?_)
          · refine lv_iconst (v := 0) hx hb dX5_isFree_38 (by decide) ?_
            refine lv_istore_n (lv' := [(2, .int (0 : Int32)), (0, .ref kO), (1, .int p1), (3, .int x3)]) hx hb dX5_isFree_39 rfl hl (by decide) rfl (fun ls hl => ?_)
            refine lv_iinc (v := (x3 + (1 : Int32))) (lv' := [(3, .int (x3 + (1 : Int32))), (2, .int (0 : Int32)), (0, .ref kO), (1, .int p1)]) hx hb dX5_isFree_40 hl (k := 3) rfl rfl (by decide) rfl (fun ls hl => ?_)
            refine lv_goto (tgt := 4) hx hb dX5_isFree_43 (by decide) ?_
            exact ih   (0 : Int32) (x3 + (1 : Int32)) ls (⟨k_step (N := 5) rfl (by decide) hk hk1 hk2 c_6, (by first | exact Or.inl rfl | exact Or.inr rfl | exact hI2)⟩) (hE.trans (by rw [lpX5_isFree_4_e]; rw [if_neg c_6, if_neg c_10, if_neg c_31])) (lv_sub hl [2, 3, 1, 0] rfl)
          · refine lv_iconst (v := 1) hx hb dX5_isFree_34 (by decide) ?_
            refine lv_goto (tgt := 39) hx hb dX5_isFree_35 (by decide) ?_
            refine lv_istore_n (lv' := [(2, .int (1 : Int32)), (0, .ref kO), (1, .int p1), (3, .int x3)]) hx hb dX5_isFree_39 rfl hl (by decide) rfl (fun ls hl => ?_)
            refine lv_iinc (v := (x3 + (1 : Int32))) (lv' := [(3, .int (x3 + (1 : Int32))), (2, .int (1 : Int32)), (0, .ref kO), (1, .int p1)]) hx hb dX5_isFree_40 hl (k := 3) rfl rfl (by decide) rfl (fun ls hl => ?_)
            refine lv_goto (tgt := 4) hx hb dX5_isFree_43 (by decide) ?_
            exact ih   (1 : Int32) (x3 + (1 : Int32)) ls (⟨k_step (N := 5) rfl (by decide) hk hk1 hk2 c_6, (by first | exact Or.inl rfl | exact Or.inr rfl | exact hI2)⟩) (hE.trans (by rw [lpX5_isFree_4_e]; rw [if_neg c_6, if_neg c_10, if_pos c_31])) (lv_sub hl [2, 3, 1, 0] rfl)
  refine lv_iconst (v := 1) hx hb dX5_isFree_0 (by decide) ?_
  refine lv_istore_n (lv' := [(2, .int (1 : Int32)), (0, .ref kO), (1, .int p1)]) hx hb dX5_isFree_1 rfl hl (by decide) rfl (fun ls hl => ?_)
  refine lv_iconst (v := 0) hx hb dX5_isFree_2 (by decide) ?_
  refine lv_istore_n (lv' := [(3, .int (0 : Int32)), (2, .int (1 : Int32)), (0, .ref kO), (1, .int p1)]) hx hb dX5_isFree_3 rfl hl (by decide) rfl (fun ls hl => ?_)
  exact L4 6  (1 : Int32) (0 : Int32) ls (⟨⟨0, rfl, by decide, by decide⟩, Or.inr rfl⟩) (by unfold spX5_isFree; rfl) (lv_sub hl [2, 3, 1, 0] rfl)
def spX5_sum (kbo : Nat → Int32) (p1 : Int32) : Int64 := (((Int32.toInt64 (kbo (Int32.toNatClampNeg p1))) &&& (4294967295 : Int64)) + ((Int32.toInt64 (kbo (Int32.toNatClampNeg (p1 + (1 : Int32))))) <<< (Int32.toInt64 (32 : Int32) &&& 63)))
set_option maxHeartbeats 4000000 in
set_option maxRecDepth 100000 in
theorem c_X5_sum (l : Launch) (D : va_G) (kO km kw kb kr kd kt : Nat) (cA : ClassId) (kth : Int32) (kmn : Int32) (kpw : Int32) (klf : Int32) (kmk : Int32) (ksc : Int32) (krc : Int32) (kno : Int32) (kpp : Int32) (kpc : Int64) (kme : Nat → Int32) (kwe : Nat → Int32) (kbo : Nat → Int32) (kre : Nat → Int32) (kdr : Nat → Int32) (ktb : Nat → Int32) (p1 : Int32) (hj : ∃ j : Nat, p1 = nI j ∧ j + 1 < 193) : kRl l yX5_sum cX5_sum 2 (some .long) { frames := 0, cells := 0, slots := 0, locals := 0 } [.ref kO, .int p1] (kB D (wK kO km kw kb kr kd kt cA kth kmn kpw klf kmk ksc krc kno kpp kpc kme kwe kbo kre kdr ktb) [(cA, .int)]) (spX5_sum kbo p1) := by
  refine Met.ofW (cc := cX5_sum) (maxL := 2) (ret := (some .long)) (by decide) rfl ?_
  intro p e s m args below meth c s₁ B hml hv
  obtain ⟨rfl, hP, hK⟩ := hv
  have hx := B.exec
  have hb := B.bytes
  have hr := B.returns
  have hts : ∀ w ∈ kG, w.before _ s = true := fun w h => atoms_spec (ws := kT yX5_sum cX5_sum 2 (some .long)) B.pre w (List.mem_cons_of_mem _ h)
  have hown : s.vm.findClass RX5 = some m.cls := findClass_of_methodNamed B.named
  have hlocks := B.notSynchronized
  have hl := lv_entry ([.ref kO, .int p1]) (n := 2) (Nat.le_of_ble_eq_true rfl)
  rw [lg_entry_eq]
  generalize (lg_sl ([.ref kO, .int p1]) ++ List.replicate (2 - (lg_sl ([.ref kO, .int p1])).length) Slot.unset).toArray = ls at hl ⊢
  have hl : lv_has ls 2 [(0, .ref kO), (1, .int p1)] := hl
  obtain ⟨jq, hjq, hjq1⟩ := hj
  refine lv_aload_n hx hb dX5_sum_0 rfl (lv_at hl 0 rfl) ?_
  refine va_get (D := D) (ci := 5) (v := .ref kb) (C := RX5) (T := TX5) (N := 16) hx hb hts k_inX5 hown hK hP 0 rfl rfl 4 (by decide) (hts _ kw_493) (fun _ h9 => h9) rfl dX5_sum_1 ?_
  refine lv_iload_n hx hb dX5_sum_4 rfl (lv_at hl 1 rfl) ?_
  refine va_iald hx hb hK hP 3 0 rfl rfl (by rw [hjq]; exact vp_in_nI (by omega) (by decide)) dX5_sum_5 ?_
  refine lv_i2l (v := (Int32.toInt64 (kbo (Int32.toNatClampNeg p1)))) hx hb dX5_sum_6 rfl ?_
  refine lv_ldc2 (v := 4294967295) hx hb hown (hts _ kw_583) dX5_sum_7 ?_
  refine lv_land hx hb dX5_sum_10 ?_
  refine lv_aload_n hx hb dX5_sum_11 rfl (lv_at hl 0 rfl) ?_
  refine va_get (D := D) (ci := 5) (v := .ref kb) (C := RX5) (T := TX5) (N := 16) hx hb hts k_inX5 hown hK hP 0 rfl rfl 4 (by decide) (hts _ kw_493) (fun _ h9 => h9) rfl dX5_sum_12 ?_
  refine lv_iload_n hx hb dX5_sum_15 rfl (lv_at hl 1 rfl) ?_
  refine lv_iconst (v := 1) hx hb dX5_sum_16 (by decide) ?_
  refine lv_iadd hx hb dX5_sum_17 ?_
  refine va_iald hx hb hK hP 3 0 rfl rfl (by simp only [hjq, show (1 : Int32) = nI 1 from rfl, pk_mul, nI_add]; exact vp_in_nI (by omega) (by decide)) dX5_sum_18 ?_
  refine lv_i2l (v := (Int32.toInt64 (kbo (Int32.toNatClampNeg (p1 + (1 : Int32)))))) hx hb dX5_sum_19 rfl ?_
  refine lv_bipush (v := 32) hx hb dX5_sum_20 (by decide) ?_
  refine lv_lshl (v := ((Int32.toInt64 (kbo (Int32.toNatClampNeg (p1 + (1 : Int32))))) <<< (Int32.toInt64 (32 : Int32) &&& 63))) hx hb dX5_sum_22 rfl ?_
  refine lv_ladd hx hb dX5_sum_23 ?_
  exact W.lret (v := (((Int32.toInt64 (kbo (Int32.toNatClampNeg p1))) &&& (4294967295 : Int64)) + ((Int32.toInt64 (kbo (Int32.toNatClampNeg (p1 + (1 : Int32))))) <<< (Int32.toInt64 (32 : Int32) &&& 63)))) hx hb hr (fun t ht hW => ⟨(((Int32.toInt64 (kbo (Int32.toNatClampNeg p1))) &&& (4294967295 : Int64)) + ((Int32.toInt64 (kbo (Int32.toNatClampNeg (p1 + (1 : Int32))))) <<< (Int32.toInt64 (32 : Int32) &&& 63))), rfl, (show _ = _ from (by unfold spX5_sum; rfl : spX5_sum kbo p1 = (((Int32.toInt64 (kbo (Int32.toNatClampNeg p1))) &&& (4294967295 : Int64)) + ((Int32.toInt64 (kbo (Int32.toNatClampNeg (p1 + (1 : Int32))))) <<< (Int32.toInt64 (32 : Int32) &&& 63)))).symm), ht⟩) (fun q h => by cases h) dX5_sum_24
def spX5_more (kbo : Nat → Int32) (p1 : Int32) (p2 : Int64) : (Nat → Int32) := (upd (upd kbo (Int32.toNatClampNeg p1) (Int64.toInt32 ((spX5_sum kbo p1) + p2))) (Int32.toNatClampNeg (p1 + (1 : Int32))) (Int64.toInt32 (((spX5_sum kbo p1) + p2) >>> (Int32.toInt64 (32 : Int32) &&& 63))))
set_option maxHeartbeats 4000000 in
set_option maxRecDepth 100000 in
theorem c_X5_more (l : Launch) (D : va_G) (kO km kw kb kr kd kt : Nat) (cA : ClassId) (kth : Int32) (kmn : Int32) (kpw : Int32) (klf : Int32) (kmk : Int32) (ksc : Int32) (krc : Int32) (kno : Int32) (kpp : Int32) (kpc : Int64) (kme : Nat → Int32) (kwe : Nat → Int32) (kbo : Nat → Int32) (kre : Nat → Int32) (kdr : Nat → Int32) (ktb : Nat → Int32) (p1 : Int32) (p2 : Int64) (hj : ∃ j : Nat, p1 = nI j ∧ j + 1 < 193) : kWv l yX5_more cX5_more 6 none { frames := 1, cells := 0, slots := 0, locals := 21 } D [(cA, .int)] [.ref kO, .int p1, .long p2] (wK kO km kw kb kr kd kt cA kth kmn kpw klf kmk ksc krc kno kpp kpc kme kwe kbo kre kdr ktb) (wK kO km kw kb kr kd kt cA kth kmn kpw klf kmk ksc krc kno kpp kpc kme kwe (spX5_more kbo p1 p2) kre kdr ktb) := by
  intro sz
  refine Met.ofW (cc := cX5_more) (maxL := 6) (ret := none) (by decide) rfl ?_
  intro p e s m args below meth c s₁ B hml hv
  obtain ⟨rfl, hsz, hP, hK, hD0⟩ := hv
  have hx := B.exec
  have hb := B.bytes
  have hr := B.returns
  have hts : ∀ w ∈ kG, w.before _ s = true := fun w h => atoms_spec (ws := kT yX5_more cX5_more 6 none) B.pre w (List.mem_cons_of_mem _ h)
  have hown : s.vm.findClass RX5 = some m.cls := findClass_of_methodNamed B.named
  have hlocks := B.notSynchronized
  subst hsz
  have hD := hD0.self (sz := s.heap.size)
  generalize hAe : va_A (wK kO km kw kb kr kd kt cA kth kmn kpw klf kmk ksc krc kno kpp kpc kme kwe kbo kre kdr ktb) s.heap.size = A at hD ⊢
  have hA : ∀ q : Nat, s.heap.size ≤ q → A q := fun q h => by rw [← hAe]; exact Or.inr h
  have hS : va_S A s.heap s.heap [] := va_S.rf
  have hl := lv_entry ([.ref kO, .int p1, .long p2]) (n := 6) (Nat.le_of_ble_eq_true rfl)
  rw [lg_entry_eq]
  generalize (lg_sl ([.ref kO, .int p1, .long p2]) ++ List.replicate (6 - (lg_sl ([.ref kO, .int p1, .long p2])).length) Slot.unset).toArray = ls at hl ⊢
  have hl : lv_has ls 6 [(0, .ref kO), (1, .int p1), (2, .long p2)] := hl
  obtain ⟨jq, hjq, hjq1⟩ := id hj
  refine lv_aload_n hx hb dX5_more_0 rfl (lv_at hl 0 rfl) ?_
  refine lv_iload_n hx hb dX5_more_1 rfl (lv_at hl 1 rfl) ?_
  refine k_rdVl (As := [.int p1]) (rest := []) (ci := 5) (q0 := 0) ⟨hx, hb, hml, hown, hts⟩ k_self (c_X5_sum l D kO km kw kb kr kd kt cA kth kmn kpw klf kmk ksc krc kno kpp kpc kme kwe kbo kre kdr ktb p1 hj) kv_X5_91 (hP.sub [0, 1, 2, 3, 4, 5, 6] rfl) (hK.sub [0] rfl) rfl rfl rfl rfl ⟨Nat.le_of_ble_eq_true rfl, Nat.le_of_ble_eq_true rfl⟩ rfl hl.1 rfl (Nat.le_of_ble_eq_true rfl) dX5_more_2 ⟨Nat.zero_le _, Nat.zero_le _⟩ ?_
  refine lv_lload_n hx hb dX5_more_5 rfl (lv_at hl 2 rfl) ?_
  refine lv_ladd hx hb dX5_more_6 ?_
  refine lv_lstore (lv' := [(4, .long ((spX5_sum kbo p1) + p2)), (0, .ref kO), (1, .int p1), (2, .long p2)]) hx hb dX5_more_7 hl (by decide) rfl (fun ls hl => ?_)
  refine lv_aload_n hx hb dX5_more_9 rfl (lv_at hl 1 rfl) ?_
  refine va_get (D := D) (ci := 5) (v := .ref kb) (C := RX5) (T := TX5) (N := 16) hx hb hts k_inX5 hown hK hP 0 rfl rfl 4 (by decide) (hts _ kw_493) (fun _ h9 => h9) rfl dX5_more_10 ?_
  refine lv_iload_n hx hb dX5_more_13 rfl (lv_at hl 2 rfl) ?_
  refine lv_lload hx hb dX5_more_14 (lv_at hl 0 rfl) ?_
  refine lv_l2i (v := (Int64.toInt32 ((spX5_sum kbo p1) + p2))) hx hb dX5_more_16 rfl ?_
  refine va_iast hx hb hK hP hD hS 3 0 rfl rfl (by rw [hjq]; exact vp_in_nI (by omega) (by decide)) dX5_more_17 (fun H locs hP hD hS => ?_)
  have hP : va_P D vwCl (wK kO km kw kb kr kd kt cA kth kmn kpw klf kmk ksc krc kno kpp kpc kme kwe (upd kbo (Int32.toNatClampNeg p1) (Int64.toInt32 ((spX5_sum kbo p1) + p2))) kre kdr ktb) H := hP
  have hD : va_D A (wK kO km kw kb kr kd kt cA kth kmn kpw klf kmk ksc krc kno kpp kpc kme kwe (upd kbo (Int32.toNatClampNeg p1) (Int64.toInt32 ((spX5_sum kbo p1) + p2))) kre kdr ktb) := hD
  refine lv_aload_n hx hb dX5_more_18 rfl (lv_at hl 1 rfl) ?_
  refine va_get (D := D) (ci := 5) (v := .ref kb) (C := RX5) (T := TX5) (N := 16) hx hb hts k_inX5 hown hK hP 0 rfl rfl 4 (by decide) (hts _ kw_493) (fun _ h9 => h9) rfl dX5_more_19 ?_
  refine lv_iload_n hx hb dX5_more_22 rfl (lv_at hl 2 rfl) ?_
  refine lv_iconst (v := 1) hx hb dX5_more_23 (by decide) ?_
  refine lv_iadd hx hb dX5_more_24 ?_
  refine lv_lload hx hb dX5_more_25 (lv_at hl 0 rfl) ?_
  refine lv_bipush (v := 32) hx hb dX5_more_27 (by decide) ?_
  refine lv_lshr (v := (((spX5_sum kbo p1) + p2) >>> (Int32.toInt64 (32 : Int32) &&& 63))) hx hb dX5_more_29 rfl ?_
  refine lv_l2i (v := (Int64.toInt32 (((spX5_sum kbo p1) + p2) >>> (Int32.toInt64 (32 : Int32) &&& 63)))) hx hb dX5_more_30 rfl ?_
  refine va_iast hx hb hK hP hD hS 3 0 rfl rfl (by simp only [hjq, show (1 : Int32) = nI 1 from rfl, pk_mul, nI_add]; exact vp_in_nI (by omega) (by decide)) dX5_more_31 (fun H locs hP hD hS => ?_)
  have hP : va_P D vwCl (wK kO km kw kb kr kd kt cA kth kmn kpw klf kmk ksc krc kno kpp kpc kme kwe (upd (upd kbo (Int32.toNatClampNeg p1) (Int64.toInt32 ((spX5_sum kbo p1) + p2))) (Int32.toNatClampNeg (p1 + (1 : Int32))) (Int64.toInt32 (((spX5_sum kbo p1) + p2) >>> (Int32.toInt64 (32 : Int32) &&& 63)))) kre kdr ktb) H := hP
  have hD : va_D A (wK kO km kw kb kr kd kt cA kth kmn kpw klf kmk ksc krc kno kpp kpc kme kwe (upd (upd kbo (Int32.toNatClampNeg p1) (Int64.toInt32 ((spX5_sum kbo p1) + p2))) (Int32.toNatClampNeg (p1 + (1 : Int32))) (Int64.toInt32 (((spX5_sum kbo p1) + p2) >>> (Int32.toInt64 (32 : Int32) &&& 63)))) kre kdr ktb) := hD
  have hE : spX5_more kbo p1 p2 = (upd (upd kbo (Int32.toNatClampNeg p1) (Int64.toInt32 ((spX5_sum kbo p1) + p2))) (Int32.toNatClampNeg (p1 + (1 : Int32))) (Int64.toInt32 (((spX5_sum kbo p1) + p2) >>> (Int32.toInt64 (32 : Int32) &&& 63)))) := by unfold spX5_more; rfl
  exact W.vret hx hb hr (fun t ht hW => ⟨⟨(), rfl, trivial, by rw [hE, ht]; exact hP, va_K.moved hW.alike hK, by rw [hE]; exact hD⟩, hS.F ht⟩) hS.2.2 dX5_more_32
def spX5_piece (kbo : Nat → Int32) (p1 : Int32) (p2 : Int32) (p3 : Int32) : (Nat → Int32) := (if p3 ≤ ((upd (upd (upd (spX5_more (spX5_more (spX5_more kbo (2 : Int32) (Int32.toInt64 p1)) (4 : Int32) (Int32.toInt64 (-p1))) (((17 : Int32) + ((3 : Int32) * p2)) + (1 : Int32)) (Int32.toInt64 p1)) (Int32.toNatClampNeg ((17 : Int32) + ((3 : Int32) * p2))) (((spX5_more (spX5_more (spX5_more kbo (2 : Int32) (Int32.toInt64 p1)) (4 : Int32) (Int32.toInt64 (-p1))) (((17 : Int32) + ((3 : Int32) * p2)) + (1 : Int32)) (Int32.toInt64 p1)) (Int32.toNatClampNeg ((17 : Int32) + ((3 : Int32) * p2)))) + (1 : Int32))) (Int32.toNatClampNeg (10 : Int32)) (((upd (spX5_more (spX5_more (spX5_more kbo (2 : Int32) (Int32.toInt64 p1)) (4 : Int32) (Int32.toInt64 (-p1))) (((17 : Int32) + ((3 : Int32) * p2)) + (1 : Int32)) (Int32.toInt64 p1)) (Int32.toNatClampNeg ((17 : Int32) + ((3 : Int32) * p2))) (((spX5_more (spX5_more (spX5_more kbo (2 : Int32) (Int32.toInt64 p1)) (4 : Int32) (Int32.toInt64 (-p1))) (((17 : Int32) + ((3 : Int32) * p2)) + (1 : Int32)) (Int32.toInt64 p1)) (Int32.toNatClampNeg ((17 : Int32) + ((3 : Int32) * p2)))) + (1 : Int32))) (Int32.toNatClampNeg (10 : Int32))) + (1 : Int32))) (Int32.toNatClampNeg (16 : Int32)) p1) (Int32.toNatClampNeg ((65 : Int32) + ((4 : Int32) * (p3 - p3 / (32 : Int32) * (32 : Int32)))))) then (if ((upd (upd (upd (spX5_more (spX5_more (spX5_more kbo (2 : Int32) (Int32.toInt64 p1)) (4 : Int32) (Int32.toInt64 (-p1))) (((17 : Int32) + ((3 : Int32) * p2)) + (1 : Int32)) (Int32.toInt64 p1)) (Int32.toNatClampNeg ((17 : Int32) + ((3 : Int32) * p2))) (((spX5_more (spX5_more (spX5_more kbo (2 : Int32) (Int32.toInt64 p1)) (4 : Int32) (Int32.toInt64 (-p1))) (((17 : Int32) + ((3 : Int32) * p2)) + (1 : Int32)) (Int32.toInt64 p1)) (Int32.toNatClampNeg ((17 : Int32) + ((3 : Int32) * p2)))) + (1 : Int32))) (Int32.toNatClampNeg (10 : Int32)) (((upd (spX5_more (spX5_more (spX5_more kbo (2 : Int32) (Int32.toInt64 p1)) (4 : Int32) (Int32.toInt64 (-p1))) (((17 : Int32) + ((3 : Int32) * p2)) + (1 : Int32)) (Int32.toInt64 p1)) (Int32.toNatClampNeg ((17 : Int32) + ((3 : Int32) * p2))) (((spX5_more (spX5_more (spX5_more kbo (2 : Int32) (Int32.toInt64 p1)) (4 : Int32) (Int32.toInt64 (-p1))) (((17 : Int32) + ((3 : Int32) * p2)) + (1 : Int32)) (Int32.toInt64 p1)) (Int32.toNatClampNeg ((17 : Int32) + ((3 : Int32) * p2)))) + (1 : Int32))) (Int32.toNatClampNeg (10 : Int32))) + (1 : Int32))) (Int32.toNatClampNeg (16 : Int32)) p1) (Int32.toNatClampNeg ((65 : Int32) + ((4 : Int32) * (p3 - p3 / (32 : Int32) * (32 : Int32)))))) = p3 then (spX5_more (upd (upd (upd (upd (spX5_more (spX5_more (spX5_more kbo (2 : Int32) (Int32.toInt64 p1)) (4 : Int32) (Int32.toInt64 (-p1))) (((17 : Int32) + ((3 : Int32) * p2)) + (1 : Int32)) (Int32.toInt64 p1)) (Int32.toNatClampNeg ((17 : Int32) + ((3 : Int32) * p2))) (((spX5_more (spX5_more (spX5_more kbo (2 : Int32) (Int32.toInt64 p1)) (4 : Int32) (Int32.toInt64 (-p1))) (((17 : Int32) + ((3 : Int32) * p2)) + (1 : Int32)) (Int32.toInt64 p1)) (Int32.toNatClampNeg ((17 : Int32) + ((3 : Int32) * p2)))) + (1 : Int32))) (Int32.toNatClampNeg (10 : Int32)) (((upd (spX5_more (spX5_more (spX5_more kbo (2 : Int32) (Int32.toInt64 p1)) (4 : Int32) (Int32.toInt64 (-p1))) (((17 : Int32) + ((3 : Int32) * p2)) + (1 : Int32)) (Int32.toInt64 p1)) (Int32.toNatClampNeg ((17 : Int32) + ((3 : Int32) * p2))) (((spX5_more (spX5_more (spX5_more kbo (2 : Int32) (Int32.toInt64 p1)) (4 : Int32) (Int32.toInt64 (-p1))) (((17 : Int32) + ((3 : Int32) * p2)) + (1 : Int32)) (Int32.toInt64 p1)) (Int32.toNatClampNeg ((17 : Int32) + ((3 : Int32) * p2)))) + (1 : Int32))) (Int32.toNatClampNeg (10 : Int32))) + (1 : Int32))) (Int32.toNatClampNeg (16 : Int32)) p1) (Int32.toNatClampNeg (((65 : Int32) + ((4 : Int32) * (p3 - p3 / (32 : Int32) * (32 : Int32)))) + (1 : Int32))) (((upd (upd (upd (spX5_more (spX5_more (spX5_more kbo (2 : Int32) (Int32.toInt64 p1)) (4 : Int32) (Int32.toInt64 (-p1))) (((17 : Int32) + ((3 : Int32) * p2)) + (1 : Int32)) (Int32.toInt64 p1)) (Int32.toNatClampNeg ((17 : Int32) + ((3 : Int32) * p2))) (((spX5_more (spX5_more (spX5_more kbo (2 : Int32) (Int32.toInt64 p1)) (4 : Int32) (Int32.toInt64 (-p1))) (((17 : Int32) + ((3 : Int32) * p2)) + (1 : Int32)) (Int32.toInt64 p1)) (Int32.toNatClampNeg ((17 : Int32) + ((3 : Int32) * p2)))) + (1 : Int32))) (Int32.toNatClampNeg (10 : Int32)) (((upd (spX5_more (spX5_more (spX5_more kbo (2 : Int32) (Int32.toInt64 p1)) (4 : Int32) (Int32.toInt64 (-p1))) (((17 : Int32) + ((3 : Int32) * p2)) + (1 : Int32)) (Int32.toInt64 p1)) (Int32.toNatClampNeg ((17 : Int32) + ((3 : Int32) * p2))) (((spX5_more (spX5_more (spX5_more kbo (2 : Int32) (Int32.toInt64 p1)) (4 : Int32) (Int32.toInt64 (-p1))) (((17 : Int32) + ((3 : Int32) * p2)) + (1 : Int32)) (Int32.toInt64 p1)) (Int32.toNatClampNeg ((17 : Int32) + ((3 : Int32) * p2)))) + (1 : Int32))) (Int32.toNatClampNeg (10 : Int32))) + (1 : Int32))) (Int32.toNatClampNeg (16 : Int32)) p1) (Int32.toNatClampNeg (((65 : Int32) + ((4 : Int32) * (p3 - p3 / (32 : Int32) * (32 : Int32)))) + (1 : Int32)))) + (1 : Int32))) (((65 : Int32) + ((4 : Int32) * (p3 - p3 / (32 : Int32) * (32 : Int32)))) + (2 : Int32)) (Int32.toInt64 p1)) else (upd (upd (upd (spX5_more (spX5_more (spX5_more kbo (2 : Int32) (Int32.toInt64 p1)) (4 : Int32) (Int32.toInt64 (-p1))) (((17 : Int32) + ((3 : Int32) * p2)) + (1 : Int32)) (Int32.toInt64 p1)) (Int32.toNatClampNeg ((17 : Int32) + ((3 : Int32) * p2))) (((spX5_more (spX5_more (spX5_more kbo (2 : Int32) (Int32.toInt64 p1)) (4 : Int32) (Int32.toInt64 (-p1))) (((17 : Int32) + ((3 : Int32) * p2)) + (1 : Int32)) (Int32.toInt64 p1)) (Int32.toNatClampNeg ((17 : Int32) + ((3 : Int32) * p2)))) + (1 : Int32))) (Int32.toNatClampNeg (10 : Int32)) (((upd (spX5_more (spX5_more (spX5_more kbo (2 : Int32) (Int32.toInt64 p1)) (4 : Int32) (Int32.toInt64 (-p1))) (((17 : Int32) + ((3 : Int32) * p2)) + (1 : Int32)) (Int32.toInt64 p1)) (Int32.toNatClampNeg ((17 : Int32) + ((3 : Int32) * p2))) (((spX5_more (spX5_more (spX5_more kbo (2 : Int32) (Int32.toInt64 p1)) (4 : Int32) (Int32.toInt64 (-p1))) (((17 : Int32) + ((3 : Int32) * p2)) + (1 : Int32)) (Int32.toInt64 p1)) (Int32.toNatClampNeg ((17 : Int32) + ((3 : Int32) * p2)))) + (1 : Int32))) (Int32.toNatClampNeg (10 : Int32))) + (1 : Int32))) (Int32.toNatClampNeg (16 : Int32)) p1)) else (if ((upd (upd (upd (upd (upd (upd (upd (spX5_more (spX5_more (spX5_more kbo (2 : Int32) (Int32.toInt64 p1)) (4 : Int32) (Int32.toInt64 (-p1))) (((17 : Int32) + ((3 : Int32) * p2)) + (1 : Int32)) (Int32.toInt64 p1)) (Int32.toNatClampNeg ((17 : Int32) + ((3 : Int32) * p2))) (((spX5_more (spX5_more (spX5_more kbo (2 : Int32) (Int32.toInt64 p1)) (4 : Int32) (Int32.toInt64 (-p1))) (((17 : Int32) + ((3 : Int32) * p2)) + (1 : Int32)) (Int32.toInt64 p1)) (Int32.toNatClampNeg ((17 : Int32) + ((3 : Int32) * p2)))) + (1 : Int32))) (Int32.toNatClampNeg (10 : Int32)) (((upd (spX5_more (spX5_more (spX5_more kbo (2 : Int32) (Int32.toInt64 p1)) (4 : Int32) (Int32.toInt64 (-p1))) (((17 : Int32) + ((3 : Int32) * p2)) + (1 : Int32)) (Int32.toInt64 p1)) (Int32.toNatClampNeg ((17 : Int32) + ((3 : Int32) * p2))) (((spX5_more (spX5_more (spX5_more kbo (2 : Int32) (Int32.toInt64 p1)) (4 : Int32) (Int32.toInt64 (-p1))) (((17 : Int32) + ((3 : Int32) * p2)) + (1 : Int32)) (Int32.toInt64 p1)) (Int32.toNatClampNeg ((17 : Int32) + ((3 : Int32) * p2)))) + (1 : Int32))) (Int32.toNatClampNeg (10 : Int32))) + (1 : Int32))) (Int32.toNatClampNeg (16 : Int32)) p1) (Int32.toNatClampNeg ((65 : Int32) + ((4 : Int32) * (p3 - p3 / (32 : Int32) * (32 : Int32))))) p3) (Int32.toNatClampNeg (((65 : Int32) + ((4 : Int32) * (p3 - p3 / (32 : Int32) * (32 : Int32)))) + (1 : Int32))) (0 : Int32)) (Int32.toNatClampNeg (((65 : Int32) + ((4 : Int32) * (p3 - p3 / (32 : Int32) * (32 : Int32)))) + (2 : Int32))) (0 : Int32)) (Int32.toNatClampNeg (((65 : Int32) + ((4 : Int32) * (p3 - p3 / (32 : Int32) * (32 : Int32)))) + (3 : Int32))) (0 : Int32)) (Int32.toNatClampNeg ((65 : Int32) + ((4 : Int32) * (p3 - p3 / (32 : Int32) * (32 : Int32)))))) = p3 then (spX5_more (upd (upd (upd (upd (upd (upd (upd (upd (spX5_more (spX5_more (spX5_more kbo (2 : Int32) (Int32.toInt64 p1)) (4 : Int32) (Int32.toInt64 (-p1))) (((17 : Int32) + ((3 : Int32) * p2)) + (1 : Int32)) (Int32.toInt64 p1)) (Int32.toNatClampNeg ((17 : Int32) + ((3 : Int32) * p2))) (((spX5_more (spX5_more (spX5_more kbo (2 : Int32) (Int32.toInt64 p1)) (4 : Int32) (Int32.toInt64 (-p1))) (((17 : Int32) + ((3 : Int32) * p2)) + (1 : Int32)) (Int32.toInt64 p1)) (Int32.toNatClampNeg ((17 : Int32) + ((3 : Int32) * p2)))) + (1 : Int32))) (Int32.toNatClampNeg (10 : Int32)) (((upd (spX5_more (spX5_more (spX5_more kbo (2 : Int32) (Int32.toInt64 p1)) (4 : Int32) (Int32.toInt64 (-p1))) (((17 : Int32) + ((3 : Int32) * p2)) + (1 : Int32)) (Int32.toInt64 p1)) (Int32.toNatClampNeg ((17 : Int32) + ((3 : Int32) * p2))) (((spX5_more (spX5_more (spX5_more kbo (2 : Int32) (Int32.toInt64 p1)) (4 : Int32) (Int32.toInt64 (-p1))) (((17 : Int32) + ((3 : Int32) * p2)) + (1 : Int32)) (Int32.toInt64 p1)) (Int32.toNatClampNeg ((17 : Int32) + ((3 : Int32) * p2)))) + (1 : Int32))) (Int32.toNatClampNeg (10 : Int32))) + (1 : Int32))) (Int32.toNatClampNeg (16 : Int32)) p1) (Int32.toNatClampNeg ((65 : Int32) + ((4 : Int32) * (p3 - p3 / (32 : Int32) * (32 : Int32))))) p3) (Int32.toNatClampNeg (((65 : Int32) + ((4 : Int32) * (p3 - p3 / (32 : Int32) * (32 : Int32)))) + (1 : Int32))) (0 : Int32)) (Int32.toNatClampNeg (((65 : Int32) + ((4 : Int32) * (p3 - p3 / (32 : Int32) * (32 : Int32)))) + (2 : Int32))) (0 : Int32)) (Int32.toNatClampNeg (((65 : Int32) + ((4 : Int32) * (p3 - p3 / (32 : Int32) * (32 : Int32)))) + (3 : Int32))) (0 : Int32)) (Int32.toNatClampNeg (((65 : Int32) + ((4 : Int32) * (p3 - p3 / (32 : Int32) * (32 : Int32)))) + (1 : Int32))) (((upd (upd (upd (upd (upd (upd (upd (spX5_more (spX5_more (spX5_more kbo (2 : Int32) (Int32.toInt64 p1)) (4 : Int32) (Int32.toInt64 (-p1))) (((17 : Int32) + ((3 : Int32) * p2)) + (1 : Int32)) (Int32.toInt64 p1)) (Int32.toNatClampNeg ((17 : Int32) + ((3 : Int32) * p2))) (((spX5_more (spX5_more (spX5_more kbo (2 : Int32) (Int32.toInt64 p1)) (4 : Int32) (Int32.toInt64 (-p1))) (((17 : Int32) + ((3 : Int32) * p2)) + (1 : Int32)) (Int32.toInt64 p1)) (Int32.toNatClampNeg ((17 : Int32) + ((3 : Int32) * p2)))) + (1 : Int32))) (Int32.toNatClampNeg (10 : Int32)) (((upd (spX5_more (spX5_more (spX5_more kbo (2 : Int32) (Int32.toInt64 p1)) (4 : Int32) (Int32.toInt64 (-p1))) (((17 : Int32) + ((3 : Int32) * p2)) + (1 : Int32)) (Int32.toInt64 p1)) (Int32.toNatClampNeg ((17 : Int32) + ((3 : Int32) * p2))) (((spX5_more (spX5_more (spX5_more kbo (2 : Int32) (Int32.toInt64 p1)) (4 : Int32) (Int32.toInt64 (-p1))) (((17 : Int32) + ((3 : Int32) * p2)) + (1 : Int32)) (Int32.toInt64 p1)) (Int32.toNatClampNeg ((17 : Int32) + ((3 : Int32) * p2)))) + (1 : Int32))) (Int32.toNatClampNeg (10 : Int32))) + (1 : Int32))) (Int32.toNatClampNeg (16 : Int32)) p1) (Int32.toNatClampNeg ((65 : Int32) + ((4 : Int32) * (p3 - p3 / (32 : Int32) * (32 : Int32))))) p3) (Int32.toNatClampNeg (((65 : Int32) + ((4 : Int32) * (p3 - p3 / (32 : Int32) * (32 : Int32)))) + (1 : Int32))) (0 : Int32)) (Int32.toNatClampNeg (((65 : Int32) + ((4 : Int32) * (p3 - p3 / (32 : Int32) * (32 : Int32)))) + (2 : Int32))) (0 : Int32)) (Int32.toNatClampNeg (((65 : Int32) + ((4 : Int32) * (p3 - p3 / (32 : Int32) * (32 : Int32)))) + (3 : Int32))) (0 : Int32)) (Int32.toNatClampNeg (((65 : Int32) + ((4 : Int32) * (p3 - p3 / (32 : Int32) * (32 : Int32)))) + (1 : Int32)))) + (1 : Int32))) (((65 : Int32) + ((4 : Int32) * (p3 - p3 / (32 : Int32) * (32 : Int32)))) + (2 : Int32)) (Int32.toInt64 p1)) else (upd (upd (upd (upd (upd (upd (upd (spX5_more (spX5_more (spX5_more kbo (2 : Int32) (Int32.toInt64 p1)) (4 : Int32) (Int32.toInt64 (-p1))) (((17 : Int32) + ((3 : Int32) * p2)) + (1 : Int32)) (Int32.toInt64 p1)) (Int32.toNatClampNeg ((17 : Int32) + ((3 : Int32) * p2))) (((spX5_more (spX5_more (spX5_more kbo (2 : Int32) (Int32.toInt64 p1)) (4 : Int32) (Int32.toInt64 (-p1))) (((17 : Int32) + ((3 : Int32) * p2)) + (1 : Int32)) (Int32.toInt64 p1)) (Int32.toNatClampNeg ((17 : Int32) + ((3 : Int32) * p2)))) + (1 : Int32))) (Int32.toNatClampNeg (10 : Int32)) (((upd (spX5_more (spX5_more (spX5_more kbo (2 : Int32) (Int32.toInt64 p1)) (4 : Int32) (Int32.toInt64 (-p1))) (((17 : Int32) + ((3 : Int32) * p2)) + (1 : Int32)) (Int32.toInt64 p1)) (Int32.toNatClampNeg ((17 : Int32) + ((3 : Int32) * p2))) (((spX5_more (spX5_more (spX5_more kbo (2 : Int32) (Int32.toInt64 p1)) (4 : Int32) (Int32.toInt64 (-p1))) (((17 : Int32) + ((3 : Int32) * p2)) + (1 : Int32)) (Int32.toInt64 p1)) (Int32.toNatClampNeg ((17 : Int32) + ((3 : Int32) * p2)))) + (1 : Int32))) (Int32.toNatClampNeg (10 : Int32))) + (1 : Int32))) (Int32.toNatClampNeg (16 : Int32)) p1) (Int32.toNatClampNeg ((65 : Int32) + ((4 : Int32) * (p3 - p3 / (32 : Int32) * (32 : Int32))))) p3) (Int32.toNatClampNeg (((65 : Int32) + ((4 : Int32) * (p3 - p3 / (32 : Int32) * (32 : Int32)))) + (1 : Int32))) (0 : Int32)) (Int32.toNatClampNeg (((65 : Int32) + ((4 : Int32) * (p3 - p3 / (32 : Int32) * (32 : Int32)))) + (2 : Int32))) (0 : Int32)) (Int32.toNatClampNeg (((65 : Int32) + ((4 : Int32) * (p3 - p3 / (32 : Int32) * (32 : Int32)))) + (3 : Int32))) (0 : Int32))))
set_option maxHeartbeats 4000000 in
set_option maxRecDepth 100000 in
theorem c_X5_piece (l : Launch) (D : va_G) (kO km kw kb kr kd kt : Nat) (cA : ClassId) (kth : Int32) (kmn : Int32) (kpw : Int32) (klf : Int32) (kmk : Int32) (ksc : Int32) (krc : Int32) (kno : Int32) (kpp : Int32) (kpc : Int64) (kme : Nat → Int32) (kwe : Nat → Int32) (kbo : Nat → Int32) (kre : Nat → Int32) (kdr : Nat → Int32) (ktb : Nat → Int32) (p1 : Int32) (p2 : Int32) (p3 : Int32) (hd : ∃ j : Nat, p2 = nI j ∧ j < 16) (ht : ∃ j : Nat, p3 = nI j ∧ j < 2 ^ 31) : kWv l yX5_piece cX5_piece 6 none { frames := 2, cells := 0, slots := 0, locals := 46 } D [(cA, .int)] [.ref kO, .int p1, .int p2, .int p3] (wK kO km kw kb kr kd kt cA kth kmn kpw klf kmk ksc krc kno kpp kpc kme kwe kbo kre kdr ktb) (wK kO km kw kb kr kd kt cA kth kmn kpw klf kmk ksc krc kno kpp kpc kme kwe (spX5_piece kbo p1 p2 p3) kre kdr ktb) := by
  intro sz
  refine Met.ofW (cc := cX5_piece) (maxL := 6) (ret := none) (by decide) rfl ?_
  intro p e s m args below meth c s₁ B hml hv
  obtain ⟨rfl, hsz, hP, hK, hD0⟩ := hv
  have hx := B.exec
  have hb := B.bytes
  have hr := B.returns
  have hts : ∀ w ∈ kG, w.before _ s = true := fun w h => atoms_spec (ws := kT yX5_piece cX5_piece 6 none) B.pre w (List.mem_cons_of_mem _ h)
  have hown : s.vm.findClass RX5 = some m.cls := findClass_of_methodNamed B.named
  have hlocks := B.notSynchronized
  subst hsz
  have hD := hD0.self (sz := s.heap.size)
  generalize hAe : va_A (wK kO km kw kb kr kd kt cA kth kmn kpw klf kmk ksc krc kno kpp kpc kme kwe kbo kre kdr ktb) s.heap.size = A at hD ⊢
  have hA : ∀ q : Nat, s.heap.size ≤ q → A q := fun q h => by rw [← hAe]; exact Or.inr h
  have hS : va_S A s.heap s.heap [] := va_S.rf
  have hl := lv_entry ([.ref kO, .int p1, .int p2, .int p3]) (n := 6) (Nat.le_of_ble_eq_true rfl)
  rw [lg_entry_eq]
  generalize (lg_sl ([.ref kO, .int p1, .int p2, .int p3]) ++ List.replicate (6 - (lg_sl ([.ref kO, .int p1, .int p2, .int p3])).length) Slot.unset).toArray = ls at hl ⊢
  have hl : lv_has ls 6 [(0, .ref kO), (1, .int p1), (2, .int p2), (3, .int p3)] := hl
  obtain ⟨dq, hdq, hdq1⟩ := hd
  obtain ⟨tq, htq, htq1⟩ := ht
  have hr32 : p3 - p3 / (32 : Int32) * (32 : Int32) = nI (tq % 32) := by rw [htq]; exact pk_rem (d := 32) htq1 (by decide) (by decide)
  have htm : tq % 32 < 32 := Nat.mod_lt _ (by decide)
  refine lv_bipush (v := 17) hx hb dX5_piece_0 (by decide) ?_
  refine lv_iconst (v := 3) hx hb dX5_piece_2 (by decide) ?_
  refine lv_iload_n hx hb dX5_piece_3 rfl (lv_at hl 2 rfl) ?_
  refine lv_imul hx hb dX5_piece_4 ?_
  refine lv_iadd hx hb dX5_piece_5 ?_
  refine lv_istore (lv' := [(4, .int ((17 : Int32) + ((3 : Int32) * p2))), (0, .ref kO), (1, .int p1), (2, .int p2), (3, .int p3)]) hx hb dX5_piece_6 hl (by decide) rfl (fun ls hl => ?_)
  refine lv_aload_n hx hb dX5_piece_8 rfl (lv_at hl 1 rfl) ?_
  refine lv_iconst (v := 2) hx hb dX5_piece_9 (by decide) ?_
  refine lv_iload_n hx hb dX5_piece_10 rfl (lv_at hl 2 rfl) ?_
  refine lv_i2l (v := (Int32.toInt64 p1)) hx hb dX5_piece_11 rfl ?_
  refine k_wrVv (As := [.int (2 : Int32), .long (Int32.toInt64 p1)]) (rest := []) (ci := 5) (q0 := 0) (ws' := (wK kO km kw kb kr kd kt cA kth kmn kpw klf kmk ksc krc kno kpp kpc kme kwe (spX5_more kbo (2 : Int32) (Int32.toInt64 p1)) kre kdr ktb)) (wr := []) ⟨hx, hb, hml, hown, hts⟩ k_self (c_X5_more l D kO km kw kb kr kd kt cA kth kmn kpw klf kmk ksc krc kno kpp kpc kme kwe kbo kre kdr ktb (2 : Int32) (Int32.toInt64 p1) ⟨2, rfl, by decide⟩) kv_X5_98 hP hD hS hA hK rfl rfl [0, 1, 2, 3, 4, 5, 6] [] [0, 1, 2, 3, 4, 5, 6] rfl (by decide) rfl (by decide) (by decide) rfl (by decide) rfl rfl ⟨Nat.le_of_ble_eq_true rfl, Nat.le_of_ble_eq_true rfl⟩ rfl hl.1 rfl (Nat.le_of_ble_eq_true rfl) dX5_piece_12 ⟨Nat.zero_le _, Nat.zero_le _⟩ (fun H locs hP hD hS => ?_)
  refine lv_aload_n hx hb dX5_piece_15 rfl (lv_at hl 1 rfl) ?_
  refine lv_iconst (v := 4) hx hb dX5_piece_16 (by decide) ?_
  refine lv_iload_n hx hb dX5_piece_17 rfl (lv_at hl 2 rfl) ?_
  refine lv_ineg hx hb dX5_piece_18 ?_
  refine lv_i2l (v := (Int32.toInt64 (-p1))) hx hb dX5_piece_19 rfl ?_
  refine k_wrVv (As := [.int (4 : Int32), .long (Int32.toInt64 (-p1))]) (rest := []) (ci := 5) (q0 := 0) (ws' := (wK kO km kw kb kr kd kt cA kth kmn kpw klf kmk ksc krc kno kpp kpc kme kwe (spX5_more (spX5_more kbo (2 : Int32) (Int32.toInt64 p1)) (4 : Int32) (Int32.toInt64 (-p1))) kre kdr ktb)) (wr := []) ⟨hx, hb, hml, hown, hts⟩ k_self (c_X5_more l D kO km kw kb kr kd kt cA kth kmn kpw klf kmk ksc krc kno kpp kpc kme kwe (spX5_more kbo (2 : Int32) (Int32.toInt64 p1)) kre kdr ktb (4 : Int32) (Int32.toInt64 (-p1)) ⟨4, rfl, by decide⟩) kv_X5_98 hP hD hS hA hK rfl rfl [0, 1, 2, 3, 4, 5, 6] [] [0, 1, 2, 3, 4, 5, 6] rfl (by decide) rfl (by decide) (by decide) rfl (by decide) rfl rfl ⟨Nat.le_of_ble_eq_true rfl, Nat.le_of_ble_eq_true rfl⟩ rfl hl.1 rfl (Nat.le_of_ble_eq_true rfl) dX5_piece_20 ⟨Nat.zero_le _, Nat.zero_le _⟩ (fun H locs hP hD hS => ?_)
  refine lv_aload_n hx hb dX5_piece_23 rfl (lv_at hl 1 rfl) ?_
  refine lv_iload hx hb dX5_piece_24 (lv_at hl 0 rfl) ?_
  refine lv_iconst (v := 1) hx hb dX5_piece_26 (by decide) ?_
  refine lv_iadd hx hb dX5_piece_27 ?_
  refine lv_iload_n hx hb dX5_piece_28 rfl (lv_at hl 2 rfl) ?_
  refine lv_i2l (v := (Int32.toInt64 p1)) hx hb dX5_piece_29 rfl ?_
  refine k_wrVv (As := [.int (((17 : Int32) + ((3 : Int32) * p2)) + (1 : Int32)), .long (Int32.toInt64 p1)]) (rest := []) (ci := 5) (q0 := 0) (ws' := (wK kO km kw kb kr kd kt cA kth kmn kpw klf kmk ksc krc kno kpp kpc kme kwe (spX5_more (spX5_more (spX5_more kbo (2 : Int32) (Int32.toInt64 p1)) (4 : Int32) (Int32.toInt64 (-p1))) (((17 : Int32) + ((3 : Int32) * p2)) + (1 : Int32)) (Int32.toInt64 p1)) kre kdr ktb)) (wr := []) ⟨hx, hb, hml, hown, hts⟩ k_self (c_X5_more l D kO km kw kb kr kd kt cA kth kmn kpw klf kmk ksc krc kno kpp kpc kme kwe (spX5_more (spX5_more kbo (2 : Int32) (Int32.toInt64 p1)) (4 : Int32) (Int32.toInt64 (-p1))) kre kdr ktb (((17 : Int32) + ((3 : Int32) * p2)) + (1 : Int32)) (Int32.toInt64 p1) ⟨17 + 3 * dq + 1, by simp only [hdq, show (17 : Int32) = nI 17 from rfl, show (3 : Int32) = nI 3 from rfl, show (1 : Int32) = nI 1 from rfl, pk_mul, nI_add], by omega⟩) kv_X5_98 hP hD hS hA hK rfl rfl [0, 1, 2, 3, 4, 5, 6] [] [0, 1, 2, 3, 4, 5, 6] rfl (by decide) rfl (by decide) (by decide) rfl (by decide) rfl rfl ⟨Nat.le_of_ble_eq_true rfl, Nat.le_of_ble_eq_true rfl⟩ rfl hl.1 rfl (Nat.le_of_ble_eq_true rfl) dX5_piece_30 ⟨Nat.zero_le _, Nat.zero_le _⟩ (fun H locs hP hD hS => ?_)
  refine lv_aload_n hx hb dX5_piece_33 rfl (lv_at hl 1 rfl) ?_
  refine va_get (D := D) (ci := 5) (v := .ref kb) (C := RX5) (T := TX5) (N := 16) hx hb hts k_inX5 hown hK hP 0 rfl rfl 4 (by decide) (hts _ kw_493) (fun _ h9 => h9) rfl dX5_piece_34 ?_
  refine lv_iload hx hb dX5_piece_37 (lv_at hl 0 rfl) ?_
  refine lv_dup2_11 hx hb dX5_piece_39 rfl rfl ?_
  refine va_iald hx hb hK hP 3 0 rfl rfl (by simp only [hdq, show (17 : Int32) = nI 17 from rfl, show (3 : Int32) = nI 3 from rfl, pk_mul, nI_add]; exact vp_in_nI (by omega) (by decide)) dX5_piece_40 ?_
  refine lv_iconst (v := 1) hx hb dX5_piece_41 (by decide) ?_
  refine lv_iadd hx hb dX5_piece_42 ?_
  refine va_iast hx hb hK hP hD hS 3 0 rfl rfl (by simp only [hdq, show (17 : Int32) = nI 17 from rfl, show (3 : Int32) = nI 3 from rfl, pk_mul, nI_add]; exact vp_in_nI (by omega) (by decide)) dX5_piece_43 (fun H locs hP hD hS => ?_)
  have hP : va_P D vwCl (wK kO km kw kb kr kd kt cA kth kmn kpw klf kmk ksc krc kno kpp kpc kme kwe (upd (spX5_more (spX5_more (spX5_more kbo (2 : Int32) (Int32.toInt64 p1)) (4 : Int32) (Int32.toInt64 (-p1))) (((17 : Int32) + ((3 : Int32) * p2)) + (1 : Int32)) (Int32.toInt64 p1)) (Int32.toNatClampNeg ((17 : Int32) + ((3 : Int32) * p2))) (((spX5_more (spX5_more (spX5_more kbo (2 : Int32) (Int32.toInt64 p1)) (4 : Int32) (Int32.toInt64 (-p1))) (((17 : Int32) + ((3 : Int32) * p2)) + (1 : Int32)) (Int32.toInt64 p1)) (Int32.toNatClampNeg ((17 : Int32) + ((3 : Int32) * p2)))) + (1 : Int32))) kre kdr ktb) H := hP
  have hD : va_D A (wK kO km kw kb kr kd kt cA kth kmn kpw klf kmk ksc krc kno kpp kpc kme kwe (upd (spX5_more (spX5_more (spX5_more kbo (2 : Int32) (Int32.toInt64 p1)) (4 : Int32) (Int32.toInt64 (-p1))) (((17 : Int32) + ((3 : Int32) * p2)) + (1 : Int32)) (Int32.toInt64 p1)) (Int32.toNatClampNeg ((17 : Int32) + ((3 : Int32) * p2))) (((spX5_more (spX5_more (spX5_more kbo (2 : Int32) (Int32.toInt64 p1)) (4 : Int32) (Int32.toInt64 (-p1))) (((17 : Int32) + ((3 : Int32) * p2)) + (1 : Int32)) (Int32.toInt64 p1)) (Int32.toNatClampNeg ((17 : Int32) + ((3 : Int32) * p2)))) + (1 : Int32))) kre kdr ktb) := hD
  refine lv_aload_n hx hb dX5_piece_44 rfl (lv_at hl 1 rfl) ?_
  refine va_get (D := D) (ci := 5) (v := .ref kb) (C := RX5) (T := TX5) (N := 16) hx hb hts k_inX5 hown hK hP 0 rfl rfl 4 (by decide) (hts _ kw_493) (fun _ h9 => h9) rfl dX5_piece_45 ?_
  refine lv_bipush (v := 10) hx hb dX5_piece_48 (by decide) ?_
  refine lv_dup2_11 hx hb dX5_piece_50 rfl rfl ?_
  refine va_iald hx hb hK hP 3 0 rfl rfl (vp_in_nI (n := 10) (N := 193) (by decide) (by decide)) dX5_piece_51 ?_
  refine lv_iconst (v := 1) hx hb dX5_piece_52 (by decide) ?_
  refine lv_iadd hx hb dX5_piece_53 ?_
  refine va_iast hx hb hK hP hD hS 3 0 rfl rfl (vp_in_nI (n := 10) (N := 193) (by decide) (by decide)) dX5_piece_54 (fun H locs hP hD hS => ?_)
  have hP : va_P D vwCl (wK kO km kw kb kr kd kt cA kth kmn kpw klf kmk ksc krc kno kpp kpc kme kwe (upd (upd (spX5_more (spX5_more (spX5_more kbo (2 : Int32) (Int32.toInt64 p1)) (4 : Int32) (Int32.toInt64 (-p1))) (((17 : Int32) + ((3 : Int32) * p2)) + (1 : Int32)) (Int32.toInt64 p1)) (Int32.toNatClampNeg ((17 : Int32) + ((3 : Int32) * p2))) (((spX5_more (spX5_more (spX5_more kbo (2 : Int32) (Int32.toInt64 p1)) (4 : Int32) (Int32.toInt64 (-p1))) (((17 : Int32) + ((3 : Int32) * p2)) + (1 : Int32)) (Int32.toInt64 p1)) (Int32.toNatClampNeg ((17 : Int32) + ((3 : Int32) * p2)))) + (1 : Int32))) (Int32.toNatClampNeg (10 : Int32)) (((upd (spX5_more (spX5_more (spX5_more kbo (2 : Int32) (Int32.toInt64 p1)) (4 : Int32) (Int32.toInt64 (-p1))) (((17 : Int32) + ((3 : Int32) * p2)) + (1 : Int32)) (Int32.toInt64 p1)) (Int32.toNatClampNeg ((17 : Int32) + ((3 : Int32) * p2))) (((spX5_more (spX5_more (spX5_more kbo (2 : Int32) (Int32.toInt64 p1)) (4 : Int32) (Int32.toInt64 (-p1))) (((17 : Int32) + ((3 : Int32) * p2)) + (1 : Int32)) (Int32.toInt64 p1)) (Int32.toNatClampNeg ((17 : Int32) + ((3 : Int32) * p2)))) + (1 : Int32))) (Int32.toNatClampNeg (10 : Int32))) + (1 : Int32))) kre kdr ktb) H := hP
  have hD : va_D A (wK kO km kw kb kr kd kt cA kth kmn kpw klf kmk ksc krc kno kpp kpc kme kwe (upd (upd (spX5_more (spX5_more (spX5_more kbo (2 : Int32) (Int32.toInt64 p1)) (4 : Int32) (Int32.toInt64 (-p1))) (((17 : Int32) + ((3 : Int32) * p2)) + (1 : Int32)) (Int32.toInt64 p1)) (Int32.toNatClampNeg ((17 : Int32) + ((3 : Int32) * p2))) (((spX5_more (spX5_more (spX5_more kbo (2 : Int32) (Int32.toInt64 p1)) (4 : Int32) (Int32.toInt64 (-p1))) (((17 : Int32) + ((3 : Int32) * p2)) + (1 : Int32)) (Int32.toInt64 p1)) (Int32.toNatClampNeg ((17 : Int32) + ((3 : Int32) * p2)))) + (1 : Int32))) (Int32.toNatClampNeg (10 : Int32)) (((upd (spX5_more (spX5_more (spX5_more kbo (2 : Int32) (Int32.toInt64 p1)) (4 : Int32) (Int32.toInt64 (-p1))) (((17 : Int32) + ((3 : Int32) * p2)) + (1 : Int32)) (Int32.toInt64 p1)) (Int32.toNatClampNeg ((17 : Int32) + ((3 : Int32) * p2))) (((spX5_more (spX5_more (spX5_more kbo (2 : Int32) (Int32.toInt64 p1)) (4 : Int32) (Int32.toInt64 (-p1))) (((17 : Int32) + ((3 : Int32) * p2)) + (1 : Int32)) (Int32.toInt64 p1)) (Int32.toNatClampNeg ((17 : Int32) + ((3 : Int32) * p2)))) + (1 : Int32))) (Int32.toNatClampNeg (10 : Int32))) + (1 : Int32))) kre kdr ktb) := hD
  refine lv_aload_n hx hb dX5_piece_55 rfl (lv_at hl 1 rfl) ?_
  refine va_get (D := D) (ci := 5) (v := .ref kb) (C := RX5) (T := TX5) (N := 16) hx hb hts k_inX5 hown hK hP 0 rfl rfl 4 (by decide) (hts _ kw_493) (fun _ h9 => h9) rfl dX5_piece_56 ?_
  refine lv_bipush (v := 16) hx hb dX5_piece_59 (by decide) ?_
  refine lv_iload_n hx hb dX5_piece_61 rfl (lv_at hl 2 rfl) ?_
  refine va_iast hx hb hK hP hD hS 3 0 rfl rfl (vp_in_nI (n := 16) (N := 193) (by decide) (by decide)) dX5_piece_62 (fun H locs hP hD hS => ?_)
  have hP : va_P D vwCl (wK kO km kw kb kr kd kt cA kth kmn kpw klf kmk ksc krc kno kpp kpc kme kwe (upd (upd (upd (spX5_more (spX5_more (spX5_more kbo (2 : Int32) (Int32.toInt64 p1)) (4 : Int32) (Int32.toInt64 (-p1))) (((17 : Int32) + ((3 : Int32) * p2)) + (1 : Int32)) (Int32.toInt64 p1)) (Int32.toNatClampNeg ((17 : Int32) + ((3 : Int32) * p2))) (((spX5_more (spX5_more (spX5_more kbo (2 : Int32) (Int32.toInt64 p1)) (4 : Int32) (Int32.toInt64 (-p1))) (((17 : Int32) + ((3 : Int32) * p2)) + (1 : Int32)) (Int32.toInt64 p1)) (Int32.toNatClampNeg ((17 : Int32) + ((3 : Int32) * p2)))) + (1 : Int32))) (Int32.toNatClampNeg (10 : Int32)) (((upd (spX5_more (spX5_more (spX5_more kbo (2 : Int32) (Int32.toInt64 p1)) (4 : Int32) (Int32.toInt64 (-p1))) (((17 : Int32) + ((3 : Int32) * p2)) + (1 : Int32)) (Int32.toInt64 p1)) (Int32.toNatClampNeg ((17 : Int32) + ((3 : Int32) * p2))) (((spX5_more (spX5_more (spX5_more kbo (2 : Int32) (Int32.toInt64 p1)) (4 : Int32) (Int32.toInt64 (-p1))) (((17 : Int32) + ((3 : Int32) * p2)) + (1 : Int32)) (Int32.toInt64 p1)) (Int32.toNatClampNeg ((17 : Int32) + ((3 : Int32) * p2)))) + (1 : Int32))) (Int32.toNatClampNeg (10 : Int32))) + (1 : Int32))) (Int32.toNatClampNeg (16 : Int32)) p1) kre kdr ktb) H := hP
  have hD : va_D A (wK kO km kw kb kr kd kt cA kth kmn kpw klf kmk ksc krc kno kpp kpc kme kwe (upd (upd (upd (spX5_more (spX5_more (spX5_more kbo (2 : Int32) (Int32.toInt64 p1)) (4 : Int32) (Int32.toInt64 (-p1))) (((17 : Int32) + ((3 : Int32) * p2)) + (1 : Int32)) (Int32.toInt64 p1)) (Int32.toNatClampNeg ((17 : Int32) + ((3 : Int32) * p2))) (((spX5_more (spX5_more (spX5_more kbo (2 : Int32) (Int32.toInt64 p1)) (4 : Int32) (Int32.toInt64 (-p1))) (((17 : Int32) + ((3 : Int32) * p2)) + (1 : Int32)) (Int32.toInt64 p1)) (Int32.toNatClampNeg ((17 : Int32) + ((3 : Int32) * p2)))) + (1 : Int32))) (Int32.toNatClampNeg (10 : Int32)) (((upd (spX5_more (spX5_more (spX5_more kbo (2 : Int32) (Int32.toInt64 p1)) (4 : Int32) (Int32.toInt64 (-p1))) (((17 : Int32) + ((3 : Int32) * p2)) + (1 : Int32)) (Int32.toInt64 p1)) (Int32.toNatClampNeg ((17 : Int32) + ((3 : Int32) * p2))) (((spX5_more (spX5_more (spX5_more kbo (2 : Int32) (Int32.toInt64 p1)) (4 : Int32) (Int32.toInt64 (-p1))) (((17 : Int32) + ((3 : Int32) * p2)) + (1 : Int32)) (Int32.toInt64 p1)) (Int32.toNatClampNeg ((17 : Int32) + ((3 : Int32) * p2)))) + (1 : Int32))) (Int32.toNatClampNeg (10 : Int32))) + (1 : Int32))) (Int32.toNatClampNeg (16 : Int32)) p1) kre kdr ktb) := hD
  refine lv_bipush (v := 65) hx hb dX5_piece_63 (by decide) ?_
  refine lv_iconst (v := 4) hx hb dX5_piece_65 (by decide) ?_
  refine lv_iload_n hx hb dX5_piece_66 rfl (lv_at hl 4 rfl) ?_
  refine lv_bipush (v := 32) hx hb dX5_piece_67 (by decide) ?_
  refine lv_irem hx hb dX5_piece_69 (by decide) ?_
  refine lv_imul hx hb dX5_piece_70 ?_
  refine lv_iadd hx hb dX5_piece_71 ?_
  refine lv_istore (lv' := [(5, .int ((65 : Int32) + ((4 : Int32) * (p3 - p3 / (32 : Int32) * (32 : Int32))))), (4, .int ((17 : Int32) + ((3 : Int32) * p2))), (0, .ref kO), (1, .int p1), (2, .int p2), (3, .int p3)]) hx hb dX5_piece_72 hl (by decide) rfl (fun ls hl => ?_)
  refine lv_aload_n hx hb dX5_piece_74 rfl (lv_at hl 2 rfl) ?_
  refine va_get (D := D) (ci := 5) (v := .ref kb) (C := RX5) (T := TX5) (N := 16) hx hb hts k_inX5 hown hK hP 0 rfl rfl 4 (by decide) (hts _ kw_493) (fun _ h9 => h9) rfl dX5_piece_75 ?_
  refine lv_iload hx hb dX5_piece_78 (lv_at hl 0 rfl) ?_
  refine va_iald hx hb hK hP 3 0 rfl rfl (by simp only [hr32, show (65 : Int32) = nI 65 from rfl, show (4 : Int32) = nI 4 from rfl, pk_mul, nI_add]; exact vp_in_nI (by omega) (by decide)) dX5_piece_80 ?_
  refine lv_iload_n hx hb dX5_piece_81 rfl (lv_at hl 5 rfl) ?_
  refine lv_icmp_ge (tgt := 123) hx hb dX5_piece_82 (by decide) (fun c_82 => ?_) (fun c_82 => ?_)
  · refine lv_aload_n hx hb dX5_piece_123 rfl (lv_at hl 2 rfl) ?_
    refine va_get (D := D) (ci := 5) (v := .ref kb) (C := RX5) (T := TX5) (N := 16) hx hb hts k_inX5 hown hK hP 0 rfl rfl 4 (by decide) (hts _ kw_493) (fun _ h9 => h9) rfl dX5_piece_124 ?_
    refine lv_iload hx hb dX5_piece_127 (lv_at hl 0 rfl) ?_
    refine va_iald hx hb hK hP 3 0 rfl rfl (by simp only [hr32, show (65 : Int32) = nI 65 from rfl, show (4 : Int32) = nI 4 from rfl, pk_mul, nI_add]; exact vp_in_nI (by omega) (by decide)) dX5_piece_129 ?_
    refine lv_iload_n hx hb dX5_piece_130 rfl (lv_at hl 5 rfl) ?_
    refine lv_icmp_ne (tgt := 157) hx hb dX5_piece_131 (by decide) (fun c_131 => ?_) (fun c_131 => ?_)
    · have hE : spX5_piece kbo p1 p2 p3 = (upd (upd (upd (spX5_more (spX5_more (spX5_more kbo (2 : Int32) (Int32.toInt64 p1)) (4 : Int32) (Int32.toInt64 (-p1))) (((17 : Int32) + ((3 : Int32) * p2)) + (1 : Int32)) (Int32.toInt64 p1)) (Int32.toNatClampNeg ((17 : Int32) + ((3 : Int32) * p2))) (((spX5_more (spX5_more (spX5_more kbo (2 : Int32) (Int32.toInt64 p1)) (4 : Int32) (Int32.toInt64 (-p1))) (((17 : Int32) + ((3 : Int32) * p2)) + (1 : Int32)) (Int32.toInt64 p1)) (Int32.toNatClampNeg ((17 : Int32) + ((3 : Int32) * p2)))) + (1 : Int32))) (Int32.toNatClampNeg (10 : Int32)) (((upd (spX5_more (spX5_more (spX5_more kbo (2 : Int32) (Int32.toInt64 p1)) (4 : Int32) (Int32.toInt64 (-p1))) (((17 : Int32) + ((3 : Int32) * p2)) + (1 : Int32)) (Int32.toInt64 p1)) (Int32.toNatClampNeg ((17 : Int32) + ((3 : Int32) * p2))) (((spX5_more (spX5_more (spX5_more kbo (2 : Int32) (Int32.toInt64 p1)) (4 : Int32) (Int32.toInt64 (-p1))) (((17 : Int32) + ((3 : Int32) * p2)) + (1 : Int32)) (Int32.toInt64 p1)) (Int32.toNatClampNeg ((17 : Int32) + ((3 : Int32) * p2)))) + (1 : Int32))) (Int32.toNatClampNeg (10 : Int32))) + (1 : Int32))) (Int32.toNatClampNeg (16 : Int32)) p1) := by unfold spX5_piece; rw [if_pos c_82, if_neg c_131]
      exact W.vret hx hb hr (fun t ht hW => ⟨⟨(), rfl, trivial, by rw [hE, ht]; exact hP, va_K.moved hW.alike hK, by rw [hE]; exact hD⟩, hS.F ht⟩) hS.2.2 dX5_piece_157
    · refine lv_aload_n hx hb dX5_piece_134 rfl (lv_at hl 2 rfl) ?_
      refine va_get (D := D) (ci := 5) (v := .ref kb) (C := RX5) (T := TX5) (N := 16) hx hb hts k_inX5 hown hK hP 0 rfl rfl 4 (by decide) (hts _ kw_493) (fun _ h9 => h9) rfl dX5_piece_135 ?_
      refine lv_iload hx hb dX5_piece_138 (lv_at hl 0 rfl) ?_
      refine lv_iconst (v := 1) hx hb dX5_piece_140 (by decide) ?_
      refine lv_iadd hx hb dX5_piece_141 ?_
      refine lv_dup2_11 hx hb dX5_piece_142 rfl rfl ?_
      refine va_iald hx hb hK hP 3 0 rfl rfl (by simp only [hr32, show (65 : Int32) = nI 65 from rfl, show (4 : Int32) = nI 4 from rfl, show (1 : Int32) = nI 1 from rfl, pk_mul, nI_add]; exact vp_in_nI (by omega) (by decide)) dX5_piece_143 ?_
      refine lv_iconst (v := 1) hx hb dX5_piece_144 (by decide) ?_
      refine lv_iadd hx hb dX5_piece_145 ?_
      refine va_iast hx hb hK hP hD hS 3 0 rfl rfl (by simp only [hr32, show (65 : Int32) = nI 65 from rfl, show (4 : Int32) = nI 4 from rfl, show (1 : Int32) = nI 1 from rfl, pk_mul, nI_add]; exact vp_in_nI (by omega) (by decide)) dX5_piece_146 (fun H locs hP hD hS => ?_)
      have hP : va_P D vwCl (wK kO km kw kb kr kd kt cA kth kmn kpw klf kmk ksc krc kno kpp kpc kme kwe (upd (upd (upd (upd (spX5_more (spX5_more (spX5_more kbo (2 : Int32) (Int32.toInt64 p1)) (4 : Int32) (Int32.toInt64 (-p1))) (((17 : Int32) + ((3 : Int32) * p2)) + (1 : Int32)) (Int32.toInt64 p1)) (Int32.toNatClampNeg ((17 : Int32) + ((3 : Int32) * p2))) (((spX5_more (spX5_more (spX5_more kbo (2 : Int32) (Int32.toInt64 p1)) (4 : Int32) (Int32.toInt64 (-p1))) (((17 : Int32) + ((3 : Int32) * p2)) + (1 : Int32)) (Int32.toInt64 p1)) (Int32.toNatClampNeg ((17 : Int32) + ((3 : Int32) * p2)))) + (1 : Int32))) (Int32.toNatClampNeg (10 : Int32)) (((upd (spX5_more (spX5_more (spX5_more kbo (2 : Int32) (Int32.toInt64 p1)) (4 : Int32) (Int32.toInt64 (-p1))) (((17 : Int32) + ((3 : Int32) * p2)) + (1 : Int32)) (Int32.toInt64 p1)) (Int32.toNatClampNeg ((17 : Int32) + ((3 : Int32) * p2))) (((spX5_more (spX5_more (spX5_more kbo (2 : Int32) (Int32.toInt64 p1)) (4 : Int32) (Int32.toInt64 (-p1))) (((17 : Int32) + ((3 : Int32) * p2)) + (1 : Int32)) (Int32.toInt64 p1)) (Int32.toNatClampNeg ((17 : Int32) + ((3 : Int32) * p2)))) + (1 : Int32))) (Int32.toNatClampNeg (10 : Int32))) + (1 : Int32))) (Int32.toNatClampNeg (16 : Int32)) p1) (Int32.toNatClampNeg (((65 : Int32) + ((4 : Int32) * (p3 - p3 / (32 : Int32) * (32 : Int32)))) + (1 : Int32))) (((upd (upd (upd (spX5_more (spX5_more (spX5_more kbo (2 : Int32) (Int32.toInt64 p1)) (4 : Int32) (Int32.toInt64 (-p1))) (((17 : Int32) + ((3 : Int32) * p2)) + (1 : Int32)) (Int32.toInt64 p1)) (Int32.toNatClampNeg ((17 : Int32) + ((3 : Int32) * p2))) (((spX5_more (spX5_more (spX5_more kbo (2 : Int32) (Int32.toInt64 p1)) (4 : Int32) (Int32.toInt64 (-p1))) (((17 : Int32) + ((3 : Int32) * p2)) + (1 : Int32)) (Int32.toInt64 p1)) (Int32.toNatClampNeg ((17 : Int32) + ((3 : Int32) * p2)))) + (1 : Int32))) (Int32.toNatClampNeg (10 : Int32)) (((upd (spX5_more (spX5_more (spX5_more kbo (2 : Int32) (Int32.toInt64 p1)) (4 : Int32) (Int32.toInt64 (-p1))) (((17 : Int32) + ((3 : Int32) * p2)) + (1 : Int32)) (Int32.toInt64 p1)) (Int32.toNatClampNeg ((17 : Int32) + ((3 : Int32) * p2))) (((spX5_more (spX5_more (spX5_more kbo (2 : Int32) (Int32.toInt64 p1)) (4 : Int32) (Int32.toInt64 (-p1))) (((17 : Int32) + ((3 : Int32) * p2)) + (1 : Int32)) (Int32.toInt64 p1)) (Int32.toNatClampNeg ((17 : Int32) + ((3 : Int32) * p2)))) + (1 : Int32))) (Int32.toNatClampNeg (10 : Int32))) + (1 : Int32))) (Int32.toNatClampNeg (16 : Int32)) p1) (Int32.toNatClampNeg (((65 : Int32) + ((4 : Int32) * (p3 - p3 / (32 : Int32) * (32 : Int32)))) + (1 : Int32)))) + (1 : Int32))) kre kdr ktb) H := hP
      have hD : va_D A (wK kO km kw kb kr kd kt cA kth kmn kpw klf kmk ksc krc kno kpp kpc kme kwe (upd (upd (upd (upd (spX5_more (spX5_more (spX5_more kbo (2 : Int32) (Int32.toInt64 p1)) (4 : Int32) (Int32.toInt64 (-p1))) (((17 : Int32) + ((3 : Int32) * p2)) + (1 : Int32)) (Int32.toInt64 p1)) (Int32.toNatClampNeg ((17 : Int32) + ((3 : Int32) * p2))) (((spX5_more (spX5_more (spX5_more kbo (2 : Int32) (Int32.toInt64 p1)) (4 : Int32) (Int32.toInt64 (-p1))) (((17 : Int32) + ((3 : Int32) * p2)) + (1 : Int32)) (Int32.toInt64 p1)) (Int32.toNatClampNeg ((17 : Int32) + ((3 : Int32) * p2)))) + (1 : Int32))) (Int32.toNatClampNeg (10 : Int32)) (((upd (spX5_more (spX5_more (spX5_more kbo (2 : Int32) (Int32.toInt64 p1)) (4 : Int32) (Int32.toInt64 (-p1))) (((17 : Int32) + ((3 : Int32) * p2)) + (1 : Int32)) (Int32.toInt64 p1)) (Int32.toNatClampNeg ((17 : Int32) + ((3 : Int32) * p2))) (((spX5_more (spX5_more (spX5_more kbo (2 : Int32) (Int32.toInt64 p1)) (4 : Int32) (Int32.toInt64 (-p1))) (((17 : Int32) + ((3 : Int32) * p2)) + (1 : Int32)) (Int32.toInt64 p1)) (Int32.toNatClampNeg ((17 : Int32) + ((3 : Int32) * p2)))) + (1 : Int32))) (Int32.toNatClampNeg (10 : Int32))) + (1 : Int32))) (Int32.toNatClampNeg (16 : Int32)) p1) (Int32.toNatClampNeg (((65 : Int32) + ((4 : Int32) * (p3 - p3 / (32 : Int32) * (32 : Int32)))) + (1 : Int32))) (((upd (upd (upd (spX5_more (spX5_more (spX5_more kbo (2 : Int32) (Int32.toInt64 p1)) (4 : Int32) (Int32.toInt64 (-p1))) (((17 : Int32) + ((3 : Int32) * p2)) + (1 : Int32)) (Int32.toInt64 p1)) (Int32.toNatClampNeg ((17 : Int32) + ((3 : Int32) * p2))) (((spX5_more (spX5_more (spX5_more kbo (2 : Int32) (Int32.toInt64 p1)) (4 : Int32) (Int32.toInt64 (-p1))) (((17 : Int32) + ((3 : Int32) * p2)) + (1 : Int32)) (Int32.toInt64 p1)) (Int32.toNatClampNeg ((17 : Int32) + ((3 : Int32) * p2)))) + (1 : Int32))) (Int32.toNatClampNeg (10 : Int32)) (((upd (spX5_more (spX5_more (spX5_more kbo (2 : Int32) (Int32.toInt64 p1)) (4 : Int32) (Int32.toInt64 (-p1))) (((17 : Int32) + ((3 : Int32) * p2)) + (1 : Int32)) (Int32.toInt64 p1)) (Int32.toNatClampNeg ((17 : Int32) + ((3 : Int32) * p2))) (((spX5_more (spX5_more (spX5_more kbo (2 : Int32) (Int32.toInt64 p1)) (4 : Int32) (Int32.toInt64 (-p1))) (((17 : Int32) + ((3 : Int32) * p2)) + (1 : Int32)) (Int32.toInt64 p1)) (Int32.toNatClampNeg ((17 : Int32) + ((3 : Int32) * p2)))) + (1 : Int32))) (Int32.toNatClampNeg (10 : Int32))) + (1 : Int32))) (Int32.toNatClampNeg (16 : Int32)) p1) (Int32.toNatClampNeg (((65 : Int32) + ((4 : Int32) * (p3 - p3 / (32 : Int32) * (32 : Int32)))) + (1 : Int32)))) + (1 : Int32))) kre kdr ktb) := hD
      refine lv_aload_n hx hb dX5_piece_147 rfl (lv_at hl 2 rfl) ?_
      refine lv_iload hx hb dX5_piece_148 (lv_at hl 0 rfl) ?_
      refine lv_iconst (v := 2) hx hb dX5_piece_150 (by decide) ?_
      refine lv_iadd hx hb dX5_piece_151 ?_
      refine lv_iload_n hx hb dX5_piece_152 rfl (lv_at hl 3 rfl) ?_
      refine lv_i2l (v := (Int32.toInt64 p1)) hx hb dX5_piece_153 rfl ?_
      refine k_wrVv (As := [.int (((65 : Int32) + ((4 : Int32) * (p3 - p3 / (32 : Int32) * (32 : Int32)))) + (2 : Int32)), .long (Int32.toInt64 p1)]) (rest := []) (ci := 5) (q0 := 0) (ws' := (wK kO km kw kb kr kd kt cA kth kmn kpw klf kmk ksc krc kno kpp kpc kme kwe (spX5_more (upd (upd (upd (upd (spX5_more (spX5_more (spX5_more kbo (2 : Int32) (Int32.toInt64 p1)) (4 : Int32) (Int32.toInt64 (-p1))) (((17 : Int32) + ((3 : Int32) * p2)) + (1 : Int32)) (Int32.toInt64 p1)) (Int32.toNatClampNeg ((17 : Int32) + ((3 : Int32) * p2))) (((spX5_more (spX5_more (spX5_more kbo (2 : Int32) (Int32.toInt64 p1)) (4 : Int32) (Int32.toInt64 (-p1))) (((17 : Int32) + ((3 : Int32) * p2)) + (1 : Int32)) (Int32.toInt64 p1)) (Int32.toNatClampNeg ((17 : Int32) + ((3 : Int32) * p2)))) + (1 : Int32))) (Int32.toNatClampNeg (10 : Int32)) (((upd (spX5_more (spX5_more (spX5_more kbo (2 : Int32) (Int32.toInt64 p1)) (4 : Int32) (Int32.toInt64 (-p1))) (((17 : Int32) + ((3 : Int32) * p2)) + (1 : Int32)) (Int32.toInt64 p1)) (Int32.toNatClampNeg ((17 : Int32) + ((3 : Int32) * p2))) (((spX5_more (spX5_more (spX5_more kbo (2 : Int32) (Int32.toInt64 p1)) (4 : Int32) (Int32.toInt64 (-p1))) (((17 : Int32) + ((3 : Int32) * p2)) + (1 : Int32)) (Int32.toInt64 p1)) (Int32.toNatClampNeg ((17 : Int32) + ((3 : Int32) * p2)))) + (1 : Int32))) (Int32.toNatClampNeg (10 : Int32))) + (1 : Int32))) (Int32.toNatClampNeg (16 : Int32)) p1) (Int32.toNatClampNeg (((65 : Int32) + ((4 : Int32) * (p3 - p3 / (32 : Int32) * (32 : Int32)))) + (1 : Int32))) (((upd (upd (upd (spX5_more (spX5_more (spX5_more kbo (2 : Int32) (Int32.toInt64 p1)) (4 : Int32) (Int32.toInt64 (-p1))) (((17 : Int32) + ((3 : Int32) * p2)) + (1 : Int32)) (Int32.toInt64 p1)) (Int32.toNatClampNeg ((17 : Int32) + ((3 : Int32) * p2))) (((spX5_more (spX5_more (spX5_more kbo (2 : Int32) (Int32.toInt64 p1)) (4 : Int32) (Int32.toInt64 (-p1))) (((17 : Int32) + ((3 : Int32) * p2)) + (1 : Int32)) (Int32.toInt64 p1)) (Int32.toNatClampNeg ((17 : Int32) + ((3 : Int32) * p2)))) + (1 : Int32))) (Int32.toNatClampNeg (10 : Int32)) (((upd (spX5_more (spX5_more (spX5_more kbo (2 : Int32) (Int32.toInt64 p1)) (4 : Int32) (Int32.toInt64 (-p1))) (((17 : Int32) + ((3 : Int32) * p2)) + (1 : Int32)) (Int32.toInt64 p1)) (Int32.toNatClampNeg ((17 : Int32) + ((3 : Int32) * p2))) (((spX5_more (spX5_more (spX5_more kbo (2 : Int32) (Int32.toInt64 p1)) (4 : Int32) (Int32.toInt64 (-p1))) (((17 : Int32) + ((3 : Int32) * p2)) + (1 : Int32)) (Int32.toInt64 p1)) (Int32.toNatClampNeg ((17 : Int32) + ((3 : Int32) * p2)))) + (1 : Int32))) (Int32.toNatClampNeg (10 : Int32))) + (1 : Int32))) (Int32.toNatClampNeg (16 : Int32)) p1) (Int32.toNatClampNeg (((65 : Int32) + ((4 : Int32) * (p3 - p3 / (32 : Int32) * (32 : Int32)))) + (1 : Int32)))) + (1 : Int32))) (((65 : Int32) + ((4 : Int32) * (p3 - p3 / (32 : Int32) * (32 : Int32)))) + (2 : Int32)) (Int32.toInt64 p1)) kre kdr ktb)) (wr := []) ⟨hx, hb, hml, hown, hts⟩ k_self (c_X5_more l D kO km kw kb kr kd kt cA kth kmn kpw klf kmk ksc krc kno kpp kpc kme kwe (upd (upd (upd (upd (spX5_more (spX5_more (spX5_more kbo (2 : Int32) (Int32.toInt64 p1)) (4 : Int32) (Int32.toInt64 (-p1))) (((17 : Int32) + ((3 : Int32) * p2)) + (1 : Int32)) (Int32.toInt64 p1)) (Int32.toNatClampNeg ((17 : Int32) + ((3 : Int32) * p2))) (((spX5_more (spX5_more (spX5_more kbo (2 : Int32) (Int32.toInt64 p1)) (4 : Int32) (Int32.toInt64 (-p1))) (((17 : Int32) + ((3 : Int32) * p2)) + (1 : Int32)) (Int32.toInt64 p1)) (Int32.toNatClampNeg ((17 : Int32) + ((3 : Int32) * p2)))) + (1 : Int32))) (Int32.toNatClampNeg (10 : Int32)) (((upd (spX5_more (spX5_more (spX5_more kbo (2 : Int32) (Int32.toInt64 p1)) (4 : Int32) (Int32.toInt64 (-p1))) (((17 : Int32) + ((3 : Int32) * p2)) + (1 : Int32)) (Int32.toInt64 p1)) (Int32.toNatClampNeg ((17 : Int32) + ((3 : Int32) * p2))) (((spX5_more (spX5_more (spX5_more kbo (2 : Int32) (Int32.toInt64 p1)) (4 : Int32) (Int32.toInt64 (-p1))) (((17 : Int32) + ((3 : Int32) * p2)) + (1 : Int32)) (Int32.toInt64 p1)) (Int32.toNatClampNeg ((17 : Int32) + ((3 : Int32) * p2)))) + (1 : Int32))) (Int32.toNatClampNeg (10 : Int32))) + (1 : Int32))) (Int32.toNatClampNeg (16 : Int32)) p1) (Int32.toNatClampNeg (((65 : Int32) + ((4 : Int32) * (p3 - p3 / (32 : Int32) * (32 : Int32)))) + (1 : Int32))) (((upd (upd (upd (spX5_more (spX5_more (spX5_more kbo (2 : Int32) (Int32.toInt64 p1)) (4 : Int32) (Int32.toInt64 (-p1))) (((17 : Int32) + ((3 : Int32) * p2)) + (1 : Int32)) (Int32.toInt64 p1)) (Int32.toNatClampNeg ((17 : Int32) + ((3 : Int32) * p2))) (((spX5_more (spX5_more (spX5_more kbo (2 : Int32) (Int32.toInt64 p1)) (4 : Int32) (Int32.toInt64 (-p1))) (((17 : Int32) + ((3 : Int32) * p2)) + (1 : Int32)) (Int32.toInt64 p1)) (Int32.toNatClampNeg ((17 : Int32) + ((3 : Int32) * p2)))) + (1 : Int32))) (Int32.toNatClampNeg (10 : Int32)) (((upd (spX5_more (spX5_more (spX5_more kbo (2 : Int32) (Int32.toInt64 p1)) (4 : Int32) (Int32.toInt64 (-p1))) (((17 : Int32) + ((3 : Int32) * p2)) + (1 : Int32)) (Int32.toInt64 p1)) (Int32.toNatClampNeg ((17 : Int32) + ((3 : Int32) * p2))) (((spX5_more (spX5_more (spX5_more kbo (2 : Int32) (Int32.toInt64 p1)) (4 : Int32) (Int32.toInt64 (-p1))) (((17 : Int32) + ((3 : Int32) * p2)) + (1 : Int32)) (Int32.toInt64 p1)) (Int32.toNatClampNeg ((17 : Int32) + ((3 : Int32) * p2)))) + (1 : Int32))) (Int32.toNatClampNeg (10 : Int32))) + (1 : Int32))) (Int32.toNatClampNeg (16 : Int32)) p1) (Int32.toNatClampNeg (((65 : Int32) + ((4 : Int32) * (p3 - p3 / (32 : Int32) * (32 : Int32)))) + (1 : Int32)))) + (1 : Int32))) kre kdr ktb (((65 : Int32) + ((4 : Int32) * (p3 - p3 / (32 : Int32) * (32 : Int32)))) + (2 : Int32)) (Int32.toInt64 p1) ⟨65 + 4 * (tq % 32) + 2, by simp only [hr32, show (65 : Int32) = nI 65 from rfl, show (4 : Int32) = nI 4 from rfl, show (2 : Int32) = nI 2 from rfl, pk_mul, nI_add], by omega⟩) kv_X5_98 hP hD hS hA hK rfl rfl [0, 1, 2, 3, 4, 5, 6] [] [0, 1, 2, 3, 4, 5, 6] rfl (by decide) rfl (by decide) (by decide) rfl (by decide) rfl rfl ⟨Nat.le_of_ble_eq_true rfl, Nat.le_of_ble_eq_true rfl⟩ rfl hl.1 rfl (Nat.le_of_ble_eq_true rfl) dX5_piece_154 ⟨Nat.zero_le _, Nat.zero_le _⟩ (fun H locs hP hD hS => ?_)
      have hE : spX5_piece kbo p1 p2 p3 = (spX5_more (upd (upd (upd (upd (spX5_more (spX5_more (spX5_more kbo (2 : Int32) (Int32.toInt64 p1)) (4 : Int32) (Int32.toInt64 (-p1))) (((17 : Int32) + ((3 : Int32) * p2)) + (1 : Int32)) (Int32.toInt64 p1)) (Int32.toNatClampNeg ((17 : Int32) + ((3 : Int32) * p2))) (((spX5_more (spX5_more (spX5_more kbo (2 : Int32) (Int32.toInt64 p1)) (4 : Int32) (Int32.toInt64 (-p1))) (((17 : Int32) + ((3 : Int32) * p2)) + (1 : Int32)) (Int32.toInt64 p1)) (Int32.toNatClampNeg ((17 : Int32) + ((3 : Int32) * p2)))) + (1 : Int32))) (Int32.toNatClampNeg (10 : Int32)) (((upd (spX5_more (spX5_more (spX5_more kbo (2 : Int32) (Int32.toInt64 p1)) (4 : Int32) (Int32.toInt64 (-p1))) (((17 : Int32) + ((3 : Int32) * p2)) + (1 : Int32)) (Int32.toInt64 p1)) (Int32.toNatClampNeg ((17 : Int32) + ((3 : Int32) * p2))) (((spX5_more (spX5_more (spX5_more kbo (2 : Int32) (Int32.toInt64 p1)) (4 : Int32) (Int32.toInt64 (-p1))) (((17 : Int32) + ((3 : Int32) * p2)) + (1 : Int32)) (Int32.toInt64 p1)) (Int32.toNatClampNeg ((17 : Int32) + ((3 : Int32) * p2)))) + (1 : Int32))) (Int32.toNatClampNeg (10 : Int32))) + (1 : Int32))) (Int32.toNatClampNeg (16 : Int32)) p1) (Int32.toNatClampNeg (((65 : Int32) + ((4 : Int32) * (p3 - p3 / (32 : Int32) * (32 : Int32)))) + (1 : Int32))) (((upd (upd (upd (spX5_more (spX5_more (spX5_more kbo (2 : Int32) (Int32.toInt64 p1)) (4 : Int32) (Int32.toInt64 (-p1))) (((17 : Int32) + ((3 : Int32) * p2)) + (1 : Int32)) (Int32.toInt64 p1)) (Int32.toNatClampNeg ((17 : Int32) + ((3 : Int32) * p2))) (((spX5_more (spX5_more (spX5_more kbo (2 : Int32) (Int32.toInt64 p1)) (4 : Int32) (Int32.toInt64 (-p1))) (((17 : Int32) + ((3 : Int32) * p2)) + (1 : Int32)) (Int32.toInt64 p1)) (Int32.toNatClampNeg ((17 : Int32) + ((3 : Int32) * p2)))) + (1 : Int32))) (Int32.toNatClampNeg (10 : Int32)) (((upd (spX5_more (spX5_more (spX5_more kbo (2 : Int32) (Int32.toInt64 p1)) (4 : Int32) (Int32.toInt64 (-p1))) (((17 : Int32) + ((3 : Int32) * p2)) + (1 : Int32)) (Int32.toInt64 p1)) (Int32.toNatClampNeg ((17 : Int32) + ((3 : Int32) * p2))) (((spX5_more (spX5_more (spX5_more kbo (2 : Int32) (Int32.toInt64 p1)) (4 : Int32) (Int32.toInt64 (-p1))) (((17 : Int32) + ((3 : Int32) * p2)) + (1 : Int32)) (Int32.toInt64 p1)) (Int32.toNatClampNeg ((17 : Int32) + ((3 : Int32) * p2)))) + (1 : Int32))) (Int32.toNatClampNeg (10 : Int32))) + (1 : Int32))) (Int32.toNatClampNeg (16 : Int32)) p1) (Int32.toNatClampNeg (((65 : Int32) + ((4 : Int32) * (p3 - p3 / (32 : Int32) * (32 : Int32)))) + (1 : Int32)))) + (1 : Int32))) (((65 : Int32) + ((4 : Int32) * (p3 - p3 / (32 : Int32) * (32 : Int32)))) + (2 : Int32)) (Int32.toInt64 p1)) := by unfold spX5_piece; rw [if_pos c_82, if_pos c_131]
      exact W.vret hx hb hr (fun t ht hW => ⟨⟨(), rfl, trivial, by rw [hE, ht]; exact hP, va_K.moved hW.alike hK, by rw [hE]; exact hD⟩, hS.F ht⟩) hS.2.2 dX5_piece_157
  · refine lv_aload_n hx hb dX5_piece_85 rfl (lv_at hl 2 rfl) ?_
    refine va_get (D := D) (ci := 5) (v := .ref kb) (C := RX5) (T := TX5) (N := 16) hx hb hts k_inX5 hown hK hP 0 rfl rfl 4 (by decide) (hts _ kw_493) (fun _ h9 => h9) rfl dX5_piece_86 ?_
    refine lv_iload hx hb dX5_piece_89 (lv_at hl 0 rfl) ?_
    refine lv_iload_n hx hb dX5_piece_91 rfl (lv_at hl 5 rfl) ?_
    refine va_iast hx hb hK hP hD hS 3 0 rfl rfl (by simp only [hr32, show (65 : Int32) = nI 65 from rfl, show (4 : Int32) = nI 4 from rfl, pk_mul, nI_add]; exact vp_in_nI (by omega) (by decide)) dX5_piece_92 (fun H locs hP hD hS => ?_)
    have hP : va_P D vwCl (wK kO km kw kb kr kd kt cA kth kmn kpw klf kmk ksc krc kno kpp kpc kme kwe (upd (upd (upd (upd (spX5_more (spX5_more (spX5_more kbo (2 : Int32) (Int32.toInt64 p1)) (4 : Int32) (Int32.toInt64 (-p1))) (((17 : Int32) + ((3 : Int32) * p2)) + (1 : Int32)) (Int32.toInt64 p1)) (Int32.toNatClampNeg ((17 : Int32) + ((3 : Int32) * p2))) (((spX5_more (spX5_more (spX5_more kbo (2 : Int32) (Int32.toInt64 p1)) (4 : Int32) (Int32.toInt64 (-p1))) (((17 : Int32) + ((3 : Int32) * p2)) + (1 : Int32)) (Int32.toInt64 p1)) (Int32.toNatClampNeg ((17 : Int32) + ((3 : Int32) * p2)))) + (1 : Int32))) (Int32.toNatClampNeg (10 : Int32)) (((upd (spX5_more (spX5_more (spX5_more kbo (2 : Int32) (Int32.toInt64 p1)) (4 : Int32) (Int32.toInt64 (-p1))) (((17 : Int32) + ((3 : Int32) * p2)) + (1 : Int32)) (Int32.toInt64 p1)) (Int32.toNatClampNeg ((17 : Int32) + ((3 : Int32) * p2))) (((spX5_more (spX5_more (spX5_more kbo (2 : Int32) (Int32.toInt64 p1)) (4 : Int32) (Int32.toInt64 (-p1))) (((17 : Int32) + ((3 : Int32) * p2)) + (1 : Int32)) (Int32.toInt64 p1)) (Int32.toNatClampNeg ((17 : Int32) + ((3 : Int32) * p2)))) + (1 : Int32))) (Int32.toNatClampNeg (10 : Int32))) + (1 : Int32))) (Int32.toNatClampNeg (16 : Int32)) p1) (Int32.toNatClampNeg ((65 : Int32) + ((4 : Int32) * (p3 - p3 / (32 : Int32) * (32 : Int32))))) p3) kre kdr ktb) H := hP
    have hD : va_D A (wK kO km kw kb kr kd kt cA kth kmn kpw klf kmk ksc krc kno kpp kpc kme kwe (upd (upd (upd (upd (spX5_more (spX5_more (spX5_more kbo (2 : Int32) (Int32.toInt64 p1)) (4 : Int32) (Int32.toInt64 (-p1))) (((17 : Int32) + ((3 : Int32) * p2)) + (1 : Int32)) (Int32.toInt64 p1)) (Int32.toNatClampNeg ((17 : Int32) + ((3 : Int32) * p2))) (((spX5_more (spX5_more (spX5_more kbo (2 : Int32) (Int32.toInt64 p1)) (4 : Int32) (Int32.toInt64 (-p1))) (((17 : Int32) + ((3 : Int32) * p2)) + (1 : Int32)) (Int32.toInt64 p1)) (Int32.toNatClampNeg ((17 : Int32) + ((3 : Int32) * p2)))) + (1 : Int32))) (Int32.toNatClampNeg (10 : Int32)) (((upd (spX5_more (spX5_more (spX5_more kbo (2 : Int32) (Int32.toInt64 p1)) (4 : Int32) (Int32.toInt64 (-p1))) (((17 : Int32) + ((3 : Int32) * p2)) + (1 : Int32)) (Int32.toInt64 p1)) (Int32.toNatClampNeg ((17 : Int32) + ((3 : Int32) * p2))) (((spX5_more (spX5_more (spX5_more kbo (2 : Int32) (Int32.toInt64 p1)) (4 : Int32) (Int32.toInt64 (-p1))) (((17 : Int32) + ((3 : Int32) * p2)) + (1 : Int32)) (Int32.toInt64 p1)) (Int32.toNatClampNeg ((17 : Int32) + ((3 : Int32) * p2)))) + (1 : Int32))) (Int32.toNatClampNeg (10 : Int32))) + (1 : Int32))) (Int32.toNatClampNeg (16 : Int32)) p1) (Int32.toNatClampNeg ((65 : Int32) + ((4 : Int32) * (p3 - p3 / (32 : Int32) * (32 : Int32))))) p3) kre kdr ktb) := hD
    refine lv_aload_n hx hb dX5_piece_93 rfl (lv_at hl 2 rfl) ?_
    refine va_get (D := D) (ci := 5) (v := .ref kb) (C := RX5) (T := TX5) (N := 16) hx hb hts k_inX5 hown hK hP 0 rfl rfl 4 (by decide) (hts _ kw_493) (fun _ h9 => h9) rfl dX5_piece_94 ?_
    refine lv_iload hx hb dX5_piece_97 (lv_at hl 0 rfl) ?_
    refine lv_iconst (v := 1) hx hb dX5_piece_99 (by decide) ?_
    refine lv_iadd hx hb dX5_piece_100 ?_
    refine lv_iconst (v := 0) hx hb dX5_piece_101 (by decide) ?_
    refine va_iast hx hb hK hP hD hS 3 0 rfl rfl (by simp only [hr32, show (65 : Int32) = nI 65 from rfl, show (4 : Int32) = nI 4 from rfl, show (1 : Int32) = nI 1 from rfl, pk_mul, nI_add]; exact vp_in_nI (by omega) (by decide)) dX5_piece_102 (fun H locs hP hD hS => ?_)
    have hP : va_P D vwCl (wK kO km kw kb kr kd kt cA kth kmn kpw klf kmk ksc krc kno kpp kpc kme kwe (upd (upd (upd (upd (upd (spX5_more (spX5_more (spX5_more kbo (2 : Int32) (Int32.toInt64 p1)) (4 : Int32) (Int32.toInt64 (-p1))) (((17 : Int32) + ((3 : Int32) * p2)) + (1 : Int32)) (Int32.toInt64 p1)) (Int32.toNatClampNeg ((17 : Int32) + ((3 : Int32) * p2))) (((spX5_more (spX5_more (spX5_more kbo (2 : Int32) (Int32.toInt64 p1)) (4 : Int32) (Int32.toInt64 (-p1))) (((17 : Int32) + ((3 : Int32) * p2)) + (1 : Int32)) (Int32.toInt64 p1)) (Int32.toNatClampNeg ((17 : Int32) + ((3 : Int32) * p2)))) + (1 : Int32))) (Int32.toNatClampNeg (10 : Int32)) (((upd (spX5_more (spX5_more (spX5_more kbo (2 : Int32) (Int32.toInt64 p1)) (4 : Int32) (Int32.toInt64 (-p1))) (((17 : Int32) + ((3 : Int32) * p2)) + (1 : Int32)) (Int32.toInt64 p1)) (Int32.toNatClampNeg ((17 : Int32) + ((3 : Int32) * p2))) (((spX5_more (spX5_more (spX5_more kbo (2 : Int32) (Int32.toInt64 p1)) (4 : Int32) (Int32.toInt64 (-p1))) (((17 : Int32) + ((3 : Int32) * p2)) + (1 : Int32)) (Int32.toInt64 p1)) (Int32.toNatClampNeg ((17 : Int32) + ((3 : Int32) * p2)))) + (1 : Int32))) (Int32.toNatClampNeg (10 : Int32))) + (1 : Int32))) (Int32.toNatClampNeg (16 : Int32)) p1) (Int32.toNatClampNeg ((65 : Int32) + ((4 : Int32) * (p3 - p3 / (32 : Int32) * (32 : Int32))))) p3) (Int32.toNatClampNeg (((65 : Int32) + ((4 : Int32) * (p3 - p3 / (32 : Int32) * (32 : Int32)))) + (1 : Int32))) (0 : Int32)) kre kdr ktb) H := hP
    have hD : va_D A (wK kO km kw kb kr kd kt cA kth kmn kpw klf kmk ksc krc kno kpp kpc kme kwe (upd (upd (upd (upd (upd (spX5_more (spX5_more (spX5_more kbo (2 : Int32) (Int32.toInt64 p1)) (4 : Int32) (Int32.toInt64 (-p1))) (((17 : Int32) + ((3 : Int32) * p2)) + (1 : Int32)) (Int32.toInt64 p1)) (Int32.toNatClampNeg ((17 : Int32) + ((3 : Int32) * p2))) (((spX5_more (spX5_more (spX5_more kbo (2 : Int32) (Int32.toInt64 p1)) (4 : Int32) (Int32.toInt64 (-p1))) (((17 : Int32) + ((3 : Int32) * p2)) + (1 : Int32)) (Int32.toInt64 p1)) (Int32.toNatClampNeg ((17 : Int32) + ((3 : Int32) * p2)))) + (1 : Int32))) (Int32.toNatClampNeg (10 : Int32)) (((upd (spX5_more (spX5_more (spX5_more kbo (2 : Int32) (Int32.toInt64 p1)) (4 : Int32) (Int32.toInt64 (-p1))) (((17 : Int32) + ((3 : Int32) * p2)) + (1 : Int32)) (Int32.toInt64 p1)) (Int32.toNatClampNeg ((17 : Int32) + ((3 : Int32) * p2))) (((spX5_more (spX5_more (spX5_more kbo (2 : Int32) (Int32.toInt64 p1)) (4 : Int32) (Int32.toInt64 (-p1))) (((17 : Int32) + ((3 : Int32) * p2)) + (1 : Int32)) (Int32.toInt64 p1)) (Int32.toNatClampNeg ((17 : Int32) + ((3 : Int32) * p2)))) + (1 : Int32))) (Int32.toNatClampNeg (10 : Int32))) + (1 : Int32))) (Int32.toNatClampNeg (16 : Int32)) p1) (Int32.toNatClampNeg ((65 : Int32) + ((4 : Int32) * (p3 - p3 / (32 : Int32) * (32 : Int32))))) p3) (Int32.toNatClampNeg (((65 : Int32) + ((4 : Int32) * (p3 - p3 / (32 : Int32) * (32 : Int32)))) + (1 : Int32))) (0 : Int32)) kre kdr ktb) := hD
    refine lv_aload_n hx hb dX5_piece_103 rfl (lv_at hl 2 rfl) ?_
    refine va_get (D := D) (ci := 5) (v := .ref kb) (C := RX5) (T := TX5) (N := 16) hx hb hts k_inX5 hown hK hP 0 rfl rfl 4 (by decide) (hts _ kw_493) (fun _ h9 => h9) rfl dX5_piece_104 ?_
    refine lv_iload hx hb dX5_piece_107 (lv_at hl 0 rfl) ?_
    refine lv_iconst (v := 2) hx hb dX5_piece_109 (by decide) ?_
    refine lv_iadd hx hb dX5_piece_110 ?_
    refine lv_iconst (v := 0) hx hb dX5_piece_111 (by decide) ?_
    refine va_iast hx hb hK hP hD hS 3 0 rfl rfl (by simp only [hr32, show (65 : Int32) = nI 65 from rfl, show (4 : Int32) = nI 4 from rfl, show (2 : Int32) = nI 2 from rfl, pk_mul, nI_add]; exact vp_in_nI (by omega) (by decide)) dX5_piece_112 (fun H locs hP hD hS => ?_)
    have hP : va_P D vwCl (wK kO km kw kb kr kd kt cA kth kmn kpw klf kmk ksc krc kno kpp kpc kme kwe (upd (upd (upd (upd (upd (upd (spX5_more (spX5_more (spX5_more kbo (2 : Int32) (Int32.toInt64 p1)) (4 : Int32) (Int32.toInt64 (-p1))) (((17 : Int32) + ((3 : Int32) * p2)) + (1 : Int32)) (Int32.toInt64 p1)) (Int32.toNatClampNeg ((17 : Int32) + ((3 : Int32) * p2))) (((spX5_more (spX5_more (spX5_more kbo (2 : Int32) (Int32.toInt64 p1)) (4 : Int32) (Int32.toInt64 (-p1))) (((17 : Int32) + ((3 : Int32) * p2)) + (1 : Int32)) (Int32.toInt64 p1)) (Int32.toNatClampNeg ((17 : Int32) + ((3 : Int32) * p2)))) + (1 : Int32))) (Int32.toNatClampNeg (10 : Int32)) (((upd (spX5_more (spX5_more (spX5_more kbo (2 : Int32) (Int32.toInt64 p1)) (4 : Int32) (Int32.toInt64 (-p1))) (((17 : Int32) + ((3 : Int32) * p2)) + (1 : Int32)) (Int32.toInt64 p1)) (Int32.toNatClampNeg ((17 : Int32) + ((3 : Int32) * p2))) (((spX5_more (spX5_more (spX5_more kbo (2 : Int32) (Int32.toInt64 p1)) (4 : Int32) (Int32.toInt64 (-p1))) (((17 : Int32) + ((3 : Int32) * p2)) + (1 : Int32)) (Int32.toInt64 p1)) (Int32.toNatClampNeg ((17 : Int32) + ((3 : Int32) * p2)))) + (1 : Int32))) (Int32.toNatClampNeg (10 : Int32))) + (1 : Int32))) (Int32.toNatClampNeg (16 : Int32)) p1) (Int32.toNatClampNeg ((65 : Int32) + ((4 : Int32) * (p3 - p3 / (32 : Int32) * (32 : Int32))))) p3) (Int32.toNatClampNeg (((65 : Int32) + ((4 : Int32) * (p3 - p3 / (32 : Int32) * (32 : Int32)))) + (1 : Int32))) (0 : Int32)) (Int32.toNatClampNeg (((65 : Int32) + ((4 : Int32) * (p3 - p3 / (32 : Int32) * (32 : Int32)))) + (2 : Int32))) (0 : Int32)) kre kdr ktb) H := hP
    have hD : va_D A (wK kO km kw kb kr kd kt cA kth kmn kpw klf kmk ksc krc kno kpp kpc kme kwe (upd (upd (upd (upd (upd (upd (spX5_more (spX5_more (spX5_more kbo (2 : Int32) (Int32.toInt64 p1)) (4 : Int32) (Int32.toInt64 (-p1))) (((17 : Int32) + ((3 : Int32) * p2)) + (1 : Int32)) (Int32.toInt64 p1)) (Int32.toNatClampNeg ((17 : Int32) + ((3 : Int32) * p2))) (((spX5_more (spX5_more (spX5_more kbo (2 : Int32) (Int32.toInt64 p1)) (4 : Int32) (Int32.toInt64 (-p1))) (((17 : Int32) + ((3 : Int32) * p2)) + (1 : Int32)) (Int32.toInt64 p1)) (Int32.toNatClampNeg ((17 : Int32) + ((3 : Int32) * p2)))) + (1 : Int32))) (Int32.toNatClampNeg (10 : Int32)) (((upd (spX5_more (spX5_more (spX5_more kbo (2 : Int32) (Int32.toInt64 p1)) (4 : Int32) (Int32.toInt64 (-p1))) (((17 : Int32) + ((3 : Int32) * p2)) + (1 : Int32)) (Int32.toInt64 p1)) (Int32.toNatClampNeg ((17 : Int32) + ((3 : Int32) * p2))) (((spX5_more (spX5_more (spX5_more kbo (2 : Int32) (Int32.toInt64 p1)) (4 : Int32) (Int32.toInt64 (-p1))) (((17 : Int32) + ((3 : Int32) * p2)) + (1 : Int32)) (Int32.toInt64 p1)) (Int32.toNatClampNeg ((17 : Int32) + ((3 : Int32) * p2)))) + (1 : Int32))) (Int32.toNatClampNeg (10 : Int32))) + (1 : Int32))) (Int32.toNatClampNeg (16 : Int32)) p1) (Int32.toNatClampNeg ((65 : Int32) + ((4 : Int32) * (p3 - p3 / (32 : Int32) * (32 : Int32))))) p3) (Int32.toNatClampNeg (((65 : Int32) + ((4 : Int32) * (p3 - p3 / (32 : Int32) * (32 : Int32)))) + (1 : Int32))) (0 : Int32)) (Int32.toNatClampNeg (((65 : Int32) + ((4 : Int32) * (p3 - p3 / (32 : Int32) * (32 : Int32)))) + (2 : Int32))) (0 : Int32)) kre kdr ktb) := hD
    refine lv_aload_n hx hb dX5_piece_113 rfl (lv_at hl 2 rfl) ?_
    refine va_get (D := D) (ci := 5) (v := .ref kb) (C := RX5) (T := TX5) (N := 16) hx hb hts k_inX5 hown hK hP 0 rfl rfl 4 (by decide) (hts _ kw_493) (fun _ h9 => h9) rfl dX5_piece_114 ?_
    refine lv_iload hx hb dX5_piece_117 (lv_at hl 0 rfl) ?_
    refine lv_iconst (v := 3) hx hb dX5_piece_119 (by decide) ?_
    refine lv_iadd hx hb dX5_piece_120 ?_
    refine lv_iconst (v := 0) hx hb dX5_piece_121 (by decide) ?_
    refine va_iast hx hb hK hP hD hS 3 0 rfl rfl (by simp only [hr32, show (65 : Int32) = nI 65 from rfl, show (4 : Int32) = nI 4 from rfl, show (3 : Int32) = nI 3 from rfl, pk_mul, nI_add]; exact vp_in_nI (by omega) (by decide)) dX5_piece_122 (fun H locs hP hD hS => ?_)
    have hP : va_P D vwCl (wK kO km kw kb kr kd kt cA kth kmn kpw klf kmk ksc krc kno kpp kpc kme kwe (upd (upd (upd (upd (upd (upd (upd (spX5_more (spX5_more (spX5_more kbo (2 : Int32) (Int32.toInt64 p1)) (4 : Int32) (Int32.toInt64 (-p1))) (((17 : Int32) + ((3 : Int32) * p2)) + (1 : Int32)) (Int32.toInt64 p1)) (Int32.toNatClampNeg ((17 : Int32) + ((3 : Int32) * p2))) (((spX5_more (spX5_more (spX5_more kbo (2 : Int32) (Int32.toInt64 p1)) (4 : Int32) (Int32.toInt64 (-p1))) (((17 : Int32) + ((3 : Int32) * p2)) + (1 : Int32)) (Int32.toInt64 p1)) (Int32.toNatClampNeg ((17 : Int32) + ((3 : Int32) * p2)))) + (1 : Int32))) (Int32.toNatClampNeg (10 : Int32)) (((upd (spX5_more (spX5_more (spX5_more kbo (2 : Int32) (Int32.toInt64 p1)) (4 : Int32) (Int32.toInt64 (-p1))) (((17 : Int32) + ((3 : Int32) * p2)) + (1 : Int32)) (Int32.toInt64 p1)) (Int32.toNatClampNeg ((17 : Int32) + ((3 : Int32) * p2))) (((spX5_more (spX5_more (spX5_more kbo (2 : Int32) (Int32.toInt64 p1)) (4 : Int32) (Int32.toInt64 (-p1))) (((17 : Int32) + ((3 : Int32) * p2)) + (1 : Int32)) (Int32.toInt64 p1)) (Int32.toNatClampNeg ((17 : Int32) + ((3 : Int32) * p2)))) + (1 : Int32))) (Int32.toNatClampNeg (10 : Int32))) + (1 : Int32))) (Int32.toNatClampNeg (16 : Int32)) p1) (Int32.toNatClampNeg ((65 : Int32) + ((4 : Int32) * (p3 - p3 / (32 : Int32) * (32 : Int32))))) p3) (Int32.toNatClampNeg (((65 : Int32) + ((4 : Int32) * (p3 - p3 / (32 : Int32) * (32 : Int32)))) + (1 : Int32))) (0 : Int32)) (Int32.toNatClampNeg (((65 : Int32) + ((4 : Int32) * (p3 - p3 / (32 : Int32) * (32 : Int32)))) + (2 : Int32))) (0 : Int32)) (Int32.toNatClampNeg (((65 : Int32) + ((4 : Int32) * (p3 - p3 / (32 : Int32) * (32 : Int32)))) + (3 : Int32))) (0 : Int32)) kre kdr ktb) H := hP
    have hD : va_D A (wK kO km kw kb kr kd kt cA kth kmn kpw klf kmk ksc krc kno kpp kpc kme kwe (upd (upd (upd (upd (upd (upd (upd (spX5_more (spX5_more (spX5_more kbo (2 : Int32) (Int32.toInt64 p1)) (4 : Int32) (Int32.toInt64 (-p1))) (((17 : Int32) + ((3 : Int32) * p2)) + (1 : Int32)) (Int32.toInt64 p1)) (Int32.toNatClampNeg ((17 : Int32) + ((3 : Int32) * p2))) (((spX5_more (spX5_more (spX5_more kbo (2 : Int32) (Int32.toInt64 p1)) (4 : Int32) (Int32.toInt64 (-p1))) (((17 : Int32) + ((3 : Int32) * p2)) + (1 : Int32)) (Int32.toInt64 p1)) (Int32.toNatClampNeg ((17 : Int32) + ((3 : Int32) * p2)))) + (1 : Int32))) (Int32.toNatClampNeg (10 : Int32)) (((upd (spX5_more (spX5_more (spX5_more kbo (2 : Int32) (Int32.toInt64 p1)) (4 : Int32) (Int32.toInt64 (-p1))) (((17 : Int32) + ((3 : Int32) * p2)) + (1 : Int32)) (Int32.toInt64 p1)) (Int32.toNatClampNeg ((17 : Int32) + ((3 : Int32) * p2))) (((spX5_more (spX5_more (spX5_more kbo (2 : Int32) (Int32.toInt64 p1)) (4 : Int32) (Int32.toInt64 (-p1))) (((17 : Int32) + ((3 : Int32) * p2)) + (1 : Int32)) (Int32.toInt64 p1)) (Int32.toNatClampNeg ((17 : Int32) + ((3 : Int32) * p2)))) + (1 : Int32))) (Int32.toNatClampNeg (10 : Int32))) + (1 : Int32))) (Int32.toNatClampNeg (16 : Int32)) p1) (Int32.toNatClampNeg ((65 : Int32) + ((4 : Int32) * (p3 - p3 / (32 : Int32) * (32 : Int32))))) p3) (Int32.toNatClampNeg (((65 : Int32) + ((4 : Int32) * (p3 - p3 / (32 : Int32) * (32 : Int32)))) + (1 : Int32))) (0 : Int32)) (Int32.toNatClampNeg (((65 : Int32) + ((4 : Int32) * (p3 - p3 / (32 : Int32) * (32 : Int32)))) + (2 : Int32))) (0 : Int32)) (Int32.toNatClampNeg (((65 : Int32) + ((4 : Int32) * (p3 - p3 / (32 : Int32) * (32 : Int32)))) + (3 : Int32))) (0 : Int32)) kre kdr ktb) := hD
    refine lv_aload_n hx hb dX5_piece_123 rfl (lv_at hl 2 rfl) ?_
    refine va_get (D := D) (ci := 5) (v := .ref kb) (C := RX5) (T := TX5) (N := 16) hx hb hts k_inX5 hown hK hP 0 rfl rfl 4 (by decide) (hts _ kw_493) (fun _ h9 => h9) rfl dX5_piece_124 ?_
    refine lv_iload hx hb dX5_piece_127 (lv_at hl 0 rfl) ?_
    refine va_iald hx hb hK hP 3 0 rfl rfl (by simp only [hr32, show (65 : Int32) = nI 65 from rfl, show (4 : Int32) = nI 4 from rfl, pk_mul, nI_add]; exact vp_in_nI (by omega) (by decide)) dX5_piece_129 ?_
    refine lv_iload_n hx hb dX5_piece_130 rfl (lv_at hl 5 rfl) ?_
    refine lv_icmp_ne (tgt := 157) hx hb dX5_piece_131 (by decide) (fun c_131 => ?_) (fun c_131 => ?_)
    · have hE : spX5_piece kbo p1 p2 p3 = (upd (upd (upd (upd (upd (upd (upd (spX5_more (spX5_more (spX5_more kbo (2 : Int32) (Int32.toInt64 p1)) (4 : Int32) (Int32.toInt64 (-p1))) (((17 : Int32) + ((3 : Int32) * p2)) + (1 : Int32)) (Int32.toInt64 p1)) (Int32.toNatClampNeg ((17 : Int32) + ((3 : Int32) * p2))) (((spX5_more (spX5_more (spX5_more kbo (2 : Int32) (Int32.toInt64 p1)) (4 : Int32) (Int32.toInt64 (-p1))) (((17 : Int32) + ((3 : Int32) * p2)) + (1 : Int32)) (Int32.toInt64 p1)) (Int32.toNatClampNeg ((17 : Int32) + ((3 : Int32) * p2)))) + (1 : Int32))) (Int32.toNatClampNeg (10 : Int32)) (((upd (spX5_more (spX5_more (spX5_more kbo (2 : Int32) (Int32.toInt64 p1)) (4 : Int32) (Int32.toInt64 (-p1))) (((17 : Int32) + ((3 : Int32) * p2)) + (1 : Int32)) (Int32.toInt64 p1)) (Int32.toNatClampNeg ((17 : Int32) + ((3 : Int32) * p2))) (((spX5_more (spX5_more (spX5_more kbo (2 : Int32) (Int32.toInt64 p1)) (4 : Int32) (Int32.toInt64 (-p1))) (((17 : Int32) + ((3 : Int32) * p2)) + (1 : Int32)) (Int32.toInt64 p1)) (Int32.toNatClampNeg ((17 : Int32) + ((3 : Int32) * p2)))) + (1 : Int32))) (Int32.toNatClampNeg (10 : Int32))) + (1 : Int32))) (Int32.toNatClampNeg (16 : Int32)) p1) (Int32.toNatClampNeg ((65 : Int32) + ((4 : Int32) * (p3 - p3 / (32 : Int32) * (32 : Int32))))) p3) (Int32.toNatClampNeg (((65 : Int32) + ((4 : Int32) * (p3 - p3 / (32 : Int32) * (32 : Int32)))) + (1 : Int32))) (0 : Int32)) (Int32.toNatClampNeg (((65 : Int32) + ((4 : Int32) * (p3 - p3 / (32 : Int32) * (32 : Int32)))) + (2 : Int32))) (0 : Int32)) (Int32.toNatClampNeg (((65 : Int32) + ((4 : Int32) * (p3 - p3 / (32 : Int32) * (32 : Int32)))) + (3 : Int32))) (0 : Int32)) := by unfold spX5_piece; rw [if_neg c_82, if_neg c_131]
      exact W.vret hx hb hr (fun t ht hW => ⟨⟨(), rfl, trivial, by rw [hE, ht]; exact hP, va_K.moved hW.alike hK, by rw [hE]; exact hD⟩, hS.F ht⟩) hS.2.2 dX5_piece_157
    · refine lv_aload_n hx hb dX5_piece_134 rfl (lv_at hl 2 rfl) ?_
      refine va_get (D := D) (ci := 5) (v := .ref kb) (C := RX5) (T := TX5) (N := 16) hx hb hts k_inX5 hown hK hP 0 rfl rfl 4 (by decide) (hts _ kw_493) (fun _ h9 => h9) rfl dX5_piece_135 ?_
      refine lv_iload hx hb dX5_piece_138 (lv_at hl 0 rfl) ?_
      refine lv_iconst (v := 1) hx hb dX5_piece_140 (by decide) ?_
      refine lv_iadd hx hb dX5_piece_141 ?_
      refine lv_dup2_11 hx hb dX5_piece_142 rfl rfl ?_
      refine va_iald hx hb hK hP 3 0 rfl rfl (by simp only [hr32, show (65 : Int32) = nI 65 from rfl, show (4 : Int32) = nI 4 from rfl, show (1 : Int32) = nI 1 from rfl, pk_mul, nI_add]; exact vp_in_nI (by omega) (by decide)) dX5_piece_143 ?_
      refine lv_iconst (v := 1) hx hb dX5_piece_144 (by decide) ?_
      refine lv_iadd hx hb dX5_piece_145 ?_
      refine va_iast hx hb hK hP hD hS 3 0 rfl rfl (by simp only [hr32, show (65 : Int32) = nI 65 from rfl, show (4 : Int32) = nI 4 from rfl, show (1 : Int32) = nI 1 from rfl, pk_mul, nI_add]; exact vp_in_nI (by omega) (by decide)) dX5_piece_146 (fun H locs hP hD hS => ?_)
      have hP : va_P D vwCl (wK kO km kw kb kr kd kt cA kth kmn kpw klf kmk ksc krc kno kpp kpc kme kwe (upd (upd (upd (upd (upd (upd (upd (upd (spX5_more (spX5_more (spX5_more kbo (2 : Int32) (Int32.toInt64 p1)) (4 : Int32) (Int32.toInt64 (-p1))) (((17 : Int32) + ((3 : Int32) * p2)) + (1 : Int32)) (Int32.toInt64 p1)) (Int32.toNatClampNeg ((17 : Int32) + ((3 : Int32) * p2))) (((spX5_more (spX5_more (spX5_more kbo (2 : Int32) (Int32.toInt64 p1)) (4 : Int32) (Int32.toInt64 (-p1))) (((17 : Int32) + ((3 : Int32) * p2)) + (1 : Int32)) (Int32.toInt64 p1)) (Int32.toNatClampNeg ((17 : Int32) + ((3 : Int32) * p2)))) + (1 : Int32))) (Int32.toNatClampNeg (10 : Int32)) (((upd (spX5_more (spX5_more (spX5_more kbo (2 : Int32) (Int32.toInt64 p1)) (4 : Int32) (Int32.toInt64 (-p1))) (((17 : Int32) + ((3 : Int32) * p2)) + (1 : Int32)) (Int32.toInt64 p1)) (Int32.toNatClampNeg ((17 : Int32) + ((3 : Int32) * p2))) (((spX5_more (spX5_more (spX5_more kbo (2 : Int32) (Int32.toInt64 p1)) (4 : Int32) (Int32.toInt64 (-p1))) (((17 : Int32) + ((3 : Int32) * p2)) + (1 : Int32)) (Int32.toInt64 p1)) (Int32.toNatClampNeg ((17 : Int32) + ((3 : Int32) * p2)))) + (1 : Int32))) (Int32.toNatClampNeg (10 : Int32))) + (1 : Int32))) (Int32.toNatClampNeg (16 : Int32)) p1) (Int32.toNatClampNeg ((65 : Int32) + ((4 : Int32) * (p3 - p3 / (32 : Int32) * (32 : Int32))))) p3) (Int32.toNatClampNeg (((65 : Int32) + ((4 : Int32) * (p3 - p3 / (32 : Int32) * (32 : Int32)))) + (1 : Int32))) (0 : Int32)) (Int32.toNatClampNeg (((65 : Int32) + ((4 : Int32) * (p3 - p3 / (32 : Int32) * (32 : Int32)))) + (2 : Int32))) (0 : Int32)) (Int32.toNatClampNeg (((65 : Int32) + ((4 : Int32) * (p3 - p3 / (32 : Int32) * (32 : Int32)))) + (3 : Int32))) (0 : Int32)) (Int32.toNatClampNeg (((65 : Int32) + ((4 : Int32) * (p3 - p3 / (32 : Int32) * (32 : Int32)))) + (1 : Int32))) (((upd (upd (upd (upd (upd (upd (upd (spX5_more (spX5_more (spX5_more kbo (2 : Int32) (Int32.toInt64 p1)) (4 : Int32) (Int32.toInt64 (-p1))) (((17 : Int32) + ((3 : Int32) * p2)) + (1 : Int32)) (Int32.toInt64 p1)) (Int32.toNatClampNeg ((17 : Int32) + ((3 : Int32) * p2))) (((spX5_more (spX5_more (spX5_more kbo (2 : Int32) (Int32.toInt64 p1)) (4 : Int32) (Int32.toInt64 (-p1))) (((17 : Int32) + ((3 : Int32) * p2)) + (1 : Int32)) (Int32.toInt64 p1)) (Int32.toNatClampNeg ((17 : Int32) + ((3 : Int32) * p2)))) + (1 : Int32))) (Int32.toNatClampNeg (10 : Int32)) (((upd (spX5_more (spX5_more (spX5_more kbo (2 : Int32) (Int32.toInt64 p1)) (4 : Int32) (Int32.toInt64 (-p1))) (((17 : Int32) + ((3 : Int32) * p2)) + (1 : Int32)) (Int32.toInt64 p1)) (Int32.toNatClampNeg ((17 : Int32) + ((3 : Int32) * p2))) (((spX5_more (spX5_more (spX5_more kbo (2 : Int32) (Int32.toInt64 p1)) (4 : Int32) (Int32.toInt64 (-p1))) (((17 : Int32) + ((3 : Int32) * p2)) + (1 : Int32)) (Int32.toInt64 p1)) (Int32.toNatClampNeg ((17 : Int32) + ((3 : Int32) * p2)))) + (1 : Int32))) (Int32.toNatClampNeg (10 : Int32))) + (1 : Int32))) (Int32.toNatClampNeg (16 : Int32)) p1) (Int32.toNatClampNeg ((65 : Int32) + ((4 : Int32) * (p3 - p3 / (32 : Int32) * (32 : Int32))))) p3) (Int32.toNatClampNeg (((65 : Int32) + ((4 : Int32) * (p3 - p3 / (32 : Int32) * (32 : Int32)))) + (1 : Int32))) (0 : Int32)) (Int32.toNatClampNeg (((65 : Int32) + ((4 : Int32) * (p3 - p3 / (32 : Int32) * (32 : Int32)))) + (2 : Int32))) (0 : Int32)) (Int32.toNatClampNeg (((65 : Int32) + ((4 : Int32) * (p3 - p3 / (32 : Int32) * (32 : Int32)))) + (3 : Int32))) (0 : Int32)) (Int32.toNatClampNeg (((65 : Int32) + ((4 : Int32) * (p3 - p3 / (32 : Int32) * (32 : Int32)))) + (1 : Int32)))) + (1 : Int32))) kre kdr ktb) H := hP
      have hD : va_D A (wK kO km kw kb kr kd kt cA kth kmn kpw klf kmk ksc krc kno kpp kpc kme kwe (upd (upd (upd (upd (upd (upd (upd (upd (spX5_more (spX5_more (spX5_more kbo (2 : Int32) (Int32.toInt64 p1)) (4 : Int32) (Int32.toInt64 (-p1))) (((17 : Int32) + ((3 : Int32) * p2)) + (1 : Int32)) (Int32.toInt64 p1)) (Int32.toNatClampNeg ((17 : Int32) + ((3 : Int32) * p2))) (((spX5_more (spX5_more (spX5_more kbo (2 : Int32) (Int32.toInt64 p1)) (4 : Int32) (Int32.toInt64 (-p1))) (((17 : Int32) + ((3 : Int32) * p2)) + (1 : Int32)) (Int32.toInt64 p1)) (Int32.toNatClampNeg ((17 : Int32) + ((3 : Int32) * p2)))) + (1 : Int32))) (Int32.toNatClampNeg (10 : Int32)) (((upd (spX5_more (spX5_more (spX5_more kbo (2 : Int32) (Int32.toInt64 p1)) (4 : Int32) (Int32.toInt64 (-p1))) (((17 : Int32) + ((3 : Int32) * p2)) + (1 : Int32)) (Int32.toInt64 p1)) (Int32.toNatClampNeg ((17 : Int32) + ((3 : Int32) * p2))) (((spX5_more (spX5_more (spX5_more kbo (2 : Int32) (Int32.toInt64 p1)) (4 : Int32) (Int32.toInt64 (-p1))) (((17 : Int32) + ((3 : Int32) * p2)) + (1 : Int32)) (Int32.toInt64 p1)) (Int32.toNatClampNeg ((17 : Int32) + ((3 : Int32) * p2)))) + (1 : Int32))) (Int32.toNatClampNeg (10 : Int32))) + (1 : Int32))) (Int32.toNatClampNeg (16 : Int32)) p1) (Int32.toNatClampNeg ((65 : Int32) + ((4 : Int32) * (p3 - p3 / (32 : Int32) * (32 : Int32))))) p3) (Int32.toNatClampNeg (((65 : Int32) + ((4 : Int32) * (p3 - p3 / (32 : Int32) * (32 : Int32)))) + (1 : Int32))) (0 : Int32)) (Int32.toNatClampNeg (((65 : Int32) + ((4 : Int32) * (p3 - p3 / (32 : Int32) * (32 : Int32)))) + (2 : Int32))) (0 : Int32)) (Int32.toNatClampNeg (((65 : Int32) + ((4 : Int32) * (p3 - p3 / (32 : Int32) * (32 : Int32)))) + (3 : Int32))) (0 : Int32)) (Int32.toNatClampNeg (((65 : Int32) + ((4 : Int32) * (p3 - p3 / (32 : Int32) * (32 : Int32)))) + (1 : Int32))) (((upd (upd (upd (upd (upd (upd (upd (spX5_more (spX5_more (spX5_more kbo (2 : Int32) (Int32.toInt64 p1)) (4 : Int32) (Int32.toInt64 (-p1))) (((17 : Int32) + ((3 : Int32) * p2)) + (1 : Int32)) (Int32.toInt64 p1)) (Int32.toNatClampNeg ((17 : Int32) + ((3 : Int32) * p2))) (((spX5_more (spX5_more (spX5_more kbo (2 : Int32) (Int32.toInt64 p1)) (4 : Int32) (Int32.toInt64 (-p1))) (((17 : Int32) + ((3 : Int32) * p2)) + (1 : Int32)) (Int32.toInt64 p1)) (Int32.toNatClampNeg ((17 : Int32) + ((3 : Int32) * p2)))) + (1 : Int32))) (Int32.toNatClampNeg (10 : Int32)) (((upd (spX5_more (spX5_more (spX5_more kbo (2 : Int32) (Int32.toInt64 p1)) (4 : Int32) (Int32.toInt64 (-p1))) (((17 : Int32) + ((3 : Int32) * p2)) + (1 : Int32)) (Int32.toInt64 p1)) (Int32.toNatClampNeg ((17 : Int32) + ((3 : Int32) * p2))) (((spX5_more (spX5_more (spX5_more kbo (2 : Int32) (Int32.toInt64 p1)) (4 : Int32) (Int32.toInt64 (-p1))) (((17 : Int32) + ((3 : Int32) * p2)) + (1 : Int32)) (Int32.toInt64 p1)) (Int32.toNatClampNeg ((17 : Int32) + ((3 : Int32) * p2)))) + (1 : Int32))) (Int32.toNatClampNeg (10 : Int32))) + (1 : Int32))) (Int32.toNatClampNeg (16 : Int32)) p1) (Int32.toNatClampNeg ((65 : Int32) + ((4 : Int32) * (p3 - p3 / (32 : Int32) * (32 : Int32))))) p3) (Int32.toNatClampNeg (((65 : Int32) + ((4 : Int32) * (p3 - p3 / (32 : Int32) * (32 : Int32)))) + (1 : Int32))) (0 : Int32)) (Int32.toNatClampNeg (((65 : Int32) + ((4 : Int32) * (p3 - p3 / (32 : Int32) * (32 : Int32)))) + (2 : Int32))) (0 : Int32)) (Int32.toNatClampNeg (((65 : Int32) + ((4 : Int32) * (p3 - p3 / (32 : Int32) * (32 : Int32)))) + (3 : Int32))) (0 : Int32)) (Int32.toNatClampNeg (((65 : Int32) + ((4 : Int32) * (p3 - p3 / (32 : Int32) * (32 : Int32)))) + (1 : Int32)))) + (1 : Int32))) kre kdr ktb) := hD
      refine lv_aload_n hx hb dX5_piece_147 rfl (lv_at hl 2 rfl) ?_
      refine lv_iload hx hb dX5_piece_148 (lv_at hl 0 rfl) ?_
      refine lv_iconst (v := 2) hx hb dX5_piece_150 (by decide) ?_
      refine lv_iadd hx hb dX5_piece_151 ?_
      refine lv_iload_n hx hb dX5_piece_152 rfl (lv_at hl 3 rfl) ?_
      refine lv_i2l (v := (Int32.toInt64 p1)) hx hb dX5_piece_153 rfl ?_
      refine k_wrVv (As := [.int (((65 : Int32) + ((4 : Int32) * (p3 - p3 / (32 : Int32) * (32 : Int32)))) + (2 : Int32)), .long (Int32.toInt64 p1)]) (rest := []) (ci := 5) (q0 := 0) (ws' := (wK kO km kw kb kr kd kt cA kth kmn kpw klf kmk ksc krc kno kpp kpc kme kwe (spX5_more (upd (upd (upd (upd (upd (upd (upd (upd (spX5_more (spX5_more (spX5_more kbo (2 : Int32) (Int32.toInt64 p1)) (4 : Int32) (Int32.toInt64 (-p1))) (((17 : Int32) + ((3 : Int32) * p2)) + (1 : Int32)) (Int32.toInt64 p1)) (Int32.toNatClampNeg ((17 : Int32) + ((3 : Int32) * p2))) (((spX5_more (spX5_more (spX5_more kbo (2 : Int32) (Int32.toInt64 p1)) (4 : Int32) (Int32.toInt64 (-p1))) (((17 : Int32) + ((3 : Int32) * p2)) + (1 : Int32)) (Int32.toInt64 p1)) (Int32.toNatClampNeg ((17 : Int32) + ((3 : Int32) * p2)))) + (1 : Int32))) (Int32.toNatClampNeg (10 : Int32)) (((upd (spX5_more (spX5_more (spX5_more kbo (2 : Int32) (Int32.toInt64 p1)) (4 : Int32) (Int32.toInt64 (-p1))) (((17 : Int32) + ((3 : Int32) * p2)) + (1 : Int32)) (Int32.toInt64 p1)) (Int32.toNatClampNeg ((17 : Int32) + ((3 : Int32) * p2))) (((spX5_more (spX5_more (spX5_more kbo (2 : Int32) (Int32.toInt64 p1)) (4 : Int32) (Int32.toInt64 (-p1))) (((17 : Int32) + ((3 : Int32) * p2)) + (1 : Int32)) (Int32.toInt64 p1)) (Int32.toNatClampNeg ((17 : Int32) + ((3 : Int32) * p2)))) + (1 : Int32))) (Int32.toNatClampNeg (10 : Int32))) + (1 : Int32))) (Int32.toNatClampNeg (16 : Int32)) p1) (Int32.toNatClampNeg ((65 : Int32) + ((4 : Int32) * (p3 - p3 / (32 : Int32) * (32 : Int32))))) p3) (Int32.toNatClampNeg (((65 : Int32) + ((4 : Int32) * (p3 - p3 / (32 : Int32) * (32 : Int32)))) + (1 : Int32))) (0 : Int32)) (Int32.toNatClampNeg (((65 : Int32) + ((4 : Int32) * (p3 - p3 / (32 : Int32) * (32 : Int32)))) + (2 : Int32))) (0 : Int32)) (Int32.toNatClampNeg (((65 : Int32) + ((4 : Int32) * (p3 - p3 / (32 : Int32) * (32 : Int32)))) + (3 : Int32))) (0 : Int32)) (Int32.toNatClampNeg (((65 : Int32) + ((4 : Int32) * (p3 - p3 / (32 : Int32) * (32 : Int32)))) + (1 : Int32))) (((upd (upd (upd (upd (upd (upd (upd (spX5_more (spX5_more (spX5_more kbo (2 : Int32) (Int32.toInt64 p1)) (4 : Int32) (Int32.toInt64 (-p1))) (((17 : Int32) + ((3 : Int32) * p2)) + (1 : Int32)) (Int32.toInt64 p1)) (Int32.toNatClampNeg ((17 : Int32) + ((3 : Int32) * p2))) (((spX5_more (spX5_more (spX5_more kbo (2 : Int32) (Int32.toInt64 p1)) (4 : Int32) (Int32.toInt64 (-p1))) (((17 : Int32) + ((3 : Int32) * p2)) + (1 : Int32)) (Int32.toInt64 p1)) (Int32.toNatClampNeg ((17 : Int32) + ((3 : Int32) * p2)))) + (1 : Int32))) (Int32.toNatClampNeg (10 : Int32)) (((upd (spX5_more (spX5_more (spX5_more kbo (2 : Int32) (Int32.toInt64 p1)) (4 : Int32) (Int32.toInt64 (-p1))) (((17 : Int32) + ((3 : Int32) * p2)) + (1 : Int32)) (Int32.toInt64 p1)) (Int32.toNatClampNeg ((17 : Int32) + ((3 : Int32) * p2))) (((spX5_more (spX5_more (spX5_more kbo (2 : Int32) (Int32.toInt64 p1)) (4 : Int32) (Int32.toInt64 (-p1))) (((17 : Int32) + ((3 : Int32) * p2)) + (1 : Int32)) (Int32.toInt64 p1)) (Int32.toNatClampNeg ((17 : Int32) + ((3 : Int32) * p2)))) + (1 : Int32))) (Int32.toNatClampNeg (10 : Int32))) + (1 : Int32))) (Int32.toNatClampNeg (16 : Int32)) p1) (Int32.toNatClampNeg ((65 : Int32) + ((4 : Int32) * (p3 - p3 / (32 : Int32) * (32 : Int32))))) p3) (Int32.toNatClampNeg (((65 : Int32) + ((4 : Int32) * (p3 - p3 / (32 : Int32) * (32 : Int32)))) + (1 : Int32))) (0 : Int32)) (Int32.toNatClampNeg (((65 : Int32) + ((4 : Int32) * (p3 - p3 / (32 : Int32) * (32 : Int32)))) + (2 : Int32))) (0 : Int32)) (Int32.toNatClampNeg (((65 : Int32) + ((4 : Int32) * (p3 - p3 / (32 : Int32) * (32 : Int32)))) + (3 : Int32))) (0 : Int32)) (Int32.toNatClampNeg (((65 : Int32) + ((4 : Int32) * (p3 - p3 / (32 : Int32) * (32 : Int32)))) + (1 : Int32)))) + (1 : Int32))) (((65 : Int32) + ((4 : Int32) * (p3 - p3 / (32 : Int32) * (32 : Int32)))) + (2 : Int32)) (Int32.toInt64 p1)) kre kdr ktb)) (wr := []) ⟨hx, hb, hml, hown, hts⟩ k_self (c_X5_more l D kO km kw kb kr kd kt cA kth kmn kpw klf kmk ksc krc kno kpp kpc kme kwe (upd (upd (upd (upd (upd (upd (upd (upd (spX5_more (spX5_more (spX5_more kbo (2 : Int32) (Int32.toInt64 p1)) (4 : Int32) (Int32.toInt64 (-p1))) (((17 : Int32) + ((3 : Int32) * p2)) + (1 : Int32)) (Int32.toInt64 p1)) (Int32.toNatClampNeg ((17 : Int32) + ((3 : Int32) * p2))) (((spX5_more (spX5_more (spX5_more kbo (2 : Int32) (Int32.toInt64 p1)) (4 : Int32) (Int32.toInt64 (-p1))) (((17 : Int32) + ((3 : Int32) * p2)) + (1 : Int32)) (Int32.toInt64 p1)) (Int32.toNatClampNeg ((17 : Int32) + ((3 : Int32) * p2)))) + (1 : Int32))) (Int32.toNatClampNeg (10 : Int32)) (((upd (spX5_more (spX5_more (spX5_more kbo (2 : Int32) (Int32.toInt64 p1)) (4 : Int32) (Int32.toInt64 (-p1))) (((17 : Int32) + ((3 : Int32) * p2)) + (1 : Int32)) (Int32.toInt64 p1)) (Int32.toNatClampNeg ((17 : Int32) + ((3 : Int32) * p2))) (((spX5_more (spX5_more (spX5_more kbo (2 : Int32) (Int32.toInt64 p1)) (4 : Int32) (Int32.toInt64 (-p1))) (((17 : Int32) + ((3 : Int32) * p2)) + (1 : Int32)) (Int32.toInt64 p1)) (Int32.toNatClampNeg ((17 : Int32) + ((3 : Int32) * p2)))) + (1 : Int32))) (Int32.toNatClampNeg (10 : Int32))) + (1 : Int32))) (Int32.toNatClampNeg (16 : Int32)) p1) (Int32.toNatClampNeg ((65 : Int32) + ((4 : Int32) * (p3 - p3 / (32 : Int32) * (32 : Int32))))) p3) (Int32.toNatClampNeg (((65 : Int32) + ((4 : Int32) * (p3 - p3 / (32 : Int32) * (32 : Int32)))) + (1 : Int32))) (0 : Int32)) (Int32.toNatClampNeg (((65 : Int32) + ((4 : Int32) * (p3 - p3 / (32 : Int32) * (32 : Int32)))) + (2 : Int32))) (0 : Int32)) (Int32.toNatClampNeg (((65 : Int32) + ((4 : Int32) * (p3 - p3 / (32 : Int32) * (32 : Int32)))) + (3 : Int32))) (0 : Int32)) (Int32.toNatClampNeg (((65 : Int32) + ((4 : Int32) * (p3 - p3 / (32 : Int32) * (32 : Int32)))) + (1 : Int32))) (((upd (upd (upd (upd (upd (upd (upd (spX5_more (spX5_more (spX5_more kbo (2 : Int32) (Int32.toInt64 p1)) (4 : Int32) (Int32.toInt64 (-p1))) (((17 : Int32) + ((3 : Int32) * p2)) + (1 : Int32)) (Int32.toInt64 p1)) (Int32.toNatClampNeg ((17 : Int32) + ((3 : Int32) * p2))) (((spX5_more (spX5_more (spX5_more kbo (2 : Int32) (Int32.toInt64 p1)) (4 : Int32) (Int32.toInt64 (-p1))) (((17 : Int32) + ((3 : Int32) * p2)) + (1 : Int32)) (Int32.toInt64 p1)) (Int32.toNatClampNeg ((17 : Int32) + ((3 : Int32) * p2)))) + (1 : Int32))) (Int32.toNatClampNeg (10 : Int32)) (((upd (spX5_more (spX5_more (spX5_more kbo (2 : Int32) (Int32.toInt64 p1)) (4 : Int32) (Int32.toInt64 (-p1))) (((17 : Int32) + ((3 : Int32) * p2)) + (1 : Int32)) (Int32.toInt64 p1)) (Int32.toNatClampNeg ((17 : Int32) + ((3 : Int32) * p2))) (((spX5_more (spX5_more (spX5_more kbo (2 : Int32) (Int32.toInt64 p1)) (4 : Int32) (Int32.toInt64 (-p1))) (((17 : Int32) + ((3 : Int32) * p2)) + (1 : Int32)) (Int32.toInt64 p1)) (Int32.toNatClampNeg ((17 : Int32) + ((3 : Int32) * p2)))) + (1 : Int32))) (Int32.toNatClampNeg (10 : Int32))) + (1 : Int32))) (Int32.toNatClampNeg (16 : Int32)) p1) (Int32.toNatClampNeg ((65 : Int32) + ((4 : Int32) * (p3 - p3 / (32 : Int32) * (32 : Int32))))) p3) (Int32.toNatClampNeg (((65 : Int32) + ((4 : Int32) * (p3 - p3 / (32 : Int32) * (32 : Int32)))) + (1 : Int32))) (0 : Int32)) (Int32.toNatClampNeg (((65 : Int32) + ((4 : Int32) * (p3 - p3 / (32 : Int32) * (32 : Int32)))) + (2 : Int32))) (0 : Int32)) (Int32.toNatClampNeg (((65 : Int32) + ((4 : Int32) * (p3 - p3 / (32 : Int32) * (32 : Int32)))) + (3 : Int32))) (0 : Int32)) (Int32.toNatClampNeg (((65 : Int32) + ((4 : Int32) * (p3 - p3 / (32 : Int32) * (32 : Int32)))) + (1 : Int32)))) + (1 : Int32))) kre kdr ktb (((65 : Int32) + ((4 : Int32) * (p3 - p3 / (32 : Int32) * (32 : Int32)))) + (2 : Int32)) (Int32.toInt64 p1) ⟨65 + 4 * (tq % 32) + 2, by simp only [hr32, show (65 : Int32) = nI 65 from rfl, show (4 : Int32) = nI 4 from rfl, show (2 : Int32) = nI 2 from rfl, pk_mul, nI_add], by omega⟩) kv_X5_98 hP hD hS hA hK rfl rfl [0, 1, 2, 3, 4, 5, 6] [] [0, 1, 2, 3, 4, 5, 6] rfl (by decide) rfl (by decide) (by decide) rfl (by decide) rfl rfl ⟨Nat.le_of_ble_eq_true rfl, Nat.le_of_ble_eq_true rfl⟩ rfl hl.1 rfl (Nat.le_of_ble_eq_true rfl) dX5_piece_154 ⟨Nat.zero_le _, Nat.zero_le _⟩ (fun H locs hP hD hS => ?_)
      have hE : spX5_piece kbo p1 p2 p3 = (spX5_more (upd (upd (upd (upd (upd (upd (upd (upd (spX5_more (spX5_more (spX5_more kbo (2 : Int32) (Int32.toInt64 p1)) (4 : Int32) (Int32.toInt64 (-p1))) (((17 : Int32) + ((3 : Int32) * p2)) + (1 : Int32)) (Int32.toInt64 p1)) (Int32.toNatClampNeg ((17 : Int32) + ((3 : Int32) * p2))) (((spX5_more (spX5_more (spX5_more kbo (2 : Int32) (Int32.toInt64 p1)) (4 : Int32) (Int32.toInt64 (-p1))) (((17 : Int32) + ((3 : Int32) * p2)) + (1 : Int32)) (Int32.toInt64 p1)) (Int32.toNatClampNeg ((17 : Int32) + ((3 : Int32) * p2)))) + (1 : Int32))) (Int32.toNatClampNeg (10 : Int32)) (((upd (spX5_more (spX5_more (spX5_more kbo (2 : Int32) (Int32.toInt64 p1)) (4 : Int32) (Int32.toInt64 (-p1))) (((17 : Int32) + ((3 : Int32) * p2)) + (1 : Int32)) (Int32.toInt64 p1)) (Int32.toNatClampNeg ((17 : Int32) + ((3 : Int32) * p2))) (((spX5_more (spX5_more (spX5_more kbo (2 : Int32) (Int32.toInt64 p1)) (4 : Int32) (Int32.toInt64 (-p1))) (((17 : Int32) + ((3 : Int32) * p2)) + (1 : Int32)) (Int32.toInt64 p1)) (Int32.toNatClampNeg ((17 : Int32) + ((3 : Int32) * p2)))) + (1 : Int32))) (Int32.toNatClampNeg (10 : Int32))) + (1 : Int32))) (Int32.toNatClampNeg (16 : Int32)) p1) (Int32.toNatClampNeg ((65 : Int32) + ((4 : Int32) * (p3 - p3 / (32 : Int32) * (32 : Int32))))) p3) (Int32.toNatClampNeg (((65 : Int32) + ((4 : Int32) * (p3 - p3 / (32 : Int32) * (32 : Int32)))) + (1 : Int32))) (0 : Int32)) (Int32.toNatClampNeg (((65 : Int32) + ((4 : Int32) * (p3 - p3 / (32 : Int32) * (32 : Int32)))) + (2 : Int32))) (0 : Int32)) (Int32.toNatClampNeg (((65 : Int32) + ((4 : Int32) * (p3 - p3 / (32 : Int32) * (32 : Int32)))) + (3 : Int32))) (0 : Int32)) (Int32.toNatClampNeg (((65 : Int32) + ((4 : Int32) * (p3 - p3 / (32 : Int32) * (32 : Int32)))) + (1 : Int32))) (((upd (upd (upd (upd (upd (upd (upd (spX5_more (spX5_more (spX5_more kbo (2 : Int32) (Int32.toInt64 p1)) (4 : Int32) (Int32.toInt64 (-p1))) (((17 : Int32) + ((3 : Int32) * p2)) + (1 : Int32)) (Int32.toInt64 p1)) (Int32.toNatClampNeg ((17 : Int32) + ((3 : Int32) * p2))) (((spX5_more (spX5_more (spX5_more kbo (2 : Int32) (Int32.toInt64 p1)) (4 : Int32) (Int32.toInt64 (-p1))) (((17 : Int32) + ((3 : Int32) * p2)) + (1 : Int32)) (Int32.toInt64 p1)) (Int32.toNatClampNeg ((17 : Int32) + ((3 : Int32) * p2)))) + (1 : Int32))) (Int32.toNatClampNeg (10 : Int32)) (((upd (spX5_more (spX5_more (spX5_more kbo (2 : Int32) (Int32.toInt64 p1)) (4 : Int32) (Int32.toInt64 (-p1))) (((17 : Int32) + ((3 : Int32) * p2)) + (1 : Int32)) (Int32.toInt64 p1)) (Int32.toNatClampNeg ((17 : Int32) + ((3 : Int32) * p2))) (((spX5_more (spX5_more (spX5_more kbo (2 : Int32) (Int32.toInt64 p1)) (4 : Int32) (Int32.toInt64 (-p1))) (((17 : Int32) + ((3 : Int32) * p2)) + (1 : Int32)) (Int32.toInt64 p1)) (Int32.toNatClampNeg ((17 : Int32) + ((3 : Int32) * p2)))) + (1 : Int32))) (Int32.toNatClampNeg (10 : Int32))) + (1 : Int32))) (Int32.toNatClampNeg (16 : Int32)) p1) (Int32.toNatClampNeg ((65 : Int32) + ((4 : Int32) * (p3 - p3 / (32 : Int32) * (32 : Int32))))) p3) (Int32.toNatClampNeg (((65 : Int32) + ((4 : Int32) * (p3 - p3 / (32 : Int32) * (32 : Int32)))) + (1 : Int32))) (0 : Int32)) (Int32.toNatClampNeg (((65 : Int32) + ((4 : Int32) * (p3 - p3 / (32 : Int32) * (32 : Int32)))) + (2 : Int32))) (0 : Int32)) (Int32.toNatClampNeg (((65 : Int32) + ((4 : Int32) * (p3 - p3 / (32 : Int32) * (32 : Int32)))) + (3 : Int32))) (0 : Int32)) (Int32.toNatClampNeg (((65 : Int32) + ((4 : Int32) * (p3 - p3 / (32 : Int32) * (32 : Int32)))) + (1 : Int32)))) + (1 : Int32))) (((65 : Int32) + ((4 : Int32) * (p3 - p3 / (32 : Int32) * (32 : Int32)))) + (2 : Int32)) (Int32.toInt64 p1)) := by unfold spX5_piece; rw [if_neg c_82, if_pos c_131]
      exact W.vret hx hb hr (fun t ht hW => ⟨⟨(), rfl, trivial, by rw [hE, ht]; exact hP, va_K.moved hW.alike hK, by rw [hE]; exact hD⟩, hS.F ht⟩) hS.2.2 dX5_piece_157
def spX5_act (kbo : Nat → Int32) (p1 : Int32) (p2 : Int32) (p3 : Int32) : (Nat → Int32) := (if p1 = 1 then (spX5_piece kbo p2 (p3 - p3 / (16 : Int32) * (16 : Int32)) (p3 / (16 : Int32))) else (if p1 = 2 then (upd kbo (Int32.toNatClampNeg (16 : Int32)) (0 : Int32)) else (if p1 = 3 then (if p2 = 0 then (upd (spX5_more (spX5_more kbo (4 : Int32) (Int32.toInt64 (kbo (Int32.toNatClampNeg (16 : Int32))))) (8 : Int32) (Int32.toInt64 ((spX5_more kbo (4 : Int32) (Int32.toInt64 (kbo (Int32.toNatClampNeg (16 : Int32))))) (Int32.toNatClampNeg (16 : Int32))))) (Int32.toNatClampNeg (16 : Int32)) (0 : Int32)) else (upd (spX5_more (spX5_more kbo (4 : Int32) (0 : Int64)) (8 : Int32) (0 : Int64)) (Int32.toNatClampNeg (16 : Int32)) (0 : Int32))) else (if p1 = 4 then (upd (spX5_more (spX5_more kbo (4 : Int32) (Int32.toInt64 p2)) (6 : Int32) (Int32.toInt64 p2)) (Int32.toNatClampNeg (12 : Int32)) (((spX5_more (spX5_more kbo (4 : Int32) (Int32.toInt64 p2)) (6 : Int32) (Int32.toInt64 p2)) (Int32.toNatClampNeg (12 : Int32))) + (1 : Int32))) else (if p1 = 5 then (upd (spX5_more (spX5_more kbo (4 : Int32) (Int32.toInt64 p2)) (8 : Int32) (Int32.toInt64 p2)) (Int32.toNatClampNeg (11 : Int32)) (((spX5_more (spX5_more kbo (4 : Int32) (Int32.toInt64 p2)) (8 : Int32) (Int32.toInt64 p2)) (Int32.toNatClampNeg (11 : Int32))) + (1 : Int32))) else (if p1 = 6 then (upd kbo (Int32.toNatClampNeg (14 : Int32)) p2) else (if p1 = 7 then (upd kbo (Int32.toNatClampNeg (13 : Int32)) (1 : Int32)) else (if p1 = 8 then (upd kbo (Int32.toNatClampNeg (13 : Int32)) (0 : Int32)) else (upd kbo (Int32.toNatClampNeg (15 : Int32)) p2)))))))))
set_option maxHeartbeats 4000000 in
set_option maxRecDepth 100000 in
theorem c_X5_act (l : Launch) (D : va_G) (kO km kw kb kr kd kt : Nat) (cA : ClassId) (kth : Int32) (kmn : Int32) (kpw : Int32) (klf : Int32) (kmk : Int32) (ksc : Int32) (krc : Int32) (kno : Int32) (kpp : Int32) (kpc : Int64) (kme : Nat → Int32) (kwe : Nat → Int32) (kbo : Nat → Int32) (kre : Nat → Int32) (kdr : Nat → Int32) (ktb : Nat → Int32) (p1 : Int32) (p2 : Int32) (p3 : Int32) (hb1 : p1 = 1 → ¬ p3 < 0) : kWv l yX5_act cX5_act 4 none { frames := 3, cells := 0, slots := 0, locals := 71 } D [(cA, .int)] [.ref kO, .int p1, .int p2, .int p3] (wK kO km kw kb kr kd kt cA kth kmn kpw klf kmk ksc krc kno kpp kpc kme kwe kbo kre kdr ktb) (wK kO km kw kb kr kd kt cA kth kmn kpw klf kmk ksc krc kno kpp kpc kme kwe (spX5_act kbo p1 p2 p3) kre kdr ktb) := by
  intro sz
  refine Met.ofW (cc := cX5_act) (maxL := 4) (ret := none) (by decide) rfl ?_
  intro p e s m args below meth c s₁ B hml hv
  obtain ⟨rfl, hsz, hP, hK, hD0⟩ := hv
  have hx := B.exec
  have hb := B.bytes
  have hr := B.returns
  have hts : ∀ w ∈ kG, w.before _ s = true := fun w h => atoms_spec (ws := kT yX5_act cX5_act 4 none) B.pre w (List.mem_cons_of_mem _ h)
  have hown : s.vm.findClass RX5 = some m.cls := findClass_of_methodNamed B.named
  have hlocks := B.notSynchronized
  subst hsz
  have hD := hD0.self (sz := s.heap.size)
  generalize hAe : va_A (wK kO km kw kb kr kd kt cA kth kmn kpw klf kmk ksc krc kno kpp kpc kme kwe kbo kre kdr ktb) s.heap.size = A at hD ⊢
  have hA : ∀ q : Nat, s.heap.size ≤ q → A q := fun q h => by rw [← hAe]; exact Or.inr h
  have hS : va_S A s.heap s.heap [] := va_S.rf
  have hl := lv_entry ([.ref kO, .int p1, .int p2, .int p3]) (n := 4) (Nat.le_of_ble_eq_true rfl)
  rw [lg_entry_eq]
  generalize (lg_sl ([.ref kO, .int p1, .int p2, .int p3]) ++ List.replicate (4 - (lg_sl ([.ref kO, .int p1, .int p2, .int p3])).length) Slot.unset).toArray = ls at hl ⊢
  have hl : lv_has ls 4 [(0, .ref kO), (1, .int p1), (2, .int p2), (3, .int p3)] := hl
  refine lv_iload_n hx hb dX5_act_0 rfl (lv_at hl 1 rfl) ?_
  by_cases c_1_1 : p1 = 1
  · refine lv_tableIn (tgt := 48) hx hb dX5_act_1 (by rw [c_1_1]; decide) (by rw [c_1_1]; decide) (by rw [c_1_1]; rfl) (by decide) ?_
    refine lv_aload_n hx hb dX5_act_48 rfl (lv_at hl 0 rfl) ?_
    refine lv_iload_n hx hb dX5_act_49 rfl (lv_at hl 2 rfl) ?_
    refine lv_iload_n hx hb dX5_act_50 rfl (lv_at hl 3 rfl) ?_
    refine lv_bipush (v := 16) hx hb dX5_act_51 (by decide) ?_
    refine lv_irem hx hb dX5_act_53 (by decide) ?_
    refine lv_iload_n hx hb dX5_act_54 rfl (lv_at hl 3 rfl) ?_
    refine lv_bipush (v := 16) hx hb dX5_act_55 (by decide) ?_
    refine lv_idiv hx hb dX5_act_57 (by decide) ?_
    refine k_wrVv (As := [.int p2, .int (p3 - p3 / (16 : Int32) * (16 : Int32)), .int (p3 / (16 : Int32))]) (rest := []) (ci := 5) (q0 := 0) (ws' := (wK kO km kw kb kr kd kt cA kth kmn kpw klf kmk ksc krc kno kpp kpc kme kwe (spX5_piece kbo p2 (p3 - p3 / (16 : Int32) * (16 : Int32)) (p3 / (16 : Int32))) kre kdr ktb)) (wr := []) ⟨hx, hb, hml, hown, hts⟩ k_self (c_X5_piece l D kO km kw kb kr kd kt cA kth kmn kpw klf kmk ksc krc kno kpp kpc kme kwe kbo kre kdr ktb p2 (p3 - p3 / (16 : Int32) * (16 : Int32)) (p3 / (16 : Int32)) (k_dep (hb1 c_1_1)) (k_day (hb1 c_1_1))) kv_X5_95 hP hD hS hA hK rfl rfl [0, 1, 2, 3, 4, 5, 6] [] [0, 1, 2, 3, 4, 5, 6] rfl (by decide) rfl (by decide) (by decide) rfl (by decide) rfl rfl ⟨Nat.le_of_ble_eq_true rfl, Nat.le_of_ble_eq_true rfl⟩ rfl hl.1 rfl (Nat.le_of_ble_eq_true rfl) dX5_act_58 ⟨Nat.zero_le _, Nat.zero_le _⟩ (fun H locs hP hD hS => ?_)
    refine lv_goto (tgt := 228) hx hb dX5_act_61 (by decide) ?_
    have hE : spX5_act kbo p1 p2 p3 = (spX5_piece kbo p2 (p3 - p3 / (16 : Int32) * (16 : Int32)) (p3 / (16 : Int32))) := by unfold spX5_act; rw [if_pos c_1_1]
    exact W.vret hx hb hr (fun t ht hW => ⟨⟨(), rfl, trivial, by rw [hE, ht]; exact hP, va_K.moved hW.alike hK, by rw [hE]; exact hD⟩, hS.F ht⟩) hS.2.2 dX5_act_228
  by_cases c_1_2 : p1 = 2
  · refine lv_tableIn (tgt := 64) hx hb dX5_act_1 (by rw [c_1_2]; decide) (by rw [c_1_2]; decide) (by rw [c_1_2]; rfl) (by decide) ?_
    refine lv_aload_n hx hb dX5_act_64 rfl (lv_at hl 0 rfl) ?_
    refine va_get (D := D) (ci := 5) (v := .ref kb) (C := RX5) (T := TX5) (N := 16) hx hb hts k_inX5 hown hK hP 0 rfl rfl 4 (by decide) (hts _ kw_493) (fun _ h9 => h9) rfl dX5_act_65 ?_
    refine lv_bipush (v := 16) hx hb dX5_act_68 (by decide) ?_
    refine lv_iconst (v := 0) hx hb dX5_act_70 (by decide) ?_
    refine va_iast hx hb hK hP hD hS 3 0 rfl rfl (vp_in_nI (n := 16) (N := 193) (by decide) (by decide)) dX5_act_71 (fun H locs hP hD hS => ?_)
    have hP : va_P D vwCl (wK kO km kw kb kr kd kt cA kth kmn kpw klf kmk ksc krc kno kpp kpc kme kwe (upd kbo (Int32.toNatClampNeg (16 : Int32)) (0 : Int32)) kre kdr ktb) H := hP
    have hD : va_D A (wK kO km kw kb kr kd kt cA kth kmn kpw klf kmk ksc krc kno kpp kpc kme kwe (upd kbo (Int32.toNatClampNeg (16 : Int32)) (0 : Int32)) kre kdr ktb) := hD
    refine lv_goto (tgt := 228) hx hb dX5_act_72 (by decide) ?_
    have hE : spX5_act kbo p1 p2 p3 = (upd kbo (Int32.toNatClampNeg (16 : Int32)) (0 : Int32)) := by unfold spX5_act; rw [if_neg c_1_1, if_pos c_1_2]
    exact W.vret hx hb hr (fun t ht hW => ⟨⟨(), rfl, trivial, by rw [hE, ht]; exact hP, va_K.moved hW.alike hK, by rw [hE]; exact hD⟩, hS.F ht⟩) hS.2.2 dX5_act_228
  by_cases c_1_3 : p1 = 3
  · refine lv_tableIn (tgt := 75) hx hb dX5_act_1 (by rw [c_1_3]; decide) (by rw [c_1_3]; decide) (by rw [c_1_3]; rfl) (by decide) ?_
    refine lv_aload_n hx hb dX5_act_75 rfl (lv_at hl 0 rfl) ?_
    refine lv_iconst (v := 4) hx hb dX5_act_76 (by decide) ?_
    refine lv_iload_n hx hb dX5_act_77 rfl (lv_at hl 2 rfl) ?_
    refine lv_if_ne (tgt := 92) hx hb dX5_act_78 (by decide) (fun c_78 => ?_) (fun c_78 => ?_)
    · refine lv_lconst (v := 0) hx hb dX5_act_92 (by decide) ?_
      refine k_wrVv (As := [.int (4 : Int32), .long (0 : Int64)]) (rest := []) (ci := 5) (q0 := 0) (ws' := (wK kO km kw kb kr kd kt cA kth kmn kpw klf kmk ksc krc kno kpp kpc kme kwe (spX5_more kbo (4 : Int32) (0 : Int64)) kre kdr ktb)) (wr := []) ⟨hx, hb, hml, hown, hts⟩ k_self (c_X5_more l D kO km kw kb kr kd kt cA kth kmn kpw klf kmk ksc krc kno kpp kpc kme kwe kbo kre kdr ktb (4 : Int32) (0 : Int64) ⟨4, rfl, by decide⟩) kv_X5_98 hP hD hS hA hK rfl rfl [0, 1, 2, 3, 4, 5, 6] [] [0, 1, 2, 3, 4, 5, 6] rfl (by decide) rfl (by decide) (by decide) rfl (by decide) rfl rfl ⟨Nat.le_of_ble_eq_true rfl, Nat.le_of_ble_eq_true rfl⟩ rfl hl.1 rfl (Nat.le_of_ble_eq_true rfl) dX5_act_93 ⟨Nat.zero_le _, Nat.zero_le _⟩ (fun H locs hP hD hS => ?_)
      refine lv_aload_n hx hb dX5_act_96 rfl (lv_at hl 0 rfl) ?_
      refine lv_bipush (v := 8) hx hb dX5_act_97 (by decide) ?_
      refine lv_iload_n hx hb dX5_act_99 rfl (lv_at hl 2 rfl) ?_
      refine lv_if_ne (tgt := 114) hx hb dX5_act_100 (by decide) (fun c_100 => ?_) (fun c_100 => ?_)
      · refine lv_lconst (v := 0) hx hb dX5_act_114 (by decide) ?_
        refine k_wrVv (As := [.int (8 : Int32), .long (0 : Int64)]) (rest := []) (ci := 5) (q0 := 0) (ws' := (wK kO km kw kb kr kd kt cA kth kmn kpw klf kmk ksc krc kno kpp kpc kme kwe (spX5_more (spX5_more kbo (4 : Int32) (0 : Int64)) (8 : Int32) (0 : Int64)) kre kdr ktb)) (wr := []) ⟨hx, hb, hml, hown, hts⟩ k_self (c_X5_more l D kO km kw kb kr kd kt cA kth kmn kpw klf kmk ksc krc kno kpp kpc kme kwe (spX5_more kbo (4 : Int32) (0 : Int64)) kre kdr ktb (8 : Int32) (0 : Int64) ⟨8, rfl, by decide⟩) kv_X5_98 hP hD hS hA hK rfl rfl [0, 1, 2, 3, 4, 5, 6] [] [0, 1, 2, 3, 4, 5, 6] rfl (by decide) rfl (by decide) (by decide) rfl (by decide) rfl rfl ⟨Nat.le_of_ble_eq_true rfl, Nat.le_of_ble_eq_true rfl⟩ rfl hl.1 rfl (Nat.le_of_ble_eq_true rfl) dX5_act_115 ⟨Nat.zero_le _, Nat.zero_le _⟩ (fun H locs hP hD hS => ?_)
        refine lv_aload_n hx hb dX5_act_118 rfl (lv_at hl 0 rfl) ?_
        refine va_get (D := D) (ci := 5) (v := .ref kb) (C := RX5) (T := TX5) (N := 16) hx hb hts k_inX5 hown hK hP 0 rfl rfl 4 (by decide) (hts _ kw_493) (fun _ h9 => h9) rfl dX5_act_119 ?_
        refine lv_bipush (v := 16) hx hb dX5_act_122 (by decide) ?_
        refine lv_iconst (v := 0) hx hb dX5_act_124 (by decide) ?_
        refine va_iast hx hb hK hP hD hS 3 0 rfl rfl (vp_in_nI (n := 16) (N := 193) (by decide) (by decide)) dX5_act_125 (fun H locs hP hD hS => ?_)
        have hP : va_P D vwCl (wK kO km kw kb kr kd kt cA kth kmn kpw klf kmk ksc krc kno kpp kpc kme kwe (upd (spX5_more (spX5_more kbo (4 : Int32) (0 : Int64)) (8 : Int32) (0 : Int64)) (Int32.toNatClampNeg (16 : Int32)) (0 : Int32)) kre kdr ktb) H := hP
        have hD : va_D A (wK kO km kw kb kr kd kt cA kth kmn kpw klf kmk ksc krc kno kpp kpc kme kwe (upd (spX5_more (spX5_more kbo (4 : Int32) (0 : Int64)) (8 : Int32) (0 : Int64)) (Int32.toNatClampNeg (16 : Int32)) (0 : Int32)) kre kdr ktb) := hD
        refine lv_goto (tgt := 228) hx hb dX5_act_126 (by decide) ?_
        have hE : spX5_act kbo p1 p2 p3 = (upd (spX5_more (spX5_more kbo (4 : Int32) (0 : Int64)) (8 : Int32) (0 : Int64)) (Int32.toNatClampNeg (16 : Int32)) (0 : Int32)) := by unfold spX5_act; rw [if_neg c_1_1, if_neg c_1_2, if_pos c_1_3, if_neg c_78]
        exact W.vret hx hb hr (fun t ht hW => ⟨⟨(), rfl, trivial, by rw [hE, ht]; exact hP, va_K.moved hW.alike hK, by rw [hE]; exact hD⟩, hS.F ht⟩) hS.2.2 dX5_act_228
      · exact absurd c_100 c_78
    · refine lv_aload_n hx hb dX5_act_81 rfl (lv_at hl 0 rfl) ?_
      refine va_get (D := D) (ci := 5) (v := .ref kb) (C := RX5) (T := TX5) (N := 16) hx hb hts k_inX5 hown hK hP 0 rfl rfl 4 (by decide) (hts _ kw_493) (fun _ h9 => h9) rfl dX5_act_82 ?_
      refine lv_bipush (v := 16) hx hb dX5_act_85 (by decide) ?_
      refine va_iald hx hb hK hP 3 0 rfl rfl (vp_in_nI (n := 16) (N := 193) (by decide) (by decide)) dX5_act_87 ?_
      refine lv_i2l (v := (Int32.toInt64 (kbo (Int32.toNatClampNeg (16 : Int32))))) hx hb dX5_act_88 rfl ?_
      refine lv_goto (tgt := 93) hx hb dX5_act_89 (by decide) ?_
      refine k_wrVv (As := [.int (4 : Int32), .long (Int32.toInt64 (kbo (Int32.toNatClampNeg (16 : Int32))))]) (rest := []) (ci := 5) (q0 := 0) (ws' := (wK kO km kw kb kr kd kt cA kth kmn kpw klf kmk ksc krc kno kpp kpc kme kwe (spX5_more kbo (4 : Int32) (Int32.toInt64 (kbo (Int32.toNatClampNeg (16 : Int32))))) kre kdr ktb)) (wr := []) ⟨hx, hb, hml, hown, hts⟩ k_self (c_X5_more l D kO km kw kb kr kd kt cA kth kmn kpw klf kmk ksc krc kno kpp kpc kme kwe kbo kre kdr ktb (4 : Int32) (Int32.toInt64 (kbo (Int32.toNatClampNeg (16 : Int32)))) ⟨4, rfl, by decide⟩) kv_X5_98 hP hD hS hA hK rfl rfl [0, 1, 2, 3, 4, 5, 6] [] [0, 1, 2, 3, 4, 5, 6] rfl (by decide) rfl (by decide) (by decide) rfl (by decide) rfl rfl ⟨Nat.le_of_ble_eq_true rfl, Nat.le_of_ble_eq_true rfl⟩ rfl hl.1 rfl (Nat.le_of_ble_eq_true rfl) dX5_act_93 ⟨Nat.zero_le _, Nat.zero_le _⟩ (fun H locs hP hD hS => ?_)
      refine lv_aload_n hx hb dX5_act_96 rfl (lv_at hl 0 rfl) ?_
      refine lv_bipush (v := 8) hx hb dX5_act_97 (by decide) ?_
      refine lv_iload_n hx hb dX5_act_99 rfl (lv_at hl 2 rfl) ?_
      refine lv_if_ne (tgt := 114) hx hb dX5_act_100 (by decide) (fun c_100 => ?_) (fun c_100 => ?_)
      · exact absurd c_78 c_100
      · refine lv_aload_n hx hb dX5_act_103 rfl (lv_at hl 0 rfl) ?_
        refine va_get (D := D) (ci := 5) (v := .ref kb) (C := RX5) (T := TX5) (N := 16) hx hb hts k_inX5 hown hK hP 0 rfl rfl 4 (by decide) (hts _ kw_493) (fun _ h9 => h9) rfl dX5_act_104 ?_
        refine lv_bipush (v := 16) hx hb dX5_act_107 (by decide) ?_
        refine va_iald hx hb hK hP 3 0 rfl rfl (vp_in_nI (n := 16) (N := 193) (by decide) (by decide)) dX5_act_109 ?_
        refine lv_i2l (v := (Int32.toInt64 ((spX5_more kbo (4 : Int32) (Int32.toInt64 (kbo (Int32.toNatClampNeg (16 : Int32))))) (Int32.toNatClampNeg (16 : Int32))))) hx hb dX5_act_110 rfl ?_
        refine lv_goto (tgt := 115) hx hb dX5_act_111 (by decide) ?_
        refine k_wrVv (As := [.int (8 : Int32), .long (Int32.toInt64 ((spX5_more kbo (4 : Int32) (Int32.toInt64 (kbo (Int32.toNatClampNeg (16 : Int32))))) (Int32.toNatClampNeg (16 : Int32))))]) (rest := []) (ci := 5) (q0 := 0) (ws' := (wK kO km kw kb kr kd kt cA kth kmn kpw klf kmk ksc krc kno kpp kpc kme kwe (spX5_more (spX5_more kbo (4 : Int32) (Int32.toInt64 (kbo (Int32.toNatClampNeg (16 : Int32))))) (8 : Int32) (Int32.toInt64 ((spX5_more kbo (4 : Int32) (Int32.toInt64 (kbo (Int32.toNatClampNeg (16 : Int32))))) (Int32.toNatClampNeg (16 : Int32))))) kre kdr ktb)) (wr := []) ⟨hx, hb, hml, hown, hts⟩ k_self (c_X5_more l D kO km kw kb kr kd kt cA kth kmn kpw klf kmk ksc krc kno kpp kpc kme kwe (spX5_more kbo (4 : Int32) (Int32.toInt64 (kbo (Int32.toNatClampNeg (16 : Int32))))) kre kdr ktb (8 : Int32) (Int32.toInt64 ((spX5_more kbo (4 : Int32) (Int32.toInt64 (kbo (Int32.toNatClampNeg (16 : Int32))))) (Int32.toNatClampNeg (16 : Int32)))) ⟨8, rfl, by decide⟩) kv_X5_98 hP hD hS hA hK rfl rfl [0, 1, 2, 3, 4, 5, 6] [] [0, 1, 2, 3, 4, 5, 6] rfl (by decide) rfl (by decide) (by decide) rfl (by decide) rfl rfl ⟨Nat.le_of_ble_eq_true rfl, Nat.le_of_ble_eq_true rfl⟩ rfl hl.1 rfl (Nat.le_of_ble_eq_true rfl) dX5_act_115 ⟨Nat.zero_le _, Nat.zero_le _⟩ (fun H locs hP hD hS => ?_)
        refine lv_aload_n hx hb dX5_act_118 rfl (lv_at hl 0 rfl) ?_
        refine va_get (D := D) (ci := 5) (v := .ref kb) (C := RX5) (T := TX5) (N := 16) hx hb hts k_inX5 hown hK hP 0 rfl rfl 4 (by decide) (hts _ kw_493) (fun _ h9 => h9) rfl dX5_act_119 ?_
        refine lv_bipush (v := 16) hx hb dX5_act_122 (by decide) ?_
        refine lv_iconst (v := 0) hx hb dX5_act_124 (by decide) ?_
        refine va_iast hx hb hK hP hD hS 3 0 rfl rfl (vp_in_nI (n := 16) (N := 193) (by decide) (by decide)) dX5_act_125 (fun H locs hP hD hS => ?_)
        have hP : va_P D vwCl (wK kO km kw kb kr kd kt cA kth kmn kpw klf kmk ksc krc kno kpp kpc kme kwe (upd (spX5_more (spX5_more kbo (4 : Int32) (Int32.toInt64 (kbo (Int32.toNatClampNeg (16 : Int32))))) (8 : Int32) (Int32.toInt64 ((spX5_more kbo (4 : Int32) (Int32.toInt64 (kbo (Int32.toNatClampNeg (16 : Int32))))) (Int32.toNatClampNeg (16 : Int32))))) (Int32.toNatClampNeg (16 : Int32)) (0 : Int32)) kre kdr ktb) H := hP
        have hD : va_D A (wK kO km kw kb kr kd kt cA kth kmn kpw klf kmk ksc krc kno kpp kpc kme kwe (upd (spX5_more (spX5_more kbo (4 : Int32) (Int32.toInt64 (kbo (Int32.toNatClampNeg (16 : Int32))))) (8 : Int32) (Int32.toInt64 ((spX5_more kbo (4 : Int32) (Int32.toInt64 (kbo (Int32.toNatClampNeg (16 : Int32))))) (Int32.toNatClampNeg (16 : Int32))))) (Int32.toNatClampNeg (16 : Int32)) (0 : Int32)) kre kdr ktb) := hD
        refine lv_goto (tgt := 228) hx hb dX5_act_126 (by decide) ?_
        have hE : spX5_act kbo p1 p2 p3 = (upd (spX5_more (spX5_more kbo (4 : Int32) (Int32.toInt64 (kbo (Int32.toNatClampNeg (16 : Int32))))) (8 : Int32) (Int32.toInt64 ((spX5_more kbo (4 : Int32) (Int32.toInt64 (kbo (Int32.toNatClampNeg (16 : Int32))))) (Int32.toNatClampNeg (16 : Int32))))) (Int32.toNatClampNeg (16 : Int32)) (0 : Int32)) := by unfold spX5_act; rw [if_neg c_1_1, if_neg c_1_2, if_pos c_1_3, if_pos c_78]
        exact W.vret hx hb hr (fun t ht hW => ⟨⟨(), rfl, trivial, by rw [hE, ht]; exact hP, va_K.moved hW.alike hK, by rw [hE]; exact hD⟩, hS.F ht⟩) hS.2.2 dX5_act_228
  by_cases c_1_4 : p1 = 4
  · refine lv_tableIn (tgt := 129) hx hb dX5_act_1 (by rw [c_1_4]; decide) (by rw [c_1_4]; decide) (by rw [c_1_4]; rfl) (by decide) ?_
    refine lv_aload_n hx hb dX5_act_129 rfl (lv_at hl 0 rfl) ?_
    refine lv_iconst (v := 4) hx hb dX5_act_130 (by decide) ?_
    refine lv_iload_n hx hb dX5_act_131 rfl (lv_at hl 2 rfl) ?_
    refine lv_i2l (v := (Int32.toInt64 p2)) hx hb dX5_act_132 rfl ?_
    refine k_wrVv (As := [.int (4 : Int32), .long (Int32.toInt64 p2)]) (rest := []) (ci := 5) (q0 := 0) (ws' := (wK kO km kw kb kr kd kt cA kth kmn kpw klf kmk ksc krc kno kpp kpc kme kwe (spX5_more kbo (4 : Int32) (Int32.toInt64 p2)) kre kdr ktb)) (wr := []) ⟨hx, hb, hml, hown, hts⟩ k_self (c_X5_more l D kO km kw kb kr kd kt cA kth kmn kpw klf kmk ksc krc kno kpp kpc kme kwe kbo kre kdr ktb (4 : Int32) (Int32.toInt64 p2) ⟨4, rfl, by decide⟩) kv_X5_98 hP hD hS hA hK rfl rfl [0, 1, 2, 3, 4, 5, 6] [] [0, 1, 2, 3, 4, 5, 6] rfl (by decide) rfl (by decide) (by decide) rfl (by decide) rfl rfl ⟨Nat.le_of_ble_eq_true rfl, Nat.le_of_ble_eq_true rfl⟩ rfl hl.1 rfl (Nat.le_of_ble_eq_true rfl) dX5_act_133 ⟨Nat.zero_le _, Nat.zero_le _⟩ (fun H locs hP hD hS => ?_)
    refine lv_aload_n hx hb dX5_act_136 rfl (lv_at hl 0 rfl) ?_
    refine lv_bipush (v := 6) hx hb dX5_act_137 (by decide) ?_
    refine lv_iload_n hx hb dX5_act_139 rfl (lv_at hl 2 rfl) ?_
    refine lv_i2l (v := (Int32.toInt64 p2)) hx hb dX5_act_140 rfl ?_
    refine k_wrVv (As := [.int (6 : Int32), .long (Int32.toInt64 p2)]) (rest := []) (ci := 5) (q0 := 0) (ws' := (wK kO km kw kb kr kd kt cA kth kmn kpw klf kmk ksc krc kno kpp kpc kme kwe (spX5_more (spX5_more kbo (4 : Int32) (Int32.toInt64 p2)) (6 : Int32) (Int32.toInt64 p2)) kre kdr ktb)) (wr := []) ⟨hx, hb, hml, hown, hts⟩ k_self (c_X5_more l D kO km kw kb kr kd kt cA kth kmn kpw klf kmk ksc krc kno kpp kpc kme kwe (spX5_more kbo (4 : Int32) (Int32.toInt64 p2)) kre kdr ktb (6 : Int32) (Int32.toInt64 p2) ⟨6, rfl, by decide⟩) kv_X5_98 hP hD hS hA hK rfl rfl [0, 1, 2, 3, 4, 5, 6] [] [0, 1, 2, 3, 4, 5, 6] rfl (by decide) rfl (by decide) (by decide) rfl (by decide) rfl rfl ⟨Nat.le_of_ble_eq_true rfl, Nat.le_of_ble_eq_true rfl⟩ rfl hl.1 rfl (Nat.le_of_ble_eq_true rfl) dX5_act_141 ⟨Nat.zero_le _, Nat.zero_le _⟩ (fun H locs hP hD hS => ?_)
    refine lv_aload_n hx hb dX5_act_144 rfl (lv_at hl 0 rfl) ?_
    refine va_get (D := D) (ci := 5) (v := .ref kb) (C := RX5) (T := TX5) (N := 16) hx hb hts k_inX5 hown hK hP 0 rfl rfl 4 (by decide) (hts _ kw_493) (fun _ h9 => h9) rfl dX5_act_145 ?_
    refine lv_bipush (v := 12) hx hb dX5_act_148 (by decide) ?_
    refine lv_dup2_11 hx hb dX5_act_150 rfl rfl ?_
    refine va_iald hx hb hK hP 3 0 rfl rfl (vp_in_nI (n := 12) (N := 193) (by decide) (by decide)) dX5_act_151 ?_
    refine lv_iconst (v := 1) hx hb dX5_act_152 (by decide) ?_
    refine lv_iadd hx hb dX5_act_153 ?_
    refine va_iast hx hb hK hP hD hS 3 0 rfl rfl (vp_in_nI (n := 12) (N := 193) (by decide) (by decide)) dX5_act_154 (fun H locs hP hD hS => ?_)
    have hP : va_P D vwCl (wK kO km kw kb kr kd kt cA kth kmn kpw klf kmk ksc krc kno kpp kpc kme kwe (upd (spX5_more (spX5_more kbo (4 : Int32) (Int32.toInt64 p2)) (6 : Int32) (Int32.toInt64 p2)) (Int32.toNatClampNeg (12 : Int32)) (((spX5_more (spX5_more kbo (4 : Int32) (Int32.toInt64 p2)) (6 : Int32) (Int32.toInt64 p2)) (Int32.toNatClampNeg (12 : Int32))) + (1 : Int32))) kre kdr ktb) H := hP
    have hD : va_D A (wK kO km kw kb kr kd kt cA kth kmn kpw klf kmk ksc krc kno kpp kpc kme kwe (upd (spX5_more (spX5_more kbo (4 : Int32) (Int32.toInt64 p2)) (6 : Int32) (Int32.toInt64 p2)) (Int32.toNatClampNeg (12 : Int32)) (((spX5_more (spX5_more kbo (4 : Int32) (Int32.toInt64 p2)) (6 : Int32) (Int32.toInt64 p2)) (Int32.toNatClampNeg (12 : Int32))) + (1 : Int32))) kre kdr ktb) := hD
    refine lv_goto (tgt := 228) hx hb dX5_act_155 (by decide) ?_
    have hE : spX5_act kbo p1 p2 p3 = (upd (spX5_more (spX5_more kbo (4 : Int32) (Int32.toInt64 p2)) (6 : Int32) (Int32.toInt64 p2)) (Int32.toNatClampNeg (12 : Int32)) (((spX5_more (spX5_more kbo (4 : Int32) (Int32.toInt64 p2)) (6 : Int32) (Int32.toInt64 p2)) (Int32.toNatClampNeg (12 : Int32))) + (1 : Int32))) := by unfold spX5_act; rw [if_neg c_1_1, if_neg c_1_2, if_neg c_1_3, if_pos c_1_4]
    exact W.vret hx hb hr (fun t ht hW => ⟨⟨(), rfl, trivial, by rw [hE, ht]; exact hP, va_K.moved hW.alike hK, by rw [hE]; exact hD⟩, hS.F ht⟩) hS.2.2 dX5_act_228
  by_cases c_1_5 : p1 = 5
  · refine lv_tableIn (tgt := 158) hx hb dX5_act_1 (by rw [c_1_5]; decide) (by rw [c_1_5]; decide) (by rw [c_1_5]; rfl) (by decide) ?_
    refine lv_aload_n hx hb dX5_act_158 rfl (lv_at hl 0 rfl) ?_
    refine lv_iconst (v := 4) hx hb dX5_act_159 (by decide) ?_
    refine lv_iload_n hx hb dX5_act_160 rfl (lv_at hl 2 rfl) ?_
    refine lv_i2l (v := (Int32.toInt64 p2)) hx hb dX5_act_161 rfl ?_
    refine k_wrVv (As := [.int (4 : Int32), .long (Int32.toInt64 p2)]) (rest := []) (ci := 5) (q0 := 0) (ws' := (wK kO km kw kb kr kd kt cA kth kmn kpw klf kmk ksc krc kno kpp kpc kme kwe (spX5_more kbo (4 : Int32) (Int32.toInt64 p2)) kre kdr ktb)) (wr := []) ⟨hx, hb, hml, hown, hts⟩ k_self (c_X5_more l D kO km kw kb kr kd kt cA kth kmn kpw klf kmk ksc krc kno kpp kpc kme kwe kbo kre kdr ktb (4 : Int32) (Int32.toInt64 p2) ⟨4, rfl, by decide⟩) kv_X5_98 hP hD hS hA hK rfl rfl [0, 1, 2, 3, 4, 5, 6] [] [0, 1, 2, 3, 4, 5, 6] rfl (by decide) rfl (by decide) (by decide) rfl (by decide) rfl rfl ⟨Nat.le_of_ble_eq_true rfl, Nat.le_of_ble_eq_true rfl⟩ rfl hl.1 rfl (Nat.le_of_ble_eq_true rfl) dX5_act_162 ⟨Nat.zero_le _, Nat.zero_le _⟩ (fun H locs hP hD hS => ?_)
    refine lv_aload_n hx hb dX5_act_165 rfl (lv_at hl 0 rfl) ?_
    refine lv_bipush (v := 8) hx hb dX5_act_166 (by decide) ?_
    refine lv_iload_n hx hb dX5_act_168 rfl (lv_at hl 2 rfl) ?_
    refine lv_i2l (v := (Int32.toInt64 p2)) hx hb dX5_act_169 rfl ?_
    refine k_wrVv (As := [.int (8 : Int32), .long (Int32.toInt64 p2)]) (rest := []) (ci := 5) (q0 := 0) (ws' := (wK kO km kw kb kr kd kt cA kth kmn kpw klf kmk ksc krc kno kpp kpc kme kwe (spX5_more (spX5_more kbo (4 : Int32) (Int32.toInt64 p2)) (8 : Int32) (Int32.toInt64 p2)) kre kdr ktb)) (wr := []) ⟨hx, hb, hml, hown, hts⟩ k_self (c_X5_more l D kO km kw kb kr kd kt cA kth kmn kpw klf kmk ksc krc kno kpp kpc kme kwe (spX5_more kbo (4 : Int32) (Int32.toInt64 p2)) kre kdr ktb (8 : Int32) (Int32.toInt64 p2) ⟨8, rfl, by decide⟩) kv_X5_98 hP hD hS hA hK rfl rfl [0, 1, 2, 3, 4, 5, 6] [] [0, 1, 2, 3, 4, 5, 6] rfl (by decide) rfl (by decide) (by decide) rfl (by decide) rfl rfl ⟨Nat.le_of_ble_eq_true rfl, Nat.le_of_ble_eq_true rfl⟩ rfl hl.1 rfl (Nat.le_of_ble_eq_true rfl) dX5_act_170 ⟨Nat.zero_le _, Nat.zero_le _⟩ (fun H locs hP hD hS => ?_)
    refine lv_aload_n hx hb dX5_act_173 rfl (lv_at hl 0 rfl) ?_
    refine va_get (D := D) (ci := 5) (v := .ref kb) (C := RX5) (T := TX5) (N := 16) hx hb hts k_inX5 hown hK hP 0 rfl rfl 4 (by decide) (hts _ kw_493) (fun _ h9 => h9) rfl dX5_act_174 ?_
    refine lv_bipush (v := 11) hx hb dX5_act_177 (by decide) ?_
    refine lv_dup2_11 hx hb dX5_act_179 rfl rfl ?_
    refine va_iald hx hb hK hP 3 0 rfl rfl (vp_in_nI (n := 11) (N := 193) (by decide) (by decide)) dX5_act_180 ?_
    refine lv_iconst (v := 1) hx hb dX5_act_181 (by decide) ?_
    refine lv_iadd hx hb dX5_act_182 ?_
    refine va_iast hx hb hK hP hD hS 3 0 rfl rfl (vp_in_nI (n := 11) (N := 193) (by decide) (by decide)) dX5_act_183 (fun H locs hP hD hS => ?_)
    have hP : va_P D vwCl (wK kO km kw kb kr kd kt cA kth kmn kpw klf kmk ksc krc kno kpp kpc kme kwe (upd (spX5_more (spX5_more kbo (4 : Int32) (Int32.toInt64 p2)) (8 : Int32) (Int32.toInt64 p2)) (Int32.toNatClampNeg (11 : Int32)) (((spX5_more (spX5_more kbo (4 : Int32) (Int32.toInt64 p2)) (8 : Int32) (Int32.toInt64 p2)) (Int32.toNatClampNeg (11 : Int32))) + (1 : Int32))) kre kdr ktb) H := hP
    have hD : va_D A (wK kO km kw kb kr kd kt cA kth kmn kpw klf kmk ksc krc kno kpp kpc kme kwe (upd (spX5_more (spX5_more kbo (4 : Int32) (Int32.toInt64 p2)) (8 : Int32) (Int32.toInt64 p2)) (Int32.toNatClampNeg (11 : Int32)) (((spX5_more (spX5_more kbo (4 : Int32) (Int32.toInt64 p2)) (8 : Int32) (Int32.toInt64 p2)) (Int32.toNatClampNeg (11 : Int32))) + (1 : Int32))) kre kdr ktb) := hD
    refine lv_goto (tgt := 228) hx hb dX5_act_184 (by decide) ?_
    have hE : spX5_act kbo p1 p2 p3 = (upd (spX5_more (spX5_more kbo (4 : Int32) (Int32.toInt64 p2)) (8 : Int32) (Int32.toInt64 p2)) (Int32.toNatClampNeg (11 : Int32)) (((spX5_more (spX5_more kbo (4 : Int32) (Int32.toInt64 p2)) (8 : Int32) (Int32.toInt64 p2)) (Int32.toNatClampNeg (11 : Int32))) + (1 : Int32))) := by unfold spX5_act; rw [if_neg c_1_1, if_neg c_1_2, if_neg c_1_3, if_neg c_1_4, if_pos c_1_5]
    exact W.vret hx hb hr (fun t ht hW => ⟨⟨(), rfl, trivial, by rw [hE, ht]; exact hP, va_K.moved hW.alike hK, by rw [hE]; exact hD⟩, hS.F ht⟩) hS.2.2 dX5_act_228
  by_cases c_1_6 : p1 = 6
  · refine lv_tableIn (tgt := 187) hx hb dX5_act_1 (by rw [c_1_6]; decide) (by rw [c_1_6]; decide) (by rw [c_1_6]; rfl) (by decide) ?_
    refine lv_aload_n hx hb dX5_act_187 rfl (lv_at hl 0 rfl) ?_
    refine va_get (D := D) (ci := 5) (v := .ref kb) (C := RX5) (T := TX5) (N := 16) hx hb hts k_inX5 hown hK hP 0 rfl rfl 4 (by decide) (hts _ kw_493) (fun _ h9 => h9) rfl dX5_act_188 ?_
    refine lv_bipush (v := 14) hx hb dX5_act_191 (by decide) ?_
    refine lv_iload_n hx hb dX5_act_193 rfl (lv_at hl 2 rfl) ?_
    refine va_iast hx hb hK hP hD hS 3 0 rfl rfl (vp_in_nI (n := 14) (N := 193) (by decide) (by decide)) dX5_act_194 (fun H locs hP hD hS => ?_)
    have hP : va_P D vwCl (wK kO km kw kb kr kd kt cA kth kmn kpw klf kmk ksc krc kno kpp kpc kme kwe (upd kbo (Int32.toNatClampNeg (14 : Int32)) p2) kre kdr ktb) H := hP
    have hD : va_D A (wK kO km kw kb kr kd kt cA kth kmn kpw klf kmk ksc krc kno kpp kpc kme kwe (upd kbo (Int32.toNatClampNeg (14 : Int32)) p2) kre kdr ktb) := hD
    refine lv_goto (tgt := 228) hx hb dX5_act_195 (by decide) ?_
    have hE : spX5_act kbo p1 p2 p3 = (upd kbo (Int32.toNatClampNeg (14 : Int32)) p2) := by unfold spX5_act; rw [if_neg c_1_1, if_neg c_1_2, if_neg c_1_3, if_neg c_1_4, if_neg c_1_5, if_pos c_1_6]
    exact W.vret hx hb hr (fun t ht hW => ⟨⟨(), rfl, trivial, by rw [hE, ht]; exact hP, va_K.moved hW.alike hK, by rw [hE]; exact hD⟩, hS.F ht⟩) hS.2.2 dX5_act_228
  by_cases c_1_7 : p1 = 7
  · refine lv_tableIn (tgt := 198) hx hb dX5_act_1 (by rw [c_1_7]; decide) (by rw [c_1_7]; decide) (by rw [c_1_7]; rfl) (by decide) ?_
    refine lv_aload_n hx hb dX5_act_198 rfl (lv_at hl 0 rfl) ?_
    refine va_get (D := D) (ci := 5) (v := .ref kb) (C := RX5) (T := TX5) (N := 16) hx hb hts k_inX5 hown hK hP 0 rfl rfl 4 (by decide) (hts _ kw_493) (fun _ h9 => h9) rfl dX5_act_199 ?_
    refine lv_bipush (v := 13) hx hb dX5_act_202 (by decide) ?_
    refine lv_iconst (v := 1) hx hb dX5_act_204 (by decide) ?_
    refine va_iast hx hb hK hP hD hS 3 0 rfl rfl (vp_in_nI (n := 13) (N := 193) (by decide) (by decide)) dX5_act_205 (fun H locs hP hD hS => ?_)
    have hP : va_P D vwCl (wK kO km kw kb kr kd kt cA kth kmn kpw klf kmk ksc krc kno kpp kpc kme kwe (upd kbo (Int32.toNatClampNeg (13 : Int32)) (1 : Int32)) kre kdr ktb) H := hP
    have hD : va_D A (wK kO km kw kb kr kd kt cA kth kmn kpw klf kmk ksc krc kno kpp kpc kme kwe (upd kbo (Int32.toNatClampNeg (13 : Int32)) (1 : Int32)) kre kdr ktb) := hD
    refine lv_goto (tgt := 228) hx hb dX5_act_206 (by decide) ?_
    have hE : spX5_act kbo p1 p2 p3 = (upd kbo (Int32.toNatClampNeg (13 : Int32)) (1 : Int32)) := by unfold spX5_act; rw [if_neg c_1_1, if_neg c_1_2, if_neg c_1_3, if_neg c_1_4, if_neg c_1_5, if_neg c_1_6, if_pos c_1_7]
    exact W.vret hx hb hr (fun t ht hW => ⟨⟨(), rfl, trivial, by rw [hE, ht]; exact hP, va_K.moved hW.alike hK, by rw [hE]; exact hD⟩, hS.F ht⟩) hS.2.2 dX5_act_228
  by_cases c_1_8 : p1 = 8
  · refine lv_tableIn (tgt := 209) hx hb dX5_act_1 (by rw [c_1_8]; decide) (by rw [c_1_8]; decide) (by rw [c_1_8]; rfl) (by decide) ?_
    refine lv_aload_n hx hb dX5_act_209 rfl (lv_at hl 0 rfl) ?_
    refine va_get (D := D) (ci := 5) (v := .ref kb) (C := RX5) (T := TX5) (N := 16) hx hb hts k_inX5 hown hK hP 0 rfl rfl 4 (by decide) (hts _ kw_493) (fun _ h9 => h9) rfl dX5_act_210 ?_
    refine lv_bipush (v := 13) hx hb dX5_act_213 (by decide) ?_
    refine lv_iconst (v := 0) hx hb dX5_act_215 (by decide) ?_
    refine va_iast hx hb hK hP hD hS 3 0 rfl rfl (vp_in_nI (n := 13) (N := 193) (by decide) (by decide)) dX5_act_216 (fun H locs hP hD hS => ?_)
    have hP : va_P D vwCl (wK kO km kw kb kr kd kt cA kth kmn kpw klf kmk ksc krc kno kpp kpc kme kwe (upd kbo (Int32.toNatClampNeg (13 : Int32)) (0 : Int32)) kre kdr ktb) H := hP
    have hD : va_D A (wK kO km kw kb kr kd kt cA kth kmn kpw klf kmk ksc krc kno kpp kpc kme kwe (upd kbo (Int32.toNatClampNeg (13 : Int32)) (0 : Int32)) kre kdr ktb) := hD
    refine lv_goto (tgt := 228) hx hb dX5_act_217 (by decide) ?_
    have hE : spX5_act kbo p1 p2 p3 = (upd kbo (Int32.toNatClampNeg (13 : Int32)) (0 : Int32)) := by unfold spX5_act; rw [if_neg c_1_1, if_neg c_1_2, if_neg c_1_3, if_neg c_1_4, if_neg c_1_5, if_neg c_1_6, if_neg c_1_7, if_pos c_1_8]
    exact W.vret hx hb hr (fun t ht hW => ⟨⟨(), rfl, trivial, by rw [hE, ht]; exact hP, va_K.moved hW.alike hK, by rw [hE]; exact hD⟩, hS.F ht⟩) hS.2.2 dX5_act_228
  refine lv_tableOut (tgt := 220) hx hb dX5_act_1 (by have nc_1_1 := lv_neT (a := 1) c_1_1 rfl; have nc_1_2 := lv_neT (a := 2) c_1_2 rfl; have nc_1_3 := lv_neT (a := 3) c_1_3 rfl; have nc_1_4 := lv_neT (a := 4) c_1_4 rfl; have nc_1_5 := lv_neT (a := 5) c_1_5 rfl; have nc_1_6 := lv_neT (a := 6) c_1_6 rfl; have nc_1_7 := lv_neT (a := 7) c_1_7 rfl; have nc_1_8 := lv_neT (a := 8) c_1_8 rfl; omega) (by decide) ?_
  refine lv_aload_n hx hb dX5_act_220 rfl (lv_at hl 0 rfl) ?_
  refine va_get (D := D) (ci := 5) (v := .ref kb) (C := RX5) (T := TX5) (N := 16) hx hb hts k_inX5 hown hK hP 0 rfl rfl 4 (by decide) (hts _ kw_493) (fun _ h9 => h9) rfl dX5_act_221 ?_
  refine lv_bipush (v := 15) hx hb dX5_act_224 (by decide) ?_
  refine lv_iload_n hx hb dX5_act_226 rfl (lv_at hl 2 rfl) ?_
  refine va_iast hx hb hK hP hD hS 3 0 rfl rfl (vp_in_nI (n := 15) (N := 193) (by decide) (by decide)) dX5_act_227 (fun H locs hP hD hS => ?_)
  have hP : va_P D vwCl (wK kO km kw kb kr kd kt cA kth kmn kpw klf kmk ksc krc kno kpp kpc kme kwe (upd kbo (Int32.toNatClampNeg (15 : Int32)) p2) kre kdr ktb) H := hP
  have hD : va_D A (wK kO km kw kb kr kd kt cA kth kmn kpw klf kmk ksc krc kno kpp kpc kme kwe (upd kbo (Int32.toNatClampNeg (15 : Int32)) p2) kre kdr ktb) := hD
  have hE : spX5_act kbo p1 p2 p3 = (upd kbo (Int32.toNatClampNeg (15 : Int32)) p2) := by unfold spX5_act; rw [if_neg c_1_1, if_neg c_1_2, if_neg c_1_3, if_neg c_1_4, if_neg c_1_5, if_neg c_1_6, if_neg c_1_7, if_neg c_1_8]
  exact W.vret hx hb hr (fun t ht hW => ⟨⟨(), rfl, trivial, by rw [hE, ht]; exact hP, va_K.moved hW.alike hK, by rw [hE]; exact hD⟩, hS.F ht⟩) hS.2.2 dX5_act_228
