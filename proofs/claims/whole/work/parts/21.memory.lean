def spX2_holds (p1 : Int32) (p2 : Int32) : Int32 := (if p1 < 0 then (0 : Int32) else (if (16 : Int32) ≤ p1 then (0 : Int32) else (if p2 < 0 then (0 : Int32) else (if (256 : Int32) ≤ p2 then (0 : Int32) else (1 : Int32)))))
set_option maxHeartbeats 4000000 in
set_option maxRecDepth 100000 in
theorem c_X2_holds (l : Launch) (D : va_G) (aM aw ae : Nat) (cA : ClassId) (pw : Int32) (ce : Int32) (lf : Int32) (mq : Int32) (ct : Int32) (wd : Nat → Int32) (er : Nat → Int32) (p1 : Int32) (p2 : Int32)  : kRi l yX2_holds cX2_holds 3 (some .boolean) { frames := 0, cells := 0, slots := 0, locals := 0 } [.ref aM, .int p1, .int p2] (kB D (wM aM aw ae cA pw ce lf mq ct wd er) [(cA, .int)]) (spX2_holds p1 p2) := by
  refine Met.ofW (cc := cX2_holds) (maxL := 3) (ret := (some .boolean)) (by decide) rfl ?_
  intro p e s m args below meth c s₁ B hml hv
  obtain ⟨rfl, hP, hK⟩ := hv
  have hx := B.exec
  have hb := B.bytes
  have hr := B.returns
  have hts : ∀ w ∈ kG, w.before _ s = true := fun w h => atoms_spec (ws := kT yX2_holds cX2_holds 3 (some .boolean)) B.pre w (List.mem_cons_of_mem _ h)
  have hown : s.vm.findClass RX2 = some m.cls := findClass_of_methodNamed B.named
  have hlocks := B.notSynchronized
  have hl := lv_entry ([.ref aM, .int p1, .int p2]) (n := 3) (Nat.le_of_ble_eq_true rfl)
  rw [lg_entry_eq]
  generalize (lg_sl ([.ref aM, .int p1, .int p2]) ++ List.replicate (3 - (lg_sl ([.ref aM, .int p1, .int p2])).length) Slot.unset).toArray = ls at hl ⊢
  have hl : lv_has ls 3 [(0, .ref aM), (1, .int p1), (2, .int p2)] := hl
  refine lv_iload_n hx hb dX2_holds_0 rfl (lv_at hl 1 rfl) ?_
  refine lv_if_lt (tgt := 25) hx hb dX2_holds_1 (by decide) (fun c_1 => ?_) (fun c_1 => ?_)
  · refine lv_iconst (v := 0) hx hb dX2_holds_25 (by decide) ?_
    exact W.zret (v := (0 : Int32)) hx hb hr rfl (fun t ht hW => ⟨(0 : Int32), rfl, (show _ = _ from (by unfold spX2_holds; rw [if_pos c_1] : spX2_holds p1 p2 = (0 : Int32)).symm), ht⟩) (fun q h => by cases h) dX2_holds_26
  · refine lv_iload_n hx hb dX2_holds_4 rfl (lv_at hl 1 rfl) ?_
    refine lv_bipush (v := 16) hx hb dX2_holds_5 (by decide) ?_
    refine lv_icmp_ge (tgt := 25) hx hb dX2_holds_7 (by decide) (fun c_7 => ?_) (fun c_7 => ?_)
    · refine lv_iconst (v := 0) hx hb dX2_holds_25 (by decide) ?_
      exact W.zret (v := (0 : Int32)) hx hb hr rfl (fun t ht hW => ⟨(0 : Int32), rfl, (show _ = _ from (by unfold spX2_holds; rw [if_neg c_1, if_pos c_7] : spX2_holds p1 p2 = (0 : Int32)).symm), ht⟩) (fun q h => by cases h) dX2_holds_26
    · refine lv_iload_n hx hb dX2_holds_10 rfl (lv_at hl 2 rfl) ?_
      refine lv_if_lt (tgt := 25) hx hb dX2_holds_11 (by decide) (fun c_11 => ?_) (fun c_11 => ?_)
      · refine lv_iconst (v := 0) hx hb dX2_holds_25 (by decide) ?_
        exact W.zret (v := (0 : Int32)) hx hb hr rfl (fun t ht hW => ⟨(0 : Int32), rfl, (show _ = _ from (by unfold spX2_holds; rw [if_neg c_1, if_neg c_7, if_pos c_11] : spX2_holds p1 p2 = (0 : Int32)).symm), ht⟩) (fun q h => by cases h) dX2_holds_26
      · refine lv_iload_n hx hb dX2_holds_14 rfl (lv_at hl 2 rfl) ?_
        refine lv_sipush (v := 256) hx hb dX2_holds_15 (by decide) ?_
        refine lv_icmp_ge (tgt := 25) hx hb dX2_holds_18 (by decide) (fun c_18 => ?_) (fun c_18 => ?_)
        · refine lv_iconst (v := 0) hx hb dX2_holds_25 (by decide) ?_
          exact W.zret (v := (0 : Int32)) hx hb hr rfl (fun t ht hW => ⟨(0 : Int32), rfl, (show _ = _ from (by unfold spX2_holds; rw [if_neg c_1, if_neg c_7, if_neg c_11, if_pos c_18] : spX2_holds p1 p2 = (0 : Int32)).symm), ht⟩) (fun q h => by cases h) dX2_holds_26
        · refine lv_iconst (v := 1) hx hb dX2_holds_21 (by decide) ?_
          refine lv_goto (tgt := 26) hx hb dX2_holds_22 (by decide) ?_
          exact W.zret (v := (1 : Int32)) hx hb hr rfl (fun t ht hW => ⟨(1 : Int32), rfl, (show _ = _ from (by unfold spX2_holds; rw [if_neg c_1, if_neg c_7, if_neg c_11, if_neg c_18] : spX2_holds p1 p2 = (1 : Int32)).symm), ht⟩) (fun q h => by cases h) dX2_holds_26
theorem k_bool {x : Int32} (h : x = 0 ∨ x = 1) : narrow .boolean (.int x) = .int x := by rcases h with rfl | rfl <;> rfl
theorem k_holds {a b : Int32} (h : ¬ spX2_holds a b = 0) : (0 ≤ a.toInt ∧ a.toInt < 16) ∧ 0 ≤ b.toInt ∧ b.toInt < 256 := by
  unfold spX2_holds at h
  by_cases c1 : a < 0
  · rw [if_pos c1] at h; exact absurd rfl h
  · rw [if_neg c1] at h
    by_cases c2 : (16 : Int32) ≤ a
    · rw [if_pos c2] at h; exact absurd rfl h
    · rw [if_neg c2] at h
      by_cases c3 : b < 0
      · rw [if_pos c3] at h; exact absurd rfl h
      · rw [if_neg c3] at h
        by_cases c4 : (256 : Int32) ≤ b
        · rw [if_pos c4] at h; exact absurd rfl h
        · have h1 := vp_in_iff.mp (k_inr (N := 16) (n := 16) rfl c1 c2)
          have h2 := vp_in_iff.mp (k_inr (N := 256) (n := 256) rfl c3 c4)
          omega
theorem k_nat {a : Int32} (h : 0 ≤ a.toInt) : ∃ k : Nat, a = nI k ∧ (k : Int) = a.toInt := by
  have h0 : ¬ a < 0 := by rw [Int32.lt_iff_toInt_lt, Int32.toInt_zero]; omega
  obtain ⟨j, hj, e⟩ := nI_of h0
  exact ⟨j, e, by rw [e, nI_toInt hj]⟩
theorem k_place {a b : Int32} (h : (0 ≤ a.toInt ∧ a.toInt < 16) ∧ 0 ≤ b.toInt ∧ b.toInt < 256) : vp_in (a * 256 + b) 4096 := by
  obtain ⟨i, e1, h1⟩ := k_nat h.1.1
  obtain ⟨j, e2, h2⟩ := k_nat h.2.1
  rw [e1, e2, show (256 : Int32) = nI 256 from rfl, pk_mul, nI_add]
  exact vp_in_nI (by omega) (by decide)
theorem k_sect {a b : Int32} (h : ¬ spX2_holds a b = 0) : vp_in a 16 := by
  have := k_holds h
  rw [vp_in_iff]; omega
def spX2_read (wd : Nat → Int32) (p1 : Int32) (p2 : Int32) : Int32 := (if (spX2_holds p1 p2) = 0 then (-1 : Int32) else (wd (Int32.toNatClampNeg ((p1 * (256 : Int32)) + p2))))
set_option maxHeartbeats 4000000 in
set_option maxRecDepth 100000 in
theorem c_X2_read (l : Launch) (D : va_G) (aM aw ae : Nat) (cA : ClassId) (pw : Int32) (ce : Int32) (lf : Int32) (mq : Int32) (ct : Int32) (wd : Nat → Int32) (er : Nat → Int32) (p1 : Int32) (p2 : Int32)  : kRi l yX2_read cX2_read 3 (some .int) { frames := 1, cells := 0, slots := 0, locals := 22 } [.ref aM, .int p1, .int p2] (kB D (wM aM aw ae cA pw ce lf mq ct wd er) [(cA, .int)]) (spX2_read wd p1 p2) := by
  refine Met.ofW (cc := cX2_read) (maxL := 3) (ret := (some .int)) (by decide) rfl ?_
  intro p e s m args below meth c s₁ B hml hv
  obtain ⟨rfl, hP, hK⟩ := hv
  have hx := B.exec
  have hb := B.bytes
  have hr := B.returns
  have hts : ∀ w ∈ kG, w.before _ s = true := fun w h => atoms_spec (ws := kT yX2_read cX2_read 3 (some .int)) B.pre w (List.mem_cons_of_mem _ h)
  have hown : s.vm.findClass RX2 = some m.cls := findClass_of_methodNamed B.named
  have hlocks := B.notSynchronized
  have hl := lv_entry ([.ref aM, .int p1, .int p2]) (n := 3) (Nat.le_of_ble_eq_true rfl)
  rw [lg_entry_eq]
  generalize (lg_sl ([.ref aM, .int p1, .int p2]) ++ List.replicate (3 - (lg_sl ([.ref aM, .int p1, .int p2])).length) Slot.unset).toArray = ls at hl ⊢
  have hl : lv_has ls 3 [(0, .ref aM), (1, .int p1), (2, .int p2)] := hl
  refine lv_aload_n hx hb dX2_read_0 rfl (lv_at hl 0 rfl) ?_
  refine lv_iload_n hx hb dX2_read_1 rfl (lv_at hl 1 rfl) ?_
  refine lv_iload_n hx hb dX2_read_2 rfl (lv_at hl 2 rfl) ?_
  refine k_rdVi (As := [.int p1, .int p2]) (rest := []) (ci := 2) (q0 := 0) ⟨hx, hb, hml, hown, hts⟩ k_self (c_X2_holds l D aM aw ae cA pw ce lf mq ct wd er p1 p2) kv_X2_26 (hP.sub [0, 1, 2] rfl) (hK.sub [0] rfl) rfl rfl rfl rfl ⟨Nat.le_of_ble_eq_true rfl, Nat.le_of_ble_eq_true rfl⟩ rfl hl.1 rfl (Nat.le_of_ble_eq_true rfl) dX2_read_3 ⟨Nat.zero_le _, Nat.zero_le _⟩ ?_
  refine lv_if_eq (tgt := 24) hx hb dX2_read_6 (by decide) (fun c_6 => ?_) (fun c_6 => ?_)
  · refine lv_iconst (v := -1) hx hb dX2_read_24 (by decide) ?_
    exact W.iret (v := (-1 : Int32)) hx hb hr (fun t ht hW => ⟨(-1 : Int32), rfl, (show _ = _ from (by unfold spX2_read; rw [if_pos c_6] : spX2_read wd p1 p2 = (-1 : Int32)).symm), ht⟩) (fun q h => by cases h) dX2_read_25
  · refine lv_aload_n hx hb dX2_read_9 rfl (lv_at hl 0 rfl) ?_
    refine va_get (D := D) (ci := 2) (v := .ref aw) (C := RX2) (T := TX2) (N := 7) hx hb hts k_inX2 hown hK hP 0 rfl rfl 0 (by decide) (hts _ kw_75) (fun _ h9 => h9) rfl dX2_read_10 ?_
    refine lv_iload_n hx hb dX2_read_13 rfl (lv_at hl 1 rfl) ?_
    refine lv_sipush (v := 256) hx hb dX2_read_14 (by decide) ?_
    refine lv_imul hx hb dX2_read_17 ?_
    refine lv_iload_n hx hb dX2_read_18 rfl (lv_at hl 2 rfl) ?_
    refine lv_iadd hx hb dX2_read_19 ?_
    refine va_iald hx hb hK hP 1 0 rfl rfl (k_place (k_holds c_6)) dX2_read_20 ?_
    refine lv_goto (tgt := 25) hx hb dX2_read_21 (by decide) ?_
    exact W.iret (v := (wd (Int32.toNatClampNeg ((p1 * (256 : Int32)) + p2)))) hx hb hr (fun t ht hW => ⟨(wd (Int32.toNatClampNeg ((p1 * (256 : Int32)) + p2))), rfl, (show _ = _ from (by unfold spX2_read; rw [if_neg c_6] : spX2_read wd p1 p2 = (wd (Int32.toNatClampNeg ((p1 * (256 : Int32)) + p2)))).symm), ht⟩) (fun q h => by cases h) dX2_read_25
def spX2_spendOne (pw : Int32) (ce : Int32) (lf : Int32) (ct : Int32) : Int32 × Int32 × Int32 × Int32 × Int32 := (if pw = 0 then ((0 : Int32), pw, ce, lf, ct) else (if ce = 0 then ((1 : Int32), pw, ce, lf, ct) else (if lf ≤ 0 then ((0 : Int32), (0 : Int32), (0 : Int32), lf, (ct + (1 : Int32))) else ((1 : Int32), pw, ce, (lf - (1 : Int32)), ct))))
set_option maxHeartbeats 4000000 in
set_option maxRecDepth 100000 in
theorem c_X2_spendOne (l : Launch) (D : va_G) (aM aw ae : Nat) (cA : ClassId) (pw : Int32) (ce : Int32) (lf : Int32) (mq : Int32) (ct : Int32) (wd : Nat → Int32) (er : Nat → Int32)   : kWi l yX2_spendOne cX2_spendOne 1 (some .boolean) { frames := 0, cells := 0, slots := 0, locals := 0 } D [(cA, .int)] [.ref aM] (wM aM aw ae cA pw ce lf mq ct wd er) (spX2_spendOne pw ce lf ct).1 (wM aM aw ae cA (spX2_spendOne pw ce lf ct).2.1 (spX2_spendOne pw ce lf ct).2.2.1 (spX2_spendOne pw ce lf ct).2.2.2.1 mq (spX2_spendOne pw ce lf ct).2.2.2.2 wd er) := by
  intro sz
  refine Met.ofW (cc := cX2_spendOne) (maxL := 1) (ret := (some .boolean)) (by decide) rfl ?_
  intro p e s m args below meth c s₁ B hml hv
  obtain ⟨rfl, hsz, hP, hK, hD0⟩ := hv
  have hx := B.exec
  have hb := B.bytes
  have hr := B.returns
  have hts : ∀ w ∈ kG, w.before _ s = true := fun w h => atoms_spec (ws := kT yX2_spendOne cX2_spendOne 1 (some .boolean)) B.pre w (List.mem_cons_of_mem _ h)
  have hown : s.vm.findClass RX2 = some m.cls := findClass_of_methodNamed B.named
  have hlocks := B.notSynchronized
  subst hsz
  have hD := hD0.self (sz := s.heap.size)
  generalize hAe : va_A (wM aM aw ae cA pw ce lf mq ct wd er) s.heap.size = A at hD ⊢
  have hA : ∀ q : Nat, s.heap.size ≤ q → A q := fun q h => by rw [← hAe]; exact Or.inr h
  have hS : va_S A s.heap s.heap [] := va_S.rf
  have hl := lv_entry ([.ref aM]) (n := 1) (Nat.le_of_ble_eq_true rfl)
  rw [lg_entry_eq]
  generalize (lg_sl ([.ref aM]) ++ List.replicate (1 - (lg_sl ([.ref aM])).length) Slot.unset).toArray = ls at hl ⊢
  have hl : lv_has ls 1 [(0, .ref aM)] := hl
  refine lv_aload_n hx hb dX2_spendOne_0 rfl (lv_at hl 0 rfl) ?_
  refine va_get (D := D) (ci := 2) (v := .int pw) (C := RX2) (T := TX2) (N := 7) hx hb hts k_inX2 hown hK hP 0 rfl rfl 2 (by decide) (hts _ kw_77) (fun _ h9 => h9) rfl dX2_spendOne_1 ?_
  refine lv_if_ne (tgt := 9) hx hb dX2_spendOne_4 (by decide) (fun c_4 => ?_) (fun c_4 => ?_)
  · refine lv_aload_n hx hb dX2_spendOne_9 rfl (lv_at hl 0 rfl) ?_
    refine va_get (D := D) (ci := 2) (v := .int ce) (C := RX2) (T := TX2) (N := 7) hx hb hts k_inX2 hown hK hP 0 rfl rfl 3 (by decide) (hts _ kw_78) (fun _ h9 => h9) rfl dX2_spendOne_10 ?_
    refine lv_if_ne (tgt := 18) hx hb dX2_spendOne_13 (by decide) (fun c_13 => ?_) (fun c_13 => ?_)
    · refine lv_aload_n hx hb dX2_spendOne_18 rfl (lv_at hl 0 rfl) ?_
      refine va_get (D := D) (ci := 2) (v := .int lf) (C := RX2) (T := TX2) (N := 7) hx hb hts k_inX2 hown hK hP 0 rfl rfl 4 (by decide) (hts _ kw_79) (fun _ h9 => h9) rfl dX2_spendOne_19 ?_
      refine lv_if_le (tgt := 37) hx hb dX2_spendOne_22 (by decide) (fun c_22 => ?_) (fun c_22 => ?_)
      · refine lv_aload_n hx hb dX2_spendOne_37 rfl (lv_at hl 0 rfl) ?_
        refine lv_iconst (v := 0) hx hb dX2_spendOne_38 (by decide) ?_
        refine va_put (D := D) (ci := 2) (v := .int (0 : Int32)) (ty := .boolean) (C := RX2) (T := TX2) (N := 7) hx hb hts k_inX2 tyX2 tyX2_ok nmX2 hown hK hP hD hS 0 rfl rfl 3 (by decide) (hts _ kw_78) (fun _ h9 => h9) rfl (by decide +kernel) rfl rfl (Nat.le_of_ble_eq_true rfl) dX2_spendOne_39 (fun H locs hP hD hS => ?_)
        have hP : va_P D vwCl (wM aM aw ae cA pw (0 : Int32) lf mq ct wd er) H := hP
        have hD : va_D A (wM aM aw ae cA pw (0 : Int32) lf mq ct wd er) := hD
        refine lv_aload_n hx hb dX2_spendOne_42 rfl (lv_at hl 0 rfl) ?_
        refine lv_iconst (v := 0) hx hb dX2_spendOne_43 (by decide) ?_
        refine va_put (D := D) (ci := 2) (v := .int (0 : Int32)) (ty := .boolean) (C := RX2) (T := TX2) (N := 7) hx hb hts k_inX2 tyX2 tyX2_ok nmX2 hown hK hP hD hS 0 rfl rfl 2 (by decide) (hts _ kw_77) (fun _ h9 => h9) rfl (by decide +kernel) rfl rfl (Nat.le_of_ble_eq_true rfl) dX2_spendOne_44 (fun H locs hP hD hS => ?_)
        have hP : va_P D vwCl (wM aM aw ae cA (0 : Int32) (0 : Int32) lf mq ct wd er) H := hP
        have hD : va_D A (wM aM aw ae cA (0 : Int32) (0 : Int32) lf mq ct wd er) := hD
        refine lv_aload_n hx hb dX2_spendOne_47 rfl (lv_at hl 0 rfl) ?_
        refine lv_dup hx hb dX2_spendOne_48 rfl ?_
        refine va_get (D := D) (ci := 2) (v := .int ct) (C := RX2) (T := TX2) (N := 7) hx hb hts k_inX2 hown hK hP 0 rfl rfl 6 (by decide) (hts _ kw_81) (fun _ h9 => h9) rfl dX2_spendOne_49 ?_
        refine lv_iconst (v := 1) hx hb dX2_spendOne_52 (by decide) ?_
        refine lv_iadd hx hb dX2_spendOne_53 ?_
        refine va_put (D := D) (ci := 2) (v := .int (ct + (1 : Int32))) (ty := .int) (C := RX2) (T := TX2) (N := 7) hx hb hts k_inX2 tyX2 tyX2_ok nmX2 hown hK hP hD hS 0 rfl rfl 6 (by decide) (hts _ kw_81) (fun _ h9 => h9) rfl (by decide +kernel) rfl rfl (Nat.le_of_ble_eq_true rfl) dX2_spendOne_54 (fun H locs hP hD hS => ?_)
        have hP : va_P D vwCl (wM aM aw ae cA (0 : Int32) (0 : Int32) lf mq (ct + (1 : Int32)) wd er) H := hP
        have hD : va_D A (wM aM aw ae cA (0 : Int32) (0 : Int32) lf mq (ct + (1 : Int32)) wd er) := hD
        refine lv_iconst (v := 0) hx hb dX2_spendOne_57 (by decide) ?_
        have hE : spX2_spendOne pw ce lf ct = ((0 : Int32), (0 : Int32), (0 : Int32), lf, (ct + (1 : Int32))) := by unfold spX2_spendOne; rw [if_neg c_4, if_neg c_13, if_pos c_22]
        exact W.zret (v := (0 : Int32)) hx hb hr rfl (fun t ht hW => ⟨⟨(0 : Int32), (), rfl, by rw [hE], by rw [hE, ht]; exact hP, va_K.moved hW.alike hK, by rw [hE]; exact hD⟩, hS.F ht⟩) hS.2.2 dX2_spendOne_58
      · refine lv_aload_n hx hb dX2_spendOne_25 rfl (lv_at hl 0 rfl) ?_
        refine lv_dup hx hb dX2_spendOne_26 rfl ?_
        refine va_get (D := D) (ci := 2) (v := .int lf) (C := RX2) (T := TX2) (N := 7) hx hb hts k_inX2 hown hK hP 0 rfl rfl 4 (by decide) (hts _ kw_79) (fun _ h9 => h9) rfl dX2_spendOne_27 ?_
        refine lv_iconst (v := 1) hx hb dX2_spendOne_30 (by decide) ?_
        refine lv_isub hx hb dX2_spendOne_31 ?_
        refine va_put (D := D) (ci := 2) (v := .int (lf - (1 : Int32))) (ty := .int) (C := RX2) (T := TX2) (N := 7) hx hb hts k_inX2 tyX2 tyX2_ok nmX2 hown hK hP hD hS 0 rfl rfl 4 (by decide) (hts _ kw_79) (fun _ h9 => h9) rfl (by decide +kernel) rfl rfl (Nat.le_of_ble_eq_true rfl) dX2_spendOne_32 (fun H locs hP hD hS => ?_)
        have hP : va_P D vwCl (wM aM aw ae cA pw ce (lf - (1 : Int32)) mq ct wd er) H := hP
        have hD : va_D A (wM aM aw ae cA pw ce (lf - (1 : Int32)) mq ct wd er) := hD
        refine lv_iconst (v := 1) hx hb dX2_spendOne_35 (by decide) ?_
        have hE : spX2_spendOne pw ce lf ct = ((1 : Int32), pw, ce, (lf - (1 : Int32)), ct) := by unfold spX2_spendOne; rw [if_neg c_4, if_neg c_13, if_neg c_22]
        exact W.zret (v := (1 : Int32)) hx hb hr rfl (fun t ht hW => ⟨⟨(1 : Int32), (), rfl, by rw [hE], by rw [hE, ht]; exact hP, va_K.moved hW.alike hK, by rw [hE]; exact hD⟩, hS.F ht⟩) hS.2.2 dX2_spendOne_36
    · refine lv_iconst (v := 1) hx hb dX2_spendOne_16 (by decide) ?_
      have hE : spX2_spendOne pw ce lf ct = ((1 : Int32), pw, ce, lf, ct) := by unfold spX2_spendOne; rw [if_neg c_4, if_pos c_13]
      exact W.zret (v := (1 : Int32)) hx hb hr rfl (fun t ht hW => ⟨⟨(1 : Int32), (), rfl, by rw [hE], by rw [hE, ht]; exact hP, va_K.moved hW.alike hK, by rw [hE]; exact hD⟩, hS.F ht⟩) hS.2.2 dX2_spendOne_17
  · refine lv_iconst (v := 0) hx hb dX2_spendOne_7 (by decide) ?_
    have hE : spX2_spendOne pw ce lf ct = ((0 : Int32), pw, ce, lf, ct) := by unfold spX2_spendOne; rw [if_pos c_4]
    exact W.zret (v := (0 : Int32)) hx hb hr rfl (fun t ht hW => ⟨⟨(0 : Int32), (), rfl, by rw [hE], by rw [hE, ht]; exact hP, va_K.moved hW.alike hK, by rw [hE]; exact hD⟩, hS.F ht⟩) hS.2.2 dX2_spendOne_8
theorem k_spend01 (pw ce lf ct : Int32) : (spX2_spendOne pw ce lf ct).1 = 0 ∨ (spX2_spendOne pw ce lf ct).1 = 1 := by
  unfold spX2_spendOne
  split
  · exact Or.inl rfl
  · split
    · exact Or.inr rfl
    · split
      · exact Or.inl rfl
      · exact Or.inr rfl
def spX2_write (pw : Int32) (ce : Int32) (lf : Int32) (ct : Int32) (wd : Nat → Int32) (p1 : Int32) (p2 : Int32) (p3 : Int32) : Int32 × Int32 × Int32 × Int32 × Int32 × (Nat → Int32) := (if (spX2_holds p1 p2) = 0 then ((0 : Int32), pw, ce, lf, ct, wd) else (match spX2_spendOne pw ce lf ct with | (r_10, pw_10, ce_10, lf_10, ct_10) => (if r_10 = 0 then ((0 : Int32), pw_10, ce_10, lf_10, ct_10, wd) else ((1 : Int32), pw_10, ce_10, lf_10, ct_10, (upd wd (Int32.toNatClampNeg ((p1 * (256 : Int32)) + p2)) p3)))))
set_option maxHeartbeats 4000000 in
set_option maxRecDepth 100000 in
theorem c_X2_write (l : Launch) (D : va_G) (aM aw ae : Nat) (cA : ClassId) (pw : Int32) (ce : Int32) (lf : Int32) (mq : Int32) (ct : Int32) (wd : Nat → Int32) (er : Nat → Int32) (p1 : Int32) (p2 : Int32) (p3 : Int32)  : kWi l yX2_write cX2_write 4 (some .boolean) { frames := 1, cells := 0, slots := 0, locals := 22 } D [(cA, .int)] [.ref aM, .int p1, .int p2, .int p3] (wM aM aw ae cA pw ce lf mq ct wd er) (spX2_write pw ce lf ct wd p1 p2 p3).1 (wM aM aw ae cA (spX2_write pw ce lf ct wd p1 p2 p3).2.1 (spX2_write pw ce lf ct wd p1 p2 p3).2.2.1 (spX2_write pw ce lf ct wd p1 p2 p3).2.2.2.1 mq (spX2_write pw ce lf ct wd p1 p2 p3).2.2.2.2.1 (spX2_write pw ce lf ct wd p1 p2 p3).2.2.2.2.2 er) := by
  intro sz
  refine Met.ofW (cc := cX2_write) (maxL := 4) (ret := (some .boolean)) (by decide) rfl ?_
  intro p e s m args below meth c s₁ B hml hv
  obtain ⟨rfl, hsz, hP, hK, hD0⟩ := hv
  have hx := B.exec
  have hb := B.bytes
  have hr := B.returns
  have hts : ∀ w ∈ kG, w.before _ s = true := fun w h => atoms_spec (ws := kT yX2_write cX2_write 4 (some .boolean)) B.pre w (List.mem_cons_of_mem _ h)
  have hown : s.vm.findClass RX2 = some m.cls := findClass_of_methodNamed B.named
  have hlocks := B.notSynchronized
  subst hsz
  have hD := hD0.self (sz := s.heap.size)
  generalize hAe : va_A (wM aM aw ae cA pw ce lf mq ct wd er) s.heap.size = A at hD ⊢
  have hA : ∀ q : Nat, s.heap.size ≤ q → A q := fun q h => by rw [← hAe]; exact Or.inr h
  have hS : va_S A s.heap s.heap [] := va_S.rf
  have hl := lv_entry ([.ref aM, .int p1, .int p2, .int p3]) (n := 4) (Nat.le_of_ble_eq_true rfl)
  rw [lg_entry_eq]
  generalize (lg_sl ([.ref aM, .int p1, .int p2, .int p3]) ++ List.replicate (4 - (lg_sl ([.ref aM, .int p1, .int p2, .int p3])).length) Slot.unset).toArray = ls at hl ⊢
  have hl : lv_has ls 4 [(0, .ref aM), (1, .int p1), (2, .int p2), (3, .int p3)] := hl
  refine lv_aload_n hx hb dX2_write_0 rfl (lv_at hl 0 rfl) ?_
  refine lv_iload_n hx hb dX2_write_1 rfl (lv_at hl 1 rfl) ?_
  refine lv_iload_n hx hb dX2_write_2 rfl (lv_at hl 2 rfl) ?_
  refine k_rdVi (As := [.int p1, .int p2]) (rest := []) (ci := 2) (q0 := 0) ⟨hx, hb, hml, hown, hts⟩ k_self (c_X2_holds l D aM aw ae cA pw ce lf mq ct wd er p1 p2) kv_X2_26 (hP.sub [0, 1, 2] rfl) (hK.sub [0] rfl) rfl rfl rfl rfl ⟨Nat.le_of_ble_eq_true rfl, Nat.le_of_ble_eq_true rfl⟩ rfl hl.1 rfl (Nat.le_of_ble_eq_true rfl) dX2_write_3 ⟨Nat.zero_le _, Nat.zero_le _⟩ ?_
  refine lv_if_eq (tgt := 16) hx hb dX2_write_6 (by decide) (fun c_6 => ?_) (fun c_6 => ?_)
  · refine lv_iconst (v := 0) hx hb dX2_write_16 (by decide) ?_
    have hE : spX2_write pw ce lf ct wd p1 p2 p3 = ((0 : Int32), pw, ce, lf, ct, wd) := by unfold spX2_write; rw [if_pos c_6]
    exact W.zret (v := (0 : Int32)) hx hb hr rfl (fun t ht hW => ⟨⟨(0 : Int32), (), rfl, by rw [hE], by rw [hE, ht]; exact hP, va_K.moved hW.alike hK, by rw [hE]; exact hD⟩, hS.F ht⟩) hS.2.2 dX2_write_17
  · refine lv_aload_n hx hb dX2_write_9 rfl (lv_at hl 0 rfl) ?_
    rcases hq_10 : spX2_spendOne pw ce lf ct with ⟨r_10, pw_10, ce_10, lf_10, ct_10⟩
    have hM_10 : kWi l yX2_spendOne cX2_spendOne 1 (some .boolean) { frames := 0, cells := 0, slots := 0, locals := 0 } D [(cA, .int)] [.ref aM] (wM aM aw ae cA pw ce lf mq ct wd er) r_10 (wM aM aw ae cA pw_10 ce_10 lf_10 mq ct_10 wd er) := by
      have h := c_X2_spendOne l D aM aw ae cA pw ce lf mq ct wd er 
      rw [hq_10] at h
      exact h
    refine k_wrVi (As := []) (rest := []) (ci := 2) (q0 := 0) (ws' := (wM aM aw ae cA pw_10 ce_10 lf_10 mq ct_10 wd er)) (wr := []) ⟨hx, hb, hml, hown, hts⟩ k_self hM_10 kv_X2_30 hP hD hS hA hK rfl rfl [0, 1, 2] [] [0, 1, 2] rfl (by decide) rfl (by decide) (by decide) rfl (by decide) rfl rfl ⟨Nat.le_of_ble_eq_true rfl, Nat.le_of_ble_eq_true rfl⟩ rfl hl.1 rfl (Nat.le_of_ble_eq_true rfl) dX2_write_10 ⟨Nat.zero_le _, Nat.zero_le _⟩ (fun H locs hP hD hS => ?_)
    refine lv_if_ne (tgt := 18) hx hb dX2_write_13 (by decide) (fun c_13 => ?_) (fun c_13 => ?_)
    · refine lv_aload_n hx hb dX2_write_18 rfl (lv_at hl 0 rfl) ?_
      refine va_get (D := D) (ci := 2) (v := .ref aw) (C := RX2) (T := TX2) (N := 7) hx hb hts k_inX2 hown hK hP 0 rfl rfl 0 (by decide) (hts _ kw_75) (fun _ h9 => h9) rfl dX2_write_19 ?_
      refine lv_iload_n hx hb dX2_write_22 rfl (lv_at hl 1 rfl) ?_
      refine lv_sipush (v := 256) hx hb dX2_write_23 (by decide) ?_
      refine lv_imul hx hb dX2_write_26 ?_
      refine lv_iload_n hx hb dX2_write_27 rfl (lv_at hl 2 rfl) ?_
      refine lv_iadd hx hb dX2_write_28 ?_
      refine lv_iload_n hx hb dX2_write_29 rfl (lv_at hl 3 rfl) ?_
      refine va_iast hx hb hK hP hD hS 1 0 rfl rfl (k_place (k_holds c_6)) dX2_write_30 (fun H locs hP hD hS => ?_)
      have hP : va_P D vwCl (wM aM aw ae cA pw_10 ce_10 lf_10 mq ct_10 (upd wd (Int32.toNatClampNeg ((p1 * (256 : Int32)) + p2)) p3) er) H := hP
      have hD : va_D A (wM aM aw ae cA pw_10 ce_10 lf_10 mq ct_10 (upd wd (Int32.toNatClampNeg ((p1 * (256 : Int32)) + p2)) p3) er) := hD
      refine lv_iconst (v := 1) hx hb dX2_write_31 (by decide) ?_
      have hE : spX2_write pw ce lf ct wd p1 p2 p3 = ((1 : Int32), pw_10, ce_10, lf_10, ct_10, (upd wd (Int32.toNatClampNeg ((p1 * (256 : Int32)) + p2)) p3)) := by unfold spX2_write; rw [if_neg c_6]; rw [hq_10]; dsimp only; rw [if_neg c_13]
      exact W.zret (v := (1 : Int32)) hx hb hr rfl (fun t ht hW => ⟨⟨(1 : Int32), (), rfl, by rw [hE], by rw [hE, ht]; exact hP, va_K.moved hW.alike hK, by rw [hE]; exact hD⟩, hS.F ht⟩) hS.2.2 dX2_write_32
    · refine lv_iconst (v := 0) hx hb dX2_write_16 (by decide) ?_
      have hE : spX2_write pw ce lf ct wd p1 p2 p3 = ((0 : Int32), pw_10, ce_10, lf_10, ct_10, wd) := by unfold spX2_write; rw [if_neg c_6]; rw [hq_10]; dsimp only; rw [if_pos c_13]
      exact W.zret (v := (0 : Int32)) hx hb hr rfl (fun t ht hW => ⟨⟨(0 : Int32), (), rfl, by rw [hE], by rw [hE, ht]; exact hP, va_K.moved hW.alike hK, by rw [hE]; exact hD⟩, hS.F ht⟩) hS.2.2 dX2_write_17
def lpX2_eraseSector_49 : Nat → Int32 → Int32 → Int32 → Int32 → Int32 → (Nat → Int32) → (Nat → Int32) → Int32 → Int32 → Int32 → Int32 → (Int32 × Int32 × Int32 × Int32 × Int32 × (Nat → Int32) × (Nat → Int32))
  | 0, pw1, ce1, lf1, _, ct1, wd1, er1, _, _, _, _ => (0, pw1, ce1, lf1, ct1, wd1, er1)
  | n + 1, pw1, ce1, lf1, mq, ct1, wd1, er1, x1, x2, x3, x4 => (if (256 : Int32) ≤ x4 then (x2, pw1, ce1, lf1, ct1, wd1, er1) else (if (((Int32.toUInt32 x3 >>> (Int32.toUInt32 (x4 - x4 / (32 : Int32) * (32 : Int32)) &&& Int32.toUInt32 31)).toInt32) &&& (1 : Int32)) = 0 then (lpX2_eraseSector_49 n pw1 ce1 lf1 mq ct1 (upd wd1 (Int32.toNatClampNeg ((x1 * (256 : Int32)) + x4)) (-1 : Int32)) er1  x1 x2 x3 (x4 + (1 : Int32))) else (lpX2_eraseSector_49 n pw1 ce1 lf1 mq ct1 wd1 er1  x1 x2 x3 (x4 + (1 : Int32)))))
theorem lpX2_eraseSector_49_e (n : Nat) (pw1 : Int32) (ce1 : Int32) (lf1 : Int32) (mq : Int32) (ct1 : Int32) (wd1 : Nat → Int32) (er1 : Nat → Int32) (x1 : Int32) (x2 : Int32) (x3 : Int32) (x4 : Int32) : lpX2_eraseSector_49 (n + 1) pw1 ce1 lf1 mq ct1 wd1 er1 x1 x2 x3 x4 = (if (256 : Int32) ≤ x4 then (x2, pw1, ce1, lf1, ct1, wd1, er1) else (if (((Int32.toUInt32 x3 >>> (Int32.toUInt32 (x4 - x4 / (32 : Int32) * (32 : Int32)) &&& Int32.toUInt32 31)).toInt32) &&& (1 : Int32)) = 0 then (lpX2_eraseSector_49 n pw1 ce1 lf1 mq ct1 (upd wd1 (Int32.toNatClampNeg ((x1 * (256 : Int32)) + x4)) (-1 : Int32)) er1  x1 x2 x3 (x4 + (1 : Int32))) else (lpX2_eraseSector_49 n pw1 ce1 lf1 mq ct1 wd1 er1  x1 x2 x3 (x4 + (1 : Int32))))) := rfl
def spX2_eraseSector (pw : Int32) (ce : Int32) (lf : Int32) (mq : Int32) (ct : Int32) (wd : Nat → Int32) (er : Nat → Int32) (p1 : Int32) : Int32 × Int32 × Int32 × Int32 × Int32 × (Nat → Int32) × (Nat → Int32) := (if pw = 0 then ((0 : Int32), pw, ce, lf, ct, wd, er) else (if (spX2_holds p1 (0 : Int32)) = 0 then ((0 : Int32), pw, ce, lf, ct, wd, er) else (match spX2_spendOne pw ce lf ct with | (r_19, pw_19, ce_19, lf_19, ct_19) => (if r_19 = 0 then (lpX2_eraseSector_49 257 pw_19 ce_19 lf_19 mq ct_19 wd (upd er (Int32.toNatClampNeg p1) ((er (Int32.toNatClampNeg p1)) + (1 : Int32)))  p1 r_19 mq (0 : Int32)) else (lpX2_eraseSector_49 257 pw_19 ce_19 lf_19 mq ct_19 wd (upd er (Int32.toNatClampNeg p1) ((er (Int32.toNatClampNeg p1)) + (1 : Int32)))  p1 r_19 (0 : Int32) (0 : Int32))))))
set_option maxHeartbeats 4000000 in
set_option maxRecDepth 100000 in
theorem c_X2_eraseSector (l : Launch) (D : va_G) (aM aw ae : Nat) (cA : ClassId) (pw : Int32) (ce : Int32) (lf : Int32) (mq : Int32) (ct : Int32) (wd : Nat → Int32) (er : Nat → Int32) (p1 : Int32)  : kWi l yX2_eraseSector cX2_eraseSector 5 (some .boolean) { frames := 1, cells := 0, slots := 0, locals := 22 } D [(cA, .int)] [.ref aM, .int p1] (wM aM aw ae cA pw ce lf mq ct wd er) (spX2_eraseSector pw ce lf mq ct wd er p1).1 (wM aM aw ae cA (spX2_eraseSector pw ce lf mq ct wd er p1).2.1 (spX2_eraseSector pw ce lf mq ct wd er p1).2.2.1 (spX2_eraseSector pw ce lf mq ct wd er p1).2.2.2.1 mq (spX2_eraseSector pw ce lf mq ct wd er p1).2.2.2.2.1 (spX2_eraseSector pw ce lf mq ct wd er p1).2.2.2.2.2.1 (spX2_eraseSector pw ce lf mq ct wd er p1).2.2.2.2.2.2) := by
  intro sz
  refine Met.ofW (cc := cX2_eraseSector) (maxL := 5) (ret := (some .boolean)) (by decide) rfl ?_
  intro p e s m args below meth c s₁ B hml hv
  obtain ⟨rfl, hsz, hP, hK, hD0⟩ := hv
  have hx := B.exec
  have hb := B.bytes
  have hr := B.returns
  have hts : ∀ w ∈ kG, w.before _ s = true := fun w h => atoms_spec (ws := kT yX2_eraseSector cX2_eraseSector 5 (some .boolean)) B.pre w (List.mem_cons_of_mem _ h)
  have hown : s.vm.findClass RX2 = some m.cls := findClass_of_methodNamed B.named
  have hlocks := B.notSynchronized
  subst hsz
  have hD := hD0.self (sz := s.heap.size)
  generalize hAe : va_A (wM aM aw ae cA pw ce lf mq ct wd er) s.heap.size = A at hD ⊢
  have hA : ∀ q : Nat, s.heap.size ≤ q → A q := fun q h => by rw [← hAe]; exact Or.inr h
  have hS : va_S A s.heap s.heap [] := va_S.rf
  have hl := lv_entry ([.ref aM, .int p1]) (n := 5) (Nat.le_of_ble_eq_true rfl)
  rw [lg_entry_eq]
  generalize (lg_sl ([.ref aM, .int p1]) ++ List.replicate (5 - (lg_sl ([.ref aM, .int p1])).length) Slot.unset).toArray = ls at hl ⊢
  have hl : lv_has ls 5 [(0, .ref aM), (1, .int p1)] := hl
  have L49 : ∀ (n : Nat) (pw1 : Int32) (ce1 : Int32) (lf1 : Int32) (ct1 : Int32) (wd1 : Nat → Int32) (er1 : Nat → Int32) (x1 : Int32) (x2 : Int32) (x3 : Int32) (x4 : Int32) (H : Heap) (locs : List Loc) (ls : Array Slot), ((∃ k : Nat, x4 = nI k ∧ k ≤ 256 ∧ 256 < k + n) ∧ (¬ spX2_holds x1 0 = 0 ∧ (x2 = 0 ∨ x2 = 1))) → spX2_eraseSector pw ce lf mq ct wd er p1 = lpX2_eraseSector_49 n pw1 ce1 lf1 mq ct1 wd1 er1 x1 x2 x3 x4 → va_P D vwCl (wM aM aw ae cA pw1 ce1 lf1 mq ct1 wd1 er1) H → va_D A (wM aM aw ae cA pw1 ce1 lf1 mq ct1 wd1 er1) → va_S A s.heap H locs → lv_has ls 5 [(0, .ref aM), (1, .int x1), (2, .int x2), (3, .int x3), (4, .int x4)] → W p l e (headSpec (kT yX2_eraseSector cX2_eraseSector 5 (some .boolean)) ({ frames := 1, cells := 0, slots := 0, locals := 22 })).room s m ([.ref aM, .int p1] : List Value).toArray below meth c H locs 0 0 (MQ below (va_Qi (fun r (_ : Unit) => r = (spX2_eraseSector pw ce lf mq ct wd er p1).1) (kPost D A (wM aM aw ae cA (spX2_eraseSector pw ce lf mq ct wd er p1).2.1 (spX2_eraseSector pw ce lf mq ct wd er p1).2.2.1 (spX2_eraseSector pw ce lf mq ct wd er p1).2.2.2.1 mq (spX2_eraseSector pw ce lf mq ct wd er p1).2.2.2.2.1 (spX2_eraseSector pw ce lf mq ct wd er p1).2.2.2.2.2.1 (spX2_eraseSector pw ce lf mq ct wd er p1).2.2.2.2.2.2) [(cA, .int)]) A) ([.ref aM, .int p1] : List Value).toArray s 0 0 A) (F0 m 49 ls []) := by
    intro n
    induction n with
    | zero =>
      intro pw1 ce1 lf1 ct1 wd1 er1 x1 x2 x3 x4 H locs ls hI
      exact absurd hI (by rintro ⟨⟨k, -, h1, h2⟩, -⟩; omega)
    | succ n ih =>
      intro pw1 ce1 lf1 ct1 wd1 er1 x1 x2 x3 x4 H locs ls hI hE hP hD hS hl
      obtain ⟨⟨k, hk, hk1, hk2⟩, hI2⟩ := hI
      refine lv_iload hx hb dX2_eraseSector_49 (lv_at hl 4 rfl) ?_
      refine lv_sipush (v := 256) hx hb dX2_eraseSector_51 (by decide) ?_
      refine lv_icmp_ge (tgt := 89) hx hb dX2_eraseSector_54 (by decide) (fun c_54 => ?_) (fun c_54 => ?_)
      · refine lv_iload_n hx hb dX2_eraseSector_89 rfl (lv_at hl 2 rfl) ?_
        have hE : spX2_eraseSector pw ce lf mq ct wd er p1 = (x2, pw1, ce1, lf1, ct1, wd1, er1) := hE.trans (by rw [lpX2_eraseSector_49_e]; rw [if_pos c_54])
        exact W.zret (v := x2) hx hb hr (k_bool hI2.2) (fun t ht hW => ⟨⟨x2, (), rfl, by rw [hE], by rw [hE, ht]; exact hP, va_K.moved hW.alike hK, by rw [hE]; exact hD⟩, hS.F ht⟩) hS.2.2 dX2_eraseSector_90
      · refine lv_iload_n hx hb dX2_eraseSector_57 rfl (lv_at hl 3 rfl) ?_
        refine lv_iload hx hb dX2_eraseSector_58 (lv_at hl 4 rfl) ?_
        refine lv_bipush (v := 32) hx hb dX2_eraseSector_60 (by decide) ?_
        refine lv_irem hx hb dX2_eraseSector_62 (by decide) ?_
        refine lv_iushr (v := (Int32.toUInt32 x3 >>> (Int32.toUInt32 (x4 - x4 / (32 : Int32) * (32 : Int32)) &&& Int32.toUInt32 31)).toInt32) hx hb dX2_eraseSector_63 rfl ?_
        refine lv_iconst (v := 1) hx hb dX2_eraseSector_64 (by decide) ?_
        refine lv_iand hx hb dX2_eraseSector_65 ?_
        refine lv_if_ne (tgt := 83) hx hb dX2_eraseSector_66 (by decide) (fun c_66 => ?_) (fun c_66 => ?_)
        · refine lv_iinc (v := (x4 + (1 : Int32))) (lv' := [(4, .int (x4 + (1 : Int32))), (0, .ref aM), (1, .int x1), (2, .int x2), (3, .int x3)]) hx hb dX2_eraseSector_83 hl (k := 4) rfl rfl (by decide) rfl (fun ls hl => ?_)
          refine lv_goto (tgt := 49) hx hb dX2_eraseSector_86 (by decide) ?_
          exact ih  pw1 ce1 lf1 ct1 wd1 er1 x1 x2 x3 (x4 + (1 : Int32)) _ _ ls (⟨k_step (N := 256) rfl (by decide) hk hk1 hk2 c_54, hI2⟩) (hE.trans (by rw [lpX2_eraseSector_49_e]; rw [if_neg c_54, if_neg c_66])) hP hD hS (lv_sub hl [1, 2, 3, 4, 0] rfl)
        · refine lv_aload_n hx hb dX2_eraseSector_69 rfl (lv_at hl 0 rfl) ?_
          refine va_get (D := D) (ci := 2) (v := .ref aw) (C := RX2) (T := TX2) (N := 7) hx hb hts k_inX2 hown hK hP 0 rfl rfl 0 (by decide) (hts _ kw_75) (fun _ h9 => h9) rfl dX2_eraseSector_70 ?_
          refine lv_iload_n hx hb dX2_eraseSector_73 rfl (lv_at hl 1 rfl) ?_
          refine lv_sipush (v := 256) hx hb dX2_eraseSector_74 (by decide) ?_
          refine lv_imul hx hb dX2_eraseSector_77 ?_
          refine lv_iload hx hb dX2_eraseSector_78 (lv_at hl 4 rfl) ?_
          refine lv_iadd hx hb dX2_eraseSector_80 ?_
          refine lv_iconst (v := -1) hx hb dX2_eraseSector_81 (by decide) ?_
          refine va_iast hx hb hK hP hD hS 1 0 rfl rfl (k_place ⟨(k_holds hI2.1).1, by have := k_lt (N := 256) rfl hk hk1 (by decide) c_54; rw [hk, nI_toInt (by omega)]; omega⟩) dX2_eraseSector_82 (fun H locs hP hD hS => ?_)
          have hP : va_P D vwCl (wM aM aw ae cA pw1 ce1 lf1 mq ct1 (upd wd1 (Int32.toNatClampNeg ((x1 * (256 : Int32)) + x4)) (-1 : Int32)) er1) H := hP
          have hD : va_D A (wM aM aw ae cA pw1 ce1 lf1 mq ct1 (upd wd1 (Int32.toNatClampNeg ((x1 * (256 : Int32)) + x4)) (-1 : Int32)) er1) := hD
          refine lv_iinc (v := (x4 + (1 : Int32))) (lv' := [(4, .int (x4 + (1 : Int32))), (0, .ref aM), (1, .int x1), (2, .int x2), (3, .int x3)]) hx hb dX2_eraseSector_83 hl (k := 4) rfl rfl (by decide) rfl (fun ls hl => ?_)
          refine lv_goto (tgt := 49) hx hb dX2_eraseSector_86 (by decide) ?_
          exact ih  pw1 ce1 lf1 ct1 (upd wd1 (Int32.toNatClampNeg ((x1 * (256 : Int32)) + x4)) (-1 : Int32)) er1 x1 x2 x3 (x4 + (1 : Int32)) _ _ ls (⟨k_step (N := 256) rfl (by decide) hk hk1 hk2 c_54, hI2⟩) (hE.trans (by rw [lpX2_eraseSector_49_e]; rw [if_neg c_54, if_pos c_66])) hP hD hS (lv_sub hl [1, 2, 3, 4, 0] rfl)
  refine lv_aload_n hx hb dX2_eraseSector_0 rfl (lv_at hl 0 rfl) ?_
  refine va_get (D := D) (ci := 2) (v := .int pw) (C := RX2) (T := TX2) (N := 7) hx hb hts k_inX2 hown hK hP 0 rfl rfl 2 (by decide) (hts _ kw_77) (fun _ h9 => h9) rfl dX2_eraseSector_1 ?_
  refine lv_if_eq (tgt := 16) hx hb dX2_eraseSector_4 (by decide) (fun c_4 => ?_) (fun c_4 => ?_)
  · refine lv_iconst (v := 0) hx hb dX2_eraseSector_16 (by decide) ?_
    have hE : spX2_eraseSector pw ce lf mq ct wd er p1 = ((0 : Int32), pw, ce, lf, ct, wd, er) := by unfold spX2_eraseSector; rw [if_pos c_4]
    exact W.zret (v := (0 : Int32)) hx hb hr rfl (fun t ht hW => ⟨⟨(0 : Int32), (), rfl, by rw [hE], by rw [hE, ht]; exact hP, va_K.moved hW.alike hK, by rw [hE]; exact hD⟩, hS.F ht⟩) hS.2.2 dX2_eraseSector_17
  · refine lv_aload_n hx hb dX2_eraseSector_7 rfl (lv_at hl 0 rfl) ?_
    refine lv_iload_n hx hb dX2_eraseSector_8 rfl (lv_at hl 1 rfl) ?_
    refine lv_iconst (v := 0) hx hb dX2_eraseSector_9 (by decide) ?_
    refine k_rdVi (As := [.int p1, .int (0 : Int32)]) (rest := []) (ci := 2) (q0 := 0) ⟨hx, hb, hml, hown, hts⟩ k_self (c_X2_holds l D aM aw ae cA pw ce lf mq ct wd er p1 (0 : Int32)) kv_X2_26 (hP.sub [0, 1, 2] rfl) (hK.sub [0] rfl) rfl rfl rfl rfl ⟨Nat.le_of_ble_eq_true rfl, Nat.le_of_ble_eq_true rfl⟩ rfl hl.1 rfl (Nat.le_of_ble_eq_true rfl) dX2_eraseSector_10 ⟨Nat.zero_le _, Nat.zero_le _⟩ ?_
    refine lv_if_ne (tgt := 18) hx hb dX2_eraseSector_13 (by decide) (fun c_13 => ?_) (fun c_13 => ?_)
    · refine lv_aload_n hx hb dX2_eraseSector_18 rfl (lv_at hl 0 rfl) ?_
      rcases hq_19 : spX2_spendOne pw ce lf ct with ⟨r_19, pw_19, ce_19, lf_19, ct_19⟩
      have hM_19 : kWi l yX2_spendOne cX2_spendOne 1 (some .boolean) { frames := 0, cells := 0, slots := 0, locals := 0 } D [(cA, .int)] [.ref aM] (wM aM aw ae cA pw ce lf mq ct wd er) r_19 (wM aM aw ae cA pw_19 ce_19 lf_19 mq ct_19 wd er) := by
        have h := c_X2_spendOne l D aM aw ae cA pw ce lf mq ct wd er 
        rw [hq_19] at h
        exact h
      refine k_wrVi (As := []) (rest := []) (ci := 2) (q0 := 0) (ws' := (wM aM aw ae cA pw_19 ce_19 lf_19 mq ct_19 wd er)) (wr := []) ⟨hx, hb, hml, hown, hts⟩ k_self hM_19 kv_X2_30 hP hD hS hA hK rfl rfl [0, 1, 2] [] [0, 1, 2] rfl (by decide) rfl (by decide) (by decide) rfl (by decide) rfl rfl ⟨Nat.le_of_ble_eq_true rfl, Nat.le_of_ble_eq_true rfl⟩ rfl hl.1 rfl (Nat.le_of_ble_eq_true rfl) dX2_eraseSector_19 ⟨Nat.zero_le _, Nat.zero_le _⟩ (fun H locs hP hD hS => ?_)
      refine lv_istore_n (lv' := [(2, .int r_19), (0, .ref aM), (1, .int p1)]) hx hb dX2_eraseSector_22 rfl hl (by decide) rfl (fun ls hl => ?_)
      refine lv_aload_n hx hb dX2_eraseSector_23 rfl (lv_at hl 1 rfl) ?_
      refine va_get (D := D) (ci := 2) (v := .ref ae) (C := RX2) (T := TX2) (N := 7) hx hb hts k_inX2 hown hK hP 0 rfl rfl 1 (by decide) (hts _ kw_76) (fun _ h9 => h9) rfl dX2_eraseSector_24 ?_
      refine lv_iload_n hx hb dX2_eraseSector_27 rfl (lv_at hl 2 rfl) ?_
      refine lv_dup2_11 hx hb dX2_eraseSector_28 rfl rfl ?_
      refine va_iald hx hb hK hP 2 0 rfl rfl (k_sect c_13) dX2_eraseSector_29 ?_
      refine lv_iconst (v := 1) hx hb dX2_eraseSector_30 (by decide) ?_
      refine lv_iadd hx hb dX2_eraseSector_31 ?_
      refine va_iast hx hb hK hP hD hS 2 0 rfl rfl (k_sect c_13) dX2_eraseSector_32 (fun H locs hP hD hS => ?_)
      have hP : va_P D vwCl (wM aM aw ae cA pw_19 ce_19 lf_19 mq ct_19 wd (upd er (Int32.toNatClampNeg p1) ((er (Int32.toNatClampNeg p1)) + (1 : Int32)))) H := hP
      have hD : va_D A (wM aM aw ae cA pw_19 ce_19 lf_19 mq ct_19 wd (upd er (Int32.toNatClampNeg p1) ((er (Int32.toNatClampNeg p1)) + (1 : Int32)))) := hD
      refine lv_iload_n hx hb dX2_eraseSector_33 rfl (lv_at hl 0 rfl) ?_
      refine lv_if_eq (tgt := 41) hx hb dX2_eraseSector_34 (by decide) (fun c_34 => ?_) (fun c_34 => ?_)
      · refine lv_aload_n hx hb dX2_eraseSector_41 rfl (lv_at hl 1 rfl) ?_
        refine va_get (D := D) (ci := 2) (v := .int mq) (C := RX2) (T := TX2) (N := 7) hx hb hts k_inX2 hown hK hP 0 rfl rfl 5 (by decide) (hts _ kw_80) (fun _ h9 => h9) rfl dX2_eraseSector_42 ?_
        refine lv_istore_n (lv' := [(3, .int mq), (2, .int r_19), (0, .ref aM), (1, .int p1)]) hx hb dX2_eraseSector_45 rfl hl (by decide) rfl (fun ls hl => ?_)
        refine lv_iconst (v := 0) hx hb dX2_eraseSector_46 (by decide) ?_
        refine lv_istore (lv' := [(4, .int (0 : Int32)), (3, .int mq), (2, .int r_19), (0, .ref aM), (1, .int p1)]) hx hb dX2_eraseSector_47 hl (by decide) rfl (fun ls hl => ?_)
        exact L49 257 pw_19 ce_19 lf_19 ct_19 wd (upd er (Int32.toNatClampNeg p1) ((er (Int32.toNatClampNeg p1)) + (1 : Int32))) p1 r_19 mq (0 : Int32) _ _ ls (⟨⟨0, rfl, by decide, by decide⟩, ⟨c_13, by have h := k_spend01 pw ce lf ct; rw [hq_19] at h; exact h⟩⟩) (by unfold spX2_eraseSector; rw [if_neg c_4, if_neg c_13]; rw [hq_19]; dsimp only; rw [if_pos c_34]) hP hD hS (lv_sub hl [3, 4, 2, 1, 0] rfl)
      · refine lv_iconst (v := 0) hx hb dX2_eraseSector_37 (by decide) ?_
        refine lv_goto (tgt := 45) hx hb dX2_eraseSector_38 (by decide) ?_
        refine lv_istore_n (lv' := [(3, .int (0 : Int32)), (2, .int r_19), (0, .ref aM), (1, .int p1)]) hx hb dX2_eraseSector_45 rfl hl (by decide) rfl (fun ls hl => ?_)
        refine lv_iconst (v := 0) hx hb dX2_eraseSector_46 (by decide) ?_
        refine lv_istore (lv' := [(4, .int (0 : Int32)), (3, .int (0 : Int32)), (2, .int r_19), (0, .ref aM), (1, .int p1)]) hx hb dX2_eraseSector_47 hl (by decide) rfl (fun ls hl => ?_)
        exact L49 257 pw_19 ce_19 lf_19 ct_19 wd (upd er (Int32.toNatClampNeg p1) ((er (Int32.toNatClampNeg p1)) + (1 : Int32))) p1 r_19 (0 : Int32) (0 : Int32) _ _ ls (⟨⟨0, rfl, by decide, by decide⟩, ⟨c_13, by have h := k_spend01 pw ce lf ct; rw [hq_19] at h; exact h⟩⟩) (by unfold spX2_eraseSector; rw [if_neg c_4, if_neg c_13]; rw [hq_19]; dsimp only; rw [if_neg c_34]) hP hD hS (lv_sub hl [3, 4, 2, 1, 0] rfl)
    · refine lv_iconst (v := 0) hx hb dX2_eraseSector_16 (by decide) ?_
      have hE : spX2_eraseSector pw ce lf mq ct wd er p1 = ((0 : Int32), pw, ce, lf, ct, wd, er) := by unfold spX2_eraseSector; rw [if_neg c_4, if_pos c_13]
      exact W.zret (v := (0 : Int32)) hx hb hr rfl (fun t ht hW => ⟨⟨(0 : Int32), (), rfl, by rw [hE], by rw [hE, ht]; exact hP, va_K.moved hW.alike hK, by rw [hE]; exact hD⟩, hS.F ht⟩) hS.2.2 dX2_eraseSector_17
def lpX2_markOf_7 : Nat → (Nat → Int32) → Int32 → Int32 → Int32 → Int32 → Int32 → Int32
  | 0, _, _, _, _, _, _ => 0
  | n + 1, wd, x1, x2, x3, x4, x5 => (if x3 ≤ x5 then (if (x4 ^^^ (1515870810 : Int32)) = (-1 : Int32) then (0 : Int32) else (x4 ^^^ (1515870810 : Int32))) else (if (256 : Int32) ≤ x5 then (if (x4 ^^^ (1515870810 : Int32)) = (-1 : Int32) then (0 : Int32) else (x4 ^^^ (1515870810 : Int32))) else (lpX2_markOf_7 n wd  x1 x2 x3 (((31 : Int32) * x4) + (spX2_read wd x1 (x2 + x5))) (x5 + (1 : Int32)))))
theorem lpX2_markOf_7_e (n : Nat) (wd : Nat → Int32) (x1 : Int32) (x2 : Int32) (x3 : Int32) (x4 : Int32) (x5 : Int32) : lpX2_markOf_7 (n + 1) wd x1 x2 x3 x4 x5 = (if x3 ≤ x5 then (if (x4 ^^^ (1515870810 : Int32)) = (-1 : Int32) then (0 : Int32) else (x4 ^^^ (1515870810 : Int32))) else (if (256 : Int32) ≤ x5 then (if (x4 ^^^ (1515870810 : Int32)) = (-1 : Int32) then (0 : Int32) else (x4 ^^^ (1515870810 : Int32))) else (lpX2_markOf_7 n wd  x1 x2 x3 (((31 : Int32) * x4) + (spX2_read wd x1 (x2 + x5))) (x5 + (1 : Int32))))) := rfl
def spX2_markOf (wd : Nat → Int32) (p1 : Int32) (p2 : Int32) (p3 : Int32) : Int32 := (lpX2_markOf_7 257 wd  p1 p2 p3 (17 : Int32) (0 : Int32))
set_option maxHeartbeats 4000000 in
set_option maxRecDepth 100000 in
theorem c_X2_markOf (l : Launch) (D : va_G) (aM aw ae : Nat) (cA : ClassId) (pw : Int32) (ce : Int32) (lf : Int32) (mq : Int32) (ct : Int32) (wd : Nat → Int32) (er : Nat → Int32) (p1 : Int32) (p2 : Int32) (p3 : Int32)  : kRi l yX2_markOf cX2_markOf 6 (some .int) { frames := 2, cells := 0, slots := 0, locals := 44 } [.ref aM, .int p1, .int p2, .int p3] (kB D (wM aM aw ae cA pw ce lf mq ct wd er) [(cA, .int)]) (spX2_markOf wd p1 p2 p3) := by
  refine Met.ofW (cc := cX2_markOf) (maxL := 6) (ret := (some .int)) (by decide) rfl ?_
  intro p e s m args below meth c s₁ B hml hv
  obtain ⟨rfl, hP, hK⟩ := hv
  have hx := B.exec
  have hb := B.bytes
  have hr := B.returns
  have hts : ∀ w ∈ kG, w.before _ s = true := fun w h => atoms_spec (ws := kT yX2_markOf cX2_markOf 6 (some .int)) B.pre w (List.mem_cons_of_mem _ h)
  have hown : s.vm.findClass RX2 = some m.cls := findClass_of_methodNamed B.named
  have hlocks := B.notSynchronized
  have hl := lv_entry ([.ref aM, .int p1, .int p2, .int p3]) (n := 6) (Nat.le_of_ble_eq_true rfl)
  rw [lg_entry_eq]
  generalize (lg_sl ([.ref aM, .int p1, .int p2, .int p3]) ++ List.replicate (6 - (lg_sl ([.ref aM, .int p1, .int p2, .int p3])).length) Slot.unset).toArray = ls at hl ⊢
  have hl : lv_has ls 6 [(0, .ref aM), (1, .int p1), (2, .int p2), (3, .int p3)] := hl
  have L7 : ∀ (n : Nat)  (x1 : Int32) (x2 : Int32) (x3 : Int32) (x4 : Int32) (x5 : Int32) (ls : Array Slot), (∃ k : Nat, x5 = nI k ∧ k ≤ 256 ∧ 256 < k + n) → spX2_markOf wd p1 p2 p3 = lpX2_markOf_7 n wd x1 x2 x3 x4 x5 → lv_has ls 6 [(0, .ref aM), (1, .int x1), (2, .int x2), (3, .int x3), (4, .int x4), (5, .int x5)] → W p l e (headSpec (kT yX2_markOf cX2_markOf 6 (some .int)) ({ frames := 2, cells := 0, slots := 0, locals := 44 })).room s m ([.ref aM, .int p1, .int p2, .int p3] : List Value).toArray below meth c s.heap [] 0 0 (MQ below (vp_Si (fun r => r = spX2_markOf wd p1 p2 p3)) ([.ref aM, .int p1, .int p2, .int p3] : List Value).toArray s 0 0 (fun _ => False)) (F0 m 7 ls []) := by
    intro n
    induction n with
    | zero =>
      intro x1 x2 x3 x4 x5 ls hI
      exact absurd hI (by rintro ⟨k, -, h1, h2⟩; omega)
    | succ n ih =>
      intro x1 x2 x3 x4 x5 ls hI hE hl
      obtain ⟨k, hk, hk1, hk2⟩ := hI
      refine lv_iload hx hb dX2_markOf_7 (lv_at hl 5 rfl) ?_
      refine lv_iload_n hx hb dX2_markOf_9 rfl (lv_at hl 3 rfl) ?_
      refine lv_icmp_ge (tgt := 44) hx hb dX2_markOf_10 (by decide) (fun c_10 => ?_) (fun c_10 => ?_)
      · refine lv_iload hx hb dX2_markOf_44 (lv_at hl 4 rfl) ?_
        refine lv_ldc (v := 1515870810) hx hb hown (hts _ kw_153) dX2_markOf_46 ?_
        refine lv_ixor hx hb dX2_markOf_48 ?_
        refine lv_istore (lv' := [(4, .int (x4 ^^^ (1515870810 : Int32))), (0, .ref aM), (1, .int x1), (2, .int x2), (3, .int x3), (5, .int x5)]) hx hb dX2_markOf_49 hl (by decide) rfl (fun ls hl => ?_)
        refine lv_iload hx hb dX2_markOf_51 (lv_at hl 0 rfl) ?_
        refine lv_iconst (v := -1) hx hb dX2_markOf_53 (by decide) ?_
        refine lv_icmp_ne (tgt := 61) hx hb dX2_markOf_54 (by decide) (fun c_54 => ?_) (fun c_54 => ?_)
        · refine lv_iload hx hb dX2_markOf_61 (lv_at hl 0 rfl) ?_
          exact W.iret (v := (x4 ^^^ (1515870810 : Int32))) hx hb hr (fun t ht hW => ⟨(x4 ^^^ (1515870810 : Int32)), rfl, (show _ = _ from (hE.trans (by rw [lpX2_markOf_7_e]; rw [if_pos c_10, if_neg c_54]) : spX2_markOf wd p1 p2 p3 = (x4 ^^^ (1515870810 : Int32))).symm), ht⟩) (fun q h => by cases h) dX2_markOf_63
        · refine lv_iconst (v := 0) hx hb dX2_markOf_57 (by decide) ?_
          refine lv_goto (tgt := 63) hx hb dX2_markOf_58 (by decide) ?_
          exact W.iret (v := (0 : Int32)) hx hb hr (fun t ht hW => ⟨(0 : Int32), rfl, (show _ = _ from (hE.trans (by rw [lpX2_markOf_7_e]; rw [if_pos c_10, if_pos c_54]) : spX2_markOf wd p1 p2 p3 = (0 : Int32)).symm), ht⟩) (fun q h => by cases h) dX2_markOf_63
      · refine lv_iload hx hb dX2_markOf_13 (lv_at hl 5 rfl) ?_
        refine lv_sipush (v := 256) hx hb dX2_markOf_15 (by decide) ?_
        refine lv_icmp_ge (tgt := 44) hx hb dX2_markOf_18 (by decide) (fun c_18 => ?_) (fun c_18 => ?_)
        · refine lv_iload hx hb dX2_markOf_44 (lv_at hl 4 rfl) ?_
          refine lv_ldc (v := 1515870810) hx hb hown (hts _ kw_153) dX2_markOf_46 ?_
          refine lv_ixor hx hb dX2_markOf_48 ?_
          refine lv_istore (lv' := [(4, .int (x4 ^^^ (1515870810 : Int32))), (0, .ref aM), (1, .int x1), (2, .int x2), (3, .int x3), (5, .int x5)]) hx hb dX2_markOf_49 hl (by decide) rfl (fun ls hl => ?_)
          refine lv_iload hx hb dX2_markOf_51 (lv_at hl 0 rfl) ?_
          refine lv_iconst (v := -1) hx hb dX2_markOf_53 (by decide) ?_
          refine lv_icmp_ne (tgt := 61) hx hb dX2_markOf_54 (by decide) (fun c_54 => ?_) (fun c_54 => ?_)
          · refine lv_iload hx hb dX2_markOf_61 (lv_at hl 0 rfl) ?_
            exact W.iret (v := (x4 ^^^ (1515870810 : Int32))) hx hb hr (fun t ht hW => ⟨(x4 ^^^ (1515870810 : Int32)), rfl, (show _ = _ from (hE.trans (by rw [lpX2_markOf_7_e]; rw [if_neg c_10, if_pos c_18, if_neg c_54]) : spX2_markOf wd p1 p2 p3 = (x4 ^^^ (1515870810 : Int32))).symm), ht⟩) (fun q h => by cases h) dX2_markOf_63
          · refine lv_iconst (v := 0) hx hb dX2_markOf_57 (by decide) ?_
            refine lv_goto (tgt := 63) hx hb dX2_markOf_58 (by decide) ?_
            exact W.iret (v := (0 : Int32)) hx hb hr (fun t ht hW => ⟨(0 : Int32), rfl, (show _ = _ from (hE.trans (by rw [lpX2_markOf_7_e]; rw [if_neg c_10, if_pos c_18, if_pos c_54]) : spX2_markOf wd p1 p2 p3 = (0 : Int32)).symm), ht⟩) (fun q h => by cases h) dX2_markOf_63
        · refine lv_bipush (v := 31) hx hb dX2_markOf_21 (by decide) ?_
          refine lv_iload hx hb dX2_markOf_23 (lv_at hl 4 rfl) ?_
          refine lv_imul hx hb dX2_markOf_25 ?_
          refine lv_aload_n hx hb dX2_markOf_26 rfl (lv_at hl 0 rfl) ?_
          refine lv_iload_n hx hb dX2_markOf_27 rfl (lv_at hl 1 rfl) ?_
          refine lv_iload_n hx hb dX2_markOf_28 rfl (lv_at hl 2 rfl) ?_
          refine lv_iload hx hb dX2_markOf_29 (lv_at hl 5 rfl) ?_
          refine lv_iadd hx hb dX2_markOf_31 ?_
          refine k_rdVi (As := [.int x1, .int (x2 + x5)]) (rest := [.int ((31 : Int32) * x4)]) (ci := 2) (q0 := 0) ⟨hx, hb, hml, hown, hts⟩ k_self (c_X2_read l D aM aw ae cA pw ce lf mq ct wd er x1 (x2 + x5)) kv_X2_38 (hP.sub [0, 1, 2] rfl) (hK.sub [0] rfl) rfl rfl rfl rfl ⟨Nat.le_of_ble_eq_true rfl, Nat.le_of_ble_eq_true rfl⟩ rfl hl.1 rfl (Nat.le_of_ble_eq_true rfl) dX2_markOf_32 ⟨Nat.zero_le _, Nat.zero_le _⟩ ?_
          refine lv_iadd hx hb dX2_markOf_35 ?_
          refine lv_istore (lv' := [(4, .int (((31 : Int32) * x4) + (spX2_read wd x1 (x2 + x5)))), (0, .ref aM), (1, .int x1), (2, .int x2), (3, .int x3), (5, .int x5)]) hx hb dX2_markOf_36 hl (by decide) rfl (fun ls hl => ?_)
          refine lv_iinc (v := (x5 + (1 : Int32))) (lv' := [(5, .int (x5 + (1 : Int32))), (4, .int (((31 : Int32) * x4) + (spX2_read wd x1 (x2 + x5)))), (0, .ref aM), (1, .int x1), (2, .int x2), (3, .int x3)]) hx hb dX2_markOf_38 hl (k := 5) rfl rfl (by decide) rfl (fun ls hl => ?_)
          refine lv_goto (tgt := 7) hx hb dX2_markOf_41 (by decide) ?_
          exact ih   x1 x2 x3 (((31 : Int32) * x4) + (spX2_read wd x1 (x2 + x5))) (x5 + (1 : Int32)) ls (k_step (N := 256) rfl (by decide) hk hk1 hk2 c_18) (hE.trans (by rw [lpX2_markOf_7_e]; rw [if_neg c_10, if_neg c_18])) (lv_sub hl [2, 3, 4, 5, 1, 0] rfl)
  refine lv_bipush (v := 17) hx hb dX2_markOf_0 (by decide) ?_
  refine lv_istore (lv' := [(4, .int (17 : Int32)), (0, .ref aM), (1, .int p1), (2, .int p2), (3, .int p3)]) hx hb dX2_markOf_2 hl (by decide) rfl (fun ls hl => ?_)
  refine lv_iconst (v := 0) hx hb dX2_markOf_4 (by decide) ?_
  refine lv_istore (lv' := [(5, .int (0 : Int32)), (4, .int (17 : Int32)), (0, .ref aM), (1, .int p1), (2, .int p2), (3, .int p3)]) hx hb dX2_markOf_5 hl (by decide) rfl (fun ls hl => ?_)
  exact L7 257  p1 p2 p3 (17 : Int32) (0 : Int32) ls (⟨0, rfl, by decide, by decide⟩) (by unfold spX2_markOf; rfl) (lv_sub hl [2, 3, 4, 5, 1, 0] rfl)
def lpX2_areBlank_3 : Nat → (Nat → Int32) → Int32 → Int32 → Int32 → Int32 → Int32
  | 0, _, _, _, _, _ => 0
  | n + 1, wd, x1, x2, x3, x4 => (if x3 ≤ x4 then (1 : Int32) else (if (256 : Int32) ≤ x4 then (1 : Int32) else (if (spX2_read wd x1 (x2 + x4)) = (-1 : Int32) then (lpX2_areBlank_3 n wd  x1 x2 x3 (x4 + (1 : Int32))) else (0 : Int32))))
theorem lpX2_areBlank_3_e (n : Nat) (wd : Nat → Int32) (x1 : Int32) (x2 : Int32) (x3 : Int32) (x4 : Int32) : lpX2_areBlank_3 (n + 1) wd x1 x2 x3 x4 = (if x3 ≤ x4 then (1 : Int32) else (if (256 : Int32) ≤ x4 then (1 : Int32) else (if (spX2_read wd x1 (x2 + x4)) = (-1 : Int32) then (lpX2_areBlank_3 n wd  x1 x2 x3 (x4 + (1 : Int32))) else (0 : Int32)))) := rfl
def spX2_areBlank (wd : Nat → Int32) (p1 : Int32) (p2 : Int32) (p3 : Int32) : Int32 := (lpX2_areBlank_3 257 wd  p1 p2 p3 (0 : Int32))
set_option maxHeartbeats 4000000 in
set_option maxRecDepth 100000 in
theorem c_X2_areBlank (l : Launch) (D : va_G) (aM aw ae : Nat) (cA : ClassId) (pw : Int32) (ce : Int32) (lf : Int32) (mq : Int32) (ct : Int32) (wd : Nat → Int32) (er : Nat → Int32) (p1 : Int32) (p2 : Int32) (p3 : Int32)  : kRi l yX2_areBlank cX2_areBlank 5 (some .boolean) { frames := 2, cells := 0, slots := 0, locals := 44 } [.ref aM, .int p1, .int p2, .int p3] (kB D (wM aM aw ae cA pw ce lf mq ct wd er) [(cA, .int)]) (spX2_areBlank wd p1 p2 p3) := by
  refine Met.ofW (cc := cX2_areBlank) (maxL := 5) (ret := (some .boolean)) (by decide) rfl ?_
  intro p e s m args below meth c s₁ B hml hv
  obtain ⟨rfl, hP, hK⟩ := hv
  have hx := B.exec
  have hb := B.bytes
  have hr := B.returns
  have hts : ∀ w ∈ kG, w.before _ s = true := fun w h => atoms_spec (ws := kT yX2_areBlank cX2_areBlank 5 (some .boolean)) B.pre w (List.mem_cons_of_mem _ h)
  have hown : s.vm.findClass RX2 = some m.cls := findClass_of_methodNamed B.named
  have hlocks := B.notSynchronized
  have hl := lv_entry ([.ref aM, .int p1, .int p2, .int p3]) (n := 5) (Nat.le_of_ble_eq_true rfl)
  rw [lg_entry_eq]
  generalize (lg_sl ([.ref aM, .int p1, .int p2, .int p3]) ++ List.replicate (5 - (lg_sl ([.ref aM, .int p1, .int p2, .int p3])).length) Slot.unset).toArray = ls at hl ⊢
  have hl : lv_has ls 5 [(0, .ref aM), (1, .int p1), (2, .int p2), (3, .int p3)] := hl
  have L3 : ∀ (n : Nat)  (x1 : Int32) (x2 : Int32) (x3 : Int32) (x4 : Int32) (ls : Array Slot), (∃ k : Nat, x4 = nI k ∧ k ≤ 256 ∧ 256 < k + n) → spX2_areBlank wd p1 p2 p3 = lpX2_areBlank_3 n wd x1 x2 x3 x4 → lv_has ls 5 [(0, .ref aM), (1, .int x1), (2, .int x2), (3, .int x3), (4, .int x4)] → W p l e (headSpec (kT yX2_areBlank cX2_areBlank 5 (some .boolean)) ({ frames := 2, cells := 0, slots := 0, locals := 44 })).room s m ([.ref aM, .int p1, .int p2, .int p3] : List Value).toArray below meth c s.heap [] 0 0 (MQ below (vp_Si (fun r => r = spX2_areBlank wd p1 p2 p3)) ([.ref aM, .int p1, .int p2, .int p3] : List Value).toArray s 0 0 (fun _ => False)) (F0 m 3 ls []) := by
    intro n
    induction n with
    | zero =>
      intro x1 x2 x3 x4 ls hI
      exact absurd hI (by rintro ⟨k, -, h1, h2⟩; omega)
    | succ n ih =>
      intro x1 x2 x3 x4 ls hI hE hl
      obtain ⟨k, hk, hk1, hk2⟩ := hI
      refine lv_iload hx hb dX2_areBlank_3 (lv_at hl 4 rfl) ?_
      refine lv_iload_n hx hb dX2_areBlank_5 rfl (lv_at hl 3 rfl) ?_
      refine lv_icmp_ge (tgt := 38) hx hb dX2_areBlank_6 (by decide) (fun c_6 => ?_) (fun c_6 => ?_)
      · refine lv_iconst (v := 1) hx hb dX2_areBlank_38 (by decide) ?_
        exact W.zret (v := (1 : Int32)) hx hb hr rfl (fun t ht hW => ⟨(1 : Int32), rfl, (show _ = _ from (hE.trans (by rw [lpX2_areBlank_3_e]; rw [if_pos c_6]) : spX2_areBlank wd p1 p2 p3 = (1 : Int32)).symm), ht⟩) (fun q h => by cases h) dX2_areBlank_39
      · refine lv_iload hx hb dX2_areBlank_9 (lv_at hl 4 rfl) ?_
        refine lv_sipush (v := 256) hx hb dX2_areBlank_11 (by decide) ?_
        refine lv_icmp_ge (tgt := 38) hx hb dX2_areBlank_14 (by decide) (fun c_14 => ?_) (fun c_14 => ?_)
        · refine lv_iconst (v := 1) hx hb dX2_areBlank_38 (by decide) ?_
          exact W.zret (v := (1 : Int32)) hx hb hr rfl (fun t ht hW => ⟨(1 : Int32), rfl, (show _ = _ from (hE.trans (by rw [lpX2_areBlank_3_e]; rw [if_neg c_6, if_pos c_14]) : spX2_areBlank wd p1 p2 p3 = (1 : Int32)).symm), ht⟩) (fun q h => by cases h) dX2_areBlank_39
        · refine lv_aload_n hx hb dX2_areBlank_17 rfl (lv_at hl 0 rfl) ?_
          refine lv_iload_n hx hb dX2_areBlank_18 rfl (lv_at hl 1 rfl) ?_
          refine lv_iload_n hx hb dX2_areBlank_19 rfl (lv_at hl 2 rfl) ?_
          refine lv_iload hx hb dX2_areBlank_20 (lv_at hl 4 rfl) ?_
          refine lv_iadd hx hb dX2_areBlank_22 ?_
          refine k_rdVi (As := [.int x1, .int (x2 + x4)]) (rest := []) (ci := 2) (q0 := 0) ⟨hx, hb, hml, hown, hts⟩ k_self (c_X2_read l D aM aw ae cA pw ce lf mq ct wd er x1 (x2 + x4)) kv_X2_38 (hP.sub [0, 1, 2] rfl) (hK.sub [0] rfl) rfl rfl rfl rfl ⟨Nat.le_of_ble_eq_true rfl, Nat.le_of_ble_eq_true rfl⟩ rfl hl.1 rfl (Nat.le_of_ble_eq_true rfl) dX2_areBlank_23 ⟨Nat.zero_le _, Nat.zero_le _⟩ ?_
          refine lv_iconst (v := -1) hx hb dX2_areBlank_26 (by decide) ?_
          refine lv_icmp_eq (tgt := 32) hx hb dX2_areBlank_27 (by decide) (fun c_27 => ?_) (fun c_27 => ?_)
          · refine lv_iinc (v := (x4 + (1 : Int32))) (lv' := [(4, .int (x4 + (1 : Int32))), (0, .ref aM), (1, .int x1), (2, .int x2), (3, .int x3)]) hx hb dX2_areBlank_32 hl (k := 4) rfl rfl (by decide) rfl (fun ls hl => ?_)
            refine lv_goto (tgt := 3) hx hb dX2_areBlank_35 (by decide) ?_
            exact ih   x1 x2 x3 (x4 + (1 : Int32)) ls (k_step (N := 256) rfl (by decide) hk hk1 hk2 c_14) (hE.trans (by rw [lpX2_areBlank_3_e]; rw [if_neg c_6, if_neg c_14, if_pos c_27])) (lv_sub hl [1, 2, 3, 4, 0] rfl)
          · refine lv_iconst (v := 0) hx hb dX2_areBlank_30 (by decide) ?_
            exact W.zret (v := (0 : Int32)) hx hb hr rfl (fun t ht hW => ⟨(0 : Int32), rfl, (show _ = _ from (hE.trans (by rw [lpX2_areBlank_3_e]; rw [if_neg c_6, if_neg c_14, if_neg c_27]) : spX2_areBlank wd p1 p2 p3 = (0 : Int32)).symm), ht⟩) (fun q h => by cases h) dX2_areBlank_31
  refine lv_iconst (v := 0) hx hb dX2_areBlank_0 (by decide) ?_
  refine lv_istore (lv' := [(4, .int (0 : Int32)), (0, .ref aM), (1, .int p1), (2, .int p2), (3, .int p3)]) hx hb dX2_areBlank_1 hl (by decide) rfl (fun ls hl => ?_)
  exact L3 257  p1 p2 p3 (0 : Int32) ls (⟨0, rfl, by decide, by decide⟩) (by unfold spX2_areBlank; rfl) (lv_sub hl [1, 2, 3, 4, 0] rfl)
def spX2_erasesOf (er : Nat → Int32) (p1 : Int32) : Int32 := (if (spX2_holds p1 (0 : Int32)) = 0 then (0 : Int32) else (er (Int32.toNatClampNeg p1)))
set_option maxHeartbeats 4000000 in
set_option maxRecDepth 100000 in
theorem c_X2_erasesOf (l : Launch) (D : va_G) (aM aw ae : Nat) (cA : ClassId) (pw : Int32) (ce : Int32) (lf : Int32) (mq : Int32) (ct : Int32) (wd : Nat → Int32) (er : Nat → Int32) (p1 : Int32)  : kRi l yX2_erasesOf cX2_erasesOf 2 (some .int) { frames := 1, cells := 0, slots := 0, locals := 22 } [.ref aM, .int p1] (kB D (wM aM aw ae cA pw ce lf mq ct wd er) [(cA, .int)]) (spX2_erasesOf er p1) := by
  refine Met.ofW (cc := cX2_erasesOf) (maxL := 2) (ret := (some .int)) (by decide) rfl ?_
  intro p e s m args below meth c s₁ B hml hv
  obtain ⟨rfl, hP, hK⟩ := hv
  have hx := B.exec
  have hb := B.bytes
  have hr := B.returns
  have hts : ∀ w ∈ kG, w.before _ s = true := fun w h => atoms_spec (ws := kT yX2_erasesOf cX2_erasesOf 2 (some .int)) B.pre w (List.mem_cons_of_mem _ h)
  have hown : s.vm.findClass RX2 = some m.cls := findClass_of_methodNamed B.named
  have hlocks := B.notSynchronized
  have hl := lv_entry ([.ref aM, .int p1]) (n := 2) (Nat.le_of_ble_eq_true rfl)
  rw [lg_entry_eq]
  generalize (lg_sl ([.ref aM, .int p1]) ++ List.replicate (2 - (lg_sl ([.ref aM, .int p1])).length) Slot.unset).toArray = ls at hl ⊢
  have hl : lv_has ls 2 [(0, .ref aM), (1, .int p1)] := hl
  refine lv_aload_n hx hb dX2_erasesOf_0 rfl (lv_at hl 0 rfl) ?_
  refine lv_iload_n hx hb dX2_erasesOf_1 rfl (lv_at hl 1 rfl) ?_
  refine lv_iconst (v := 0) hx hb dX2_erasesOf_2 (by decide) ?_
  refine k_rdVi (As := [.int p1, .int (0 : Int32)]) (rest := []) (ci := 2) (q0 := 0) ⟨hx, hb, hml, hown, hts⟩ k_self (c_X2_holds l D aM aw ae cA pw ce lf mq ct wd er p1 (0 : Int32)) kv_X2_26 (hP.sub [0, 1, 2] rfl) (hK.sub [0] rfl) rfl rfl rfl rfl ⟨Nat.le_of_ble_eq_true rfl, Nat.le_of_ble_eq_true rfl⟩ rfl hl.1 rfl (Nat.le_of_ble_eq_true rfl) dX2_erasesOf_3 ⟨Nat.zero_le _, Nat.zero_le _⟩ ?_
  refine lv_if_eq (tgt := 18) hx hb dX2_erasesOf_6 (by decide) (fun c_6 => ?_) (fun c_6 => ?_)
  · refine lv_iconst (v := 0) hx hb dX2_erasesOf_18 (by decide) ?_
    exact W.iret (v := (0 : Int32)) hx hb hr (fun t ht hW => ⟨(0 : Int32), rfl, (show _ = _ from (by unfold spX2_erasesOf; rw [if_pos c_6] : spX2_erasesOf er p1 = (0 : Int32)).symm), ht⟩) (fun q h => by cases h) dX2_erasesOf_19
  · refine lv_aload_n hx hb dX2_erasesOf_9 rfl (lv_at hl 0 rfl) ?_
    refine va_get (D := D) (ci := 2) (v := .ref ae) (C := RX2) (T := TX2) (N := 7) hx hb hts k_inX2 hown hK hP 0 rfl rfl 1 (by decide) (hts _ kw_76) (fun _ h9 => h9) rfl dX2_erasesOf_10 ?_
    refine lv_iload_n hx hb dX2_erasesOf_13 rfl (lv_at hl 1 rfl) ?_
    refine va_iald hx hb hK hP 2 0 rfl rfl (k_sect c_6) dX2_erasesOf_14 ?_
    refine lv_goto (tgt := 19) hx hb dX2_erasesOf_15 (by decide) ?_
    exact W.iret (v := (er (Int32.toNatClampNeg p1))) hx hb hr (fun t ht hW => ⟨(er (Int32.toNatClampNeg p1)), rfl, (show _ = _ from (by unfold spX2_erasesOf; rw [if_neg c_6] : spX2_erasesOf er p1 = (er (Int32.toNatClampNeg p1))).symm), ht⟩) (fun q h => by cases h) dX2_erasesOf_19
def lpX2_wearSpread_10 : Nat → (Nat → Int32) → Int32 → Int32 → Int32 → Int32
  | 0, _, _, _, _ => 0
  | n + 1, er, x1, x2, x3 => (if (16 : Int32) ≤ x3 then (x2 - x1) else (lpX2_wearSpread_10 n er  (if (spX2_erasesOf er x3) < x1 then (spX2_erasesOf er x3) else x1) (if x2 < (spX2_erasesOf er x3) then (spX2_erasesOf er x3) else x2) (x3 + (1 : Int32))))
theorem lpX2_wearSpread_10_e (n : Nat) (er : Nat → Int32) (x1 : Int32) (x2 : Int32) (x3 : Int32) : lpX2_wearSpread_10 (n + 1) er x1 x2 x3 = (if (16 : Int32) ≤ x3 then (x2 - x1) else (lpX2_wearSpread_10 n er  (if (spX2_erasesOf er x3) < x1 then (spX2_erasesOf er x3) else x1) (if x2 < (spX2_erasesOf er x3) then (spX2_erasesOf er x3) else x2) (x3 + (1 : Int32)))) := rfl
def spX2_wearSpread (er : Nat → Int32) : Int32 := (lpX2_wearSpread_10 16 er  (spX2_erasesOf er (0 : Int32)) (spX2_erasesOf er (0 : Int32)) (1 : Int32))
set_option maxHeartbeats 4000000 in
set_option maxRecDepth 100000 in
theorem c_X2_wearSpread (l : Launch) (D : va_G) (aM aw ae : Nat) (cA : ClassId) (pw : Int32) (ce : Int32) (lf : Int32) (mq : Int32) (ct : Int32) (wd : Nat → Int32) (er : Nat → Int32)   : kRi l yX2_wearSpread cX2_wearSpread 4 (some .int) { frames := 2, cells := 0, slots := 0, locals := 43 } [.ref aM] (kB D (wM aM aw ae cA pw ce lf mq ct wd er) [(cA, .int)]) (spX2_wearSpread er) := by
  refine Met.ofW (cc := cX2_wearSpread) (maxL := 4) (ret := (some .int)) (by decide) rfl ?_
  intro p e s m args below meth c s₁ B hml hv
  obtain ⟨rfl, hP, hK⟩ := hv
  have hx := B.exec
  have hb := B.bytes
  have hr := B.returns
  have hts : ∀ w ∈ kG, w.before _ s = true := fun w h => atoms_spec (ws := kT yX2_wearSpread cX2_wearSpread 4 (some .int)) B.pre w (List.mem_cons_of_mem _ h)
  have hown : s.vm.findClass RX2 = some m.cls := findClass_of_methodNamed B.named
  have hlocks := B.notSynchronized
  have hl := lv_entry ([.ref aM]) (n := 4) (Nat.le_of_ble_eq_true rfl)
  rw [lg_entry_eq]
  generalize (lg_sl ([.ref aM]) ++ List.replicate (4 - (lg_sl ([.ref aM])).length) Slot.unset).toArray = ls at hl ⊢
  have hl : lv_has ls 4 [(0, .ref aM)] := hl
  have L10 : ∀ (n : Nat)  (x1 : Int32) (x2 : Int32) (x3 : Int32) (ls : Array Slot), (∃ k : Nat, x3 = nI k ∧ k ≤ 16 ∧ 16 < k + n) → spX2_wearSpread er = lpX2_wearSpread_10 n er x1 x2 x3 → lv_has ls 4 [(0, .ref aM), (1, .int x1), (2, .int x2), (3, .int x3)] → W p l e (headSpec (kT yX2_wearSpread cX2_wearSpread 4 (some .int)) ({ frames := 2, cells := 0, slots := 0, locals := 43 })).room s m ([.ref aM] : List Value).toArray below meth c s.heap [] 0 0 (MQ below (vp_Si (fun r => r = spX2_wearSpread er)) ([.ref aM] : List Value).toArray s 0 0 (fun _ => False)) (F0 m 10 ls []) := by
    intro n
    induction n with
    | zero =>
      intro x1 x2 x3 ls hI
      exact absurd hI (by rintro ⟨k, -, h1, h2⟩; omega)
    | succ n ih =>
      intro x1 x2 x3 ls hI hE hl
      obtain ⟨k, hk, hk1, hk2⟩ := hI
      refine lv_iload_n hx hb dX2_wearSpread_10 rfl (lv_at hl 3 rfl) ?_
      refine lv_bipush (v := 16) hx hb dX2_wearSpread_11 (by decide) ?_
      refine lv_icmp_ge (tgt := 42) hx hb dX2_wearSpread_13 (by decide) (fun c_13 => ?_) (fun c_13 => ?_)
      · refine lv_iload_n hx hb dX2_wearSpread_42 rfl (lv_at hl 2 rfl) ?_
        refine lv_iload_n hx hb dX2_wearSpread_43 rfl (lv_at hl 1 rfl) ?_
        refine lv_isub hx hb dX2_wearSpread_44 ?_
        exact W.iret (v := (x2 - x1)) hx hb hr (fun t ht hW => ⟨(x2 - x1), rfl, (show _ = _ from (hE.trans (by rw [lpX2_wearSpread_10_e]; rw [if_pos c_13]) : spX2_wearSpread er = (x2 - x1)).symm), ht⟩) (fun q h => by cases h) dX2_wearSpread_45
      · refine lv_iload_n hx hb dX2_wearSpread_16 rfl (lv_at hl 1 rfl) ?_
        refine lv_aload_n hx hb dX2_wearSpread_17 rfl (lv_at hl 0 rfl) ?_
        refine lv_iload_n hx hb dX2_wearSpread_18 rfl (lv_at hl 3 rfl) ?_
        refine k_rdVi (As := [.int x3]) (rest := [.int x1]) (ci := 2) (q0 := 0) ⟨hx, hb, hml, hown, hts⟩ k_self (c_X2_erasesOf l D aM aw ae cA pw ce lf mq ct wd er x3) kv_X2_43 (hP.sub [0, 1, 2] rfl) (hK.sub [0] rfl) rfl rfl rfl rfl ⟨Nat.le_of_ble_eq_true rfl, Nat.le_of_ble_eq_true rfl⟩ rfl hl.1 rfl (Nat.le_of_ble_eq_true rfl) dX2_wearSpread_19 ⟨Nat.zero_le _, Nat.zero_le _⟩ ?_
        refine va_mmin hx hb (hml.trans hl.1.symm) hown (hts _ kw_453) (hts _ kw_47) (hts _ kw_30) (hts _ kw_48) (Nat.le_of_ble_eq_true rfl) (Nat.le_of_ble_eq_true rfl) (Nat.zero_le _) (Nat.zero_le _) dX2_wearSpread_22 ?_
        refine lv_istore_n (lv' := [(1, .int (if (spX2_erasesOf er x3) < x1 then (spX2_erasesOf er x3) else x1)), (0, .ref aM), (2, .int x2), (3, .int x3)]) hx hb dX2_wearSpread_25 rfl hl (by decide) rfl (fun ls hl => ?_)
        refine lv_iload_n hx hb dX2_wearSpread_26 rfl (lv_at hl 2 rfl) ?_
        refine lv_aload_n hx hb dX2_wearSpread_27 rfl (lv_at hl 1 rfl) ?_
        refine lv_iload_n hx hb dX2_wearSpread_28 rfl (lv_at hl 3 rfl) ?_
        refine k_rdVi (As := [.int x3]) (rest := [.int x2]) (ci := 2) (q0 := 0) ⟨hx, hb, hml, hown, hts⟩ k_self (c_X2_erasesOf l D aM aw ae cA pw ce lf mq ct wd er x3) kv_X2_43 (hP.sub [0, 1, 2] rfl) (hK.sub [0] rfl) rfl rfl rfl rfl ⟨Nat.le_of_ble_eq_true rfl, Nat.le_of_ble_eq_true rfl⟩ rfl hl.1 rfl (Nat.le_of_ble_eq_true rfl) dX2_wearSpread_29 ⟨Nat.zero_le _, Nat.zero_le _⟩ ?_
        refine va_mmax hx hb (hml.trans hl.1.symm) hown (hts _ kw_454) (hts _ kw_50) (hts _ kw_30) (hts _ kw_51) (Nat.le_of_ble_eq_true rfl) (Nat.le_of_ble_eq_true rfl) (Nat.zero_le _) (Nat.zero_le _) dX2_wearSpread_32 ?_
        refine lv_istore_n (lv' := [(2, .int (if x2 < (spX2_erasesOf er x3) then (spX2_erasesOf er x3) else x2)), (1, .int (if (spX2_erasesOf er x3) < x1 then (spX2_erasesOf er x3) else x1)), (0, .ref aM), (3, .int x3)]) hx hb dX2_wearSpread_35 rfl hl (by decide) rfl (fun ls hl => ?_)
        refine lv_iinc (v := (x3 + (1 : Int32))) (lv' := [(3, .int (x3 + (1 : Int32))), (2, .int (if x2 < (spX2_erasesOf er x3) then (spX2_erasesOf er x3) else x2)), (1, .int (if (spX2_erasesOf er x3) < x1 then (spX2_erasesOf er x3) else x1)), (0, .ref aM)]) hx hb dX2_wearSpread_36 hl (k := 3) rfl rfl (by decide) rfl (fun ls hl => ?_)
        refine lv_goto (tgt := 10) hx hb dX2_wearSpread_39 (by decide) ?_
        exact ih   (if (spX2_erasesOf er x3) < x1 then (spX2_erasesOf er x3) else x1) (if x2 < (spX2_erasesOf er x3) then (spX2_erasesOf er x3) else x2) (x3 + (1 : Int32)) ls (k_step (N := 16) rfl (by decide) hk hk1 hk2 c_13) (hE.trans (by rw [lpX2_wearSpread_10_e]; rw [if_neg c_13])) (lv_sub hl [3, 2, 1, 0] rfl)
  refine lv_aload_n hx hb dX2_wearSpread_0 rfl (lv_at hl 0 rfl) ?_
  refine lv_iconst (v := 0) hx hb dX2_wearSpread_1 (by decide) ?_
  refine k_rdVi (As := [.int (0 : Int32)]) (rest := []) (ci := 2) (q0 := 0) ⟨hx, hb, hml, hown, hts⟩ k_self (c_X2_erasesOf l D aM aw ae cA pw ce lf mq ct wd er (0 : Int32)) kv_X2_43 (hP.sub [0, 1, 2] rfl) (hK.sub [0] rfl) rfl rfl rfl rfl ⟨Nat.le_of_ble_eq_true rfl, Nat.le_of_ble_eq_true rfl⟩ rfl hl.1 rfl (Nat.le_of_ble_eq_true rfl) dX2_wearSpread_2 ⟨Nat.zero_le _, Nat.zero_le _⟩ ?_
  refine lv_istore_n (lv' := [(1, .int (spX2_erasesOf er (0 : Int32))), (0, .ref aM)]) hx hb dX2_wearSpread_5 rfl hl (by decide) rfl (fun ls hl => ?_)
  refine lv_iload_n hx hb dX2_wearSpread_6 rfl (lv_at hl 0 rfl) ?_
  refine lv_istore_n (lv' := [(2, .int (spX2_erasesOf er (0 : Int32))), (1, .int (spX2_erasesOf er (0 : Int32))), (0, .ref aM)]) hx hb dX2_wearSpread_7 rfl hl (by decide) rfl (fun ls hl => ?_)
  refine lv_iconst (v := 1) hx hb dX2_wearSpread_8 (by decide) ?_
  refine lv_istore_n (lv' := [(3, .int (1 : Int32)), (2, .int (spX2_erasesOf er (0 : Int32))), (1, .int (spX2_erasesOf er (0 : Int32))), (0, .ref aM)]) hx hb dX2_wearSpread_9 rfl hl (by decide) rfl (fun ls hl => ?_)
  exact L10 16  (spX2_erasesOf er (0 : Int32)) (spX2_erasesOf er (0 : Int32)) (1 : Int32) ls (⟨1, rfl, by decide, by decide⟩) (by unfold spX2_wearSpread; rfl) (lv_sub hl [3, 2, 1, 0] rfl)
def spX2_expectCut (ce : Int32) (lf : Int32) (mq : Int32) (p1 : Int32) (p2 : Int32) : Int32 × Int32 × Int32 := ((1 : Int32), p1, p2)
set_option maxHeartbeats 4000000 in
set_option maxRecDepth 100000 in
theorem c_X2_expectCut (l : Launch) (D : va_G) (aM aw ae : Nat) (cA : ClassId) (pw : Int32) (ce : Int32) (lf : Int32) (mq : Int32) (ct : Int32) (wd : Nat → Int32) (er : Nat → Int32) (p1 : Int32) (p2 : Int32)  : kWv l yX2_expectCut cX2_expectCut 3 none { frames := 0, cells := 0, slots := 0, locals := 0 } D [(cA, .int)] [.ref aM, .int p1, .int p2] (wM aM aw ae cA pw ce lf mq ct wd er) (wM aM aw ae cA pw (spX2_expectCut ce lf mq p1 p2).1 (spX2_expectCut ce lf mq p1 p2).2.1 (spX2_expectCut ce lf mq p1 p2).2.2 ct wd er) := by
  intro sz
  refine Met.ofW (cc := cX2_expectCut) (maxL := 3) (ret := none) (by decide) rfl ?_
  intro p e s m args below meth c s₁ B hml hv
  obtain ⟨rfl, hsz, hP, hK, hD0⟩ := hv
  have hx := B.exec
  have hb := B.bytes
  have hr := B.returns
  have hts : ∀ w ∈ kG, w.before _ s = true := fun w h => atoms_spec (ws := kT yX2_expectCut cX2_expectCut 3 none) B.pre w (List.mem_cons_of_mem _ h)
  have hown : s.vm.findClass RX2 = some m.cls := findClass_of_methodNamed B.named
  have hlocks := B.notSynchronized
  subst hsz
  have hD := hD0.self (sz := s.heap.size)
  generalize hAe : va_A (wM aM aw ae cA pw ce lf mq ct wd er) s.heap.size = A at hD ⊢
  have hA : ∀ q : Nat, s.heap.size ≤ q → A q := fun q h => by rw [← hAe]; exact Or.inr h
  have hS : va_S A s.heap s.heap [] := va_S.rf
  have hl := lv_entry ([.ref aM, .int p1, .int p2]) (n := 3) (Nat.le_of_ble_eq_true rfl)
  rw [lg_entry_eq]
  generalize (lg_sl ([.ref aM, .int p1, .int p2]) ++ List.replicate (3 - (lg_sl ([.ref aM, .int p1, .int p2])).length) Slot.unset).toArray = ls at hl ⊢
  have hl : lv_has ls 3 [(0, .ref aM), (1, .int p1), (2, .int p2)] := hl
  refine lv_aload_n hx hb dX2_expectCut_0 rfl (lv_at hl 0 rfl) ?_
  refine lv_iconst (v := 1) hx hb dX2_expectCut_1 (by decide) ?_
  refine va_put (D := D) (ci := 2) (v := .int (1 : Int32)) (ty := .boolean) (C := RX2) (T := TX2) (N := 7) hx hb hts k_inX2 tyX2 tyX2_ok nmX2 hown hK hP hD hS 0 rfl rfl 3 (by decide) (hts _ kw_78) (fun _ h9 => h9) rfl (by decide +kernel) rfl rfl (Nat.le_of_ble_eq_true rfl) dX2_expectCut_2 (fun H locs hP hD hS => ?_)
  have hP : va_P D vwCl (wM aM aw ae cA pw (1 : Int32) lf mq ct wd er) H := hP
  have hD : va_D A (wM aM aw ae cA pw (1 : Int32) lf mq ct wd er) := hD
  refine lv_aload_n hx hb dX2_expectCut_5 rfl (lv_at hl 0 rfl) ?_
  refine lv_iload_n hx hb dX2_expectCut_6 rfl (lv_at hl 1 rfl) ?_
  refine va_put (D := D) (ci := 2) (v := .int p1) (ty := .int) (C := RX2) (T := TX2) (N := 7) hx hb hts k_inX2 tyX2 tyX2_ok nmX2 hown hK hP hD hS 0 rfl rfl 4 (by decide) (hts _ kw_79) (fun _ h9 => h9) rfl (by decide +kernel) rfl rfl (Nat.le_of_ble_eq_true rfl) dX2_expectCut_7 (fun H locs hP hD hS => ?_)
  have hP : va_P D vwCl (wM aM aw ae cA pw (1 : Int32) p1 mq ct wd er) H := hP
  have hD : va_D A (wM aM aw ae cA pw (1 : Int32) p1 mq ct wd er) := hD
  refine lv_aload_n hx hb dX2_expectCut_10 rfl (lv_at hl 0 rfl) ?_
  refine lv_iload_n hx hb dX2_expectCut_11 rfl (lv_at hl 2 rfl) ?_
  refine va_put (D := D) (ci := 2) (v := .int p2) (ty := .int) (C := RX2) (T := TX2) (N := 7) hx hb hts k_inX2 tyX2 tyX2_ok nmX2 hown hK hP hD hS 0 rfl rfl 5 (by decide) (hts _ kw_80) (fun _ h9 => h9) rfl (by decide +kernel) rfl rfl (Nat.le_of_ble_eq_true rfl) dX2_expectCut_12 (fun H locs hP hD hS => ?_)
  have hP : va_P D vwCl (wM aM aw ae cA pw (1 : Int32) p1 p2 ct wd er) H := hP
  have hD : va_D A (wM aM aw ae cA pw (1 : Int32) p1 p2 ct wd er) := hD
  have hE : spX2_expectCut ce lf mq p1 p2 = ((1 : Int32), p1, p2) := by unfold spX2_expectCut; rfl
  exact W.vret hx hb hr (fun t ht hW => ⟨⟨(), rfl, trivial, by rw [hE, ht]; exact hP, va_K.moved hW.alike hK, by rw [hE]; exact hD⟩, hS.F ht⟩) hS.2.2 dX2_expectCut_15
def spX2_cutsSuffered (ct : Int32) : Int32 := ct
set_option maxHeartbeats 4000000 in
set_option maxRecDepth 100000 in
theorem c_X2_cutsSuffered (l : Launch) (D : va_G) (aM aw ae : Nat) (cA : ClassId) (pw : Int32) (ce : Int32) (lf : Int32) (mq : Int32) (ct : Int32) (wd : Nat → Int32) (er : Nat → Int32)   : kRi l yX2_cutsSuffered cX2_cutsSuffered 1 (some .int) { frames := 0, cells := 0, slots := 0, locals := 0 } [.ref aM] (kB D (wM aM aw ae cA pw ce lf mq ct wd er) [(cA, .int)]) (spX2_cutsSuffered ct) := by
  refine Met.ofW (cc := cX2_cutsSuffered) (maxL := 1) (ret := (some .int)) (by decide) rfl ?_
  intro p e s m args below meth c s₁ B hml hv
  obtain ⟨rfl, hP, hK⟩ := hv
  have hx := B.exec
  have hb := B.bytes
  have hr := B.returns
  have hts : ∀ w ∈ kG, w.before _ s = true := fun w h => atoms_spec (ws := kT yX2_cutsSuffered cX2_cutsSuffered 1 (some .int)) B.pre w (List.mem_cons_of_mem _ h)
  have hown : s.vm.findClass RX2 = some m.cls := findClass_of_methodNamed B.named
  have hlocks := B.notSynchronized
  have hl := lv_entry ([.ref aM]) (n := 1) (Nat.le_of_ble_eq_true rfl)
  rw [lg_entry_eq]
  generalize (lg_sl ([.ref aM]) ++ List.replicate (1 - (lg_sl ([.ref aM])).length) Slot.unset).toArray = ls at hl ⊢
  have hl : lv_has ls 1 [(0, .ref aM)] := hl
  refine lv_aload_n hx hb dX2_cutsSuffered_0 rfl (lv_at hl 0 rfl) ?_
  refine va_get (D := D) (ci := 2) (v := .int ct) (C := RX2) (T := TX2) (N := 7) hx hb hts k_inX2 hown hK hP 0 rfl rfl 6 (by decide) (hts _ kw_81) (fun _ h9 => h9) rfl dX2_cutsSuffered_1 ?_
  exact W.iret (v := ct) hx hb hr (fun t ht hW => ⟨ct, rfl, (show _ = _ from (by unfold spX2_cutsSuffered; rfl : spX2_cutsSuffered ct = ct).symm), ht⟩) (fun q h => by cases h) dX2_cutsSuffered_4
def spX2_hasPower (pw : Int32) : Int32 := pw
set_option maxHeartbeats 4000000 in
set_option maxRecDepth 100000 in
theorem c_X2_hasPower (l : Launch) (D : va_G) (aM aw ae : Nat) (cA : ClassId) (pw : Int32) (ce : Int32) (lf : Int32) (mq : Int32) (ct : Int32) (wd : Nat → Int32) (er : Nat → Int32)  (hpw : pw = 0 ∨ pw = 1) : kRi l yX2_hasPower cX2_hasPower 1 (some .boolean) { frames := 0, cells := 0, slots := 0, locals := 0 } [.ref aM] (kB D (wM aM aw ae cA pw ce lf mq ct wd er) [(cA, .int)]) (spX2_hasPower pw) := by
  refine Met.ofW (cc := cX2_hasPower) (maxL := 1) (ret := (some .boolean)) (by decide) rfl ?_
  intro p e s m args below meth c s₁ B hml hv
  obtain ⟨rfl, hP, hK⟩ := hv
  have hx := B.exec
  have hb := B.bytes
  have hr := B.returns
  have hts : ∀ w ∈ kG, w.before _ s = true := fun w h => atoms_spec (ws := kT yX2_hasPower cX2_hasPower 1 (some .boolean)) B.pre w (List.mem_cons_of_mem _ h)
  have hown : s.vm.findClass RX2 = some m.cls := findClass_of_methodNamed B.named
  have hlocks := B.notSynchronized
  have hl := lv_entry ([.ref aM]) (n := 1) (Nat.le_of_ble_eq_true rfl)
  rw [lg_entry_eq]
  generalize (lg_sl ([.ref aM]) ++ List.replicate (1 - (lg_sl ([.ref aM])).length) Slot.unset).toArray = ls at hl ⊢
  have hl : lv_has ls 1 [(0, .ref aM)] := hl
  refine lv_aload_n hx hb dX2_hasPower_0 rfl (lv_at hl 0 rfl) ?_
  refine va_get (D := D) (ci := 2) (v := .int pw) (C := RX2) (T := TX2) (N := 7) hx hb hts k_inX2 hown hK hP 0 rfl rfl 2 (by decide) (hts _ kw_77) (fun _ h9 => h9) rfl dX2_hasPower_1 ?_
  exact W.zret (v := pw) hx hb hr (k_bool hpw) (fun t ht hW => ⟨pw, rfl, (show _ = _ from (by unfold spX2_hasPower; rfl : spX2_hasPower pw = pw).symm), ht⟩) (fun q h => by cases h) dX2_hasPower_4
def spX2_restorePower (pw : Int32) : Int32 := (1 : Int32)
set_option maxHeartbeats 4000000 in
set_option maxRecDepth 100000 in
theorem c_X2_restorePower (l : Launch) (D : va_G) (aM aw ae : Nat) (cA : ClassId) (pw : Int32) (ce : Int32) (lf : Int32) (mq : Int32) (ct : Int32) (wd : Nat → Int32) (er : Nat → Int32)   : kWv l yX2_restorePower cX2_restorePower 1 none { frames := 0, cells := 0, slots := 0, locals := 0 } D [(cA, .int)] [.ref aM] (wM aM aw ae cA pw ce lf mq ct wd er) (wM aM aw ae cA (spX2_restorePower pw) ce lf mq ct wd er) := by
  intro sz
  refine Met.ofW (cc := cX2_restorePower) (maxL := 1) (ret := none) (by decide) rfl ?_
  intro p e s m args below meth c s₁ B hml hv
  obtain ⟨rfl, hsz, hP, hK, hD0⟩ := hv
  have hx := B.exec
  have hb := B.bytes
  have hr := B.returns
  have hts : ∀ w ∈ kG, w.before _ s = true := fun w h => atoms_spec (ws := kT yX2_restorePower cX2_restorePower 1 none) B.pre w (List.mem_cons_of_mem _ h)
  have hown : s.vm.findClass RX2 = some m.cls := findClass_of_methodNamed B.named
  have hlocks := B.notSynchronized
  subst hsz
  have hD := hD0.self (sz := s.heap.size)
  generalize hAe : va_A (wM aM aw ae cA pw ce lf mq ct wd er) s.heap.size = A at hD ⊢
  have hA : ∀ q : Nat, s.heap.size ≤ q → A q := fun q h => by rw [← hAe]; exact Or.inr h
  have hS : va_S A s.heap s.heap [] := va_S.rf
  have hl := lv_entry ([.ref aM]) (n := 1) (Nat.le_of_ble_eq_true rfl)
  rw [lg_entry_eq]
  generalize (lg_sl ([.ref aM]) ++ List.replicate (1 - (lg_sl ([.ref aM])).length) Slot.unset).toArray = ls at hl ⊢
  have hl : lv_has ls 1 [(0, .ref aM)] := hl
  refine lv_aload_n hx hb dX2_restorePower_0 rfl (lv_at hl 0 rfl) ?_
  refine lv_iconst (v := 1) hx hb dX2_restorePower_1 (by decide) ?_
  refine va_put (D := D) (ci := 2) (v := .int (1 : Int32)) (ty := .boolean) (C := RX2) (T := TX2) (N := 7) hx hb hts k_inX2 tyX2 tyX2_ok nmX2 hown hK hP hD hS 0 rfl rfl 2 (by decide) (hts _ kw_77) (fun _ h9 => h9) rfl (by decide +kernel) rfl rfl (Nat.le_of_ble_eq_true rfl) dX2_restorePower_2 (fun H locs hP hD hS => ?_)
  have hP : va_P D vwCl (wM aM aw ae cA (1 : Int32) ce lf mq ct wd er) H := hP
  have hD : va_D A (wM aM aw ae cA (1 : Int32) ce lf mq ct wd er) := hD
  have hE : spX2_restorePower pw = (1 : Int32) := by unfold spX2_restorePower; rfl
  exact W.vret hx hb hr (fun t ht hW => ⟨⟨(), rfl, trivial, by rw [hE, ht]; exact hP, va_K.moved hW.alike hK, by rw [hE]; exact hD⟩, hS.F ht⟩) hS.2.2 dX2_restorePower_5
