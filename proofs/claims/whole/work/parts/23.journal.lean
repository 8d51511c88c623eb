def spX1_recordAt (p1 : Int32) : Int32 := ((194 : Int32) + (p1 * (5 : Int32)))
set_option maxHeartbeats 4000000 in
set_option maxRecDepth 100000 in
theorem c_X1_recordAt (l : Launch) (p1 : Int32) : kRi l yX1_recordAt cX1_recordAt 1 (some .int) { frames := 0, cells := 0, slots := 0, locals := 0 } [.int p1] (fun _ => True) (spX1_recordAt p1) := by
  refine Met.ofW (cc := cX1_recordAt) (maxL := 1) (ret := (some .int)) (by decide) rfl ?_
  intro p e s m args below meth c s₁ B hml hv
  obtain ⟨rfl, -⟩ := hv
  have hx := B.exec
  have hb := B.bytes
  have hr := B.returns
  have hts : ∀ w ∈ kG, w.before _ s = true := fun w h => atoms_spec (ws := kT yX1_recordAt cX1_recordAt 1 (some .int)) B.pre w (List.mem_cons_of_mem _ h)
  have hown : s.vm.findClass RX1 = some m.cls := findClass_of_methodNamed B.named
  have hlocks := B.notSynchronized
  have hl := lv_entry ([.int p1]) (n := 1) (Nat.le_of_ble_eq_true rfl)
  rw [lg_entry_eq]
  generalize (lg_sl ([.int p1]) ++ List.replicate (1 - (lg_sl ([.int p1])).length) Slot.unset).toArray = ls at hl ⊢
  have hl : lv_has ls 1 [(0, .int p1)] := hl
  refine lv_sipush (v := 194) hx hb dX1_recordAt_0 (by decide) ?_
  refine lv_iload_n hx hb dX1_recordAt_3 rfl (lv_at hl 0 rfl) ?_
  refine lv_iconst (v := 5) hx hb dX1_recordAt_4 (by decide) ?_
  refine lv_imul hx hb dX1_recordAt_5 ?_
  refine lv_iadd hx hb dX1_recordAt_6 ?_
  exact W.iret (v := ((194 : Int32) + (p1 * (5 : Int32)))) hx hb hr (fun t ht hW => ⟨((194 : Int32) + (p1 * (5 : Int32))), rfl, (show _ = _ from (by unfold spX1_recordAt; rfl : spX1_recordAt p1 = ((194 : Int32) + (p1 * (5 : Int32)))).symm), ht⟩) (fun q h => by cases h) dX1_recordAt_7
def spX1_lastNumber (la : Int32) : Int32 := la
set_option maxHeartbeats 4000000 in
set_option maxRecDepth 100000 in
theorem c_X1_lastNumber (l : Launch) (D : va_G) (aJ aM aw ae aB ab : Nat) (cA : ClassId) (sc : Int32) (rc : Int32) (la : Int32) (pw : Int32) (ce : Int32) (lf : Int32) (mq : Int32) (ct : Int32) (wd : Nat → Int32) (er : Nat → Int32) (bw : Nat → Int32)   : kRi l yX1_lastNumber cX1_lastNumber 1 (some .int) { frames := 0, cells := 0, slots := 0, locals := 0 } [.ref aJ] (kB D (wJ aJ aM aw ae aB ab cA sc rc la pw ce lf mq ct wd er bw) [(cA, .int)]) (spX1_lastNumber la) := by
  refine Met.ofW (cc := cX1_lastNumber) (maxL := 1) (ret := (some .int)) (by decide) rfl ?_
  intro p e s m args below meth c s₁ B hml hv
  obtain ⟨rfl, hP, hK⟩ := hv
  have hx := B.exec
  have hb := B.bytes
  have hr := B.returns
  have hts : ∀ w ∈ kG, w.before _ s = true := fun w h => atoms_spec (ws := kT yX1_lastNumber cX1_lastNumber 1 (some .int)) B.pre w (List.mem_cons_of_mem _ h)
  have hown : s.vm.findClass RX1 = some m.cls := findClass_of_methodNamed B.named
  have hlocks := B.notSynchronized
  have hl := lv_entry ([.ref aJ]) (n := 1) (Nat.le_of_ble_eq_true rfl)
  rw [lg_entry_eq]
  generalize (lg_sl ([.ref aJ]) ++ List.replicate (1 - (lg_sl ([.ref aJ])).length) Slot.unset).toArray = ls at hl ⊢
  have hl : lv_has ls 1 [(0, .ref aJ)] := hl
  refine lv_aload_n hx hb dX1_lastNumber_0 rfl (lv_at hl 0 rfl) ?_
  refine va_get (D := D) (ci := 1) (v := .int la) (C := RX1) (T := TX1) (N := 5) hx hb hts k_inX1 hown hK hP 0 rfl rfl 4 (by decide) (hts _ kw_158) (fun _ h9 => h9) rfl dX1_lastNumber_1 ?_
  exact W.iret (v := la) hx hb hr (fun t ht hW => ⟨la, rfl, (show _ = _ from (by unfold spX1_lastNumber; rfl : spX1_lastNumber la = la).symm), ht⟩) (fun q h => by cases h) dX1_lastNumber_4
def spX1_hasRoom (sc : Int32) (rc : Int32) (wd : Nat → Int32) : Int32 := (if (12 : Int32) ≤ rc then (0 : Int32) else (if (spX2_areBlank wd sc (spX1_recordAt rc) (5 : Int32)) = 0 then (0 : Int32) else (1 : Int32)))
set_option maxHeartbeats 4000000 in
set_option maxRecDepth 100000 in
theorem c_X1_hasRoom (l : Launch) (D : va_G) (aJ aM aw ae aB ab : Nat) (cA : ClassId) (sc : Int32) (rc : Int32) (la : Int32) (pw : Int32) (ce : Int32) (lf : Int32) (mq : Int32) (ct : Int32) (wd : Nat → Int32) (er : Nat → Int32) (bw : Nat → Int32)   : kRi l yX1_hasRoom cX1_hasRoom 1 (some .boolean) { frames := 3, cells := 0, slots := 0, locals := 68 } [.ref aJ] (kB D (wJ aJ aM aw ae aB ab cA sc rc la pw ce lf mq ct wd er bw) [(cA, .int)]) (spX1_hasRoom sc rc wd) := by
  refine Met.ofW (cc := cX1_hasRoom) (maxL := 1) (ret := (some .boolean)) (by decide) rfl ?_
  intro p e s m args below meth c s₁ B hml hv
  obtain ⟨rfl, hP, hK⟩ := hv
  have hx := B.exec
  have hb := B.bytes
  have hr := B.returns
  have hts : ∀ w ∈ kG, w.before _ s = true := fun w h => atoms_spec (ws := kT yX1_hasRoom cX1_hasRoom 1 (some .boolean)) B.pre w (List.mem_cons_of_mem _ h)
  have hown : s.vm.findClass RX1 = some m.cls := findClass_of_methodNamed B.named
  have hlocks := B.notSynchronized
  have hl := lv_entry ([.ref aJ]) (n := 1) (Nat.le_of_ble_eq_true rfl)
  rw [lg_entry_eq]
  generalize (lg_sl ([.ref aJ]) ++ List.replicate (1 - (lg_sl ([.ref aJ])).length) Slot.unset).toArray = ls at hl ⊢
  have hl : lv_has ls 1 [(0, .ref aJ)] := hl
  refine lv_aload_n hx hb dX1_hasRoom_0 rfl (lv_at hl 0 rfl) ?_
  refine va_get (D := D) (ci := 1) (v := .int rc) (C := RX1) (T := TX1) (N := 5) hx hb hts k_inX1 hown hK hP 0 rfl rfl 3 (by decide) (hts _ kw_157) (fun _ h9 => h9) rfl dX1_hasRoom_1 ?_
  refine lv_bipush (v := 12) hx hb dX1_hasRoom_4 (by decide) ?_
  refine lv_icmp_ge (tgt := 35) hx hb dX1_hasRoom_6 (by decide) (fun c_6 => ?_) (fun c_6 => ?_)
  · refine lv_iconst (v := 0) hx hb dX1_hasRoom_35 (by decide) ?_
    exact W.zret (v := (0 : Int32)) hx hb hr rfl (fun t ht hW => ⟨(0 : Int32), rfl, (show _ = _ from (by unfold spX1_hasRoom; rw [if_pos c_6] : spX1_hasRoom sc rc wd = (0 : Int32)).symm), ht⟩) (fun q h => by cases h) dX1_hasRoom_36
  · refine lv_aload_n hx hb dX1_hasRoom_9 rfl (lv_at hl 0 rfl) ?_
    refine va_get (D := D) (ci := 1) (v := .ref aM) (C := RX1) (T := TX1) (N := 5) hx hb hts k_inX1 hown hK hP 0 rfl rfl 0 (by decide) (hts _ kw_154) (fun _ h9 => h9) rfl dX1_hasRoom_10 ?_
    refine lv_aload_n hx hb dX1_hasRoom_13 rfl (lv_at hl 0 rfl) ?_
    refine va_get (D := D) (ci := 1) (v := .int sc) (C := RX1) (T := TX1) (N := 5) hx hb hts k_inX1 hown hK hP 0 rfl rfl 2 (by decide) (hts _ kw_156) (fun _ h9 => h9) rfl dX1_hasRoom_14 ?_
    refine lv_aload_n hx hb dX1_hasRoom_17 rfl (lv_at hl 0 rfl) ?_
    refine va_get (D := D) (ci := 1) (v := .int rc) (C := RX1) (T := TX1) (N := 5) hx hb hts k_inX1 hown hK hP 0 rfl rfl 3 (by decide) (hts _ kw_157) (fun _ h9 => h9) rfl dX1_hasRoom_18 ?_
    refine k_rdSi (As := [.int rc]) (rest := [.int sc, .ref aM]) ⟨hx, hb, hml, hown, hts⟩ k_self (c_X1_recordAt l rc) kv_X1_45 rfl rfl ⟨Nat.le_of_ble_eq_true rfl, Nat.le_of_ble_eq_true rfl⟩ rfl hl.1 rfl (Nat.le_of_ble_eq_true rfl) dX1_hasRoom_21 ⟨Nat.zero_le _, Nat.zero_le _⟩ ?_
    refine lv_iconst (v := 5) hx hb dX1_hasRoom_24 (by decide) ?_
    refine k_rdVi (As := [.int sc, .int (spX1_recordAt rc), .int (5 : Int32)]) (rest := []) (ci := 2) (q0 := 0) ⟨hx, hb, hml, hown, hts⟩ k_self (c_X2_areBlank l D aM aw ae cA pw ce lf mq ct wd er sc (spX1_recordAt rc) (5 : Int32)) kv_X1_73 (hP.sub [1, 2, 3] rfl) (hK.sub [0] rfl) rfl rfl rfl rfl ⟨Nat.le_of_ble_eq_true rfl, Nat.le_of_ble_eq_true rfl⟩ rfl hl.1 rfl (Nat.le_of_ble_eq_true rfl) dX1_hasRoom_25 ⟨Nat.zero_le _, Nat.zero_le _⟩ ?_
    refine lv_if_eq (tgt := 35) hx hb dX1_hasRoom_28 (by decide) (fun c_28 => ?_) (fun c_28 => ?_)
    · refine lv_iconst (v := 0) hx hb dX1_hasRoom_35 (by decide) ?_
      exact W.zret (v := (0 : Int32)) hx hb hr rfl (fun t ht hW => ⟨(0 : Int32), rfl, (show _ = _ from (by unfold spX1_hasRoom; rw [if_neg c_6, if_pos c_28] : spX1_hasRoom sc rc wd = (0 : Int32)).symm), ht⟩) (fun q h => by cases h) dX1_hasRoom_36
    · refine lv_iconst (v := 1) hx hb dX1_hasRoom_31 (by decide) ?_
      refine lv_goto (tgt := 36) hx hb dX1_hasRoom_32 (by decide) ?_
      exact W.zret (v := (1 : Int32)) hx hb hr rfl (fun t ht hW => ⟨(1 : Int32), rfl, (show _ = _ from (by unfold spX1_hasRoom; rw [if_neg c_6, if_neg c_28] : spX1_hasRoom sc rc wd = (1 : Int32)).symm), ht⟩) (fun q h => by cases h) dX1_hasRoom_36
def lpX1_writeBooks_2 : Nat → Int32 → Int32 → Int32 → Int32 → (Nat → Int32) → (Nat → Int32) → Int32 → Int32 → (Int32 × Int32 × Int32 × Int32 × Int32 × (Nat → Int32))
  | 0, pw1, ce1, lf1, ct1, wd1, _, _, _ => (0, pw1, ce1, lf1, ct1, wd1)
  | n + 1, pw1, ce1, lf1, ct1, wd1, bw, x1, x2 => (if (191 : Int32) ≤ x2 then ((1 : Int32), pw1, ce1, lf1, ct1, wd1) else (match spX2_write pw1 ce1 lf1 ct1 wd1 x1 ((2 : Int32) + x2) (spX0_at bw x2) with | (r_25, pw_25, ce_25, lf_25, ct_25, wd_25) => (if r_25 = 0 then ((0 : Int32), pw_25, ce_25, lf_25, ct_25, wd_25) else (lpX1_writeBooks_2 n pw_25 ce_25 lf_25 ct_25 wd_25 bw  x1 (x2 + (1 : Int32))))))
theorem lpX1_writeBooks_2_e (n : Nat) (pw1 : Int32) (ce1 : Int32) (lf1 : Int32) (ct1 : Int32) (wd1 : Nat → Int32) (bw : Nat → Int32) (x1 : Int32) (x2 : Int32) : lpX1_writeBooks_2 (n + 1) pw1 ce1 lf1 ct1 wd1 bw x1 x2 = (if (191 : Int32) ≤ x2 then ((1 : Int32), pw1, ce1, lf1, ct1, wd1) else (match spX2_write pw1 ce1 lf1 ct1 wd1 x1 ((2 : Int32) + x2) (spX0_at bw x2) with | (r_25, pw_25, ce_25, lf_25, ct_25, wd_25) => (if r_25 = 0 then ((0 : Int32), pw_25, ce_25, lf_25, ct_25, wd_25) else (lpX1_writeBooks_2 n pw_25 ce_25 lf_25 ct_25 wd_25 bw  x1 (x2 + (1 : Int32)))))) := rfl
def spX1_writeBooks (pw : Int32) (ce : Int32) (lf : Int32) (ct : Int32) (wd : Nat → Int32) (bw : Nat → Int32) (p1 : Int32) : Int32 × Int32 × Int32 × Int32 × Int32 × (Nat → Int32) := (lpX1_writeBooks_2 192 pw ce lf ct wd bw  p1 (0 : Int32))
set_option maxHeartbeats 4000000 in
set_option maxRecDepth 100000 in
theorem c_X1_writeBooks (l : Launch) (D : va_G) (aJ aM aw ae aB ab : Nat) (cA : ClassId) (sc : Int32) (rc : Int32) (la : Int32) (pw : Int32) (ce : Int32) (lf : Int32) (mq : Int32) (ct : Int32) (wd : Nat → Int32) (er : Nat → Int32) (bw : Nat → Int32) (p1 : Int32)  : kWi l yX1_writeBooks cX1_writeBooks 3 (some .boolean) { frames := 2, cells := 0, slots := 0, locals := 45 } D [(cA, .int)] [.ref aJ, .int p1] (wJ aJ aM aw ae aB ab cA sc rc la pw ce lf mq ct wd er bw) (spX1_writeBooks pw ce lf ct wd bw p1).1 (wJ aJ aM aw ae aB ab cA sc rc la (spX1_writeBooks pw ce lf ct wd bw p1).2.1 (spX1_writeBooks pw ce lf ct wd bw p1).2.2.1 (spX1_writeBooks pw ce lf ct wd bw p1).2.2.2.1 mq (spX1_writeBooks pw ce lf ct wd bw p1).2.2.2.2.1 (spX1_writeBooks pw ce lf ct wd bw p1).2.2.2.2.2 er bw) := by
  intro sz
  refine Met.ofW (cc := cX1_writeBooks) (maxL := 3) (ret := (some .boolean)) (by decide) rfl ?_
  intro p e s m args below meth c s₁ B hml hv
  obtain ⟨rfl, hsz, hP, hK, hD0⟩ := hv
  have hx := B.exec
  have hb := B.bytes
  have hr := B.returns
  have hts : ∀ w ∈ kG, w.before _ s = true := fun w h => atoms_spec (ws := kT yX1_writeBooks cX1_writeBooks 3 (some .boolean)) B.pre w (List.mem_cons_of_mem _ h)
  have hown : s.vm.findClass RX1 = some m.cls := findClass_of_methodNamed B.named
  have hlocks := B.notSynchronized
  subst hsz
  have hD := hD0.self (sz := s.heap.size)
  generalize hAe : va_A (wJ aJ aM aw ae aB ab cA sc rc la pw ce lf mq ct wd er bw) s.heap.size = A at hD ⊢
  have hA : ∀ q : Nat, s.heap.size ≤ q → A q := fun q h => by rw [← hAe]; exact Or.inr h
  have hS : va_S A s.heap s.heap [] := va_S.rf
  have hl := lv_entry ([.ref aJ, .int p1]) (n := 3) (Nat.le_of_ble_eq_true rfl)
  rw [lg_entry_eq]
  generalize (lg_sl ([.ref aJ, .int p1]) ++ List.replicate (3 - (lg_sl ([.ref aJ, .int p1])).length) Slot.unset).toArray = ls at hl ⊢
  have hl : lv_has ls 3 [(0, .ref aJ), (1, .int p1)] := hl
  have L2 : ∀ (n : Nat) (pw1 : Int32) (ce1 : Int32) (lf1 : Int32) (ct1 : Int32) (wd1 : Nat → Int32) (x1 : Int32) (x2 : Int32) (H : Heap) (locs : List Loc) (ls : Array Slot), (∃ k : Nat, x2 = nI k ∧ k ≤ 191 ∧ 191 < k + n) → spX1_writeBooks pw ce lf ct wd bw p1 = lpX1_writeBooks_2 n pw1 ce1 lf1 ct1 wd1 bw x1 x2 → va_P D vwCl (wJ aJ aM aw ae aB ab cA sc rc la pw1 ce1 lf1 mq ct1 wd1 er bw) H → va_D A (wJ aJ aM aw ae aB ab cA sc rc la pw1 ce1 lf1 mq ct1 wd1 er bw) → va_S A s.heap H locs → lv_has ls 3 [(0, .ref aJ), (1, .int x1), (2, .int x2)] → W p l e (headSpec (kT yX1_writeBooks cX1_writeBooks 3 (some .boolean)) ({ frames := 2, cells := 0, slots := 0, locals := 45 })).room s m ([.ref aJ, .int p1] : List Value).toArray below meth c H locs 0 0 (MQ below (va_Qi (fun r (_ : Unit) => r = (spX1_writeBooks pw ce lf ct wd bw p1).1) (kPost D A (wJ aJ aM aw ae aB ab cA sc rc la (spX1_writeBooks pw ce lf ct wd bw p1).2.1 (spX1_writeBooks pw ce lf ct wd bw p1).2.2.1 (spX1_writeBooks pw ce lf ct wd bw p1).2.2.2.1 mq (spX1_writeBooks pw ce lf ct wd bw p1).2.2.2.2.1 (spX1_writeBooks pw ce lf ct wd bw p1).2.2.2.2.2 er bw) [(cA, .int)]) A) ([.ref aJ, .int p1] : List Value).toArray s 0 0 A) (F0 m 2 ls []) := by
    intro n
    induction n with
    | zero =>
      intro pw1 ce1 lf1 ct1 wd1 x1 x2 H locs ls hI
      exact absurd hI (by rintro ⟨k, -, h1, h2⟩; omega)
    | succ n ih =>
      intro pw1 ce1 lf1 ct1 wd1 x1 x2 H locs ls hI hE hP hD hS hl
      obtain ⟨k, hk, hk1, hk2⟩ := hI
      refine lv_iload_n hx hb dX1_writeBooks_2 rfl (lv_at hl 2 rfl) ?_
      refine lv_sipush (v := 191) hx hb dX1_writeBooks_3 (by decide) ?_
      refine lv_icmp_ge (tgt := 39) hx hb dX1_writeBooks_6 (by decide) (fun c_6 => ?_) (fun c_6 => ?_)
      · refine lv_iconst (v := 1) hx hb dX1_writeBooks_39 (by decide) ?_
        have hE : spX1_writeBooks pw ce lf ct wd bw p1 = ((1 : Int32), pw1, ce1, lf1, ct1, wd1) := hE.trans (by rw [lpX1_writeBooks_2_e]; rw [if_pos c_6])
        exact W.zret (v := (1 : Int32)) hx hb hr rfl (fun t ht hW => ⟨⟨(1 : Int32), (), rfl, by rw [hE], by rw [hE, ht]; exact hP, va_K.moved hW.alike hK, by rw [hE]; exact hD⟩, hS.F ht⟩) hS.2.2 dX1_writeBooks_40
      · refine lv_aload_n hx hb dX1_writeBooks_9 rfl (lv_at hl 0 rfl) ?_
        refine va_get (D := D) (ci := 1) (v := .ref aM) (C := RX1) (T := TX1) (N := 5) hx hb hts k_inX1 hown hK hP 0 rfl rfl 0 (by decide) (hts _ kw_154) (fun _ h9 => h9) rfl dX1_writeBooks_10 ?_
        refine lv_iload_n hx hb dX1_writeBooks_13 rfl (lv_at hl 1 rfl) ?_
        refine lv_iconst (v := 2) hx hb dX1_writeBooks_14 (by decide) ?_
        refine lv_iload_n hx hb dX1_writeBooks_15 rfl (lv_at hl 2 rfl) ?_
        refine lv_iadd hx hb dX1_writeBooks_16 ?_
        refine lv_aload_n hx hb dX1_writeBooks_17 rfl (lv_at hl 0 rfl) ?_
        refine va_get (D := D) (ci := 1) (v := .ref aB) (C := RX1) (T := TX1) (N := 5) hx hb hts k_inX1 hown hK hP 0 rfl rfl 1 (by decide) (hts _ kw_155) (fun _ h9 => h9) rfl dX1_writeBooks_18 ?_
        refine lv_iload_n hx hb dX1_writeBooks_21 rfl (lv_at hl 2 rfl) ?_
        refine k_rdVi (As := [.int x2]) (rest := [.int ((2 : Int32) + x2), .int x1, .ref aM]) (ci := 0) (q0 := 0) ⟨hx, hb, hml, hown, hts⟩ k_self (c_X0_at l D aB ab cA bw x2) kv_X1_82 (hP.sub [4, 5] rfl) (hK.sub [0] rfl) rfl rfl rfl rfl ⟨Nat.le_of_ble_eq_true rfl, Nat.le_of_ble_eq_true rfl⟩ rfl hl.1 rfl (Nat.le_of_ble_eq_true rfl) dX1_writeBooks_22 ⟨Nat.zero_le _, Nat.zero_le _⟩ ?_
        rcases hq_25 : spX2_write pw1 ce1 lf1 ct1 wd1 x1 ((2 : Int32) + x2) (spX0_at bw x2) with ⟨r_25, pw_25, ce_25, lf_25, ct_25, wd_25⟩
        have hM_25 : kWi l yX2_write cX2_write 4 (some .boolean) { frames := 1, cells := 0, slots := 0, locals := 22 } D [(cA, .int)] [.ref aM, .int x1, .int ((2 : Int32) + x2), .int (spX0_at bw x2)] (wM aM aw ae cA pw1 ce1 lf1 mq ct1 wd1 er) r_25 (wM aM aw ae cA pw_25 ce_25 lf_25 mq ct_25 wd_25 er) := by
          have h := c_X2_write l D aM aw ae cA pw1 ce1 lf1 mq ct1 wd1 er x1 ((2 : Int32) + x2) (spX0_at bw x2)
          rw [hq_25] at h
          exact h
        refine k_wrVi (As := [.int x1, .int ((2 : Int32) + x2), .int (spX0_at bw x2)]) (rest := []) (ci := 2) (q0 := 0) (ws' := (wJ aJ aM aw ae aB ab cA sc rc la pw_25 ce_25 lf_25 mq ct_25 wd_25 er bw)) (wr := [(aJ, .inr (1, [.ref aM, .ref aB, .int sc, .int rc, .int la])), (aB, .inr (0, [.ref ab])), (ab, .inl (cA, 191, .inl bw))]) ⟨hx, hb, hml, hown, hts⟩ k_self hM_25 kv_X1_49 hP hD hS hA hK rfl rfl [1, 2, 3] [0, 4, 5] [0, 3, 4, 5, 1, 2] rfl (by decide) rfl (by decide) (by decide) rfl (by decide) rfl rfl ⟨Nat.le_of_ble_eq_true rfl, Nat.le_of_ble_eq_true rfl⟩ rfl hl.1 rfl (Nat.le_of_ble_eq_true rfl) dX1_writeBooks_25 ⟨Nat.zero_le _, Nat.zero_le _⟩ (fun H locs hP hD hS => ?_)
        refine lv_if_ne (tgt := 33) hx hb dX1_writeBooks_28 (by decide) (fun c_28 => ?_) (fun c_28 => ?_)
        · refine lv_iinc (v := (x2 + (1 : Int32))) (lv' := [(2, .int (x2 + (1 : Int32))), (0, .ref aJ), (1, .int x1)]) hx hb dX1_writeBooks_33 hl (k := 2) rfl rfl (by decide) rfl (fun ls hl => ?_)
          refine lv_goto (tgt := 2) hx hb dX1_writeBooks_36 (by decide) ?_
          exact ih  pw_25 ce_25 lf_25 ct_25 wd_25 x1 (x2 + (1 : Int32)) _ _ ls (k_step (N := 191) rfl (by decide) hk hk1 hk2 c_6) (hE.trans (by rw [lpX1_writeBooks_2_e]; rw [if_neg c_6]; rw [hq_25]; dsimp only; rw [if_neg c_28])) hP hD hS (lv_sub hl [1, 2, 0] rfl)
        · refine lv_iconst (v := 0) hx hb dX1_writeBooks_31 (by decide) ?_
          have hE : spX1_writeBooks pw ce lf ct wd bw p1 = ((0 : Int32), pw_25, ce_25, lf_25, ct_25, wd_25) := hE.trans (by rw [lpX1_writeBooks_2_e]; rw [if_neg c_6]; rw [hq_25]; dsimp only; rw [if_pos c_28])
          exact W.zret (v := (0 : Int32)) hx hb hr rfl (fun t ht hW => ⟨⟨(0 : Int32), (), rfl, by rw [hE], by rw [hE, ht]; exact hP, va_K.moved hW.alike hK, by rw [hE]; exact hD⟩, hS.F ht⟩) hS.2.2 dX1_writeBooks_32
  refine lv_iconst (v := 0) hx hb dX1_writeBooks_0 (by decide) ?_
  refine lv_istore_n (lv' := [(2, .int (0 : Int32)), (0, .ref aJ), (1, .int p1)]) hx hb dX1_writeBooks_1 rfl hl (by decide) rfl (fun ls hl => ?_)
  exact L2 192 pw ce lf ct wd p1 (0 : Int32) _ _ ls (⟨0, rfl, by decide, by decide⟩) (by unfold spX1_writeBooks; rfl) hP hD hS (lv_sub hl [1, 2, 0] rfl)
def spX1_startSector (sc : Int32) (rc : Int32) (la : Int32) (pw : Int32) (ce : Int32) (lf : Int32) (mq : Int32) (ct : Int32) (wd : Nat → Int32) (er : Nat → Int32) (bw : Nat → Int32) (p1 : Int32) (p2 : Int32) : Int32 × Int32 × Int32 × Int32 × Int32 × Int32 × Int32 × (Nat → Int32) × (Nat → Int32) := (match spX2_eraseSector pw ce lf mq ct wd er p1 with | (r_5, pw_5, ce_5, lf_5, ct_5, wd_5, er_5) => (if r_5 = 0 then ((0 : Int32), sc, rc, pw_5, ce_5, lf_5, ct_5, wd_5, er_5) else (match spX2_write pw_5 ce_5 lf_5 ct_5 wd_5 p1 (0 : Int32) p2 with | (r_18, pw_18, ce_18, lf_18, ct_18, wd_18) => (if r_18 = 0 then ((0 : Int32), sc, rc, pw_18, ce_18, lf_18, ct_18, wd_18, er_5) else (match spX2_write pw_18 ce_18 lf_18 ct_18 wd_18 p1 (1 : Int32) la with | (r_34, pw_34, ce_34, lf_34, ct_34, wd_34) => (if r_34 = 0 then ((0 : Int32), sc, rc, pw_34, ce_34, lf_34, ct_34, wd_34, er_5) else (match spX1_writeBooks pw_34 ce_34 lf_34 ct_34 wd_34 bw p1 with | (r_42, pw_42, ce_42, lf_42, ct_42, wd_42) => (if r_42 = 0 then ((0 : Int32), sc, rc, pw_42, ce_42, lf_42, ct_42, wd_42, er_5) else (match spX2_write pw_42 ce_42 lf_42 ct_42 wd_42 p1 (193 : Int32) (spX2_markOf wd_42 p1 (0 : Int32) (193 : Int32)) with | (r_68, pw_68, ce_68, lf_68, ct_68, wd_68) => (if r_68 = 0 then ((0 : Int32), sc, rc, pw_68, ce_68, lf_68, ct_68, wd_68, er_5) else ((1 : Int32), p1, (0 : Int32), pw_68, ce_68, lf_68, ct_68, wd_68, er_5)))))))))))
set_option maxHeartbeats 4000000 in
set_option maxRecDepth 100000 in
theorem c_X1_startSector (l : Launch) (D : va_G) (aJ aM aw ae aB ab : Nat) (cA : ClassId) (sc : Int32) (rc : Int32) (la : Int32) (pw : Int32) (ce : Int32) (lf : Int32) (mq : Int32) (ct : Int32) (wd : Nat → Int32) (er : Nat → Int32) (bw : Nat → Int32) (p1 : Int32) (p2 : Int32)  : kWi l yX1_startSector cX1_startSector 4 (some .boolean) { frames := 3, cells := 0, slots := 0, locals := 69 } D [(cA, .int)] [.ref aJ, .int p1, .int p2] (wJ aJ aM aw ae aB ab cA sc rc la pw ce lf mq ct wd er bw) (spX1_startSector sc rc la pw ce lf mq ct wd er bw p1 p2).1 (wJ aJ aM aw ae aB ab cA (spX1_startSector sc rc la pw ce lf mq ct wd er bw p1 p2).2.1 (spX1_startSector sc rc la pw ce lf mq ct wd er bw p1 p2).2.2.1 la (spX1_startSector sc rc la pw ce lf mq ct wd er bw p1 p2).2.2.2.1 (spX1_startSector sc rc la pw ce lf mq ct wd er bw p1 p2).2.2.2.2.1 (spX1_startSector sc rc la pw ce lf mq ct wd er bw p1 p2).2.2.2.2.2.1 mq (spX1_startSector sc rc la pw ce lf mq ct wd er bw p1 p2).2.2.2.2.2.2.1 (spX1_startSector sc rc la pw ce lf mq ct wd er bw p1 p2).2.2.2.2.2.2.2.1 (spX1_startSector sc rc la pw ce lf mq ct wd er bw p1 p2).2.2.2.2.2.2.2.2 bw) := by
  intro sz
  refine Met.ofW (cc := cX1_startSector) (maxL := 4) (ret := (some .boolean)) (by decide) rfl ?_
  intro p e s m args below meth c s₁ B hml hv
  obtain ⟨rfl, hsz, hP, hK, hD0⟩ := hv
  have hx := B.exec
  have hb := B.bytes
  have hr := B.returns
  have hts : ∀ w ∈ kG, w.before _ s = true := fun w h => atoms_spec (ws := kT yX1_startSector cX1_startSector 4 (some .boolean)) B.pre w (List.mem_cons_of_mem _ h)
  have hown : s.vm.findClass RX1 = some m.cls := findClass_of_methodNamed B.named
  have hlocks := B.notSynchronized
  subst hsz
  have hD := hD0.self (sz := s.heap.size)
  generalize hAe : va_A (wJ aJ aM aw ae aB ab cA sc rc la pw ce lf mq ct wd er bw) s.heap.size = A at hD ⊢
  have hA : ∀ q : Nat, s.heap.size ≤ q → A q := fun q h => by rw [← hAe]; exact Or.inr h
  have hS : va_S A s.heap s.heap [] := va_S.rf
  have hl := lv_entry ([.ref aJ, .int p1, .int p2]) (n := 4) (Nat.le_of_ble_eq_true rfl)
  rw [lg_entry_eq]
  generalize (lg_sl ([.ref aJ, .int p1, .int p2]) ++ List.replicate (4 - (lg_sl ([.ref aJ, .int p1, .int p2])).length) Slot.unset).toArray = ls at hl ⊢
  have hl : lv_has ls 4 [(0, .ref aJ), (1, .int p1), (2, .int p2)] := hl
  refine lv_aload_n hx hb dX1_startSector_0 rfl (lv_at hl 0 rfl) ?_
  refine va_get (D := D) (ci := 1) (v := .ref aM) (C := RX1) (T := TX1) (N := 5) hx hb hts k_inX1 hown hK hP 0 rfl rfl 0 (by decide) (hts _ kw_154) (fun _ h9 => h9) rfl dX1_startSector_1 ?_
  refine lv_iload_n hx hb dX1_startSector_4 rfl (lv_at hl 1 rfl) ?_
  rcases hq_5 : spX2_eraseSector pw ce lf mq ct wd er p1 with ⟨r_5, pw_5, ce_5, lf_5, ct_5, wd_5, er_5⟩
  have hM_5 : kWi l yX2_eraseSector cX2_eraseSector 5 (some .boolean) { frames := 1, cells := 0, slots := 0, locals := 22 } D [(cA, .int)] [.ref aM, .int p1] (wM aM aw ae cA pw ce lf mq ct wd er) r_5 (wM aM aw ae cA pw_5 ce_5 lf_5 mq ct_5 wd_5 er_5) := by
    have h := c_X2_eraseSector l D aM aw ae cA pw ce lf mq ct wd er p1
    rw [hq_5] at h
    exact h
  refine k_wrVi (As := [.int p1]) (rest := []) (ci := 2) (q0 := 0) (ws' := (wJ aJ aM aw ae aB ab cA sc rc la pw_5 ce_5 lf_5 mq ct_5 wd_5 er_5 bw)) (wr := [(aJ, .inr (1, [.ref aM, .ref aB, .int sc, .int rc, .int la])), (aB, .inr (0, [.ref ab])), (ab, .inl (cA, 191, .inl bw))]) ⟨hx, hb, hml, hown, hts⟩ k_self hM_5 kv_X1_76 hP hD hS hA hK rfl rfl [1, 2, 3] [0, 4, 5] [0, 3, 4, 5, 1, 2] rfl (by decide) rfl (by decide) (by decide) rfl (by decide) rfl rfl ⟨Nat.le_of_ble_eq_true rfl, Nat.le_of_ble_eq_true rfl⟩ rfl hl.1 rfl (Nat.le_of_ble_eq_true rfl) dX1_startSector_5 ⟨Nat.zero_le _, Nat.zero_le _⟩ (fun H locs hP hD hS => ?_)
  refine lv_if_eq (tgt := 78) hx hb dX1_startSector_8 (by decide) (fun c_8 => ?_) (fun c_8 => ?_)
  · refine lv_iconst (v := 0) hx hb dX1_startSector_78 (by decide) ?_
    refine lv_istore_n (lv' := [(3, .int (0 : Int32)), (0, .ref aJ), (1, .int p1), (2, .int p2)]) hx hb dX1_startSector_79 rfl hl (by decide) rfl (fun ls hl => ?_)
    refine lv_iload_n hx hb dX1_startSector_80 rfl (lv_at hl 0 rfl) ?_
    refine lv_if_eq (tgt := 94) hx hb dX1_startSector_81 (by decide) (fun c_81 => ?_) (fun c_81 => ?_)
    · refine lv_iload_n hx hb dX1_startSector_94 rfl (lv_at hl 0 rfl) ?_
      have hE : spX1_startSector sc rc la pw ce lf mq ct wd er bw p1 p2 = ((0 : Int32), sc, rc, pw_5, ce_5, lf_5, ct_5, wd_5, er_5) := by unfold spX1_startSector; rw [hq_5]; dsimp only; rw [if_pos c_8]
      exact W.zret (v := (0 : Int32)) hx hb hr rfl (fun t ht hW => ⟨⟨(0 : Int32), (), rfl, by rw [hE], by rw [hE, ht]; exact hP, va_K.moved hW.alike hK, by rw [hE]; exact hD⟩, hS.F ht⟩) hS.2.2 dX1_startSector_95
    · exact absurd c_81 (by decide)
  · refine lv_aload_n hx hb dX1_startSector_11 rfl (lv_at hl 0 rfl) ?_
    refine va_get (D := D) (ci := 1) (v := .ref aM) (C := RX1) (T := TX1) (N := 5) hx hb hts k_inX1 hown hK hP 0 rfl rfl 0 (by decide) (hts _ kw_154) (fun _ h9 => h9) rfl dX1_startSector_12 ?_
    refine lv_iload_n hx hb dX1_startSector_15 rfl (lv_at hl 1 rfl) ?_
    refine lv_iconst (v := 0) hx hb dX1_startSector_16 (by decide) ?_
    refine lv_iload_n hx hb dX1_startSector_17 rfl (lv_at hl 2 rfl) ?_
    rcases hq_18 : spX2_write pw_5 ce_5 lf_5 ct_5 wd_5 p1 (0 : Int32) p2 with ⟨r_18, pw_18, ce_18, lf_18, ct_18, wd_18⟩
    have hM_18 : kWi l yX2_write cX2_write 4 (some .boolean) { frames := 1, cells := 0, slots := 0, locals := 22 } D [(cA, .int)] [.ref aM, .int p1, .int (0 : Int32), .int p2] (wM aM aw ae cA pw_5 ce_5 lf_5 mq ct_5 wd_5 er_5) r_18 (wM aM aw ae cA pw_18 ce_18 lf_18 mq ct_18 wd_18 er_5) := by
      have h := c_X2_write l D aM aw ae cA pw_5 ce_5 lf_5 mq ct_5 wd_5 er_5 p1 (0 : Int32) p2
      rw [hq_18] at h
      exact h
    refine k_wrVi (As := [.int p1, .int (0 : Int32), .int p2]) (rest := []) (ci := 2) (q0 := 0) (ws' := (wJ aJ aM aw ae aB ab cA sc rc la pw_18 ce_18 lf_18 mq ct_18 wd_18 er_5 bw)) (wr := [(aJ, .inr (1, [.ref aM, .ref aB, .int sc, .int rc, .int la])), (aB, .inr (0, [.ref ab])), (ab, .inl (cA, 191, .inl bw))]) ⟨hx, hb, hml, hown, hts⟩ k_self hM_18 kv_X1_49 hP hD hS hA hK rfl rfl [1, 2, 3] [0, 4, 5] [0, 3, 4, 5, 1, 2] rfl (by decide) rfl (by decide) (by decide) rfl (by decide) rfl rfl ⟨Nat.le_of_ble_eq_true rfl, Nat.le_of_ble_eq_true rfl⟩ rfl hl.1 rfl (Nat.le_of_ble_eq_true rfl) dX1_startSector_18 ⟨Nat.zero_le _, Nat.zero_le _⟩ (fun H locs hP hD hS => ?_)
    refine lv_if_eq (tgt := 78) hx hb dX1_startSector_21 (by decide) (fun c_21 => ?_) (fun c_21 => ?_)
    · refine lv_iconst (v := 0) hx hb dX1_startSector_78 (by decide) ?_
      refine lv_istore_n (lv' := [(3, .int (0 : Int32)), (0, .ref aJ), (1, .int p1), (2, .int p2)]) hx hb dX1_startSector_79 rfl hl (by decide) rfl (fun ls hl => ?_)
      refine lv_iload_n hx hb dX1_startSector_80 rfl (lv_at hl 0 rfl) ?_
      refine lv_if_eq (tgt := 94) hx hb dX1_startSector_81 (by decide) (fun c_81 => ?_) (fun c_81 => ?_)
      · refine lv_iload_n hx hb dX1_startSector_94 rfl (lv_at hl 0 rfl) ?_
        have hE : spX1_startSector sc rc la pw ce lf mq ct wd er bw p1 p2 = ((0 : Int32), sc, rc, pw_18, ce_18, lf_18, ct_18, wd_18, er_5) := by unfold spX1_startSector; rw [hq_5]; dsimp only; rw [if_neg c_8]; rw [hq_18]; dsimp only; rw [if_pos c_21]
        exact W.zret (v := (0 : Int32)) hx hb hr rfl (fun t ht hW => ⟨⟨(0 : Int32), (), rfl, by rw [hE], by rw [hE, ht]; exact hP, va_K.moved hW.alike hK, by rw [hE]; exact hD⟩, hS.F ht⟩) hS.2.2 dX1_startSector_95
      · exact absurd c_81 (by decide)
    · refine lv_aload_n hx hb dX1_startSector_24 rfl (lv_at hl 0 rfl) ?_
      refine va_get (D := D) (ci := 1) (v := .ref aM) (C := RX1) (T := TX1) (N := 5) hx hb hts k_inX1 hown hK hP 0 rfl rfl 0 (by decide) (hts _ kw_154) (fun _ h9 => h9) rfl dX1_startSector_25 ?_
      refine lv_iload_n hx hb dX1_startSector_28 rfl (lv_at hl 1 rfl) ?_
      refine lv_iconst (v := 1) hx hb dX1_startSector_29 (by decide) ?_
      refine lv_aload_n hx hb dX1_startSector_30 rfl (lv_at hl 0 rfl) ?_
      refine va_get (D := D) (ci := 1) (v := .int la) (C := RX1) (T := TX1) (N := 5) hx hb hts k_inX1 hown hK hP 0 rfl rfl 4 (by decide) (hts _ kw_158) (fun _ h9 => h9) rfl dX1_startSector_31 ?_
      rcases hq_34 : spX2_write pw_18 ce_18 lf_18 ct_18 wd_18 p1 (1 : Int32) la with ⟨r_34, pw_34, ce_34, lf_34, ct_34, wd_34⟩
      have hM_34 : kWi l yX2_write cX2_write 4 (some .boolean) { frames := 1, cells := 0, slots := 0, locals := 22 } D [(cA, .int)] [.ref aM, .int p1, .int (1 : Int32), .int la] (wM aM aw ae cA pw_18 ce_18 lf_18 mq ct_18 wd_18 er_5) r_34 (wM aM aw ae cA pw_34 ce_34 lf_34 mq ct_34 wd_34 er_5) := by
        have h := c_X2_write l D aM aw ae cA pw_18 ce_18 lf_18 mq ct_18 wd_18 er_5 p1 (1 : Int32) la
        rw [hq_34] at h
        exact h
      refine k_wrVi (As := [.int p1, .int (1 : Int32), .int la]) (rest := []) (ci := 2) (q0 := 0) (ws' := (wJ aJ aM aw ae aB ab cA sc rc la pw_34 ce_34 lf_34 mq ct_34 wd_34 er_5 bw)) (wr := [(aJ, .inr (1, [.ref aM, .ref aB, .int sc, .int rc, .int la])), (aB, .inr (0, [.ref ab])), (ab, .inl (cA, 191, .inl bw))]) ⟨hx, hb, hml, hown, hts⟩ k_self hM_34 kv_X1_49 hP hD hS hA hK rfl rfl [1, 2, 3] [0, 4, 5] [0, 3, 4, 5, 1, 2] rfl (by decide) rfl (by decide) (by decide) rfl (by decide) rfl rfl ⟨Nat.le_of_ble_eq_true rfl, Nat.le_of_ble_eq_true rfl⟩ rfl hl.1 rfl (Nat.le_of_ble_eq_true rfl) dX1_startSector_34 ⟨Nat.zero_le _, Nat.zero_le _⟩ (fun H locs hP hD hS => ?_)
      refine lv_if_eq (tgt := 78) hx hb dX1_startSector_37 (by decide) (fun c_37 => ?_) (fun c_37 => ?_)
      · refine lv_iconst (v := 0) hx hb dX1_startSector_78 (by decide) ?_
        refine lv_istore_n (lv' := [(3, .int (0 : Int32)), (0, .ref aJ), (1, .int p1), (2, .int p2)]) hx hb dX1_startSector_79 rfl hl (by decide) rfl (fun ls hl => ?_)
        refine lv_iload_n hx hb dX1_startSector_80 rfl (lv_at hl 0 rfl) ?_
        refine lv_if_eq (tgt := 94) hx hb dX1_startSector_81 (by decide) (fun c_81 => ?_) (fun c_81 => ?_)
        · refine lv_iload_n hx hb dX1_startSector_94 rfl (lv_at hl 0 rfl) ?_
          have hE : spX1_startSector sc rc la pw ce lf mq ct wd er bw p1 p2 = ((0 : Int32), sc, rc, pw_34, ce_34, lf_34, ct_34, wd_34, er_5) := by unfold spX1_startSector; rw [hq_5]; dsimp only; rw [if_neg c_8]; rw [hq_18]; dsimp only; rw [if_neg c_21]; rw [hq_34]; dsimp only; rw [if_pos c_37]
          exact W.zret (v := (0 : Int32)) hx hb hr rfl (fun t ht hW => ⟨⟨(0 : Int32), (), rfl, by rw [hE], by rw [hE, ht]; exact hP, va_K.moved hW.alike hK, by rw [hE]; exact hD⟩, hS.F ht⟩) hS.2.2 dX1_startSector_95
        · exact absurd c_81 (by decide)
      · refine lv_aload_n hx hb dX1_startSector_40 rfl (lv_at hl 0 rfl) ?_
        refine lv_iload_n hx hb dX1_startSector_41 rfl (lv_at hl 1 rfl) ?_
        rcases hq_42 : spX1_writeBooks pw_34 ce_34 lf_34 ct_34 wd_34 bw p1 with ⟨r_42, pw_42, ce_42, lf_42, ct_42, wd_42⟩
        have hM_42 : kWi l yX1_writeBooks cX1_writeBooks 3 (some .boolean) { frames := 2, cells := 0, slots := 0, locals := 45 } D [(cA, .int)] [.ref aJ, .int p1] (wJ aJ aM aw ae aB ab cA sc rc la pw_34 ce_34 lf_34 mq ct_34 wd_34 er_5 bw) r_42 (wJ aJ aM aw ae aB ab cA sc rc la pw_42 ce_42 lf_42 mq ct_42 wd_42 er_5 bw) := by
          have h := c_X1_writeBooks l D aJ aM aw ae aB ab cA sc rc la pw_34 ce_34 lf_34 mq ct_34 wd_34 er_5 bw p1
          rw [hq_42] at h
          exact h
        refine k_wrVi (As := [.int p1]) (rest := []) (ci := 1) (q0 := 0) (ws' := (wJ aJ aM aw ae aB ab cA sc rc la pw_42 ce_42 lf_42 mq ct_42 wd_42 er_5 bw)) (wr := []) ⟨hx, hb, hml, hown, hts⟩ k_self hM_42 kv_X1_79 hP hD hS hA hK rfl rfl [0, 1, 2, 3, 4, 5] [] [0, 1, 2, 3, 4, 5] rfl (by decide) rfl (by decide) (by decide) rfl (by decide) rfl rfl ⟨Nat.le_of_ble_eq_true rfl, Nat.le_of_ble_eq_true rfl⟩ rfl hl.1 rfl (Nat.le_of_ble_eq_true rfl) dX1_startSector_42 ⟨Nat.zero_le _, Nat.zero_le _⟩ (fun H locs hP hD hS => ?_)
        refine lv_if_eq (tgt := 78) hx hb dX1_startSector_45 (by decide) (fun c_45 => ?_) (fun c_45 => ?_)
        · refine lv_iconst (v := 0) hx hb dX1_startSector_78 (by decide) ?_
          refine lv_istore_n (lv' := [(3, .int (0 : Int32)), (0, .ref aJ), (1, .int p1), (2, .int p2)]) hx hb dX1_startSector_79 rfl hl (by decide) rfl (fun ls hl => ?_)
          refine lv_iload_n hx hb dX1_startSector_80 rfl (lv_at hl 0 rfl) ?_
          refine lv_if_eq (tgt := 94) hx hb dX1_startSector_81 (by decide) (fun c_81 => ?_) (fun c_81 => ?_)
          · refine lv_iload_n hx hb dX1_startSector_94 rfl (lv_at hl 0 rfl) ?_
            have hE : spX1_startSector sc rc la pw ce lf mq ct wd er bw p1 p2 = ((0 : Int32), sc, rc, pw_42, ce_42, lf_42, ct_42, wd_42, er_5) := by unfold spX1_startSector; rw [hq_5]; dsimp only; rw [if_neg c_8]; rw [hq_18]; dsimp only; rw [if_neg c_21]; rw [hq_34]; dsimp only; rw [if_neg c_37]; rw [hq_42]; dsimp only; rw [if_pos c_45]
            exact W.zret (v := (0 : Int32)) hx hb hr rfl (fun t ht hW => ⟨⟨(0 : Int32), (), rfl, by rw [hE], by rw [hE, ht]; exact hP, va_K.moved hW.alike hK, by rw [hE]; exact hD⟩, hS.F ht⟩) hS.2.2 dX1_startSector_95
          · exact absurd c_81 (by decide)
        · refine lv_aload_n hx hb dX1_startSector_48 rfl (lv_at hl 0 rfl) ?_
          refine va_get (D := D) (ci := 1) (v := .ref aM) (C := RX1) (T := TX1) (N := 5) hx hb hts k_inX1 hown hK hP 0 rfl rfl 0 (by decide) (hts _ kw_154) (fun _ h9 => h9) rfl dX1_startSector_49 ?_
          refine lv_iload_n hx hb dX1_startSector_52 rfl (lv_at hl 1 rfl) ?_
          refine lv_sipush (v := 193) hx hb dX1_startSector_53 (by decide) ?_
          refine lv_aload_n hx hb dX1_startSector_56 rfl (lv_at hl 0 rfl) ?_
          refine va_get (D := D) (ci := 1) (v := .ref aM) (C := RX1) (T := TX1) (N := 5) hx hb hts k_inX1 hown hK hP 0 rfl rfl 0 (by decide) (hts _ kw_154) (fun _ h9 => h9) rfl dX1_startSector_57 ?_
          refine lv_iload_n hx hb dX1_startSector_60 rfl (lv_at hl 1 rfl) ?_
          refine lv_iconst (v := 0) hx hb dX1_startSector_61 (by decide) ?_
          refine lv_sipush (v := 193) hx hb dX1_startSector_62 (by decide) ?_
          refine k_rdVi (As := [.int p1, .int (0 : Int32), .int (193 : Int32)]) (rest := [.int (193 : Int32), .int p1, .ref aM]) (ci := 2) (q0 := 0) ⟨hx, hb, hml, hown, hts⟩ k_self (c_X2_markOf l D aM aw ae cA pw_42 ce_42 lf_42 mq ct_42 wd_42 er_5 p1 (0 : Int32) (193 : Int32)) kv_X1_53 (hP.sub [1, 2, 3] rfl) (hK.sub [0] rfl) rfl rfl rfl rfl ⟨Nat.le_of_ble_eq_true rfl, Nat.le_of_ble_eq_true rfl⟩ rfl hl.1 rfl (Nat.le_of_ble_eq_true rfl) dX1_startSector_65 ⟨Nat.zero_le _, Nat.zero_le _⟩ ?_
          rcases hq_68 : spX2_write pw_42 ce_42 lf_42 ct_42 wd_42 p1 (193 : Int32) (spX2_markOf wd_42 p1 (0 : Int32) (193 : Int32)) with ⟨r_68, pw_68, ce_68, lf_68, ct_68, wd_68⟩
          have hM_68 : kWi l yX2_write cX2_write 4 (some .boolean) { frames := 1, cells := 0, slots := 0, locals := 22 } D [(cA, .int)] [.ref aM, .int p1, .int (193 : Int32), .int (spX2_markOf wd_42 p1 (0 : Int32) (193 : Int32))] (wM aM aw ae cA pw_42 ce_42 lf_42 mq ct_42 wd_42 er_5) r_68 (wM aM aw ae cA pw_68 ce_68 lf_68 mq ct_68 wd_68 er_5) := by
            have h := c_X2_write l D aM aw ae cA pw_42 ce_42 lf_42 mq ct_42 wd_42 er_5 p1 (193 : Int32) (spX2_markOf wd_42 p1 (0 : Int32) (193 : Int32))
            rw [hq_68] at h
            exact h
          refine k_wrVi (As := [.int p1, .int (193 : Int32), .int (spX2_markOf wd_42 p1 (0 : Int32) (193 : Int32))]) (rest := []) (ci := 2) (q0 := 0) (ws' := (wJ aJ aM aw ae aB ab cA sc rc la pw_68 ce_68 lf_68 mq ct_68 wd_68 er_5 bw)) (wr := [(aJ, .inr (1, [.ref aM, .ref aB, .int sc, .int rc, .int la])), (aB, .inr (0, [.ref ab])), (ab, .inl (cA, 191, .inl bw))]) ⟨hx, hb, hml, hown, hts⟩ k_self hM_68 kv_X1_49 hP hD hS hA hK rfl rfl [1, 2, 3] [0, 4, 5] [0, 3, 4, 5, 1, 2] rfl (by decide) rfl (by decide) (by decide) rfl (by decide) rfl rfl ⟨Nat.le_of_ble_eq_true rfl, Nat.le_of_ble_eq_true rfl⟩ rfl hl.1 rfl (Nat.le_of_ble_eq_true rfl) dX1_startSector_68 ⟨Nat.zero_le _, Nat.zero_le _⟩ (fun H locs hP hD hS => ?_)
          refine lv_if_eq (tgt := 78) hx hb dX1_startSector_71 (by decide) (fun c_71 => ?_) (fun c_71 => ?_)
          · refine lv_iconst (v := 0) hx hb dX1_startSector_78 (by decide) ?_
            refine lv_istore_n (lv' := [(3, .int (0 : Int32)), (0, .ref aJ), (1, .int p1), (2, .int p2)]) hx hb dX1_startSector_79 rfl hl (by decide) rfl (fun ls hl => ?_)
            refine lv_iload_n hx hb dX1_startSector_80 rfl (lv_at hl 0 rfl) ?_
            refine lv_if_eq (tgt := 94) hx hb dX1_startSector_81 (by decide) (fun c_81 => ?_) (fun c_81 => ?_)
            · refine lv_iload_n hx hb dX1_startSector_94 rfl (lv_at hl 0 rfl) ?_
              have hE : spX1_startSector sc rc la pw ce lf mq ct wd er bw p1 p2 = ((0 : Int32), sc, rc, pw_68, ce_68, lf_68, ct_68, wd_68, er_5) := by unfold spX1_startSector; rw [hq_5]; dsimp only; rw [if_neg c_8]; rw [hq_18]; dsimp only; rw [if_neg c_21]; rw [hq_34]; dsimp only; rw [if_neg c_37]; rw [hq_42]; dsimp only; rw [if_neg c_45]; rw [hq_68]; dsimp only; rw [if_pos c_71]
              exact W.zret (v := (0 : Int32)) hx hb hr rfl (fun t ht hW => ⟨⟨(0 : Int32), (), rfl, by rw [hE], by rw [hE, ht]; exact hP, va_K.moved hW.alike hK, by rw [hE]; exact hD⟩, hS.F ht⟩) hS.2.2 dX1_startSector_95
            · exact absurd c_81 (by decide)
          · refine lv_iconst (v := 1) hx hb dX1_startSector_74 (by decide) ?_
            refine lv_goto (tgt := 79) hx hb dX1_startSector_75 (by decide) ?_
            refine lv_istore_n (lv' := [(3, .int (1 : Int32)), (0, .ref aJ), (1, .int p1), (2, .int p2)]) hx hb dX1_startSector_79 rfl hl (by decide) rfl (fun ls hl => ?_)
            refine lv_iload_n hx hb dX1_startSector_80 rfl (lv_at hl 0 rfl) ?_
            refine lv_if_eq (tgt := 94) hx hb dX1_startSector_81 (by decide) (fun c_81 => ?_) (fun c_81 => ?_)
            · exact absurd c_81 (by decide)
            · refine lv_aload_n hx hb dX1_startSector_84 rfl (lv_at hl 1 rfl) ?_
              refine lv_iload_n hx hb dX1_startSector_85 rfl (lv_at hl 2 rfl) ?_
              refine va_put (D := D) (ci := 1) (v := .int p1) (ty := .int) (C := RX1) (T := TX1) (N := 5) hx hb hts k_inX1 tyX1 tyX1_ok nmX1 hown hK hP hD hS 0 rfl rfl 2 (by decide) (hts _ kw_156) (fun _ h9 => h9) rfl (by decide +kernel) rfl rfl (Nat.le_of_ble_eq_true rfl) dX1_startSector_86 (fun H locs hP hD hS => ?_)
              have hP : va_P D vwCl (wJ aJ aM aw ae aB ab cA p1 rc la pw_68 ce_68 lf_68 mq ct_68 wd_68 er_5 bw) H := hP
              have hD : va_D A (wJ aJ aM aw ae aB ab cA p1 rc la pw_68 ce_68 lf_68 mq ct_68 wd_68 er_5 bw) := hD
              refine lv_aload_n hx hb dX1_startSector_89 rfl (lv_at hl 1 rfl) ?_
              refine lv_iconst (v := 0) hx hb dX1_startSector_90 (by decide) ?_
              refine va_put (D := D) (ci := 1) (v := .int (0 : Int32)) (ty := .int) (C := RX1) (T := TX1) (N := 5) hx hb hts k_inX1 tyX1 tyX1_ok nmX1 hown hK hP hD hS 0 rfl rfl 3 (by decide) (hts _ kw_157) (fun _ h9 => h9) rfl (by decide +kernel) rfl rfl (Nat.le_of_ble_eq_true rfl) dX1_startSector_91 (fun H locs hP hD hS => ?_)
              have hP : va_P D vwCl (wJ aJ aM aw ae aB ab cA p1 (0 : Int32) la pw_68 ce_68 lf_68 mq ct_68 wd_68 er_5 bw) H := hP
              have hD : va_D A (wJ aJ aM aw ae aB ab cA p1 (0 : Int32) la pw_68 ce_68 lf_68 mq ct_68 wd_68 er_5 bw) := hD
              refine lv_iload_n hx hb dX1_startSector_94 rfl (lv_at hl 0 rfl) ?_
              have hE : spX1_startSector sc rc la pw ce lf mq ct wd er bw p1 p2 = ((1 : Int32), p1, (0 : Int32), pw_68, ce_68, lf_68, ct_68, wd_68, er_5) := by unfold spX1_startSector; rw [hq_5]; dsimp only; rw [if_neg c_8]; rw [hq_18]; dsimp only; rw [if_neg c_21]; rw [hq_34]; dsimp only; rw [if_neg c_37]; rw [hq_42]; dsimp only; rw [if_neg c_45]; rw [hq_68]; dsimp only; rw [if_neg c_71]
              exact W.zret (v := (1 : Int32)) hx hb hr rfl (fun t ht hW => ⟨⟨(1 : Int32), (), rfl, by rw [hE], by rw [hE, ht]; exact hP, va_K.moved hW.alike hK, by rw [hE]; exact hD⟩, hS.F ht⟩) hS.2.2 dX1_startSector_95
def spX1_append (sc : Int32) (rc : Int32) (la : Int32) (pw : Int32) (ce : Int32) (lf : Int32) (mq : Int32) (ct : Int32) (wd : Nat → Int32) (er : Nat → Int32) (bw : Nat → Int32) (p1 : Int32) (p2 : Int32) (p3 : Int32) : Int32 × Int32 × Int32 × Int32 × Int32 × Int32 × Int32 × Int32 × (Nat → Int32) × (Nat → Int32) × (Nat → Int32) := (if (spX1_hasRoom sc rc wd) = 0 then (match spX1_startSector sc rc la pw ce lf mq ct wd er bw ((sc + (1 : Int32)) - (sc + (1 : Int32)) / (16 : Int32) * (16 : Int32)) ((spX2_read wd sc (0 : Int32)) + (1 : Int32)) with | (r_31, sc_31, rc_31, pw_31, ce_31, lf_31, ct_31, wd_31, er_31) => (if r_31 = 0 then ((-7 : Int32), sc_31, rc_31, la, pw_31, ce_31, lf_31, ct_31, wd_31, er_31, bw) else (match spX2_write pw_31 ce_31 lf_31 ct_31 wd_31 sc_31 (spX1_recordAt rc_31) (la + (1 : Int32)) with | (r_65, pw_65, ce_65, lf_65, ct_65, wd_65) => (if r_65 = 0 then ((-7 : Int32), sc_31, rc_31, la, pw_65, ce_65, lf_65, ct_65, wd_65, er_31, bw) else (match spX2_write pw_65 ce_65 lf_65 ct_65 wd_65 sc_31 ((spX1_recordAt rc_31) + (1 : Int32)) p1 with | (r_84, pw_84, ce_84, lf_84, ct_84, wd_84) => (if r_84 = 0 then ((-7 : Int32), sc_31, rc_31, la, pw_84, ce_84, lf_84, ct_84, wd_84, er_31, bw) else (match spX2_write pw_84 ce_84 lf_84 ct_84 wd_84 sc_31 ((spX1_recordAt rc_31) + (2 : Int32)) p2 with | (r_103, pw_103, ce_103, lf_103, ct_103, wd_103) => (if r_103 = 0 then ((-7 : Int32), sc_31, rc_31, la, pw_103, ce_103, lf_103, ct_103, wd_103, er_31, bw) else (match spX2_write pw_103 ce_103 lf_103 ct_103 wd_103 sc_31 ((spX1_recordAt rc_31) + (3 : Int32)) p3 with | (r_122, pw_122, ce_122, lf_122, ct_122, wd_122) => (if r_122 = 0 then ((-7 : Int32), sc_31, rc_31, la, pw_122, ce_122, lf_122, ct_122, wd_122, er_31, bw) else (match spX2_write pw_122 ce_122 lf_122 ct_122 wd_122 sc_31 ((spX1_recordAt rc_31) + (4 : Int32)) (spX2_markOf wd_122 sc_31 (spX1_recordAt rc_31) (4 : Int32)) with | (r_154, pw_154, ce_154, lf_154, ct_154, wd_154) => (if r_154 = 0 then ((-7 : Int32), sc_31, rc_31, la, pw_154, ce_154, lf_154, ct_154, wd_154, er_31, bw) else ((1 : Int32), sc_31, (rc_31 + (1 : Int32)), (la + (1 : Int32)), pw_154, ce_154, lf_154, ct_154, wd_154, er_31, (spX0_apply bw p1 p2 p3)))))))))))))) else (match spX2_write pw ce lf ct wd sc (spX1_recordAt rc) (la + (1 : Int32)) with | (r_65, pw_65, ce_65, lf_65, ct_65, wd_65) => (if r_65 = 0 then ((-7 : Int32), sc, rc, la, pw_65, ce_65, lf_65, ct_65, wd_65, er, bw) else (match spX2_write pw_65 ce_65 lf_65 ct_65 wd_65 sc ((spX1_recordAt rc) + (1 : Int32)) p1 with | (r_84, pw_84, ce_84, lf_84, ct_84, wd_84) => (if r_84 = 0 then ((-7 : Int32), sc, rc, la, pw_84, ce_84, lf_84, ct_84, wd_84, er, bw) else (match spX2_write pw_84 ce_84 lf_84 ct_84 wd_84 sc ((spX1_recordAt rc) + (2 : Int32)) p2 with | (r_103, pw_103, ce_103, lf_103, ct_103, wd_103) => (if r_103 = 0 then ((-7 : Int32), sc, rc, la, pw_103, ce_103, lf_103, ct_103, wd_103, er, bw) else (match spX2_write pw_103 ce_103 lf_103 ct_103 wd_103 sc ((spX1_recordAt rc) + (3 : Int32)) p3 with | (r_122, pw_122, ce_122, lf_122, ct_122, wd_122) => (if r_122 = 0 then ((-7 : Int32), sc, rc, la, pw_122, ce_122, lf_122, ct_122, wd_122, er, bw) else (match spX2_write pw_122 ce_122 lf_122 ct_122 wd_122 sc ((spX1_recordAt rc) + (4 : Int32)) (spX2_markOf wd_122 sc (spX1_recordAt rc) (4 : Int32)) with | (r_154, pw_154, ce_154, lf_154, ct_154, wd_154) => (if r_154 = 0 then ((-7 : Int32), sc, rc, la, pw_154, ce_154, lf_154, ct_154, wd_154, er, bw) else ((1 : Int32), sc, (rc + (1 : Int32)), (la + (1 : Int32)), pw_154, ce_154, lf_154, ct_154, wd_154, er, (spX0_apply bw p1 p2 p3)))))))))))))
set_option maxHeartbeats 4000000 in
set_option maxRecDepth 100000 in
theorem c_X1_append (l : Launch) (D : va_G) (aJ aM aw ae aB ab : Nat) (cA : ClassId) (sc : Int32) (rc : Int32) (la : Int32) (pw : Int32) (ce : Int32) (lf : Int32) (mq : Int32) (ct : Int32) (wd : Nat → Int32) (er : Nat → Int32) (bw : Nat → Int32) (p1 : Int32) (p2 : Int32) (p3 : Int32)  : kWi l yX1_append cX1_append 6 (some .int) { frames := 5, cells := 0, slots := 0, locals := 112 } D [(cA, .int)] [.ref aJ, .int p1, .int p2, .int p3] (wJ aJ aM aw ae aB ab cA sc rc la pw ce lf mq ct wd er bw) (spX1_append sc rc la pw ce lf mq ct wd er bw p1 p2 p3).1 (wJ aJ aM aw ae aB ab cA (spX1_append sc rc la pw ce lf mq ct wd er bw p1 p2 p3).2.1 (spX1_append sc rc la pw ce lf mq ct wd er bw p1 p2 p3).2.2.1 (spX1_append sc rc la pw ce lf mq ct wd er bw p1 p2 p3).2.2.2.1 (spX1_append sc rc la pw ce lf mq ct wd er bw p1 p2 p3).2.2.2.2.1 (spX1_append sc rc la pw ce lf mq ct wd er bw p1 p2 p3).2.2.2.2.2.1 (spX1_append sc rc la pw ce lf mq ct wd er bw p1 p2 p3).2.2.2.2.2.2.1 mq (spX1_append sc rc la pw ce lf mq ct wd er bw p1 p2 p3).2.2.2.2.2.2.2.1 (spX1_append sc rc la pw ce lf mq ct wd er bw p1 p2 p3).2.2.2.2.2.2.2.2.1 (spX1_append sc rc la pw ce lf mq ct wd er bw p1 p2 p3).2.2.2.2.2.2.2.2.2.1 (spX1_append sc rc la pw ce lf mq ct wd er bw p1 p2 p3).2.2.2.2.2.2.2.2.2.2) := by
  intro sz
  refine Met.ofW (cc := cX1_append) (maxL := 6) (ret := (some .int)) (by decide) rfl ?_
  intro p e s m args below meth c s₁ B hml hv
  obtain ⟨rfl, hsz, hP, hK, hD0⟩ := hv
  have hx := B.exec
  have hb := B.bytes
  have hr := B.returns
  have hts : ∀ w ∈ kG, w.before _ s = true := fun w h => atoms_spec (ws := kT yX1_append cX1_append 6 (some .int)) B.pre w (List.mem_cons_of_mem _ h)
  have hown : s.vm.findClass RX1 = some m.cls := findClass_of_methodNamed B.named
  have hlocks := B.notSynchronized
  subst hsz
  have hD := hD0.self (sz := s.heap.size)
  generalize hAe : va_A (wJ aJ aM aw ae aB ab cA sc rc la pw ce lf mq ct wd er bw) s.heap.size = A at hD ⊢
  have hA : ∀ q : Nat, s.heap.size ≤ q → A q := fun q h => by rw [← hAe]; exact Or.inr h
  have hS : va_S A s.heap s.heap [] := va_S.rf
  have hl := lv_entry ([.ref aJ, .int p1, .int p2, .int p3]) (n := 6) (Nat.le_of_ble_eq_true rfl)
  rw [lg_entry_eq]
  generalize (lg_sl ([.ref aJ, .int p1, .int p2, .int p3]) ++ List.replicate (6 - (lg_sl ([.ref aJ, .int p1, .int p2, .int p3])).length) Slot.unset).toArray = ls at hl ⊢
  have hl : lv_has ls 6 [(0, .ref aJ), (1, .int p1), (2, .int p2), (3, .int p3)] := hl
  refine lv_aload_n hx hb dX1_append_0 rfl (lv_at hl 0 rfl) ?_
  refine k_rdVi (As := []) (rest := []) (ci := 1) (q0 := 0) ⟨hx, hb, hml, hown, hts⟩ k_self (c_X1_hasRoom l D aJ aM aw ae aB ab cA sc rc la pw ce lf mq ct wd er bw ) kv_X1_29 (hP.sub [0, 1, 2, 3, 4, 5] rfl) (hK.sub [0] rfl) rfl rfl rfl rfl ⟨Nat.le_of_ble_eq_true rfl, Nat.le_of_ble_eq_true rfl⟩ rfl hl.1 rfl (Nat.le_of_ble_eq_true rfl) dX1_append_1 ⟨Nat.zero_le _, Nat.zero_le _⟩ ?_
  refine lv_if_ne (tgt := 40) hx hb dX1_append_4 (by decide) (fun c_4 => ?_) (fun c_4 => ?_)
  · refine lv_aload_n hx hb dX1_append_40 rfl (lv_at hl 0 rfl) ?_
    refine va_get (D := D) (ci := 1) (v := .int rc) (C := RX1) (T := TX1) (N := 5) hx hb hts k_inX1 hown hK hP 0 rfl rfl 3 (by decide) (hts _ kw_157) (fun _ h9 => h9) rfl dX1_append_41 ?_
    refine k_rdSi (As := [.int rc]) (rest := []) ⟨hx, hb, hml, hown, hts⟩ k_self (c_X1_recordAt l rc) kv_X1_45 rfl rfl ⟨Nat.le_of_ble_eq_true rfl, Nat.le_of_ble_eq_true rfl⟩ rfl hl.1 rfl (Nat.le_of_ble_eq_true rfl) dX1_append_44 ⟨Nat.zero_le _, Nat.zero_le _⟩ ?_
    refine lv_istore (lv' := [(4, .int (spX1_recordAt rc)), (0, .ref aJ), (1, .int p1), (2, .int p2), (3, .int p3)]) hx hb dX1_append_47 hl (by decide) rfl (fun ls hl => ?_)
    refine lv_aload_n hx hb dX1_append_49 rfl (lv_at hl 1 rfl) ?_
    refine va_get (D := D) (ci := 1) (v := .ref aM) (C := RX1) (T := TX1) (N := 5) hx hb hts k_inX1 hown hK hP 0 rfl rfl 0 (by decide) (hts _ kw_154) (fun _ h9 => h9) rfl dX1_append_50 ?_
    refine lv_aload_n hx hb dX1_append_53 rfl (lv_at hl 1 rfl) ?_
    refine va_get (D := D) (ci := 1) (v := .int sc) (C := RX1) (T := TX1) (N := 5) hx hb hts k_inX1 hown hK hP 0 rfl rfl 2 (by decide) (hts _ kw_156) (fun _ h9 => h9) rfl dX1_append_54 ?_
    refine lv_iload hx hb dX1_append_57 (lv_at hl 0 rfl) ?_
    refine lv_aload_n hx hb dX1_append_59 rfl (lv_at hl 1 rfl) ?_
    refine va_get (D := D) (ci := 1) (v := .int la) (C := RX1) (T := TX1) (N := 5) hx hb hts k_inX1 hown hK hP 0 rfl rfl 4 (by decide) (hts _ kw_158) (fun _ h9 => h9) rfl dX1_append_60 ?_
    refine lv_iconst (v := 1) hx hb dX1_append_63 (by decide) ?_
    refine lv_iadd hx hb dX1_append_64 ?_
    rcases hq_65 : spX2_write pw ce lf ct wd sc (spX1_recordAt rc) (la + (1 : Int32)) with ⟨r_65, pw_65, ce_65, lf_65, ct_65, wd_65⟩
    have hM_65 : kWi l yX2_write cX2_write 4 (some .boolean) { frames := 1, cells := 0, slots := 0, locals := 22 } D [(cA, .int)] [.ref aM, .int sc, .int (spX1_recordAt rc), .int (la + (1 : Int32))] (wM aM aw ae cA pw ce lf mq ct wd er) r_65 (wM aM aw ae cA pw_65 ce_65 lf_65 mq ct_65 wd_65 er) := by
      have h := c_X2_write l D aM aw ae cA pw ce lf mq ct wd er sc (spX1_recordAt rc) (la + (1 : Int32))
      rw [hq_65] at h
      exact h
    refine k_wrVi (As := [.int sc, .int (spX1_recordAt rc), .int (la + (1 : Int32))]) (rest := []) (ci := 2) (q0 := 0) (ws' := (wJ aJ aM aw ae aB ab cA sc rc la pw_65 ce_65 lf_65 mq ct_65 wd_65 er bw)) (wr := [(aJ, .inr (1, [.ref aM, .ref aB, .int sc, .int rc, .int la])), (aB, .inr (0, [.ref ab])), (ab, .inl (cA, 191, .inl bw))]) ⟨hx, hb, hml, hown, hts⟩ k_self hM_65 kv_X1_49 hP hD hS hA hK rfl rfl [1, 2, 3] [0, 4, 5] [0, 3, 4, 5, 1, 2] rfl (by decide) rfl (by decide) (by decide) rfl (by decide) rfl rfl ⟨Nat.le_of_ble_eq_true rfl, Nat.le_of_ble_eq_true rfl⟩ rfl hl.1 rfl (Nat.le_of_ble_eq_true rfl) dX1_append_65 ⟨Nat.zero_le _, Nat.zero_le _⟩ (fun H locs hP hD hS => ?_)
    refine lv_if_eq (tgt := 164) hx hb dX1_append_68 (by decide) (fun c_68 => ?_) (fun c_68 => ?_)
    · refine lv_iconst (v := 0) hx hb dX1_append_164 (by decide) ?_
      refine lv_istore (lv' := [(5, .int (0 : Int32)), (4, .int (spX1_recordAt rc)), (0, .ref aJ), (1, .int p1), (2, .int p2), (3, .int p3)]) hx hb dX1_append_165 hl (by decide) rfl (fun ls hl => ?_)
      refine lv_iload hx hb dX1_append_167 (lv_at hl 0 rfl) ?_
      refine lv_if_ne (tgt := 175) hx hb dX1_append_169 (by decide) (fun c_169 => ?_) (fun c_169 => ?_)
      · exact absurd c_169 (by decide)
      · refine lv_bipush (v := -7) hx hb dX1_append_172 (by decide) ?_
        have hE : spX1_append sc rc la pw ce lf mq ct wd er bw p1 p2 p3 = ((-7 : Int32), sc, rc, la, pw_65, ce_65, lf_65, ct_65, wd_65, er, bw) := by unfold spX1_append; rw [if_neg c_4]; rw [hq_65]; dsimp only; rw [if_pos c_68]
        exact W.iret (v := (-7 : Int32)) hx hb hr (fun t ht hW => ⟨⟨(-7 : Int32), (), rfl, by rw [hE], by rw [hE, ht]; exact hP, va_K.moved hW.alike hK, by rw [hE]; exact hD⟩, hS.F ht⟩) hS.2.2 dX1_append_174
    · refine lv_aload_n hx hb dX1_append_71 rfl (lv_at hl 1 rfl) ?_
      refine va_get (D := D) (ci := 1) (v := .ref aM) (C := RX1) (T := TX1) (N := 5) hx hb hts k_inX1 hown hK hP 0 rfl rfl 0 (by decide) (hts _ kw_154) (fun _ h9 => h9) rfl dX1_append_72 ?_
      refine lv_aload_n hx hb dX1_append_75 rfl (lv_at hl 1 rfl) ?_
      refine va_get (D := D) (ci := 1) (v := .int sc) (C := RX1) (T := TX1) (N := 5) hx hb hts k_inX1 hown hK hP 0 rfl rfl 2 (by decide) (hts _ kw_156) (fun _ h9 => h9) rfl dX1_append_76 ?_
      refine lv_iload hx hb dX1_append_79 (lv_at hl 0 rfl) ?_
      refine lv_iconst (v := 1) hx hb dX1_append_81 (by decide) ?_
      refine lv_iadd hx hb dX1_append_82 ?_
      refine lv_iload_n hx hb dX1_append_83 rfl (lv_at hl 2 rfl) ?_
      rcases hq_84 : spX2_write pw_65 ce_65 lf_65 ct_65 wd_65 sc ((spX1_recordAt rc) + (1 : Int32)) p1 with ⟨r_84, pw_84, ce_84, lf_84, ct_84, wd_84⟩
      have hM_84 : kWi l yX2_write cX2_write 4 (some .boolean) { frames := 1, cells := 0, slots := 0, locals := 22 } D [(cA, .int)] [.ref aM, .int sc, .int ((spX1_recordAt rc) + (1 : Int32)), .int p1] (wM aM aw ae cA pw_65 ce_65 lf_65 mq ct_65 wd_65 er) r_84 (wM aM aw ae cA pw_84 ce_84 lf_84 mq ct_84 wd_84 er) := by
        have h := c_X2_write l D aM aw ae cA pw_65 ce_65 lf_65 mq ct_65 wd_65 er sc ((spX1_recordAt rc) + (1 : Int32)) p1
        rw [hq_84] at h
        exact h
      refine k_wrVi (As := [.int sc, .int ((spX1_recordAt rc) + (1 : Int32)), .int p1]) (rest := []) (ci := 2) (q0 := 0) (ws' := (wJ aJ aM aw ae aB ab cA sc rc la pw_84 ce_84 lf_84 mq ct_84 wd_84 er bw)) (wr := [(aJ, .inr (1, [.ref aM, .ref aB, .int sc, .int rc, .int la])), (aB, .inr (0, [.ref ab])), (ab, .inl (cA, 191, .inl bw))]) ⟨hx, hb, hml, hown, hts⟩ k_self hM_84 kv_X1_49 hP hD hS hA hK rfl rfl [1, 2, 3] [0, 4, 5] [0, 3, 4, 5, 1, 2] rfl (by decide) rfl (by decide) (by decide) rfl (by decide) rfl rfl ⟨Nat.le_of_ble_eq_true rfl, Nat.le_of_ble_eq_true rfl⟩ rfl hl.1 rfl (Nat.le_of_ble_eq_true rfl) dX1_append_84 ⟨Nat.zero_le _, Nat.zero_le _⟩ (fun H locs hP hD hS => ?_)
      refine lv_if_eq (tgt := 164) hx hb dX1_append_87 (by decide) (fun c_87 => ?_) (fun c_87 => ?_)
      · refine lv_iconst (v := 0) hx hb dX1_append_164 (by decide) ?_
        refine lv_istore (lv' := [(5, .int (0 : Int32)), (4, .int (spX1_recordAt rc)), (0, .ref aJ), (1, .int p1), (2, .int p2), (3, .int p3)]) hx hb dX1_append_165 hl (by decide) rfl (fun ls hl => ?_)
        refine lv_iload hx hb dX1_append_167 (lv_at hl 0 rfl) ?_
        refine lv_if_ne (tgt := 175) hx hb dX1_append_169 (by decide) (fun c_169 => ?_) (fun c_169 => ?_)
        · exact absurd c_169 (by decide)
        · refine lv_bipush (v := -7) hx hb dX1_append_172 (by decide) ?_
          have hE : spX1_append sc rc la pw ce lf mq ct wd er bw p1 p2 p3 = ((-7 : Int32), sc, rc, la, pw_84, ce_84, lf_84, ct_84, wd_84, er, bw) := by unfold spX1_append; rw [if_neg c_4]; rw [hq_65]; dsimp only; rw [if_neg c_68]; rw [hq_84]; dsimp only; rw [if_pos c_87]
          exact W.iret (v := (-7 : Int32)) hx hb hr (fun t ht hW => ⟨⟨(-7 : Int32), (), rfl, by rw [hE], by rw [hE, ht]; exact hP, va_K.moved hW.alike hK, by rw [hE]; exact hD⟩, hS.F ht⟩) hS.2.2 dX1_append_174
      · refine lv_aload_n hx hb dX1_append_90 rfl (lv_at hl 1 rfl) ?_
        refine va_get (D := D) (ci := 1) (v := .ref aM) (C := RX1) (T := TX1) (N := 5) hx hb hts k_inX1 hown hK hP 0 rfl rfl 0 (by decide) (hts _ kw_154) (fun _ h9 => h9) rfl dX1_append_91 ?_
        refine lv_aload_n hx hb dX1_append_94 rfl (lv_at hl 1 rfl) ?_
        refine va_get (D := D) (ci := 1) (v := .int sc) (C := RX1) (T := TX1) (N := 5) hx hb hts k_inX1 hown hK hP 0 rfl rfl 2 (by decide) (hts _ kw_156) (fun _ h9 => h9) rfl dX1_append_95 ?_
        refine lv_iload hx hb dX1_append_98 (lv_at hl 0 rfl) ?_
        refine lv_iconst (v := 2) hx hb dX1_append_100 (by decide) ?_
        refine lv_iadd hx hb dX1_append_101 ?_
        refine lv_iload_n hx hb dX1_append_102 rfl (lv_at hl 3 rfl) ?_
        rcases hq_103 : spX2_write pw_84 ce_84 lf_84 ct_84 wd_84 sc ((spX1_recordAt rc) + (2 : Int32)) p2 with ⟨r_103, pw_103, ce_103, lf_103, ct_103, wd_103⟩
        have hM_103 : kWi l yX2_write cX2_write 4 (some .boolean) { frames := 1, cells := 0, slots := 0, locals := 22 } D [(cA, .int)] [.ref aM, .int sc, .int ((spX1_recordAt rc) + (2 : Int32)), .int p2] (wM aM aw ae cA pw_84 ce_84 lf_84 mq ct_84 wd_84 er) r_103 (wM aM aw ae cA pw_103 ce_103 lf_103 mq ct_103 wd_103 er) := by
          have h := c_X2_write l D aM aw ae cA pw_84 ce_84 lf_84 mq ct_84 wd_84 er sc ((spX1_recordAt rc) + (2 : Int32)) p2
          rw [hq_103] at h
          exact h
        refine k_wrVi (As := [.int sc, .int ((spX1_recordAt rc) + (2 : Int32)), .int p2]) (rest := []) (ci := 2) (q0 := 0) (ws' := (wJ aJ aM aw ae aB ab cA sc rc la pw_103 ce_103 lf_103 mq ct_103 wd_103 er bw)) (wr := [(aJ, .inr (1, [.ref aM, .ref aB, .int sc, .int rc, .int la])), (aB, .inr (0, [.ref ab])), (ab, .inl (cA, 191, .inl bw))]) ⟨hx, hb, hml, hown, hts⟩ k_self hM_103 kv_X1_49 hP hD hS hA hK rfl rfl [1, 2, 3] [0, 4, 5] [0, 3, 4, 5, 1, 2] rfl (by decide) rfl (by decide) (by decide) rfl (by decide) rfl rfl ⟨Nat.le_of_ble_eq_true rfl, Nat.le_of_ble_eq_true rfl⟩ rfl hl.1 rfl (Nat.le_of_ble_eq_true rfl) dX1_append_103 ⟨Nat.zero_le _, Nat.zero_le _⟩ (fun H locs hP hD hS => ?_)
        refine lv_if_eq (tgt := 164) hx hb dX1_append_106 (by decide) (fun c_106 => ?_) (fun c_106 => ?_)
        · refine lv_iconst (v := 0) hx hb dX1_append_164 (by decide) ?_
          refine lv_istore (lv' := [(5, .int (0 : Int32)), (4, .int (spX1_recordAt rc)), (0, .ref aJ), (1, .int p1), (2, .int p2), (3, .int p3)]) hx hb dX1_append_165 hl (by decide) rfl (fun ls hl => ?_)
          refine lv_iload hx hb dX1_append_167 (lv_at hl 0 rfl) ?_
          refine lv_if_ne (tgt := 175) hx hb dX1_append_169 (by decide) (fun c_169 => ?_) (fun c_169 => ?_)
          · exact absurd c_169 (by decide)
          · refine lv_bipush (v := -7) hx hb dX1_append_172 (by decide) ?_
            have hE : spX1_append sc rc la pw ce lf mq ct wd er bw p1 p2 p3 = ((-7 : Int32), sc, rc, la, pw_103, ce_103, lf_103, ct_103, wd_103, er, bw) := by unfold spX1_append; rw [if_neg c_4]; rw [hq_65]; dsimp only; rw [if_neg c_68]; rw [hq_84]; dsimp only; rw [if_neg c_87]; rw [hq_103]; dsimp only; rw [if_pos c_106]
            exact W.iret (v := (-7 : Int32)) hx hb hr (fun t ht hW => ⟨⟨(-7 : Int32), (), rfl, by rw [hE], by rw [hE, ht]; exact hP, va_K.moved hW.alike hK, by rw [hE]; exact hD⟩, hS.F ht⟩) hS.2.2 dX1_append_174
        · refine lv_aload_n hx hb dX1_append_109 rfl (lv_at hl 1 rfl) ?_
          refine va_get (D := D) (ci := 1) (v := .ref aM) (C := RX1) (T := TX1) (N := 5) hx hb hts k_inX1 hown hK hP 0 rfl rfl 0 (by decide) (hts _ kw_154) (fun _ h9 => h9) rfl dX1_append_110 ?_
          refine lv_aload_n hx hb dX1_append_113 rfl (lv_at hl 1 rfl) ?_
          refine va_get (D := D) (ci := 1) (v := .int sc) (C := RX1) (T := TX1) (N := 5) hx hb hts k_inX1 hown hK hP 0 rfl rfl 2 (by decide) (hts _ kw_156) (fun _ h9 => h9) rfl dX1_append_114 ?_
          refine lv_iload hx hb dX1_append_117 (lv_at hl 0 rfl) ?_
          refine lv_iconst (v := 3) hx hb dX1_append_119 (by decide) ?_
          refine lv_iadd hx hb dX1_append_120 ?_
          refine lv_iload_n hx hb dX1_append_121 rfl (lv_at hl 4 rfl) ?_
          rcases hq_122 : spX2_write pw_103 ce_103 lf_103 ct_103 wd_103 sc ((spX1_recordAt rc) + (3 : Int32)) p3 with ⟨r_122, pw_122, ce_122, lf_122, ct_122, wd_122⟩
          have hM_122 : kWi l yX2_write cX2_write 4 (some .boolean) { frames := 1, cells := 0, slots := 0, locals := 22 } D [(cA, .int)] [.ref aM, .int sc, .int ((spX1_recordAt rc) + (3 : Int32)), .int p3] (wM aM aw ae cA pw_103 ce_103 lf_103 mq ct_103 wd_103 er) r_122 (wM aM aw ae cA pw_122 ce_122 lf_122 mq ct_122 wd_122 er) := by
            have h := c_X2_write l D aM aw ae cA pw_103 ce_103 lf_103 mq ct_103 wd_103 er sc ((spX1_recordAt rc) + (3 : Int32)) p3
            rw [hq_122] at h
            exact h
          refine k_wrVi (As := [.int sc, .int ((spX1_recordAt rc) + (3 : Int32)), .int p3]) (rest := []) (ci := 2) (q0 := 0) (ws' := (wJ aJ aM aw ae aB ab cA sc rc la pw_122 ce_122 lf_122 mq ct_122 wd_122 er bw)) (wr := [(aJ, .inr (1, [.ref aM, .ref aB, .int sc, .int rc, .int la])), (aB, .inr (0, [.ref ab])), (ab, .inl (cA, 191, .inl bw))]) ⟨hx, hb, hml, hown, hts⟩ k_self hM_122 kv_X1_49 hP hD hS hA hK rfl rfl [1, 2, 3] [0, 4, 5] [0, 3, 4, 5, 1, 2] rfl (by decide) rfl (by decide) (by decide) rfl (by decide) rfl rfl ⟨Nat.le_of_ble_eq_true rfl, Nat.le_of_ble_eq_true rfl⟩ rfl hl.1 rfl (Nat.le_of_ble_eq_true rfl) dX1_append_122 ⟨Nat.zero_le _, Nat.zero_le _⟩ (fun H locs hP hD hS => ?_)
          refine lv_if_eq (tgt := 164) hx hb dX1_append_125 (by decide) (fun c_125 => ?_) (fun c_125 => ?_)
          · refine lv_iconst (v := 0) hx hb dX1_append_164 (by decide) ?_
            refine lv_istore (lv' := [(5, .int (0 : Int32)), (4, .int (spX1_recordAt rc)), (0, .ref aJ), (1, .int p1), (2, .int p2), (3, .int p3)]) hx hb dX1_append_165 hl (by decide) rfl (fun ls hl => ?_)
            refine lv_iload hx hb dX1_append_167 (lv_at hl 0 rfl) ?_
            refine lv_if_ne (tgt := 175) hx hb dX1_append_169 (by decide) (fun c_169 => ?_) (fun c_169 => ?_)
            · exact absurd c_169 (by decide)
            · refine lv_bipush (v := -7) hx hb dX1_append_172 (by decide) ?_
              have hE : spX1_append sc rc la pw ce lf mq ct wd er bw p1 p2 p3 = ((-7 : Int32), sc, rc, la, pw_122, ce_122, lf_122, ct_122, wd_122, er, bw) := by unfold spX1_append; rw [if_neg c_4]; rw [hq_65]; dsimp only; rw [if_neg c_68]; rw [hq_84]; dsimp only; rw [if_neg c_87]; rw [hq_103]; dsimp only; rw [if_neg c_106]; rw [hq_122]; dsimp only; rw [if_pos c_125]
              exact W.iret (v := (-7 : Int32)) hx hb hr (fun t ht hW => ⟨⟨(-7 : Int32), (), rfl, by rw [hE], by rw [hE, ht]; exact hP, va_K.moved hW.alike hK, by rw [hE]; exact hD⟩, hS.F ht⟩) hS.2.2 dX1_append_174
          · refine lv_aload_n hx hb dX1_append_128 rfl (lv_at hl 1 rfl) ?_
            refine va_get (D := D) (ci := 1) (v := .ref aM) (C := RX1) (T := TX1) (N := 5) hx hb hts k_inX1 hown hK hP 0 rfl rfl 0 (by decide) (hts _ kw_154) (fun _ h9 => h9) rfl dX1_append_129 ?_
            refine lv_aload_n hx hb dX1_append_132 rfl (lv_at hl 1 rfl) ?_
            refine va_get (D := D) (ci := 1) (v := .int sc) (C := RX1) (T := TX1) (N := 5) hx hb hts k_inX1 hown hK hP 0 rfl rfl 2 (by decide) (hts _ kw_156) (fun _ h9 => h9) rfl dX1_append_133 ?_
            refine lv_iload hx hb dX1_append_136 (lv_at hl 0 rfl) ?_
            refine lv_iconst (v := 4) hx hb dX1_append_138 (by decide) ?_
            refine lv_iadd hx hb dX1_append_139 ?_
            refine lv_aload_n hx hb dX1_append_140 rfl (lv_at hl 1 rfl) ?_
            refine va_get (D := D) (ci := 1) (v := .ref aM) (C := RX1) (T := TX1) (N := 5) hx hb hts k_inX1 hown hK hP 0 rfl rfl 0 (by decide) (hts _ kw_154) (fun _ h9 => h9) rfl dX1_append_141 ?_
            refine lv_aload_n hx hb dX1_append_144 rfl (lv_at hl 1 rfl) ?_
            refine va_get (D := D) (ci := 1) (v := .int sc) (C := RX1) (T := TX1) (N := 5) hx hb hts k_inX1 hown hK hP 0 rfl rfl 2 (by decide) (hts _ kw_156) (fun _ h9 => h9) rfl dX1_append_145 ?_
            refine lv_iload hx hb dX1_append_148 (lv_at hl 0 rfl) ?_
            refine lv_iconst (v := 4) hx hb dX1_append_150 (by decide) ?_
            refine k_rdVi (As := [.int sc, .int (spX1_recordAt rc), .int (4 : Int32)]) (rest := [.int ((spX1_recordAt rc) + (4 : Int32)), .int sc, .ref aM]) (ci := 2) (q0 := 0) ⟨hx, hb, hml, hown, hts⟩ k_self (c_X2_markOf l D aM aw ae cA pw_122 ce_122 lf_122 mq ct_122 wd_122 er sc (spX1_recordAt rc) (4 : Int32)) kv_X1_53 (hP.sub [1, 2, 3] rfl) (hK.sub [0] rfl) rfl rfl rfl rfl ⟨Nat.le_of_ble_eq_true rfl, Nat.le_of_ble_eq_true rfl⟩ rfl hl.1 rfl (Nat.le_of_ble_eq_true rfl) dX1_append_151 ⟨Nat.zero_le _, Nat.zero_le _⟩ ?_
            rcases hq_154 : spX2_write pw_122 ce_122 lf_122 ct_122 wd_122 sc ((spX1_recordAt rc) + (4 : Int32)) (spX2_markOf wd_122 sc (spX1_recordAt rc) (4 : Int32)) with ⟨r_154, pw_154, ce_154, lf_154, ct_154, wd_154⟩
            have hM_154 : kWi l yX2_write cX2_write 4 (some .boolean) { frames := 1, cells := 0, slots := 0, locals := 22 } D [(cA, .int)] [.ref aM, .int sc, .int ((spX1_recordAt rc) + (4 : Int32)), .int (spX2_markOf wd_122 sc (spX1_recordAt rc) (4 : Int32))] (wM aM aw ae cA pw_122 ce_122 lf_122 mq ct_122 wd_122 er) r_154 (wM aM aw ae cA pw_154 ce_154 lf_154 mq ct_154 wd_154 er) := by
              have h := c_X2_write l D aM aw ae cA pw_122 ce_122 lf_122 mq ct_122 wd_122 er sc ((spX1_recordAt rc) + (4 : Int32)) (spX2_markOf wd_122 sc (spX1_recordAt rc) (4 : Int32))
              rw [hq_154] at h
              exact h
            refine k_wrVi (As := [.int sc, .int ((spX1_recordAt rc) + (4 : Int32)), .int (spX2_markOf wd_122 sc (spX1_recordAt rc) (4 : Int32))]) (rest := []) (ci := 2) (q0 := 0) (ws' := (wJ aJ aM aw ae aB ab cA sc rc la pw_154 ce_154 lf_154 mq ct_154 wd_154 er bw)) (wr := [(aJ, .inr (1, [.ref aM, .ref aB, .int sc, .int rc, .int la])), (aB, .inr (0, [.ref ab])), (ab, .inl (cA, 191, .inl bw))]) ⟨hx, hb, hml, hown, hts⟩ k_self hM_154 kv_X1_49 hP hD hS hA hK rfl rfl [1, 2, 3] [0, 4, 5] [0, 3, 4, 5, 1, 2] rfl (by decide) rfl (by decide) (by decide) rfl (by decide) rfl rfl ⟨Nat.le_of_ble_eq_true rfl, Nat.le_of_ble_eq_true rfl⟩ rfl hl.1 rfl (Nat.le_of_ble_eq_true rfl) dX1_append_154 ⟨Nat.zero_le _, Nat.zero_le _⟩ (fun H locs hP hD hS => ?_)
            refine lv_if_eq (tgt := 164) hx hb dX1_append_157 (by decide) (fun c_157 => ?_) (fun c_157 => ?_)
            · refine lv_iconst (v := 0) hx hb dX1_append_164 (by decide) ?_
              refine lv_istore (lv' := [(5, .int (0 : Int32)), (4, .int (spX1_recordAt rc)), (0, .ref aJ), (1, .int p1), (2, .int p2), (3, .int p3)]) hx hb dX1_append_165 hl (by decide) rfl (fun ls hl => ?_)
              refine lv_iload hx hb dX1_append_167 (lv_at hl 0 rfl) ?_
              refine lv_if_ne (tgt := 175) hx hb dX1_append_169 (by decide) (fun c_169 => ?_) (fun c_169 => ?_)
              · exact absurd c_169 (by decide)
              · refine lv_bipush (v := -7) hx hb dX1_append_172 (by decide) ?_
                have hE : spX1_append sc rc la pw ce lf mq ct wd er bw p1 p2 p3 = ((-7 : Int32), sc, rc, la, pw_154, ce_154, lf_154, ct_154, wd_154, er, bw) := by unfold spX1_append; rw [if_neg c_4]; rw [hq_65]; dsimp only; rw [if_neg c_68]; rw [hq_84]; dsimp only; rw [if_neg c_87]; rw [hq_103]; dsimp only; rw [if_neg c_106]; rw [hq_122]; dsimp only; rw [if_neg c_125]; rw [hq_154]; dsimp only; rw [if_pos c_157]
                exact W.iret (v := (-7 : Int32)) hx hb hr (fun t ht hW => ⟨⟨(-7 : Int32), (), rfl, by rw [hE], by rw [hE, ht]; exact hP, va_K.moved hW.alike hK, by rw [hE]; exact hD⟩, hS.F ht⟩) hS.2.2 dX1_append_174
            · refine lv_iconst (v := 1) hx hb dX1_append_160 (by decide) ?_
              refine lv_goto (tgt := 165) hx hb dX1_append_161 (by decide) ?_
              refine lv_istore (lv' := [(5, .int (1 : Int32)), (4, .int (spX1_recordAt rc)), (0, .ref aJ), (1, .int p1), (2, .int p2), (3, .int p3)]) hx hb dX1_append_165 hl (by decide) rfl (fun ls hl => ?_)
              refine lv_iload hx hb dX1_append_167 (lv_at hl 0 rfl) ?_
              refine lv_if_ne (tgt := 175) hx hb dX1_append_169 (by decide) (fun c_169 => ?_) (fun c_169 => ?_)
              · refine lv_aload_n hx hb dX1_append_175 rfl (lv_at hl 2 rfl) ?_
                refine va_get (D := D) (ci := 1) (v := .ref aB) (C := RX1) (T := TX1) (N := 5) hx hb hts k_inX1 hown hK hP 0 rfl rfl 1 (by decide) (hts _ kw_155) (fun _ h9 => h9) rfl dX1_append_176 ?_
                refine lv_iload_n hx hb dX1_append_179 rfl (lv_at hl 3 rfl) ?_
                refine lv_iload_n hx hb dX1_append_180 rfl (lv_at hl 4 rfl) ?_
                refine lv_iload_n hx hb dX1_append_181 rfl (lv_at hl 5 rfl) ?_
                refine k_wrVv (As := [.int p1, .int p2, .int p3]) (rest := []) (ci := 0) (q0 := 0) (ws' := (wJ aJ aM aw ae aB ab cA sc rc la pw_154 ce_154 lf_154 mq ct_154 wd_154 er (spX0_apply bw p1 p2 p3))) (wr := [(aJ, .inr (1, [.ref aM, .ref aB, .int sc, .int rc, .int la])), (aM, .inr (2, [.ref aw, .ref ae, .int pw_154, .int ce_154, .int lf_154, .int mq, .int ct_154])), (aw, .inl (cA, 4096, .inl wd_154)), (ae, .inl (cA, 16, .inl er))]) ⟨hx, hb, hml, hown, hts⟩ k_self (c_X0_apply l D aB ab cA bw p1 p2 p3) kv_X1_57 hP hD hS hA hK rfl rfl [4, 5] [0, 1, 2, 3] [0, 1, 2, 3, 4, 5] rfl (by decide) rfl (by decide) (by decide) rfl (by decide) rfl rfl ⟨Nat.le_of_ble_eq_true rfl, Nat.le_of_ble_eq_true rfl⟩ rfl hl.1 rfl (Nat.le_of_ble_eq_true rfl) dX1_append_182 ⟨Nat.zero_le _, Nat.zero_le _⟩ (fun H locs hP hD hS => ?_)
                refine lv_aload_n hx hb dX1_append_185 rfl (lv_at hl 2 rfl) ?_
                refine lv_dup hx hb dX1_append_186 rfl ?_
                refine va_get (D := D) (ci := 1) (v := .int rc) (C := RX1) (T := TX1) (N := 5) hx hb hts k_inX1 hown hK hP 0 rfl rfl 3 (by decide) (hts _ kw_157) (fun _ h9 => h9) rfl dX1_append_187 ?_
                refine lv_iconst (v := 1) hx hb dX1_append_190 (by decide) ?_
                refine lv_iadd hx hb dX1_append_191 ?_
                refine va_put (D := D) (ci := 1) (v := .int (rc + (1 : Int32))) (ty := .int) (C := RX1) (T := TX1) (N := 5) hx hb hts k_inX1 tyX1 tyX1_ok nmX1 hown hK hP hD hS 0 rfl rfl 3 (by decide) (hts _ kw_157) (fun _ h9 => h9) rfl (by decide +kernel) rfl rfl (Nat.le_of_ble_eq_true rfl) dX1_append_192 (fun H locs hP hD hS => ?_)
                have hP : va_P D vwCl (wJ aJ aM aw ae aB ab cA sc (rc + (1 : Int32)) la pw_154 ce_154 lf_154 mq ct_154 wd_154 er (spX0_apply bw p1 p2 p3)) H := hP
                have hD : va_D A (wJ aJ aM aw ae aB ab cA sc (rc + (1 : Int32)) la pw_154 ce_154 lf_154 mq ct_154 wd_154 er (spX0_apply bw p1 p2 p3)) := hD
                refine lv_aload_n hx hb dX1_append_195 rfl (lv_at hl 2 rfl) ?_
                refine lv_dup hx hb dX1_append_196 rfl ?_
                refine va_get (D := D) (ci := 1) (v := .int la) (C := RX1) (T := TX1) (N := 5) hx hb hts k_inX1 hown hK hP 0 rfl rfl 4 (by decide) (hts _ kw_158) (fun _ h9 => h9) rfl dX1_append_197 ?_
                refine lv_iconst (v := 1) hx hb dX1_append_200 (by decide) ?_
                refine lv_iadd hx hb dX1_append_201 ?_
                refine va_put (D := D) (ci := 1) (v := .int (la + (1 : Int32))) (ty := .int) (C := RX1) (T := TX1) (N := 5) hx hb hts k_inX1 tyX1 tyX1_ok nmX1 hown hK hP hD hS 0 rfl rfl 4 (by decide) (hts _ kw_158) (fun _ h9 => h9) rfl (by decide +kernel) rfl rfl (Nat.le_of_ble_eq_true rfl) dX1_append_202 (fun H locs hP hD hS => ?_)
                have hP : va_P D vwCl (wJ aJ aM aw ae aB ab cA sc (rc + (1 : Int32)) (la + (1 : Int32)) pw_154 ce_154 lf_154 mq ct_154 wd_154 er (spX0_apply bw p1 p2 p3)) H := hP
                have hD : va_D A (wJ aJ aM aw ae aB ab cA sc (rc + (1 : Int32)) (la + (1 : Int32)) pw_154 ce_154 lf_154 mq ct_154 wd_154 er (spX0_apply bw p1 p2 p3)) := hD
                refine lv_iconst (v := 1) hx hb dX1_append_205 (by decide) ?_
                have hE : spX1_append sc rc la pw ce lf mq ct wd er bw p1 p2 p3 = ((1 : Int32), sc, (rc + (1 : Int32)), (la + (1 : Int32)), pw_154, ce_154, lf_154, ct_154, wd_154, er, (spX0_apply bw p1 p2 p3)) := by unfold spX1_append; rw [if_neg c_4]; rw [hq_65]; dsimp only; rw [if_neg c_68]; rw [hq_84]; dsimp only; rw [if_neg c_87]; rw [hq_103]; dsimp only; rw [if_neg c_106]; rw [hq_122]; dsimp only; rw [if_neg c_125]; rw [hq_154]; dsimp only; rw [if_neg c_157]
                exact W.iret (v := (1 : Int32)) hx hb hr (fun t ht hW => ⟨⟨(1 : Int32), (), rfl, by rw [hE], by rw [hE, ht]; exact hP, va_K.moved hW.alike hK, by rw [hE]; exact hD⟩, hS.F ht⟩) hS.2.2 dX1_append_206
              · exact absurd c_169 (by decide)
  · refine lv_aload_n hx hb dX1_append_7 rfl (lv_at hl 0 rfl) ?_
    refine lv_aload_n hx hb dX1_append_8 rfl (lv_at hl 0 rfl) ?_
    refine va_get (D := D) (ci := 1) (v := .int sc) (C := RX1) (T := TX1) (N := 5) hx hb hts k_inX1 hown hK hP 0 rfl rfl 2 (by decide) (hts _ kw_156) (fun _ h9 => h9) rfl dX1_append_9 ?_
    refine lv_iconst (v := 1) hx hb dX1_append_12 (by decide) ?_
    refine lv_iadd hx hb dX1_append_13 ?_
    refine lv_bipush (v := 16) hx hb dX1_append_14 (by decide) ?_
    refine lv_irem hx hb dX1_append_16 (by decide) ?_
    refine lv_aload_n hx hb dX1_append_17 rfl (lv_at hl 0 rfl) ?_
    refine va_get (D := D) (ci := 1) (v := .ref aM) (C := RX1) (T := TX1) (N := 5) hx hb hts k_inX1 hown hK hP 0 rfl rfl 0 (by decide) (hts _ kw_154) (fun _ h9 => h9) rfl dX1_append_18 ?_
    refine lv_aload_n hx hb dX1_append_21 rfl (lv_at hl 0 rfl) ?_
    refine va_get (D := D) (ci := 1) (v := .int sc) (C := RX1) (T := TX1) (N := 5) hx hb hts k_inX1 hown hK hP 0 rfl rfl 2 (by decide) (hts _ kw_156) (fun _ h9 => h9) rfl dX1_append_22 ?_
    refine lv_iconst (v := 0) hx hb dX1_append_25 (by decide) ?_
    refine k_rdVi (As := [.int sc, .int (0 : Int32)]) (rest := [.int ((sc + (1 : Int32)) - (sc + (1 : Int32)) / (16 : Int32) * (16 : Int32)), .ref aJ]) (ci := 2) (q0 := 0) ⟨hx, hb, hml, hown, hts⟩ k_self (c_X2_read l D aM aw ae cA pw ce lf mq ct wd er sc (0 : Int32)) kv_X1_38 (hP.sub [1, 2, 3] rfl) (hK.sub [0] rfl) rfl rfl rfl rfl ⟨Nat.le_of_ble_eq_true rfl, Nat.le_of_ble_eq_true rfl⟩ rfl hl.1 rfl (Nat.le_of_ble_eq_true rfl) dX1_append_26 ⟨Nat.zero_le _, Nat.zero_le _⟩ ?_
    refine lv_iconst (v := 1) hx hb dX1_append_29 (by decide) ?_
    refine lv_iadd hx hb dX1_append_30 ?_
    rcases hq_31 : spX1_startSector sc rc la pw ce lf mq ct wd er bw ((sc + (1 : Int32)) - (sc + (1 : Int32)) / (16 : Int32) * (16 : Int32)) ((spX2_read wd sc (0 : Int32)) + (1 : Int32)) with ⟨r_31, sc_31, rc_31, pw_31, ce_31, lf_31, ct_31, wd_31, er_31⟩
    have hM_31 : kWi l yX1_startSector cX1_startSector 4 (some .boolean) { frames := 3, cells := 0, slots := 0, locals := 69 } D [(cA, .int)] [.ref aJ, .int ((sc + (1 : Int32)) - (sc + (1 : Int32)) / (16 : Int32) * (16 : Int32)), .int ((spX2_read wd sc (0 : Int32)) + (1 : Int32))] (wJ aJ aM aw ae aB ab cA sc rc la pw ce lf mq ct wd er bw) r_31 (wJ aJ aM aw ae aB ab cA sc_31 rc_31 la pw_31 ce_31 lf_31 mq ct_31 wd_31 er_31 bw) := by
      have h := c_X1_startSector l D aJ aM aw ae aB ab cA sc rc la pw ce lf mq ct wd er bw ((sc + (1 : Int32)) - (sc + (1 : Int32)) / (16 : Int32) * (16 : Int32)) ((spX2_read wd sc (0 : Int32)) + (1 : Int32))
      rw [hq_31] at h
      exact h
    refine k_wrVi (As := [.int ((sc + (1 : Int32)) - (sc + (1 : Int32)) / (16 : Int32) * (16 : Int32)), .int ((spX2_read wd sc (0 : Int32)) + (1 : Int32))]) (rest := []) (ci := 1) (q0 := 0) (ws' := (wJ aJ aM aw ae aB ab cA sc_31 rc_31 la pw_31 ce_31 lf_31 mq ct_31 wd_31 er_31 bw)) (wr := []) ⟨hx, hb, hml, hown, hts⟩ k_self hM_31 kv_X1_21 hP hD hS hA hK rfl rfl [0, 1, 2, 3, 4, 5] [] [0, 1, 2, 3, 4, 5] rfl (by decide) rfl (by decide) (by decide) rfl (by decide) rfl rfl ⟨Nat.le_of_ble_eq_true rfl, Nat.le_of_ble_eq_true rfl⟩ rfl hl.1 rfl (Nat.le_of_ble_eq_true rfl) dX1_append_31 ⟨Nat.zero_le _, Nat.zero_le _⟩ (fun H locs hP hD hS => ?_)
    refine lv_if_ne (tgt := 40) hx hb dX1_append_34 (by decide) (fun c_34 => ?_) (fun c_34 => ?_)
    · refine lv_aload_n hx hb dX1_append_40 rfl (lv_at hl 0 rfl) ?_
      refine va_get (D := D) (ci := 1) (v := .int rc_31) (C := RX1) (T := TX1) (N := 5) hx hb hts k_inX1 hown hK hP 0 rfl rfl 3 (by decide) (hts _ kw_157) (fun _ h9 => h9) rfl dX1_append_41 ?_
      refine k_rdSi (As := [.int rc_31]) (rest := []) ⟨hx, hb, hml, hown, hts⟩ k_self (c_X1_recordAt l rc_31) kv_X1_45 rfl rfl ⟨Nat.le_of_ble_eq_true rfl, Nat.le_of_ble_eq_true rfl⟩ rfl hl.1 rfl (Nat.le_of_ble_eq_true rfl) dX1_append_44 ⟨Nat.zero_le _, Nat.zero_le _⟩ ?_
      refine lv_istore (lv' := [(4, .int (spX1_recordAt rc_31)), (0, .ref aJ), (1, .int p1), (2, .int p2), (3, .int p3)]) hx hb dX1_append_47 hl (by decide) rfl (fun ls hl => ?_)
      refine lv_aload_n hx hb dX1_append_49 rfl (lv_at hl 1 rfl) ?_
      refine va_get (D := D) (ci := 1) (v := .ref aM) (C := RX1) (T := TX1) (N := 5) hx hb hts k_inX1 hown hK hP 0 rfl rfl 0 (by decide) (hts _ kw_154) (fun _ h9 => h9) rfl dX1_append_50 ?_
      refine lv_aload_n hx hb dX1_append_53 rfl (lv_at hl 1 rfl) ?_
      refine va_get (D := D) (ci := 1) (v := .int sc_31) (C := RX1) (T := TX1) (N := 5) hx hb hts k_inX1 hown hK hP 0 rfl rfl 2 (by decide) (hts _ kw_156) (fun _ h9 => h9) rfl dX1_append_54 ?_
      refine lv_iload hx hb dX1_append_57 (lv_at hl 0 rfl) ?_
      refine lv_aload_n hx hb dX1_append_59 rfl (lv_at hl 1 rfl) ?_
      refine va_get (D := D) (ci := 1) (v := .int la) (C := RX1) (T := TX1) (N := 5) hx hb hts k_inX1 hown hK hP 0 rfl rfl 4 (by decide) (hts _ kw_158) (fun _ h9 => h9) rfl dX1_append_60 ?_
      refine lv_iconst (v := 1) hx hb dX1_append_63 (by decide) ?_
      refine lv_iadd hx hb dX1_append_64 ?_
      rcases hq_65 : spX2_write pw_31 ce_31 lf_31 ct_31 wd_31 sc_31 (spX1_recordAt rc_31) (la + (1 : Int32)) with ⟨r_65, pw_65, ce_65, lf_65, ct_65, wd_65⟩
      have hM_65 : kWi l yX2_write cX2_write 4 (some .boolean) { frames := 1, cells := 0, slots := 0, locals := 22 } D [(cA, .int)] [.ref aM, .int sc_31, .int (spX1_recordAt rc_31), .int (la + (1 : Int32))] (wM aM aw ae cA pw_31 ce_31 lf_31 mq ct_31 wd_31 er_31) r_65 (wM aM aw ae cA pw_65 ce_65 lf_65 mq ct_65 wd_65 er_31) := by
        have h := c_X2_write l D aM aw ae cA pw_31 ce_31 lf_31 mq ct_31 wd_31 er_31 sc_31 (spX1_recordAt rc_31) (la + (1 : Int32))
        rw [hq_65] at h
        exact h
      refine k_wrVi (As := [.int sc_31, .int (spX1_recordAt rc_31), .int (la + (1 : Int32))]) (rest := []) (ci := 2) (q0 := 0) (ws' := (wJ aJ aM aw ae aB ab cA sc_31 rc_31 la pw_65 ce_65 lf_65 mq ct_65 wd_65 er_31 bw)) (wr := [(aJ, .inr (1, [.ref aM, .ref aB, .int sc_31, .int rc_31, .int la])), (aB, .inr (0, [.ref ab])), (ab, .inl (cA, 191, .inl bw))]) ⟨hx, hb, hml, hown, hts⟩ k_self hM_65 kv_X1_49 hP hD hS hA hK rfl rfl [1, 2, 3] [0, 4, 5] [0, 3, 4, 5, 1, 2] rfl (by decide) rfl (by decide) (by decide) rfl (by decide) rfl rfl ⟨Nat.le_of_ble_eq_true rfl, Nat.le_of_ble_eq_true rfl⟩ rfl hl.1 rfl (Nat.le_of_ble_eq_true rfl) dX1_append_65 ⟨Nat.zero_le _, Nat.zero_le _⟩ (fun H locs hP hD hS => ?_)
      refine lv_if_eq (tgt := 164) hx hb dX1_append_68 (by decide) (fun c_68 => ?_) (fun c_68 => ?_)
      · refine lv_iconst (v := 0) hx hb dX1_append_164 (by decide) ?_
        refine lv_istore (lv' := [(5, .int (0 : Int32)), (4, .int (spX1_recordAt rc_31)), (0, .ref aJ), (1, .int p1), (2, .int p2), (3, .int p3)]) hx hb dX1_append_165 hl (by decide) rfl (fun ls hl => ?_)
        refine lv_iload hx hb dX1_append_167 (lv_at hl 0 rfl) ?_
        refine lv_if_ne (tgt := 175) hx hb dX1_append_169 (by decide) (fun c_169 => ?_) (fun c_169 => ?_)
        · exact absurd c_169 (by decide)
        · refine lv_bipush (v := -7) hx hb dX1_append_172 (by decide) ?_
          have hE : spX1_append sc rc la pw ce lf mq ct wd er bw p1 p2 p3 = ((-7 : Int32), sc_31, rc_31, la, pw_65, ce_65, lf_65, ct_65, wd_65, er_31, bw) := by unfold spX1_append; rw [if_pos c_4]; rw [hq_31]; dsimp only; rw [if_neg c_34]; rw [hq_65]; dsimp only; rw [if_pos c_68]
          exact W.iret (v := (-7 : Int32)) hx hb hr (fun t ht hW => ⟨⟨(-7 : Int32), (), rfl, by rw [hE], by rw [hE, ht]; exact hP, va_K.moved hW.alike hK, by rw [hE]; exact hD⟩, hS.F ht⟩) hS.2.2 dX1_append_174
      · refine lv_aload_n hx hb dX1_append_71 rfl (lv_at hl 1 rfl) ?_
        refine va_get (D := D) (ci := 1) (v := .ref aM) (C := RX1) (T := TX1) (N := 5) hx hb hts k_inX1 hown hK hP 0 rfl rfl 0 (by decide) (hts _ kw_154) (fun _ h9 => h9) rfl dX1_append_72 ?_
        refine lv_aload_n hx hb dX1_append_75 rfl (lv_at hl 1 rfl) ?_
        refine va_get (D := D) (ci := 1) (v := .int sc_31) (C := RX1) (T := TX1) (N := 5) hx hb hts k_inX1 hown hK hP 0 rfl rfl 2 (by decide) (hts _ kw_156) (fun _ h9 => h9) rfl dX1_append_76 ?_
        refine lv_iload hx hb dX1_append_79 (lv_at hl 0 rfl) ?_
        refine lv_iconst (v := 1) hx hb dX1_append_81 (by decide) ?_
        refine lv_iadd hx hb dX1_append_82 ?_
        refine lv_iload_n hx hb dX1_append_83 rfl (lv_at hl 2 rfl) ?_
        rcases hq_84 : spX2_write pw_65 ce_65 lf_65 ct_65 wd_65 sc_31 ((spX1_recordAt rc_31) + (1 : Int32)) p1 with ⟨r_84, pw_84, ce_84, lf_84, ct_84, wd_84⟩
        have hM_84 : kWi l yX2_write cX2_write 4 (some .boolean) { frames := 1, cells := 0, slots := 0, locals := 22 } D [(cA, .int)] [.ref aM, .int sc_31, .int ((spX1_recordAt rc_31) + (1 : Int32)), .int p1] (wM aM aw ae cA pw_65 ce_65 lf_65 mq ct_65 wd_65 er_31) r_84 (wM aM aw ae cA pw_84 ce_84 lf_84 mq ct_84 wd_84 er_31) := by
          have h := c_X2_write l D aM aw ae cA pw_65 ce_65 lf_65 mq ct_65 wd_65 er_31 sc_31 ((spX1_recordAt rc_31) + (1 : Int32)) p1
          rw [hq_84] at h
          exact h
        refine k_wrVi (As := [.int sc_31, .int ((spX1_recordAt rc_31) + (1 : Int32)), .int p1]) (rest := []) (ci := 2) (q0 := 0) (ws' := (wJ aJ aM aw ae aB ab cA sc_31 rc_31 la pw_84 ce_84 lf_84 mq ct_84 wd_84 er_31 bw)) (wr := [(aJ, .inr (1, [.ref aM, .ref aB, .int sc_31, .int rc_31, .int la])), (aB, .inr (0, [.ref ab])), (ab, .inl (cA, 191, .inl bw))]) ⟨hx, hb, hml, hown, hts⟩ k_self hM_84 kv_X1_49 hP hD hS hA hK rfl rfl [1, 2, 3] [0, 4, 5] [0, 3, 4, 5, 1, 2] rfl (by decide) rfl (by decide) (by decide) rfl (by decide) rfl rfl ⟨Nat.le_of_ble_eq_true rfl, Nat.le_of_ble_eq_true rfl⟩ rfl hl.1 rfl (Nat.le_of_ble_eq_true rfl) dX1_append_84 ⟨Nat.zero_le _, Nat.zero_le _⟩ (fun H locs hP hD hS => ?_)
        refine lv_if_eq (tgt := 164) hx hb dX1_append_87 (by decide) (fun c_87 => ?_) (fun c_87 => ?_)
        · refine lv_iconst (v := 0) hx hb dX1_append_164 (by decide) ?_
          refine lv_istore (lv' := [(5, .int (0 : Int32)), (4, .int (spX1_recordAt rc_31)), (0, .ref aJ), (1, .int p1), (2, .int p2), (3, .int p3)]) hx hb dX1_append_165 hl (by decide) rfl (fun ls hl => ?_)
          refine lv_iload hx hb dX1_append_167 (lv_at hl 0 rfl) ?_
          refine lv_if_ne (tgt := 175) hx hb dX1_append_169 (by decide) (fun c_169 => ?_) (fun c_169 => ?_)
          · exact absurd c_169 (by decide)
          · refine lv_bipush (v := -7) hx hb dX1_append_172 (by decide) ?_
            have hE : spX1_append sc rc la pw ce lf mq ct wd er bw p1 p2 p3 = ((-7 : Int32), sc_31, rc_31, la, pw_84, ce_84, lf_84, ct_84, wd_84, er_31, bw) := by unfold spX1_append; rw [if_pos c_4]; rw [hq_31]; dsimp only; rw [if_neg c_34]; rw [hq_65]; dsimp only; rw [if_neg c_68]; rw [hq_84]; dsimp only; rw [if_pos c_87]
            exact W.iret (v := (-7 : Int32)) hx hb hr (fun t ht hW => ⟨⟨(-7 : Int32), (), rfl, by rw [hE], by rw [hE, ht]; exact hP, va_K.moved hW.alike hK, by rw [hE]; exact hD⟩, hS.F ht⟩) hS.2.2 dX1_append_174
        · refine lv_aload_n hx hb dX1_append_90 rfl (lv_at hl 1 rfl) ?_
          refine va_get (D := D) (ci := 1) (v := .ref aM) (C := RX1) (T := TX1) (N := 5) hx hb hts k_inX1 hown hK hP 0 rfl rfl 0 (by decide) (hts _ kw_154) (fun _ h9 => h9) rfl dX1_append_91 ?_
          refine lv_aload_n hx hb dX1_append_94 rfl (lv_at hl 1 rfl) ?_
          refine va_get (D := D) (ci := 1) (v := .int sc_31) (C := RX1) (T := TX1) (N := 5) hx hb hts k_inX1 hown hK hP 0 rfl rfl 2 (by decide) (hts _ kw_156) (fun _ h9 => h9) rfl dX1_append_95 ?_
          refine lv_iload hx hb dX1_append_98 (lv_at hl 0 rfl) ?_
          refine lv_iconst (v := 2) hx hb dX1_append_100 (by decide) ?_
          refine lv_iadd hx hb dX1_append_101 ?_
          refine lv_iload_n hx hb dX1_append_102 rfl (lv_at hl 3 rfl) ?_
          rcases hq_103 : spX2_write pw_84 ce_84 lf_84 ct_84 wd_84 sc_31 ((spX1_recordAt rc_31) + (2 : Int32)) p2 with ⟨r_103, pw_103, ce_103, lf_103, ct_103, wd_103⟩
          have hM_103 : kWi l yX2_write cX2_write 4 (some .boolean) { frames := 1, cells := 0, slots := 0, locals := 22 } D [(cA, .int)] [.ref aM, .int sc_31, .int ((spX1_recordAt rc_31) + (2 : Int32)), .int p2] (wM aM aw ae cA pw_84 ce_84 lf_84 mq ct_84 wd_84 er_31) r_103 (wM aM aw ae cA pw_103 ce_103 lf_103 mq ct_103 wd_103 er_31) := by
            have h := c_X2_write l D aM aw ae cA pw_84 ce_84 lf_84 mq ct_84 wd_84 er_31 sc_31 ((spX1_recordAt rc_31) + (2 : Int32)) p2
            rw [hq_103] at h
            exact h
          refine k_wrVi (As := [.int sc_31, .int ((spX1_recordAt rc_31) + (2 : Int32)), .int p2]) (rest := []) (ci := 2) (q0 := 0) (ws' := (wJ aJ aM aw ae aB ab cA sc_31 rc_31 la pw_103 ce_103 lf_103 mq ct_103 wd_103 er_31 bw)) (wr := [(aJ, .inr (1, [.ref aM, .ref aB, .int sc_31, .int rc_31, .int la])), (aB, .inr (0, [.ref ab])), (ab, .inl (cA, 191, .inl bw))]) ⟨hx, hb, hml, hown, hts⟩ k_self hM_103 kv_X1_49 hP hD hS hA hK rfl rfl [1, 2, 3] [0, 4, 5] [0, 3, 4, 5, 1, 2] rfl (by decide) rfl (by decide) (by decide) rfl (by decide) rfl rfl ⟨Nat.le_of_ble_eq_true rfl, Nat.le_of_ble_eq_true rfl⟩ rfl hl.1 rfl (Nat.le_of_ble_eq_true rfl) dX1_append_103 ⟨Nat.zero_le _, Nat.zero_le _⟩ (fun H locs hP hD hS => ?_)
          refine lv_if_eq (tgt := 164) hx hb dX1_append_106 (by decide) (fun c_106 => ?_) (fun c_106 => ?_)
          · refine lv_iconst (v := 0) hx hb dX1_append_164 (by decide) ?_
            refine lv_istore (lv' := [(5, .int (0 : Int32)), (4, .int (spX1_recordAt rc_31)), (0, .ref aJ), (1, .int p1), (2, .int p2), (3, .int p3)]) hx hb dX1_append_165 hl (by decide) rfl (fun ls hl => ?_)
            refine lv_iload hx hb dX1_append_167 (lv_at hl 0 rfl) ?_
            refine lv_if_ne (tgt := 175) hx hb dX1_append_169 (by decide) (fun c_169 => ?_) (fun c_169 => ?_)
            · exact absurd c_169 (by decide)
            · refine lv_bipush (v := -7) hx hb dX1_append_172 (by decide) ?_
              have hE : spX1_append sc rc la pw ce lf mq ct wd er bw p1 p2 p3 = ((-7 : Int32), sc_31, rc_31, la, pw_103, ce_103, lf_103, ct_103, wd_103, er_31, bw) := by unfold spX1_append; rw [if_pos c_4]; rw [hq_31]; dsimp only; rw [if_neg c_34]; rw [hq_65]; dsimp only; rw [if_neg c_68]; rw [hq_84]; dsimp only; rw [if_neg c_87]; rw [hq_103]; dsimp only; rw [if_pos c_106]
              exact W.iret (v := (-7 : Int32)) hx hb hr (fun t ht hW => ⟨⟨(-7 : Int32), (), rfl, by rw [hE], by rw [hE, ht]; exact hP, va_K.moved hW.alike hK, by rw [hE]; exact hD⟩, hS.F ht⟩) hS.2.2 dX1_append_174
          · refine lv_aload_n hx hb dX1_append_109 rfl (lv_at hl 1 rfl) ?_
            refine va_get (D := D) (ci := 1) (v := .ref aM) (C := RX1) (T := TX1) (N := 5) hx hb hts k_inX1 hown hK hP 0 rfl rfl 0 (by decide) (hts _ kw_154) (fun _ h9 => h9) rfl dX1_append_110 ?_
            refine lv_aload_n hx hb dX1_append_113 rfl (lv_at hl 1 rfl) ?_
            refine va_get (D := D) (ci := 1) (v := .int sc_31) (C := RX1) (T := TX1) (N := 5) hx hb hts k_inX1 hown hK hP 0 rfl rfl 2 (by decide) (hts _ kw_156) (fun _ h9 => h9) rfl dX1_append_114 ?_
            refine lv_iload hx hb dX1_append_117 (lv_at hl 0 rfl) ?_
            refine lv_iconst (v := 3) hx hb dX1_append_119 (by decide) ?_
            refine lv_iadd hx hb dX1_append_120 ?_
            refine lv_iload_n hx hb dX1_append_121 rfl (lv_at hl 4 rfl) ?_
            rcases hq_122 : spX2_write pw_103 ce_103 lf_103 ct_103 wd_103 sc_31 ((spX1_recordAt rc_31) + (3 : Int32)) p3 with ⟨r_122, pw_122, ce_122, lf_122, ct_122, wd_122⟩
            have hM_122 : kWi l yX2_write cX2_write 4 (some .boolean) { frames := 1, cells := 0, slots := 0, locals := 22 } D [(cA, .int)] [.ref aM, .int sc_31, .int ((spX1_recordAt rc_31) + (3 : Int32)), .int p3] (wM aM aw ae cA pw_103 ce_103 lf_103 mq ct_103 wd_103 er_31) r_122 (wM aM aw ae cA pw_122 ce_122 lf_122 mq ct_122 wd_122 er_31) := by
              have h := c_X2_write l D aM aw ae cA pw_103 ce_103 lf_103 mq ct_103 wd_103 er_31 sc_31 ((spX1_recordAt rc_31) + (3 : Int32)) p3
              rw [hq_122] at h
              exact h
            refine k_wrVi (As := [.int sc_31, .int ((spX1_recordAt rc_31) + (3 : Int32)), .int p3]) (rest := []) (ci := 2) (q0 := 0) (ws' := (wJ aJ aM aw ae aB ab cA sc_31 rc_31 la pw_122 ce_122 lf_122 mq ct_122 wd_122 er_31 bw)) (wr := [(aJ, .inr (1, [.ref aM, .ref aB, .int sc_31, .int rc_31, .int la])), (aB, .inr (0, [.ref ab])), (ab, .inl (cA, 191, .inl bw))]) ⟨hx, hb, hml, hown, hts⟩ k_self hM_122 kv_X1_49 hP hD hS hA hK rfl rfl [1, 2, 3] [0, 4, 5] [0, 3, 4, 5, 1, 2] rfl (by decide) rfl (by decide) (by decide) rfl (by decide) rfl rfl ⟨Nat.le_of_ble_eq_true rfl, Nat.le_of_ble_eq_true rfl⟩ rfl hl.1 rfl (Nat.le_of_ble_eq_true rfl) dX1_append_122 ⟨Nat.zero_le _, Nat.zero_le _⟩ (fun H locs hP hD hS => ?_)
            refine lv_if_eq (tgt := 164) hx hb dX1_append_125 (by decide) (fun c_125 => ?_) (fun c_125 => ?_)
            · refine lv_iconst (v := 0) hx hb dX1_append_164 (by decide) ?_
              refine lv_istore (lv' := [(5, .int (0 : Int32)), (4, .int (spX1_recordAt rc_31)), (0, .ref aJ), (1, .int p1), (2, .int p2), (3, .int p3)]) hx hb dX1_append_165 hl (by decide) rfl (fun ls hl => ?_)
              refine lv_iload hx hb dX1_append_167 (lv_at hl 0 rfl) ?_
              refine lv_if_ne (tgt := 175) hx hb dX1_append_169 (by decide) (fun c_169 => ?_) (fun c_169 => ?_)
              · exact absurd c_169 (by decide)
              · refine lv_bipush (v := -7) hx hb dX1_append_172 (by decide) ?_
                have hE : spX1_append sc rc la pw ce lf mq ct wd er bw p1 p2 p3 = ((-7 : Int32), sc_31, rc_31, la, pw_122, ce_122, lf_122, ct_122, wd_122, er_31, bw) := by unfold spX1_append; rw [if_pos c_4]; rw [hq_31]; dsimp only; rw [if_neg c_34]; rw [hq_65]; dsimp only; rw [if_neg c_68]; rw [hq_84]; dsimp only; rw [if_neg c_87]; rw [hq_103]; dsimp only; rw [if_neg c_106]; rw [hq_122]; dsimp only; rw [if_pos c_125]
                exact W.iret (v := (-7 : Int32)) hx hb hr (fun t ht hW => ⟨⟨(-7 : Int32), (), rfl, by rw [hE], by rw [hE, ht]; exact hP, va_K.moved hW.alike hK, by rw [hE]; exact hD⟩, hS.F ht⟩) hS.2.2 dX1_append_174
            · refine lv_aload_n hx hb dX1_append_128 rfl (lv_at hl 1 rfl) ?_
              refine va_get (D := D) (ci := 1) (v := .ref aM) (C := RX1) (T := TX1) (N := 5) hx hb hts k_inX1 hown hK hP 0 rfl rfl 0 (by decide) (hts _ kw_154) (fun _ h9 => h9) rfl dX1_append_129 ?_
              refine lv_aload_n hx hb dX1_append_132 rfl (lv_at hl 1 rfl) ?_
              refine va_get (D := D) (ci := 1) (v := .int sc_31) (C := RX1) (T := TX1) (N := 5) hx hb hts k_inX1 hown hK hP 0 rfl rfl 2 (by decide) (hts _ kw_156) (fun _ h9 => h9) rfl dX1_append_133 ?_
              refine lv_iload hx hb dX1_append_136 (lv_at hl 0 rfl) ?_
              refine lv_iconst (v := 4) hx hb dX1_append_138 (by decide) ?_
              refine lv_iadd hx hb dX1_append_139 ?_
              refine lv_aload_n hx hb dX1_append_140 rfl (lv_at hl 1 rfl) ?_
              refine va_get (D := D) (ci := 1) (v := .ref aM) (C := RX1) (T := TX1) (N := 5) hx hb hts k_inX1 hown hK hP 0 rfl rfl 0 (by decide) (hts _ kw_154) (fun _ h9 => h9) rfl dX1_append_141 ?_
              refine lv_aload_n hx hb dX1_append_144 rfl (lv_at hl 1 rfl) ?_
              refine va_get (D := D) (ci := 1) (v := .int sc_31) (C := RX1) (T := TX1) (N := 5) hx hb hts k_inX1 hown hK hP 0 rfl rfl 2 (by decide) (hts _ kw_156) (fun _ h9 => h9) rfl dX1_append_145 ?_
              refine lv_iload hx hb dX1_append_148 (lv_at hl 0 rfl) ?_
              refine lv_iconst (v := 4) hx hb dX1_append_150 (by decide) ?_
              refine k_rdVi (As := [.int sc_31, .int (spX1_recordAt rc_31), .int (4 : Int32)]) (rest := [.int ((spX1_recordAt rc_31) + (4 : Int32)), .int sc_31, .ref aM]) (ci := 2) (q0 := 0) ⟨hx, hb, hml, hown, hts⟩ k_self (c_X2_markOf l D aM aw ae cA pw_122 ce_122 lf_122 mq ct_122 wd_122 er_31 sc_31 (spX1_recordAt rc_31) (4 : Int32)) kv_X1_53 (hP.sub [1, 2, 3] rfl) (hK.sub [0] rfl) rfl rfl rfl rfl ⟨Nat.le_of_ble_eq_true rfl, Nat.le_of_ble_eq_true rfl⟩ rfl hl.1 rfl (Nat.le_of_ble_eq_true rfl) dX1_append_151 ⟨Nat.zero_le _, Nat.zero_le _⟩ ?_
              rcases hq_154 : spX2_write pw_122 ce_122 lf_122 ct_122 wd_122 sc_31 ((spX1_recordAt rc_31) + (4 : Int32)) (spX2_markOf wd_122 sc_31 (spX1_recordAt rc_31) (4 : Int32)) with ⟨r_154, pw_154, ce_154, lf_154, ct_154, wd_154⟩
              have hM_154 : kWi l yX2_write cX2_write 4 (some .boolean) { frames := 1, cells := 0, slots := 0, locals := 22 } D [(cA, .int)] [.ref aM, .int sc_31, .int ((spX1_recordAt rc_31) + (4 : Int32)), .int (spX2_markOf wd_122 sc_31 (spX1_recordAt rc_31) (4 : Int32))] (wM aM aw ae cA pw_122 ce_122 lf_122 mq ct_122 wd_122 er_31) r_154 (wM aM aw ae cA pw_154 ce_154 lf_154 mq ct_154 wd_154 er_31) := by
                have h := c_X2_write l D aM aw ae cA pw_122 ce_122 lf_122 mq ct_122 wd_122 er_31 sc_31 ((spX1_recordAt rc_31) + (4 : Int32)) (spX2_markOf wd_122 sc_31 (spX1_recordAt rc_31) (4 : Int32))
                rw [hq_154] at h
                exact h
              refine k_wrVi (As := [.int sc_31, .int ((spX1_recordAt rc_31) + (4 : Int32)), .int (spX2_markOf wd_122 sc_31 (spX1_recordAt rc_31) (4 : Int32))]) (rest := []) (ci := 2) (q0 := 0) (ws' := (wJ aJ aM aw ae aB ab cA sc_31 rc_31 la pw_154 ce_154 lf_154 mq ct_154 wd_154 er_31 bw)) (wr := [(aJ, .inr (1, [.ref aM, .ref aB, .int sc_31, .int rc_31, .int la])), (aB, .inr (0, [.ref ab])), (ab, .inl (cA, 191, .inl bw))]) ⟨hx, hb, hml, hown, hts⟩ k_self hM_154 kv_X1_49 hP hD hS hA hK rfl rfl [1, 2, 3] [0, 4, 5] [0, 3, 4, 5, 1, 2] rfl (by decide) rfl (by decide) (by decide) rfl (by decide) rfl rfl ⟨Nat.le_of_ble_eq_true rfl, Nat.le_of_ble_eq_true rfl⟩ rfl hl.1 rfl (Nat.le_of_ble_eq_true rfl) dX1_append_154 ⟨Nat.zero_le _, Nat.zero_le _⟩ (fun H locs hP hD hS => ?_)
              refine lv_if_eq (tgt := 164) hx hb dX1_append_157 (by decide) (fun c_157 => ?_) (fun c_157 => ?_)
              · refine lv_iconst (v := 0) hx hb dX1_append_164 (by decide) ?_
                refine lv_istore (lv' := [(5, .int (0 : Int32)), (4, .int (spX1_recordAt rc_31)), (0, .ref aJ), (1, .int p1), (2, .int p2), (3, .int p3)]) hx hb dX1_append_165 hl (by decide) rfl (fun ls hl => ?_)
                refine lv_iload hx hb dX1_append_167 (lv_at hl 0 rfl) ?_
                refine lv_if_ne (tgt := 175) hx hb dX1_append_169 (by decide) (fun c_169 => ?_) (fun c_169 => ?_)
                · exact absurd c_169 (by decide)
                · refine lv_bipush (v := -7) hx hb dX1_append_172 (by decide) ?_
                  have hE : spX1_append sc rc la pw ce lf mq ct wd er bw p1 p2 p3 = ((-7 : Int32), sc_31, rc_31, la, pw_154, ce_154, lf_154, ct_154, wd_154, er_31, bw) := by unfold spX1_append; rw [if_pos c_4]; rw [hq_31]; dsimp only; rw [if_neg c_34]; rw [hq_65]; dsimp only; rw [if_neg c_68]; rw [hq_84]; dsimp only; rw [if_neg c_87]; rw [hq_103]; dsimp only; rw [if_neg c_106]; rw [hq_122]; dsimp only; rw [if_neg c_125]; rw [hq_154]; dsimp only; rw [if_pos c_157]
                  exact W.iret (v := (-7 : Int32)) hx hb hr (fun t ht hW => ⟨⟨(-7 : Int32), (), rfl, by rw [hE], by rw [hE, ht]; exact hP, va_K.moved hW.alike hK, by rw [hE]; exact hD⟩, hS.F ht⟩) hS.2.2 dX1_append_174
              · refine lv_iconst (v := 1) hx hb dX1_append_160 (by decide) ?_
                refine lv_goto (tgt := 165) hx hb dX1_append_161 (by decide) ?_
                refine lv_istore (lv' := [(5, .int (1 : Int32)), (4, .int (spX1_recordAt rc_31)), (0, .ref aJ), (1, .int p1), (2, .int p2), (3, .int p3)]) hx hb dX1_append_165 hl (by decide) rfl (fun ls hl => ?_)
                refine lv_iload hx hb dX1_append_167 (lv_at hl 0 rfl) ?_
                refine lv_if_ne (tgt := 175) hx hb dX1_append_169 (by decide) (fun c_169 => ?_) (fun c_169 => ?_)
                · refine lv_aload_n hx hb dX1_append_175 rfl (lv_at hl 2 rfl) ?_
                  refine va_get (D := D) (ci := 1) (v := .ref aB) (C := RX1) (T := TX1) (N := 5) hx hb hts k_inX1 hown hK hP 0 rfl rfl 1 (by decide) (hts _ kw_155) (fun _ h9 => h9) rfl dX1_append_176 ?_
                  refine lv_iload_n hx hb dX1_append_179 rfl (lv_at hl 3 rfl) ?_
                  refine lv_iload_n hx hb dX1_append_180 rfl (lv_at hl 4 rfl) ?_
                  refine lv_iload_n hx hb dX1_append_181 rfl (lv_at hl 5 rfl) ?_
                  refine k_wrVv (As := [.int p1, .int p2, .int p3]) (rest := []) (ci := 0) (q0 := 0) (ws' := (wJ aJ aM aw ae aB ab cA sc_31 rc_31 la pw_154 ce_154 lf_154 mq ct_154 wd_154 er_31 (spX0_apply bw p1 p2 p3))) (wr := [(aJ, .inr (1, [.ref aM, .ref aB, .int sc_31, .int rc_31, .int la])), (aM, .inr (2, [.ref aw, .ref ae, .int pw_154, .int ce_154, .int lf_154, .int mq, .int ct_154])), (aw, .inl (cA, 4096, .inl wd_154)), (ae, .inl (cA, 16, .inl er_31))]) ⟨hx, hb, hml, hown, hts⟩ k_self (c_X0_apply l D aB ab cA bw p1 p2 p3) kv_X1_57 hP hD hS hA hK rfl rfl [4, 5] [0, 1, 2, 3] [0, 1, 2, 3, 4, 5] rfl (by decide) rfl (by decide) (by decide) rfl (by decide) rfl rfl ⟨Nat.le_of_ble_eq_true rfl, Nat.le_of_ble_eq_true rfl⟩ rfl hl.1 rfl (Nat.le_of_ble_eq_true rfl) dX1_append_182 ⟨Nat.zero_le _, Nat.zero_le _⟩ (fun H locs hP hD hS => ?_)
                  refine lv_aload_n hx hb dX1_append_185 rfl (lv_at hl 2 rfl) ?_
                  refine lv_dup hx hb dX1_append_186 rfl ?_
                  refine va_get (D := D) (ci := 1) (v := .int rc_31) (C := RX1) (T := TX1) (N := 5) hx hb hts k_inX1 hown hK hP 0 rfl rfl 3 (by decide) (hts _ kw_157) (fun _ h9 => h9) rfl dX1_append_187 ?_
                  refine lv_iconst (v := 1) hx hb dX1_append_190 (by decide) ?_
                  refine lv_iadd hx hb dX1_append_191 ?_
                  refine va_put (D := D) (ci := 1) (v := .int (rc_31 + (1 : Int32))) (ty := .int) (C := RX1) (T := TX1) (N := 5) hx hb hts k_inX1 tyX1 tyX1_ok nmX1 hown hK hP hD hS 0 rfl rfl 3 (by decide) (hts _ kw_157) (fun _ h9 => h9) rfl (by decide +kernel) rfl rfl (Nat.le_of_ble_eq_true rfl) dX1_append_192 (fun H locs hP hD hS => ?_)
                  have hP : va_P D vwCl (wJ aJ aM aw ae aB ab cA sc_31 (rc_31 + (1 : Int32)) la pw_154 ce_154 lf_154 mq ct_154 wd_154 er_31 (spX0_apply bw p1 p2 p3)) H := hP
                  have hD : va_D A (wJ aJ aM aw ae aB ab cA sc_31 (rc_31 + (1 : Int32)) la pw_154 ce_154 lf_154 mq ct_154 wd_154 er_31 (spX0_apply bw p1 p2 p3)) := hD
                  refine lv_aload_n hx hb dX1_append_195 rfl (lv_at hl 2 rfl) ?_
                  refine lv_dup hx hb dX1_append_196 rfl ?_
                  refine va_get (D := D) (ci := 1) (v := .int la) (C := RX1) (T := TX1) (N := 5) hx hb hts k_inX1 hown hK hP 0 rfl rfl 4 (by decide) (hts _ kw_158) (fun _ h9 => h9) rfl dX1_append_197 ?_
                  refine lv_iconst (v := 1) hx hb dX1_append_200 (by decide) ?_
                  refine lv_iadd hx hb dX1_append_201 ?_
                  refine va_put (D := D) (ci := 1) (v := .int (la + (1 : Int32))) (ty := .int) (C := RX1) (T := TX1) (N := 5) hx hb hts k_inX1 tyX1 tyX1_ok nmX1 hown hK hP hD hS 0 rfl rfl 4 (by decide) (hts _ kw_158) (fun _ h9 => h9) rfl (by decide +kernel) rfl rfl (Nat.le_of_ble_eq_true rfl) dX1_append_202 (fun H locs hP hD hS => ?_)
                  have hP : va_P D vwCl (wJ aJ aM aw ae aB ab cA sc_31 (rc_31 + (1 : Int32)) (la + (1 : Int32)) pw_154 ce_154 lf_154 mq ct_154 wd_154 er_31 (spX0_apply bw p1 p2 p3)) H := hP
                  have hD : va_D A (wJ aJ aM aw ae aB ab cA sc_31 (rc_31 + (1 : Int32)) (la + (1 : Int32)) pw_154 ce_154 lf_154 mq ct_154 wd_154 er_31 (spX0_apply bw p1 p2 p3)) := hD
                  refine lv_iconst (v := 1) hx hb dX1_append_205 (by decide) ?_
                  have hE : spX1_append sc rc la pw ce lf mq ct wd er bw p1 p2 p3 = ((1 : Int32), sc_31, (rc_31 + (1 : Int32)), (la + (1 : Int32)), pw_154, ce_154, lf_154, ct_154, wd_154, er_31, (spX0_apply bw p1 p2 p3)) := by unfold spX1_append; rw [if_pos c_4]; rw [hq_31]; dsimp only; rw [if_neg c_34]; rw [hq_65]; dsimp only; rw [if_neg c_68]; rw [hq_84]; dsimp only; rw [if_neg c_87]; rw [hq_103]; dsimp only; rw [if_neg c_106]; rw [hq_122]; dsimp only; rw [if_neg c_125]; rw [hq_154]; dsimp only; rw [if_neg c_157]
                  exact W.iret (v := (1 : Int32)) hx hb hr (fun t ht hW => ⟨⟨(1 : Int32), (), rfl, by rw [hE], by rw [hE, ht]; exact hP, va_K.moved hW.alike hK, by rw [hE]; exact hD⟩, hS.F ht⟩) hS.2.2 dX1_append_206
                · exact absurd c_169 (by decide)
    · refine lv_bipush (v := -7) hx hb dX1_append_37 (by decide) ?_
      have hE : spX1_append sc rc la pw ce lf mq ct wd er bw p1 p2 p3 = ((-7 : Int32), sc_31, rc_31, la, pw_31, ce_31, lf_31, ct_31, wd_31, er_31, bw) := by unfold spX1_append; rw [if_pos c_4]; rw [hq_31]; dsimp only; rw [if_pos c_34]
      exact W.iret (v := (-7 : Int32)) hx hb hr (fun t ht hW => ⟨⟨(-7 : Int32), (), rfl, by rw [hE], by rw [hE, ht]; exact hP, va_K.moved hW.alike hK, by rw [hE]; exact hD⟩, hS.F ht⟩) hS.2.2 dX1_append_39
def spX1_isMarked (wd : Nat → Int32) (p1 : Int32) : Int32 := (if (spX2_read wd p1 (193 : Int32)) = (spX2_markOf wd p1 (0 : Int32) (193 : Int32)) then (1 : Int32) else (0 : Int32))
set_option maxHeartbeats 4000000 in
set_option maxRecDepth 100000 in
theorem c_X1_isMarked (l : Launch) (D : va_G) (aJ aM aw ae aB ab : Nat) (cA : ClassId) (sc : Int32) (rc : Int32) (la : Int32) (pw : Int32) (ce : Int32) (lf : Int32) (mq : Int32) (ct : Int32) (wd : Nat → Int32) (er : Nat → Int32) (bw : Nat → Int32) (p1 : Int32)  : kRi l yX1_isMarked cX1_isMarked 2 (some .boolean) { frames := 3, cells := 0, slots := 0, locals := 69 } [.ref aJ, .int p1] (kB D (wJ aJ aM aw ae aB ab cA sc rc la pw ce lf mq ct wd er bw) [(cA, .int)]) (spX1_isMarked wd p1) := by
  refine Met.ofW (cc := cX1_isMarked) (maxL := 2) (ret := (some .boolean)) (by decide) rfl ?_
  intro p e s m args below meth c s₁ B hml hv
  obtain ⟨rfl, hP, hK⟩ := hv
  have hx := B.exec
  have hb := B.bytes
  have hr := B.returns
  have hts : ∀ w ∈ kG, w.before _ s = true := fun w h => atoms_spec (ws := kT yX1_isMarked cX1_isMarked 2 (some .boolean)) B.pre w (List.mem_cons_of_mem _ h)
  have hown : s.vm.findClass RX1 = some m.cls := findClass_of_methodNamed B.named
  have hlocks := B.notSynchronized
  have hl := lv_entry ([.ref aJ, .int p1]) (n := 2) (Nat.le_of_ble_eq_true rfl)
  rw [lg_entry_eq]
  generalize (lg_sl ([.ref aJ, .int p1]) ++ List.replicate (2 - (lg_sl ([.ref aJ, .int p1])).length) Slot.unset).toArray = ls at hl ⊢
  have hl : lv_has ls 2 [(0, .ref aJ), (1, .int p1)] := hl
  refine lv_aload_n hx hb dX1_isMarked_0 rfl (lv_at hl 0 rfl) ?_
  refine va_get (D := D) (ci := 1) (v := .ref aM) (C := RX1) (T := TX1) (N := 5) hx hb hts k_inX1 hown hK hP 0 rfl rfl 0 (by decide) (hts _ kw_154) (fun _ h9 => h9) rfl dX1_isMarked_1 ?_
  refine lv_iload_n hx hb dX1_isMarked_4 rfl (lv_at hl 1 rfl) ?_
  refine lv_sipush (v := 193) hx hb dX1_isMarked_5 (by decide) ?_
  refine k_rdVi (As := [.int p1, .int (193 : Int32)]) (rest := []) (ci := 2) (q0 := 0) ⟨hx, hb, hml, hown, hts⟩ k_self (c_X2_read l D aM aw ae cA pw ce lf mq ct wd er p1 (193 : Int32)) kv_X1_38 (hP.sub [1, 2, 3] rfl) (hK.sub [0] rfl) rfl rfl rfl rfl ⟨Nat.le_of_ble_eq_true rfl, Nat.le_of_ble_eq_true rfl⟩ rfl hl.1 rfl (Nat.le_of_ble_eq_true rfl) dX1_isMarked_8 ⟨Nat.zero_le _, Nat.zero_le _⟩ ?_
  refine lv_aload_n hx hb dX1_isMarked_11 rfl (lv_at hl 0 rfl) ?_
  refine va_get (D := D) (ci := 1) (v := .ref aM) (C := RX1) (T := TX1) (N := 5) hx hb hts k_inX1 hown hK hP 0 rfl rfl 0 (by decide) (hts _ kw_154) (fun _ h9 => h9) rfl dX1_isMarked_12 ?_
  refine lv_iload_n hx hb dX1_isMarked_15 rfl (lv_at hl 1 rfl) ?_
  refine lv_iconst (v := 0) hx hb dX1_isMarked_16 (by decide) ?_
  refine lv_sipush (v := 193) hx hb dX1_isMarked_17 (by decide) ?_
  refine k_rdVi (As := [.int p1, .int (0 : Int32), .int (193 : Int32)]) (rest := [.int (spX2_read wd p1 (193 : Int32))]) (ci := 2) (q0 := 0) ⟨hx, hb, hml, hown, hts⟩ k_self (c_X2_markOf l D aM aw ae cA pw ce lf mq ct wd er p1 (0 : Int32) (193 : Int32)) kv_X1_53 (hP.sub [1, 2, 3] rfl) (hK.sub [0] rfl) rfl rfl rfl rfl ⟨Nat.le_of_ble_eq_true rfl, Nat.le_of_ble_eq_true rfl⟩ rfl hl.1 rfl (Nat.le_of_ble_eq_true rfl) dX1_isMarked_20 ⟨Nat.zero_le _, Nat.zero_le _⟩ ?_
  refine lv_icmp_ne (tgt := 30) hx hb dX1_isMarked_23 (by decide) (fun c_23 => ?_) (fun c_23 => ?_)
  · refine lv_iconst (v := 0) hx hb dX1_isMarked_30 (by decide) ?_
    exact W.zret (v := (0 : Int32)) hx hb hr rfl (fun t ht hW => ⟨(0 : Int32), rfl, (show _ = _ from (by unfold spX1_isMarked; rw [if_neg c_23] : spX1_isMarked wd p1 = (0 : Int32)).symm), ht⟩) (fun q h => by cases h) dX1_isMarked_31
  · refine lv_iconst (v := 1) hx hb dX1_isMarked_26 (by decide) ?_
    refine lv_goto (tgt := 31) hx hb dX1_isMarked_27 (by decide) ?_
    exact W.zret (v := (1 : Int32)) hx hb hr rfl (fun t ht hW => ⟨(1 : Int32), rfl, (show _ = _ from (by unfold spX1_isMarked; rw [if_pos c_23] : spX1_isMarked wd p1 = (1 : Int32)).symm), ht⟩) (fun q h => by cases h) dX1_isMarked_31
def spX1_isNewer (wd : Nat → Int32) (p1 : Int32) (p2 : Int32) : Int32 := (if (spX2_read wd p1 (0 : Int32)) ≤ (spX2_read wd p2 (0 : Int32)) then (0 : Int32) else (1 : Int32))
set_option maxHeartbeats 4000000 in
set_option maxRecDepth 100000 in
theorem c_X1_isNewer (l : Launch) (D : va_G) (aJ aM aw ae aB ab : Nat) (cA : ClassId) (sc : Int32) (rc : Int32) (la : Int32) (pw : Int32) (ce : Int32) (lf : Int32) (mq : Int32) (ct : Int32) (wd : Nat → Int32) (er : Nat → Int32) (bw : Nat → Int32) (p1 : Int32) (p2 : Int32)  : kRi l yX1_isNewer cX1_isNewer 3 (some .boolean) { frames := 2, cells := 0, slots := 0, locals := 44 } [.ref aJ, .int p1, .int p2] (kB D (wJ aJ aM aw ae aB ab cA sc rc la pw ce lf mq ct wd er bw) [(cA, .int)]) (spX1_isNewer wd p1 p2) := by
  refine Met.ofW (cc := cX1_isNewer) (maxL := 3) (ret := (some .boolean)) (by decide) rfl ?_
  intro p e s m args below meth c s₁ B hml hv
  obtain ⟨rfl, hP, hK⟩ := hv
  have hx := B.exec
  have hb := B.bytes
  have hr := B.returns
  have hts : ∀ w ∈ kG, w.before _ s = true := fun w h => atoms_spec (ws := kT yX1_isNewer cX1_isNewer 3 (some .boolean)) B.pre w (List.mem_cons_of_mem _ h)
  have hown : s.vm.findClass RX1 = some m.cls := findClass_of_methodNamed B.named
  have hlocks := B.notSynchronized
  have hl := lv_entry ([.ref aJ, .int p1, .int p2]) (n := 3) (Nat.le_of_ble_eq_true rfl)
  rw [lg_entry_eq]
  generalize (lg_sl ([.ref aJ, .int p1, .int p2]) ++ List.replicate (3 - (lg_sl ([.ref aJ, .int p1, .int p2])).length) Slot.unset).toArray = ls at hl ⊢
  have hl : lv_has ls 3 [(0, .ref aJ), (1, .int p1), (2, .int p2)] := hl
  refine lv_aload_n hx hb dX1_isNewer_0 rfl (lv_at hl 0 rfl) ?_
  refine va_get (D := D) (ci := 1) (v := .ref aM) (C := RX1) (T := TX1) (N := 5) hx hb hts k_inX1 hown hK hP 0 rfl rfl 0 (by decide) (hts _ kw_154) (fun _ h9 => h9) rfl dX1_isNewer_1 ?_
  refine lv_iload_n hx hb dX1_isNewer_4 rfl (lv_at hl 1 rfl) ?_
  refine lv_iconst (v := 0) hx hb dX1_isNewer_5 (by decide) ?_
  refine k_rdVi (As := [.int p1, .int (0 : Int32)]) (rest := []) (ci := 2) (q0 := 0) ⟨hx, hb, hml, hown, hts⟩ k_self (c_X2_read l D aM aw ae cA pw ce lf mq ct wd er p1 (0 : Int32)) kv_X1_38 (hP.sub [1, 2, 3] rfl) (hK.sub [0] rfl) rfl rfl rfl rfl ⟨Nat.le_of_ble_eq_true rfl, Nat.le_of_ble_eq_true rfl⟩ rfl hl.1 rfl (Nat.le_of_ble_eq_true rfl) dX1_isNewer_6 ⟨Nat.zero_le _, Nat.zero_le _⟩ ?_
  refine lv_aload_n hx hb dX1_isNewer_9 rfl (lv_at hl 0 rfl) ?_
  refine va_get (D := D) (ci := 1) (v := .ref aM) (C := RX1) (T := TX1) (N := 5) hx hb hts k_inX1 hown hK hP 0 rfl rfl 0 (by decide) (hts _ kw_154) (fun _ h9 => h9) rfl dX1_isNewer_10 ?_
  refine lv_iload_n hx hb dX1_isNewer_13 rfl (lv_at hl 2 rfl) ?_
  refine lv_iconst (v := 0) hx hb dX1_isNewer_14 (by decide) ?_
  refine k_rdVi (As := [.int p2, .int (0 : Int32)]) (rest := [.int (spX2_read wd p1 (0 : Int32))]) (ci := 2) (q0 := 0) ⟨hx, hb, hml, hown, hts⟩ k_self (c_X2_read l D aM aw ae cA pw ce lf mq ct wd er p2 (0 : Int32)) kv_X1_38 (hP.sub [1, 2, 3] rfl) (hK.sub [0] rfl) rfl rfl rfl rfl ⟨Nat.le_of_ble_eq_true rfl, Nat.le_of_ble_eq_true rfl⟩ rfl hl.1 rfl (Nat.le_of_ble_eq_true rfl) dX1_isNewer_15 ⟨Nat.zero_le _, Nat.zero_le _⟩ ?_
  refine lv_icmp_le (tgt := 25) hx hb dX1_isNewer_18 (by decide) (fun c_18 => ?_) (fun c_18 => ?_)
  · refine lv_iconst (v := 0) hx hb dX1_isNewer_25 (by decide) ?_
    exact W.zret (v := (0 : Int32)) hx hb hr rfl (fun t ht hW => ⟨(0 : Int32), rfl, (show _ = _ from (by unfold spX1_isNewer; rw [if_pos c_18] : spX1_isNewer wd p1 p2 = (0 : Int32)).symm), ht⟩) (fun q h => by cases h) dX1_isNewer_26
  · refine lv_iconst (v := 1) hx hb dX1_isNewer_21 (by decide) ?_
    refine lv_goto (tgt := 26) hx hb dX1_isNewer_22 (by decide) ?_
    exact W.zret (v := (1 : Int32)) hx hb hr rfl (fun t ht hW => ⟨(1 : Int32), rfl, (show _ = _ from (by unfold spX1_isNewer; rw [if_neg c_18] : spX1_isNewer wd p1 p2 = (1 : Int32)).symm), ht⟩) (fun q h => by cases h) dX1_isNewer_26
def lpX1_newestSector_9 : Nat → Int32 → (Nat → Int32) → Int32 → Int32 → Int32 → Int32
  | 0, _, _, _, _, _ => 0
  | n + 1, sc, wd, x1, x2, x3 => (if (16 : Int32) ≤ x3 then x1 else (if (spX1_isMarked wd x3) = 0 then (lpX1_newestSector_9 n sc wd  x1 x2 (x3 + (1 : Int32))) else (if x2 = 0 then (lpX1_newestSector_9 n sc wd  x3 (1 : Int32) (x3 + (1 : Int32))) else (if (spX1_isNewer wd x3 x1) = 0 then (lpX1_newestSector_9 n sc wd  x1 x2 (x3 + (1 : Int32))) else (lpX1_newestSector_9 n sc wd  x3 (1 : Int32) (x3 + (1 : Int32)))))))
theorem lpX1_newestSector_9_e (n : Nat) (sc : Int32) (wd : Nat → Int32) (x1 : Int32) (x2 : Int32) (x3 : Int32) : lpX1_newestSector_9 (n + 1) sc wd x1 x2 x3 = (if (16 : Int32) ≤ x3 then x1 else (if (spX1_isMarked wd x3) = 0 then (lpX1_newestSector_9 n sc wd  x1 x2 (x3 + (1 : Int32))) else (if x2 = 0 then (lpX1_newestSector_9 n sc wd  x3 (1 : Int32) (x3 + (1 : Int32))) else (if (spX1_isNewer wd x3 x1) = 0 then (lpX1_newestSector_9 n sc wd  x1 x2 (x3 + (1 : Int32))) else (lpX1_newestSector_9 n sc wd  x3 (1 : Int32) (x3 + (1 : Int32))))))) := rfl
def spX1_newestSector (sc : Int32) (wd : Nat → Int32) : Int32 := (lpX1_newestSector_9 17 sc wd  sc (0 : Int32) (0 : Int32))
set_option maxHeartbeats 4000000 in
set_option maxRecDepth 100000 in
theorem c_X1_newestSector (l : Launch) (D : va_G) (aJ aM aw ae aB ab : Nat) (cA : ClassId) (sc : Int32) (rc : Int32) (la : Int32) (pw : Int32) (ce : Int32) (lf : Int32) (mq : Int32) (ct : Int32) (wd : Nat → Int32) (er : Nat → Int32) (bw : Nat → Int32)   : kRi l yX1_newestSector cX1_newestSector 4 (some .int) { frames := 4, cells := 0, slots := 0, locals := 90 } [.ref aJ] (kB D (wJ aJ aM aw ae aB ab cA sc rc la pw ce lf mq ct wd er bw) [(cA, .int)]) (spX1_newestSector sc wd) := by
  refine Met.ofW (cc := cX1_newestSector) (maxL := 4) (ret := (some .int)) (by decide) rfl ?_
  intro p e s m args below meth c s₁ B hml hv
  obtain ⟨rfl, hP, hK⟩ := hv
  have hx := B.exec
  have hb := B.bytes
  have hr := B.returns
  have hts : ∀ w ∈ kG, w.before _ s = true := fun w h => atoms_spec (ws := kT yX1_newestSector cX1_newestSector 4 (some .int)) B.pre w (List.mem_cons_of_mem _ h)
  have hown : s.vm.findClass RX1 = some m.cls := findClass_of_methodNamed B.named
  have hlocks := B.notSynchronized
  have hl := lv_entry ([.ref aJ]) (n := 4) (Nat.le_of_ble_eq_true rfl)
  rw [lg_entry_eq]
  generalize (lg_sl ([.ref aJ]) ++ List.replicate (4 - (lg_sl ([.ref aJ])).length) Slot.unset).toArray = ls at hl ⊢
  have hl : lv_has ls 4 [(0, .ref aJ)] := hl
  have L9 : ∀ (n : Nat)  (x1 : Int32) (x2 : Int32) (x3 : Int32) (ls : Array Slot), (∃ k : Nat, x3 = nI k ∧ k ≤ 16 ∧ 16 < k + n) → spX1_newestSector sc wd = lpX1_newestSector_9 n sc wd x1 x2 x3 → lv_has ls 4 [(0, .ref aJ), (1, .int x1), (2, .int x2), (3, .int x3)] → W p l e (headSpec (kT yX1_newestSector cX1_newestSector 4 (some .int)) ({ frames := 4, cells := 0, slots := 0, locals := 90 })).room s m ([.ref aJ] : List Value).toArray below meth c s.heap [] 0 0 (MQ below (vp_Si (fun r => r = spX1_newestSector sc wd)) ([.ref aJ] : List Value).toArray s 0 0 (fun _ => False)) (F0 m 9 ls []) := by
    intro n
    induction n with
    | zero =>
      intro x1 x2 x3 ls hI
      exact absurd hI (by rintro ⟨k, -, h1, h2⟩; omega)
    | succ n ih =>
      intro x1 x2 x3 ls hI hE hl
      obtain ⟨k, hk, hk1, hk2⟩ := hI
      refine lv_iload_n hx hb dX1_newestSector_9 rfl (lv_at hl 3 rfl) ?_
      refine lv_bipush (v := 16) hx hb dX1_newestSector_10 (by decide) ?_
      refine lv_icmp_ge (tgt := 46) hx hb dX1_newestSector_12 (by decide) (fun c_12 => ?_) (fun c_12 => ?_)
      · refine lv_iload_n hx hb dX1_newestSector_46 rfl (lv_at hl 1 rfl) ?_
        exact W.iret (v := x1) hx hb hr (fun t ht hW => ⟨x1, rfl, (show _ = _ from (hE.trans (by rw [lpX1_newestSector_9_e]; rw [if_pos c_12]) : spX1_newestSector sc wd = x1).symm), ht⟩) (fun q h => by cases h) dX1_newestSector_47
      · refine lv_aload_n hx hb dX1_newestSector_15 rfl (lv_at hl 0 rfl) ?_
        refine lv_iload_n hx hb dX1_newestSector_16 rfl (lv_at hl 3 rfl) ?_
        refine k_rdVi (As := [.int x3]) (rest := []) (ci := 1) (q0 := 0) ⟨hx, hb, hml, hown, hts⟩ k_self (c_X1_isMarked l D aJ aM aw ae aB ab cA sc rc la pw ce lf mq ct wd er bw x3) kv_X1_85 (hP.sub [0, 1, 2, 3, 4, 5] rfl) (hK.sub [0] rfl) rfl rfl rfl rfl ⟨Nat.le_of_ble_eq_true rfl, Nat.le_of_ble_eq_true rfl⟩ rfl hl.1 rfl (Nat.le_of_ble_eq_true rfl) dX1_newestSector_17 ⟨Nat.zero_le _, Nat.zero_le _⟩ ?_
        refine lv_if_eq (tgt := 40) hx hb dX1_newestSector_20 (by decide) (fun c_20 => ?_) (fun c_20 => ?_)
        · refine lv_iinc (v := (x3 + (1 : Int32))) (lv' := [(3, .int (x3 + (1 : Int32))), (0, .ref aJ), (1, .int x1), (2, .int x2)]) hx hb dX1_newestSector_40 hl (k := 3) rfl rfl (by decide) rfl (fun ls hl => ?_)
          refine lv_goto (tgt := 9) hx hb dX1_newestSector_43 (by decide) ?_
          exact ih   x1 x2 (x3 + (1 : Int32)) ls (k_step (N := 16) rfl (by decide) hk hk1 hk2 c_12) (hE.trans (by rw [lpX1_newestSector_9_e]; rw [if_neg c_12, if_pos c_20])) (lv_sub hl [1, 2, 3, 0] rfl)
        · refine lv_iload_n hx hb dX1_newestSector_23 rfl (lv_at hl 2 rfl) ?_
          refine lv_if_eq (tgt := 36) hx hb dX1_newestSector_24 (by decide) (fun c_24 => ?_) (fun c_24 => ?_)
          · refine lv_iload_n hx hb dX1_newestSector_36 rfl (lv_at hl 3 rfl) ?_
            refine lv_istore_n (lv' := [(1, .int x3), (0, .ref aJ), (2, .int x2), (3, .int x3)]) hx hb dX1_newestSector_37 rfl hl (by decide) rfl (fun ls hl => ?_)
            refine lv_iconst (v := 1) hx hb dX1_newestSector_38 (by decide) ?_
            refine lv_istore_n (lv' := [(2, .int (1 : Int32)), (1, .int x3), (0, .ref aJ), (3, .int x3)]) hx hb dX1_newestSector_39 rfl hl (by decide) rfl (fun ls hl => ?_)
            refine lv_iinc (v := (x3 + (1 : Int32))) (lv' := [(3, .int (x3 + (1 : Int32))), (2, .int (1 : Int32)), (1, .int x3), (0, .ref aJ)]) hx hb dX1_newestSector_40 hl (k := 3) rfl rfl (by decide) rfl (fun ls hl => ?_)
            refine lv_goto (tgt := 9) hx hb dX1_newestSector_43 (by decide) ?_
            exact ih   x3 (1 : Int32) (x3 + (1 : Int32)) ls (k_step (N := 16) rfl (by decide) hk hk1 hk2 c_12) (hE.trans (by rw [lpX1_newestSector_9_e]; rw [if_neg c_12, if_neg c_20, if_pos c_24])) (lv_sub hl [3, 2, 1, 0] rfl)
          · refine lv_aload_n hx hb dX1_newestSector_27 rfl (lv_at hl 0 rfl) ?_
            refine lv_iload_n hx hb dX1_newestSector_28 rfl (lv_at hl 3 rfl) ?_
            refine lv_iload_n hx hb dX1_newestSector_29 rfl (lv_at hl 1 rfl) ?_
            refine k_rdVi (As := [.int x3, .int x1]) (rest := []) (ci := 1) (q0 := 0) ⟨hx, hb, hml, hown, hts⟩ k_self (c_X1_isNewer l D aJ aM aw ae aB ab cA sc rc la pw ce lf mq ct wd er bw x3 x1) kv_X1_88 (hP.sub [0, 1, 2, 3, 4, 5] rfl) (hK.sub [0] rfl) rfl rfl rfl rfl ⟨Nat.le_of_ble_eq_true rfl, Nat.le_of_ble_eq_true rfl⟩ rfl hl.1 rfl (Nat.le_of_ble_eq_true rfl) dX1_newestSector_30 ⟨Nat.zero_le _, Nat.zero_le _⟩ ?_
            refine lv_if_eq (tgt := 40) hx hb dX1_newestSector_33 (by decide) (fun c_33 => ?_) (fun c_33 => ?_)
            · refine lv_iinc (v := (x3 + (1 : Int32))) (lv' := [(3, .int (x3 + (1 : Int32))), (0, .ref aJ), (1, .int x1), (2, .int x2)]) hx hb dX1_newestSector_40 hl (k := 3) rfl rfl (by decide) rfl (fun ls hl => ?_)
              refine lv_goto (tgt := 9) hx hb dX1_newestSector_43 (by decide) ?_
              exact ih   x1 x2 (x3 + (1 : Int32)) ls (k_step (N := 16) rfl (by decide) hk hk1 hk2 c_12) (hE.trans (by rw [lpX1_newestSector_9_e]; rw [if_neg c_12, if_neg c_20, if_neg c_24, if_pos c_33])) (lv_sub hl [1, 2, 3, 0] rfl)
            · refine lv_iload_n hx hb dX1_newestSector_36 rfl (lv_at hl 3 rfl) ?_
              refine lv_istore_n (lv' := [(1, .int x3), (0, .ref aJ), (2, .int x2), (3, .int x3)]) hx hb dX1_newestSector_37 rfl hl (by decide) rfl (fun ls hl => ?_)
              refine lv_iconst (v := 1) hx hb dX1_newestSector_38 (by decide) ?_
              refine lv_istore_n (lv' := [(2, .int (1 : Int32)), (1, .int x3), (0, .ref aJ), (3, .int x3)]) hx hb dX1_newestSector_39 rfl hl (by decide) rfl (fun ls hl => ?_)
              refine lv_iinc (v := (x3 + (1 : Int32))) (lv' := [(3, .int (x3 + (1 : Int32))), (2, .int (1 : Int32)), (1, .int x3), (0, .ref aJ)]) hx hb dX1_newestSector_40 hl (k := 3) rfl rfl (by decide) rfl (fun ls hl => ?_)
              refine lv_goto (tgt := 9) hx hb dX1_newestSector_43 (by decide) ?_
              exact ih   x3 (1 : Int32) (x3 + (1 : Int32)) ls (k_step (N := 16) rfl (by decide) hk hk1 hk2 c_12) (hE.trans (by rw [lpX1_newestSector_9_e]; rw [if_neg c_12, if_neg c_20, if_neg c_24, if_neg c_33])) (lv_sub hl [3, 2, 1, 0] rfl)
  refine lv_aload_n hx hb dX1_newestSector_0 rfl (lv_at hl 0 rfl) ?_
  refine va_get (D := D) (ci := 1) (v := .int sc) (C := RX1) (T := TX1) (N := 5) hx hb hts k_inX1 hown hK hP 0 rfl rfl 2 (by decide) (hts _ kw_156) (fun _ h9 => h9) rfl dX1_newestSector_1 ?_
  refine lv_istore_n (lv' := [(1, .int sc), (0, .ref aJ)]) hx hb dX1_newestSector_4 rfl hl (by decide) rfl (fun ls hl => ?_)
  refine lv_iconst (v := 0) hx hb dX1_newestSector_5 (by decide) ?_
  refine lv_istore_n (lv' := [(2, .int (0 : Int32)), (1, .int sc), (0, .ref aJ)]) hx hb dX1_newestSector_6 rfl hl (by decide) rfl (fun ls hl => ?_)
  refine lv_iconst (v := 0) hx hb dX1_newestSector_7 (by decide) ?_
  refine lv_istore_n (lv' := [(3, .int (0 : Int32)), (2, .int (0 : Int32)), (1, .int sc), (0, .ref aJ)]) hx hb dX1_newestSector_8 rfl hl (by decide) rfl (fun ls hl => ?_)
  exact L9 17  sc (0 : Int32) (0 : Int32) ls (⟨0, rfl, by decide, by decide⟩) (by unfold spX1_newestSector; rfl) (lv_sub hl [3, 2, 1, 0] rfl)
def spX1_isNextRecord (sc : Int32) (la : Int32) (wd : Nat → Int32) (p1 : Int32) : Int32 := (if (spX2_read wd sc p1) = (la + (1 : Int32)) then (if (spX2_read wd sc (p1 + (4 : Int32))) = (spX2_markOf wd sc p1 (4 : Int32)) then (1 : Int32) else (0 : Int32)) else (0 : Int32))
set_option maxHeartbeats 4000000 in
set_option maxRecDepth 100000 in
theorem c_X1_isNextRecord (l : Launch) (D : va_G) (aJ aM aw ae aB ab : Nat) (cA : ClassId) (sc : Int32) (rc : Int32) (la : Int32) (pw : Int32) (ce : Int32) (lf : Int32) (mq : Int32) (ct : Int32) (wd : Nat → Int32) (er : Nat → Int32) (bw : Nat → Int32) (p1 : Int32)  : kRi l yX1_isNextRecord cX1_isNextRecord 2 (some .boolean) { frames := 3, cells := 0, slots := 0, locals := 69 } [.ref aJ, .int p1] (kB D (wJ aJ aM aw ae aB ab cA sc rc la pw ce lf mq ct wd er bw) [(cA, .int)]) (spX1_isNextRecord sc la wd p1) := by
  refine Met.ofW (cc := cX1_isNextRecord) (maxL := 2) (ret := (some .boolean)) (by decide) rfl ?_
  intro p e s m args below meth c s₁ B hml hv
  obtain ⟨rfl, hP, hK⟩ := hv
  have hx := B.exec
  have hb := B.bytes
  have hr := B.returns
  have hts : ∀ w ∈ kG, w.before _ s = true := fun w h => atoms_spec (ws := kT yX1_isNextRecord cX1_isNextRecord 2 (some .boolean)) B.pre w (List.mem_cons_of_mem _ h)
  have hown : s.vm.findClass RX1 = some m.cls := findClass_of_methodNamed B.named
  have hlocks := B.notSynchronized
  have hl := lv_entry ([.ref aJ, .int p1]) (n := 2) (Nat.le_of_ble_eq_true rfl)
  rw [lg_entry_eq]
  generalize (lg_sl ([.ref aJ, .int p1]) ++ List.replicate (2 - (lg_sl ([.ref aJ, .int p1])).length) Slot.unset).toArray = ls at hl ⊢
  have hl : lv_has ls 2 [(0, .ref aJ), (1, .int p1)] := hl
  refine lv_aload_n hx hb dX1_isNextRecord_0 rfl (lv_at hl 0 rfl) ?_
  refine va_get (D := D) (ci := 1) (v := .ref aM) (C := RX1) (T := TX1) (N := 5) hx hb hts k_inX1 hown hK hP 0 rfl rfl 0 (by decide) (hts _ kw_154) (fun _ h9 => h9) rfl dX1_isNextRecord_1 ?_
  refine lv_aload_n hx hb dX1_isNextRecord_4 rfl (lv_at hl 0 rfl) ?_
  refine va_get (D := D) (ci := 1) (v := .int sc) (C := RX1) (T := TX1) (N := 5) hx hb hts k_inX1 hown hK hP 0 rfl rfl 2 (by decide) (hts _ kw_156) (fun _ h9 => h9) rfl dX1_isNextRecord_5 ?_
  refine lv_iload_n hx hb dX1_isNextRecord_8 rfl (lv_at hl 1 rfl) ?_
  refine k_rdVi (As := [.int sc, .int p1]) (rest := []) (ci := 2) (q0 := 0) ⟨hx, hb, hml, hown, hts⟩ k_self (c_X2_read l D aM aw ae cA pw ce lf mq ct wd er sc p1) kv_X1_38 (hP.sub [1, 2, 3] rfl) (hK.sub [0] rfl) rfl rfl rfl rfl ⟨Nat.le_of_ble_eq_true rfl, Nat.le_of_ble_eq_true rfl⟩ rfl hl.1 rfl (Nat.le_of_ble_eq_true rfl) dX1_isNextRecord_9 ⟨Nat.zero_le _, Nat.zero_le _⟩ ?_
  refine lv_aload_n hx hb dX1_isNextRecord_12 rfl (lv_at hl 0 rfl) ?_
  refine va_get (D := D) (ci := 1) (v := .int la) (C := RX1) (T := TX1) (N := 5) hx hb hts k_inX1 hown hK hP 0 rfl rfl 4 (by decide) (hts _ kw_158) (fun _ h9 => h9) rfl dX1_isNextRecord_13 ?_
  refine lv_iconst (v := 1) hx hb dX1_isNextRecord_16 (by decide) ?_
  refine lv_iadd hx hb dX1_isNextRecord_17 ?_
  refine lv_icmp_ne (tgt := 55) hx hb dX1_isNextRecord_18 (by decide) (fun c_18 => ?_) (fun c_18 => ?_)
  · refine lv_iconst (v := 0) hx hb dX1_isNextRecord_55 (by decide) ?_
    exact W.zret (v := (0 : Int32)) hx hb hr rfl (fun t ht hW => ⟨(0 : Int32), rfl, (show _ = _ from (by unfold spX1_isNextRecord; rw [if_neg c_18] : spX1_isNextRecord sc la wd p1 = (0 : Int32)).symm), ht⟩) (fun q h => by cases h) dX1_isNextRecord_56
  · refine lv_aload_n hx hb dX1_isNextRecord_21 rfl (lv_at hl 0 rfl) ?_
    refine va_get (D := D) (ci := 1) (v := .ref aM) (C := RX1) (T := TX1) (N := 5) hx hb hts k_inX1 hown hK hP 0 rfl rfl 0 (by decide) (hts _ kw_154) (fun _ h9 => h9) rfl dX1_isNextRecord_22 ?_
    refine lv_aload_n hx hb dX1_isNextRecord_25 rfl (lv_at hl 0 rfl) ?_
    refine va_get (D := D) (ci := 1) (v := .int sc) (C := RX1) (T := TX1) (N := 5) hx hb hts k_inX1 hown hK hP 0 rfl rfl 2 (by decide) (hts _ kw_156) (fun _ h9 => h9) rfl dX1_isNextRecord_26 ?_
    refine lv_iload_n hx hb dX1_isNextRecord_29 rfl (lv_at hl 1 rfl) ?_
    refine lv_iconst (v := 4) hx hb dX1_isNextRecord_30 (by decide) ?_
    refine lv_iadd hx hb dX1_isNextRecord_31 ?_
    refine k_rdVi (As := [.int sc, .int (p1 + (4 : Int32))]) (rest := []) (ci := 2) (q0 := 0) ⟨hx, hb, hml, hown, hts⟩ k_self (c_X2_read l D aM aw ae cA pw ce lf mq ct wd er sc (p1 + (4 : Int32))) kv_X1_38 (hP.sub [1, 2, 3] rfl) (hK.sub [0] rfl) rfl rfl rfl rfl ⟨Nat.le_of_ble_eq_true rfl, Nat.le_of_ble_eq_true rfl⟩ rfl hl.1 rfl (Nat.le_of_ble_eq_true rfl) dX1_isNextRecord_32 ⟨Nat.zero_le _, Nat.zero_le _⟩ ?_
    refine lv_aload_n hx hb dX1_isNextRecord_35 rfl (lv_at hl 0 rfl) ?_
    refine va_get (D := D) (ci := 1) (v := .ref aM) (C := RX1) (T := TX1) (N := 5) hx hb hts k_inX1 hown hK hP 0 rfl rfl 0 (by decide) (hts _ kw_154) (fun _ h9 => h9) rfl dX1_isNextRecord_36 ?_
    refine lv_aload_n hx hb dX1_isNextRecord_39 rfl (lv_at hl 0 rfl) ?_
    refine va_get (D := D) (ci := 1) (v := .int sc) (C := RX1) (T := TX1) (N := 5) hx hb hts k_inX1 hown hK hP 0 rfl rfl 2 (by decide) (hts _ kw_156) (fun _ h9 => h9) rfl dX1_isNextRecord_40 ?_
    refine lv_iload_n hx hb dX1_isNextRecord_43 rfl (lv_at hl 1 rfl) ?_
    refine lv_iconst (v := 4) hx hb dX1_isNextRecord_44 (by decide) ?_
    refine k_rdVi (As := [.int sc, .int p1, .int (4 : Int32)]) (rest := [.int (spX2_read wd sc (p1 + (4 : Int32)))]) (ci := 2) (q0 := 0) ⟨hx, hb, hml, hown, hts⟩ k_self (c_X2_markOf l D aM aw ae cA pw ce lf mq ct wd er sc p1 (4 : Int32)) kv_X1_53 (hP.sub [1, 2, 3] rfl) (hK.sub [0] rfl) rfl rfl rfl rfl ⟨Nat.le_of_ble_eq_true rfl, Nat.le_of_ble_eq_true rfl⟩ rfl hl.1 rfl (Nat.le_of_ble_eq_true rfl) dX1_isNextRecord_45 ⟨Nat.zero_le _, Nat.zero_le _⟩ ?_
    refine lv_icmp_ne (tgt := 55) hx hb dX1_isNextRecord_48 (by decide) (fun c_48 => ?_) (fun c_48 => ?_)
    · refine lv_iconst (v := 0) hx hb dX1_isNextRecord_55 (by decide) ?_
      exact W.zret (v := (0 : Int32)) hx hb hr rfl (fun t ht hW => ⟨(0 : Int32), rfl, (show _ = _ from (by unfold spX1_isNextRecord; rw [if_pos c_18, if_neg c_48] : spX1_isNextRecord sc la wd p1 = (0 : Int32)).symm), ht⟩) (fun q h => by cases h) dX1_isNextRecord_56
    · refine lv_iconst (v := 1) hx hb dX1_isNextRecord_51 (by decide) ?_
      refine lv_goto (tgt := 56) hx hb dX1_isNextRecord_52 (by decide) ?_
      exact W.zret (v := (1 : Int32)) hx hb hr rfl (fun t ht hW => ⟨(1 : Int32), rfl, (show _ = _ from (by unfold spX1_isNextRecord; rw [if_pos c_18, if_pos c_48] : spX1_isNextRecord sc la wd p1 = (1 : Int32)).symm), ht⟩) (fun q h => by cases h) dX1_isNextRecord_56
def lpX1_reopen_68 : Nat → Int32 → Int32 → Int32 → (Nat → Int32) → (Nat → Int32) → Int32 → (Int32 × Int32 × Int32 × (Nat → Int32))
  | 0, sc1, rc1, la1, _, bw1, _ => (sc1, rc1, la1, bw1)
  | n + 1, sc1, rc1, la1, wd, bw1, x1 => (if (12 : Int32) ≤ x1 then (sc1, rc1, la1, bw1) else (if (spX1_isNextRecord sc1 la1 wd (spX1_recordAt x1)) = 0 then (sc1, rc1, la1, bw1) else (lpX1_reopen_68 n sc1 (rc1 + (1 : Int32)) (la1 + (1 : Int32)) wd (spX0_apply bw1 (spX2_read wd sc1 ((spX1_recordAt x1) + (1 : Int32))) (spX2_read wd sc1 ((spX1_recordAt x1) + (2 : Int32))) (spX2_read wd sc1 ((spX1_recordAt x1) + (3 : Int32))))  (x1 + (1 : Int32)))))
theorem lpX1_reopen_68_e (n : Nat) (sc1 : Int32) (rc1 : Int32) (la1 : Int32) (wd : Nat → Int32) (bw1 : Nat → Int32) (x1 : Int32) : lpX1_reopen_68 (n + 1) sc1 rc1 la1 wd bw1 x1 = (if (12 : Int32) ≤ x1 then (sc1, rc1, la1, bw1) else (if (spX1_isNextRecord sc1 la1 wd (spX1_recordAt x1)) = 0 then (sc1, rc1, la1, bw1) else (lpX1_reopen_68 n sc1 (rc1 + (1 : Int32)) (la1 + (1 : Int32)) wd (spX0_apply bw1 (spX2_read wd sc1 ((spX1_recordAt x1) + (1 : Int32))) (spX2_read wd sc1 ((spX1_recordAt x1) + (2 : Int32))) (spX2_read wd sc1 ((spX1_recordAt x1) + (3 : Int32))))  (x1 + (1 : Int32))))) := rfl
def lpX1_reopen_31 : Nat → Int32 → Int32 → Int32 → (Nat → Int32) → (Nat → Int32) → Int32 → (Int32 × Int32 × Int32 × (Nat → Int32))
  | 0, sc1, rc1, la1, _, bw1, _ => (sc1, rc1, la1, bw1)
  | n + 1, sc1, rc1, la1, wd, bw1, x1 => (if (191 : Int32) ≤ x1 then (lpX1_reopen_68 13 sc1 rc1 la1 wd bw1  (0 : Int32)) else (lpX1_reopen_31 n sc1 rc1 la1 wd (spX0_put bw1 x1 (spX2_read wd sc1 ((2 : Int32) + x1)))  (x1 + (1 : Int32))))
theorem lpX1_reopen_31_e (n : Nat) (sc1 : Int32) (rc1 : Int32) (la1 : Int32) (wd : Nat → Int32) (bw1 : Nat → Int32) (x1 : Int32) : lpX1_reopen_31 (n + 1) sc1 rc1 la1 wd bw1 x1 = (if (191 : Int32) ≤ x1 then (lpX1_reopen_68 13 sc1 rc1 la1 wd bw1  (0 : Int32)) else (lpX1_reopen_31 n sc1 rc1 la1 wd (spX0_put bw1 x1 (spX2_read wd sc1 ((2 : Int32) + x1)))  (x1 + (1 : Int32)))) := rfl
def spX1_reopen (sc : Int32) (rc : Int32) (la : Int32) (wd : Nat → Int32) (bw : Nat → Int32) : Int32 × Int32 × Int32 × (Nat → Int32) := (lpX1_reopen_31 192 (spX1_newestSector sc wd) (0 : Int32) (spX2_read wd (spX1_newestSector sc wd) (1 : Int32)) wd bw  (0 : Int32))
set_option maxHeartbeats 4000000 in
set_option maxRecDepth 100000 in
theorem c_X1_reopen (l : Launch) (D : va_G) (aJ aM aw ae aB ab : Nat) (cA : ClassId) (sc : Int32) (rc : Int32) (la : Int32) (pw : Int32) (ce : Int32) (lf : Int32) (mq : Int32) (ct : Int32) (wd : Nat → Int32) (er : Nat → Int32) (bw : Nat → Int32)   : kWv l yX1_reopen cX1_reopen 3 none { frames := 5, cells := 0, slots := 0, locals := 113 } D [(cA, .int)] [.ref aJ] (wJ aJ aM aw ae aB ab cA sc rc la pw ce lf mq ct wd er bw) (wJ aJ aM aw ae aB ab cA (spX1_reopen sc rc la wd bw).1 (spX1_reopen sc rc la wd bw).2.1 (spX1_reopen sc rc la wd bw).2.2.1 pw ce lf mq ct wd er (spX1_reopen sc rc la wd bw).2.2.2) := by
  intro sz
  refine Met.ofW (cc := cX1_reopen) (maxL := 3) (ret := none) (by decide) rfl ?_
  intro p e s m args below meth c s₁ B hml hv
  obtain ⟨rfl, hsz, hP, hK, hD0⟩ := hv
  have hx := B.exec
  have hb := B.bytes
  have hr := B.returns
  have hts : ∀ w ∈ kG, w.before _ s = true := fun w h => atoms_spec (ws := kT yX1_reopen cX1_reopen 3 none) B.pre w (List.mem_cons_of_mem _ h)
  have hown : s.vm.findClass RX1 = some m.cls := findClass_of_methodNamed B.named
  have hlocks := B.notSynchronized
  subst hsz
  have hD := hD0.self (sz := s.heap.size)
  generalize hAe : va_A (wJ aJ aM aw ae aB ab cA sc rc la pw ce lf mq ct wd er bw) s.heap.size = A at hD ⊢
  have hA : ∀ q : Nat, s.heap.size ≤ q → A q := fun q h => by rw [← hAe]; exact Or.inr h
  have hS : va_S A s.heap s.heap [] := va_S.rf
  have hl := lv_entry ([.ref aJ]) (n := 3) (Nat.le_of_ble_eq_true rfl)
  rw [lg_entry_eq]
  generalize (lg_sl ([.ref aJ]) ++ List.replicate (3 - (lg_sl ([.ref aJ])).length) Slot.unset).toArray = ls at hl ⊢
  have hl : lv_has ls 3 [(0, .ref aJ)] := hl
  have L68 : ∀ (n : Nat) (sc1 : Int32) (rc1 : Int32) (la1 : Int32) (bw1 : Nat → Int32) (x1 : Int32) (H : Heap) (locs : List Loc) (ls : Array Slot), (∃ k : Nat, x1 = nI k ∧ k ≤ 12 ∧ 12 < k + n) → spX1_reopen sc rc la wd bw = lpX1_reopen_68 n sc1 rc1 la1 wd bw1 x1 → va_P D vwCl (wJ aJ aM aw ae aB ab cA sc1 rc1 la1 pw ce lf mq ct wd er bw1) H → va_D A (wJ aJ aM aw ae aB ab cA sc1 rc1 la1 pw ce lf mq ct wd er bw1) → va_S A s.heap H locs → lv_has ls 3 [(0, .ref aJ), (1, .int x1)] → W p l e (headSpec (kT yX1_reopen cX1_reopen 3 none) ({ frames := 5, cells := 0, slots := 0, locals := 113 })).room s m ([.ref aJ] : List Value).toArray below meth c H locs 0 0 (MQ below (va_Qv (fun (_ : Unit) => True) (kPost D A (wJ aJ aM aw ae aB ab cA (spX1_reopen sc rc la wd bw).1 (spX1_reopen sc rc la wd bw).2.1 (spX1_reopen sc rc la wd bw).2.2.1 pw ce lf mq ct wd er (spX1_reopen sc rc la wd bw).2.2.2) [(cA, .int)]) A) ([.ref aJ] : List Value).toArray s 0 0 A) (F0 m 68 ls []) := by
    intro n
    induction n with
    | zero =>
      intro sc1 rc1 la1 bw1 x1 H locs ls hI
      exact absurd hI (by rintro ⟨k, -, h1, h2⟩; omega)
    | succ n ih =>
      intro sc1 rc1 la1 bw1 x1 H locs ls hI hE hP hD hS hl
      obtain ⟨k, hk, hk1, hk2⟩ := hI
      refine lv_iload_n hx hb dX1_reopen_68 rfl (lv_at hl 1 rfl) ?_
      refine lv_bipush (v := 12) hx hb dX1_reopen_69 (by decide) ?_
      refine lv_icmp_ge (tgt := 165) hx hb dX1_reopen_71 (by decide) (fun c_71 => ?_) (fun c_71 => ?_)
      · have hE : spX1_reopen sc rc la wd bw = (sc1, rc1, la1, bw1) := hE.trans (by rw [lpX1_reopen_68_e]; rw [if_pos c_71])
        exact W.vret hx hb hr (fun t ht hW => ⟨⟨(), rfl, trivial, by rw [hE, ht]; exact hP, va_K.moved hW.alike hK, by rw [hE]; exact hD⟩, hS.F ht⟩) hS.2.2 dX1_reopen_165
      · refine lv_aload_n hx hb dX1_reopen_74 rfl (lv_at hl 0 rfl) ?_
        refine lv_iload_n hx hb dX1_reopen_75 rfl (lv_at hl 1 rfl) ?_
        refine k_rdSi (As := [.int x1]) (rest := [.ref aJ]) ⟨hx, hb, hml, hown, hts⟩ k_self (c_X1_recordAt l x1) kv_X1_45 rfl rfl ⟨Nat.le_of_ble_eq_true rfl, Nat.le_of_ble_eq_true rfl⟩ rfl hl.1 rfl (Nat.le_of_ble_eq_true rfl) dX1_reopen_76 ⟨Nat.zero_le _, Nat.zero_le _⟩ ?_
        refine k_rdVi (As := [.int (spX1_recordAt x1)]) (rest := []) (ci := 1) (q0 := 0) ⟨hx, hb, hml, hown, hts⟩ k_self (c_X1_isNextRecord l D aJ aM aw ae aB ab cA sc1 rc1 la1 pw ce lf mq ct wd er bw1 (spX1_recordAt x1)) kv_X1_69 (hP.sub [0, 1, 2, 3, 4, 5] rfl) (hK.sub [0] rfl) rfl rfl rfl rfl ⟨Nat.le_of_ble_eq_true rfl, Nat.le_of_ble_eq_true rfl⟩ rfl hl.1 rfl (Nat.le_of_ble_eq_true rfl) dX1_reopen_79 ⟨Nat.zero_le _, Nat.zero_le _⟩ ?_
        refine lv_if_eq (tgt := 165) hx hb dX1_reopen_82 (by decide) (fun c_82 => ?_) (fun c_82 => ?_)
        · have hE : spX1_reopen sc rc la wd bw = (sc1, rc1, la1, bw1) := hE.trans (by rw [lpX1_reopen_68_e]; rw [if_neg c_71, if_pos c_82])
          exact W.vret hx hb hr (fun t ht hW => ⟨⟨(), rfl, trivial, by rw [hE, ht]; exact hP, va_K.moved hW.alike hK, by rw [hE]; exact hD⟩, hS.F ht⟩) hS.2.2 dX1_reopen_165
        · refine lv_iload_n hx hb dX1_reopen_85 rfl (lv_at hl 1 rfl) ?_
          refine k_rdSi (As := [.int x1]) (rest := []) ⟨hx, hb, hml, hown, hts⟩ k_self (c_X1_recordAt l x1) kv_X1_45 rfl rfl ⟨Nat.le_of_ble_eq_true rfl, Nat.le_of_ble_eq_true rfl⟩ rfl hl.1 rfl (Nat.le_of_ble_eq_true rfl) dX1_reopen_86 ⟨Nat.zero_le _, Nat.zero_le _⟩ ?_
          refine lv_istore_n (lv' := [(2, .int (spX1_recordAt x1)), (0, .ref aJ), (1, .int x1)]) hx hb dX1_reopen_89 rfl hl (by decide) rfl (fun ls hl => ?_)
          refine lv_aload_n hx hb dX1_reopen_90 rfl (lv_at hl 1 rfl) ?_
          refine va_get (D := D) (ci := 1) (v := .ref aB) (C := RX1) (T := TX1) (N := 5) hx hb hts k_inX1 hown hK hP 0 rfl rfl 1 (by decide) (hts _ kw_155) (fun _ h9 => h9) rfl dX1_reopen_91 ?_
          refine lv_aload_n hx hb dX1_reopen_94 rfl (lv_at hl 1 rfl) ?_
          refine va_get (D := D) (ci := 1) (v := .ref aM) (C := RX1) (T := TX1) (N := 5) hx hb hts k_inX1 hown hK hP 0 rfl rfl 0 (by decide) (hts _ kw_154) (fun _ h9 => h9) rfl dX1_reopen_95 ?_
          refine lv_aload_n hx hb dX1_reopen_98 rfl (lv_at hl 1 rfl) ?_
          refine va_get (D := D) (ci := 1) (v := .int sc1) (C := RX1) (T := TX1) (N := 5) hx hb hts k_inX1 hown hK hP 0 rfl rfl 2 (by decide) (hts _ kw_156) (fun _ h9 => h9) rfl dX1_reopen_99 ?_
          refine lv_iload_n hx hb dX1_reopen_102 rfl (lv_at hl 0 rfl) ?_
          refine lv_iconst (v := 1) hx hb dX1_reopen_103 (by decide) ?_
          refine lv_iadd hx hb dX1_reopen_104 ?_
          refine k_rdVi (As := [.int sc1, .int ((spX1_recordAt x1) + (1 : Int32))]) (rest := [.ref aB]) (ci := 2) (q0 := 0) ⟨hx, hb, hml, hown, hts⟩ k_self (c_X2_read l D aM aw ae cA pw ce lf mq ct wd er sc1 ((spX1_recordAt x1) + (1 : Int32))) kv_X1_38 (hP.sub [1, 2, 3] rfl) (hK.sub [0] rfl) rfl rfl rfl rfl ⟨Nat.le_of_ble_eq_true rfl, Nat.le_of_ble_eq_true rfl⟩ rfl hl.1 rfl (Nat.le_of_ble_eq_true rfl) dX1_reopen_105 ⟨Nat.zero_le _, Nat.zero_le _⟩ ?_
          refine lv_aload_n hx hb dX1_reopen_108 rfl (lv_at hl 1 rfl) ?_
          refine va_get (D := D) (ci := 1) (v := .ref aM) (C := RX1) (T := TX1) (N := 5) hx hb hts k_inX1 hown hK hP 0 rfl rfl 0 (by decide) (hts _ kw_154) (fun _ h9 => h9) rfl dX1_reopen_109 ?_
          refine lv_aload_n hx hb dX1_reopen_112 rfl (lv_at hl 1 rfl) ?_
          refine va_get (D := D) (ci := 1) (v := .int sc1) (C := RX1) (T := TX1) (N := 5) hx hb hts k_inX1 hown hK hP 0 rfl rfl 2 (by decide) (hts _ kw_156) (fun _ h9 => h9) rfl dX1_reopen_113 ?_
          refine lv_iload_n hx hb dX1_reopen_116 rfl (lv_at hl 0 rfl) ?_
          refine lv_iconst (v := 2) hx hb dX1_reopen_117 (by decide) ?_
          refine lv_iadd hx hb dX1_reopen_118 ?_
          refine k_rdVi (As := [.int sc1, .int ((spX1_recordAt x1) + (2 : Int32))]) (rest := [.int (spX2_read wd sc1 ((spX1_recordAt x1) + (1 : Int32))), .ref aB]) (ci := 2) (q0 := 0) ⟨hx, hb, hml, hown, hts⟩ k_self (c_X2_read l D aM aw ae cA pw ce lf mq ct wd er sc1 ((spX1_recordAt x1) + (2 : Int32))) kv_X1_38 (hP.sub [1, 2, 3] rfl) (hK.sub [0] rfl) rfl rfl rfl rfl ⟨Nat.le_of_ble_eq_true rfl, Nat.le_of_ble_eq_true rfl⟩ rfl hl.1 rfl (Nat.le_of_ble_eq_true rfl) dX1_reopen_119 ⟨Nat.zero_le _, Nat.zero_le _⟩ ?_
          refine lv_aload_n hx hb dX1_reopen_122 rfl (lv_at hl 1 rfl) ?_
          refine va_get (D := D) (ci := 1) (v := .ref aM) (C := RX1) (T := TX1) (N := 5) hx hb hts k_inX1 hown hK hP 0 rfl rfl 0 (by decide) (hts _ kw_154) (fun _ h9 => h9) rfl dX1_reopen_123 ?_
          refine lv_aload_n hx hb dX1_reopen_126 rfl (lv_at hl 1 rfl) ?_
          refine va_get (D := D) (ci := 1) (v := .int sc1) (C := RX1) (T := TX1) (N := 5) hx hb hts k_inX1 hown hK hP 0 rfl rfl 2 (by decide) (hts _ kw_156) (fun _ h9 => h9) rfl dX1_reopen_127 ?_
          refine lv_iload_n hx hb dX1_reopen_130 rfl (lv_at hl 0 rfl) ?_
          refine lv_iconst (v := 3) hx hb dX1_reopen_131 (by decide) ?_
          refine lv_iadd hx hb dX1_reopen_132 ?_
          refine k_rdVi (As := [.int sc1, .int ((spX1_recordAt x1) + (3 : Int32))]) (rest := [.int (spX2_read wd sc1 ((spX1_recordAt x1) + (2 : Int32))), .int (spX2_read wd sc1 ((spX1_recordAt x1) + (1 : Int32))), .ref aB]) (ci := 2) (q0 := 0) ⟨hx, hb, hml, hown, hts⟩ k_self (c_X2_read l D aM aw ae cA pw ce lf mq ct wd er sc1 ((spX1_recordAt x1) + (3 : Int32))) kv_X1_38 (hP.sub [1, 2, 3] rfl) (hK.sub [0] rfl) rfl rfl rfl rfl ⟨Nat.le_of_ble_eq_true rfl, Nat.le_of_ble_eq_true rfl⟩ rfl hl.1 rfl (Nat.le_of_ble_eq_true rfl) dX1_reopen_133 ⟨Nat.zero_le _, Nat.zero_le _⟩ ?_
          refine k_wrVv (As := [.int (spX2_read wd sc1 ((spX1_recordAt x1) + (1 : Int32))), .int (spX2_read wd sc1 ((spX1_recordAt x1) + (2 : Int32))), .int (spX2_read wd sc1 ((spX1_recordAt x1) + (3 : Int32)))]) (rest := []) (ci := 0) (q0 := 0) (ws' := (wJ aJ aM aw ae aB ab cA sc1 rc1 la1 pw ce lf mq ct wd er (spX0_apply bw1 (spX2_read wd sc1 ((spX1_recordAt x1) + (1 : Int32))) (spX2_read wd sc1 ((spX1_recordAt x1) + (2 : Int32))) (spX2_read wd sc1 ((spX1_recordAt x1) + (3 : Int32)))))) (wr := [(aJ, .inr (1, [.ref aM, .ref aB, .int sc1, .int rc1, .int la1])), (aM, .inr (2, [.ref aw, .ref ae, .int pw, .int ce, .int lf, .int mq, .int ct])), (aw, .inl (cA, 4096, .inl wd)), (ae, .inl (cA, 16, .inl er))]) ⟨hx, hb, hml, hown, hts⟩ k_self (c_X0_apply l D aB ab cA bw1 (spX2_read wd sc1 ((spX1_recordAt x1) + (1 : Int32))) (spX2_read wd sc1 ((spX1_recordAt x1) + (2 : Int32))) (spX2_read wd sc1 ((spX1_recordAt x1) + (3 : Int32)))) kv_X1_57 hP hD hS hA hK rfl rfl [4, 5] [0, 1, 2, 3] [0, 1, 2, 3, 4, 5] rfl (by decide) rfl (by decide) (by decide) rfl (by decide) rfl rfl ⟨Nat.le_of_ble_eq_true rfl, Nat.le_of_ble_eq_true rfl⟩ rfl hl.1 rfl (Nat.le_of_ble_eq_true rfl) dX1_reopen_136 ⟨Nat.zero_le _, Nat.zero_le _⟩ (fun H locs hP hD hS => ?_)
          refine lv_aload_n hx hb dX1_reopen_139 rfl (lv_at hl 1 rfl) ?_
          refine lv_dup hx hb dX1_reopen_140 rfl ?_
          refine va_get (D := D) (ci := 1) (v := .int rc1) (C := RX1) (T := TX1) (N := 5) hx hb hts k_inX1 hown hK hP 0 rfl rfl 3 (by decide) (hts _ kw_157) (fun _ h9 => h9) rfl dX1_reopen_141 ?_
          refine lv_iconst (v := 1) hx hb dX1_reopen_144 (by decide) ?_
          refine lv_iadd hx hb dX1_reopen_145 ?_
          refine va_put (D := D) (ci := 1) (v := .int (rc1 + (1 : Int32))) (ty := .int) (C := RX1) (T := TX1) (N := 5) hx hb hts k_inX1 tyX1 tyX1_ok nmX1 hown hK hP hD hS 0 rfl rfl 3 (by decide) (hts _ kw_157) (fun _ h9 => h9) rfl (by decide +kernel) rfl rfl (Nat.le_of_ble_eq_true rfl) dX1_reopen_146 (fun H locs hP hD hS => ?_)
          have hP : va_P D vwCl (wJ aJ aM aw ae aB ab cA sc1 (rc1 + (1 : Int32)) la1 pw ce lf mq ct wd er (spX0_apply bw1 (spX2_read wd sc1 ((spX1_recordAt x1) + (1 : Int32))) (spX2_read wd sc1 ((spX1_recordAt x1) + (2 : Int32))) (spX2_read wd sc1 ((spX1_recordAt x1) + (3 : Int32))))) H := hP
          have hD : va_D A (wJ aJ aM aw ae aB ab cA sc1 (rc1 + (1 : Int32)) la1 pw ce lf mq ct wd er (spX0_apply bw1 (spX2_read wd sc1 ((spX1_recordAt x1) + (1 : Int32))) (spX2_read wd sc1 ((spX1_recordAt x1) + (2 : Int32))) (spX2_read wd sc1 ((spX1_recordAt x1) + (3 : Int32))))) := hD
          refine lv_aload_n hx hb dX1_reopen_149 rfl (lv_at hl 1 rfl) ?_
          refine lv_dup hx hb dX1_reopen_150 rfl ?_
          refine va_get (D := D) (ci := 1) (v := .int la1) (C := RX1) (T := TX1) (N := 5) hx hb hts k_inX1 hown hK hP 0 rfl rfl 4 (by decide) (hts _ kw_158) (fun _ h9 => h9) rfl dX1_reopen_151 ?_
          refine lv_iconst (v := 1) hx hb dX1_reopen_154 (by decide) ?_
          refine lv_iadd hx hb dX1_reopen_155 ?_
          refine va_put (D := D) (ci := 1) (v := .int (la1 + (1 : Int32))) (ty := .int) (C := RX1) (T := TX1) (N := 5) hx hb hts k_inX1 tyX1 tyX1_ok nmX1 hown hK hP hD hS 0 rfl rfl 4 (by decide) (hts _ kw_158) (fun _ h9 => h9) rfl (by decide +kernel) rfl rfl (Nat.le_of_ble_eq_true rfl) dX1_reopen_156 (fun H locs hP hD hS => ?_)
          have hP : va_P D vwCl (wJ aJ aM aw ae aB ab cA sc1 (rc1 + (1 : Int32)) (la1 + (1 : Int32)) pw ce lf mq ct wd er (spX0_apply bw1 (spX2_read wd sc1 ((spX1_recordAt x1) + (1 : Int32))) (spX2_read wd sc1 ((spX1_recordAt x1) + (2 : Int32))) (spX2_read wd sc1 ((spX1_recordAt x1) + (3 : Int32))))) H := hP
          have hD : va_D A (wJ aJ aM aw ae aB ab cA sc1 (rc1 + (1 : Int32)) (la1 + (1 : Int32)) pw ce lf mq ct wd er (spX0_apply bw1 (spX2_read wd sc1 ((spX1_recordAt x1) + (1 : Int32))) (spX2_read wd sc1 ((spX1_recordAt x1) + (2 : Int32))) (spX2_read wd sc1 ((spX1_recordAt x1) + (3 : Int32))))) := hD
          refine lv_iinc (v := (x1 + (1 : Int32))) (lv' := [(1, .int (x1 + (1 : Int32))), (2, .int (spX1_recordAt x1)), (0, .ref aJ)]) hx hb dX1_reopen_159 hl (k := 2) rfl rfl (by decide) rfl (fun ls hl => ?_)
          refine lv_goto (tgt := 68) hx hb dX1_reopen_162 (by decide) ?_
          exact ih  sc1 (rc1 + (1 : Int32)) (la1 + (1 : Int32)) (spX0_apply bw1 (spX2_read wd sc1 ((spX1_recordAt x1) + (1 : Int32))) (spX2_read wd sc1 ((spX1_recordAt x1) + (2 : Int32))) (spX2_read wd sc1 ((spX1_recordAt x1) + (3 : Int32)))) (x1 + (1 : Int32)) _ _ ls (k_step (N := 12) rfl (by decide) hk hk1 hk2 c_71) (hE.trans (by rw [lpX1_reopen_68_e]; rw [if_neg c_71, if_neg c_82])) hP hD hS (lv_sub hl [2, 0] rfl)
  have L31 : ∀ (n : Nat) (sc1 : Int32) (rc1 : Int32) (la1 : Int32) (bw1 : Nat → Int32) (x1 : Int32) (H : Heap) (locs : List Loc) (ls : Array Slot), (∃ k : Nat, x1 = nI k ∧ k ≤ 191 ∧ 191 < k + n) → spX1_reopen sc rc la wd bw = lpX1_reopen_31 n sc1 rc1 la1 wd bw1 x1 → va_P D vwCl (wJ aJ aM aw ae aB ab cA sc1 rc1 la1 pw ce lf mq ct wd er bw1) H → va_D A (wJ aJ aM aw ae aB ab cA sc1 rc1 la1 pw ce lf mq ct wd er bw1) → va_S A s.heap H locs → lv_has ls 3 [(0, .ref aJ), (1, .int x1)] → W p l e (headSpec (kT yX1_reopen cX1_reopen 3 none) ({ frames := 5, cells := 0, slots := 0, locals := 113 })).room s m ([.ref aJ] : List Value).toArray below meth c H locs 0 0 (MQ below (va_Qv (fun (_ : Unit) => True) (kPost D A (wJ aJ aM aw ae aB ab cA (spX1_reopen sc rc la wd bw).1 (spX1_reopen sc rc la wd bw).2.1 (spX1_reopen sc rc la wd bw).2.2.1 pw ce lf mq ct wd er (spX1_reopen sc rc la wd bw).2.2.2) [(cA, .int)]) A) ([.ref aJ] : List Value).toArray s 0 0 A) (F0 m 31 ls []) := by
    intro n
    induction n with
    | zero =>
      intro sc1 rc1 la1 bw1 x1 H locs ls hI
      exact absurd hI (by rintro ⟨k, -, h1, h2⟩; omega)
    | succ n ih =>
      intro sc1 rc1 la1 bw1 x1 H locs ls hI hE hP hD hS hl
      obtain ⟨k, hk, hk1, hk2⟩ := hI
      refine lv_iload_n hx hb dX1_reopen_31 rfl (lv_at hl 1 rfl) ?_
      refine lv_sipush (v := 191) hx hb dX1_reopen_32 (by decide) ?_
      refine lv_icmp_ge (tgt := 66) hx hb dX1_reopen_35 (by decide) (fun c_35 => ?_) (fun c_35 => ?_)
      · refine lv_iconst (v := 0) hx hb dX1_reopen_66 (by decide) ?_
        refine lv_istore_n (lv' := [(1, .int (0 : Int32)), (0, .ref aJ)]) hx hb dX1_reopen_67 rfl hl (by decide) rfl (fun ls hl => ?_)
        exact L68 13 sc1 rc1 la1 bw1 (0 : Int32) _ _ ls (⟨0, rfl, by decide, by decide⟩) (hE.trans (by rw [lpX1_reopen_31_e]; rw [if_pos c_35])) hP hD hS (lv_sub hl [1, 0] rfl)
      · refine lv_aload_n hx hb dX1_reopen_38 rfl (lv_at hl 0 rfl) ?_
        refine va_get (D := D) (ci := 1) (v := .ref aB) (C := RX1) (T := TX1) (N := 5) hx hb hts k_inX1 hown hK hP 0 rfl rfl 1 (by decide) (hts _ kw_155) (fun _ h9 => h9) rfl dX1_reopen_39 ?_
        refine lv_iload_n hx hb dX1_reopen_42 rfl (lv_at hl 1 rfl) ?_
        refine lv_aload_n hx hb dX1_reopen_43 rfl (lv_at hl 0 rfl) ?_
        refine va_get (D := D) (ci := 1) (v := .ref aM) (C := RX1) (T := TX1) (N := 5) hx hb hts k_inX1 hown hK hP 0 rfl rfl 0 (by decide) (hts _ kw_154) (fun _ h9 => h9) rfl dX1_reopen_44 ?_
        refine lv_aload_n hx hb dX1_reopen_47 rfl (lv_at hl 0 rfl) ?_
        refine va_get (D := D) (ci := 1) (v := .int sc1) (C := RX1) (T := TX1) (N := 5) hx hb hts k_inX1 hown hK hP 0 rfl rfl 2 (by decide) (hts _ kw_156) (fun _ h9 => h9) rfl dX1_reopen_48 ?_
        refine lv_iconst (v := 2) hx hb dX1_reopen_51 (by decide) ?_
        refine lv_iload_n hx hb dX1_reopen_52 rfl (lv_at hl 1 rfl) ?_
        refine lv_iadd hx hb dX1_reopen_53 ?_
        refine k_rdVi (As := [.int sc1, .int ((2 : Int32) + x1)]) (rest := [.int x1, .ref aB]) (ci := 2) (q0 := 0) ⟨hx, hb, hml, hown, hts⟩ k_self (c_X2_read l D aM aw ae cA pw ce lf mq ct wd er sc1 ((2 : Int32) + x1)) kv_X1_38 (hP.sub [1, 2, 3] rfl) (hK.sub [0] rfl) rfl rfl rfl rfl ⟨Nat.le_of_ble_eq_true rfl, Nat.le_of_ble_eq_true rfl⟩ rfl hl.1 rfl (Nat.le_of_ble_eq_true rfl) dX1_reopen_54 ⟨Nat.zero_le _, Nat.zero_le _⟩ ?_
        refine k_wrVv (As := [.int x1, .int (spX2_read wd sc1 ((2 : Int32) + x1))]) (rest := []) (ci := 0) (q0 := 0) (ws' := (wJ aJ aM aw ae aB ab cA sc1 rc1 la1 pw ce lf mq ct wd er (spX0_put bw1 x1 (spX2_read wd sc1 ((2 : Int32) + x1))))) (wr := [(aJ, .inr (1, [.ref aM, .ref aB, .int sc1, .int rc1, .int la1])), (aM, .inr (2, [.ref aw, .ref ae, .int pw, .int ce, .int lf, .int mq, .int ct])), (aw, .inl (cA, 4096, .inl wd)), (ae, .inl (cA, 16, .inl er))]) ⟨hx, hb, hml, hown, hts⟩ k_self (c_X0_put l D aB ab cA bw1 x1 (spX2_read wd sc1 ((2 : Int32) + x1))) kv_X1_65 hP hD hS hA hK rfl rfl [4, 5] [0, 1, 2, 3] [0, 1, 2, 3, 4, 5] rfl (by decide) rfl (by decide) (by decide) rfl (by decide) rfl rfl ⟨Nat.le_of_ble_eq_true rfl, Nat.le_of_ble_eq_true rfl⟩ rfl hl.1 rfl (Nat.le_of_ble_eq_true rfl) dX1_reopen_57 ⟨Nat.zero_le _, Nat.zero_le _⟩ (fun H locs hP hD hS => ?_)
        refine lv_iinc (v := (x1 + (1 : Int32))) (lv' := [(1, .int (x1 + (1 : Int32))), (0, .ref aJ)]) hx hb dX1_reopen_60 hl (k := 1) rfl rfl (by decide) rfl (fun ls hl => ?_)
        refine lv_goto (tgt := 31) hx hb dX1_reopen_63 (by decide) ?_
        exact ih  sc1 rc1 la1 (spX0_put bw1 x1 (spX2_read wd sc1 ((2 : Int32) + x1))) (x1 + (1 : Int32)) _ _ ls (k_step (N := 191) rfl (by decide) hk hk1 hk2 c_35) (hE.trans (by rw [lpX1_reopen_31_e]; rw [if_neg c_35])) hP hD hS (lv_sub hl [1, 0] rfl)
  refine lv_aload_n hx hb dX1_reopen_0 rfl (lv_at hl 0 rfl) ?_
  refine lv_aload_n hx hb dX1_reopen_1 rfl (lv_at hl 0 rfl) ?_
  refine k_rdVi (As := []) (rest := [.ref aJ]) (ci := 1) (q0 := 0) ⟨hx, hb, hml, hown, hts⟩ k_self (c_X1_newestSector l D aJ aM aw ae aB ab cA sc rc la pw ce lf mq ct wd er bw ) kv_X1_61 (hP.sub [0, 1, 2, 3, 4, 5] rfl) (hK.sub [0] rfl) rfl rfl rfl rfl ⟨Nat.le_of_ble_eq_true rfl, Nat.le_of_ble_eq_true rfl⟩ rfl hl.1 rfl (Nat.le_of_ble_eq_true rfl) dX1_reopen_2 ⟨Nat.zero_le _, Nat.zero_le _⟩ ?_
  refine va_put (D := D) (ci := 1) (v := .int (spX1_newestSector sc wd)) (ty := .int) (C := RX1) (T := TX1) (N := 5) hx hb hts k_inX1 tyX1 tyX1_ok nmX1 hown hK hP hD hS 0 rfl rfl 2 (by decide) (hts _ kw_156) (fun _ h9 => h9) rfl (by decide +kernel) rfl rfl (Nat.le_of_ble_eq_true rfl) dX1_reopen_5 (fun H locs hP hD hS => ?_)
  have hP : va_P D vwCl (wJ aJ aM aw ae aB ab cA (spX1_newestSector sc wd) rc la pw ce lf mq ct wd er bw) H := hP
  have hD : va_D A (wJ aJ aM aw ae aB ab cA (spX1_newestSector sc wd) rc la pw ce lf mq ct wd er bw) := hD
  refine lv_aload_n hx hb dX1_reopen_8 rfl (lv_at hl 0 rfl) ?_
  refine lv_iconst (v := 0) hx hb dX1_reopen_9 (by decide) ?_
  refine va_put (D := D) (ci := 1) (v := .int (0 : Int32)) (ty := .int) (C := RX1) (T := TX1) (N := 5) hx hb hts k_inX1 tyX1 tyX1_ok nmX1 hown hK hP hD hS 0 rfl rfl 3 (by decide) (hts _ kw_157) (fun _ h9 => h9) rfl (by decide +kernel) rfl rfl (Nat.le_of_ble_eq_true rfl) dX1_reopen_10 (fun H locs hP hD hS => ?_)
  have hP : va_P D vwCl (wJ aJ aM aw ae aB ab cA (spX1_newestSector sc wd) (0 : Int32) la pw ce lf mq ct wd er bw) H := hP
  have hD : va_D A (wJ aJ aM aw ae aB ab cA (spX1_newestSector sc wd) (0 : Int32) la pw ce lf mq ct wd er bw) := hD
  refine lv_aload_n hx hb dX1_reopen_13 rfl (lv_at hl 0 rfl) ?_
  refine lv_aload_n hx hb dX1_reopen_14 rfl (lv_at hl 0 rfl) ?_
  refine va_get (D := D) (ci := 1) (v := .ref aM) (C := RX1) (T := TX1) (N := 5) hx hb hts k_inX1 hown hK hP 0 rfl rfl 0 (by decide) (hts _ kw_154) (fun _ h9 => h9) rfl dX1_reopen_15 ?_
  refine lv_aload_n hx hb dX1_reopen_18 rfl (lv_at hl 0 rfl) ?_
  refine va_get (D := D) (ci := 1) (v := .int (spX1_newestSector sc wd)) (C := RX1) (T := TX1) (N := 5) hx hb hts k_inX1 hown hK hP 0 rfl rfl 2 (by decide) (hts _ kw_156) (fun _ h9 => h9) rfl dX1_reopen_19 ?_
  refine lv_iconst (v := 1) hx hb dX1_reopen_22 (by decide) ?_
  refine k_rdVi (As := [.int (spX1_newestSector sc wd), .int (1 : Int32)]) (rest := [.ref aJ]) (ci := 2) (q0 := 0) ⟨hx, hb, hml, hown, hts⟩ k_self (c_X2_read l D aM aw ae cA pw ce lf mq ct wd er (spX1_newestSector sc wd) (1 : Int32)) kv_X1_38 (hP.sub [1, 2, 3] rfl) (hK.sub [0] rfl) rfl rfl rfl rfl ⟨Nat.le_of_ble_eq_true rfl, Nat.le_of_ble_eq_true rfl⟩ rfl hl.1 rfl (Nat.le_of_ble_eq_true rfl) dX1_reopen_23 ⟨Nat.zero_le _, Nat.zero_le _⟩ ?_
  refine va_put (D := D) (ci := 1) (v := .int (spX2_read wd (spX1_newestSector sc wd) (1 : Int32))) (ty := .int) (C := RX1) (T := TX1) (N := 5) hx hb hts k_inX1 tyX1 tyX1_ok nmX1 hown hK hP hD hS 0 rfl rfl 4 (by decide) (hts _ kw_158) (fun _ h9 => h9) rfl (by decide +kernel) rfl rfl (Nat.le_of_ble_eq_true rfl) dX1_reopen_26 (fun H locs hP hD hS => ?_)
  have hP : va_P D vwCl (wJ aJ aM aw ae aB ab cA (spX1_newestSector sc wd) (0 : Int32) (spX2_read wd (spX1_newestSector sc wd) (1 : Int32)) pw ce lf mq ct wd er bw) H := hP
  have hD : va_D A (wJ aJ aM aw ae aB ab cA (spX1_newestSector sc wd) (0 : Int32) (spX2_read wd (spX1_newestSector sc wd) (1 : Int32)) pw ce lf mq ct wd er bw) := hD
  refine lv_iconst (v := 0) hx hb dX1_reopen_29 (by decide) ?_
  refine lv_istore_n (lv' := [(1, .int (0 : Int32)), (0, .ref aJ)]) hx hb dX1_reopen_30 rfl hl (by decide) rfl (fun ls hl => ?_)
  exact L31 192 (spX1_newestSector sc wd) (0 : Int32) (spX2_read wd (spX1_newestSector sc wd) (1 : Int32)) bw (0 : Int32) _ _ ls (⟨0, rfl, by decide, by decide⟩) (by unfold spX1_reopen; rfl) hP hD hS (lv_sub hl [1, 0] rfl)
