theorem kw_obj : Cond.code objectInit ⟨#[0xb1]⟩ 1 none ∈ kG := k_mem (i := 44) (by decide +kernel) (by decide +kernel)
/-- the books at first -/
def kIB : Nat → Nat → Int32
  | 0 => spX0_put (fun _ => 0) (12 : Int32) (1000 : Int32)
  | k + 1 => spX0_put (kIB k) ((63 : Int32) + (nI k * (4 : Int32))) (-1 : Int32)
set_option maxHeartbeats 4000000 in
set_option maxRecDepth 100000 in
theorem c_X0_init (l : Launch) (D : va_G) (aB : Nat) (cA : ClassId)  : kIn l yX0_init cX0_init 2 { frames := 1, cells := 1, slots := 191, locals := 22 } D [(cA, .int)] (fun _ => True) [.ref aB] [(aB, .inr (0, [.null]))] Nat (fun ab => wB aB ab cA (kIB 32)) 1 191 := by
  intro sz
  refine Met.ofW (cc := cX0_init) (maxL := 2) (ret := none) (by decide) rfl ?_
  intro p e s m args below meth c s₁ B hml hv
  obtain ⟨rfl, ⟨hsz, hP, hK, hD0⟩, hXX⟩ := hv
  have hx := B.exec
  have hb := B.bytes
  have hr := B.returns
  have hts : ∀ w ∈ kG, w.before _ s = true := fun w h => atoms_spec (ws := kT yX0_init cX0_init 2 none) B.pre w (List.mem_cons_of_mem _ h)
  have hown : s.vm.findClass RX0 = some m.cls := findClass_of_methodNamed B.named
  have hlocks := B.notSynchronized
  have hin : meth.name = "<init>" := (name_of_methodNamed B.named B.method).1
  subst hsz
  have hD := hD0.self (sz := s.heap.size)
  generalize hAe : va_A [(aB, .inr (0, [.null]))] s.heap.size = A at hD ⊢
  have hA : ∀ q : Nat, s.heap.size ≤ q → A q := fun q h => by rw [← hAe]; exact Or.inr h
  have hS : va_S A s.heap s.heap [] := va_S.rf
  have hl := lv_entry ([.ref aB]) (n := 2) (Nat.le_of_ble_eq_true rfl)
  rw [lg_entry_eq]
  generalize (lg_sl ([.ref aB]) ++ List.replicate (2 - (lg_sl ([.ref aB])).length) Slot.unset).toArray = ls at hl ⊢
  have hl : lv_has ls 2 [(0, .ref aB)] := hl
  refine lv_aload_n hx hb dX0_init_0 rfl (lv_at hl 0 rfl) ?_
  refine W.objInit hx hb hown (hts _ kw_102) (hts _ kw_43) (hts _ kw_obj) rfl (by rw [hml]; exact hl.1) rfl dX0_init_1 (Nat.le_of_ble_eq_true rfl) (Nat.le_of_ble_eq_true rfl) ?_
  refine W.eq (g2 := F0 m 4 ls []) rfl ?_
  refine lv_aload_n hx hb dX0_init_4 rfl (lv_at hl 0 rfl) ?_
  refine lv_sipush (v := 191) hx hb dX0_init_5 (by decide) ?_
  refine k_newa (k := 191) (N := 191) hx hb (hts _ kw_65) hK hP hD hS hA (by decide) (by decide) (by decide) (Nat.le_of_ble_eq_true rfl) (Nat.le_of_ble_eq_true rfl) dX0_init_8 (fun q8 H hP hD hS => ?_)
  have hP : va_P D vwCl [(aB, .inr (0, [.null])), (q8, .inl (cA, 191, .inl (fun _ => 0)))] H := hP
  have hD : va_D A [(aB, .inr (0, [.null])), (q8, .inl (cA, 191, .inl (fun _ => 0)))] := hD
  refine W.widen (k := 1) (n := 191) (by omega) (by omega) ?_
  refine va_putF (D := D) (ci := 0) (v := .ref q8) (ty := .array .int) (C := RX0) (T := TX0) (N := 1) hx hb hts k_inX0 tyX0 tyX0_ok nmX0 hown hK hP hD hS 0 rfl rfl 0 (by decide) (hts _ kw_107) (fun _ h9 => h9) rfl hin rfl (by decide +kernel) rfl rfl (Nat.le_of_ble_eq_true rfl) dX0_init_10 (fun H locs hP hD hS => ?_)
  have hP : va_P D vwCl [(aB, .inr (0, [.ref q8])), (q8, .inl (cA, 191, .inl (fun _ => 0)))] H := hP
  have hD : va_D A [(aB, .inr (0, [.ref q8])), (q8, .inl (cA, 191, .inl (fun _ => 0)))] := hD
  refine lv_aload_n hx hb dX0_init_13 rfl (lv_at hl 0 rfl) ?_
  refine lv_bipush (v := 12) hx hb dX0_init_14 (by decide) ?_
  refine lv_sipush (v := 1000) hx hb dX0_init_16 (by decide) ?_
  refine k_wrVv (As := [.int (12 : Int32), .int (1000 : Int32)]) (rest := []) (ci := 0) (q0 := 0) (ws' := [(aB, .inr (0, [.ref q8])), (q8, .inl (cA, 191, .inl (spX0_put (fun _ => 0) (12 : Int32) (1000 : Int32))))]) (wr := []) ⟨hx, hb, hml, hown, hts⟩ k_self (c_X0_put l D aB q8 cA (fun _ => 0) (12 : Int32) (1000 : Int32)) kv_X0_13 hP hD hS hA hK rfl rfl [0, 1] [] [0, 1] rfl (by decide) rfl (by decide) (by decide) rfl (by decide) rfl rfl ⟨Nat.le_of_ble_eq_true rfl, Nat.le_of_ble_eq_true rfl⟩ rfl hl.1 rfl (Nat.le_of_ble_eq_true rfl) dX0_init_19 ⟨Nat.le_of_ble_eq_true rfl, Nat.le_of_ble_eq_true rfl⟩ (fun H locs hP hD hS => ?_)
  refine lv_iconst (v := 0) hx hb dX0_init_22 (by decide) ?_
  refine lv_istore_n (lv' := [(1, .int (0 : Int32)), (0, .ref aB)]) hx hb dX0_init_23 rfl hl (by decide) rfl (fun ls hl => ?_)
  have L24 : ∀ (n : Nat) (f : Nat → Int32) (x1 : Int32) (H : Heap) (locs : List Loc) (ls : Array Slot), (∃ k : Nat, x1 = nI k ∧ k ≤ 32 ∧ 32 < k + n ∧ f = kIB k) → va_P D vwCl [(aB, .inr (0, [.ref q8])), (q8, .inl (cA, 191, .inl f))] H → va_D A [(aB, .inr (0, [.ref q8])), (q8, .inl (cA, 191, .inl f))] → va_S A s.heap H locs → lv_has ls 2 [(0, .ref aB), (1, .int x1)] → W p l e (headSpec (kT yX0_init cX0_init 2 none) ({ frames := 1, cells := 1, slots := 191, locals := 22 })).room s m ([.ref aB] : List Value).toArray below meth c H locs 1 191 (MQ below (va_Qv (fun (_ : Nat) => True) (fun u t => va_P D vwCl ((fun ab => wB aB ab cA (kIB 32)) u) t.heap ∧ va_K D vwCl [(cA, .int)] t ∧ va_D A ((fun ab => wB aB ab cA (kIB 32)) u)) A) ([.ref aB] : List Value).toArray s 1 191 A) (F0 m 24 ls []) := by
    intro n
    induction n with
    | zero =>
      intro f x1 H locs ls hI
      exact absurd hI (by rintro ⟨k, -, h1, h2, -⟩; omega)
    | succ n ih =>
      intro f x1 H locs ls hI hP hD hS hl
      obtain ⟨k, hk, hk1, hk2, hf⟩ := hI
      refine lv_iload_n hx hb dX0_init_24 rfl (lv_at hl 1 rfl) ?_
      refine lv_bipush (v := 32) hx hb dX0_init_25 (by decide) ?_
      refine lv_icmp_ge (tgt := 47) hx hb dX0_init_27 (by decide) (fun c_27 => ?_) (fun c_27 => ?_)
      · have he : f = kIB 32 := by rw [hf, k_geq (N := 32) rfl hk hk1 (by decide) c_27]
        rw [he] at hP hD
        have hP : va_P D vwCl [(aB, .inr (0, [.ref q8])), (q8, .inl (cA, 191, .inl (kIB 32)))] H := hP
        have hD : va_D A [(aB, .inr (0, [.ref q8])), (q8, .inl (cA, 191, .inl (kIB 32)))] := hD
        have hP9 : va_P D vwCl (wB aB q8 cA (kIB 32)) H := hP.sub [0, 1] rfl
        have hD9 : va_D A (wB aB q8 cA (kIB 32)) := hD.sub [0, 1] (by decide) rfl
        exact W.vret hx hb hr (fun t ht hW => ⟨⟨q8, rfl, trivial, by rw [ht]; exact hP9, va_K.moved hW.alike hK, hD9⟩, hS.F ht⟩) hS.2.2 dX0_init_47
      · refine lv_aload_n hx hb dX0_init_30 rfl (lv_at hl 0 rfl) ?_
        refine lv_bipush (v := 63) hx hb dX0_init_31 (by decide) ?_
        refine lv_iload_n hx hb dX0_init_33 rfl (lv_at hl 1 rfl) ?_
        refine lv_iconst (v := 4) hx hb dX0_init_34 (by decide) ?_
        refine lv_imul hx hb dX0_init_35 ?_
        refine lv_iadd hx hb dX0_init_36 ?_
        refine lv_iconst (v := -1) hx hb dX0_init_37 (by decide) ?_
        refine k_wrVv (As := [.int ((63 : Int32) + (x1 * (4 : Int32))), .int (-1 : Int32)]) (rest := []) (ci := 0) (q0 := 0) (ws' := [(aB, .inr (0, [.ref q8])), (q8, .inl (cA, 191, .inl (spX0_put f ((63 : Int32) + (x1 * (4 : Int32))) (-1 : Int32))))]) (wr := []) ⟨hx, hb, hml, hown, hts⟩ k_self (c_X0_put l D aB q8 cA f ((63 : Int32) + (x1 * (4 : Int32))) (-1 : Int32)) kv_X0_13 hP hD hS hA hK rfl rfl [0, 1] [] [0, 1] rfl (by decide) rfl (by decide) (by decide) rfl (by decide) rfl rfl ⟨Nat.le_of_ble_eq_true rfl, Nat.le_of_ble_eq_true rfl⟩ rfl hl.1 rfl (Nat.le_of_ble_eq_true rfl) dX0_init_38 ⟨Nat.le_of_ble_eq_true rfl, Nat.le_of_ble_eq_true rfl⟩ (fun H locs hP hD hS => ?_)
        refine lv_iinc (v := (x1 + (1 : Int32))) (lv' := [(1, .int (x1 + (1 : Int32))), (0, .ref aB)]) hx hb dX0_init_41 hl (k := 1) rfl rfl (by decide) rfl (fun ls hl => ?_)
        refine lv_goto (tgt := 24) hx hb dX0_init_44 (by decide) ?_
        exact ih _ _ _ _ ls (by have h3 := k_lt (N := 32) rfl hk hk1 (by decide) c_27; exact ⟨k + 1, by rw [hk]; exact nI_1 k, by omega, by omega, by rw [hf, hk]; rfl⟩) hP hD hS (lv_sub hl [1, 0] rfl)
  exact L24 33 _ _ _ _ ls ⟨0, rfl, by decide, by decide, rfl⟩ hP hD hS (lv_sub hl [1, 0] rfl)

set_option maxHeartbeats 4000000 in
set_option maxRecDepth 100000 in
theorem c_X3_init (l : Launch) (D : va_G) (aT : Nat) (cA : ClassId)  : kIn l yX3_init cX3_init 1 { frames := 1, cells := 2, slots := 640, locals := 12 } D [(cA, .int)] (fun _ => True) [.ref aT] [(aT, .inr (3, [.null, .null]))] (Nat × Nat) (fun u => wT aT u.1 u.2 cA (fun _ => 0) (fun _ => 0)) 2 640 := by
  intro sz
  refine Met.ofW (cc := cX3_init) (maxL := 1) (ret := none) (by decide) rfl ?_
  intro p e s m args below meth c s₁ B hml hv
  obtain ⟨rfl, ⟨hsz, hP, hK, hD0⟩, hXX⟩ := hv
  have hx := B.exec
  have hb := B.bytes
  have hr := B.returns
  have hts : ∀ w ∈ kG, w.before _ s = true := fun w h => atoms_spec (ws := kT yX3_init cX3_init 1 none) B.pre w (List.mem_cons_of_mem _ h)
  have hown : s.vm.findClass RX3 = some m.cls := findClass_of_methodNamed B.named
  have hlocks := B.notSynchronized
  have hin : meth.name = "<init>" := (name_of_methodNamed B.named B.method).1
  subst hsz
  have hD := hD0.self (sz := s.heap.size)
  generalize hAe : va_A [(aT, .inr (3, [.null, .null]))] s.heap.size = A at hD ⊢
  have hA : ∀ q : Nat, s.heap.size ≤ q → A q := fun q h => by rw [← hAe]; exact Or.inr h
  have hS : va_S A s.heap s.heap [] := va_S.rf
  have hl := lv_entry ([.ref aT]) (n := 1) (Nat.le_of_ble_eq_true rfl)
  rw [lg_entry_eq]
  generalize (lg_sl ([.ref aT]) ++ List.replicate (1 - (lg_sl ([.ref aT])).length) Slot.unset).toArray = ls at hl ⊢
  have hl : lv_has ls 1 [(0, .ref aT)] := hl
  refine lv_aload_n hx hb dX3_init_0 rfl (lv_at hl 0 rfl) ?_
  refine W.objInit hx hb hown (hts _ kw_57) (hts _ kw_43) (hts _ kw_obj) rfl (by rw [hml]; exact hl.1) rfl dX3_init_1 (Nat.le_of_ble_eq_true rfl) (Nat.le_of_ble_eq_true rfl) ?_
  refine W.eq (g2 := F0 m 4 ls []) rfl ?_
  refine lv_aload_n hx hb dX3_init_4 rfl (lv_at hl 0 rfl) ?_
  refine lv_sipush (v := 320) hx hb dX3_init_5 (by decide) ?_
  refine k_newa (k := 320) (N := 320) hx hb (hts _ kw_65) hK hP hD hS hA (by decide) (by decide) (by decide) (Nat.le_of_ble_eq_true rfl) (Nat.le_of_ble_eq_true rfl) dX3_init_8 (fun q8 H hP hD hS => ?_)
  have hP : va_P D vwCl [(aT, .inr (3, [.null, .null])), (q8, .inl (cA, 320, .inl (fun _ => 0)))] H := hP
  have hD : va_D A [(aT, .inr (3, [.null, .null])), (q8, .inl (cA, 320, .inl (fun _ => 0)))] := hD
  refine W.widen (k := 1) (n := 320) (by omega) (by omega) ?_
  refine va_putF (D := D) (ci := 3) (v := .ref q8) (ty := .array .int) (C := RX3) (T := TX3) (N := 2) hx hb hts k_inX3 tyX3 tyX3_ok nmX3 hown hK hP hD hS 0 rfl rfl 0 (by decide) (hts _ kw_58) (fun _ h9 => h9) rfl hin rfl (by decide +kernel) rfl rfl (Nat.le_of_ble_eq_true rfl) dX3_init_10 (fun H locs hP hD hS => ?_)
  have hP : va_P D vwCl [(aT, .inr (3, [.ref q8, .null])), (q8, .inl (cA, 320, .inl (fun _ => 0)))] H := hP
  have hD : va_D A [(aT, .inr (3, [.ref q8, .null])), (q8, .inl (cA, 320, .inl (fun _ => 0)))] := hD
  refine lv_aload_n hx hb dX3_init_13 rfl (lv_at hl 0 rfl) ?_
  refine lv_sipush (v := 320) hx hb dX3_init_14 (by decide) ?_
  refine k_newa (k := 320) (N := 320) hx hb (hts _ kw_65) hK hP hD hS hA (by decide) (by decide) (by decide) (Nat.le_of_ble_eq_true rfl) (Nat.le_of_ble_eq_true rfl) dX3_init_17 (fun q17 H hP hD hS => ?_)
  have hP : va_P D vwCl [(aT, .inr (3, [.ref q8, .null])), (q8, .inl (cA, 320, .inl (fun _ => 0))), (q17, .inl (cA, 320, .inl (fun _ => 0)))] H := hP
  have hD : va_D A [(aT, .inr (3, [.ref q8, .null])), (q8, .inl (cA, 320, .inl (fun _ => 0))), (q17, .inl (cA, 320, .inl (fun _ => 0)))] := hD
  refine W.widen (k := 2) (n := 640) (by omega) (by omega) ?_
  refine va_putF (D := D) (ci := 3) (v := .ref q17) (ty := .array .int) (C := RX3) (T := TX3) (N := 2) hx hb hts k_inX3 tyX3 tyX3_ok nmX3 hown hK hP hD hS 0 rfl rfl 1 (by decide) (hts _ kw_59) (fun _ h9 => h9) rfl hin rfl (by decide +kernel) rfl rfl (Nat.le_of_ble_eq_true rfl) dX3_init_19 (fun H locs hP hD hS => ?_)
  have hP : va_P D vwCl [(aT, .inr (3, [.ref q8, .ref q17])), (q8, .inl (cA, 320, .inl (fun _ => 0))), (q17, .inl (cA, 320, .inl (fun _ => 0)))] H := hP
  have hD : va_D A [(aT, .inr (3, [.ref q8, .ref q17])), (q8, .inl (cA, 320, .inl (fun _ => 0))), (q17, .inl (cA, 320, .inl (fun _ => 0)))] := hD
  have hP9 : va_P D vwCl (wT aT q8 q17 cA (fun _ => 0) (fun _ => 0)) H := hP.sub [0, 1, 2] rfl
  have hD9 : va_D A (wT aT q8 q17 cA (fun _ => 0) (fun _ => 0)) := hD.sub [0, 1, 2] (by decide) rfl
  exact W.vret hx hb hr (fun t ht hW => ⟨⟨(q8, q17), rfl, trivial, by rw [ht]; exact hP9, va_K.moved hW.alike hK, hD9⟩, hS.F ht⟩) hS.2.2 dX3_init_22

/-- an array filled from its front on -/
def kFl (f : Nat → Int32) (v : Int32) : Nat → Nat → Int32
  | 0 => f
  | k + 1 => upd (kFl f v k) (Int32.toNatClampNeg (nI k)) v
set_option maxHeartbeats 4000000 in
set_option maxRecDepth 100000 in
theorem c_J7_fill (l : Launch) (D : va_G) (aw : Nat) (cA : ClassId) (f0 : Nat → Int32) (v : Int32) : kWv l yJ7_fill_53178 cJ7_fill_53178 4 none { frames := 0, cells := 0, slots := 0, locals := 0 } D [(cA, .int)] [.ref aw, .int v] [(aw, .inl (cA, 4096, .inl f0))] [(aw, .inl (cA, 4096, .inl (kFl f0 v 4096)))] := by
  intro sz
  refine Met.ofW (cc := cJ7_fill_53178) (maxL := 4) (ret := none) (by decide) rfl ?_
  intro p e s m args below meth c s₁ B hml hv
  obtain ⟨rfl, hsz, hP, hK, hD0⟩ := hv
  have hx := B.exec
  have hb := B.bytes
  have hr := B.returns
  have hlocks := B.notSynchronized
  subst hsz
  have hD := hD0.self (sz := s.heap.size)
  generalize hAe : va_A [(aw, .inl (cA, 4096, .inl f0))] s.heap.size = A at hD ⊢
  have hS : va_S A s.heap s.heap [] := va_S.rf
  have hl := lv_entry ([.ref aw, .int v]) (n := 4) (Nat.le_of_ble_eq_true rfl)
  rw [lg_entry_eq]
  generalize (lg_sl ([.ref aw, .int v]) ++ List.replicate (4 - (lg_sl ([.ref aw, .int v])).length) Slot.unset).toArray = ls at hl ⊢
  have hl : lv_has ls 4 [(0, .ref aw), (1, .int v)] := hl
  refine lv_iconst (v := 0) hx hb dJ7_fill_53178_0 (by decide) ?_
  refine lv_istore_n (lv' := [(2, .int 0), (0, .ref aw), (1, .int v)]) hx hb dJ7_fill_53178_1 rfl hl (by decide) rfl (fun ls hl => ?_)
  refine lv_aload_n hx hb dJ7_fill_53178_2 rfl (lv_at hl 1 rfl) ?_
  refine va_alen (v := 4096) hx hb hK hP 0 0 rfl rfl rfl dJ7_fill_53178_3 ?_
  refine lv_istore_n (lv' := [(3, .int 4096), (2, .int 0), (0, .ref aw), (1, .int v)]) hx hb dJ7_fill_53178_4 rfl hl (by decide) rfl (fun ls hl => ?_)
  have L5 : ∀ (n : Nat) (f : Nat → Int32) (x2 : Int32) (H : Heap) (locs : List Loc) (ls : Array Slot), (∃ k : Nat, x2 = nI k ∧ k ≤ 4096 ∧ 4096 < k + n ∧ f = kFl f0 v k) → va_P D vwCl [(aw, .inl (cA, 4096, .inl f))] H → va_D A [(aw, .inl (cA, 4096, .inl f))] → va_S A s.heap H locs → lv_has ls 4 [(3, .int 4096), (2, .int x2), (0, .ref aw), (1, .int v)] → W p l e (headSpec (kT yJ7_fill_53178 cJ7_fill_53178 4 none) ({ frames := 0, cells := 0, slots := 0, locals := 0 })).room s m ([.ref aw, .int v] : List Value).toArray below meth c H locs 0 0 (MQ below (va_Qv (fun (_ : Unit) => True) (kPost D A [(aw, .inl (cA, 4096, .inl (kFl f0 v 4096)))] [(cA, .int)]) A) ([.ref aw, .int v] : List Value).toArray s 0 0 A) (F0 m 5 ls []) := by
    intro n
    induction n with
    | zero =>
      intro f x2 H locs ls hI
      exact absurd hI (by rintro ⟨k, -, h1, h2, -⟩; omega)
    | succ n ih =>
      intro f x2 H locs ls hI hP hD hS hl
      obtain ⟨k, hk, hk1, hk2, hf⟩ := hI
      refine lv_iload_n hx hb dJ7_fill_53178_5 rfl (lv_at hl 1 rfl) ?_
      refine lv_iload_n hx hb dJ7_fill_53178_6 rfl (lv_at hl 0 rfl) ?_
      refine lv_icmp_ge (tgt := 20) hx hb dJ7_fill_53178_7 (by decide) (fun c_7 => ?_) (fun c_7 => ?_)
      · have he : f = kFl f0 v 4096 := by rw [hf, k_geq (N := 4096) rfl hk hk1 (by decide) c_7]
        rw [he] at hP hD
        exact W.vret hx hb hr (fun t ht hW => ⟨⟨(), rfl, trivial, by rw [ht]; exact hP, va_K.moved hW.alike hK, hD⟩, hS.F ht⟩) hS.2.2 dJ7_fill_53178_20
      · refine lv_aload_n hx hb dJ7_fill_53178_10 rfl (lv_at hl 2 rfl) ?_
        refine lv_iload_n hx hb dJ7_fill_53178_11 rfl (lv_at hl 1 rfl) ?_
        refine lv_iload_n hx hb dJ7_fill_53178_12 rfl (lv_at hl 3 rfl) ?_
        refine va_iast hx hb hK hP hD hS 0 0 rfl rfl (by rw [hk]; exact vp_in_nI (k_lt (N := 4096) rfl hk hk1 (by decide) c_7) (by decide)) dJ7_fill_53178_13 (fun H locs hP hD hS => ?_)
        have hP : va_P D vwCl [(aw, .inl (cA, 4096, .inl (upd f (Int32.toNatClampNeg x2) v)))] H := hP
        have hD : va_D A [(aw, .inl (cA, 4096, .inl (upd f (Int32.toNatClampNeg x2) v)))] := hD
        refine lv_iinc (v := (x2 + 1)) (lv' := [(2, .int (x2 + 1)), (3, .int 4096), (0, .ref aw), (1, .int v)]) hx hb dJ7_fill_53178_14 hl (k := 1) rfl rfl (by decide) rfl (fun ls hl => ?_)
        refine lv_goto (tgt := 5) hx hb dJ7_fill_53178_17 (by decide) ?_
        exact ih _ _ _ _ ls (by have h3 := k_lt (N := 4096) rfl hk hk1 (by decide) c_7; exact ⟨k + 1, by rw [hk]; exact nI_1 k, by omega, by omega, by rw [hf, hk]; rfl⟩) hP hD hS (lv_sub hl [1, 0, 2, 3] rfl)
  exact L5 4097 _ _ _ _ ls ⟨0, rfl, by decide, by decide, rfl⟩ hP hD hS hl
set_option maxHeartbeats 4000000 in
set_option maxRecDepth 100000 in
theorem c_X2_init (l : Launch) (D : va_G) (aM : Nat) (cA : ClassId)  : kIn l yX2_init cX2_init 1 { frames := 1, cells := 2, slots := 4112, locals := 23 } D [(cA, .int)] (fun _ => True) [.ref aM] [(aM, .inr (2, [.null, .null, .int (0 : Int32), .int (0 : Int32), .int (0 : Int32), .int (0 : Int32), .int (0 : Int32)]))] (Nat × Nat) (fun u => (wM aM u.1 u.2 cA (1 : Int32) (0 : Int32) (0 : Int32) (0 : Int32) (0 : Int32) (kFl (fun _ => 0) (-1 : Int32) 4096) (fun _ => 0))) 2 4112 := by
  intro sz
  refine Met.ofW (cc := cX2_init) (maxL := 1) (ret := none) (by decide) rfl ?_
  intro p e s m args below meth c s₁ B hml hv
  obtain ⟨rfl, ⟨hsz, hP, hK, hD0⟩, hXX⟩ := hv
  have hx := B.exec
  have hb := B.bytes
  have hr := B.returns
  have hts : ∀ w ∈ kG, w.before _ s = true := fun w h => atoms_spec (ws := kT yX2_init cX2_init 1 none) B.pre w (List.mem_cons_of_mem _ h)
  have hown : s.vm.findClass RX2 = some m.cls := findClass_of_methodNamed B.named
  have hlocks := B.notSynchronized
  have hin : meth.name = "<init>" := (name_of_methodNamed B.named B.method).1
  subst hsz
  have hD := hD0.self (sz := s.heap.size)
  generalize hAe : va_A [(aM, .inr (2, [.null, .null, .int (0 : Int32), .int (0 : Int32), .int (0 : Int32), .int (0 : Int32), .int (0 : Int32)]))] s.heap.size = A at hD ⊢
  have hA : ∀ q : Nat, s.heap.size ≤ q → A q := fun q h => by rw [← hAe]; exact Or.inr h
  have hS : va_S A s.heap s.heap [] := va_S.rf
  have hl := lv_entry ([.ref aM]) (n := 1) (Nat.le_of_ble_eq_true rfl)
  rw [lg_entry_eq]
  generalize (lg_sl ([.ref aM]) ++ List.replicate (1 - (lg_sl ([.ref aM])).length) Slot.unset).toArray = ls at hl ⊢
  have hl : lv_has ls 1 [(0, .ref aM)] := hl
  refine lv_aload_n hx hb dX2_init_0 rfl (lv_at hl 0 rfl) ?_
  refine W.objInit hx hb hown (hts _ kw_71) (hts _ kw_43) (hts _ kw_obj) rfl (by rw [hml]; exact hl.1) rfl dX2_init_1 (Nat.le_of_ble_eq_true rfl) (Nat.le_of_ble_eq_true rfl) ?_
  refine W.eq (g2 := F0 m 4 ls []) rfl ?_
  refine lv_aload_n hx hb dX2_init_4 rfl (lv_at hl 0 rfl) ?_
  refine lv_sipush (v := 4096) hx hb dX2_init_5 (by decide) ?_
  refine k_newa (k := 4096) (N := 4096) hx hb (hts _ kw_65) hK hP hD hS hA (by decide) (by decide) (by decide) (Nat.le_of_ble_eq_true rfl) (Nat.le_of_ble_eq_true rfl) dX2_init_8 (fun q8 H hP hD hS => ?_)
  have hP : va_P D vwCl [(aM, .inr (2, [.null, .null, .int (0 : Int32), .int (0 : Int32), .int (0 : Int32), .int (0 : Int32), .int (0 : Int32)])), (q8, .inl (cA, 4096, .inl (fun _ => 0)))] H := hP
  have hD : va_D A [(aM, .inr (2, [.null, .null, .int (0 : Int32), .int (0 : Int32), .int (0 : Int32), .int (0 : Int32), .int (0 : Int32)])), (q8, .inl (cA, 4096, .inl (fun _ => 0)))] := hD
  refine W.widen (k := 1) (n := 4096) (by omega) (by omega) ?_
  refine va_putF (D := D) (ci := 2) (v := .ref q8) (ty := .array .int) (C := RX2) (T := TX2) (N := 7) hx hb hts k_inX2 tyX2 tyX2_ok nmX2 hown hK hP hD hS 0 rfl rfl 0 (by decide) (hts _ kw_75) (fun _ h9 => h9) rfl hin rfl (by decide +kernel) rfl rfl (Nat.le_of_ble_eq_true rfl) dX2_init_10 (fun H locs hP hD hS => ?_)
  have hP : va_P D vwCl [(aM, .inr (2, [.ref q8, .null, .int (0 : Int32), .int (0 : Int32), .int (0 : Int32), .int (0 : Int32), .int (0 : Int32)])), (q8, .inl (cA, 4096, .inl (fun _ => 0)))] H := hP
  have hD : va_D A [(aM, .inr (2, [.ref q8, .null, .int (0 : Int32), .int (0 : Int32), .int (0 : Int32), .int (0 : Int32), .int (0 : Int32)])), (q8, .inl (cA, 4096, .inl (fun _ => 0)))] := hD
  refine lv_aload_n hx hb dX2_init_13 rfl (lv_at hl 0 rfl) ?_
  refine lv_bipush (v := 16) hx hb dX2_init_14 (by decide) ?_
  refine k_newa (k := 16) (N := 16) hx hb (hts _ kw_65) hK hP hD hS hA (by decide) (by decide) (by decide) (Nat.le_of_ble_eq_true rfl) (Nat.le_of_ble_eq_true rfl) dX2_init_16 (fun q16 H hP hD hS => ?_)
  have hP : va_P D vwCl [(aM, .inr (2, [.ref q8, .null, .int (0 : Int32), .int (0 : Int32), .int (0 : Int32), .int (0 : Int32), .int (0 : Int32)])), (q8, .inl (cA, 4096, .inl (fun _ => 0))), (q16, .inl (cA, 16, .inl (fun _ => 0)))] H := hP
  have hD : va_D A [(aM, .inr (2, [.ref q8, .null, .int (0 : Int32), .int (0 : Int32), .int (0 : Int32), .int (0 : Int32), .int (0 : Int32)])), (q8, .inl (cA, 4096, .inl (fun _ => 0))), (q16, .inl (cA, 16, .inl (fun _ => 0)))] := hD
  refine W.widen (k := 2) (n := 4112) (by omega) (by omega) ?_
  refine va_putF (D := D) (ci := 2) (v := .ref q16) (ty := .array .int) (C := RX2) (T := TX2) (N := 7) hx hb hts k_inX2 tyX2 tyX2_ok nmX2 hown hK hP hD hS 0 rfl rfl 1 (by decide) (hts _ kw_76) (fun _ h9 => h9) rfl hin rfl (by decide +kernel) rfl rfl (Nat.le_of_ble_eq_true rfl) dX2_init_18 (fun H locs hP hD hS => ?_)
  have hP : va_P D vwCl [(aM, .inr (2, [.ref q8, .ref q16, .int (0 : Int32), .int (0 : Int32), .int (0 : Int32), .int (0 : Int32), .int (0 : Int32)])), (q8, .inl (cA, 4096, .inl (fun _ => 0))), (q16, .inl (cA, 16, .inl (fun _ => 0)))] H := hP
  have hD : va_D A [(aM, .inr (2, [.ref q8, .ref q16, .int (0 : Int32), .int (0 : Int32), .int (0 : Int32), .int (0 : Int32), .int (0 : Int32)])), (q8, .inl (cA, 4096, .inl (fun _ => 0))), (q16, .inl (cA, 16, .inl (fun _ => 0)))] := hD
  refine lv_aload_n hx hb dX2_init_21 rfl (lv_at hl 0 rfl) ?_
  refine lv_iconst (v := 1) hx hb dX2_init_22 (by decide) ?_
  refine va_put (D := D) (ci := 2) (v := .int (1 : Int32)) (ty := .boolean) (C := RX2) (T := TX2) (N := 7) hx hb hts k_inX2 tyX2 tyX2_ok nmX2 hown hK hP hD hS 0 rfl rfl 2 (by decide) (hts _ kw_77) (fun _ h9 => h9) rfl (by decide +kernel) rfl rfl (Nat.le_of_ble_eq_true rfl) dX2_init_23 (fun H locs hP hD hS => ?_)
  have hP : va_P D vwCl [(aM, .inr (2, [.ref q8, .ref q16, .int (1 : Int32), .int (0 : Int32), .int (0 : Int32), .int (0 : Int32), .int (0 : Int32)])), (q8, .inl (cA, 4096, .inl (fun _ => 0))), (q16, .inl (cA, 16, .inl (fun _ => 0)))] H := hP
  have hD : va_D A [(aM, .inr (2, [.ref q8, .ref q16, .int (1 : Int32), .int (0 : Int32), .int (0 : Int32), .int (0 : Int32), .int (0 : Int32)])), (q8, .inl (cA, 4096, .inl (fun _ => 0))), (q16, .inl (cA, 16, .inl (fun _ => 0)))] := hD
  refine lv_aload_n hx hb dX2_init_26 rfl (lv_at hl 0 rfl) ?_
  refine va_get (D := D) (ci := 2) (v := .ref q8) (C := RX2) (T := TX2) (N := 7) hx hb hts k_inX2 hown hK hP 0 rfl rfl 0 (by decide) (hts _ kw_75) (fun _ h9 => h9) rfl dX2_init_27 ?_
  refine lv_iconst (v := -1) hx hb dX2_init_30 (by decide) ?_
  refine k_wrSv (As := [.ref q8, .int (-1 : Int32)]) (rest := []) (ws' := [(aM, .inr (2, [.ref q8, .ref q16, .int (1 : Int32), .int (0 : Int32), .int (0 : Int32), .int (0 : Int32), .int (0 : Int32)])), (q8, .inl (cA, 4096, .inl (kFl (fun _ => 0) (-1 : Int32) 4096))), (q16, .inl (cA, 16, .inl (fun _ => 0)))]) (wr := [(aM, .inr (2, [.ref q8, .ref q16, .int (1 : Int32), .int (0 : Int32), .int (0 : Int32), .int (0 : Int32), .int (0 : Int32)])), (q16, .inl (cA, 16, .inl (fun _ => 0)))]) ⟨hx, hb, hml, hown, hts⟩ k_self (c_J7_fill l D q8 cA (fun _ => 0) (-1 : Int32)) kv_X2_20 hP hD hS hA hK [1] [0, 2] [0, 2, 1] rfl (by decide) rfl (by decide) (by decide) rfl (by decide) rfl rfl ⟨Nat.le_of_ble_eq_true rfl, Nat.le_of_ble_eq_true rfl⟩ rfl hl.1 rfl (Nat.le_of_ble_eq_true rfl) dX2_init_31 ⟨Nat.le_of_ble_eq_true rfl, Nat.le_of_ble_eq_true rfl⟩ (fun H locs hP hD hS => ?_)
  have hP9 : va_P D vwCl (wM aM q8 q16 cA (1 : Int32) (0 : Int32) (0 : Int32) (0 : Int32) (0 : Int32) (kFl (fun _ => 0) (-1 : Int32) 4096) (fun _ => 0)) H := hP.sub [0, 1, 2] rfl
  have hD9 : va_D A (wM aM q8 q16 cA (1 : Int32) (0 : Int32) (0 : Int32) (0 : Int32) (0 : Int32) (kFl (fun _ => 0) (-1 : Int32) 4096) (fun _ => 0)) := hD.sub [0, 1, 2] (by decide) rfl
  exact W.vret hx hb hr (fun t ht hW => ⟨⟨(q8, q16), rfl, trivial, by rw [ht]; exact hP9, va_K.moved hW.alike hK, hD9⟩, hS.F ht⟩) hS.2.2 dX2_init_34

set_option maxHeartbeats 4000000 in
set_option maxRecDepth 100000 in
theorem c_X1_init (l : Launch) (D : va_G) (aJ aM aw ae aB ab : Nat) (cA : ClassId) (pw ce lf mq ct : Int32) (wd er bw : Nat → Int32) : kIn l yX1_init cX1_init 3 { frames := 4, cells := 0, slots := 0, locals := 92 } D [(cA, .int)] (fun _ => True) [.ref aJ, .ref aM, .ref aB] [(aJ, .inr (1, [.null, .null, .int (0 : Int32), .int (0 : Int32), .int (0 : Int32)])), (aM, .inr (2, [.ref aw, .ref ae, .int pw, .int ce, .int lf, .int mq, .int ct])), (aw, .inl (cA, 4096, .inl wd)), (ae, .inl (cA, 16, .inl er)), (aB, .inr (0, [.ref ab])), (ab, .inl (cA, 191, .inl bw))] Unit (fun _ => (wJ aJ aM aw ae aB ab cA (spX1_startSector (0 : Int32) (0 : Int32) (0 : Int32) pw ce lf mq ct wd er bw (0 : Int32) (1 : Int32)).2.1 (spX1_startSector (0 : Int32) (0 : Int32) (0 : Int32) pw ce lf mq ct wd er bw (0 : Int32) (1 : Int32)).2.2.1 (0 : Int32) (spX1_startSector (0 : Int32) (0 : Int32) (0 : Int32) pw ce lf mq ct wd er bw (0 : Int32) (1 : Int32)).2.2.2.1 (spX1_startSector (0 : Int32) (0 : Int32) (0 : Int32) pw ce lf mq ct wd er bw (0 : Int32) (1 : Int32)).2.2.2.2.1 (spX1_startSector (0 : Int32) (0 : Int32) (0 : Int32) pw ce lf mq ct wd er bw (0 : Int32) (1 : Int32)).2.2.2.2.2.1 mq (spX1_startSector (0 : Int32) (0 : Int32) (0 : Int32) pw ce lf mq ct wd er bw (0 : Int32) (1 : Int32)).2.2.2.2.2.2.1 (spX1_startSector (0 : Int32) (0 : Int32) (0 : Int32) pw ce lf mq ct wd er bw (0 : Int32) (1 : Int32)).2.2.2.2.2.2.2.1 (spX1_startSector (0 : Int32) (0 : Int32) (0 : Int32) pw ce lf mq ct wd er bw (0 : Int32) (1 : Int32)).2.2.2.2.2.2.2.2 bw)) 0 0 := by
  intro sz
  refine Met.ofW (cc := cX1_init) (maxL := 3) (ret := none) (by decide) rfl ?_
  intro p e s m args below meth c s₁ B hml hv
  obtain ⟨rfl, ⟨hsz, hP, hK, hD0⟩, hXX⟩ := hv
  have hx := B.exec
  have hb := B.bytes
  have hr := B.returns
  have hts : ∀ w ∈ kG, w.before _ s = true := fun w h => atoms_spec (ws := kT yX1_init cX1_init 3 none) B.pre w (List.mem_cons_of_mem _ h)
  have hown : s.vm.findClass RX1 = some m.cls := findClass_of_methodNamed B.named
  have hlocks := B.notSynchronized
  have hin : meth.name = "<init>" := (name_of_methodNamed B.named B.method).1
  subst hsz
  have hD := hD0.self (sz := s.heap.size)
  generalize hAe : va_A [(aJ, .inr (1, [.null, .null, .int (0 : Int32), .int (0 : Int32), .int (0 : Int32)])), (aM, .inr (2, [.ref aw, .ref ae, .int pw, .int ce, .int lf, .int mq, .int ct])), (aw, .inl (cA, 4096, .inl wd)), (ae, .inl (cA, 16, .inl er)), (aB, .inr (0, [.ref ab])), (ab, .inl (cA, 191, .inl bw))] s.heap.size = A at hD ⊢
  have hA : ∀ q : Nat, s.heap.size ≤ q → A q := fun q h => by rw [← hAe]; exact Or.inr h
  have hS : va_S A s.heap s.heap [] := va_S.rf
  have hl := lv_entry ([.ref aJ, .ref aM, .ref aB]) (n := 3) (Nat.le_of_ble_eq_true rfl)
  rw [lg_entry_eq]
  generalize (lg_sl ([.ref aJ, .ref aM, .ref aB]) ++ List.replicate (3 - (lg_sl ([.ref aJ, .ref aM, .ref aB])).length) Slot.unset).toArray = ls at hl ⊢
  have hl : lv_has ls 3 [(0, .ref aJ), (1, .ref aM), (2, .ref aB)] := hl
  refine lv_aload_n hx hb dX1_init_0 rfl (lv_at hl 0 rfl) ?_
  refine W.objInit hx hb hown (hts _ kw_116) (hts _ kw_43) (hts _ kw_obj) rfl (by rw [hml]; exact hl.1) rfl dX1_init_1 (Nat.le_of_ble_eq_true rfl) (Nat.le_of_ble_eq_true rfl) ?_
  refine W.eq (g2 := F0 m 4 ls []) rfl ?_
  refine lv_aload_n hx hb dX1_init_4 rfl (lv_at hl 0 rfl) ?_
  refine lv_aload_n hx hb dX1_init_5 rfl (lv_at hl 1 rfl) ?_
  refine va_putF (D := D) (ci := 1) (v := .ref aM) (ty := .object "FrankDesk$Memory") (C := RX1) (T := TX1) (N := 5) hx hb hts k_inX1 tyX1 tyX1_ok nmX1 hown hK hP hD hS 0 rfl rfl 0 (by decide) (hts _ kw_154) (fun _ h9 => h9) rfl hin rfl (by decide +kernel) rfl rfl (Nat.le_of_ble_eq_true rfl) dX1_init_6 (fun H locs hP hD hS => ?_)
  have hP : va_P D vwCl [(aJ, .inr (1, [.ref aM, .null, .int (0 : Int32), .int (0 : Int32), .int (0 : Int32)])), (aM, .inr (2, [.ref aw, .ref ae, .int pw, .int ce, .int lf, .int mq, .int ct])), (aw, .inl (cA, 4096, .inl wd)), (ae, .inl (cA, 16, .inl er)), (aB, .inr (0, [.ref ab])), (ab, .inl (cA, 191, .inl bw))] H := hP
  have hD : va_D A [(aJ, .inr (1, [.ref aM, .null, .int (0 : Int32), .int (0 : Int32), .int (0 : Int32)])), (aM, .inr (2, [.ref aw, .ref ae, .int pw, .int ce, .int lf, .int mq, .int ct])), (aw, .inl (cA, 4096, .inl wd)), (ae, .inl (cA, 16, .inl er)), (aB, .inr (0, [.ref ab])), (ab, .inl (cA, 191, .inl bw))] := hD
  refine lv_aload_n hx hb dX1_init_9 rfl (lv_at hl 0 rfl) ?_
  refine lv_aload_n hx hb dX1_init_10 rfl (lv_at hl 2 rfl) ?_
  refine va_putF (D := D) (ci := 1) (v := .ref aB) (ty := .object "FrankDesk$Books") (C := RX1) (T := TX1) (N := 5) hx hb hts k_inX1 tyX1 tyX1_ok nmX1 hown hK hP hD hS 0 rfl rfl 1 (by decide) (hts _ kw_155) (fun _ h9 => h9) rfl hin rfl (by decide +kernel) rfl rfl (Nat.le_of_ble_eq_true rfl) dX1_init_11 (fun H locs hP hD hS => ?_)
  have hP : va_P D vwCl [(aJ, .inr (1, [.ref aM, .ref aB, .int (0 : Int32), .int (0 : Int32), .int (0 : Int32)])), (aM, .inr (2, [.ref aw, .ref ae, .int pw, .int ce, .int lf, .int mq, .int ct])), (aw, .inl (cA, 4096, .inl wd)), (ae, .inl (cA, 16, .inl er)), (aB, .inr (0, [.ref ab])), (ab, .inl (cA, 191, .inl bw))] H := hP
  have hD : va_D A [(aJ, .inr (1, [.ref aM, .ref aB, .int (0 : Int32), .int (0 : Int32), .int (0 : Int32)])), (aM, .inr (2, [.ref aw, .ref ae, .int pw, .int ce, .int lf, .int mq, .int ct])), (aw, .inl (cA, 4096, .inl wd)), (ae, .inl (cA, 16, .inl er)), (aB, .inr (0, [.ref ab])), (ab, .inl (cA, 191, .inl bw))] := hD
  refine lv_aload_n hx hb dX1_init_14 rfl (lv_at hl 0 rfl) ?_
  refine lv_iconst (v := 0) hx hb dX1_init_15 (by decide) ?_
  refine lv_iconst (v := 1) hx hb dX1_init_16 (by decide) ?_
  refine k_wrVi (As := [.int (0 : Int32), .int (1 : Int32)]) (rest := []) (ci := 1) (q0 := 0) (ws' := [(aJ, .inr (1, [.ref aM, .ref aB, .int (spX1_startSector (0 : Int32) (0 : Int32) (0 : Int32) pw ce lf mq ct wd er bw (0 : Int32) (1 : Int32)).2.1, .int (spX1_startSector (0 : Int32) (0 : Int32) (0 : Int32) pw ce lf mq ct wd er bw (0 : Int32) (1 : Int32)).2.2.1, .int (0 : Int32)])), (aM, .inr (2, [.ref aw, .ref ae, .int (spX1_startSector (0 : Int32) (0 : Int32) (0 : Int32) pw ce lf mq ct wd er bw (0 : Int32) (1 : Int32)).2.2.2.1, .int (spX1_startSector (0 : Int32) (0 : Int32) (0 : Int32) pw ce lf mq ct wd er bw (0 : Int32) (1 : Int32)).2.2.2.2.1, .int (spX1_startSector (0 : Int32) (0 : Int32) (0 : Int32) pw ce lf mq ct wd er bw (0 : Int32) (1 : Int32)).2.2.2.2.2.1, .int mq, .int (spX1_startSector (0 : Int32) (0 : Int32) (0 : Int32) pw ce lf mq ct wd er bw (0 : Int32) (1 : Int32)).2.2.2.2.2.2.1])), (aw, .inl (cA, 4096, .inl (spX1_startSector (0 : Int32) (0 : Int32) (0 : Int32) pw ce lf mq ct wd er bw (0 : Int32) (1 : Int32)).2.2.2.2.2.2.2.1)), (ae, .inl (cA, 16, .inl (spX1_startSector (0 : Int32) (0 : Int32) (0 : Int32) pw ce lf mq ct wd er bw (0 : Int32) (1 : Int32)).2.2.2.2.2.2.2.2)), (aB, .inr (0, [.ref ab])), (ab, .inl (cA, 191, .inl bw))]) (wr := []) ⟨hx, hb, hml, hown, hts⟩ k_self (c_X1_startSector l D aJ aM aw ae aB ab cA (0 : Int32) (0 : Int32) (0 : Int32) pw ce lf mq ct wd er bw (0 : Int32) (1 : Int32)) kv_X1_21 hP hD hS hA hK rfl rfl [0, 1, 2, 3, 4, 5] [] [0, 1, 2, 3, 4, 5] rfl (by decide) rfl (by decide) (by decide) rfl (by decide) rfl rfl ⟨Nat.le_of_ble_eq_true rfl, Nat.le_of_ble_eq_true rfl⟩ rfl hl.1 rfl (Nat.le_of_ble_eq_true rfl) dX1_init_17 ⟨Nat.le_of_ble_eq_true rfl, Nat.le_of_ble_eq_true rfl⟩ (fun H locs hP hD hS => ?_)
  refine lv_pop hx hb dX1_init_20 rfl ?_
  have hP9 : va_P D vwCl (wJ aJ aM aw ae aB ab cA (spX1_startSector (0 : Int32) (0 : Int32) (0 : Int32) pw ce lf mq ct wd er bw (0 : Int32) (1 : Int32)).2.1 (spX1_startSector (0 : Int32) (0 : Int32) (0 : Int32) pw ce lf mq ct wd er bw (0 : Int32) (1 : Int32)).2.2.1 (0 : Int32) (spX1_startSector (0 : Int32) (0 : Int32) (0 : Int32) pw ce lf mq ct wd er bw (0 : Int32) (1 : Int32)).2.2.2.1 (spX1_startSector (0 : Int32) (0 : Int32) (0 : Int32) pw ce lf mq ct wd er bw (0 : Int32) (1 : Int32)).2.2.2.2.1 (spX1_startSector (0 : Int32) (0 : Int32) (0 : Int32) pw ce lf mq ct wd er bw (0 : Int32) (1 : Int32)).2.2.2.2.2.1 mq (spX1_startSector (0 : Int32) (0 : Int32) (0 : Int32) pw ce lf mq ct wd er bw (0 : Int32) (1 : Int32)).2.2.2.2.2.2.1 (spX1_startSector (0 : Int32) (0 : Int32) (0 : Int32) pw ce lf mq ct wd er bw (0 : Int32) (1 : Int32)).2.2.2.2.2.2.2.1 (spX1_startSector (0 : Int32) (0 : Int32) (0 : Int32) pw ce lf mq ct wd er bw (0 : Int32) (1 : Int32)).2.2.2.2.2.2.2.2 bw) H := hP.sub [0, 1, 2, 3, 4, 5] rfl
  have hD9 : va_D A (wJ aJ aM aw ae aB ab cA (spX1_startSector (0 : Int32) (0 : Int32) (0 : Int32) pw ce lf mq ct wd er bw (0 : Int32) (1 : Int32)).2.1 (spX1_startSector (0 : Int32) (0 : Int32) (0 : Int32) pw ce lf mq ct wd er bw (0 : Int32) (1 : Int32)).2.2.1 (0 : Int32) (spX1_startSector (0 : Int32) (0 : Int32) (0 : Int32) pw ce lf mq ct wd er bw (0 : Int32) (1 : Int32)).2.2.2.1 (spX1_startSector (0 : Int32) (0 : Int32) (0 : Int32) pw ce lf mq ct wd er bw (0 : Int32) (1 : Int32)).2.2.2.2.1 (spX1_startSector (0 : Int32) (0 : Int32) (0 : Int32) pw ce lf mq ct wd er bw (0 : Int32) (1 : Int32)).2.2.2.2.2.1 mq (spX1_startSector (0 : Int32) (0 : Int32) (0 : Int32) pw ce lf mq ct wd er bw (0 : Int32) (1 : Int32)).2.2.2.2.2.2.1 (spX1_startSector (0 : Int32) (0 : Int32) (0 : Int32) pw ce lf mq ct wd er bw (0 : Int32) (1 : Int32)).2.2.2.2.2.2.2.1 (spX1_startSector (0 : Int32) (0 : Int32) (0 : Int32) pw ce lf mq ct wd er bw (0 : Int32) (1 : Int32)).2.2.2.2.2.2.2.2 bw) := hD.sub [0, 1, 2, 3, 4, 5] (by decide) rfl
  exact W.vret hx hb hr (fun t ht hW => ⟨⟨(), rfl, trivial, by rw [ht]; exact hP9, va_K.moved hW.alike hK, hD9⟩, hS.F ht⟩) hS.2.2 dX1_init_21

