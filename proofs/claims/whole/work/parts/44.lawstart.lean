/-- the two states behind the constructors -/
def σ0 (p1 : Int32) : SX := ((if (1 : Int32) < (if (9999999 : Int32) < p1 then (9999999 : Int32) else p1) then (if (9999999 : Int32) < p1 then (9999999 : Int32) else p1) else (1 : Int32)), (0 : Int64), (0 : Int64), (fun _ => 0), (fun _ => 0), kD0.2.1, kD0.2.2.1, (0 : Int32), kD0.2.2.2.1, kD0.2.2.2.2.1, kD0.2.2.2.2.2.1, (0 : Int32), kD0.2.2.2.2.2.2.1, kD0.2.2.2.2.2.2.2.1, kD0.2.2.2.2.2.2.2.2, (kIB 32))
def τ0 (p1 : Int32) : SK := ((0 : Int32), (kMn p1), kK0.1, kK0.2.1, (0 : Int32), kK0.2.2.1, kK0.2.2.2.1, (0 : Int32), (0 : Int32), (0 : Int64), kK0.2.2.2.2.1, kK0.2.2.2.2.2, (upd (kID 32) (Int32.toNatClampNeg (14 : Int32)) (1000 : Int32)), (fun _ => 0), (fun _ => 0), (fun _ => 0))
set_option maxHeartbeats 4000000 in
theorem c_L_cell (l : Launch) (b L : Nat) (xs : Nat → Int32) (hL : L ≤ 2561) : Met l yL_cell (kT yL_cell cL_cell 2 (some .int)) { frames := 0, cells := 0, slots := 0, locals := 0 } (va_Pc [.ref b, .int 0] (fun U => va_X b L xs U U.heap ∧ b < U.heap.size)) (vp_Si (fun r => r = if 0 < L then xs 0 else 0)) 0 0 (fun _ => False) := by
  refine Met.ofW (cc := cL_cell) (maxL := 2) (ret := (some .int)) (by decide) rfl ?_
  intro p e s m args below meth c s₁ B hml hv
  obtain ⟨rfl, hX, hbl⟩ := hv
  have hx := B.exec
  have hb := B.bytes
  have hr := B.returns
  have hlocks := B.notSynchronized
  have hS : va_S (fun _ => False) s.heap s.heap [] := va_S.rf
  have hbA : ¬ (fun _ : Nat => False) b := fun h => h
  have hl := lv_entry ([.ref b, .int 0]) (n := 2) (Nat.le_of_ble_eq_true rfl)
  rw [lg_entry_eq]
  generalize (lg_sl ([.ref b, .int 0]) ++ List.replicate (2 - (lg_sl ([.ref b, .int 0])).length) Slot.unset).toArray = ls at hl ⊢
  have hl : lv_has ls 2 [(0, .ref b), (1, .int 0)] := hl
  refine lv_iload_n hx hb dL_cell_0 rfl (lv_at hl 1 rfl) ?_
  refine lv_aload_n hx hb dL_cell_1 rfl (lv_at hl 0 rfl) ?_
  refine va_slen hx hb hX hbl hbA hS dL_cell_2 ?_
  refine lv_icmp_ge (tgt := 12) hx hb dL_cell_3 (by decide) (fun c_3 => ?_) (fun c_3 => ?_)
  · refine lv_iconst (v := 0) hx hb dL_cell_12 (by decide) ?_
    have h0 : ¬ 0 < L := fun h => absurd c_3 (nI_ge (a := 0) (b := L) h (by omega))
    exact W.iret (v := 0) hx hb hr (fun t ht hW => ⟨0, rfl, by rw [if_neg h0], ht⟩) (fun q h => by cases h) dL_cell_13
  · have h0 : 0 < L := by
      rcases Nat.eq_zero_or_pos L with q | q
      · rw [q] at c_3; exact absurd (by decide) c_3
      · exact q
    refine lv_aload_n hx hb dL_cell_6 rfl (lv_at hl 0 rfl) ?_
    refine lv_iload_n hx hb dL_cell_7 rfl (lv_at hl 1 rfl) ?_
    refine va_sld hx hb hX hbl hbA hS (vp_in_nI (n := 0) h0 (by omega)) dL_cell_8 ?_
    refine lv_goto (tgt := 13) hx hb dL_cell_9 (by decide) ?_
    exact W.iret (v := xs 0) hx hb hr (fun t ht hW => ⟨xs 0, rfl, by rw [if_pos h0], ht⟩) (fun q h => by cases h) dL_cell_13
theorem k_rdSB {p : Program} {l : Launch} {e : Env} {R : Room} {s : State} {m : MethodId} {args : Array Value} {below : List Frame} {meth : Method} {c : Code} {H : Heap} {locs : List Loc} {cells slots : Nat} {Q : State → Prop} {cc bytes : ByteArray} {nL index n maxL pc : Nat} {Ts : List Cond} {own : String} {y : MethodName} {ret : Option FieldType} {rm : Room} {As rest st0 : List Value} {ls : Array Slot} {B : State → Prop} {v : Int32} (S : CallFix p m c cc nL s args Ts own) (hT : ∀ w ∈ kG, w ∈ Ts) (hM : Met l y (kT y bytes maxL ret) rm (va_Pc As B) (vp_Si (fun r => r = v)) 0 0 (fun _ => False)) (w : kwS own index y bytes maxL ret n) (hbl : ∀ (U : State) (g : JFrame) (mk : MethodId) (a : Array Value), B U → B (U.calling g mk a)) (hB : ∀ U : State, U.heap = H → s.WarmedH U.vm → B U)
    (hrc : rm.cells = 0) (hrs : rm.slots = 0) (hR : rm.frames + 1 ≤ R.frames ∧ 8 + (maxL + 11) + rm.locals ≤ R.locals) (hn : As.length = n) (hsz : ls.size = nL) (hst : st0 = As.reverse ++ rest) (hW : (rest.map fun v => v.category).sum ≤ 8) (hdg : decode cc pc = .ok (.invokestatic index, 3)) (hf : cells ≤ R.cells ∧ slots ≤ R.slots)
    (kk : W p l e R s m args below meth c H locs cells slots Q (F0 m (pc + 3) ls (.int v :: rest))) : W p l e R s m args below meth c H locs cells slots Q (F0 m pc ls st0) := by
  refine vp_callSi (W.runS (g := F0 m pc ls st0) S hM (k_cs S hT w hrc hrs hR) ⟨fun a U g mk h => ⟨h.1, hbl U g mk a h.2⟩, fun U hU hw => ⟨rfl, hB U hU hw⟩⟩ rfl hn hsz hst (by show 2 * 0 + _ ≤ 8; omega) hdg hf) (fun r hr => ?_)
  rw [hr]
  exact kk
set_option maxHeartbeats 4000000 in
set_option maxRecDepth 100000 in
theorem law_start (Rel : RelT) (hall : AllSim Rel) (h0 : ∀ p1 : Int32, Rel 512 (σ0 p1) (τ0 p1)) {p : Program} {e : Env} {s : State} {m : MethodId} {below : List Frame} {meth : Method} {c : Code} (l : Launch) {b L : Nat} {xs : Nat → Int32} (hL : L ≤ 2561) (C0 : lw_At p s m meth c b L xs) : W p l e room_1 s m #[Value.ref b] below meth c s.heap [] 0 0 (lw_Z below #[Value.ref b] s) (entryFrame m ([Value.ref b] : List Value).toArray 4) := by
  obtain ⟨hx, hb, hr, hml, hown0, hts0, hX, hbl, hlocks, hgv⟩ := id C0
  have hown : s.vm.findClass RL = some m.cls := hown0
  have hts : ∀ w ∈ kG, w.before #[Value.ref b] s = true := fun w h => hts0 w (k_lw w h)
  have hA : ∀ q : Nat, s.heap.size ≤ q → (fun q : Nat => s.heap.size ≤ q) q := fun _ h => h
  have hbA : ¬ (fun q : Nat => s.heap.size ≤ q) b := Nat.not_le.mpr hbl
  obtain ⟨c0, iS0, hKn0⟩ := u_known (C := RX0) (T := TX0) (N := 1) (n := 1) hts k_inX0 (hts _ kw_98)
  obtain ⟨c1, iS1, hKn1⟩ := u_known (C := RX1) (T := TX1) (N := 5) (n := 5) hts k_inX1 (hts _ kw_112)
  obtain ⟨c2, iS2, hKn2⟩ := u_known (C := RX2) (T := TX2) (N := 7) (n := 7) hts k_inX2 (hts _ kw_67)
  obtain ⟨c3, iS3, hKn3⟩ := u_known (C := RX3) (T := TX3) (N := 2) (n := 2) hts k_inX3 (hts _ kw_53)
  obtain ⟨c4, iS4, hKn4⟩ := u_known (C := RX4) (T := TX4) (N := 7) (n := 7) hts k_inX4 (hts _ kw_38)
  obtain ⟨c5, iS5, hKn5⟩ := u_known (C := RX5) (T := TX5) (N := 16) (n := 16) hts k_inX5 (hts _ kw_463)
  obtain ⟨dC, dI, hKc⟩ : ∃ (dC : Nat → ClassId) (dI : Nat → Nat → Nat), ∀ (k : Nat) (q : vw_C), vwCl[k]? = some q → u_Kn s q.1 q.2.1 q.2.2 (dC k) (dI k) := by
    refine ⟨fun k => if k = 0 then c0 else if k = 1 then c1 else if k = 2 then c2 else if k = 3 then c3 else if k = 4 then c4 else c5, fun k => if k = 0 then iS0 else if k = 1 then iS1 else if k = 2 then iS2 else if k = 3 then iS3 else if k = 4 then iS4 else iS5, ?_⟩
    intro k q hq
    match k, hq with
    | 0, hq => cases hq; exact hKn0
    | 1, hq => cases hq; exact hKn1
    | 2, hq => cases hq; exact hKn2
    | 3, hq => cases hq; exact hKn3
    | 4, hq => cases hq; exact hKn4
    | 5, hq => cases hq; exact hKn5
    | k + 6, hq => simp [vwCl] at hq
  obtain ⟨cA, kA, comp, hc1, hc2, hc3⟩ := Cond.arrayClass_spec (type := .int) (hts _ kw_65)
  have hS : va_S (fun q : Nat => s.heap.size ≤ q) s.heap s.heap [] := va_S.rf
  have hK : va_K (dC, dI) vwCl [(cA, .int)] s := by
    refine ⟨hKc, fun k q h => ?_⟩
    match k, h with
    | 0, h => cases h; exact ⟨fun n z => ⟨fun k h => (by cases h), kA, hc2, comp, hc3⟩, hc1⟩
    | k + 1, h => simp at h
  generalize hDD : (dC, dI) = D at hK
  have hP : va_P D vwCl [] s.heap := fun k q h => by simp at h
  have hD : va_D (fun q : Nat => s.heap.size ≤ q) [] := ⟨fun i j p q h => by simp at h, fun k q h => by simp at h⟩
  have hNst : va_Nw (.methodLinkNest RX4 25 yX3_init "FrankDesk") s := va_Nw.of rfl (hts0 (.methodLinkNest RX4 25 yX3_init "FrankDesk") (List.mem_of_getElem? (i := 54) (by decide +kernel)))
  have hl := lv_entry ([.ref b]) (n := 4) (Nat.le_of_ble_eq_true rfl)
  rw [lg_entry_eq]
  generalize (lg_sl ([.ref b]) ++ List.replicate (4 - (lg_sl ([.ref b])).length) Slot.unset).toArray = ls at hl ⊢
  have hl : lv_has ls 4 [(0, .ref b)] := hl
  obtain ⟨v, hv⟩ : ∃ v : Int32, v = if 0 < L then xs 0 else 0 := ⟨_, rfl⟩
  have hcell := c_L_cell l b L xs hL
  rw [← hv] at hcell
  refine va_new (ci := 4) (fs := [.int (0 : Int32), .null, .null, .null, .null, .long (0 : Int64), .long (0 : Int64)]) (C := RX4) (T := TX4) (N := 7) hx hb hts k_inX4 tyX4 tyX4_ok hown (hts _ kw_37) (hts _ kw_38) (hts _ kw_29) hK hP hD hS hA rfl (fun j hj => by rcases (show j = 0 ∨ j = 1 ∨ j = 2 ∨ j = 3 ∨ j = 4 ∨ j = 5 ∨ j = 6 by omega) with rfl | rfl | rfl | rfl | rfl | rfl | rfl <;> rfl) (Nat.le_of_ble_eq_true rfl) (Nat.le_of_ble_eq_true rfl) dL_law_0 (fun aD H hP hD hS => ?_)
  have hP : va_P D vwCl [(aD, .inr (4, [.int (0 : Int32), .null, .null, .null, .null, .long (0 : Int64), .long (0 : Int64)]))] H := hP
  have hD : va_D (fun q : Nat => s.heap.size ≤ q) [(aD, .inr (4, [.int (0 : Int32), .null, .null, .null, .null, .long (0 : Int64), .long (0 : Int64)]))] := hD
  refine W.widen (k := 1) (n := 7) (by omega) (by omega) ?_
  refine lv_dup hx hb dL_law_3 rfl ?_
  refine lv_aload_n hx hb dL_law_4 rfl (lv_at hl 0 rfl) ?_
  refine lv_iconst (v := 0) hx hb dL_law_5 (by decide) ?_
  refine k_rdSB (As := [.ref b, .int 0]) (rest := [.ref aD, .ref aD]) (v := v) ⟨hx, hb, hml, hown, hts⟩ k_self hcell kv_L_9 (fun U g mk a h => ⟨va_X.moved (u := U) (U := U.calling g mk a) (Vm.Alike.refl U.vm) h.1, h.2⟩) (fun U hU hw => ⟨by rw [hU]; exact va_X.moved hw.alike (hX.kept (hS.2.1 b hbl hbA)), by rw [hU]; exact Nat.lt_of_lt_of_le hbl hS.1⟩) rfl rfl ⟨Nat.le_of_ble_eq_true rfl, Nat.le_of_ble_eq_true rfl⟩ rfl hl.1 rfl (Nat.le_of_ble_eq_true rfl) dL_law_6 ⟨Nat.le_of_ble_eq_true rfl, Nat.le_of_ble_eq_true rfl⟩ ?_
  refine k_ctor (As := [.int v]) (rest := [.ref aD]) (wr := []) ⟨hx, hb, hml, hown, hts⟩ k_self (c_X4_init l D aD cA v) ki_L_15 (fun U hw => va_Nw.warmM hw hNst) (fun U g mk a h => va_Nw.same rfl rfl h) hP hD hS hA hK [0] [] rfl (by decide) rfl (by decide) (by decide) rfl rfl ⟨Nat.le_of_ble_eq_true rfl, Nat.le_of_ble_eq_true rfl⟩ rfl hl.1 rfl (Nat.le_of_ble_eq_true rfl) dL_law_9 ⟨Nat.le_of_ble_eq_true rfl, Nat.le_of_ble_eq_true rfl⟩ (fun u H locs hP hD hS => ?_)
  obtain ⟨aT, ad, af, aJ, aM, aw, ae, aB, ab⟩ := u
  have hP : va_P D vwCl (wX aD aT ad af aJ aM aw ae aB ab cA (σ0 v)) H := hP
  have hD : va_D (fun q : Nat => s.heap.size ≤ q) (wX aD aT ad af aJ aM aw ae aB ab cA (σ0 v)) := hD
  refine W.widen (k := 10) (n := 4965) (by omega) (by omega) ?_
  refine lv_astore_n (lv' := [(1, .ref aD), (0, .ref b)]) hx hb dL_law_12 rfl hl (by decide) rfl (fun ls hl => ?_)
  refine va_new (ci := 5) (fs := [.int (0 : Int32), .int (0 : Int32), .null, .null, .null, .null, .null, .null, .int (0 : Int32), .int (0 : Int32), .int (0 : Int32), .int (0 : Int32), .int (0 : Int32), .int (0 : Int32), .int (0 : Int32), .long (0 : Int64)]) (C := RX5) (T := TX5) (N := 16) hx hb hts k_inX5 tyX5 tyX5_ok hown (hts _ kw_462) (hts _ kw_463) (hts _ kw_36) hK hP hD hS hA rfl (fun j hj => by rcases (show j = 0 ∨ j = 1 ∨ j = 2 ∨ j = 3 ∨ j = 4 ∨ j = 5 ∨ j = 6 ∨ j = 7 ∨ j = 8 ∨ j = 9 ∨ j = 10 ∨ j = 11 ∨ j = 12 ∨ j = 13 ∨ j = 14 ∨ j = 15 by omega) with rfl | rfl | rfl | rfl | rfl | rfl | rfl | rfl | rfl | rfl | rfl | rfl | rfl | rfl | rfl | rfl <;> rfl) (Nat.le_of_ble_eq_true rfl) (Nat.le_of_ble_eq_true rfl) dL_law_13 (fun kO H hP hD hS => ?_)
  have hP : va_P D vwCl ((wX aD aT ad af aJ aM aw ae aB ab cA (σ0 v)) ++ [(kO, .inr (5, [.int (0 : Int32), .int (0 : Int32), .null, .null, .null, .null, .null, .null, .int (0 : Int32), .int (0 : Int32), .int (0 : Int32), .int (0 : Int32), .int (0 : Int32), .int (0 : Int32), .int (0 : Int32), .long (0 : Int64)]))]) H := hP
  have hD : va_D (fun q : Nat => s.heap.size ≤ q) ((wX aD aT ad af aJ aM aw ae aB ab cA (σ0 v)) ++ [(kO, .inr (5, [.int (0 : Int32), .int (0 : Int32), .null, .null, .null, .null, .null, .null, .int (0 : Int32), .int (0 : Int32), .int (0 : Int32), .int (0 : Int32), .int (0 : Int32), .int (0 : Int32), .int (0 : Int32), .long (0 : Int64)]))]) := hD
  refine W.widen (k := 11) (n := 4981) (by omega) (by omega) ?_
  refine lv_dup hx hb dL_law_16 rfl ?_
  refine lv_aload_n hx hb dL_law_17 rfl (lv_at hl 1 rfl) ?_
  refine lv_iconst (v := 0) hx hb dL_law_18 (by decide) ?_
  refine k_rdSB (As := [.ref b, .int 0]) (rest := [.ref kO, .ref kO]) (v := v) ⟨hx, hb, hml, hown, hts⟩ k_self hcell kv_L_9 (fun U g mk a h => ⟨va_X.moved (u := U) (U := U.calling g mk a) (Vm.Alike.refl U.vm) h.1, h.2⟩) (fun U hU hw => ⟨by rw [hU]; exact va_X.moved hw.alike (hX.kept (hS.2.1 b hbl hbA)), by rw [hU]; exact Nat.lt_of_lt_of_le hbl hS.1⟩) rfl rfl ⟨Nat.le_of_ble_eq_true rfl, Nat.le_of_ble_eq_true rfl⟩ rfl hl.1 rfl (Nat.le_of_ble_eq_true rfl) dL_law_19 ⟨Nat.le_of_ble_eq_true rfl, Nat.le_of_ble_eq_true rfl⟩ ?_
  refine k_ctor (As := [.int v]) (rest := [.ref kO]) (wr := (wX aD aT ad af aJ aM aw ae aB ab cA (σ0 v))) ⟨hx, hb, hml, hown, hts⟩ k_self (c_X5_init l D kO cA v) ki_L_20 (fun _ _ => trivial) (fun _ _ _ _ _ => trivial) hP hD hS hA hK [10] [0, 1, 2, 3, 4, 5, 6, 7, 8, 9] rfl (by decide) rfl (by decide) (by decide) rfl rfl ⟨Nat.le_of_ble_eq_true rfl, Nat.le_of_ble_eq_true rfl⟩ rfl hl.1 rfl (Nat.le_of_ble_eq_true rfl) dL_law_22 ⟨Nat.le_of_ble_eq_true rfl, Nat.le_of_ble_eq_true rfl⟩ (fun u H locs hP hD hS => ?_)
  obtain ⟨km, kw, kb, kr, kd, kt⟩ := u
  have hP : va_P D vwCl (wX aD aT ad af aJ aM aw ae aB ab cA (σ0 v) ++ wY kO km kw kb kr kd kt cA (τ0 v)) H := hP
  have hD : va_D (fun q : Nat => s.heap.size ≤ q) (wX aD aT ad af aJ aM aw ae aB ab cA (σ0 v) ++ wY kO km kw kb kr kd kt cA (τ0 v)) := hD
  refine W.widen (k := 17) (n := 9931) (by omega) (by omega) ?_
  refine lv_astore_n (lv' := [(2, .ref kO), (1, .ref aD), (0, .ref b)]) hx hb dL_law_25 rfl hl (by decide) rfl (fun ls hl => ?_)
  refine lv_iconst (v := 1) hx hb dL_law_26 (by decide) ?_
  refine lv_istore_n (lv' := [(3, .int 1), (2, .ref kO), (1, .ref aD), (0, .ref b)]) hx hb dL_law_27 rfl hl (by decide) rfl (fun ls hl => ?_)
  exact law_loop Rel hall hL C0 hK 513 0 1 (σ0 v) (τ0 v) H locs ls rfl (by decide) (by decide) (h0 v) hP hD hS (lv_sub hl [3, 2, 1, 0] rfl)
