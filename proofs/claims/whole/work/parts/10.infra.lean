/-! OUR OWN RULES: contracts over one list of words (the whole tables), a row a call -/
def kG : List Cond := lw_tbl.filter goodWord
theorem k_mem {i : Nat} {w : Cond} (h : lw_tbl[i]? = some w) (g : goodWord w = true) : w ∈ kG := List.mem_filter.mpr ⟨List.mem_of_getElem? h, g⟩
theorem k_lw : ∀ w ∈ kG, w ∈ lw_tbl := fun _ h => (List.mem_filter.mp h).1
abbrev kT (y : MethodName) (cc : ByteArray) (n : Nat) (ret : Option FieldType) : List Cond := Cond.code y cc n ret :: kG
theorem k_good {Ts : List Cond} (hT : ∀ w ∈ kG, w ∈ Ts) {y : MethodName} {cc : ByteArray} {n : Nat} {ret : Option FieldType} (hc : Cond.code y cc n ret ∈ kG) : GoodIn Ts (kT y cc n ret) := fun w hw => by
  have h1 : w ∈ kG := (List.mem_cons.mp hw).elim (fun e => e ▸ hc) id
  exact ⟨hT w h1, good_of_word (List.mem_filter.mp h1).2⟩
theorem k_in {c : Cond} : ∀ w ∈ kG, w ∈ c :: kG := fun _ h => List.mem_cons_of_mem _ h
theorem k_self : ∀ w ∈ kG, w ∈ kG := fun _ h => h
/-- the words of a call of an object's method, of a static one -/
abbrev kwV (own : String) (index : Nat) (C : String) (y : MethodName) (bytes : ByteArray) (maxL : Nat) (ret : Option FieldType) (n : Nat) : Prop :=
  Cond.methodLink own index y ∈ kG ∧ Cond.instanceMethod y ∈ kG ∧ Cond.selects C y y ∈ kG ∧ Cond.initialized y.cls ∈ kG ∧ Cond.code y bytes maxL ret ∈ kG ∧
  (y.cls ≠ "java/lang/invoke/MethodHandle" ∧ y.cls ≠ "java/lang/invoke/VarHandle" ∧ (parseMethodDescriptor y.desc).map (fun d => d.parameters.length) = some n)
abbrev kwS (own : String) (index : Nat) (y : MethodName) (bytes : ByteArray) (maxL : Nat) (ret : Option FieldType) (n : Nat) : Prop :=
  Cond.methodLink own index y ∈ kG ∧ Cond.static y ∈ kG ∧ Cond.initialized y.cls ∈ kG ∧ Cond.code y bytes maxL ret ∈ kG ∧
  (y.cls ≠ "java/lang/invoke/MethodHandle" ∧ y.cls ≠ "java/lang/invoke/VarHandle" ∧ (parseMethodDescriptor y.desc).map (fun d => d.parameters.length) = some n)
/-- a start: the cells are there; with nothing else said, or apart, for one that writes -/
abbrev kB (D : va_G) (ws : va_W) (tys : List (ClassId × FieldType)) : State → Prop := fun U => va_P D vwCl ws U.heap ∧ va_K D vwCl tys U
abbrev kPre (D : va_G) (w0 : va_W) (tys : List (ClassId × FieldType)) (sz : Nat) : State → Prop := fun U => U.heap.size = sz ∧ va_P D vwCl w0 U.heap ∧ va_K D vwCl tys U ∧ va_D (fun _ => True) w0
abbrev kPost (D : va_G) (A : Nat → Prop) (w1 : va_W) (tys : List (ClassId × FieldType)) : Unit → State → Prop := fun _ t => va_P D vwCl w1 t.heap ∧ va_K D vwCl tys t ∧ va_D A w1
/-- contracts: reads (int, long), writes (int, long, nothing) -/
abbrev kRi (l : Launch) (y : MethodName) (cc : ByteArray) (n : Nat) (ret : Option FieldType) (rm : Room) (av : List Value) (B : State → Prop) (v : Int32) : Prop := Met l y (kT y cc n ret) rm (va_Pc av B) (vp_Si (fun r => r = v)) 0 0 (fun _ => False)
abbrev kRl (l : Launch) (y : MethodName) (cc : ByteArray) (n : Nat) (ret : Option FieldType) (rm : Room) (av : List Value) (B : State → Prop) (v : Int64) : Prop := Met l y (kT y cc n ret) rm (va_Pc av B) (vp_Sl (fun r => r = v)) 0 0 (fun _ => False)
abbrev kWi (l : Launch) (y : MethodName) (cc : ByteArray) (n : Nat) (ret : Option FieldType) (rm : Room) (D : va_G) (tys : List (ClassId × FieldType)) (av : List Value) (w0 : va_W) (v : Int32) (w1 : va_W) : Prop := ∀ sz : Nat, Met l y (kT y cc n ret) rm (va_Pc av (kPre D w0 tys sz)) (va_Qi (fun r (_ : Unit) => r = v) (kPost D (va_A w0 sz) w1 tys) (va_A w0 sz)) 0 0 (va_A w0 sz)
abbrev kWl (l : Launch) (y : MethodName) (cc : ByteArray) (n : Nat) (ret : Option FieldType) (rm : Room) (D : va_G) (tys : List (ClassId × FieldType)) (av : List Value) (w0 : va_W) (v : Int64) (w1 : va_W) : Prop := ∀ sz : Nat, Met l y (kT y cc n ret) rm (va_Pc av (kPre D w0 tys sz)) (va_Ql (fun r (_ : Unit) => r = v) (kPost D (va_A w0 sz) w1 tys) (va_A w0 sz)) 0 0 (va_A w0 sz)
abbrev kWv (l : Launch) (y : MethodName) (cc : ByteArray) (n : Nat) (ret : Option FieldType) (rm : Room) (D : va_G) (tys : List (ClassId × FieldType)) (av : List Value) (w0 : va_W) (w1 : va_W) : Prop := ∀ sz : Nat, Met l y (kT y cc n ret) rm (va_Pc av (kPre D w0 tys sz)) (va_Qv (fun (_ : Unit) => True) (kPost D (va_A w0 sz) w1 tys) (va_A w0 sz)) 0 0 (va_A w0 sz)
theorem k_inr {x N : Int32} {n : Nat} (hN : N.toInt = n) (h0 : ¬ x < 0) (h1 : ¬ N ≤ x) : vp_in x n := by
  rw [vp_in_iff]
  rw [Int32.lt_iff_toInt_lt, Int32.toInt_zero] at h0
  rw [Int32.le_iff_toInt_le, hN] at h1
  omega
section KX
variable {p : Program} {l : Launch} {e : Env} {R : Room} {s : State} {m : MethodId} {args : Array Value} {below : List Frame} {meth : Method} {c : Code} {H : Heap} {locs : List Loc} {cells slots : Nat} {Q : State → Prop}
variable {cc bytes : ByteArray} {nL index n maxL pc ci q0 b : Nat} {Ts : List Cond} {own : String} {y : MethodName} {ret : Option FieldType} {rm : Room} {As rest st0 fs : List Value} {ls : Array Slot} {D : va_G} {ws : va_W} {tys : List (ClassId × FieldType)} {q : vw_C}
theorem k_blind (D : va_G) (ws : va_W) (tys : List (ClassId × FieldType)) (av : List Value) : FrameBlind (va_Pc av (kB D ws tys)) := fun a U g mk h => ⟨h.1, h.2.1, va_K.moved (u := U) (U := U.calling g mk a) (Vm.Alike.refl U.vm) h.2.2⟩
theorem k_blindW (D : va_G) (ws : va_W) (tys : List (ClassId × FieldType)) (sz : Nat) (av : List Value) : FrameBlind (va_Pc av (kPre D ws tys sz)) := fun a U g mk h => ⟨h.1, h.2.1, h.2.2.1, va_K.moved (u := U) (U := U.calling g mk a) (Vm.Alike.refl U.vm) h.2.2.2.1, h.2.2.2.2⟩
theorem k_cw (S : CallFix p m c cc nL s args Ts own) (hT : ∀ w ∈ kG, w ∈ Ts) (w : kwV own index q.1 y bytes maxL ret n) (hrc : rm.cells = 0) (hrs : rm.slots = 0) (hR : rm.frames + 1 ≤ R.frames ∧ 8 + (maxL + 11) + rm.locals ≤ R.locals) : CallW R s args own q.1 index y bytes maxL ret (kT y bytes maxL ret) rm 0 0 n := by
  obtain ⟨w1, w2, w3, w4, w5, w6⟩ := w
  have ht := S.2.2.2.2
  exact ⟨callB_of n ht (k_good hT w5) rfl hrc hrs (ht _ (hT _ w4)) (ht _ (hT _ w1)) w6 hR, ht _ (hT _ w2), ht _ (hT _ w3)⟩
theorem k_cs (S : CallFix p m c cc nL s args Ts own) (hT : ∀ w ∈ kG, w ∈ Ts) (w : kwS own index y bytes maxL ret n) (hrc : rm.cells = 0) (hrs : rm.slots = 0) (hR : rm.frames + 1 ≤ R.frames ∧ 8 + (maxL + 11) + rm.locals ≤ R.locals) : CallB R s args own index y bytes maxL ret (kT y bytes maxL ret) rm 0 0 n ∧ (Cond.static y).before args s = true := by
  obtain ⟨w1, w2, w4, w5, w6⟩ := w
  have ht := S.2.2.2.2
  exact ⟨callB_of n ht (k_good hT w5) rfl hrc hrs (ht _ (hT _ w4)) (ht _ (hT _ w1)) w6 hR, ht _ (hT _ w2)⟩
/-- a call of a reading method -/
theorem k_rdVi {v : Int32} (S : CallFix p m c cc nL s args Ts own) (hT : ∀ w ∈ kG, w ∈ Ts) (hM : kRi l y bytes maxL ret rm (.ref b :: As) (kB D ws tys) v) (w : kwV own index q.1 y bytes maxL ret n) (hP : va_P D vwCl ws H) (hK : va_K D vwCl tys s) (hc : vwCl[ci]? = some q) (he : ws[q0]? = some (b, .inr (ci, fs)))
    (hrc : rm.cells = 0) (hrs : rm.slots = 0) (hR : rm.frames + 1 ≤ R.frames ∧ 8 + (maxL + 11) + rm.locals ≤ R.locals) (hn : As.length = n) (hsz : ls.size = nL) (hst : st0 = As.reverse ++ .ref b :: rest) (hW : (rest.map fun v => v.category).sum ≤ 8) (hdg : decode cc pc = .ok (.invokevirtual index, 3)) (hf : cells ≤ R.cells ∧ slots ≤ R.slots)
    (kk : W p l e R s m args below meth c H locs cells slots Q (F0 m (pc + 3) ls (.int v :: rest))) : W p l e R s m args below meth c H locs cells slots Q (F0 m pc ls st0) := by
  refine vp_callSi (W.runV (g := F0 m pc ls st0) S hM (k_cw (q := q) S hT w hrc hrs hR) ⟨k_blind D ws tys _, va_recv hK hP hc he, fun U hU hw => ⟨rfl, by rw [hU]; exact hP, va_K.moved hw.alike hK⟩⟩ rfl hn hsz hst (by show 2 * 0 + _ ≤ 8; omega) hdg hf) (fun r hr => ?_)
  rw [hr]
  exact kk
theorem k_rdVl {v : Int64} (S : CallFix p m c cc nL s args Ts own) (hT : ∀ w ∈ kG, w ∈ Ts) (hM : kRl l y bytes maxL ret rm (.ref b :: As) (kB D ws tys) v) (w : kwV own index q.1 y bytes maxL ret n) (hP : va_P D vwCl ws H) (hK : va_K D vwCl tys s) (hc : vwCl[ci]? = some q) (he : ws[q0]? = some (b, .inr (ci, fs)))
    (hrc : rm.cells = 0) (hrs : rm.slots = 0) (hR : rm.frames + 1 ≤ R.frames ∧ 8 + (maxL + 11) + rm.locals ≤ R.locals) (hn : As.length = n) (hsz : ls.size = nL) (hst : st0 = As.reverse ++ .ref b :: rest) (hW : (rest.map fun v => v.category).sum ≤ 8) (hdg : decode cc pc = .ok (.invokevirtual index, 3)) (hf : cells ≤ R.cells ∧ slots ≤ R.slots)
    (kk : W p l e R s m args below meth c H locs cells slots Q (F0 m (pc + 3) ls (.long v :: rest))) : W p l e R s m args below meth c H locs cells slots Q (F0 m pc ls st0) := by
  refine vp_callSl (W.runV (g := F0 m pc ls st0) S hM (k_cw (q := q) S hT w hrc hrs hR) ⟨k_blind D ws tys _, va_recv hK hP hc he, fun U hU hw => ⟨rfl, by rw [hU]; exact hP, va_K.moved hw.alike hK⟩⟩ rfl hn hsz hst (by show 2 * 0 + _ ≤ 8; omega) hdg hf) (fun r hr => ?_)
  rw [hr]
  exact kk
/-- a call of a static method that reads nothing -/
theorem k_rdSi {v : Int32} (S : CallFix p m c cc nL s args Ts own) (hT : ∀ w ∈ kG, w ∈ Ts) (hM : kRi l y bytes maxL ret rm As (fun _ => True) v) (w : kwS own index y bytes maxL ret n)
    (hrc : rm.cells = 0) (hrs : rm.slots = 0) (hR : rm.frames + 1 ≤ R.frames ∧ 8 + (maxL + 11) + rm.locals ≤ R.locals) (hn : As.length = n) (hsz : ls.size = nL) (hst : st0 = As.reverse ++ rest) (hW : (rest.map fun v => v.category).sum ≤ 8) (hdg : decode cc pc = .ok (.invokestatic index, 3)) (hf : cells ≤ R.cells ∧ slots ≤ R.slots)
    (kk : W p l e R s m args below meth c H locs cells slots Q (F0 m (pc + 3) ls (.int v :: rest))) : W p l e R s m args below meth c H locs cells slots Q (F0 m pc ls st0) := by
  refine vp_callSi (W.runS (g := F0 m pc ls st0) S hM (k_cs S hT w hrc hrs hR) ⟨fun a U g mk h => ⟨h.1, trivial⟩, fun U hU hw => ⟨rfl, trivial⟩⟩ rfl hn hsz hst (by show 2 * 0 + _ ≤ 8; omega) hdg hf) (fun r hr => ?_)
  rw [hr]
  exact kk
/-- a call of a writing method: its cells are taken out of the caller's, and come back changed -/
theorem k_wrVi {v : Int32} {A : Nat → Prop} {H0 : Heap} {w0 w1 wr ws' : va_W} (S : CallFix p m c cc nL s args Ts own) (hT : ∀ w ∈ kG, w ∈ Ts) (hM : kWi l y bytes maxL ret rm D tys (.ref b :: As) w0 v w1) (w : kwV own index q.1 y bytes maxL ret n) (hP : va_P D vwCl ws H) (hD : va_D A ws) (hS : va_S A H0 H locs) (hA : ∀ q, H0.size ≤ q → A q) (hK : va_K D vwCl tys s) (hc : vwCl[ci]? = some q) (he : w0[q0]? = some (b, .inr (ci, fs)))
    (isC isR is1 : List Nat) (hC : isC.map (fun i => ws[i]?) = w0.map some) (hCn : va_nd isC = true) (hRr : isR.map (fun i => ws[i]?) = wr.map some) (hRn : va_nd isR = true) (hdis : ∀ i ∈ isR, i ∉ isC) (hN : is1.map (fun i => (wr ++ w1)[i]?) = ws'.map some) (hNn : va_nd is1 = true)
    (hrc : rm.cells = 0) (hrs : rm.slots = 0) (hR : rm.frames + 1 ≤ R.frames ∧ 8 + (maxL + 11) + rm.locals ≤ R.locals) (hn : As.length = n) (hsz : ls.size = nL) (hst : st0 = As.reverse ++ .ref b :: rest) (hW : (rest.map fun v => v.category).sum ≤ 8) (hdg : decode cc pc = .ok (.invokevirtual index, 3)) (hf : cells ≤ R.cells ∧ slots ≤ R.slots)
    (kk : ∀ (H1 : Heap) (locs1 : List Loc), va_P D vwCl ws' H1 → va_D A ws' → va_S A H0 H1 locs1 → W p l e R s m args below meth c H1 locs1 cells slots Q (F0 m (pc + 3) ls (.int v :: rest))) : W p l e R s m args below meth c H locs cells slots Q (F0 m pc ls st0) := by
  have hDc := hD.sub isC hCn hC
  have hPc : va_P D vwCl w0 H := fun k x hk => by
    obtain ⟨i, -, hi⟩ := va_in_of isC hC hk
    exact hP i x hi
  have hFc := va_free hD hS hA isC hC
  refine va_calli (va_runV (g := F0 m pc ls st0) S (hM H.size) (k_cw (q := q) S hT w hrc hrs hR) ⟨k_blindW D w0 tys _ _, va_recv hK hPc hc he, fun U hU hw => ⟨rfl, by rw [hU], by rw [hU]; exact hPc, va_K.moved hw.alike hK, hDc.weaken (fun _ _ _ _ => trivial)⟩⟩ rfl hn hsz hst (by show 2 * 0 + _ ≤ 8; omega) hdg hf) hS (fun q _ h => hFc q h) hFc (fun r u t H1 locs1 ht hvm hw hB hz1 hk1 hS1 => ?_)
  obtain ⟨hP1, hK1, hD1⟩ := hB
  rw [ht] at hP1
  obtain ⟨hP2, hD2⟩ := va_join hP hD isC isR hC hRr hRn hdis hk1 hFc hP1 hD1
  rw [hw]
  exact kk H1 locs1 (fun k x hk => by obtain ⟨i, -, hi⟩ := va_in_of is1 hN hk; exact hP2 i x hi) (hD2.sub is1 hNn hN) hS1
theorem k_wrVl {v : Int64} {A : Nat → Prop} {H0 : Heap} {w0 w1 wr ws' : va_W} (S : CallFix p m c cc nL s args Ts own) (hT : ∀ w ∈ kG, w ∈ Ts) (hM : kWl l y bytes maxL ret rm D tys (.ref b :: As) w0 v w1) (w : kwV own index q.1 y bytes maxL ret n) (hP : va_P D vwCl ws H) (hD : va_D A ws) (hS : va_S A H0 H locs) (hA : ∀ q, H0.size ≤ q → A q) (hK : va_K D vwCl tys s) (hc : vwCl[ci]? = some q) (he : w0[q0]? = some (b, .inr (ci, fs)))
    (isC isR is1 : List Nat) (hC : isC.map (fun i => ws[i]?) = w0.map some) (hCn : va_nd isC = true) (hRr : isR.map (fun i => ws[i]?) = wr.map some) (hRn : va_nd isR = true) (hdis : ∀ i ∈ isR, i ∉ isC) (hN : is1.map (fun i => (wr ++ w1)[i]?) = ws'.map some) (hNn : va_nd is1 = true)
    (hrc : rm.cells = 0) (hrs : rm.slots = 0) (hR : rm.frames + 1 ≤ R.frames ∧ 8 + (maxL + 11) + rm.locals ≤ R.locals) (hn : As.length = n) (hsz : ls.size = nL) (hst : st0 = As.reverse ++ .ref b :: rest) (hW : (rest.map fun v => v.category).sum ≤ 8) (hdg : decode cc pc = .ok (.invokevirtual index, 3)) (hf : cells ≤ R.cells ∧ slots ≤ R.slots)
    (kk : ∀ (H1 : Heap) (locs1 : List Loc), va_P D vwCl ws' H1 → va_D A ws' → va_S A H0 H1 locs1 → W p l e R s m args below meth c H1 locs1 cells slots Q (F0 m (pc + 3) ls (.long v :: rest))) : W p l e R s m args below meth c H locs cells slots Q (F0 m pc ls st0) := by
  have hDc := hD.sub isC hCn hC
  have hPc : va_P D vwCl w0 H := fun k x hk => by
    obtain ⟨i, -, hi⟩ := va_in_of isC hC hk
    exact hP i x hi
  have hFc := va_free hD hS hA isC hC
  refine va_calll (va_runV (g := F0 m pc ls st0) S (hM H.size) (k_cw (q := q) S hT w hrc hrs hR) ⟨k_blindW D w0 tys _ _, va_recv hK hPc hc he, fun U hU hw => ⟨rfl, by rw [hU], by rw [hU]; exact hPc, va_K.moved hw.alike hK, hDc.weaken (fun _ _ _ _ => trivial)⟩⟩ rfl hn hsz hst (by show 2 * 0 + _ ≤ 8; omega) hdg hf) hS (fun q _ h => hFc q h) hFc (fun r u t H1 locs1 ht hvm hw hB hz1 hk1 hS1 => ?_)
  obtain ⟨hP1, hK1, hD1⟩ := hB
  rw [ht] at hP1
  obtain ⟨hP2, hD2⟩ := va_join hP hD isC isR hC hRr hRn hdis hk1 hFc hP1 hD1
  rw [hw]
  exact kk H1 locs1 (fun k x hk => by obtain ⟨i, -, hi⟩ := va_in_of is1 hN hk; exact hP2 i x hi) (hD2.sub is1 hNn hN) hS1
theorem k_wrVv {A : Nat → Prop} {H0 : Heap} {w0 w1 wr ws' : va_W} (S : CallFix p m c cc nL s args Ts own) (hT : ∀ w ∈ kG, w ∈ Ts) (hM : kWv l y bytes maxL ret rm D tys (.ref b :: As) w0 w1) (w : kwV own index q.1 y bytes maxL ret n) (hP : va_P D vwCl ws H) (hD : va_D A ws) (hS : va_S A H0 H locs) (hA : ∀ q, H0.size ≤ q → A q) (hK : va_K D vwCl tys s) (hc : vwCl[ci]? = some q) (he : w0[q0]? = some (b, .inr (ci, fs)))
    (isC isR is1 : List Nat) (hC : isC.map (fun i => ws[i]?) = w0.map some) (hCn : va_nd isC = true) (hRr : isR.map (fun i => ws[i]?) = wr.map some) (hRn : va_nd isR = true) (hdis : ∀ i ∈ isR, i ∉ isC) (hN : is1.map (fun i => (wr ++ w1)[i]?) = ws'.map some) (hNn : va_nd is1 = true)
    (hrc : rm.cells = 0) (hrs : rm.slots = 0) (hR : rm.frames + 1 ≤ R.frames ∧ 8 + (maxL + 11) + rm.locals ≤ R.locals) (hn : As.length = n) (hsz : ls.size = nL) (hst : st0 = As.reverse ++ .ref b :: rest) (hW : (rest.map fun v => v.category).sum ≤ 8) (hdg : decode cc pc = .ok (.invokevirtual index, 3)) (hf : cells ≤ R.cells ∧ slots ≤ R.slots)
    (kk : ∀ (H1 : Heap) (locs1 : List Loc), va_P D vwCl ws' H1 → va_D A ws' → va_S A H0 H1 locs1 → W p l e R s m args below meth c H1 locs1 cells slots Q (F0 m (pc + 3) ls rest)) : W p l e R s m args below meth c H locs cells slots Q (F0 m pc ls st0) := by
  have hDc := hD.sub isC hCn hC
  have hPc : va_P D vwCl w0 H := fun k x hk => by
    obtain ⟨i, -, hi⟩ := va_in_of isC hC hk
    exact hP i x hi
  have hFc := va_free hD hS hA isC hC
  refine va_callv (va_runV (g := F0 m pc ls st0) S (hM H.size) (k_cw (q := q) S hT w hrc hrs hR) ⟨k_blindW D w0 tys _ _, va_recv hK hPc hc he, fun U hU hw => ⟨rfl, by rw [hU], by rw [hU]; exact hPc, va_K.moved hw.alike hK, hDc.weaken (fun _ _ _ _ => trivial)⟩⟩ rfl hn hsz hst (by show 2 * 0 + _ ≤ 8; omega) hdg hf) hS (fun q _ h => hFc q h) hFc (fun u t H1 locs1 ht hvm hw hB hz1 hk1 hS1 => ?_)
  obtain ⟨hP1, hK1, hD1⟩ := hB
  rw [ht] at hP1
  obtain ⟨hP2, hD2⟩ := va_join hP hD isC isR hC hRr hRn hdis hk1 hFc hP1 hD1
  exact kk H1 locs1 (fun k x hk => by obtain ⟨i, -, hi⟩ := va_in_of is1 hN hk; exact hP2 i x hi) (hD2.sub is1 hNn hN) hS1
end KX
