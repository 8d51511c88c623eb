/-! rules for constructors: new arrays of one class, calls of constructors, of a static method that writes -/
abbrev kIn (l : Launch) (y : MethodName) (cc : ByteArray) (n : Nat) (rm : Room) (D : va_G) (tys : List (ClassId × FieldType)) (X : State → Prop) (av : List Value) (w0 : va_W) (S : Type) (w1 : S → va_W) (mc ms : Nat) : Prop := ∀ sz : Nat, Met l y (kT y cc n none) rm (va_Pc av (fun U => kPre D w0 tys sz U ∧ X U)) (va_Qv (fun (_ : S) => True) (fun u t => va_P D vwCl (w1 u) t.heap ∧ va_K D vwCl tys t ∧ va_D (va_A w0 sz) (w1 u)) (va_A w0 sz)) mc ms (va_A w0 sz)
abbrev kwI (own : String) (index : Nat) (y : MethodName) (bytes : ByteArray) (maxL : Nat) (n : Nat) : Prop :=
  Cond.methodLink own index y ∈ kG ∧ Cond.instanceMethod y ∈ kG ∧ Cond.initialized y.cls ∈ kG ∧ Cond.code y bytes maxL none ∈ kG ∧ y.name = "<init>" ∧
  (y.cls ≠ "java/lang/invoke/MethodHandle" ∧ y.cls ≠ "java/lang/invoke/VarHandle" ∧ (parseMethodDescriptor y.desc).map (fun d => d.parameters.length) = some n)
abbrev kwN (y : MethodName) (bytes : ByteArray) (maxL : Nat) (n : Nat) : Prop :=
  Cond.instanceMethod y ∈ kG ∧ Cond.initialized y.cls ∈ kG ∧ Cond.code y bytes maxL none ∈ kG ∧ y.name = "<init>" ∧
  (y.cls ≠ "java/lang/invoke/MethodHandle" ∧ y.cls ≠ "java/lang/invoke/VarHandle" ∧ (parseMethodDescriptor y.desc).map (fun d => d.parameters.length) = some n)
section KC
variable {p : Program} {l : Launch} {e : Env} {R : Room} {s : State} {m : MethodId} {args : Array Value} {below : List Frame} {meth : Method} {c : Code} {H : Heap} {locs : List Loc} {cells slots : Nat} {Q : State → Prop}
variable {cc bytes : ByteArray} {nL index n maxL pc b mc ms : Nat} {Ts : List Cond} {own : String} {y : MethodName} {rm : Room} {As rest st0 : List Value} {ls : Array Slot} {D : va_G} {ws : va_W} {tys : List (ClassId × FieldType)} {A : Nat → Prop} {H0 : Heap} {cA : ClassId}
theorem k_newa (hx : p.tables.exec = Jvm.exec) (hb : c.code = cc) (harr : (Cond.arrayClass .int).before args s = true) (hK : va_K D vwCl [(cA, .int)] s) (hP : va_P D vwCl ws H) (hD : va_D A ws) (hS : va_S A H0 H locs) (hA : ∀ q, H0.size ≤ q → A q) {k : Int32} {N : Nat} (hn : ¬ k < 0) (hN : k.toNatClampNeg = N) (hbytes : N * componentBytes .int ≤ 536870912) (hcells : cells + 1 ≤ R.cells) (hslots : slots + N ≤ R.slots) (hdg : decode cc pc = .ok (.newarray .int, 2))
    (kk : ∀ (q : Nat) (H1 : Heap), va_P D vwCl (ws ++ [(q, .inl (cA, N, .inl (fun _ => 0)))]) H1 → va_D A (ws ++ [(q, .inl (cA, N, .inl (fun _ => 0)))]) → va_S A H0 H1 locs → W p l e R s m args below meth c H1 locs (cells + 1) (slots + N) Q (F0 m (pc + 2) ls (.ref q :: rest))) : W p l e R s m args below meth c H locs cells slots Q (F0 m pc ls (.int k :: rest)) := by
  refine va_newa (atype := .int) (ty := .int) (N' := N) (a0 := (N, .inl fun _ => 0)) hx hb harr rfl hK hP hD hS hA (fun cB => by rw [vp_cell_i]; rfl) hn hN hbytes hcells hslots hdg (fun q cB H1 hK1 hP1 hD1 hS1 => ?_)
  have e1 : s.vm.findClass ("[" ++ FieldType.int.toString) = some cA := (hK1.2 0 (cA, .int) rfl).2
  have e2 : s.vm.findClass ("[" ++ FieldType.int.toString) = some cB := (hK1.2 1 (cB, .int) rfl).2
  have e3 : cB = cA := Option.some.inj (e2.symm.trans e1)
  subst e3
  exact kk q H1 hP1 hD1 hS1
theorem k_ctor {S : Type} {X : State → Prop} {w0 wr : va_W} {w1 : S → va_W} (F : CallFix p m c cc nL s args Ts own) (hT : ∀ w ∈ kG, w ∈ Ts) (hM : kIn l y bytes maxL rm D tys X (.ref b :: As) w0 S w1 mc ms) (w : kwI own index y bytes maxL n) (hX : ∀ U : State, s.WarmedH U.vm → X U) (hXb : ∀ (U : State) (g : JFrame) (mk : MethodId) (a : Array Value), X U → X (U.calling g mk a)) (hP : va_P D vwCl ws H) (hD : va_D A ws) (hS : va_S A H0 H locs) (hA : ∀ q, H0.size ≤ q → A q) (hK : va_K D vwCl tys s)
    (isC isR : List Nat) (hC : isC.map (fun i => ws[i]?) = w0.map some) (hCn : va_nd isC = true) (hRr : isR.map (fun i => ws[i]?) = wr.map some) (hRn : va_nd isR = true) (hdis : ∀ i ∈ isR, i ∉ isC)
    (hrc : rm.cells = mc) (hrs : rm.slots = ms) (hR : rm.frames + 1 ≤ R.frames ∧ 8 + (maxL + 11) + rm.locals ≤ R.locals) (hn : As.length = n) (hsz : ls.size = nL) (hst : st0 = As.reverse ++ .ref b :: rest) (hW : (rest.map fun v => v.category).sum ≤ 8) (hdg : decode cc pc = .ok (.invokespecial index, 3)) (hf : cells + mc ≤ R.cells ∧ slots + ms ≤ R.slots)
    (kk : ∀ (u : S) (H1 : Heap) (locs1 : List Loc), va_P D vwCl (wr ++ w1 u) H1 → va_D A (wr ++ w1 u) → va_S A H0 H1 locs1 → W p l e R s m args below meth c H1 locs1 (cells + mc) (slots + ms) Q (F0 m (pc + 3) ls rest)) : W p l e R s m args below meth c H locs cells slots Q (F0 m pc ls st0) := by
  have hDc := hD.sub isC hCn hC
  have hPc : va_P D vwCl w0 H := fun k x hk => by
    obtain ⟨i, -, hi⟩ := va_in_of isC hC hk
    exact hP i x hi
  have hFc := va_free hD hS hA isC hC
  have ht := F.2.2.2.2
  obtain ⟨w1', w2, w4, w5, w6, w7⟩ := w
  refine va_callv (va_runI (g := F0 m pc ls st0) F (hM H.size) ⟨callB_of n ht (k_good hT w5) rfl hrc hrs (ht _ (hT _ w4)) (ht _ (hT _ w1')) w7 hR, w6, ht _ (hT _ w2)⟩ ⟨fun a U g mk h => ⟨h.1, ⟨h.2.1.1, h.2.1.2.1, va_K.moved (u := U) (U := U.calling g mk a) (Vm.Alike.refl U.vm) h.2.1.2.2.1, h.2.1.2.2.2⟩, hXb U g mk a h.2.2⟩, fun U hU hw => ⟨rfl, ⟨by rw [hU], by rw [hU]; exact hPc, va_K.moved hw.alike hK, hDc.weaken (fun _ _ _ _ => trivial)⟩, hX U hw⟩⟩ rfl hn hsz hst (by show 2 * 0 + _ ≤ 8; omega) hdg hf) hS (fun q _ h => hFc q h) hFc (fun u t H1 locs1 ht hvm hw hB hz1 hk1 hS1 => ?_)
  obtain ⟨hP1, hK1, hD1⟩ := hB
  rw [ht] at hP1
  obtain ⟨hP2, hD2⟩ := va_join hP hD isC isR hC hRr hRn hdis hk1 hFc hP1 hD1
  exact kk u H1 locs1 hP2 hD2 hS1
theorem k_ctorN {S : Type} {X : State → Prop} {host : String} {w0 wr : va_W} {w1 : S → va_W} (F : CallFix p m c cc nL s args Ts own) (hT : ∀ w ∈ kG, w ∈ Ts) (hM : kIn l y bytes maxL rm D tys X (.ref b :: As) w0 S w1 mc ms) (w : kwN y bytes maxL n) (hl : va_Nw (.methodLinkNest own index y host) s) (hX : ∀ U : State, s.WarmedH U.vm → X U) (hXb : ∀ (U : State) (g : JFrame) (mk : MethodId) (a : Array Value), X U → X (U.calling g mk a)) (hP : va_P D vwCl ws H) (hD : va_D A ws) (hS : va_S A H0 H locs) (hA : ∀ q, H0.size ≤ q → A q) (hK : va_K D vwCl tys s)
    (isC isR : List Nat) (hC : isC.map (fun i => ws[i]?) = w0.map some) (hCn : va_nd isC = true) (hRr : isR.map (fun i => ws[i]?) = wr.map some) (hRn : va_nd isR = true) (hdis : ∀ i ∈ isR, i ∉ isC)
    (hrc : rm.cells = mc) (hrs : rm.slots = ms) (hR : rm.frames + 1 ≤ R.frames ∧ 8 + (maxL + 11) + rm.locals ≤ R.locals) (hn : As.length = n) (hsz : ls.size = nL) (hst : st0 = As.reverse ++ .ref b :: rest) (hW : (rest.map fun v => v.category).sum ≤ 8) (hdg : decode cc pc = .ok (.invokespecial index, 3)) (hf : cells + mc ≤ R.cells ∧ slots + ms ≤ R.slots)
    (kk : ∀ (u : S) (H1 : Heap) (locs1 : List Loc), va_P D vwCl (wr ++ w1 u) H1 → va_D A (wr ++ w1 u) → va_S A H0 H1 locs1 → W p l e R s m args below meth c H1 locs1 (cells + mc) (slots + ms) Q (F0 m (pc + 3) ls rest)) : W p l e R s m args below meth c H locs cells slots Q (F0 m pc ls st0) := by
  have hDc := hD.sub isC hCn hC
  have hPc : va_P D vwCl w0 H := fun k x hk => by
    obtain ⟨i, -, hi⟩ := va_in_of isC hC hk
    exact hP i x hi
  have hFc := va_free hD hS hA isC hC
  have ht := F.2.2.2.2
  obtain ⟨w2, w4, w5, w6, w7⟩ := w
  refine va_callv (va_runIN (g := F0 m pc ls st0) F (hM H.size) ⟨va_cnB n ht (k_good hT w5) rfl hrc hrs hl (ht _ (hT _ w4)) w7 hR, w6, ht _ (hT _ w2)⟩ ⟨fun a U g mk h => ⟨h.1, ⟨h.2.1.1, h.2.1.2.1, va_K.moved (u := U) (U := U.calling g mk a) (Vm.Alike.refl U.vm) h.2.1.2.2.1, h.2.1.2.2.2⟩, hXb U g mk a h.2.2⟩, fun U hU hw => ⟨rfl, ⟨by rw [hU], by rw [hU]; exact hPc, va_K.moved hw.alike hK, hDc.weaken (fun _ _ _ _ => trivial)⟩, hX U hw⟩⟩ rfl hn hsz hst (by show 2 * 0 + _ ≤ 8; omega) hdg hf) hS (fun q _ h => hFc q h) hFc (fun u t H1 locs1 ht hvm hw hB hz1 hk1 hS1 => ?_)
  obtain ⟨hP1, hK1, hD1⟩ := hB
  rw [ht] at hP1
  obtain ⟨hP2, hD2⟩ := va_join hP hD isC isR hC hRr hRn hdis hk1 hFc hP1 hD1
  exact kk u H1 locs1 hP2 hD2 hS1
/-- a call of a static method that writes and answers nothing -/
theorem k_wrSv {w0 w1 wr ws' : va_W} (F : CallFix p m c cc nL s args Ts own) (hT : ∀ w ∈ kG, w ∈ Ts) (hM : kWv l y bytes maxL none rm D tys As w0 w1) (w : kwS own index y bytes maxL none n) (hP : va_P D vwCl ws H) (hD : va_D A ws) (hS : va_S A H0 H locs) (hA : ∀ q, H0.size ≤ q → A q) (hK : va_K D vwCl tys s)
    (isC isR is1 : List Nat) (hC : isC.map (fun i => ws[i]?) = w0.map some) (hCn : va_nd isC = true) (hRr : isR.map (fun i => ws[i]?) = wr.map some) (hRn : va_nd isR = true) (hdis : ∀ i ∈ isR, i ∉ isC) (hN : is1.map (fun i => (wr ++ w1)[i]?) = ws'.map some) (hNn : va_nd is1 = true)
    (hrc : rm.cells = 0) (hrs : rm.slots = 0) (hR : rm.frames + 1 ≤ R.frames ∧ 8 + (maxL + 11) + rm.locals ≤ R.locals) (hn : As.length = n) (hsz : ls.size = nL) (hst : st0 = As.reverse ++ rest) (hW : (rest.map fun v => v.category).sum ≤ 8) (hdg : decode cc pc = .ok (.invokestatic index, 3)) (hf : cells ≤ R.cells ∧ slots ≤ R.slots)
    (kk : ∀ (H1 : Heap) (locs1 : List Loc), va_P D vwCl ws' H1 → va_D A ws' → va_S A H0 H1 locs1 → W p l e R s m args below meth c H1 locs1 cells slots Q (F0 m (pc + 3) ls rest)) : W p l e R s m args below meth c H locs cells slots Q (F0 m pc ls st0) := by
  have hDc := hD.sub isC hCn hC
  have hPc : va_P D vwCl w0 H := fun k x hk => by
    obtain ⟨i, -, hi⟩ := va_in_of isC hC hk
    exact hP i x hi
  have hFc := va_free hD hS hA isC hC
  refine va_callv (va_runS (g := F0 m pc ls st0) F (hM H.size) (k_cs F hT w hrc hrs hR) ⟨k_blindW D w0 tys _ _, fun U hU hw => ⟨rfl, by rw [hU], by rw [hU]; exact hPc, va_K.moved hw.alike hK, hDc.weaken (fun _ _ _ _ => trivial)⟩⟩ rfl hn hsz hst (by show 2 * 0 + _ ≤ 8; omega) hdg hf) hS (fun q _ h => hFc q h) hFc (fun u t H1 locs1 ht hvm hw hB hz1 hk1 hS1 => ?_)
  obtain ⟨hP1, hK1, hD1⟩ := hB
  rw [ht] at hP1
  obtain ⟨hP2, hD2⟩ := va_join hP hD isC isR hC hRr hRn hdis hk1 hFc hP1 hD1
  exact kk H1 locs1 (fun k x hk => by obtain ⟨i, -, hi⟩ := va_in_of is1 hN hk; exact hP2 i x hi) (hD2.sub is1 hNn hN) hS1
end KC
