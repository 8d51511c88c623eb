/-- the reference's search for the newest sector with a right mark, among the first i -/
def kF (kme : Nat → Int32) : Nat → Int32
  | 0 => -1
  | i + 1 => if kme (Int32.toNatClampNeg ((256 : Int32) * nI i + 193)) = spX5_markOf kme ((256 : Int32) * nI i) 193 then (if kF kme i < 0 then nI i else (if kme (Int32.toNatClampNeg ((256 : Int32) * nI i)) ≤ kme (Int32.toNatClampNeg ((256 : Int32) * kF kme i)) then kF kme i else nI i)) else kF kme i
theorem kF_e (kme : Nat → Int32) (i : Nat) : kF kme (i + 1) = if kme (Int32.toNatClampNeg ((256 : Int32) * nI i + 193)) = spX5_markOf kme ((256 : Int32) * nI i) 193 then (if kF kme i < 0 then nI i else (if kme (Int32.toNatClampNeg ((256 : Int32) * nI i)) ≤ kme (Int32.toNatClampNeg ((256 : Int32) * kF kme i)) then kF kme i else nI i)) else kF kme i := rfl
theorem k_kF (kme : Nat → Int32) : ∀ i : Nat, i ≤ 16 → kF kme i = -1 ∨ ∃ j : Nat, kF kme i = nI j ∧ j < 16 := by
  intro i
  induction i with
  | zero => intro _; exact Or.inl rfl
  | succ i ih =>
    intro h
    have h1 := ih (by omega)
    rw [kF_e]
    (repeat' split) <;> first | exact h1 | exact Or.inr ⟨i, rfl, by omega⟩
theorem k_kFn {kme : Nat → Int32} {i : Nat} (h : i ≤ 16) (c : ¬ kF kme i < 0) : ∃ j : Nat, kF kme i = nI j ∧ j < 16 := by
  rcases k_kF kme i h with e | e
  · rw [e] at c; exact absurd (by decide) c
  · exact e
theorem k_geq {x NI : Int32} {N k : Nat} (hN : NI = nI N) (hk : x = nI k) (hk1 : k ≤ N) (hs : N < 2 ^ 31) (c : NI ≤ x) : k = N := by
  subst hk; subst hN
  rcases Nat.lt_or_ge k N with q | q
  · exact absurd c (nI_ge q hs)
  · omega
theorem k_mrec {kme : Nat → Int32} {x1 rc : Int32} {kf r : Nat} (hx1 : x1 = nI kf) (hr : rc = nI r) (hkf : kf < 16) (hr12 : r < 12) (hrec : kme (256 * kf + 194 + 5 * r + 4) = spX5_markOf kme (nI (256 * kf + 194 + 5 * r)) 4 → kme (256 * kf + 194 + 5 * r + 1) = 1 → ¬ kme (256 * kf + 194 + 5 * r + 3) < 0)
    (c : kme (Int32.toNatClampNeg (((((256 : Int32) * x1) + (194 : Int32)) + ((5 : Int32) * rc)) + (4 : Int32))) = spX5_markOf kme ((((256 : Int32) * x1) + (194 : Int32)) + ((5 : Int32) * rc)) (4 : Int32)) : kme (Int32.toNatClampNeg (((((256 : Int32) * x1) + (194 : Int32)) + ((5 : Int32) * rc)) + (1 : Int32))) = 1 → ¬ kme (Int32.toNatClampNeg (((((256 : Int32) * x1) + (194 : Int32)) + ((5 : Int32) * rc)) + (3 : Int32))) < 0 := by
  have ea : ((((256 : Int32) * x1) + (194 : Int32)) + ((5 : Int32) * rc)) = nI (256 * kf + 194 + 5 * r) := by
    simp only [hx1, hr, show (256 : Int32) = nI 256 from rfl, show (194 : Int32) = nI 194 from rfl, show (5 : Int32) = nI 5 from rfl, pk_mul, nI_add]
  have e4 : nI (256 * kf + 194 + 5 * r) + (4 : Int32) = nI (256 * kf + 194 + 5 * r + 4) := nI_add _ 4
  have e1 : nI (256 * kf + 194 + 5 * r) + (1 : Int32) = nI (256 * kf + 194 + 5 * r + 1) := nI_add _ 1
  have e3 : nI (256 * kf + 194 + 5 * r) + (3 : Int32) = nI (256 * kf + 194 + 5 * r + 3) := nI_add _ 3
  rw [ea, e4, nI_clamp (by omega)] at c
  rw [ea, e1, e3, nI_clamp (by omega), nI_clamp (by omega)]
  exact hrec c
def lpX5_mount_159 : Nat → Int32 → Int32 → Int32 → Int32 → Int32 → (Nat → Int32) → (Nat → Int32) → Int32 → Int32 → (Int32 × Int32 × Int32 × Int32 × Int32 × Int32 × (Nat → Int32))
  | 0, kth1, kpw1, ksc1, krc1, kno1, _, kbo1, _, _ => (0, kth1, kpw1, ksc1, krc1, kno1, kbo1)
  | n + 1, kth1, kpw1, ksc1, krc1, kno1, kme, kbo1, x1, x2 => (if x2 = 0 then (kno1, kth1, kpw1, ksc1, krc1, kno1, kbo1) else (if (12 : Int32) ≤ krc1 then (kno1, kth1, kpw1, ksc1, krc1, kno1, kbo1) else (if (kme (Int32.toNatClampNeg ((((256 : Int32) * x1) + (194 : Int32)) + ((5 : Int32) * krc1)))) = (kno1 + (1 : Int32)) then (if (kme (Int32.toNatClampNeg (((((256 : Int32) * x1) + (194 : Int32)) + ((5 : Int32) * krc1)) + (4 : Int32)))) = (spX5_markOf kme ((((256 : Int32) * x1) + (194 : Int32)) + ((5 : Int32) * krc1)) (4 : Int32)) then (lpX5_mount_159 n kth1 kpw1 ksc1 (krc1 + (1 : Int32)) (kno1 + (1 : Int32)) kme (spX5_act kbo1 (kme (Int32.toNatClampNeg (((((256 : Int32) * x1) + (194 : Int32)) + ((5 : Int32) * krc1)) + (1 : Int32)))) (kme (Int32.toNatClampNeg (((((256 : Int32) * x1) + (194 : Int32)) + ((5 : Int32) * krc1)) + (2 : Int32)))) (kme (Int32.toNatClampNeg (((((256 : Int32) * x1) + (194 : Int32)) + ((5 : Int32) * krc1)) + (3 : Int32)))))  x1 (1 : Int32)) else (lpX5_mount_159 n kth1 kpw1 ksc1 krc1 kno1 kme kbo1  x1 (0 : Int32))) else (lpX5_mount_159 n kth1 kpw1 ksc1 krc1 kno1 kme kbo1  x1 (0 : Int32)))))
theorem lpX5_mount_159_e (n : Nat) (kth1 : Int32) (kpw1 : Int32) (ksc1 : Int32) (krc1 : Int32) (kno1 : Int32) (kme : Nat → Int32) (kbo1 : Nat → Int32) (x1 : Int32) (x2 : Int32) : lpX5_mount_159 (n + 1) kth1 kpw1 ksc1 krc1 kno1 kme kbo1 x1 x2 = (if x2 = 0 then (kno1, kth1, kpw1, ksc1, krc1, kno1, kbo1) else (if (12 : Int32) ≤ krc1 then (kno1, kth1, kpw1, ksc1, krc1, kno1, kbo1) else (if (kme (Int32.toNatClampNeg ((((256 : Int32) * x1) + (194 : Int32)) + ((5 : Int32) * krc1)))) = (kno1 + (1 : Int32)) then (if (kme (Int32.toNatClampNeg (((((256 : Int32) * x1) + (194 : Int32)) + ((5 : Int32) * krc1)) + (4 : Int32)))) = (spX5_markOf kme ((((256 : Int32) * x1) + (194 : Int32)) + ((5 : Int32) * krc1)) (4 : Int32)) then (lpX5_mount_159 n kth1 kpw1 ksc1 (krc1 + (1 : Int32)) (kno1 + (1 : Int32)) kme (spX5_act kbo1 (kme (Int32.toNatClampNeg (((((256 : Int32) * x1) + (194 : Int32)) + ((5 : Int32) * krc1)) + (1 : Int32)))) (kme (Int32.toNatClampNeg (((((256 : Int32) * x1) + (194 : Int32)) + ((5 : Int32) * krc1)) + (2 : Int32)))) (kme (Int32.toNatClampNeg (((((256 : Int32) * x1) + (194 : Int32)) + ((5 : Int32) * krc1)) + (3 : Int32)))))  x1 (1 : Int32)) else (lpX5_mount_159 n kth1 kpw1 ksc1 krc1 kno1 kme kbo1  x1 (0 : Int32))) else (lpX5_mount_159 n kth1 kpw1 ksc1 krc1 kno1 kme kbo1  x1 (0 : Int32))))) := rfl
def lpX5_mount_121 : Nat → Int32 → Int32 → Int32 → Int32 → Int32 → (Nat → Int32) → (Nat → Int32) → Int32 → Int32 → (Int32 × Int32 × Int32 × Int32 × Int32 × Int32 × (Nat → Int32))
  | 0, kth1, kpw1, ksc1, krc1, kno1, _, kbo1, _, _ => (0, kth1, kpw1, ksc1, krc1, kno1, kbo1)
  | n + 1, kth1, kpw1, ksc1, krc1, kno1, kme, kbo1, x1, x2 => (if (193 : Int32) ≤ x2 then (lpX5_mount_159 14 kth1 kpw1 ksc1 (0 : Int32) kno1 kme kbo1  x1 (1 : Int32)) else (lpX5_mount_121 n kth1 kpw1 ksc1 krc1 kno1 kme (upd kbo1 (Int32.toNatClampNeg x2) (kme (Int32.toNatClampNeg (((256 : Int32) * x1) + x2))))  x1 (x2 + (1 : Int32))))
theorem lpX5_mount_121_e (n : Nat) (kth1 : Int32) (kpw1 : Int32) (ksc1 : Int32) (krc1 : Int32) (kno1 : Int32) (kme : Nat → Int32) (kbo1 : Nat → Int32) (x1 : Int32) (x2 : Int32) : lpX5_mount_121 (n + 1) kth1 kpw1 ksc1 krc1 kno1 kme kbo1 x1 x2 = (if (193 : Int32) ≤ x2 then (lpX5_mount_159 14 kth1 kpw1 ksc1 (0 : Int32) kno1 kme kbo1  x1 (1 : Int32)) else (lpX5_mount_121 n kth1 kpw1 ksc1 krc1 kno1 kme (upd kbo1 (Int32.toNatClampNeg x2) (kme (Int32.toNatClampNeg (((256 : Int32) * x1) + x2))))  x1 (x2 + (1 : Int32)))) := rfl
def lpX5_mount_14 : Nat → Int32 → Int32 → Int32 → Int32 → Int32 → (Nat → Int32) → (Nat → Int32) → Int32 → Int32 → (Int32 × Int32 × Int32 × Int32 × Int32 × Int32 × (Nat → Int32))
  | 0, kth1, kpw1, ksc1, krc1, kno1, _, kbo1, _, _ => (0, kth1, kpw1, ksc1, krc1, kno1, kbo1)
  | n + 1, kth1, kpw1, ksc1, krc1, kno1, kme, kbo1, x1, x2 => (if (16 : Int32) ≤ x2 then (lpX5_mount_121 192 kth1 kpw1 x1 krc1 (kme (Int32.toNatClampNeg (((256 : Int32) * x1) + (1 : Int32)))) kme kbo1  x1 (2 : Int32)) else (if (kme (Int32.toNatClampNeg (((256 : Int32) * x2) + (193 : Int32)))) = (spX5_markOf kme ((256 : Int32) * x2) (193 : Int32)) then (if x1 < 0 then (lpX5_mount_14 n kth1 kpw1 ksc1 krc1 kno1 kme kbo1  x2 (x2 + (1 : Int32))) else (if (kme (Int32.toNatClampNeg ((256 : Int32) * x2))) ≤ (kme (Int32.toNatClampNeg ((256 : Int32) * x1))) then (lpX5_mount_14 n kth1 kpw1 ksc1 krc1 kno1 kme kbo1  x1 (x2 + (1 : Int32))) else (lpX5_mount_14 n kth1 kpw1 ksc1 krc1 kno1 kme kbo1  x2 (x2 + (1 : Int32))))) else (lpX5_mount_14 n kth1 kpw1 ksc1 krc1 kno1 kme kbo1  x1 (x2 + (1 : Int32)))))
theorem lpX5_mount_14_e (n : Nat) (kth1 : Int32) (kpw1 : Int32) (ksc1 : Int32) (krc1 : Int32) (kno1 : Int32) (kme : Nat → Int32) (kbo1 : Nat → Int32) (x1 : Int32) (x2 : Int32) : lpX5_mount_14 (n + 1) kth1 kpw1 ksc1 krc1 kno1 kme kbo1 x1 x2 = (if (16 : Int32) ≤ x2 then (lpX5_mount_121 192 kth1 kpw1 x1 krc1 (kme (Int32.toNatClampNeg (((256 : Int32) * x1) + (1 : Int32)))) kme kbo1  x1 (2 : Int32)) else (if (kme (Int32.toNatClampNeg (((256 : Int32) * x2) + (193 : Int32)))) = (spX5_markOf kme ((256 : Int32) * x2) (193 : Int32)) then (if x1 < 0 then (lpX5_mount_14 n kth1 kpw1 ksc1 krc1 kno1 kme kbo1  x2 (x2 + (1 : Int32))) else (if (kme (Int32.toNatClampNeg ((256 : Int32) * x2))) ≤ (kme (Int32.toNatClampNeg ((256 : Int32) * x1))) then (lpX5_mount_14 n kth1 kpw1 ksc1 krc1 kno1 kme kbo1  x1 (x2 + (1 : Int32))) else (lpX5_mount_14 n kth1 kpw1 ksc1 krc1 kno1 kme kbo1  x2 (x2 + (1 : Int32))))) else (lpX5_mount_14 n kth1 kpw1 ksc1 krc1 kno1 kme kbo1  x1 (x2 + (1 : Int32))))) := rfl
def spX5_mount (kth : Int32) (kpw : Int32) (ksc : Int32) (krc : Int32) (kno : Int32) (kme : Nat → Int32) (kbo : Nat → Int32) : Int32 × Int32 × Int32 × Int32 × Int32 × Int32 × (Nat → Int32) := (lpX5_mount_14 17 (0 : Int32) (1 : Int32) ksc krc kno kme kbo  (-1 : Int32) (0 : Int32))
set_option maxHeartbeats 4000000 in
set_option maxRecDepth 100000 in
theorem c_X5_mount (l : Launch) (D : va_G) (kO km kw kb kr kd kt : Nat) (cA : ClassId) (kth : Int32) (kmn : Int32) (kpw : Int32) (klf : Int32) (kmk : Int32) (ksc : Int32) (krc : Int32) (kno : Int32) (kpp : Int32) (kpc : Int64) (kme : Nat → Int32) (kwe : Nat → Int32) (kbo : Nat → Int32) (kre : Nat → Int32) (kdr : Nat → Int32) (ktb : Nat → Int32)  (hf : ∃ k : Nat, kF kme 16 = nI k ∧ k < 16) (hrec : ∀ kf r : Nat, kF kme 16 = nI kf → kf < 16 → r < 12 → kme (256 * kf + 194 + 5 * r + 4) = spX5_markOf kme (nI (256 * kf + 194 + 5 * r)) 4 → kme (256 * kf + 194 + 5 * r + 1) = 1 → ¬ kme (256 * kf + 194 + 5 * r + 3) < 0) : kWi l yX5_mount cX5_mount 4 (some .int) { frames := 4, cells := 0, slots := 0, locals := 94 } D [(cA, .int)] [.ref kO] (wK kO km kw kb kr kd kt cA kth kmn kpw klf kmk ksc krc kno kpp kpc kme kwe kbo kre kdr ktb) (spX5_mount kth kpw ksc krc kno kme kbo).1 (wK kO km kw kb kr kd kt cA (spX5_mount kth kpw ksc krc kno kme kbo).2.1 kmn (spX5_mount kth kpw ksc krc kno kme kbo).2.2.1 klf kmk (spX5_mount kth kpw ksc krc kno kme kbo).2.2.2.1 (spX5_mount kth kpw ksc krc kno kme kbo).2.2.2.2.1 (spX5_mount kth kpw ksc krc kno kme kbo).2.2.2.2.2.1 kpp kpc kme kwe (spX5_mount kth kpw ksc krc kno kme kbo).2.2.2.2.2.2 kre kdr ktb) := by
  intro sz
  refine Met.ofW (cc := cX5_mount) (maxL := 4) (ret := (some .int)) (by decide) rfl ?_
  intro p e s m args below meth c s₁ B hml hv
  obtain ⟨rfl, hsz, hP, hK, hD0⟩ := hv
  have hx := B.exec
  have hb := B.bytes
  have hr := B.returns
  have hts : ∀ w ∈ kG, w.before _ s = true := fun w h => atoms_spec (ws := kT yX5_mount cX5_mount 4 (some .int)) B.pre w (List.mem_cons_of_mem _ h)
  have hown : s.vm.findClass RX5 = some m.cls := findClass_of_methodNamed B.named
  have hlocks := B.notSynchronized
  subst hsz
  have hD := hD0.self (sz := s.heap.size)
  generalize hAe : va_A (wK kO km kw kb kr kd kt cA kth kmn kpw klf kmk ksc krc kno kpp kpc kme kwe kbo kre kdr ktb) s.heap.size = A at hD ⊢
  have hA : ∀ q : Nat, s.heap.size ≤ q → A q := fun q h => by rw [← hAe]; exact Or.inr h
  have hS : va_S A s.heap s.heap [] := va_S.rf
  have hl := lv_entry ([.ref kO]) (n := 4) (Nat.le_of_ble_eq_true rfl)
  rw [lg_entry_eq]
  generalize (lg_sl ([.ref kO]) ++ List.replicate (4 - (lg_sl ([.ref kO])).length) Slot.unset).toArray = ls at hl ⊢
  have hl : lv_has ls 4 [(0, .ref kO)] := hl
  have L159 : ∀ (n : Nat) (kth1 : Int32) (kpw1 : Int32) (ksc1 : Int32) (krc1 : Int32) (kno1 : Int32) (kbo1 : Nat → Int32) (x1 : Int32) (x2 : Int32) (H : Heap) (locs : List Loc) (ls : Array Slot), ((∃ r : Nat, krc1 = nI r ∧ r ≤ 12 ∧ (12 < r + n ∨ (x2 = 0 ∧ 0 < n))) ∧ x1 = kF kme 16) → spX5_mount kth kpw ksc krc kno kme kbo = lpX5_mount_159 n kth1 kpw1 ksc1 krc1 kno1 kme kbo1 x1 x2 → va_P D vwCl (wK kO km kw kb kr kd kt cA kth1 kmn kpw1 klf kmk ksc1 krc1 kno1 kpp kpc kme kwe kbo1 kre kdr ktb) H → va_D A (wK kO km kw kb kr kd kt cA kth1 kmn kpw1 klf kmk ksc1 krc1 kno1 kpp kpc kme kwe kbo1 kre kdr ktb) → va_S A s.heap H locs → lv_has ls 4 [(0, .ref kO), (1, .int x1), (2, .int x2)] → W p l e (headSpec (kT yX5_mount cX5_mount 4 (some .int)) ({ frames := 4, cells := 0, slots := 0, locals := 94 })).room s m ([.ref kO] : List Value).toArray below meth c H locs 0 0 (MQ below (va_Qi (fun r (_ : Unit) => r = (spX5_mount kth kpw ksc krc kno kme kbo).1) (kPost D A (wK kO km kw kb kr kd kt cA (spX5_mount kth kpw ksc krc kno kme kbo).2.1 kmn (spX5_mount kth kpw ksc krc kno kme kbo).2.2.1 klf kmk (spX5_mount kth kpw ksc krc kno kme kbo).2.2.2.1 (spX5_mount kth kpw ksc krc kno kme kbo).2.2.2.2.1 (spX5_mount kth kpw ksc krc kno kme kbo).2.2.2.2.2.1 kpp kpc kme kwe (spX5_mount kth kpw ksc krc kno kme kbo).2.2.2.2.2.2 kre kdr ktb) [(cA, .int)]) A) ([.ref kO] : List Value).toArray s 0 0 A) (F0 m 159 ls []) := by
    intro n
    induction n with
    | zero =>
      intro kth1 kpw1 ksc1 krc1 kno1 kbo1 x1 x2 H locs ls hI
      exact absurd hI (by rintro ⟨⟨r, -, h1, h2 | ⟨-, h2⟩⟩, -⟩ <;> omega)
    | succ n ih =>
      intro kth1 kpw1 ksc1 krc1 kno1 kbo1 x1 x2 H locs ls hI hE hP hD hS hl
      obtain ⟨⟨r, hr1, hr2, hr3⟩, hI2⟩ := hI
      obtain ⟨kf, hkf, hkf1⟩ := id hf
      have hx1 : x1 = nI kf := hI2.trans hkf
      refine lv_iload_n hx hb dX5_mount_159 rfl (lv_at hl 2 rfl) ?_
      refine lv_if_eq (tgt := 282) hx hb dX5_mount_160 (by decide) (fun c_160 => ?_) (fun c_160 => ?_)
      · refine lv_aload_n hx hb dX5_mount_282 rfl (lv_at hl 0 rfl) ?_
        refine va_get (D := D) (ci := 5) (v := .int kno1) (C := RX5) (T := TX5) (N := 16) hx hb hts k_inX5 hown hK hP 0 rfl rfl 13 (by decide) (hts _ kw_502) (fun _ h9 => h9) rfl dX5_mount_283 ?_
        have hE : spX5_mount kth kpw ksc krc kno kme kbo = (kno1, kth1, kpw1, ksc1, krc1, kno1, kbo1) := hE.trans (by rw [lpX5_mount_159_e]; rw [if_pos c_160])
        exact W.iret (v := kno1) hx hb hr (fun t ht hW => ⟨⟨kno1, (), rfl, by rw [hE], by rw [hE, ht]; exact hP, va_K.moved hW.alike hK, by rw [hE]; exact hD⟩, hS.F ht⟩) hS.2.2 dX5_mount_286
      · refine lv_aload_n hx hb dX5_mount_163 rfl (lv_at hl 0 rfl) ?_
        refine va_get (D := D) (ci := 5) (v := .int krc1) (C := RX5) (T := TX5) (N := 16) hx hb hts k_inX5 hown hK hP 0 rfl rfl 12 (by decide) (hts _ kw_501) (fun _ h9 => h9) rfl dX5_mount_164 ?_
        refine lv_bipush (v := 12) hx hb dX5_mount_167 (by decide) ?_
        refine lv_icmp_ge (tgt := 282) hx hb dX5_mount_169 (by decide) (fun c_169 => ?_) (fun c_169 => ?_)
        · refine lv_aload_n hx hb dX5_mount_282 rfl (lv_at hl 0 rfl) ?_
          refine va_get (D := D) (ci := 5) (v := .int kno1) (C := RX5) (T := TX5) (N := 16) hx hb hts k_inX5 hown hK hP 0 rfl rfl 13 (by decide) (hts _ kw_502) (fun _ h9 => h9) rfl dX5_mount_283 ?_
          have hE : spX5_mount kth kpw ksc krc kno kme kbo = (kno1, kth1, kpw1, ksc1, krc1, kno1, kbo1) := hE.trans (by rw [lpX5_mount_159_e]; rw [if_neg c_160, if_pos c_169])
          exact W.iret (v := kno1) hx hb hr (fun t ht hW => ⟨⟨kno1, (), rfl, by rw [hE], by rw [hE, ht]; exact hP, va_K.moved hW.alike hK, by rw [hE]; exact hD⟩, hS.F ht⟩) hS.2.2 dX5_mount_286
        · refine lv_sipush (v := 256) hx hb dX5_mount_172 (by decide) ?_
          refine lv_iload_n hx hb dX5_mount_175 rfl (lv_at hl 1 rfl) ?_
          refine lv_imul hx hb dX5_mount_176 ?_
          refine lv_sipush (v := 194) hx hb dX5_mount_177 (by decide) ?_
          refine lv_iadd hx hb dX5_mount_180 ?_
          refine lv_iconst (v := 5) hx hb dX5_mount_181 (by decide) ?_
          refine lv_aload_n hx hb dX5_mount_182 rfl (lv_at hl 0 rfl) ?_
          refine va_get (D := D) (ci := 5) (v := .int krc1) (C := RX5) (T := TX5) (N := 16) hx hb hts k_inX5 hown hK hP 0 rfl rfl 12 (by decide) (hts _ kw_501) (fun _ h9 => h9) rfl dX5_mount_183 ?_
          refine lv_imul hx hb dX5_mount_186 ?_
          refine lv_iadd hx hb dX5_mount_187 ?_
          refine lv_istore_n (lv' := [(3, .int ((((256 : Int32) * x1) + (194 : Int32)) + ((5 : Int32) * krc1))), (0, .ref kO), (1, .int x1), (2, .int x2)]) hx hb dX5_mount_188 rfl hl (by decide) rfl (fun ls hl => ?_)
          refine lv_aload_n hx hb dX5_mount_189 rfl (lv_at hl 1 rfl) ?_
          refine va_get (D := D) (ci := 5) (v := .ref km) (C := RX5) (T := TX5) (N := 16) hx hb hts k_inX5 hown hK hP 0 rfl rfl 2 (by decide) (hts _ kw_491) (fun _ h9 => h9) rfl dX5_mount_190 ?_
          refine lv_iload_n hx hb dX5_mount_193 rfl (lv_at hl 0 rfl) ?_
          refine va_iald hx hb hK hP 1 0 rfl rfl (by have h3 := k_lt (N := 12) rfl hr1 hr2 (by decide) c_169; simp only [hx1, hr1, show (256 : Int32) = nI 256 from rfl, show (194 : Int32) = nI 194 from rfl, show (5 : Int32) = nI 5 from rfl, pk_mul, nI_add]; exact vp_in_nI (by omega) (by decide)) dX5_mount_194 ?_
          refine lv_aload_n hx hb dX5_mount_195 rfl (lv_at hl 1 rfl) ?_
          refine va_get (D := D) (ci := 5) (v := .int kno1) (C := RX5) (T := TX5) (N := 16) hx hb hts k_inX5 hown hK hP 0 rfl rfl 13 (by decide) (hts _ kw_502) (fun _ h9 => h9) rfl dX5_mount_196 ?_
          refine lv_iconst (v := 1) hx hb dX5_mount_199 (by decide) ?_
          refine lv_iadd hx hb dX5_mount_200 ?_
          refine lv_icmp_ne (tgt := 225) hx hb dX5_mount_201 (by decide) (fun c_201 => ?_) (fun c_201 => ?_)
          · refine lv_iconst (v := 0) hx hb dX5_mount_225 (by decide) ?_
            refine lv_istore_n (lv' := [(2, .int (0 : Int32)), (3, .int ((((256 : Int32) * x1) + (194 : Int32)) + ((5 : Int32) * krc1))), (0, .ref kO), (1, .int x1)]) hx hb dX5_mount_226 rfl hl (by decide) rfl (fun ls hl => ?_)
            refine lv_iload_n hx hb dX5_mount_227 rfl (lv_at hl 0 rfl) ?_
            refine lv_if_eq (tgt := 279) hx hb dX5_mount_228 (by decide) (fun c_228 => ?_) (fun c_228 => ?_)
            · refine lv_goto (tgt := 159) hx hb dX5_mount_279 (by decide) ?_
              exact ih  kth1 kpw1 ksc1 krc1 kno1 kbo1 x1 (0 : Int32) _ _ ls ((by have h3 := k_lt (N := 12) rfl hr1 hr2 (by decide) c_169; have h4 : 12 < r + (n + 1) := hr3.resolve_right (fun h => c_160 h.1); exact ⟨⟨r, hr1, hr2, Or.inr ⟨rfl, by omega⟩⟩, hI2⟩)) (hE.trans (by rw [lpX5_mount_159_e]; rw [if_neg c_160, if_neg c_169, if_neg c_201])) hP hD hS (lv_sub hl [2, 3, 0] rfl)
            · exact absurd c_228 (by decide)
          · refine lv_aload_n hx hb dX5_mount_204 rfl (lv_at hl 1 rfl) ?_
            refine va_get (D := D) (ci := 5) (v := .ref km) (C := RX5) (T := TX5) (N := 16) hx hb hts k_inX5 hown hK hP 0 rfl rfl 2 (by decide) (hts _ kw_491) (fun _ h9 => h9) rfl dX5_mount_205 ?_
            refine lv_iload_n hx hb dX5_mount_208 rfl (lv_at hl 0 rfl) ?_
            refine lv_iconst (v := 4) hx hb dX5_mount_209 (by decide) ?_
            refine lv_iadd hx hb dX5_mount_210 ?_
            refine va_iald hx hb hK hP 1 0 rfl rfl (by have h3 := k_lt (N := 12) rfl hr1 hr2 (by decide) c_169; simp only [hx1, hr1, show (256 : Int32) = nI 256 from rfl, show (194 : Int32) = nI 194 from rfl, show (5 : Int32) = nI 5 from rfl, show (4 : Int32) = nI 4 from rfl, pk_mul, nI_add]; exact vp_in_nI (by omega) (by decide)) dX5_mount_211 ?_
            refine lv_aload_n hx hb dX5_mount_212 rfl (lv_at hl 1 rfl) ?_
            refine lv_iload_n hx hb dX5_mount_213 rfl (lv_at hl 0 rfl) ?_
            refine lv_iconst (v := 4) hx hb dX5_mount_214 (by decide) ?_
            refine k_rdVi (As := [.int ((((256 : Int32) * x1) + (194 : Int32)) + ((5 : Int32) * krc1)), .int (4 : Int32)]) (rest := [.int (kme (Int32.toNatClampNeg (((((256 : Int32) * x1) + (194 : Int32)) + ((5 : Int32) * krc1)) + (4 : Int32))))]) (ci := 5) (q0 := 0) ⟨hx, hb, hml, hown, hts⟩ k_self (c_X5_markOf l D kO km kw kb kr kd kt cA kth1 kmn kpw1 klf kmk ksc1 krc1 kno1 kpp kpc kme kwe kbo1 kre kdr ktb ((((256 : Int32) * x1) + (194 : Int32)) + ((5 : Int32) * krc1)) (4 : Int32) (by have h3 := k_lt (N := 12) rfl hr1 hr2 (by decide) c_169; exact ⟨256 * kf + 194 + 5 * r, 4, by simp only [hx1, hr1, show (256 : Int32) = nI 256 from rfl, show (194 : Int32) = nI 194 from rfl, show (5 : Int32) = nI 5 from rfl, pk_mul, nI_add], rfl, by omega⟩)) kv_X5_156 (hP.sub [0, 1, 2, 3, 4, 5, 6] rfl) (hK.sub [0] rfl) rfl rfl rfl rfl ⟨Nat.le_of_ble_eq_true rfl, Nat.le_of_ble_eq_true rfl⟩ rfl hl.1 rfl (Nat.le_of_ble_eq_true rfl) dX5_mount_215 ⟨Nat.zero_le _, Nat.zero_le _⟩ ?_
            refine lv_icmp_ne (tgt := 225) hx hb dX5_mount_218 (by decide) (fun c_218 => ?_) (fun c_218 => ?_)
            · refine lv_iconst (v := 0) hx hb dX5_mount_225 (by decide) ?_
              refine lv_istore_n (lv' := [(2, .int (0 : Int32)), (3, .int ((((256 : Int32) * x1) + (194 : Int32)) + ((5 : Int32) * krc1))), (0, .ref kO), (1, .int x1)]) hx hb dX5_mount_226 rfl hl (by decide) rfl (fun ls hl => ?_)
              refine lv_iload_n hx hb dX5_mount_227 rfl (lv_at hl 0 rfl) ?_
              refine lv_if_eq (tgt := 279) hx hb dX5_mount_228 (by decide) (fun c_228 => ?_) (fun c_228 => ?_)
              · refine lv_goto (tgt := 159) hx hb dX5_mount_279 (by decide) ?_
                exact ih  kth1 kpw1 ksc1 krc1 kno1 kbo1 x1 (0 : Int32) _ _ ls ((by have h3 := k_lt (N := 12) rfl hr1 hr2 (by decide) c_169; have h4 : 12 < r + (n + 1) := hr3.resolve_right (fun h => c_160 h.1); exact ⟨⟨r, hr1, hr2, Or.inr ⟨rfl, by omega⟩⟩, hI2⟩)) (hE.trans (by rw [lpX5_mount_159_e]; rw [if_neg c_160, if_neg c_169, if_pos c_201, if_neg c_218])) hP hD hS (lv_sub hl [2, 3, 0] rfl)
              · exact absurd c_228 (by decide)
            · refine lv_iconst (v := 1) hx hb dX5_mount_221 (by decide) ?_
              refine lv_goto (tgt := 226) hx hb dX5_mount_222 (by decide) ?_
              refine lv_istore_n (lv' := [(2, .int (1 : Int32)), (3, .int ((((256 : Int32) * x1) + (194 : Int32)) + ((5 : Int32) * krc1))), (0, .ref kO), (1, .int x1)]) hx hb dX5_mount_226 rfl hl (by decide) rfl (fun ls hl => ?_)
              refine lv_iload_n hx hb dX5_mount_227 rfl (lv_at hl 0 rfl) ?_
              refine lv_if_eq (tgt := 279) hx hb dX5_mount_228 (by decide) (fun c_228 => ?_) (fun c_228 => ?_)
              · exact absurd c_228 (by decide)
              · refine lv_aload_n hx hb dX5_mount_231 rfl (lv_at hl 2 rfl) ?_
                refine lv_aload_n hx hb dX5_mount_232 rfl (lv_at hl 2 rfl) ?_
                refine va_get (D := D) (ci := 5) (v := .ref km) (C := RX5) (T := TX5) (N := 16) hx hb hts k_inX5 hown hK hP 0 rfl rfl 2 (by decide) (hts _ kw_491) (fun _ h9 => h9) rfl dX5_mount_233 ?_
                refine lv_iload_n hx hb dX5_mount_236 rfl (lv_at hl 1 rfl) ?_
                refine lv_iconst (v := 1) hx hb dX5_mount_237 (by decide) ?_
                refine lv_iadd hx hb dX5_mount_238 ?_
                refine va_iald hx hb hK hP 1 0 rfl rfl (by have h3 := k_lt (N := 12) rfl hr1 hr2 (by decide) c_169; simp only [hx1, hr1, show (256 : Int32) = nI 256 from rfl, show (194 : Int32) = nI 194 from rfl, show (5 : Int32) = nI 5 from rfl, show (1 : Int32) = nI 1 from rfl, pk_mul, nI_add]; exact vp_in_nI (by omega) (by decide)) dX5_mount_239 ?_
                refine lv_aload_n hx hb dX5_mount_240 rfl (lv_at hl 2 rfl) ?_
                refine va_get (D := D) (ci := 5) (v := .ref km) (C := RX5) (T := TX5) (N := 16) hx hb hts k_inX5 hown hK hP 0 rfl rfl 2 (by decide) (hts _ kw_491) (fun _ h9 => h9) rfl dX5_mount_241 ?_
                refine lv_iload_n hx hb dX5_mount_244 rfl (lv_at hl 1 rfl) ?_
                refine lv_iconst (v := 2) hx hb dX5_mount_245 (by decide) ?_
                refine lv_iadd hx hb dX5_mount_246 ?_
                refine va_iald hx hb hK hP 1 0 rfl rfl (by have h3 := k_lt (N := 12) rfl hr1 hr2 (by decide) c_169; simp only [hx1, hr1, show (256 : Int32) = nI 256 from rfl, show (194 : Int32) = nI 194 from rfl, show (5 : Int32) = nI 5 from rfl, show (2 : Int32) = nI 2 from rfl, pk_mul, nI_add]; exact vp_in_nI (by omega) (by decide)) dX5_mount_247 ?_
                refine lv_aload_n hx hb dX5_mount_248 rfl (lv_at hl 2 rfl) ?_
                refine va_get (D := D) (ci := 5) (v := .ref km) (C := RX5) (T := TX5) (N := 16) hx hb hts k_inX5 hown hK hP 0 rfl rfl 2 (by decide) (hts _ kw_491) (fun _ h9 => h9) rfl dX5_mount_249 ?_
                refine lv_iload_n hx hb dX5_mount_252 rfl (lv_at hl 1 rfl) ?_
                refine lv_iconst (v := 3) hx hb dX5_mount_253 (by decide) ?_
                refine lv_iadd hx hb dX5_mount_254 ?_
                refine va_iald hx hb hK hP 1 0 rfl rfl (by have h3 := k_lt (N := 12) rfl hr1 hr2 (by decide) c_169; simp only [hx1, hr1, show (256 : Int32) = nI 256 from rfl, show (194 : Int32) = nI 194 from rfl, show (5 : Int32) = nI 5 from rfl, show (3 : Int32) = nI 3 from rfl, pk_mul, nI_add]; exact vp_in_nI (by omega) (by decide)) dX5_mount_255 ?_
                refine k_wrVv (As := [.int (kme (Int32.toNatClampNeg (((((256 : Int32) * x1) + (194 : Int32)) + ((5 : Int32) * krc1)) + (1 : Int32)))), .int (kme (Int32.toNatClampNeg (((((256 : Int32) * x1) + (194 : Int32)) + ((5 : Int32) * krc1)) + (2 : Int32)))), .int (kme (Int32.toNatClampNeg (((((256 : Int32) * x1) + (194 : Int32)) + ((5 : Int32) * krc1)) + (3 : Int32))))]) (rest := []) (ci := 5) (q0 := 0) (ws' := (wK kO km kw kb kr kd kt cA kth1 kmn kpw1 klf kmk ksc1 krc1 kno1 kpp kpc kme kwe (spX5_act kbo1 (kme (Int32.toNatClampNeg (((((256 : Int32) * x1) + (194 : Int32)) + ((5 : Int32) * krc1)) + (1 : Int32)))) (kme (Int32.toNatClampNeg (((((256 : Int32) * x1) + (194 : Int32)) + ((5 : Int32) * krc1)) + (2 : Int32)))) (kme (Int32.toNatClampNeg (((((256 : Int32) * x1) + (194 : Int32)) + ((5 : Int32) * krc1)) + (3 : Int32))))) kre kdr ktb)) (wr := []) ⟨hx, hb, hml, hown, hts⟩ k_self (c_X5_act l D kO km kw kb kr kd kt cA kth1 kmn kpw1 klf kmk ksc1 krc1 kno1 kpp kpc kme kwe kbo1 kre kdr ktb (kme (Int32.toNatClampNeg (((((256 : Int32) * x1) + (194 : Int32)) + ((5 : Int32) * krc1)) + (1 : Int32)))) (kme (Int32.toNatClampNeg (((((256 : Int32) * x1) + (194 : Int32)) + ((5 : Int32) * krc1)) + (2 : Int32)))) (kme (Int32.toNatClampNeg (((((256 : Int32) * x1) + (194 : Int32)) + ((5 : Int32) * krc1)) + (3 : Int32)))) (k_mrec hx1 hr1 hkf1 (k_lt (N := 12) rfl hr1 hr2 (by decide) c_169) (hrec kf r hkf hkf1 (k_lt (N := 12) rfl hr1 hr2 (by decide) c_169)) c_218)) kv_X5_85 hP hD hS hA hK rfl rfl [0, 1, 2, 3, 4, 5, 6] [] [0, 1, 2, 3, 4, 5, 6] rfl (by decide) rfl (by decide) (by decide) rfl (by decide) rfl rfl ⟨Nat.le_of_ble_eq_true rfl, Nat.le_of_ble_eq_true rfl⟩ rfl hl.1 rfl (Nat.le_of_ble_eq_true rfl) dX5_mount_256 ⟨Nat.zero_le _, Nat.zero_le _⟩ (fun H locs hP hD hS => ?_)
                refine lv_aload_n hx hb dX5_mount_259 rfl (lv_at hl 2 rfl) ?_
                refine lv_dup hx hb dX5_mount_260 rfl ?_
                refine va_get (D := D) (ci := 5) (v := .int krc1) (C := RX5) (T := TX5) (N := 16) hx hb hts k_inX5 hown hK hP 0 rfl rfl 12 (by decide) (hts _ kw_501) (fun _ h9 => h9) rfl dX5_mount_261 ?_
                refine lv_iconst (v := 1) hx hb dX5_mount_264 (by decide) ?_
                refine lv_iadd hx hb dX5_mount_265 ?_
                refine va_put (D := D) (ci := 5) (v := .int (krc1 + (1 : Int32))) (ty := .int) (C := RX5) (T := TX5) (N := 16) hx hb hts k_inX5 tyX5 tyX5_ok nmX5 hown hK hP hD hS 0 rfl rfl 12 (by decide) (hts _ kw_501) (fun _ h9 => h9) rfl (by decide +kernel) rfl rfl (Nat.le_of_ble_eq_true rfl) dX5_mount_266 (fun H locs hP hD hS => ?_)
                have hP : va_P D vwCl (wK kO km kw kb kr kd kt cA kth1 kmn kpw1 klf kmk ksc1 (krc1 + (1 : Int32)) kno1 kpp kpc kme kwe (spX5_act kbo1 (kme (Int32.toNatClampNeg (((((256 : Int32) * x1) + (194 : Int32)) + ((5 : Int32) * krc1)) + (1 : Int32)))) (kme (Int32.toNatClampNeg (((((256 : Int32) * x1) + (194 : Int32)) + ((5 : Int32) * krc1)) + (2 : Int32)))) (kme (Int32.toNatClampNeg (((((256 : Int32) * x1) + (194 : Int32)) + ((5 : Int32) * krc1)) + (3 : Int32))))) kre kdr ktb) H := hP
                have hD : va_D A (wK kO km kw kb kr kd kt cA kth1 kmn kpw1 klf kmk ksc1 (krc1 + (1 : Int32)) kno1 kpp kpc kme kwe (spX5_act kbo1 (kme (Int32.toNatClampNeg (((((256 : Int32) * x1) + (194 : Int32)) + ((5 : Int32) * krc1)) + (1 : Int32)))) (kme (Int32.toNatClampNeg (((((256 : Int32) * x1) + (194 : Int32)) + ((5 : Int32) * krc1)) + (2 : Int32)))) (kme (Int32.toNatClampNeg (((((256 : Int32) * x1) + (194 : Int32)) + ((5 : Int32) * krc1)) + (3 : Int32))))) kre kdr ktb) := hD
                refine lv_aload_n hx hb dX5_mount_269 rfl (lv_at hl 2 rfl) ?_
                refine lv_dup hx hb dX5_mount_270 rfl ?_
                refine va_get (D := D) (ci := 5) (v := .int kno1) (C := RX5) (T := TX5) (N := 16) hx hb hts k_inX5 hown hK hP 0 rfl rfl 13 (by decide) (hts _ kw_502) (fun _ h9 => h9) rfl dX5_mount_271 ?_
                refine lv_iconst (v := 1) hx hb dX5_mount_274 (by decide) ?_
                refine lv_iadd hx hb dX5_mount_275 ?_
                refine va_put (D := D) (ci := 5) (v := .int (kno1 + (1 : Int32))) (ty := .int) (C := RX5) (T := TX5) (N := 16) hx hb hts k_inX5 tyX5 tyX5_ok nmX5 hown hK hP hD hS 0 rfl rfl 13 (by decide) (hts _ kw_502) (fun _ h9 => h9) rfl (by decide +kernel) rfl rfl (Nat.le_of_ble_eq_true rfl) dX5_mount_276 (fun H locs hP hD hS => ?_)
                have hP : va_P D vwCl (wK kO km kw kb kr kd kt cA kth1 kmn kpw1 klf kmk ksc1 (krc1 + (1 : Int32)) (kno1 + (1 : Int32)) kpp kpc kme kwe (spX5_act kbo1 (kme (Int32.toNatClampNeg (((((256 : Int32) * x1) + (194 : Int32)) + ((5 : Int32) * krc1)) + (1 : Int32)))) (kme (Int32.toNatClampNeg (((((256 : Int32) * x1) + (194 : Int32)) + ((5 : Int32) * krc1)) + (2 : Int32)))) (kme (Int32.toNatClampNeg (((((256 : Int32) * x1) + (194 : Int32)) + ((5 : Int32) * krc1)) + (3 : Int32))))) kre kdr ktb) H := hP
                have hD : va_D A (wK kO km kw kb kr kd kt cA kth1 kmn kpw1 klf kmk ksc1 (krc1 + (1 : Int32)) (kno1 + (1 : Int32)) kpp kpc kme kwe (spX5_act kbo1 (kme (Int32.toNatClampNeg (((((256 : Int32) * x1) + (194 : Int32)) + ((5 : Int32) * krc1)) + (1 : Int32)))) (kme (Int32.toNatClampNeg (((((256 : Int32) * x1) + (194 : Int32)) + ((5 : Int32) * krc1)) + (2 : Int32)))) (kme (Int32.toNatClampNeg (((((256 : Int32) * x1) + (194 : Int32)) + ((5 : Int32) * krc1)) + (3 : Int32))))) kre kdr ktb) := hD
                refine lv_goto (tgt := 159) hx hb dX5_mount_279 (by decide) ?_
                exact ih  kth1 kpw1 ksc1 (krc1 + (1 : Int32)) (kno1 + (1 : Int32)) (spX5_act kbo1 (kme (Int32.toNatClampNeg (((((256 : Int32) * x1) + (194 : Int32)) + ((5 : Int32) * krc1)) + (1 : Int32)))) (kme (Int32.toNatClampNeg (((((256 : Int32) * x1) + (194 : Int32)) + ((5 : Int32) * krc1)) + (2 : Int32)))) (kme (Int32.toNatClampNeg (((((256 : Int32) * x1) + (194 : Int32)) + ((5 : Int32) * krc1)) + (3 : Int32))))) x1 (1 : Int32) _ _ ls ((by have h3 := k_lt (N := 12) rfl hr1 hr2 (by decide) c_169; have h4 : 12 < r + (n + 1) := hr3.resolve_right (fun h => c_160 h.1); exact ⟨⟨r + 1, by rw [hr1]; exact nI_1 r, by omega, Or.inl (by omega)⟩, hI2⟩)) (hE.trans (by rw [lpX5_mount_159_e]; rw [if_neg c_160, if_neg c_169, if_pos c_201, if_pos c_218])) hP hD hS (lv_sub hl [2, 3, 0] rfl)
  have L121 : ∀ (n : Nat) (kth1 : Int32) (kpw1 : Int32) (ksc1 : Int32) (krc1 : Int32) (kno1 : Int32) (kbo1 : Nat → Int32) (x1 : Int32) (x2 : Int32) (H : Heap) (locs : List Loc) (ls : Array Slot), ((∃ k : Nat, x2 = nI k ∧ k ≤ 193 ∧ 193 < k + n) ∧ (x1 = kF kme 16)) → spX5_mount kth kpw ksc krc kno kme kbo = lpX5_mount_121 n kth1 kpw1 ksc1 krc1 kno1 kme kbo1 x1 x2 → va_P D vwCl (wK kO km kw kb kr kd kt cA kth1 kmn kpw1 klf kmk ksc1 krc1 kno1 kpp kpc kme kwe kbo1 kre kdr ktb) H → va_D A (wK kO km kw kb kr kd kt cA kth1 kmn kpw1 klf kmk ksc1 krc1 kno1 kpp kpc kme kwe kbo1 kre kdr ktb) → va_S A s.heap H locs → lv_has ls 4 [(0, .ref kO), (1, .int x1), (2, .int x2)] → W p l e (headSpec (kT yX5_mount cX5_mount 4 (some .int)) ({ frames := 4, cells := 0, slots := 0, locals := 94 })).room s m ([.ref kO] : List Value).toArray below meth c H locs 0 0 (MQ below (va_Qi (fun r (_ : Unit) => r = (spX5_mount kth kpw ksc krc kno kme kbo).1) (kPost D A (wK kO km kw kb kr kd kt cA (spX5_mount kth kpw ksc krc kno kme kbo).2.1 kmn (spX5_mount kth kpw ksc krc kno kme kbo).2.2.1 klf kmk (spX5_mount kth kpw ksc krc kno kme kbo).2.2.2.1 (spX5_mount kth kpw ksc krc kno kme kbo).2.2.2.2.1 (spX5_mount kth kpw ksc krc kno kme kbo).2.2.2.2.2.1 kpp kpc kme kwe (spX5_mount kth kpw ksc krc kno kme kbo).2.2.2.2.2.2 kre kdr ktb) [(cA, .int)]) A) ([.ref kO] : List Value).toArray s 0 0 A) (F0 m 121 ls []) := by
    intro n
    induction n with
    | zero =>
      intro kth1 kpw1 ksc1 krc1 kno1 kbo1 x1 x2 H locs ls hI
      exact absurd hI (by rintro ⟨⟨k, -, h1, h2⟩, -⟩; omega)
    | succ n ih =>
      intro kth1 kpw1 ksc1 krc1 kno1 kbo1 x1 x2 H locs ls hI hE hP hD hS hl
      obtain ⟨⟨k, hk, hk1, hk2⟩, hI2⟩ := hI
      obtain ⟨kf, hkf, hkf1⟩ := id hf
      have hx1 : x1 = nI kf := hI2.trans hkf
      refine lv_iload_n hx hb dX5_mount_121 rfl (lv_at hl 2 rfl) ?_
      refine lv_sipush (v := 193) hx hb dX5_mount_122 (by decide) ?_
      refine lv_icmp_ge (tgt := 152) hx hb dX5_mount_125 (by decide) (fun c_125 => ?_) (fun c_125 => ?_)
      · refine lv_aload_n hx hb dX5_mount_152 rfl (lv_at hl 0 rfl) ?_
        refine lv_iconst (v := 0) hx hb dX5_mount_153 (by decide) ?_
        refine va_put (D := D) (ci := 5) (v := .int (0 : Int32)) (ty := .int) (C := RX5) (T := TX5) (N := 16) hx hb hts k_inX5 tyX5 tyX5_ok nmX5 hown hK hP hD hS 0 rfl rfl 12 (by decide) (hts _ kw_501) (fun _ h9 => h9) rfl (by decide +kernel) rfl rfl (Nat.le_of_ble_eq_true rfl) dX5_mount_154 (fun H locs hP hD hS => ?_)
        have hP : va_P D vwCl (wK kO km kw kb kr kd kt cA kth1 kmn kpw1 klf kmk ksc1 (0 : Int32) kno1 kpp kpc kme kwe kbo1 kre kdr ktb) H := hP
        have hD : va_D A (wK kO km kw kb kr kd kt cA kth1 kmn kpw1 klf kmk ksc1 (0 : Int32) kno1 kpp kpc kme kwe kbo1 kre kdr ktb) := hD
        refine lv_iconst (v := 1) hx hb dX5_mount_157 (by decide) ?_
        refine lv_istore_n (lv' := [(2, .int (1 : Int32)), (0, .ref kO), (1, .int x1)]) hx hb dX5_mount_158 rfl hl (by decide) rfl (fun ls hl => ?_)
        exact L159 14 kth1 kpw1 ksc1 (0 : Int32) kno1 kbo1 x1 (1 : Int32) _ _ ls (⟨⟨0, rfl, by decide, Or.inl (by decide)⟩, hI2⟩) (hE.trans (by rw [lpX5_mount_121_e]; rw [if_pos c_125])) hP hD hS (lv_sub hl [1, 2, 0] rfl)
      · refine lv_aload_n hx hb dX5_mount_128 rfl (lv_at hl 0 rfl) ?_
        refine va_get (D := D) (ci := 5) (v := .ref kb) (C := RX5) (T := TX5) (N := 16) hx hb hts k_inX5 hown hK hP 0 rfl rfl 4 (by decide) (hts _ kw_493) (fun _ h9 => h9) rfl dX5_mount_129 ?_
        refine lv_iload_n hx hb dX5_mount_132 rfl (lv_at hl 2 rfl) ?_
        refine lv_aload_n hx hb dX5_mount_133 rfl (lv_at hl 0 rfl) ?_
        refine va_get (D := D) (ci := 5) (v := .ref km) (C := RX5) (T := TX5) (N := 16) hx hb hts k_inX5 hown hK hP 0 rfl rfl 2 (by decide) (hts _ kw_491) (fun _ h9 => h9) rfl dX5_mount_134 ?_
        refine lv_sipush (v := 256) hx hb dX5_mount_137 (by decide) ?_
        refine lv_iload_n hx hb dX5_mount_140 rfl (lv_at hl 1 rfl) ?_
        refine lv_imul hx hb dX5_mount_141 ?_
        refine lv_iload_n hx hb dX5_mount_142 rfl (lv_at hl 2 rfl) ?_
        refine lv_iadd hx hb dX5_mount_143 ?_
        refine va_iald hx hb hK hP 1 0 rfl rfl (by have h3 := k_lt (N := 193) rfl hk hk1 (by decide) c_125; simp only [hx1, hk, show (256 : Int32) = nI 256 from rfl, pk_mul, nI_add]; exact vp_in_nI (by omega) (by decide)) dX5_mount_144 ?_
        refine va_iast hx hb hK hP hD hS 3 0 rfl rfl (by rw [hk]; exact vp_in_nI (k_lt (N := 193) rfl hk hk1 (by decide) c_125) (by decide)) dX5_mount_145 (fun H locs hP hD hS => ?_)
        have hP : va_P D vwCl (wK kO km kw kb kr kd kt cA kth1 kmn kpw1 klf kmk ksc1 krc1 kno1 kpp kpc kme kwe (upd kbo1 (Int32.toNatClampNeg x2) (kme (Int32.toNatClampNeg (((256 : Int32) * x1) + x2)))) kre kdr ktb) H := hP
        have hD : va_D A (wK kO km kw kb kr kd kt cA kth1 kmn kpw1 klf kmk ksc1 krc1 kno1 kpp kpc kme kwe (upd kbo1 (Int32.toNatClampNeg x2) (kme (Int32.toNatClampNeg (((256 : Int32) * x1) + x2)))) kre kdr ktb) := hD
        refine lv_iinc (v := (x2 + (1 : Int32))) (lv' := [(2, .int (x2 + (1 : Int32))), (0, .ref kO), (1, .int x1)]) hx hb dX5_mount_146 hl (k := 2) rfl rfl (by decide) rfl (fun ls hl => ?_)
        refine lv_goto (tgt := 121) hx hb dX5_mount_149 (by decide) ?_
        exact ih  kth1 kpw1 ksc1 krc1 kno1 (upd kbo1 (Int32.toNatClampNeg x2) (kme (Int32.toNatClampNeg (((256 : Int32) * x1) + x2)))) x1 (x2 + (1 : Int32)) _ _ ls (⟨k_step (N := 193) rfl (by decide) hk hk1 hk2 c_125, hI2⟩) (hE.trans (by rw [lpX5_mount_121_e]; rw [if_neg c_125])) hP hD hS (lv_sub hl [1, 2, 0] rfl)
  have L14 : ∀ (n : Nat) (kth1 : Int32) (kpw1 : Int32) (ksc1 : Int32) (krc1 : Int32) (kno1 : Int32) (kbo1 : Nat → Int32) (x1 : Int32) (x2 : Int32) (H : Heap) (locs : List Loc) (ls : Array Slot), (∃ k : Nat, x2 = nI k ∧ k ≤ 16 ∧ 16 < k + n ∧ x1 = kF kme k) → spX5_mount kth kpw ksc krc kno kme kbo = lpX5_mount_14 n kth1 kpw1 ksc1 krc1 kno1 kme kbo1 x1 x2 → va_P D vwCl (wK kO km kw kb kr kd kt cA kth1 kmn kpw1 klf kmk ksc1 krc1 kno1 kpp kpc kme kwe kbo1 kre kdr ktb) H → va_D A (wK kO km kw kb kr kd kt cA kth1 kmn kpw1 klf kmk ksc1 krc1 kno1 kpp kpc kme kwe kbo1 kre kdr ktb) → va_S A s.heap H locs → lv_has ls 4 [(0, .ref kO), (1, .int x1), (2, .int x2)] → W p l e (headSpec (kT yX5_mount cX5_mount 4 (some .int)) ({ frames := 4, cells := 0, slots := 0, locals := 94 })).room s m ([.ref kO] : List Value).toArray below meth c H locs 0 0 (MQ below (va_Qi (fun r (_ : Unit) => r = (spX5_mount kth kpw ksc krc kno kme kbo).1) (kPost D A (wK kO km kw kb kr kd kt cA (spX5_mount kth kpw ksc krc kno kme kbo).2.1 kmn (spX5_mount kth kpw ksc krc kno kme kbo).2.2.1 klf kmk (spX5_mount kth kpw ksc krc kno kme kbo).2.2.2.1 (spX5_mount kth kpw ksc krc kno kme kbo).2.2.2.2.1 (spX5_mount kth kpw ksc krc kno kme kbo).2.2.2.2.2.1 kpp kpc kme kwe (spX5_mount kth kpw ksc krc kno kme kbo).2.2.2.2.2.2 kre kdr ktb) [(cA, .int)]) A) ([.ref kO] : List Value).toArray s 0 0 A) (F0 m 14 ls []) := by
    intro n
    induction n with
    | zero =>
      intro kth1 kpw1 ksc1 krc1 kno1 kbo1 x1 x2 H locs ls hI
      exact absurd hI (by rintro ⟨k, -, h1, h2, -⟩; omega)
    | succ n ih =>
      intro kth1 kpw1 ksc1 krc1 kno1 kbo1 x1 x2 H locs ls hI hE hP hD hS hl
      obtain ⟨k, hk, hk1, hk2, hx1⟩ := hI
      refine lv_iload_n hx hb dX5_mount_14 rfl (lv_at hl 2 rfl) ?_
      refine lv_bipush (v := 16) hx hb dX5_mount_15 (by decide) ?_
      refine lv_icmp_ge (tgt := 98) hx hb dX5_mount_17 (by decide) (fun c_17 => ?_) (fun c_17 => ?_)
      · refine lv_aload_n hx hb dX5_mount_98 rfl (lv_at hl 0 rfl) ?_
        refine lv_iload_n hx hb dX5_mount_99 rfl (lv_at hl 1 rfl) ?_
        refine va_put (D := D) (ci := 5) (v := .int x1) (ty := .int) (C := RX5) (T := TX5) (N := 16) hx hb hts k_inX5 tyX5 tyX5_ok nmX5 hown hK hP hD hS 0 rfl rfl 11 (by decide) (hts _ kw_500) (fun _ h9 => h9) rfl (by decide +kernel) rfl rfl (Nat.le_of_ble_eq_true rfl) dX5_mount_100 (fun H locs hP hD hS => ?_)
        have hP : va_P D vwCl (wK kO km kw kb kr kd kt cA kth1 kmn kpw1 klf kmk x1 krc1 kno1 kpp kpc kme kwe kbo1 kre kdr ktb) H := hP
        have hD : va_D A (wK kO km kw kb kr kd kt cA kth1 kmn kpw1 klf kmk x1 krc1 kno1 kpp kpc kme kwe kbo1 kre kdr ktb) := hD
        refine lv_aload_n hx hb dX5_mount_103 rfl (lv_at hl 0 rfl) ?_
        refine lv_aload_n hx hb dX5_mount_104 rfl (lv_at hl 0 rfl) ?_
        refine va_get (D := D) (ci := 5) (v := .ref km) (C := RX5) (T := TX5) (N := 16) hx hb hts k_inX5 hown hK hP 0 rfl rfl 2 (by decide) (hts _ kw_491) (fun _ h9 => h9) rfl dX5_mount_105 ?_
        refine lv_sipush (v := 256) hx hb dX5_mount_108 (by decide) ?_
        refine lv_iload_n hx hb dX5_mount_111 rfl (lv_at hl 1 rfl) ?_
        refine lv_imul hx hb dX5_mount_112 ?_
        refine lv_iconst (v := 1) hx hb dX5_mount_113 (by decide) ?_
        refine lv_iadd hx hb dX5_mount_114 ?_
        refine va_iald hx hb hK hP 1 0 rfl rfl (by obtain ⟨kf, hkf, hkf1⟩ := hf; simp only [hx1, k_geq (N := 16) rfl hk hk1 (by decide) c_17, hkf, show (256 : Int32) = nI 256 from rfl, show (1 : Int32) = nI 1 from rfl, pk_mul, nI_add]; exact vp_in_nI (by omega) (by decide)) dX5_mount_115 ?_
        refine va_put (D := D) (ci := 5) (v := .int (kme (Int32.toNatClampNeg (((256 : Int32) * x1) + (1 : Int32))))) (ty := .int) (C := RX5) (T := TX5) (N := 16) hx hb hts k_inX5 tyX5 tyX5_ok nmX5 hown hK hP hD hS 0 rfl rfl 13 (by decide) (hts _ kw_502) (fun _ h9 => h9) rfl (by decide +kernel) rfl rfl (Nat.le_of_ble_eq_true rfl) dX5_mount_116 (fun H locs hP hD hS => ?_)
        have hP : va_P D vwCl (wK kO km kw kb kr kd kt cA kth1 kmn kpw1 klf kmk x1 krc1 (kme (Int32.toNatClampNeg (((256 : Int32) * x1) + (1 : Int32)))) kpp kpc kme kwe kbo1 kre kdr ktb) H := hP
        have hD : va_D A (wK kO km kw kb kr kd kt cA kth1 kmn kpw1 klf kmk x1 krc1 (kme (Int32.toNatClampNeg (((256 : Int32) * x1) + (1 : Int32)))) kpp kpc kme kwe kbo1 kre kdr ktb) := hD
        refine lv_iconst (v := 2) hx hb dX5_mount_119 (by decide) ?_
        refine lv_istore_n (lv' := [(2, .int (2 : Int32)), (0, .ref kO), (1, .int x1)]) hx hb dX5_mount_120 rfl hl (by decide) rfl (fun ls hl => ?_)
        exact L121 192 kth1 kpw1 x1 krc1 (kme (Int32.toNatClampNeg (((256 : Int32) * x1) + (1 : Int32)))) kbo1 x1 (2 : Int32) _ _ ls (⟨⟨2, rfl, by decide, by decide⟩, (by rw [hx1, k_geq (N := 16) rfl hk hk1 (by decide) c_17])⟩) (hE.trans (by rw [lpX5_mount_14_e]; rw [if_pos c_17])) hP hD hS (lv_sub hl [1, 2, 0] rfl)
      · refine lv_aload_n hx hb dX5_mount_20 rfl (lv_at hl 0 rfl) ?_
        refine va_get (D := D) (ci := 5) (v := .ref km) (C := RX5) (T := TX5) (N := 16) hx hb hts k_inX5 hown hK hP 0 rfl rfl 2 (by decide) (hts _ kw_491) (fun _ h9 => h9) rfl dX5_mount_21 ?_
        refine lv_sipush (v := 256) hx hb dX5_mount_24 (by decide) ?_
        refine lv_iload_n hx hb dX5_mount_27 rfl (lv_at hl 2 rfl) ?_
        refine lv_imul hx hb dX5_mount_28 ?_
        refine lv_sipush (v := 193) hx hb dX5_mount_29 (by decide) ?_
        refine lv_iadd hx hb dX5_mount_32 ?_
        refine va_iald hx hb hK hP 1 0 rfl rfl (by have h3 := k_lt (N := 16) rfl hk hk1 (by decide) c_17; simp only [hk, show (256 : Int32) = nI 256 from rfl, show (193 : Int32) = nI 193 from rfl, pk_mul, nI_add]; exact vp_in_nI (by omega) (by decide)) dX5_mount_33 ?_
        refine lv_aload_n hx hb dX5_mount_34 rfl (lv_at hl 0 rfl) ?_
        refine lv_sipush (v := 256) hx hb dX5_mount_35 (by decide) ?_
        refine lv_iload_n hx hb dX5_mount_38 rfl (lv_at hl 2 rfl) ?_
        refine lv_imul hx hb dX5_mount_39 ?_
        refine lv_sipush (v := 193) hx hb dX5_mount_40 (by decide) ?_
        refine k_rdVi (As := [.int ((256 : Int32) * x2), .int (193 : Int32)]) (rest := [.int (kme (Int32.toNatClampNeg (((256 : Int32) * x2) + (193 : Int32))))]) (ci := 5) (q0 := 0) ⟨hx, hb, hml, hown, hts⟩ k_self (c_X5_markOf l D kO km kw kb kr kd kt cA kth1 kmn kpw1 klf kmk ksc1 krc1 kno1 kpp kpc kme kwe kbo1 kre kdr ktb ((256 : Int32) * x2) (193 : Int32) (by have h3 := k_lt (N := 16) rfl hk hk1 (by decide) c_17; exact ⟨256 * k, 193, by simp only [hk, show (256 : Int32) = nI 256 from rfl, pk_mul], rfl, by omega⟩)) kv_X5_156 (hP.sub [0, 1, 2, 3, 4, 5, 6] rfl) (hK.sub [0] rfl) rfl rfl rfl rfl ⟨Nat.le_of_ble_eq_true rfl, Nat.le_of_ble_eq_true rfl⟩ rfl hl.1 rfl (Nat.le_of_ble_eq_true rfl) dX5_mount_43 ⟨Nat.zero_le _, Nat.zero_le _⟩ ?_
        refine lv_icmp_ne (tgt := 53) hx hb dX5_mount_46 (by decide) (fun c_46 => ?_) (fun c_46 => ?_)
        · refine lv_iconst (v := 0) hx hb dX5_mount_53 (by decide) ?_
          refine lv_istore_n (lv' := [(3, .int (0 : Int32)), (0, .ref kO), (1, .int x1), (2, .int x2)]) hx hb dX5_mount_54 rfl hl (by decide) rfl (fun ls hl => ?_)
          refine lv_iload_n hx hb dX5_mount_55 rfl (lv_at hl 0 rfl) ?_
          refine lv_if_eq (tgt := 90) hx hb dX5_mount_56 (by decide) (fun c_56 => ?_) (fun c_56 => ?_)
          · refine lv_iload_n hx hb dX5_mount_90 rfl (lv_at hl 2 rfl) ?_
            refine lv_istore_n (lv' := [(1, .int x1), (3, .int (0 : Int32)), (0, .ref kO), (2, .int x2)]) hx hb dX5_mount_91 rfl hl (by decide) rfl (fun ls hl => ?_)
            refine lv_iinc (v := (x2 + (1 : Int32))) (lv' := [(2, .int (x2 + (1 : Int32))), (1, .int x1), (3, .int (0 : Int32)), (0, .ref kO)]) hx hb dX5_mount_92 hl (k := 3) rfl rfl (by decide) rfl (fun ls hl => ?_)
            refine lv_goto (tgt := 14) hx hb dX5_mount_95 (by decide) ?_
            exact ih  kth1 kpw1 ksc1 krc1 kno1 kbo1 x1 (x2 + (1 : Int32)) _ _ ls ((by have h3 := k_lt (N := 16) rfl hk hk1 (by decide) c_17; exact ⟨k + 1, by rw [hk]; exact nI_1 k, by omega, by omega, by subst hk; subst hx1; rw [kF_e, if_neg c_46]⟩)) (hE.trans (by rw [lpX5_mount_14_e]; rw [if_neg c_17, if_neg c_46])) hP hD hS (lv_sub hl [3, 1, 0] rfl)
          · exact absurd c_56 (by decide)
        · refine lv_iconst (v := 1) hx hb dX5_mount_49 (by decide) ?_
          refine lv_goto (tgt := 54) hx hb dX5_mount_50 (by decide) ?_
          refine lv_istore_n (lv' := [(3, .int (1 : Int32)), (0, .ref kO), (1, .int x1), (2, .int x2)]) hx hb dX5_mount_54 rfl hl (by decide) rfl (fun ls hl => ?_)
          refine lv_iload_n hx hb dX5_mount_55 rfl (lv_at hl 0 rfl) ?_
          refine lv_if_eq (tgt := 90) hx hb dX5_mount_56 (by decide) (fun c_56 => ?_) (fun c_56 => ?_)
          · exact absurd c_56 (by decide)
          · refine lv_iload_n hx hb dX5_mount_59 rfl (lv_at hl 2 rfl) ?_
            refine lv_if_lt (tgt := 86) hx hb dX5_mount_60 (by decide) (fun c_60 => ?_) (fun c_60 => ?_)
            · refine lv_iload_n hx hb dX5_mount_86 rfl (lv_at hl 3 rfl) ?_
              refine lv_goto (tgt := 91) hx hb dX5_mount_87 (by decide) ?_
              refine lv_istore_n (lv' := [(1, .int x2), (3, .int (1 : Int32)), (0, .ref kO), (2, .int x2)]) hx hb dX5_mount_91 rfl hl (by decide) rfl (fun ls hl => ?_)
              refine lv_iinc (v := (x2 + (1 : Int32))) (lv' := [(2, .int (x2 + (1 : Int32))), (1, .int x2), (3, .int (1 : Int32)), (0, .ref kO)]) hx hb dX5_mount_92 hl (k := 3) rfl rfl (by decide) rfl (fun ls hl => ?_)
              refine lv_goto (tgt := 14) hx hb dX5_mount_95 (by decide) ?_
              exact ih  kth1 kpw1 ksc1 krc1 kno1 kbo1 x2 (x2 + (1 : Int32)) _ _ ls ((by have h3 := k_lt (N := 16) rfl hk hk1 (by decide) c_17; exact ⟨k + 1, by rw [hk]; exact nI_1 k, by omega, by omega, by subst hk; subst hx1; rw [kF_e, if_pos c_46, if_pos c_60]⟩)) (hE.trans (by rw [lpX5_mount_14_e]; rw [if_neg c_17, if_pos c_46, if_pos c_60])) hP hD hS (lv_sub hl [3, 1, 0] rfl)
            · refine lv_aload_n hx hb dX5_mount_63 rfl (lv_at hl 1 rfl) ?_
              refine va_get (D := D) (ci := 5) (v := .ref km) (C := RX5) (T := TX5) (N := 16) hx hb hts k_inX5 hown hK hP 0 rfl rfl 2 (by decide) (hts _ kw_491) (fun _ h9 => h9) rfl dX5_mount_64 ?_
              refine lv_sipush (v := 256) hx hb dX5_mount_67 (by decide) ?_
              refine lv_iload_n hx hb dX5_mount_70 rfl (lv_at hl 3 rfl) ?_
              refine lv_imul hx hb dX5_mount_71 ?_
              refine va_iald hx hb hK hP 1 0 rfl rfl (by have h3 := k_lt (N := 16) rfl hk hk1 (by decide) c_17; simp only [hk, show (256 : Int32) = nI 256 from rfl, pk_mul]; exact vp_in_nI (by omega) (by decide)) dX5_mount_72 ?_
              refine lv_aload_n hx hb dX5_mount_73 rfl (lv_at hl 1 rfl) ?_
              refine va_get (D := D) (ci := 5) (v := .ref km) (C := RX5) (T := TX5) (N := 16) hx hb hts k_inX5 hown hK hP 0 rfl rfl 2 (by decide) (hts _ kw_491) (fun _ h9 => h9) rfl dX5_mount_74 ?_
              refine lv_sipush (v := 256) hx hb dX5_mount_77 (by decide) ?_
              refine lv_iload_n hx hb dX5_mount_80 rfl (lv_at hl 2 rfl) ?_
              refine lv_imul hx hb dX5_mount_81 ?_
              refine va_iald hx hb hK hP 1 0 rfl rfl (by obtain ⟨j, hj, hj1⟩ := k_kFn (kme := kme) hk1 (by rw [← hx1]; exact c_60); simp only [hx1, hj, show (256 : Int32) = nI 256 from rfl, pk_mul]; exact vp_in_nI (by omega) (by decide)) dX5_mount_82 ?_
              refine lv_icmp_le (tgt := 90) hx hb dX5_mount_83 (by decide) (fun c_83 => ?_) (fun c_83 => ?_)
              · refine lv_iload_n hx hb dX5_mount_90 rfl (lv_at hl 2 rfl) ?_
                refine lv_istore_n (lv' := [(1, .int x1), (3, .int (1 : Int32)), (0, .ref kO), (2, .int x2)]) hx hb dX5_mount_91 rfl hl (by decide) rfl (fun ls hl => ?_)
                refine lv_iinc (v := (x2 + (1 : Int32))) (lv' := [(2, .int (x2 + (1 : Int32))), (1, .int x1), (3, .int (1 : Int32)), (0, .ref kO)]) hx hb dX5_mount_92 hl (k := 3) rfl rfl (by decide) rfl (fun ls hl => ?_)
                refine lv_goto (tgt := 14) hx hb dX5_mount_95 (by decide) ?_
                exact ih  kth1 kpw1 ksc1 krc1 kno1 kbo1 x1 (x2 + (1 : Int32)) _ _ ls ((by have h3 := k_lt (N := 16) rfl hk hk1 (by decide) c_17; exact ⟨k + 1, by rw [hk]; exact nI_1 k, by omega, by omega, by subst hk; subst hx1; rw [kF_e, if_pos c_46, if_neg c_60, if_pos c_83]⟩)) (hE.trans (by rw [lpX5_mount_14_e]; rw [if_neg c_17, if_pos c_46, if_neg c_60, if_pos c_83])) hP hD hS (lv_sub hl [3, 1, 0] rfl)
              · refine lv_iload_n hx hb dX5_mount_86 rfl (lv_at hl 3 rfl) ?_
                refine lv_goto (tgt := 91) hx hb dX5_mount_87 (by decide) ?_
                refine lv_istore_n (lv' := [(1, .int x2), (3, .int (1 : Int32)), (0, .ref kO), (2, .int x2)]) hx hb dX5_mount_91 rfl hl (by decide) rfl (fun ls hl => ?_)
                refine lv_iinc (v := (x2 + (1 : Int32))) (lv' := [(2, .int (x2 + (1 : Int32))), (1, .int x2), (3, .int (1 : Int32)), (0, .ref kO)]) hx hb dX5_mount_92 hl (k := 3) rfl rfl (by decide) rfl (fun ls hl => ?_)
                refine lv_goto (tgt := 14) hx hb dX5_mount_95 (by decide) ?_
                exact ih  kth1 kpw1 ksc1 krc1 kno1 kbo1 x2 (x2 + (1 : Int32)) _ _ ls ((by have h3 := k_lt (N := 16) rfl hk hk1 (by decide) c_17; exact ⟨k + 1, by rw [hk]; exact nI_1 k, by omega, by omega, by subst hk; subst hx1; rw [kF_e, if_pos c_46, if_neg c_60, if_neg c_83]⟩)) (hE.trans (by rw [lpX5_mount_14_e]; rw [if_neg c_17, if_pos c_46, if_neg c_60, if_neg c_83])) hP hD hS (lv_sub hl [3, 1, 0] rfl)
  refine lv_aload_n hx hb dX5_mount_0 rfl (lv_at hl 0 rfl) ?_
  refine lv_iconst (v := 0) hx hb dX5_mount_1 (by decide) ?_
  refine va_put (D := D) (ci := 5) (v := .int (0 : Int32)) (ty := .int) (C := RX5) (T := TX5) (N := 16) hx hb hts k_inX5 tyX5 tyX5_ok nmX5 hown hK hP hD hS 0 rfl rfl 0 (by decide) (hts _ kw_489) (fun _ h9 => h9) rfl (by decide +kernel) rfl rfl (Nat.le_of_ble_eq_true rfl) dX5_mount_2 (fun H locs hP hD hS => ?_)
  have hP : va_P D vwCl (wK kO km kw kb kr kd kt cA (0 : Int32) kmn kpw klf kmk ksc krc kno kpp kpc kme kwe kbo kre kdr ktb) H := hP
  have hD : va_D A (wK kO km kw kb kr kd kt cA (0 : Int32) kmn kpw klf kmk ksc krc kno kpp kpc kme kwe kbo kre kdr ktb) := hD
  refine lv_aload_n hx hb dX5_mount_5 rfl (lv_at hl 0 rfl) ?_
  refine lv_iconst (v := 1) hx hb dX5_mount_6 (by decide) ?_
  refine va_put (D := D) (ci := 5) (v := .int (1 : Int32)) (ty := .boolean) (C := RX5) (T := TX5) (N := 16) hx hb hts k_inX5 tyX5 tyX5_ok nmX5 hown hK hP hD hS 0 rfl rfl 8 (by decide) (hts _ kw_497) (fun _ h9 => h9) rfl (by decide +kernel) rfl rfl (Nat.le_of_ble_eq_true rfl) dX5_mount_7 (fun H locs hP hD hS => ?_)
  have hP : va_P D vwCl (wK kO km kw kb kr kd kt cA (0 : Int32) kmn (1 : Int32) klf kmk ksc krc kno kpp kpc kme kwe kbo kre kdr ktb) H := hP
  have hD : va_D A (wK kO km kw kb kr kd kt cA (0 : Int32) kmn (1 : Int32) klf kmk ksc krc kno kpp kpc kme kwe kbo kre kdr ktb) := hD
  refine lv_iconst (v := -1) hx hb dX5_mount_10 (by decide) ?_
  refine lv_istore_n (lv' := [(1, .int (-1 : Int32)), (0, .ref kO)]) hx hb dX5_mount_11 rfl hl (by decide) rfl (fun ls hl => ?_)
  refine lv_iconst (v := 0) hx hb dX5_mount_12 (by decide) ?_
  refine lv_istore_n (lv' := [(2, .int (0 : Int32)), (1, .int (-1 : Int32)), (0, .ref kO)]) hx hb dX5_mount_13 rfl hl (by decide) rfl (fun ls hl => ?_)
  exact L14 17 (0 : Int32) (1 : Int32) ksc krc kno kbo (-1 : Int32) (0 : Int32) _ _ ls (⟨0, rfl, by decide, by decide, rfl⟩) (by unfold spX5_mount; rfl) hP hD hS (lv_sub hl [2, 1, 0] rfl)
