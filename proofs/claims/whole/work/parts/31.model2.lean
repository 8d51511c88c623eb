theorem k_eraseL (n : Nat) : ∀ (kpw1 klf1 kmk : Int32) (kme1 kwe1 : Nat → Int32) (p1 x2 x3 : Int32), (lpX5_erase_25 n kpw1 klf1 kmk kme1 kwe1 p1 x2 x3).1 = kpw1 := by
  induction n with
  | zero => intros; rfl
  | succ n ih => intros; rw [lpX5_erase_25_e]; (repeat' split) <;> first | rfl | exact ih _ _ _ _ _ _ _ _
theorem k_erasep {kpw klf kmk p1 a b : Int32} {kme kwe c d : Nat → Int32} (h : spX5_erase kpw klf kmk kme kwe p1 = (a, b, c, d)) (hp : kpw = 0 ∨ kpw = 1) : a = 0 ∨ a = 1 := by
  unfold spX5_erase at h
  by_cases c0 : kpw = 0
  · rw [if_pos c0] at h; cases h; exact hp
  · rw [if_neg c0] at h
    rcases hq : spX5_isDone kpw klf with ⟨x, y, z⟩
    rw [hq] at h
    have := k_eraseL 257 y z kmk kme (upd kwe (Int32.toNatClampNeg p1) (kwe (Int32.toNatClampNeg p1) + 1)) p1 x 0
    dsimp only at h
    rw [h] at this
    dsimp only at this
    rw [this]; exact k_donep hq hp
theorem k_beginL (n : Nat) : ∀ (kpw1 klf1 kmk ksc1 krc1 kno : Int32) (kme1 kwe1 kbo : Nat → Int32) (p1 x2 x3 : Int32), (kpw1 = 0 ∨ kpw1 = 1) → ((lpX5_begin_57 n kpw1 klf1 kmk ksc1 krc1 kno kme1 kwe1 kbo p1 x2 x3).1 = 0 ∨ (lpX5_begin_57 n kpw1 klf1 kmk ksc1 krc1 kno kme1 kwe1 kbo p1 x2 x3).1 = 1) ∧ (lpX5_begin_57 n kpw1 klf1 kmk ksc1 krc1 kno kme1 kwe1 kbo p1 x2 x3).2.2.1 = ksc1 ∧ (lpX5_begin_57 n kpw1 klf1 kmk ksc1 krc1 kno kme1 kwe1 kbo p1 x2 x3).2.2.2.1 = krc1 := by
  induction n with
  | zero => intro _ _ _ _ _ _ _ _ _ _ _ _ hp; exact ⟨hp, rfl, rfl⟩
  | succ n ih =>
    intro kpw1 klf1 kmk ksc1 krc1 kno kme1 kwe1 kbo p1 x2 x3 hp
    rw [lpX5_begin_57_e]
    by_cases c : (193 : Int32) ≤ x3
    · rw [if_pos c]
      rcases hq : spX5_write kpw1 klf1 ksc1 kme1 (193 : Int32) (spX5_marked x2) with ⟨a, b, d⟩
      exact ⟨k_writep hq hp, rfl, rfl⟩
    · rw [if_neg c]
      rcases hq : spX5_write kpw1 klf1 ksc1 kme1 x3 (kbo (Int32.toNatClampNeg x3)) with ⟨a, b, d⟩
      exact ih _ _ _ _ _ _ _ _ _ _ _ _ (k_writep hq hp)
theorem k_beginp {kpw klf kmk ksc krc kno p1 a b c d : Int32} {kme kwe kbo e f : Nat → Int32} (h : spX5_begin kpw klf kmk ksc krc kno kme kwe kbo p1 = (a, b, c, d, e, f)) (hs : ∃ k : Nat, ksc = nI k ∧ k < 16) (hp : kpw = 0 ∨ kpw = 1) : (a = 0 ∨ a = 1) ∧ (∃ k : Nat, c = nI k ∧ k < 16) ∧ d = 0 := by
  have hn := k_next hs
  unfold spX5_begin at h
  rcases hq1 : spX5_erase kpw klf kmk kme kwe ((ksc + (1 : Int32)) - (ksc + (1 : Int32)) / (16 : Int32) * (16 : Int32)) with ⟨a1, b1, c1, d1⟩
  rw [hq1] at h; dsimp only at h
  rcases hq2 : spX5_write a1 b1 ((ksc + (1 : Int32)) - (ksc + (1 : Int32)) / (16 : Int32) * (16 : Int32)) c1 (0 : Int32) p1 with ⟨a2, b2, c2⟩
  rw [hq2] at h; dsimp only at h
  rcases hq3 : spX5_write a2 b2 ((ksc + (1 : Int32)) - (ksc + (1 : Int32)) / (16 : Int32) * (16 : Int32)) c2 (1 : Int32) kno with ⟨a3, b3, c3⟩
  rw [hq3] at h; dsimp only at h
  have key := k_beginL 192 a3 b3 kmk ((ksc + (1 : Int32)) - (ksc + (1 : Int32)) / (16 : Int32) * (16 : Int32)) 0 kno c3 d1 kbo p1 (((31 : Int32) * ((527 : Int32) + p1)) + kno) 2 (k_writep hq3 (k_writep hq2 (k_erasep hq1 hp)))
  rw [h] at key
  exact ⟨key.1, by rw [show c = _ from key.2.1]; exact hn, key.2.2⟩
def lpX5_put_138 : Nat → Int32 → Int32 → Int32 → Int32 → Int32 → Int32 → (Nat → Int32) → (Nat → Int32) → (Nat → Int32) → (Nat → Int32) → Int32 → Int32 → Int32 → Int32 → Int32 → Int32 → (Int32 × Int32 × Int32 × Int32 × Int32 × Int32 × (Nat → Int32) × (Nat → Int32) × (Nat → Int32) × (Nat → Int32))
  | 0, kpw1, klf1, _, ksc1, krc1, kno1, kme1, kwe1, kbo1, kre1, _, _, _, _, _, _ => (0, kpw1, klf1, ksc1, krc1, kno1, kme1, kwe1, kbo1, kre1)
  | n + 1, kpw1, klf1, kmk, ksc1, krc1, kno1, kme1, kwe1, kbo1, kre1, p1, p2, p3, x4, x5, x6 => (if (5 : Int32) ≤ x6 then (if kpw1 = 0 then (kpw1, kpw1, klf1, ksc1, krc1, kno1, kme1, kwe1, kbo1, kre1) else (kpw1, kpw1, klf1, ksc1, (krc1 + (1 : Int32)), (kno1 + (1 : Int32)), kme1, kwe1, (spX5_act kbo1 p1 p2 p3), kre1)) else (match spX5_write kpw1 klf1 ksc1 kme1 (x4 + x6) (kre1 (Int32.toNatClampNeg x6)) with | (kpw_157, klf_157, kme_157) => (lpX5_put_138 n kpw_157 klf_157 kmk ksc1 krc1 kno1 kme_157 kwe1 kbo1 kre1 p1 p2 p3 x4 x5 (x6 + (1 : Int32)))))
theorem lpX5_put_138_e (n : Nat) (kpw1 : Int32) (klf1 : Int32) (kmk : Int32) (ksc1 : Int32) (krc1 : Int32) (kno1 : Int32) (kme1 : Nat → Int32) (kwe1 : Nat → Int32) (kbo1 : Nat → Int32) (kre1 : Nat → Int32) (p1 : Int32) (p2 : Int32) (p3 : Int32) (x4 : Int32) (x5 : Int32) (x6 : Int32) : lpX5_put_138 (n + 1) kpw1 klf1 kmk ksc1 krc1 kno1 kme1 kwe1 kbo1 kre1 p1 p2 p3 x4 x5 x6 = (if (5 : Int32) ≤ x6 then (if kpw1 = 0 then (kpw1, kpw1, klf1, ksc1, krc1, kno1, kme1, kwe1, kbo1, kre1) else (kpw1, kpw1, klf1, ksc1, (krc1 + (1 : Int32)), (kno1 + (1 : Int32)), kme1, kwe1, (spX5_act kbo1 p1 p2 p3), kre1)) else (match spX5_write kpw1 klf1 ksc1 kme1 (x4 + x6) (kre1 (Int32.toNatClampNeg x6)) with | (kpw_157, klf_157, kme_157) => (lpX5_put_138 n kpw_157 klf_157 kmk ksc1 krc1 kno1 kme_157 kwe1 kbo1 kre1 p1 p2 p3 x4 x5 (x6 + (1 : Int32))))) := rfl
def lpX5_put_97 : Nat → Int32 → Int32 → Int32 → Int32 → Int32 → Int32 → (Nat → Int32) → (Nat → Int32) → (Nat → Int32) → (Nat → Int32) → Int32 → Int32 → Int32 → Int32 → Int32 → Int32 → (Int32 × Int32 × Int32 × Int32 × Int32 × Int32 × (Nat → Int32) × (Nat → Int32) × (Nat → Int32) × (Nat → Int32))
  | 0, kpw1, klf1, _, ksc1, krc1, kno1, kme1, kwe1, kbo1, kre1, _, _, _, _, _, _ => (0, kpw1, klf1, ksc1, krc1, kno1, kme1, kwe1, kbo1, kre1)
  | n + 1, kpw1, klf1, kmk, ksc1, krc1, kno1, kme1, kwe1, kbo1, kre1, p1, p2, p3, x4, x5, x6 => (if (4 : Int32) ≤ x6 then (lpX5_put_138 6 kpw1 klf1 kmk ksc1 krc1 kno1 kme1 kwe1 kbo1 (upd kre1 (Int32.toNatClampNeg (4 : Int32)) (spX5_marked x5)) p1 p2 p3 x4 x5 (0 : Int32)) else (lpX5_put_97 n kpw1 klf1 kmk ksc1 krc1 kno1 kme1 kwe1 kbo1 kre1 p1 p2 p3 x4 (((31 : Int32) * x5) + (kre1 (Int32.toNatClampNeg x6))) (x6 + (1 : Int32))))
theorem lpX5_put_97_e (n : Nat) (kpw1 : Int32) (klf1 : Int32) (kmk : Int32) (ksc1 : Int32) (krc1 : Int32) (kno1 : Int32) (kme1 : Nat → Int32) (kwe1 : Nat → Int32) (kbo1 : Nat → Int32) (kre1 : Nat → Int32) (p1 : Int32) (p2 : Int32) (p3 : Int32) (x4 : Int32) (x5 : Int32) (x6 : Int32) : lpX5_put_97 (n + 1) kpw1 klf1 kmk ksc1 krc1 kno1 kme1 kwe1 kbo1 kre1 p1 p2 p3 x4 x5 x6 = (if (4 : Int32) ≤ x6 then (lpX5_put_138 6 kpw1 klf1 kmk ksc1 krc1 kno1 kme1 kwe1 kbo1 (upd kre1 (Int32.toNatClampNeg (4 : Int32)) (spX5_marked x5)) p1 p2 p3 x4 x5 (0 : Int32)) else (lpX5_put_97 n kpw1 klf1 kmk ksc1 krc1 kno1 kme1 kwe1 kbo1 kre1 p1 p2 p3 x4 (((31 : Int32) * x5) + (kre1 (Int32.toNatClampNeg x6))) (x6 + (1 : Int32)))) := rfl
def spX5_put (kpw : Int32) (klf : Int32) (kmk : Int32) (ksc : Int32) (krc : Int32) (kno : Int32) (kme : Nat → Int32) (kwe : Nat → Int32) (kbo : Nat → Int32) (kre : Nat → Int32) (p1 : Int32) (p2 : Int32) (p3 : Int32) : Int32 × Int32 × Int32 × Int32 × Int32 × Int32 × (Nat → Int32) × (Nat → Int32) × (Nat → Int32) × (Nat → Int32) := (if krc = (12 : Int32) then (match spX5_begin kpw klf kmk ksc krc kno kme kwe kbo ((kme (Int32.toNatClampNeg ((256 : Int32) * ksc))) + (1 : Int32)) with | (kpw_42, klf_42, ksc_42, krc_42, kme_42, kwe_42) => (lpX5_put_97 5 kpw_42 klf_42 kmk ksc_42 krc_42 kno kme_42 kwe_42 kbo (upd (upd (upd (upd kre (Int32.toNatClampNeg (0 : Int32)) (kno + (1 : Int32))) (Int32.toNatClampNeg (1 : Int32)) p1) (Int32.toNatClampNeg (2 : Int32)) p2) (Int32.toNatClampNeg (3 : Int32)) p3) p1 p2 p3 ((194 : Int32) + ((5 : Int32) * krc_42)) (17 : Int32) (0 : Int32))) else (if (spX5_isFree ksc kme ((194 : Int32) + ((5 : Int32) * krc))) = 0 then (match spX5_begin kpw klf kmk ksc krc kno kme kwe kbo ((kme (Int32.toNatClampNeg ((256 : Int32) * ksc))) + (1 : Int32)) with | (kpw_42, klf_42, ksc_42, krc_42, kme_42, kwe_42) => (lpX5_put_97 5 kpw_42 klf_42 kmk ksc_42 krc_42 kno kme_42 kwe_42 kbo (upd (upd (upd (upd kre (Int32.toNatClampNeg (0 : Int32)) (kno + (1 : Int32))) (Int32.toNatClampNeg (1 : Int32)) p1) (Int32.toNatClampNeg (2 : Int32)) p2) (Int32.toNatClampNeg (3 : Int32)) p3) p1 p2 p3 ((194 : Int32) + ((5 : Int32) * krc_42)) (17 : Int32) (0 : Int32))) else (lpX5_put_97 5 kpw klf kmk ksc krc kno kme kwe kbo (upd (upd (upd (upd kre (Int32.toNatClampNeg (0 : Int32)) (kno + (1 : Int32))) (Int32.toNatClampNeg (1 : Int32)) p1) (Int32.toNatClampNeg (2 : Int32)) p2) (Int32.toNatClampNeg (3 : Int32)) p3) p1 p2 p3 ((194 : Int32) + ((5 : Int32) * krc)) (17 : Int32) (0 : Int32))))
set_option maxHeartbeats 4000000 in
set_option maxRecDepth 100000 in
theorem c_X5_put (l : Launch) (D : va_G) (kO km kw kb kr kd kt : Nat) (cA : ClassId) (kth : Int32) (kmn : Int32) (kpw : Int32) (klf : Int32) (kmk : Int32) (ksc : Int32) (krc : Int32) (kno : Int32) (kpp : Int32) (kpc : Int64) (kme : Nat → Int32) (kwe : Nat → Int32) (kbo : Nat → Int32) (kre : Nat → Int32) (kdr : Nat → Int32) (ktb : Nat → Int32) (p1 : Int32) (p2 : Int32) (p3 : Int32) (hs : ∃ k : Nat, ksc = nI k ∧ k < 16) (hrr : ∃ r : Nat, krc = nI r ∧ r ≤ 12) (hp : kpw = 0 ∨ kpw = 1) (hb1 : p1 = 1 → ¬ p3 < 0) : kWi l yX5_put cX5_put 7 (some .boolean) { frames := 4, cells := 0, slots := 0, locals := 94 } D [(cA, .int)] [.ref kO, .int p1, .int p2, .int p3] (wK kO km kw kb kr kd kt cA kth kmn kpw klf kmk ksc krc kno kpp kpc kme kwe kbo kre kdr ktb) (spX5_put kpw klf kmk ksc krc kno kme kwe kbo kre p1 p2 p3).1 (wK kO km kw kb kr kd kt cA kth kmn (spX5_put kpw klf kmk ksc krc kno kme kwe kbo kre p1 p2 p3).2.1 (spX5_put kpw klf kmk ksc krc kno kme kwe kbo kre p1 p2 p3).2.2.1 kmk (spX5_put kpw klf kmk ksc krc kno kme kwe kbo kre p1 p2 p3).2.2.2.1 (spX5_put kpw klf kmk ksc krc kno kme kwe kbo kre p1 p2 p3).2.2.2.2.1 (spX5_put kpw klf kmk ksc krc kno kme kwe kbo kre p1 p2 p3).2.2.2.2.2.1 kpp kpc (spX5_put kpw klf kmk ksc krc kno kme kwe kbo kre p1 p2 p3).2.2.2.2.2.2.1 (spX5_put kpw klf kmk ksc krc kno kme kwe kbo kre p1 p2 p3).2.2.2.2.2.2.2.1 (spX5_put kpw klf kmk ksc krc kno kme kwe kbo kre p1 p2 p3).2.2.2.2.2.2.2.2.1 (spX5_put kpw klf kmk ksc krc kno kme kwe kbo kre p1 p2 p3).2.2.2.2.2.2.2.2.2 kdr ktb) := by
  intro sz
  refine Met.ofW (cc := cX5_put) (maxL := 7) (ret := (some .boolean)) (by decide) rfl ?_
  intro p e s m args below meth c s₁ B hml hv
  obtain ⟨rfl, hsz, hP, hK, hD0⟩ := hv
  have hx := B.exec
  have hb := B.bytes
  have hr := B.returns
  have hts : ∀ w ∈ kG, w.before _ s = true := fun w h => atoms_spec (ws := kT yX5_put cX5_put 7 (some .boolean)) B.pre w (List.mem_cons_of_mem _ h)
  have hown : s.vm.findClass RX5 = some m.cls := findClass_of_methodNamed B.named
  have hlocks := B.notSynchronized
  subst hsz
  have hD := hD0.self (sz := s.heap.size)
  generalize hAe : va_A (wK kO km kw kb kr kd kt cA kth kmn kpw klf kmk ksc krc kno kpp kpc kme kwe kbo kre kdr ktb) s.heap.size = A at hD ⊢
  have hA : ∀ q : Nat, s.heap.size ≤ q → A q := fun q h => by rw [← hAe]; exact Or.inr h
  have hS : va_S A s.heap s.heap [] := va_S.rf
  have hl := lv_entry ([.ref kO, .int p1, .int p2, .int p3]) (n := 7) (Nat.le_of_ble_eq_true rfl)
  rw [lg_entry_eq]
  generalize (lg_sl ([.ref kO, .int p1, .int p2, .int p3]) ++ List.replicate (7 - (lg_sl ([.ref kO, .int p1, .int p2, .int p3])).length) Slot.unset).toArray = ls at hl ⊢
  have hl : lv_has ls 7 [(0, .ref kO), (1, .int p1), (2, .int p2), (3, .int p3)] := hl
  obtain ⟨kq, hkq, hkq1⟩ := id hs
  obtain ⟨rq, hrq, hrq1⟩ := id hrr
  have L138 : ∀ (n : Nat) (kpw1 : Int32) (klf1 : Int32) (ksc1 : Int32) (krc1 : Int32) (kno1 : Int32) (kme1 : Nat → Int32) (kwe1 : Nat → Int32) (kbo1 : Nat → Int32) (kre1 : Nat → Int32) (x4 : Int32) (x5 : Int32) (x6 : Int32) (H : Heap) (locs : List Loc) (ls : Array Slot), ((∃ k : Nat, x6 = nI k ∧ k ≤ 5 ∧ 5 < k + n) ∧ ((∃ k : Nat, ksc1 = nI k ∧ k < 16) ∧ (∃ j : Nat, x4 = nI j ∧ j + 5 ≤ 256) ∧ (kpw1 = 0 ∨ kpw1 = 1))) → spX5_put kpw klf kmk ksc krc kno kme kwe kbo kre p1 p2 p3 = lpX5_put_138 n kpw1 klf1 kmk ksc1 krc1 kno1 kme1 kwe1 kbo1 kre1 p1 p2 p3 x4 x5 x6 → va_P D vwCl (wK kO km kw kb kr kd kt cA kth kmn kpw1 klf1 kmk ksc1 krc1 kno1 kpp kpc kme1 kwe1 kbo1 kre1 kdr ktb) H → va_D A (wK kO km kw kb kr kd kt cA kth kmn kpw1 klf1 kmk ksc1 krc1 kno1 kpp kpc kme1 kwe1 kbo1 kre1 kdr ktb) → va_S A s.heap H locs → lv_has ls 7 [(0, .ref kO), (1, .int p1), (2, .int p2), (3, .int p3), (4, .int x4), (5, .int x5), (6, .int x6)] → W p l e (headSpec (kT yX5_put cX5_put 7 (some .boolean)) ({ frames := 4, cells := 0, slots := 0, locals := 94 })).room s m ([.ref kO, .int p1, .int p2, .int p3] : List Value).toArray below meth c H locs 0 0 (MQ below (va_Qi (fun r (_ : Unit) => r = (spX5_put kpw klf kmk ksc krc kno kme kwe kbo kre p1 p2 p3).1) (kPost D A (wK kO km kw kb kr kd kt cA kth kmn (spX5_put kpw klf kmk ksc krc kno kme kwe kbo kre p1 p2 p3).2.1 (spX5_put kpw klf kmk ksc krc kno kme kwe kbo kre p1 p2 p3).2.2.1 kmk (spX5_put kpw klf kmk ksc krc kno kme kwe kbo kre p1 p2 p3).2.2.2.1 (spX5_put kpw klf kmk ksc krc kno kme kwe kbo kre p1 p2 p3).2.2.2.2.1 (spX5_put kpw klf kmk ksc krc kno kme kwe kbo kre p1 p2 p3).2.2.2.2.2.1 kpp kpc (spX5_put kpw klf kmk ksc krc kno kme kwe kbo kre p1 p2 p3).2.2.2.2.2.2.1 (spX5_put kpw klf kmk ksc krc kno kme kwe kbo kre p1 p2 p3).2.2.2.2.2.2.2.1 (spX5_put kpw klf kmk ksc krc kno kme kwe kbo kre p1 p2 p3).2.2.2.2.2.2.2.2.1 (spX5_put kpw klf kmk ksc krc kno kme kwe kbo kre p1 p2 p3).2.2.2.2.2.2.2.2.2 kdr ktb) [(cA, .int)]) A) ([.ref kO, .int p1, .int p2, .int p3] : List Value).toArray s 0 0 A) (F0 m 138 ls []) := by
    intro n
    induction n with
    | zero =>
      intro kpw1 klf1 ksc1 krc1 kno1 kme1 kwe1 kbo1 kre1 x4 x5 x6 H locs ls hI
      exact absurd hI (by rintro ⟨⟨k, -, h1, h2⟩, -⟩; omega)
    | succ n ih =>
      intro kpw1 klf1 ksc1 krc1 kno1 kme1 kwe1 kbo1 kre1 x4 x5 x6 H locs ls hI hE hP hD hS hl
      obtain ⟨⟨k, hk, hk1, hk2⟩, hI2⟩ := hI
      obtain ⟨kq2, hkq2, hkq21⟩ := id hI2.1
      obtain ⟨jq2, hjq2, hjq21⟩ := id hI2.2.1
      refine lv_iload hx hb dX5_put_138 (lv_at hl 6 rfl) ?_
      refine lv_iconst (v := 5) hx hb dX5_put_140 (by decide) ?_
      refine lv_icmp_ge (tgt := 166) hx hb dX5_put_141 (by decide) (fun c_141 => ?_) (fun c_141 => ?_)
      · refine lv_aload_n hx hb dX5_put_166 rfl (lv_at hl 0 rfl) ?_
        refine va_get (D := D) (ci := 5) (v := .int kpw1) (C := RX5) (T := TX5) (N := 16) hx hb hts k_inX5 hown hK hP 0 rfl rfl 8 (by decide) (hts _ kw_497) (fun _ h9 => h9) rfl dX5_put_167 ?_
        refine lv_if_eq (tgt := 200) hx hb dX5_put_170 (by decide) (fun c_170 => ?_) (fun c_170 => ?_)
        · refine lv_aload_n hx hb dX5_put_200 rfl (lv_at hl 0 rfl) ?_
          refine va_get (D := D) (ci := 5) (v := .int kpw1) (C := RX5) (T := TX5) (N := 16) hx hb hts k_inX5 hown hK hP 0 rfl rfl 8 (by decide) (hts _ kw_497) (fun _ h9 => h9) rfl dX5_put_201 ?_
          have hE : spX5_put kpw klf kmk ksc krc kno kme kwe kbo kre p1 p2 p3 = (kpw1, kpw1, klf1, ksc1, krc1, kno1, kme1, kwe1, kbo1, kre1) := hE.trans (by rw [lpX5_put_138_e]; rw [if_pos c_141, if_pos c_170])
          exact W.zret (v := kpw1) hx hb hr (k_bool hI2.2.2) (fun t ht hW => ⟨⟨kpw1, (), rfl, by rw [hE], by rw [hE, ht]; exact hP, va_K.moved hW.alike hK, by rw [hE]; exact hD⟩, hS.F ht⟩) hS.2.2 dX5_put_204
        · refine lv_aload_n hx hb dX5_put_173 rfl (lv_at hl 0 rfl) ?_
          refine lv_iload_n hx hb dX5_put_174 rfl (lv_at hl 1 rfl) ?_
          refine lv_iload_n hx hb dX5_put_175 rfl (lv_at hl 2 rfl) ?_
          refine lv_iload_n hx hb dX5_put_176 rfl (lv_at hl 3 rfl) ?_
          refine k_wrVv (As := [.int p1, .int p2, .int p3]) (rest := []) (ci := 5) (q0 := 0) (ws' := (wK kO km kw kb kr kd kt cA kth kmn kpw1 klf1 kmk ksc1 krc1 kno1 kpp kpc kme1 kwe1 (spX5_act kbo1 p1 p2 p3) kre1 kdr ktb)) (wr := []) ⟨hx, hb, hml, hown, hts⟩ k_self (c_X5_act l D kO km kw kb kr kd kt cA kth kmn kpw1 klf1 kmk ksc1 krc1 kno1 kpp kpc kme1 kwe1 kbo1 kre1 kdr ktb p1 p2 p3 hb1) kv_X5_85 hP hD hS hA hK rfl rfl [0, 1, 2, 3, 4, 5, 6] [] [0, 1, 2, 3, 4, 5, 6] rfl (by decide) rfl (by decide) (by decide) rfl (by decide) rfl rfl ⟨Nat.le_of_ble_eq_true rfl, Nat.le_of_ble_eq_true rfl⟩ rfl hl.1 rfl (Nat.le_of_ble_eq_true rfl) dX5_put_177 ⟨Nat.zero_le _, Nat.zero_le _⟩ (fun H locs hP hD hS => ?_)
          refine lv_aload_n hx hb dX5_put_180 rfl (lv_at hl 0 rfl) ?_
          refine lv_dup hx hb dX5_put_181 rfl ?_
          refine va_get (D := D) (ci := 5) (v := .int krc1) (C := RX5) (T := TX5) (N := 16) hx hb hts k_inX5 hown hK hP 0 rfl rfl 12 (by decide) (hts _ kw_501) (fun _ h9 => h9) rfl dX5_put_182 ?_
          refine lv_iconst (v := 1) hx hb dX5_put_185 (by decide) ?_
          refine lv_iadd hx hb dX5_put_186 ?_
          refine va_put (D := D) (ci := 5) (v := .int (krc1 + (1 : Int32))) (ty := .int) (C := RX5) (T := TX5) (N := 16) hx hb hts k_inX5 tyX5 tyX5_ok nmX5 hown hK hP hD hS 0 rfl rfl 12 (by decide) (hts _ kw_501) (fun _ h9 => h9) rfl (by decide +kernel) rfl rfl (Nat.le_of_ble_eq_true rfl) dX5_put_187 (fun H locs hP hD hS => ?_)
          have hP : va_P D vwCl (wK kO km kw kb kr kd kt cA kth kmn kpw1 klf1 kmk ksc1 (krc1 + (1 : Int32)) kno1 kpp kpc kme1 kwe1 (spX5_act kbo1 p1 p2 p3) kre1 kdr ktb) H := hP
          have hD : va_D A (wK kO km kw kb kr kd kt cA kth kmn kpw1 klf1 kmk ksc1 (krc1 + (1 : Int32)) kno1 kpp kpc kme1 kwe1 (spX5_act kbo1 p1 p2 p3) kre1 kdr ktb) := hD
          refine lv_aload_n hx hb dX5_put_190 rfl (lv_at hl 0 rfl) ?_
          refine lv_dup hx hb dX5_put_191 rfl ?_
          refine va_get (D := D) (ci := 5) (v := .int kno1) (C := RX5) (T := TX5) (N := 16) hx hb hts k_inX5 hown hK hP 0 rfl rfl 13 (by decide) (hts _ kw_502) (fun _ h9 => h9) rfl dX5_put_192 ?_
          refine lv_iconst (v := 1) hx hb dX5_put_195 (by decide) ?_
          refine lv_iadd hx hb dX5_put_196 ?_
          refine va_put (D := D) (ci := 5) (v := .int (kno1 + (1 : Int32))) (ty := .int) (C := RX5) (T := TX5) (N := 16) hx hb hts k_inX5 tyX5 tyX5_ok nmX5 hown hK hP hD hS 0 rfl rfl 13 (by decide) (hts _ kw_502) (fun _ h9 => h9) rfl (by decide +kernel) rfl rfl (Nat.le_of_ble_eq_true rfl) dX5_put_197 (fun H locs hP hD hS => ?_)
          have hP : va_P D vwCl (wK kO km kw kb kr kd kt cA kth kmn kpw1 klf1 kmk ksc1 (krc1 + (1 : Int32)) (kno1 + (1 : Int32)) kpp kpc kme1 kwe1 (spX5_act kbo1 p1 p2 p3) kre1 kdr ktb) H := hP
          have hD : va_D A (wK kO km kw kb kr kd kt cA kth kmn kpw1 klf1 kmk ksc1 (krc1 + (1 : Int32)) (kno1 + (1 : Int32)) kpp kpc kme1 kwe1 (spX5_act kbo1 p1 p2 p3) kre1 kdr ktb) := hD
          refine lv_aload_n hx hb dX5_put_200 rfl (lv_at hl 0 rfl) ?_
          refine va_get (D := D) (ci := 5) (v := .int kpw1) (C := RX5) (T := TX5) (N := 16) hx hb hts k_inX5 hown hK hP 0 rfl rfl 8 (by decide) (hts _ kw_497) (fun _ h9 => h9) rfl dX5_put_201 ?_
          have hE : spX5_put kpw klf kmk ksc krc kno kme kwe kbo kre p1 p2 p3 = (kpw1, kpw1, klf1, ksc1, (krc1 + (1 : Int32)), (kno1 + (1 : Int32)), kme1, kwe1, (spX5_act kbo1 p1 p2 p3), kre1) := hE.trans (by rw [lpX5_put_138_e]; rw [if_pos c_141, if_neg c_170])
          exact W.zret (v := kpw1) hx hb hr (k_bool hI2.2.2) (fun t ht hW => ⟨⟨kpw1, (), rfl, by rw [hE], by rw [hE, ht]; exact hP, va_K.moved hW.alike hK, by rw [hE]; exact hD⟩, hS.F ht⟩) hS.2.2 dX5_put_204
      · refine lv_aload_n hx hb dX5_put_144 rfl (lv_at hl 0 rfl) ?_
        refine lv_iload hx hb dX5_put_145 (lv_at hl 4 rfl) ?_
        refine lv_iload hx hb dX5_put_147 (lv_at hl 6 rfl) ?_
        refine lv_iadd hx hb dX5_put_149 ?_
        refine lv_aload_n hx hb dX5_put_150 rfl (lv_at hl 0 rfl) ?_
        refine va_get (D := D) (ci := 5) (v := .ref kr) (C := RX5) (T := TX5) (N := 16) hx hb hts k_inX5 hown hK hP 0 rfl rfl 5 (by decide) (hts _ kw_494) (fun _ h9 => h9) rfl dX5_put_151 ?_
        refine lv_iload hx hb dX5_put_154 (lv_at hl 6 rfl) ?_
        refine va_iald hx hb hK hP 4 0 rfl rfl (by rw [hk]; exact vp_in_nI (k_lt (N := 5) rfl hk hk1 (by decide) c_141) (by decide)) dX5_put_156 ?_
        rcases hq_157 : spX5_write kpw1 klf1 ksc1 kme1 (x4 + x6) (kre1 (Int32.toNatClampNeg x6)) with ⟨kpw_157, klf_157, kme_157⟩
        have hM_157 : kWv l yX5_write cX5_write 3 none { frames := 1, cells := 0, slots := 0, locals := 20 } D [(cA, .int)] [.ref kO, .int (x4 + x6), .int (kre1 (Int32.toNatClampNeg x6))] (wK kO km kw kb kr kd kt cA kth kmn kpw1 klf1 kmk ksc1 krc1 kno1 kpp kpc kme1 kwe1 kbo1 kre1 kdr ktb) (wK kO km kw kb kr kd kt cA kth kmn kpw_157 klf_157 kmk ksc1 krc1 kno1 kpp kpc kme_157 kwe1 kbo1 kre1 kdr ktb) := by
          have h := c_X5_write l D kO km kw kb kr kd kt cA kth kmn kpw1 klf1 kmk ksc1 krc1 kno1 kpp kpc kme1 kwe1 kbo1 kre1 kdr ktb (x4 + x6) (kre1 (Int32.toNatClampNeg x6)) (by have h3 := k_lt (N := 5) rfl hk hk1 (by decide) c_141; simp only [hkq2, hjq2, hk, show (256 : Int32) = nI 256 from rfl, pk_mul, nI_add]; exact vp_in_nI (by omega) (by decide))
          rw [hq_157] at h
          exact h
        refine k_wrVv (As := [.int (x4 + x6), .int (kre1 (Int32.toNatClampNeg x6))]) (rest := []) (ci := 5) (q0 := 0) (ws' := (wK kO km kw kb kr kd kt cA kth kmn kpw_157 klf_157 kmk ksc1 krc1 kno1 kpp kpc kme_157 kwe1 kbo1 kre1 kdr ktb)) (wr := []) ⟨hx, hb, hml, hown, hts⟩ k_self hM_157 kv_X5_77 hP hD hS hA hK rfl rfl [0, 1, 2, 3, 4, 5, 6] [] [0, 1, 2, 3, 4, 5, 6] rfl (by decide) rfl (by decide) (by decide) rfl (by decide) rfl rfl ⟨Nat.le_of_ble_eq_true rfl, Nat.le_of_ble_eq_true rfl⟩ rfl hl.1 rfl (Nat.le_of_ble_eq_true rfl) dX5_put_157 ⟨Nat.zero_le _, Nat.zero_le _⟩ (fun H locs hP hD hS => ?_)
        refine lv_iinc (v := (x6 + (1 : Int32))) (lv' := [(6, .int (x6 + (1 : Int32))), (0, .ref kO), (1, .int p1), (2, .int p2), (3, .int p3), (4, .int x4), (5, .int x5)]) hx hb dX5_put_160 hl (k := 6) rfl rfl (by decide) rfl (fun ls hl => ?_)
        refine lv_goto (tgt := 138) hx hb dX5_put_163 (by decide) ?_
        exact ih  kpw_157 klf_157 ksc1 krc1 kno1 kme_157 kwe1 kbo1 kre1 x4 x5 (x6 + (1 : Int32)) _ _ ls (⟨k_step (N := 5) rfl (by decide) hk hk1 hk2 c_141, ⟨hI2.1, hI2.2.1, k_writep hq_157 hI2.2.2⟩⟩) (hE.trans (by rw [lpX5_put_138_e]; rw [if_neg c_141]; rw [hq_157]; try dsimp only)) hP hD hS (lv_sub hl [1, 2, 3, 4, 5, 6, 0] rfl)
  have L97 : ∀ (n : Nat) (kpw1 : Int32) (klf1 : Int32) (ksc1 : Int32) (krc1 : Int32) (kno1 : Int32) (kme1 : Nat → Int32) (kwe1 : Nat → Int32) (kbo1 : Nat → Int32) (kre1 : Nat → Int32) (x4 : Int32) (x5 : Int32) (x6 : Int32) (H : Heap) (locs : List Loc) (ls : Array Slot), ((∃ k : Nat, x6 = nI k ∧ k ≤ 4 ∧ 4 < k + n) ∧ ((∃ k : Nat, ksc1 = nI k ∧ k < 16) ∧ (∃ j : Nat, x4 = nI j ∧ j + 5 ≤ 256) ∧ (kpw1 = 0 ∨ kpw1 = 1))) → spX5_put kpw klf kmk ksc krc kno kme kwe kbo kre p1 p2 p3 = lpX5_put_97 n kpw1 klf1 kmk ksc1 krc1 kno1 kme1 kwe1 kbo1 kre1 p1 p2 p3 x4 x5 x6 → va_P D vwCl (wK kO km kw kb kr kd kt cA kth kmn kpw1 klf1 kmk ksc1 krc1 kno1 kpp kpc kme1 kwe1 kbo1 kre1 kdr ktb) H → va_D A (wK kO km kw kb kr kd kt cA kth kmn kpw1 klf1 kmk ksc1 krc1 kno1 kpp kpc kme1 kwe1 kbo1 kre1 kdr ktb) → va_S A s.heap H locs → lv_has ls 7 [(0, .ref kO), (1, .int p1), (2, .int p2), (3, .int p3), (4, .int x4), (5, .int x5), (6, .int x6)] → W p l e (headSpec (kT yX5_put cX5_put 7 (some .boolean)) ({ frames := 4, cells := 0, slots := 0, locals := 94 })).room s m ([.ref kO, .int p1, .int p2, .int p3] : List Value).toArray below meth c H locs 0 0 (MQ below (va_Qi (fun r (_ : Unit) => r = (spX5_put kpw klf kmk ksc krc kno kme kwe kbo kre p1 p2 p3).1) (kPost D A (wK kO km kw kb kr kd kt cA kth kmn (spX5_put kpw klf kmk ksc krc kno kme kwe kbo kre p1 p2 p3).2.1 (spX5_put kpw klf kmk ksc krc kno kme kwe kbo kre p1 p2 p3).2.2.1 kmk (spX5_put kpw klf kmk ksc krc kno kme kwe kbo kre p1 p2 p3).2.2.2.1 (spX5_put kpw klf kmk ksc krc kno kme kwe kbo kre p1 p2 p3).2.2.2.2.1 (spX5_put kpw klf kmk ksc krc kno kme kwe kbo kre p1 p2 p3).2.2.2.2.2.1 kpp kpc (spX5_put kpw klf kmk ksc krc kno kme kwe kbo kre p1 p2 p3).2.2.2.2.2.2.1 (spX5_put kpw klf kmk ksc krc kno kme kwe kbo kre p1 p2 p3).2.2.2.2.2.2.2.1 (spX5_put kpw klf kmk ksc krc kno kme kwe kbo kre p1 p2 p3).2.2.2.2.2.2.2.2.1 (spX5_put kpw klf kmk ksc krc kno kme kwe kbo kre p1 p2 p3).2.2.2.2.2.2.2.2.2 kdr ktb) [(cA, .int)]) A) ([.ref kO, .int p1, .int p2, .int p3] : List Value).toArray s 0 0 A) (F0 m 97 ls []) := by
    intro n
    induction n with
    | zero =>
      intro kpw1 klf1 ksc1 krc1 kno1 kme1 kwe1 kbo1 kre1 x4 x5 x6 H locs ls hI
      exact absurd hI (by rintro ⟨⟨k, -, h1, h2⟩, -⟩; omega)
    | succ n ih =>
      intro kpw1 klf1 ksc1 krc1 kno1 kme1 kwe1 kbo1 kre1 x4 x5 x6 H locs ls hI hE hP hD hS hl
      obtain ⟨⟨k, hk, hk1, hk2⟩, hI2⟩ := hI
      refine lv_iload hx hb dX5_put_97 (lv_at hl 6 rfl) ?_
      refine lv_iconst (v := 4) hx hb dX5_put_99 (by decide) ?_
      refine lv_icmp_ge (tgt := 124) hx hb dX5_put_100 (by decide) (fun c_100 => ?_) (fun c_100 => ?_)
      · refine lv_aload_n hx hb dX5_put_124 rfl (lv_at hl 0 rfl) ?_
        refine va_get (D := D) (ci := 5) (v := .ref kr) (C := RX5) (T := TX5) (N := 16) hx hb hts k_inX5 hown hK hP 0 rfl rfl 5 (by decide) (hts _ kw_494) (fun _ h9 => h9) rfl dX5_put_125 ?_
        refine lv_iconst (v := 4) hx hb dX5_put_128 (by decide) ?_
        refine lv_iload hx hb dX5_put_129 (lv_at hl 5 rfl) ?_
        refine k_rdSi (As := [.int x5]) (rest := [.int (4 : Int32), .ref kr]) ⟨hx, hb, hml, hown, hts⟩ k_self (c_X5_marked l x5) kv_X5_64 rfl rfl ⟨Nat.le_of_ble_eq_true rfl, Nat.le_of_ble_eq_true rfl⟩ rfl hl.1 rfl (Nat.le_of_ble_eq_true rfl) dX5_put_131 ⟨Nat.zero_le _, Nat.zero_le _⟩ ?_
        refine va_iast hx hb hK hP hD hS 4 0 rfl rfl (vp_in_nI (n := 4) (N := 5) (by decide) (by decide)) dX5_put_134 (fun H locs hP hD hS => ?_)
        have hP : va_P D vwCl (wK kO km kw kb kr kd kt cA kth kmn kpw1 klf1 kmk ksc1 krc1 kno1 kpp kpc kme1 kwe1 kbo1 (upd kre1 (Int32.toNatClampNeg (4 : Int32)) (spX5_marked x5)) kdr ktb) H := hP
        have hD : va_D A (wK kO km kw kb kr kd kt cA kth kmn kpw1 klf1 kmk ksc1 krc1 kno1 kpp kpc kme1 kwe1 kbo1 (upd kre1 (Int32.toNatClampNeg (4 : Int32)) (spX5_marked x5)) kdr ktb) := hD
        refine lv_iconst (v := 0) hx hb dX5_put_135 (by decide) ?_
        refine lv_istore (lv' := [(6, .int (0 : Int32)), (0, .ref kO), (1, .int p1), (2, .int p2), (3, .int p3), (4, .int x4), (5, .int x5)]) hx hb dX5_put_136 hl (by decide) rfl (fun ls hl => ?_)
        exact L138 6 kpw1 klf1 ksc1 krc1 kno1 kme1 kwe1 kbo1 (upd kre1 (Int32.toNatClampNeg (4 : Int32)) (spX5_marked x5)) x4 x5 (0 : Int32) _ _ ls (⟨⟨0, rfl, by decide, by decide⟩, hI2⟩) (hE.trans (by rw [lpX5_put_97_e]; rw [if_pos c_100])) hP hD hS (lv_sub hl [1, 2, 3, 4, 5, 6, 0] rfl)
      · refine lv_bipush (v := 31) hx hb dX5_put_103 (by decide) ?_
        refine lv_iload hx hb dX5_put_105 (lv_at hl 5 rfl) ?_
        refine lv_imul hx hb dX5_put_107 ?_
        refine lv_aload_n hx hb dX5_put_108 rfl (lv_at hl 0 rfl) ?_
        refine va_get (D := D) (ci := 5) (v := .ref kr) (C := RX5) (T := TX5) (N := 16) hx hb hts k_inX5 hown hK hP 0 rfl rfl 5 (by decide) (hts _ kw_494) (fun _ h9 => h9) rfl dX5_put_109 ?_
        refine lv_iload hx hb dX5_put_112 (lv_at hl 6 rfl) ?_
        refine va_iald hx hb hK hP 4 0 rfl rfl (by rw [hk]; exact vp_in_nI (by have := k_lt (N := 4) rfl hk hk1 (by decide) c_100; omega) (by decide)) dX5_put_114 ?_
        refine lv_iadd hx hb dX5_put_115 ?_
        refine lv_istore (lv' := [(5, .int (((31 : Int32) * x5) + (kre1 (Int32.toNatClampNeg x6)))), (0, .ref kO), (1, .int p1), (2, .int p2), (3, .int p3), (4, .int x4), (6, .int x6)]) hx hb dX5_put_116 hl (by decide) rfl (fun ls hl => ?_)
        refine lv_iinc (v := (x6 + (1 : Int32))) (lv' := [(6, .int (x6 + (1 : Int32))), (5, .int (((31 : Int32) * x5) + (kre1 (Int32.toNatClampNeg x6)))), (0, .ref kO), (1, .int p1), (2, .int p2), (3, .int p3), (4, .int x4)]) hx hb dX5_put_118 hl (k := 6) rfl rfl (by decide) rfl (fun ls hl => ?_)
        refine lv_goto (tgt := 97) hx hb dX5_put_121 (by decide) ?_
        exact ih  kpw1 klf1 ksc1 krc1 kno1 kme1 kwe1 kbo1 kre1 x4 (((31 : Int32) * x5) + (kre1 (Int32.toNatClampNeg x6))) (x6 + (1 : Int32)) _ _ ls (⟨k_step (N := 4) rfl (by decide) hk hk1 hk2 c_100, hI2⟩) (hE.trans (by rw [lpX5_put_97_e]; rw [if_neg c_100])) hP hD hS (lv_sub hl [2, 3, 4, 5, 6, 1, 0] rfl)
  refine lv_aload_n hx hb dX5_put_0 rfl (lv_at hl 0 rfl) ?_
  refine va_get (D := D) (ci := 5) (v := .int krc) (C := RX5) (T := TX5) (N := 16) hx hb hts k_inX5 hown hK hP 0 rfl rfl 12 (by decide) (hts _ kw_501) (fun _ h9 => h9) rfl dX5_put_1 ?_
  refine lv_bipush (v := 12) hx hb dX5_put_4 (by decide) ?_
  refine lv_icmp_eq (tgt := 26) hx hb dX5_put_6 (by decide) (fun c_6 => ?_) (fun c_6 => ?_)
  · refine lv_aload_n hx hb dX5_put_26 rfl (lv_at hl 0 rfl) ?_
    refine lv_aload_n hx hb dX5_put_27 rfl (lv_at hl 0 rfl) ?_
    refine va_get (D := D) (ci := 5) (v := .ref km) (C := RX5) (T := TX5) (N := 16) hx hb hts k_inX5 hown hK hP 0 rfl rfl 2 (by decide) (hts _ kw_491) (fun _ h9 => h9) rfl dX5_put_28 ?_
    refine lv_sipush (v := 256) hx hb dX5_put_31 (by decide) ?_
    refine lv_aload_n hx hb dX5_put_34 rfl (lv_at hl 0 rfl) ?_
    refine va_get (D := D) (ci := 5) (v := .int ksc) (C := RX5) (T := TX5) (N := 16) hx hb hts k_inX5 hown hK hP 0 rfl rfl 11 (by decide) (hts _ kw_500) (fun _ h9 => h9) rfl dX5_put_35 ?_
    refine lv_imul hx hb dX5_put_38 ?_
    refine va_iald hx hb hK hP 1 0 rfl rfl (by simp only [hkq, show (256 : Int32) = nI 256 from rfl, pk_mul, nI_add]; exact vp_in_nI (by omega) (by decide)) dX5_put_39 ?_
    refine lv_iconst (v := 1) hx hb dX5_put_40 (by decide) ?_
    refine lv_iadd hx hb dX5_put_41 ?_
    rcases hq_42 : spX5_begin kpw klf kmk ksc krc kno kme kwe kbo ((kme (Int32.toNatClampNeg ((256 : Int32) * ksc))) + (1 : Int32)) with ⟨kpw_42, klf_42, ksc_42, krc_42, kme_42, kwe_42⟩
    have hM_42 : kWv l yX5_begin cX5_begin 4 none { frames := 2, cells := 0, slots := 0, locals := 44 } D [(cA, .int)] [.ref kO, .int ((kme (Int32.toNatClampNeg ((256 : Int32) * ksc))) + (1 : Int32))] (wK kO km kw kb kr kd kt cA kth kmn kpw klf kmk ksc krc kno kpp kpc kme kwe kbo kre kdr ktb) (wK kO km kw kb kr kd kt cA kth kmn kpw_42 klf_42 kmk ksc_42 krc_42 kno kpp kpc kme_42 kwe_42 kbo kre kdr ktb) := by
      have h := c_X5_begin l D kO km kw kb kr kd kt cA kth kmn kpw klf kmk ksc krc kno kpp kpc kme kwe kbo kre kdr ktb ((kme (Int32.toNatClampNeg ((256 : Int32) * ksc))) + (1 : Int32)) hs
      rw [hq_42] at h
      exact h
    refine k_wrVv (As := [.int ((kme (Int32.toNatClampNeg ((256 : Int32) * ksc))) + (1 : Int32))]) (rest := []) (ci := 5) (q0 := 0) (ws' := (wK kO km kw kb kr kd kt cA kth kmn kpw_42 klf_42 kmk ksc_42 krc_42 kno kpp kpc kme_42 kwe_42 kbo kre kdr ktb)) (wr := []) ⟨hx, hb, hml, hown, hts⟩ k_self hM_42 kv_X5_43 hP hD hS hA hK rfl rfl [0, 1, 2, 3, 4, 5, 6] [] [0, 1, 2, 3, 4, 5, 6] rfl (by decide) rfl (by decide) (by decide) rfl (by decide) rfl rfl ⟨Nat.le_of_ble_eq_true rfl, Nat.le_of_ble_eq_true rfl⟩ rfl hl.1 rfl (Nat.le_of_ble_eq_true rfl) dX5_put_42 ⟨Nat.zero_le _, Nat.zero_le _⟩ (fun H locs hP hD hS => ?_)
    refine lv_sipush (v := 194) hx hb dX5_put_45 (by decide) ?_
    refine lv_iconst (v := 5) hx hb dX5_put_48 (by decide) ?_
    refine lv_aload_n hx hb dX5_put_49 rfl (lv_at hl 0 rfl) ?_
    refine va_get (D := D) (ci := 5) (v := .int krc_42) (C := RX5) (T := TX5) (N := 16) hx hb hts k_inX5 hown hK hP 0 rfl rfl 12 (by decide) (hts _ kw_501) (fun _ h9 => h9) rfl dX5_put_50 ?_
    refine lv_imul hx hb dX5_put_53 ?_
    refine lv_iadd hx hb dX5_put_54 ?_
    refine lv_istore (lv' := [(4, .int ((194 : Int32) + ((5 : Int32) * krc_42))), (0, .ref kO), (1, .int p1), (2, .int p2), (3, .int p3)]) hx hb dX5_put_55 hl (by decide) rfl (fun ls hl => ?_)
    refine lv_aload_n hx hb dX5_put_57 rfl (lv_at hl 1 rfl) ?_
    refine va_get (D := D) (ci := 5) (v := .ref kr) (C := RX5) (T := TX5) (N := 16) hx hb hts k_inX5 hown hK hP 0 rfl rfl 5 (by decide) (hts _ kw_494) (fun _ h9 => h9) rfl dX5_put_58 ?_
    refine lv_iconst (v := 0) hx hb dX5_put_61 (by decide) ?_
    refine lv_aload_n hx hb dX5_put_62 rfl (lv_at hl 1 rfl) ?_
    refine va_get (D := D) (ci := 5) (v := .int kno) (C := RX5) (T := TX5) (N := 16) hx hb hts k_inX5 hown hK hP 0 rfl rfl 13 (by decide) (hts _ kw_502) (fun _ h9 => h9) rfl dX5_put_63 ?_
    refine lv_iconst (v := 1) hx hb dX5_put_66 (by decide) ?_
    refine lv_iadd hx hb dX5_put_67 ?_
    refine va_iast hx hb hK hP hD hS 4 0 rfl rfl (vp_in_nI (n := 0) (N := 5) (by decide) (by decide)) dX5_put_68 (fun H locs hP hD hS => ?_)
    have hP : va_P D vwCl (wK kO km kw kb kr kd kt cA kth kmn kpw_42 klf_42 kmk ksc_42 krc_42 kno kpp kpc kme_42 kwe_42 kbo (upd kre (Int32.toNatClampNeg (0 : Int32)) (kno + (1 : Int32))) kdr ktb) H := hP
    have hD : va_D A (wK kO km kw kb kr kd kt cA kth kmn kpw_42 klf_42 kmk ksc_42 krc_42 kno kpp kpc kme_42 kwe_42 kbo (upd kre (Int32.toNatClampNeg (0 : Int32)) (kno + (1 : Int32))) kdr ktb) := hD
    refine lv_aload_n hx hb dX5_put_69 rfl (lv_at hl 1 rfl) ?_
    refine va_get (D := D) (ci := 5) (v := .ref kr) (C := RX5) (T := TX5) (N := 16) hx hb hts k_inX5 hown hK hP 0 rfl rfl 5 (by decide) (hts _ kw_494) (fun _ h9 => h9) rfl dX5_put_70 ?_
    refine lv_iconst (v := 1) hx hb dX5_put_73 (by decide) ?_
    refine lv_iload_n hx hb dX5_put_74 rfl (lv_at hl 2 rfl) ?_
    refine va_iast hx hb hK hP hD hS 4 0 rfl rfl (vp_in_nI (n := 1) (N := 5) (by decide) (by decide)) dX5_put_75 (fun H locs hP hD hS => ?_)
    have hP : va_P D vwCl (wK kO km kw kb kr kd kt cA kth kmn kpw_42 klf_42 kmk ksc_42 krc_42 kno kpp kpc kme_42 kwe_42 kbo (upd (upd kre (Int32.toNatClampNeg (0 : Int32)) (kno + (1 : Int32))) (Int32.toNatClampNeg (1 : Int32)) p1) kdr ktb) H := hP
    have hD : va_D A (wK kO km kw kb kr kd kt cA kth kmn kpw_42 klf_42 kmk ksc_42 krc_42 kno kpp kpc kme_42 kwe_42 kbo (upd (upd kre (Int32.toNatClampNeg (0 : Int32)) (kno + (1 : Int32))) (Int32.toNatClampNeg (1 : Int32)) p1) kdr ktb) := hD
    refine lv_aload_n hx hb dX5_put_76 rfl (lv_at hl 1 rfl) ?_
    refine va_get (D := D) (ci := 5) (v := .ref kr) (C := RX5) (T := TX5) (N := 16) hx hb hts k_inX5 hown hK hP 0 rfl rfl 5 (by decide) (hts _ kw_494) (fun _ h9 => h9) rfl dX5_put_77 ?_
    refine lv_iconst (v := 2) hx hb dX5_put_80 (by decide) ?_
    refine lv_iload_n hx hb dX5_put_81 rfl (lv_at hl 3 rfl) ?_
    refine va_iast hx hb hK hP hD hS 4 0 rfl rfl (vp_in_nI (n := 2) (N := 5) (by decide) (by decide)) dX5_put_82 (fun H locs hP hD hS => ?_)
    have hP : va_P D vwCl (wK kO km kw kb kr kd kt cA kth kmn kpw_42 klf_42 kmk ksc_42 krc_42 kno kpp kpc kme_42 kwe_42 kbo (upd (upd (upd kre (Int32.toNatClampNeg (0 : Int32)) (kno + (1 : Int32))) (Int32.toNatClampNeg (1 : Int32)) p1) (Int32.toNatClampNeg (2 : Int32)) p2) kdr ktb) H := hP
    have hD : va_D A (wK kO km kw kb kr kd kt cA kth kmn kpw_42 klf_42 kmk ksc_42 krc_42 kno kpp kpc kme_42 kwe_42 kbo (upd (upd (upd kre (Int32.toNatClampNeg (0 : Int32)) (kno + (1 : Int32))) (Int32.toNatClampNeg (1 : Int32)) p1) (Int32.toNatClampNeg (2 : Int32)) p2) kdr ktb) := hD
    refine lv_aload_n hx hb dX5_put_83 rfl (lv_at hl 1 rfl) ?_
    refine va_get (D := D) (ci := 5) (v := .ref kr) (C := RX5) (T := TX5) (N := 16) hx hb hts k_inX5 hown hK hP 0 rfl rfl 5 (by decide) (hts _ kw_494) (fun _ h9 => h9) rfl dX5_put_84 ?_
    refine lv_iconst (v := 3) hx hb dX5_put_87 (by decide) ?_
    refine lv_iload_n hx hb dX5_put_88 rfl (lv_at hl 4 rfl) ?_
    refine va_iast hx hb hK hP hD hS 4 0 rfl rfl (vp_in_nI (n := 3) (N := 5) (by decide) (by decide)) dX5_put_89 (fun H locs hP hD hS => ?_)
    have hP : va_P D vwCl (wK kO km kw kb kr kd kt cA kth kmn kpw_42 klf_42 kmk ksc_42 krc_42 kno kpp kpc kme_42 kwe_42 kbo (upd (upd (upd (upd kre (Int32.toNatClampNeg (0 : Int32)) (kno + (1 : Int32))) (Int32.toNatClampNeg (1 : Int32)) p1) (Int32.toNatClampNeg (2 : Int32)) p2) (Int32.toNatClampNeg (3 : Int32)) p3) kdr ktb) H := hP
    have hD : va_D A (wK kO km kw kb kr kd kt cA kth kmn kpw_42 klf_42 kmk ksc_42 krc_42 kno kpp kpc kme_42 kwe_42 kbo (upd (upd (upd (upd kre (Int32.toNatClampNeg (0 : Int32)) (kno + (1 : Int32))) (Int32.toNatClampNeg (1 : Int32)) p1) (Int32.toNatClampNeg (2 : Int32)) p2) (Int32.toNatClampNeg (3 : Int32)) p3) kdr ktb) := hD
    refine lv_bipush (v := 17) hx hb dX5_put_90 (by decide) ?_
    refine lv_istore (lv' := [(5, .int (17 : Int32)), (4, .int ((194 : Int32) + ((5 : Int32) * krc_42))), (0, .ref kO), (1, .int p1), (2, .int p2), (3, .int p3)]) hx hb dX5_put_92 hl (by decide) rfl (fun ls hl => ?_)
    refine lv_iconst (v := 0) hx hb dX5_put_94 (by decide) ?_
    refine lv_istore (lv' := [(6, .int (0 : Int32)), (5, .int (17 : Int32)), (4, .int ((194 : Int32) + ((5 : Int32) * krc_42))), (0, .ref kO), (1, .int p1), (2, .int p2), (3, .int p3)]) hx hb dX5_put_95 hl (by decide) rfl (fun ls hl => ?_)
    exact L97 5 kpw_42 klf_42 ksc_42 krc_42 kno kme_42 kwe_42 kbo (upd (upd (upd (upd kre (Int32.toNatClampNeg (0 : Int32)) (kno + (1 : Int32))) (Int32.toNatClampNeg (1 : Int32)) p1) (Int32.toNatClampNeg (2 : Int32)) p2) (Int32.toNatClampNeg (3 : Int32)) p3) ((194 : Int32) + ((5 : Int32) * krc_42)) (17 : Int32) (0 : Int32) _ _ ls (⟨⟨0, rfl, by decide, by decide⟩, ⟨(k_beginp hq_42 hs hp).2.1, ⟨194, by rw [(k_beginp hq_42 hs hp).2.2]; rfl, by decide⟩, (k_beginp hq_42 hs hp).1⟩⟩) (by unfold spX5_put; rw [if_pos c_6]; rw [hq_42]; try dsimp only) hP hD hS (lv_sub hl [3, 4, 5, 6, 2, 1, 0] rfl)
  · refine lv_aload_n hx hb dX5_put_9 rfl (lv_at hl 0 rfl) ?_
    refine lv_sipush (v := 194) hx hb dX5_put_10 (by decide) ?_
    refine lv_iconst (v := 5) hx hb dX5_put_13 (by decide) ?_
    refine lv_aload_n hx hb dX5_put_14 rfl (lv_at hl 0 rfl) ?_
    refine va_get (D := D) (ci := 5) (v := .int krc) (C := RX5) (T := TX5) (N := 16) hx hb hts k_inX5 hown hK hP 0 rfl rfl 12 (by decide) (hts _ kw_501) (fun _ h9 => h9) rfl dX5_put_15 ?_
    refine lv_imul hx hb dX5_put_18 ?_
    refine lv_iadd hx hb dX5_put_19 ?_
    refine k_rdVi (As := [.int ((194 : Int32) + ((5 : Int32) * krc))]) (rest := []) (ci := 5) (q0 := 0) ⟨hx, hb, hml, hown, hts⟩ k_self (c_X5_isFree l D kO km kw kb kr kd kt cA kth kmn kpw klf kmk ksc krc kno kpp kpc kme kwe kbo kre kdr ktb ((194 : Int32) + ((5 : Int32) * krc)) hs (⟨194 + 5 * rq, by simp only [hrq, show (194 : Int32) = nI 194 from rfl, show (5 : Int32) = nI 5 from rfl, pk_mul, nI_add], by have h12 : rq ≠ 12 := fun h => c_6 (by rw [hrq, h]; rfl); omega⟩)) kv_X5_81 (hP.sub [0, 1, 2, 3, 4, 5, 6] rfl) (hK.sub [0] rfl) rfl rfl rfl rfl ⟨Nat.le_of_ble_eq_true rfl, Nat.le_of_ble_eq_true rfl⟩ rfl hl.1 rfl (Nat.le_of_ble_eq_true rfl) dX5_put_20 ⟨Nat.zero_le _, Nat.zero_le _⟩ ?_
    refine lv_if_ne (tgt := 45) hx hb dX5_put_23 (by decide) (fun c_23 => ?_) (fun c_23 => ?_)
    · refine lv_sipush (v := 194) hx hb dX5_put_45 (by decide) ?_
      refine lv_iconst (v := 5) hx hb dX5_put_48 (by decide) ?_
      refine lv_aload_n hx hb dX5_put_49 rfl (lv_at hl 0 rfl) ?_
      refine va_get (D := D) (ci := 5) (v := .int krc) (C := RX5) (T := TX5) (N := 16) hx hb hts k_inX5 hown hK hP 0 rfl rfl 12 (by decide) (hts _ kw_501) (fun _ h9 => h9) rfl dX5_put_50 ?_
      refine lv_imul hx hb dX5_put_53 ?_
      refine lv_iadd hx hb dX5_put_54 ?_
      refine lv_istore (lv' := [(4, .int ((194 : Int32) + ((5 : Int32) * krc))), (0, .ref kO), (1, .int p1), (2, .int p2), (3, .int p3)]) hx hb dX5_put_55 hl (by decide) rfl (fun ls hl => ?_)
      refine lv_aload_n hx hb dX5_put_57 rfl (lv_at hl 1 rfl) ?_
      refine va_get (D := D) (ci := 5) (v := .ref kr) (C := RX5) (T := TX5) (N := 16) hx hb hts k_inX5 hown hK hP 0 rfl rfl 5 (by decide) (hts _ kw_494) (fun _ h9 => h9) rfl dX5_put_58 ?_
      refine lv_iconst (v := 0) hx hb dX5_put_61 (by decide) ?_
      refine lv_aload_n hx hb dX5_put_62 rfl (lv_at hl 1 rfl) ?_
      refine va_get (D := D) (ci := 5) (v := .int kno) (C := RX5) (T := TX5) (N := 16) hx hb hts k_inX5 hown hK hP 0 rfl rfl 13 (by decide) (hts _ kw_502) (fun _ h9 => h9) rfl dX5_put_63 ?_
      refine lv_iconst (v := 1) hx hb dX5_put_66 (by decide) ?_
      refine lv_iadd hx hb dX5_put_67 ?_
      refine va_iast hx hb hK hP hD hS 4 0 rfl rfl (vp_in_nI (n := 0) (N := 5) (by decide) (by decide)) dX5_put_68 (fun H locs hP hD hS => ?_)
      have hP : va_P D vwCl (wK kO km kw kb kr kd kt cA kth kmn kpw klf kmk ksc krc kno kpp kpc kme kwe kbo (upd kre (Int32.toNatClampNeg (0 : Int32)) (kno + (1 : Int32))) kdr ktb) H := hP
      have hD : va_D A (wK kO km kw kb kr kd kt cA kth kmn kpw klf kmk ksc krc kno kpp kpc kme kwe kbo (upd kre (Int32.toNatClampNeg (0 : Int32)) (kno + (1 : Int32))) kdr ktb) := hD
      refine lv_aload_n hx hb dX5_put_69 rfl (lv_at hl 1 rfl) ?_
      refine va_get (D := D) (ci := 5) (v := .ref kr) (C := RX5) (T := TX5) (N := 16) hx hb hts k_inX5 hown hK hP 0 rfl rfl 5 (by decide) (hts _ kw_494) (fun _ h9 => h9) rfl dX5_put_70 ?_
      refine lv_iconst (v := 1) hx hb dX5_put_73 (by decide) ?_
      refine lv_iload_n hx hb dX5_put_74 rfl (lv_at hl 2 rfl) ?_
      refine va_iast hx hb hK hP hD hS 4 0 rfl rfl (vp_in_nI (n := 1) (N := 5) (by decide) (by decide)) dX5_put_75 (fun H locs hP hD hS => ?_)
      have hP : va_P D vwCl (wK kO km kw kb kr kd kt cA kth kmn kpw klf kmk ksc krc kno kpp kpc kme kwe kbo (upd (upd kre (Int32.toNatClampNeg (0 : Int32)) (kno + (1 : Int32))) (Int32.toNatClampNeg (1 : Int32)) p1) kdr ktb) H := hP
      have hD : va_D A (wK kO km kw kb kr kd kt cA kth kmn kpw klf kmk ksc krc kno kpp kpc kme kwe kbo (upd (upd kre (Int32.toNatClampNeg (0 : Int32)) (kno + (1 : Int32))) (Int32.toNatClampNeg (1 : Int32)) p1) kdr ktb) := hD
      refine lv_aload_n hx hb dX5_put_76 rfl (lv_at hl 1 rfl) ?_
      refine va_get (D := D) (ci := 5) (v := .ref kr) (C := RX5) (T := TX5) (N := 16) hx hb hts k_inX5 hown hK hP 0 rfl rfl 5 (by decide) (hts _ kw_494) (fun _ h9 => h9) rfl dX5_put_77 ?_
      refine lv_iconst (v := 2) hx hb dX5_put_80 (by decide) ?_
      refine lv_iload_n hx hb dX5_put_81 rfl (lv_at hl 3 rfl) ?_
      refine va_iast hx hb hK hP hD hS 4 0 rfl rfl (vp_in_nI (n := 2) (N := 5) (by decide) (by decide)) dX5_put_82 (fun H locs hP hD hS => ?_)
      have hP : va_P D vwCl (wK kO km kw kb kr kd kt cA kth kmn kpw klf kmk ksc krc kno kpp kpc kme kwe kbo (upd (upd (upd kre (Int32.toNatClampNeg (0 : Int32)) (kno + (1 : Int32))) (Int32.toNatClampNeg (1 : Int32)) p1) (Int32.toNatClampNeg (2 : Int32)) p2) kdr ktb) H := hP
      have hD : va_D A (wK kO km kw kb kr kd kt cA kth kmn kpw klf kmk ksc krc kno kpp kpc kme kwe kbo (upd (upd (upd kre (Int32.toNatClampNeg (0 : Int32)) (kno + (1 : Int32))) (Int32.toNatClampNeg (1 : Int32)) p1) (Int32.toNatClampNeg (2 : Int32)) p2) kdr ktb) := hD
      refine lv_aload_n hx hb dX5_put_83 rfl (lv_at hl 1 rfl) ?_
      refine va_get (D := D) (ci := 5) (v := .ref kr) (C := RX5) (T := TX5) (N := 16) hx hb hts k_inX5 hown hK hP 0 rfl rfl 5 (by decide) (hts _ kw_494) (fun _ h9 => h9) rfl dX5_put_84 ?_
      refine lv_iconst (v := 3) hx hb dX5_put_87 (by decide) ?_
      refine lv_iload_n hx hb dX5_put_88 rfl (lv_at hl 4 rfl) ?_
      refine va_iast hx hb hK hP hD hS 4 0 rfl rfl (vp_in_nI (n := 3) (N := 5) (by decide) (by decide)) dX5_put_89 (fun H locs hP hD hS => ?_)
      have hP : va_P D vwCl (wK kO km kw kb kr kd kt cA kth kmn kpw klf kmk ksc krc kno kpp kpc kme kwe kbo (upd (upd (upd (upd kre (Int32.toNatClampNeg (0 : Int32)) (kno + (1 : Int32))) (Int32.toNatClampNeg (1 : Int32)) p1) (Int32.toNatClampNeg (2 : Int32)) p2) (Int32.toNatClampNeg (3 : Int32)) p3) kdr ktb) H := hP
      have hD : va_D A (wK kO km kw kb kr kd kt cA kth kmn kpw klf kmk ksc krc kno kpp kpc kme kwe kbo (upd (upd (upd (upd kre (Int32.toNatClampNeg (0 : Int32)) (kno + (1 : Int32))) (Int32.toNatClampNeg (1 : Int32)) p1) (Int32.toNatClampNeg (2 : Int32)) p2) (Int32.toNatClampNeg (3 : Int32)) p3) kdr ktb) := hD
      refine lv_bipush (v := 17) hx hb dX5_put_90 (by decide) ?_
      refine lv_istore (lv' := [(5, .int (17 : Int32)), (4, .int ((194 : Int32) + ((5 : Int32) * krc))), (0, .ref kO), (1, .int p1), (2, .int p2), (3, .int p3)]) hx hb dX5_put_92 hl (by decide) rfl (fun ls hl => ?_)
      refine lv_iconst (v := 0) hx hb dX5_put_94 (by decide) ?_
      refine lv_istore (lv' := [(6, .int (0 : Int32)), (5, .int (17 : Int32)), (4, .int ((194 : Int32) + ((5 : Int32) * krc))), (0, .ref kO), (1, .int p1), (2, .int p2), (3, .int p3)]) hx hb dX5_put_95 hl (by decide) rfl (fun ls hl => ?_)
      exact L97 5 kpw klf ksc krc kno kme kwe kbo (upd (upd (upd (upd kre (Int32.toNatClampNeg (0 : Int32)) (kno + (1 : Int32))) (Int32.toNatClampNeg (1 : Int32)) p1) (Int32.toNatClampNeg (2 : Int32)) p2) (Int32.toNatClampNeg (3 : Int32)) p3) ((194 : Int32) + ((5 : Int32) * krc)) (17 : Int32) (0 : Int32) _ _ ls (⟨⟨0, rfl, by decide, by decide⟩, ⟨hs, ⟨194 + 5 * rq, by simp only [hrq, show (194 : Int32) = nI 194 from rfl, show (5 : Int32) = nI 5 from rfl, pk_mul, nI_add], by have h12 : rq ≠ 12 := fun h => c_6 (by rw [hrq, h]; rfl); omega⟩, hp⟩⟩) (by unfold spX5_put; rw [if_neg c_6, if_neg c_23]) hP hD hS (lv_sub hl [3, 4, 5, 6, 2, 1, 0] rfl)
    · refine lv_aload_n hx hb dX5_put_26 rfl (lv_at hl 0 rfl) ?_
      refine lv_aload_n hx hb dX5_put_27 rfl (lv_at hl 0 rfl) ?_
      refine va_get (D := D) (ci := 5) (v := .ref km) (C := RX5) (T := TX5) (N := 16) hx hb hts k_inX5 hown hK hP 0 rfl rfl 2 (by decide) (hts _ kw_491) (fun _ h9 => h9) rfl dX5_put_28 ?_
      refine lv_sipush (v := 256) hx hb dX5_put_31 (by decide) ?_
      refine lv_aload_n hx hb dX5_put_34 rfl (lv_at hl 0 rfl) ?_
      refine va_get (D := D) (ci := 5) (v := .int ksc) (C := RX5) (T := TX5) (N := 16) hx hb hts k_inX5 hown hK hP 0 rfl rfl 11 (by decide) (hts _ kw_500) (fun _ h9 => h9) rfl dX5_put_35 ?_
      refine lv_imul hx hb dX5_put_38 ?_
      refine va_iald hx hb hK hP 1 0 rfl rfl (by simp only [hkq, show (256 : Int32) = nI 256 from rfl, pk_mul, nI_add]; exact vp_in_nI (by omega) (by decide)) dX5_put_39 ?_
      refine lv_iconst (v := 1) hx hb dX5_put_40 (by decide) ?_
      refine lv_iadd hx hb dX5_put_41 ?_
      rcases hq_42 : spX5_begin kpw klf kmk ksc krc kno kme kwe kbo ((kme (Int32.toNatClampNeg ((256 : Int32) * ksc))) + (1 : Int32)) with ⟨kpw_42, klf_42, ksc_42, krc_42, kme_42, kwe_42⟩
      have hM_42 : kWv l yX5_begin cX5_begin 4 none { frames := 2, cells := 0, slots := 0, locals := 44 } D [(cA, .int)] [.ref kO, .int ((kme (Int32.toNatClampNeg ((256 : Int32) * ksc))) + (1 : Int32))] (wK kO km kw kb kr kd kt cA kth kmn kpw klf kmk ksc krc kno kpp kpc kme kwe kbo kre kdr ktb) (wK kO km kw kb kr kd kt cA kth kmn kpw_42 klf_42 kmk ksc_42 krc_42 kno kpp kpc kme_42 kwe_42 kbo kre kdr ktb) := by
        have h := c_X5_begin l D kO km kw kb kr kd kt cA kth kmn kpw klf kmk ksc krc kno kpp kpc kme kwe kbo kre kdr ktb ((kme (Int32.toNatClampNeg ((256 : Int32) * ksc))) + (1 : Int32)) hs
        rw [hq_42] at h
        exact h
      refine k_wrVv (As := [.int ((kme (Int32.toNatClampNeg ((256 : Int32) * ksc))) + (1 : Int32))]) (rest := []) (ci := 5) (q0 := 0) (ws' := (wK kO km kw kb kr kd kt cA kth kmn kpw_42 klf_42 kmk ksc_42 krc_42 kno kpp kpc kme_42 kwe_42 kbo kre kdr ktb)) (wr := []) ⟨hx, hb, hml, hown, hts⟩ k_self hM_42 kv_X5_43 hP hD hS hA hK rfl rfl [0, 1, 2, 3, 4, 5, 6] [] [0, 1, 2, 3, 4, 5, 6] rfl (by decide) rfl (by decide) (by decide) rfl (by decide) rfl rfl ⟨Nat.le_of_ble_eq_true rfl, Nat.le_of_ble_eq_true rfl⟩ rfl hl.1 rfl (Nat.le_of_ble_eq_true rfl) dX5_put_42 ⟨Nat.zero_le _, Nat.zero_le _⟩ (fun H locs hP hD hS => ?_)
      refine lv_sipush (v := 194) hx hb dX5_put_45 (by decide) ?_
      refine lv_iconst (v := 5) hx hb dX5_put_48 (by decide) ?_
      refine lv_aload_n hx hb dX5_put_49 rfl (lv_at hl 0 rfl) ?_
      refine va_get (D := D) (ci := 5) (v := .int krc_42) (C := RX5) (T := TX5) (N := 16) hx hb hts k_inX5 hown hK hP 0 rfl rfl 12 (by decide) (hts _ kw_501) (fun _ h9 => h9) rfl dX5_put_50 ?_
      refine lv_imul hx hb dX5_put_53 ?_
      refine lv_iadd hx hb dX5_put_54 ?_
      refine lv_istore (lv' := [(4, .int ((194 : Int32) + ((5 : Int32) * krc_42))), (0, .ref kO), (1, .int p1), (2, .int p2), (3, .int p3)]) hx hb dX5_put_55 hl (by decide) rfl (fun ls hl => ?_)
      refine lv_aload_n hx hb dX5_put_57 rfl (lv_at hl 1 rfl) ?_
      refine va_get (D := D) (ci := 5) (v := .ref kr) (C := RX5) (T := TX5) (N := 16) hx hb hts k_inX5 hown hK hP 0 rfl rfl 5 (by decide) (hts _ kw_494) (fun _ h9 => h9) rfl dX5_put_58 ?_
      refine lv_iconst (v := 0) hx hb dX5_put_61 (by decide) ?_
      refine lv_aload_n hx hb dX5_put_62 rfl (lv_at hl 1 rfl) ?_
      refine va_get (D := D) (ci := 5) (v := .int kno) (C := RX5) (T := TX5) (N := 16) hx hb hts k_inX5 hown hK hP 0 rfl rfl 13 (by decide) (hts _ kw_502) (fun _ h9 => h9) rfl dX5_put_63 ?_
      refine lv_iconst (v := 1) hx hb dX5_put_66 (by decide) ?_
      refine lv_iadd hx hb dX5_put_67 ?_
      refine va_iast hx hb hK hP hD hS 4 0 rfl rfl (vp_in_nI (n := 0) (N := 5) (by decide) (by decide)) dX5_put_68 (fun H locs hP hD hS => ?_)
      have hP : va_P D vwCl (wK kO km kw kb kr kd kt cA kth kmn kpw_42 klf_42 kmk ksc_42 krc_42 kno kpp kpc kme_42 kwe_42 kbo (upd kre (Int32.toNatClampNeg (0 : Int32)) (kno + (1 : Int32))) kdr ktb) H := hP
      have hD : va_D A (wK kO km kw kb kr kd kt cA kth kmn kpw_42 klf_42 kmk ksc_42 krc_42 kno kpp kpc kme_42 kwe_42 kbo (upd kre (Int32.toNatClampNeg (0 : Int32)) (kno + (1 : Int32))) kdr ktb) := hD
      refine lv_aload_n hx hb dX5_put_69 rfl (lv_at hl 1 rfl) ?_
      refine va_get (D := D) (ci := 5) (v := .ref kr) (C := RX5) (T := TX5) (N := 16) hx hb hts k_inX5 hown hK hP 0 rfl rfl 5 (by decide) (hts _ kw_494) (fun _ h9 => h9) rfl dX5_put_70 ?_
      refine lv_iconst (v := 1) hx hb dX5_put_73 (by decide) ?_
      refine lv_iload_n hx hb dX5_put_74 rfl (lv_at hl 2 rfl) ?_
      refine va_iast hx hb hK hP hD hS 4 0 rfl rfl (vp_in_nI (n := 1) (N := 5) (by decide) (by decide)) dX5_put_75 (fun H locs hP hD hS => ?_)
      have hP : va_P D vwCl (wK kO km kw kb kr kd kt cA kth kmn kpw_42 klf_42 kmk ksc_42 krc_42 kno kpp kpc kme_42 kwe_42 kbo (upd (upd kre (Int32.toNatClampNeg (0 : Int32)) (kno + (1 : Int32))) (Int32.toNatClampNeg (1 : Int32)) p1) kdr ktb) H := hP
      have hD : va_D A (wK kO km kw kb kr kd kt cA kth kmn kpw_42 klf_42 kmk ksc_42 krc_42 kno kpp kpc kme_42 kwe_42 kbo (upd (upd kre (Int32.toNatClampNeg (0 : Int32)) (kno + (1 : Int32))) (Int32.toNatClampNeg (1 : Int32)) p1) kdr ktb) := hD
      refine lv_aload_n hx hb dX5_put_76 rfl (lv_at hl 1 rfl) ?_
      refine va_get (D := D) (ci := 5) (v := .ref kr) (C := RX5) (T := TX5) (N := 16) hx hb hts k_inX5 hown hK hP 0 rfl rfl 5 (by decide) (hts _ kw_494) (fun _ h9 => h9) rfl dX5_put_77 ?_
      refine lv_iconst (v := 2) hx hb dX5_put_80 (by decide) ?_
      refine lv_iload_n hx hb dX5_put_81 rfl (lv_at hl 3 rfl) ?_
      refine va_iast hx hb hK hP hD hS 4 0 rfl rfl (vp_in_nI (n := 2) (N := 5) (by decide) (by decide)) dX5_put_82 (fun H locs hP hD hS => ?_)
      have hP : va_P D vwCl (wK kO km kw kb kr kd kt cA kth kmn kpw_42 klf_42 kmk ksc_42 krc_42 kno kpp kpc kme_42 kwe_42 kbo (upd (upd (upd kre (Int32.toNatClampNeg (0 : Int32)) (kno + (1 : Int32))) (Int32.toNatClampNeg (1 : Int32)) p1) (Int32.toNatClampNeg (2 : Int32)) p2) kdr ktb) H := hP
      have hD : va_D A (wK kO km kw kb kr kd kt cA kth kmn kpw_42 klf_42 kmk ksc_42 krc_42 kno kpp kpc kme_42 kwe_42 kbo (upd (upd (upd kre (Int32.toNatClampNeg (0 : Int32)) (kno + (1 : Int32))) (Int32.toNatClampNeg (1 : Int32)) p1) (Int32.toNatClampNeg (2 : Int32)) p2) kdr ktb) := hD
      refine lv_aload_n hx hb dX5_put_83 rfl (lv_at hl 1 rfl) ?_
      refine va_get (D := D) (ci := 5) (v := .ref kr) (C := RX5) (T := TX5) (N := 16) hx hb hts k_inX5 hown hK hP 0 rfl rfl 5 (by decide) (hts _ kw_494) (fun _ h9 => h9) rfl dX5_put_84 ?_
      refine lv_iconst (v := 3) hx hb dX5_put_87 (by decide) ?_
      refine lv_iload_n hx hb dX5_put_88 rfl (lv_at hl 4 rfl) ?_
      refine va_iast hx hb hK hP hD hS 4 0 rfl rfl (vp_in_nI (n := 3) (N := 5) (by decide) (by decide)) dX5_put_89 (fun H locs hP hD hS => ?_)
      have hP : va_P D vwCl (wK kO km kw kb kr kd kt cA kth kmn kpw_42 klf_42 kmk ksc_42 krc_42 kno kpp kpc kme_42 kwe_42 kbo (upd (upd (upd (upd kre (Int32.toNatClampNeg (0 : Int32)) (kno + (1 : Int32))) (Int32.toNatClampNeg (1 : Int32)) p1) (Int32.toNatClampNeg (2 : Int32)) p2) (Int32.toNatClampNeg (3 : Int32)) p3) kdr ktb) H := hP
      have hD : va_D A (wK kO km kw kb kr kd kt cA kth kmn kpw_42 klf_42 kmk ksc_42 krc_42 kno kpp kpc kme_42 kwe_42 kbo (upd (upd (upd (upd kre (Int32.toNatClampNeg (0 : Int32)) (kno + (1 : Int32))) (Int32.toNatClampNeg (1 : Int32)) p1) (Int32.toNatClampNeg (2 : Int32)) p2) (Int32.toNatClampNeg (3 : Int32)) p3) kdr ktb) := hD
      refine lv_bipush (v := 17) hx hb dX5_put_90 (by decide) ?_
      refine lv_istore (lv' := [(5, .int (17 : Int32)), (4, .int ((194 : Int32) + ((5 : Int32) * krc_42))), (0, .ref kO), (1, .int p1), (2, .int p2), (3, .int p3)]) hx hb dX5_put_92 hl (by decide) rfl (fun ls hl => ?_)
      refine lv_iconst (v := 0) hx hb dX5_put_94 (by decide) ?_
      refine lv_istore (lv' := [(6, .int (0 : Int32)), (5, .int (17 : Int32)), (4, .int ((194 : Int32) + ((5 : Int32) * krc_42))), (0, .ref kO), (1, .int p1), (2, .int p2), (3, .int p3)]) hx hb dX5_put_95 hl (by decide) rfl (fun ls hl => ?_)
      exact L97 5 kpw_42 klf_42 ksc_42 krc_42 kno kme_42 kwe_42 kbo (upd (upd (upd (upd kre (Int32.toNatClampNeg (0 : Int32)) (kno + (1 : Int32))) (Int32.toNatClampNeg (1 : Int32)) p1) (Int32.toNatClampNeg (2 : Int32)) p2) (Int32.toNatClampNeg (3 : Int32)) p3) ((194 : Int32) + ((5 : Int32) * krc_42)) (17 : Int32) (0 : Int32) _ _ ls (⟨⟨0, rfl, by decide, by decide⟩, ⟨(k_beginp hq_42 hs hp).2.1, ⟨194, by rw [(k_beginp hq_42 hs hp).2.2]; rfl, by decide⟩, (k_beginp hq_42 hs hp).1⟩⟩) (by unfold spX5_put; rw [if_neg c_6, if_pos c_23]; rw [hq_42]; try dsimp only) hP hD hS (lv_sub hl [3, 4, 5, 6, 2, 1, 0] rfl)
theorem k_put138 (n : Nat) : ∀ (kpw1 klf1 kmk ksc1 krc1 kno1 : Int32) (kme1 kwe1 kbo1 kre1 : Nat → Int32) (p1 p2 p3 x4 x5 x6 : Int32), (kpw1 = 0 ∨ kpw1 = 1) → (((lpX5_put_138 n kpw1 klf1 kmk ksc1 krc1 kno1 kme1 kwe1 kbo1 kre1 p1 p2 p3 x4 x5 x6).2.1 = 0 ∨ (lpX5_put_138 n kpw1 klf1 kmk ksc1 krc1 kno1 kme1 kwe1 kbo1 kre1 p1 p2 p3 x4 x5 x6).2.1 = 1) ∧ (lpX5_put_138 n kpw1 klf1 kmk ksc1 krc1 kno1 kme1 kwe1 kbo1 kre1 p1 p2 p3 x4 x5 x6).2.2.2.1 = ksc1 ∧ ((lpX5_put_138 n kpw1 klf1 kmk ksc1 krc1 kno1 kme1 kwe1 kbo1 kre1 p1 p2 p3 x4 x5 x6).2.2.2.2.1 = krc1 ∨ (lpX5_put_138 n kpw1 klf1 kmk ksc1 krc1 kno1 kme1 kwe1 kbo1 kre1 p1 p2 p3 x4 x5 x6).2.2.2.2.1 = krc1 + 1)) := by
  induction n with
  | zero => intro _ _ _ _ _ _ _ _ _ _ _ _ _ _ _ _ hp; exact ⟨hp, rfl, Or.inl rfl⟩
  | succ n ih =>
    intro kpw1 klf1 kmk ksc1 krc1 kno1 kme1 kwe1 kbo1 kre1 p1 p2 p3 x4 x5 x6 hp
    rw [lpX5_put_138_e]
    by_cases c : (5 : Int32) ≤ x6
    · rw [if_pos c]
      by_cases c2 : kpw1 = 0
      · rw [if_pos c2]; exact ⟨hp, rfl, Or.inl rfl⟩
      · rw [if_neg c2]; exact ⟨hp, rfl, Or.inr rfl⟩
    · rw [if_neg c]
      rcases hq : spX5_write kpw1 klf1 ksc1 kme1 (x4 + x6) (kre1 (Int32.toNatClampNeg x6)) with ⟨a, b, d⟩
      exact ih _ _ _ _ _ _ _ _ _ _ _ _ _ _ _ _ (k_writep hq hp)
theorem k_put97 (n : Nat) : ∀ (kpw1 klf1 kmk ksc1 krc1 kno1 : Int32) (kme1 kwe1 kbo1 kre1 : Nat → Int32) (p1 p2 p3 x4 x5 x6 : Int32), (kpw1 = 0 ∨ kpw1 = 1) → (((lpX5_put_97 n kpw1 klf1 kmk ksc1 krc1 kno1 kme1 kwe1 kbo1 kre1 p1 p2 p3 x4 x5 x6).2.1 = 0 ∨ (lpX5_put_97 n kpw1 klf1 kmk ksc1 krc1 kno1 kme1 kwe1 kbo1 kre1 p1 p2 p3 x4 x5 x6).2.1 = 1) ∧ (lpX5_put_97 n kpw1 klf1 kmk ksc1 krc1 kno1 kme1 kwe1 kbo1 kre1 p1 p2 p3 x4 x5 x6).2.2.2.1 = ksc1 ∧ ((lpX5_put_97 n kpw1 klf1 kmk ksc1 krc1 kno1 kme1 kwe1 kbo1 kre1 p1 p2 p3 x4 x5 x6).2.2.2.2.1 = krc1 ∨ (lpX5_put_97 n kpw1 klf1 kmk ksc1 krc1 kno1 kme1 kwe1 kbo1 kre1 p1 p2 p3 x4 x5 x6).2.2.2.2.1 = krc1 + 1)) := by
  induction n with
  | zero => intro _ _ _ _ _ _ _ _ _ _ _ _ _ _ _ _ hp; exact ⟨hp, rfl, Or.inl rfl⟩
  | succ n ih =>
    intro kpw1 klf1 kmk ksc1 krc1 kno1 kme1 kwe1 kbo1 kre1 p1 p2 p3 x4 x5 x6 hp
    rw [lpX5_put_97_e]
    by_cases c : (4 : Int32) ≤ x6
    · rw [if_pos c]; exact k_put138 6 _ _ _ _ _ _ _ _ _ _ _ _ _ _ _ _ hp
    · rw [if_neg c]; exact ih _ _ _ _ _ _ _ _ _ _ _ _ _ _ _ _ hp
theorem k_put97e {n : Nat} {kpw1 klf1 kmk ksc1 krc1 kno1 : Int32} {kme1 kwe1 kbo1 kre1 : Nat → Int32} {p1 p2 p3 x4 x5 x6 r a b c d e : Int32} {f g i j : Nat → Int32} (h : lpX5_put_97 n kpw1 klf1 kmk ksc1 krc1 kno1 kme1 kwe1 kbo1 kre1 p1 p2 p3 x4 x5 x6 = (r, a, b, c, d, e, f, g, i, j)) (hp : kpw1 = 0 ∨ kpw1 = 1) (hs : ∃ k : Nat, ksc1 = nI k ∧ k < 16) (hr : ∃ r : Nat, krc1 = nI r ∧ r ≤ 11) : (∃ k : Nat, c = nI k ∧ k < 16) ∧ (∃ r : Nat, d = nI r ∧ r ≤ 12) ∧ (a = 0 ∨ a = 1) := by
  have key := k_put97 n kpw1 klf1 kmk ksc1 krc1 kno1 kme1 kwe1 kbo1 kre1 p1 p2 p3 x4 x5 x6 hp
  rw [h] at key
  obtain ⟨m1, m2, m3⟩ := key
  dsimp only at m1 m2 m3
  obtain ⟨rr, hr1, hr2⟩ := hr
  refine ⟨by rw [m2]; exact hs, ?_, m1⟩
  rcases m3 with m3 | m3
  · exact ⟨rr, by rw [← hr1]; exact m3, by omega⟩
  · exact ⟨rr + 1, by rw [← nI_1, ← hr1]; exact m3, by omega⟩
theorem k_putp {kpw klf kmk ksc krc kno p1 p2 p3 r a b c d e : Int32} {kme kwe kbo kre f g i j : Nat → Int32} (h : spX5_put kpw klf kmk ksc krc kno kme kwe kbo kre p1 p2 p3 = (r, a, b, c, d, e, f, g, i, j)) (hs : ∃ k : Nat, ksc = nI k ∧ k < 16) (hr : ∃ r : Nat, krc = nI r ∧ r ≤ 12) (hp : kpw = 0 ∨ kpw = 1) : (∃ k : Nat, c = nI k ∧ k < 16) ∧ (∃ r : Nat, d = nI r ∧ r ≤ 12) ∧ (a = 0 ∨ a = 1) := by
  obtain ⟨rq, hrq, hrq1⟩ := hr
  unfold spX5_put at h
  rcases hq : spX5_begin kpw klf kmk ksc krc kno kme kwe kbo ((kme (Int32.toNatClampNeg ((256 : Int32) * ksc))) + (1 : Int32)) with ⟨a1, b1, c1, d1, e1, f1⟩
  rw [hq] at h; dsimp only at h
  obtain ⟨g1, g2, g3⟩ := k_beginp hq hs hp
  by_cases c1 : krc = (12 : Int32)
  · rw [if_pos c1] at h; exact k_put97e h g1 g2 ⟨0, g3, by decide⟩
  · rw [if_neg c1] at h
    by_cases c2 : (spX5_isFree ksc kme ((194 : Int32) + ((5 : Int32) * krc))) = 0
    · rw [if_pos c2] at h; exact k_put97e h g1 g2 ⟨0, g3, by decide⟩
    · rw [if_neg c2] at h
      have h12 : rq ≠ 12 := fun h => c1 (by rw [hrq, h]; rfl)
      exact k_put97e h hp hs ⟨rq, hrq, by omega⟩
def spX5_isRate (p1 : Int32) (p2 : Int32) (p3 : Int32) : Int32 := (if (spX5_in (Int32.toInt64 p1) (0 : Int64) (7 : Int64)) = 0 then (0 : Int32) else (if (spX5_in (Int32.toInt64 p2) (0 : Int64) (9 : Int64)) = 0 then (0 : Int32) else (if (spX5_in (Int32.toInt64 p3) (0 : Int64) (3 : Int64)) = 0 then (0 : Int32) else (1 : Int32))))
set_option maxHeartbeats 4000000 in
set_option maxRecDepth 100000 in
theorem c_X5_isRate (l : Launch) (p1 : Int32) (p2 : Int32) (p3 : Int32) : kRi l yX5_isRate cX5_isRate 3 (some .boolean) { frames := 1, cells := 0, slots := 0, locals := 25 } [.int p1, .int p2, .int p3] (fun _ => True) (spX5_isRate p1 p2 p3) := by
  refine Met.ofW (cc := cX5_isRate) (maxL := 3) (ret := (some .boolean)) (by decide) rfl ?_
  intro p e s m args below meth c s₁ B hml hv
  obtain ⟨rfl, -⟩ := hv
  have hx := B.exec
  have hb := B.bytes
  have hr := B.returns
  have hts : ∀ w ∈ kG, w.before _ s = true := fun w h => atoms_spec (ws := kT yX5_isRate cX5_isRate 3 (some .boolean)) B.pre w (List.mem_cons_of_mem _ h)
  have hown : s.vm.findClass RX5 = some m.cls := findClass_of_methodNamed B.named
  have hlocks := B.notSynchronized
  have hl := lv_entry ([.int p1, .int p2, .int p3]) (n := 3) (Nat.le_of_ble_eq_true rfl)
  rw [lg_entry_eq]
  generalize (lg_sl ([.int p1, .int p2, .int p3]) ++ List.replicate (3 - (lg_sl ([.int p1, .int p2, .int p3])).length) Slot.unset).toArray = ls at hl ⊢
  have hl : lv_has ls 3 [(0, .int p1), (1, .int p2), (2, .int p3)] := hl
  refine lv_iload_n hx hb dX5_isRate_0 rfl (lv_at hl 0 rfl) ?_
  refine lv_i2l (v := (Int32.toInt64 p1)) hx hb dX5_isRate_1 rfl ?_
  refine lv_lconst (v := 0) hx hb dX5_isRate_2 (by decide) ?_
  refine lv_ldc2 (v := 7) hx hb hown (hts _ kw_545) dX5_isRate_3 ?_
  refine k_rdSi (As := [.long (Int32.toInt64 p1), .long (0 : Int64), .long (7 : Int64)]) (rest := []) ⟨hx, hb, hml, hown, hts⟩ k_self (c_X5_in l (Int32.toInt64 p1) (0 : Int64) (7 : Int64)) kv_X5_52 rfl rfl ⟨Nat.le_of_ble_eq_true rfl, Nat.le_of_ble_eq_true rfl⟩ rfl hl.1 rfl (Nat.le_of_ble_eq_true rfl) dX5_isRate_6 ⟨Nat.zero_le _, Nat.zero_le _⟩ ?_
  refine lv_if_eq (tgt := 40) hx hb dX5_isRate_9 (by decide) (fun c_9 => ?_) (fun c_9 => ?_)
  · refine lv_iconst (v := 0) hx hb dX5_isRate_40 (by decide) ?_
    exact W.zret (v := (0 : Int32)) hx hb hr rfl (fun t ht hW => ⟨(0 : Int32), rfl, (show _ = _ from (by unfold spX5_isRate; rw [if_pos c_9] : spX5_isRate p1 p2 p3 = (0 : Int32)).symm), ht⟩) (fun q h => by cases h) dX5_isRate_41
  · refine lv_iload_n hx hb dX5_isRate_12 rfl (lv_at hl 1 rfl) ?_
    refine lv_i2l (v := (Int32.toInt64 p2)) hx hb dX5_isRate_13 rfl ?_
    refine lv_lconst (v := 0) hx hb dX5_isRate_14 (by decide) ?_
    refine lv_ldc2 (v := 9) hx hb hown (hts _ kw_549) dX5_isRate_15 ?_
    refine k_rdSi (As := [.long (Int32.toInt64 p2), .long (0 : Int64), .long (9 : Int64)]) (rest := []) ⟨hx, hb, hml, hown, hts⟩ k_self (c_X5_in l (Int32.toInt64 p2) (0 : Int64) (9 : Int64)) kv_X5_52 rfl rfl ⟨Nat.le_of_ble_eq_true rfl, Nat.le_of_ble_eq_true rfl⟩ rfl hl.1 rfl (Nat.le_of_ble_eq_true rfl) dX5_isRate_18 ⟨Nat.zero_le _, Nat.zero_le _⟩ ?_
    refine lv_if_eq (tgt := 40) hx hb dX5_isRate_21 (by decide) (fun c_21 => ?_) (fun c_21 => ?_)
    · refine lv_iconst (v := 0) hx hb dX5_isRate_40 (by decide) ?_
      exact W.zret (v := (0 : Int32)) hx hb hr rfl (fun t ht hW => ⟨(0 : Int32), rfl, (show _ = _ from (by unfold spX5_isRate; rw [if_neg c_9, if_pos c_21] : spX5_isRate p1 p2 p3 = (0 : Int32)).symm), ht⟩) (fun q h => by cases h) dX5_isRate_41
    · refine lv_iload_n hx hb dX5_isRate_24 rfl (lv_at hl 2 rfl) ?_
      refine lv_i2l (v := (Int32.toInt64 p3)) hx hb dX5_isRate_25 rfl ?_
      refine lv_lconst (v := 0) hx hb dX5_isRate_26 (by decide) ?_
      refine lv_ldc2 (v := 3) hx hb hown (hts _ kw_550) dX5_isRate_27 ?_
      refine k_rdSi (As := [.long (Int32.toInt64 p3), .long (0 : Int64), .long (3 : Int64)]) (rest := []) ⟨hx, hb, hml, hown, hts⟩ k_self (c_X5_in l (Int32.toInt64 p3) (0 : Int64) (3 : Int64)) kv_X5_52 rfl rfl ⟨Nat.le_of_ble_eq_true rfl, Nat.le_of_ble_eq_true rfl⟩ rfl hl.1 rfl (Nat.le_of_ble_eq_true rfl) dX5_isRate_30 ⟨Nat.zero_le _, Nat.zero_le _⟩ ?_
      refine lv_if_eq (tgt := 40) hx hb dX5_isRate_33 (by decide) (fun c_33 => ?_) (fun c_33 => ?_)
      · refine lv_iconst (v := 0) hx hb dX5_isRate_40 (by decide) ?_
        exact W.zret (v := (0 : Int32)) hx hb hr rfl (fun t ht hW => ⟨(0 : Int32), rfl, (show _ = _ from (by unfold spX5_isRate; rw [if_neg c_9, if_neg c_21, if_pos c_33] : spX5_isRate p1 p2 p3 = (0 : Int32)).symm), ht⟩) (fun q h => by cases h) dX5_isRate_41
      · refine lv_iconst (v := 1) hx hb dX5_isRate_36 (by decide) ?_
        refine lv_goto (tgt := 41) hx hb dX5_isRate_37 (by decide) ?_
        exact W.zret (v := (1 : Int32)) hx hb hr rfl (fun t ht hW => ⟨(1 : Int32), rfl, (show _ = _ from (by unfold spX5_isRate; rw [if_neg c_9, if_neg c_21, if_neg c_33] : spX5_isRate p1 p2 p3 = (1 : Int32)).symm), ht⟩) (fun q h => by cases h) dX5_isRate_41
theorem k_inI {x : Int32} {lo hi : Int64} (h : ¬ spX5_in (Int32.toInt64 x) lo hi = 0) : lo.toInt ≤ x.toInt ∧ x.toInt ≤ hi.toInt := by
  unfold spX5_in at h
  by_cases c1 : lg_cmp (Int32.toInt64 x) lo < 0
  · rw [if_pos c1] at h; exact absurd rfl h
  · rw [if_neg c1] at h
    by_cases c2 : 0 < lg_cmp (Int32.toInt64 x) hi
    · rw [if_pos c2] at h; exact absurd rfl h
    · rw [lg_cmp_lt, Int64.lt_iff_toInt_lt, Int32.toInt_toInt64] at c1
      rw [lg_cmp_gt, Int64.lt_iff_toInt_lt, Int32.toInt_toInt64] at c2
      omega
theorem k_inN {x : Int32} {hi : Int64} (h : ¬ spX5_in (Int32.toInt64 x) 0 hi = 0) : ∃ k : Nat, x = nI k ∧ (k : Int) ≤ hi.toInt := by
  have h1 := k_inI h
  have h0 : (0 : Int64).toInt = 0 := rfl
  obtain ⟨k, e, hk⟩ := k_nat (a := x) (by omega)
  exact ⟨k, e, by omega⟩
theorem k_rate {a b c : Int32} (h : ¬ spX5_isRate a b c = 0) : ∃ i j k : Nat, a = nI i ∧ b = nI j ∧ c = nI k ∧ i < 8 ∧ j < 10 ∧ k < 4 := by
  unfold spX5_isRate at h
  by_cases c1 : spX5_in (Int32.toInt64 a) (0 : Int64) (7 : Int64) = 0
  · rw [if_pos c1] at h; exact absurd rfl h
  · rw [if_neg c1] at h
    by_cases c2 : spX5_in (Int32.toInt64 b) (0 : Int64) (9 : Int64) = 0
    · rw [if_pos c2] at h; exact absurd rfl h
    · rw [if_neg c2] at h
      by_cases c3 : spX5_in (Int32.toInt64 c) (0 : Int64) (3 : Int64) = 0
      · rw [if_pos c3] at h; exact absurd rfl h
      · obtain ⟨i, e1, h1⟩ := k_inN c1
        obtain ⟨j, e2, h2⟩ := k_inN c2
        obtain ⟨k, e3, h3⟩ := k_inN c3
        have l1 : (7 : Int64).toInt = 7 := rfl
        have l2 : (9 : Int64).toInt = 9 := rfl
        have l3 : (3 : Int64).toInt = 3 := rfl
        exact ⟨i, j, k, e1, e2, e3, by omega, by omega, by omega⟩
def spX5_place (p1 : Int32) (p2 : Int32) (p3 : Int32) : Int32 := ((((40 : Int32) * p1) + ((4 : Int32) * p2)) + p3)
set_option maxHeartbeats 4000000 in
set_option maxRecDepth 100000 in
theorem c_X5_place (l : Launch) (p1 : Int32) (p2 : Int32) (p3 : Int32) : kRi l yX5_place cX5_place 3 (some .int) { frames := 0, cells := 0, slots := 0, locals := 0 } [.int p1, .int p2, .int p3] (fun _ => True) (spX5_place p1 p2 p3) := by
  refine Met.ofW (cc := cX5_place) (maxL := 3) (ret := (some .int)) (by decide) rfl ?_
  intro p e s m args below meth c s₁ B hml hv
  obtain ⟨rfl, -⟩ := hv
  have hx := B.exec
  have hb := B.bytes
  have hr := B.returns
  have hts : ∀ w ∈ kG, w.before _ s = true := fun w h => atoms_spec (ws := kT yX5_place cX5_place 3 (some .int)) B.pre w (List.mem_cons_of_mem _ h)
  have hown : s.vm.findClass RX5 = some m.cls := findClass_of_methodNamed B.named
  have hlocks := B.notSynchronized
  have hl := lv_entry ([.int p1, .int p2, .int p3]) (n := 3) (Nat.le_of_ble_eq_true rfl)
  rw [lg_entry_eq]
  generalize (lg_sl ([.int p1, .int p2, .int p3]) ++ List.replicate (3 - (lg_sl ([.int p1, .int p2, .int p3])).length) Slot.unset).toArray = ls at hl ⊢
  have hl : lv_has ls 3 [(0, .int p1), (1, .int p2), (2, .int p3)] := hl
  refine lv_bipush (v := 40) hx hb dX5_place_0 (by decide) ?_
  refine lv_iload_n hx hb dX5_place_2 rfl (lv_at hl 0 rfl) ?_
  refine lv_imul hx hb dX5_place_3 ?_
  refine lv_iconst (v := 4) hx hb dX5_place_4 (by decide) ?_
  refine lv_iload_n hx hb dX5_place_5 rfl (lv_at hl 1 rfl) ?_
  refine lv_imul hx hb dX5_place_6 ?_
  refine lv_iadd hx hb dX5_place_7 ?_
  refine lv_iload_n hx hb dX5_place_8 rfl (lv_at hl 2 rfl) ?_
  refine lv_iadd hx hb dX5_place_9 ?_
  exact W.iret (v := ((((40 : Int32) * p1) + ((4 : Int32) * p2)) + p3)) hx hb hr (fun t ht hW => ⟨((((40 : Int32) * p1) + ((4 : Int32) * p2)) + p3), rfl, (show _ = _ from (by unfold spX5_place; rfl : spX5_place p1 p2 p3 = ((((40 : Int32) * p1) + ((4 : Int32) * p2)) + p3)).symm), ht⟩) (fun q h => by cases h) dX5_place_10
theorem k_ratein {a b c : Int32} (h : ¬ spX5_isRate a b c = 0) : vp_in (spX5_place a b c) 320 := by
  obtain ⟨i, j, k, rfl, rfl, rfl, h1, h2, h3⟩ := k_rate h
  unfold spX5_place
  simp only [show (40 : Int32) = nI 40 from rfl, show (4 : Int32) = nI 4 from rfl, pk_mul, nI_add]
  exact vp_in_nI (by omega) (by decide)
def spX5_isDay (p1 : Int32) : Int32 := (spX5_in (Int32.toInt64 p1) (0 : Int64) (100000 : Int64))
set_option maxHeartbeats 4000000 in
set_option maxRecDepth 100000 in
theorem c_X5_isDay (l : Launch) (p1 : Int32) : kRi l yX5_isDay cX5_isDay 1 (some .boolean) { frames := 1, cells := 0, slots := 0, locals := 25 } [.int p1] (fun _ => True) (spX5_isDay p1) := by
  refine Met.ofW (cc := cX5_isDay) (maxL := 1) (ret := (some .boolean)) (by decide) rfl ?_
  intro p e s m args below meth c s₁ B hml hv
  obtain ⟨rfl, -⟩ := hv
  have hx := B.exec
  have hb := B.bytes
  have hr := B.returns
  have hts : ∀ w ∈ kG, w.before _ s = true := fun w h => atoms_spec (ws := kT yX5_isDay cX5_isDay 1 (some .boolean)) B.pre w (List.mem_cons_of_mem _ h)
  have hown : s.vm.findClass RX5 = some m.cls := findClass_of_methodNamed B.named
  have hlocks := B.notSynchronized
  have hl := lv_entry ([.int p1]) (n := 1) (Nat.le_of_ble_eq_true rfl)
  rw [lg_entry_eq]
  generalize (lg_sl ([.int p1]) ++ List.replicate (1 - (lg_sl ([.int p1])).length) Slot.unset).toArray = ls at hl ⊢
  have hl : lv_has ls 1 [(0, .int p1)] := hl
  refine lv_iload_n hx hb dX5_isDay_0 rfl (lv_at hl 0 rfl) ?_
  refine lv_i2l (v := (Int32.toInt64 p1)) hx hb dX5_isDay_1 rfl ?_
  refine lv_lconst (v := 0) hx hb dX5_isDay_2 (by decide) ?_
  refine lv_ldc2 (v := 100000) hx hb hown (hts _ kw_596) dX5_isDay_3 ?_
  refine k_rdSi (As := [.long (Int32.toInt64 p1), .long (0 : Int64), .long (100000 : Int64)]) (rest := []) ⟨hx, hb, hml, hown, hts⟩ k_self (c_X5_in l (Int32.toInt64 p1) (0 : Int64) (100000 : Int64)) kv_X5_52 rfl rfl ⟨Nat.le_of_ble_eq_true rfl, Nat.le_of_ble_eq_true rfl⟩ rfl hl.1 rfl (Nat.le_of_ble_eq_true rfl) dX5_isDay_6 ⟨Nat.zero_le _, Nat.zero_le _⟩ ?_
  exact W.zret (v := (spX5_in (Int32.toInt64 p1) (0 : Int64) (100000 : Int64))) hx hb hr (k_bool (k_in01 _ _ _)) (fun t ht hW => ⟨(spX5_in (Int32.toInt64 p1) (0 : Int64) (100000 : Int64)), rfl, (show _ = _ from (by unfold spX5_isDay; rfl : spX5_isDay p1 = (spX5_in (Int32.toInt64 p1) (0 : Int64) (100000 : Int64))).symm), ht⟩) (fun q h => by cases h) dX5_isDay_9
theorem k_isday {x : Int32} (h : ¬ spX5_isDay x = 0) : ∃ k : Nat, x = nI k ∧ k ≤ 100000 := by
  unfold spX5_isDay at h
  obtain ⟨k, e, h1⟩ := k_inN h
  have l2 : (100000 : Int64).toInt = 100000 := rfl
  exact ⟨k, e, by omega⟩
theorem k_dayr {x : Int32} (h : ¬ spX5_isDay x = 0) : ∃ k : Nat, (x - x / (32 : Int32) * (32 : Int32)) = nI (k % 32) ∧ k < 2 ^ 31 := by
  obtain ⟨k, rfl, h1⟩ := k_isday h
  exact ⟨k, pk_rem (d := 32) (by omega) (by decide) (by decide), by omega⟩
theorem k_bnn {a d : Int32} (h1 : ¬ spX5_in (Int32.toInt64 a) (0 : Int64) (15 : Int64) = 0) (h2 : ¬ spX5_isDay d = 0) : ¬ (a + ((16 : Int32) * d)) < 0 := by
  obtain ⟨i, rfl, hi⟩ := k_inN h1
  obtain ⟨j, rfl, hj⟩ := k_isday h2
  have l2 : (15 : Int64).toInt = 15 := rfl
  simp only [show (16 : Int32) = nI 16 from rfl, pk_mul, nI_add]
  exact nI_pos (by omega)
def spX5_code (kmn : Int32) (p1 : Int32) (p2 : Int32) : Int32 := (Int64.toInt32 ((((((Int32.toInt64 kmn) * (1009 : Int64)) + (Int32.toInt64 p1)) * (1000003 : Int64)) + ((Int32.toInt64 p2) * (7919 : Int64))) - (((((Int32.toInt64 kmn) * (1009 : Int64)) + (Int32.toInt64 p1)) * (1000003 : Int64)) + ((Int32.toInt64 p2) * (7919 : Int64))) / (1000000 : Int64) * (1000000 : Int64)))
set_option maxHeartbeats 4000000 in
set_option maxRecDepth 100000 in
theorem c_X5_code (l : Launch) (D : va_G) (kO km kw kb kr kd kt : Nat) (cA : ClassId) (kth : Int32) (kmn : Int32) (kpw : Int32) (klf : Int32) (kmk : Int32) (ksc : Int32) (krc : Int32) (kno : Int32) (kpp : Int32) (kpc : Int64) (kme : Nat → Int32) (kwe : Nat → Int32) (kbo : Nat → Int32) (kre : Nat → Int32) (kdr : Nat → Int32) (ktb : Nat → Int32) (p1 : Int32) (p2 : Int32)  : kRi l yX5_code cX5_code 5 (some .int) { frames := 0, cells := 0, slots := 0, locals := 0 } [.ref kO, .int p1, .int p2] (kB D (wK kO km kw kb kr kd kt cA kth kmn kpw klf kmk ksc krc kno kpp kpc kme kwe kbo kre kdr ktb) [(cA, .int)]) (spX5_code kmn p1 p2) := by
  refine Met.ofW (cc := cX5_code) (maxL := 5) (ret := (some .int)) (by decide) rfl ?_
  intro p e s m args below meth c s₁ B hml hv
  obtain ⟨rfl, hP, hK⟩ := hv
  have hx := B.exec
  have hb := B.bytes
  have hr := B.returns
  have hts : ∀ w ∈ kG, w.before _ s = true := fun w h => atoms_spec (ws := kT yX5_code cX5_code 5 (some .int)) B.pre w (List.mem_cons_of_mem _ h)
  have hown : s.vm.findClass RX5 = some m.cls := findClass_of_methodNamed B.named
  have hlocks := B.notSynchronized
  have hl := lv_entry ([.ref kO, .int p1, .int p2]) (n := 5) (Nat.le_of_ble_eq_true rfl)
  rw [lg_entry_eq]
  generalize (lg_sl ([.ref kO, .int p1, .int p2]) ++ List.replicate (5 - (lg_sl ([.ref kO, .int p1, .int p2])).length) Slot.unset).toArray = ls at hl ⊢
  have hl : lv_has ls 5 [(0, .ref kO), (1, .int p1), (2, .int p2)] := hl
  refine lv_aload_n hx hb dX5_code_0 rfl (lv_at hl 0 rfl) ?_
  refine va_get (D := D) (ci := 5) (v := .int kmn) (C := RX5) (T := TX5) (N := 16) hx hb hts k_inX5 hown hK hP 0 rfl rfl 1 (by decide) (hts _ kw_490) (fun _ h9 => h9) rfl dX5_code_1 ?_
  refine lv_i2l (v := (Int32.toInt64 kmn)) hx hb dX5_code_4 rfl ?_
  refine lv_ldc2 (v := 1009) hx hb hown (hts _ kw_614) dX5_code_5 ?_
  refine lv_lmul hx hb dX5_code_8 ?_
  refine lv_iload_n hx hb dX5_code_9 rfl (lv_at hl 1 rfl) ?_
  refine lv_i2l (v := (Int32.toInt64 p1)) hx hb dX5_code_10 rfl ?_
  refine lv_ladd hx hb dX5_code_11 ?_
  refine lv_ldc2 (v := 1000003) hx hb hown (hts _ kw_615) dX5_code_12 ?_
  refine lv_lmul hx hb dX5_code_15 ?_
  refine lv_iload_n hx hb dX5_code_16 rfl (lv_at hl 2 rfl) ?_
  refine lv_i2l (v := (Int32.toInt64 p2)) hx hb dX5_code_17 rfl ?_
  refine lv_ldc2 (v := 7919) hx hb hown (hts _ kw_616) dX5_code_18 ?_
  refine lv_lmul hx hb dX5_code_21 ?_
  refine lv_ladd hx hb dX5_code_22 ?_
  refine lv_lstore_n (lv' := [(3, .long (((((Int32.toInt64 kmn) * (1009 : Int64)) + (Int32.toInt64 p1)) * (1000003 : Int64)) + ((Int32.toInt64 p2) * (7919 : Int64)))), (0, .ref kO), (1, .int p1), (2, .int p2)]) hx hb dX5_code_23 rfl hl (by decide) rfl (fun ls hl => ?_)
  refine lv_lload_n hx hb dX5_code_24 rfl (lv_at hl 0 rfl) ?_
  refine lv_ldc2 (v := 1000000) hx hb hown (hts _ kw_617) dX5_code_25 ?_
  refine lv_lrem hx hb dX5_code_28 (by decide) ?_
  refine lv_l2i (v := (Int64.toInt32 ((((((Int32.toInt64 kmn) * (1009 : Int64)) + (Int32.toInt64 p1)) * (1000003 : Int64)) + ((Int32.toInt64 p2) * (7919 : Int64))) - (((((Int32.toInt64 kmn) * (1009 : Int64)) + (Int32.toInt64 p1)) * (1000003 : Int64)) + ((Int32.toInt64 p2) * (7919 : Int64))) / (1000000 : Int64) * (1000000 : Int64)))) hx hb dX5_code_29 rfl ?_
  exact W.iret (v := (Int64.toInt32 ((((((Int32.toInt64 kmn) * (1009 : Int64)) + (Int32.toInt64 p1)) * (1000003 : Int64)) + ((Int32.toInt64 p2) * (7919 : Int64))) - (((((Int32.toInt64 kmn) * (1009 : Int64)) + (Int32.toInt64 p1)) * (1000003 : Int64)) + ((Int32.toInt64 p2) * (7919 : Int64))) / (1000000 : Int64) * (1000000 : Int64)))) hx hb hr (fun t ht hW => ⟨(Int64.toInt32 ((((((Int32.toInt64 kmn) * (1009 : Int64)) + (Int32.toInt64 p1)) * (1000003 : Int64)) + ((Int32.toInt64 p2) * (7919 : Int64))) - (((((Int32.toInt64 kmn) * (1009 : Int64)) + (Int32.toInt64 p1)) * (1000003 : Int64)) + ((Int32.toInt64 p2) * (7919 : Int64))) / (1000000 : Int64) * (1000000 : Int64))), rfl, (show _ = _ from (by unfold spX5_code; rfl : spX5_code kmn p1 p2 = (Int64.toInt32 ((((((Int32.toInt64 kmn) * (1009 : Int64)) + (Int32.toInt64 p1)) * (1000003 : Int64)) + ((Int32.toInt64 p2) * (7919 : Int64))) - (((((Int32.toInt64 kmn) * (1009 : Int64)) + (Int32.toInt64 p1)) * (1000003 : Int64)) + ((Int32.toInt64 p2) * (7919 : Int64))) / (1000000 : Int64) * (1000000 : Int64)))).symm), ht⟩) (fun q h => by cases h) dX5_code_30
def spX5_rate (kth : Int32) (kdr : Nat → Int32) (p1 : Int32) (p2 : Int32) (p3 : Int32) (p4 : Int32) : Int32 × Int32 × (Nat → Int32) := (if (spX5_isRate p1 p2 p3) = 0 then ((-1 : Int32), (0 : Int32), kdr) else (if (spX5_in (Int32.toInt64 p4) (0 : Int64) (999999999 : Int64)) = 0 then ((-1 : Int32), (0 : Int32), kdr) else ((1 : Int32), (0 : Int32), (upd kdr (Int32.toNatClampNeg (spX5_place p1 p2 p3)) p4))))
set_option maxHeartbeats 4000000 in
set_option maxRecDepth 100000 in
theorem c_X5_rate (l : Launch) (D : va_G) (kO km kw kb kr kd kt : Nat) (cA : ClassId) (kth : Int32) (kmn : Int32) (kpw : Int32) (klf : Int32) (kmk : Int32) (ksc : Int32) (krc : Int32) (kno : Int32) (kpp : Int32) (kpc : Int64) (kme : Nat → Int32) (kwe : Nat → Int32) (kbo : Nat → Int32) (kre : Nat → Int32) (kdr : Nat → Int32) (ktb : Nat → Int32) (p1 : Int32) (p2 : Int32) (p3 : Int32) (p4 : Int32)  : kWi l yX5_rate cX5_rate 5 (some .int) { frames := 2, cells := 0, slots := 0, locals := 47 } D [(cA, .int)] [.ref kO, .int p1, .int p2, .int p3, .int p4] (wK kO km kw kb kr kd kt cA kth kmn kpw klf kmk ksc krc kno kpp kpc kme kwe kbo kre kdr ktb) (spX5_rate kth kdr p1 p2 p3 p4).1 (wK kO km kw kb kr kd kt cA (spX5_rate kth kdr p1 p2 p3 p4).2.1 kmn kpw klf kmk ksc krc kno kpp kpc kme kwe kbo kre (spX5_rate kth kdr p1 p2 p3 p4).2.2 ktb) := by
  intro sz
  refine Met.ofW (cc := cX5_rate) (maxL := 5) (ret := (some .int)) (by decide) rfl ?_
  intro p e s m args below meth c s₁ B hml hv
  obtain ⟨rfl, hsz, hP, hK, hD0⟩ := hv
  have hx := B.exec
  have hb := B.bytes
  have hr := B.returns
  have hts : ∀ w ∈ kG, w.before _ s = true := fun w h => atoms_spec (ws := kT yX5_rate cX5_rate 5 (some .int)) B.pre w (List.mem_cons_of_mem _ h)
  have hown : s.vm.findClass RX5 = some m.cls := findClass_of_methodNamed B.named
  have hlocks := B.notSynchronized
  subst hsz
  have hD := hD0.self (sz := s.heap.size)
  generalize hAe : va_A (wK kO km kw kb kr kd kt cA kth kmn kpw klf kmk ksc krc kno kpp kpc kme kwe kbo kre kdr ktb) s.heap.size = A at hD ⊢
  have hA : ∀ q : Nat, s.heap.size ≤ q → A q := fun q h => by rw [← hAe]; exact Or.inr h
  have hS : va_S A s.heap s.heap [] := va_S.rf
  have hl := lv_entry ([.ref kO, .int p1, .int p2, .int p3, .int p4]) (n := 5) (Nat.le_of_ble_eq_true rfl)
  rw [lg_entry_eq]
  generalize (lg_sl ([.ref kO, .int p1, .int p2, .int p3, .int p4]) ++ List.replicate (5 - (lg_sl ([.ref kO, .int p1, .int p2, .int p3, .int p4])).length) Slot.unset).toArray = ls at hl ⊢
  have hl : lv_has ls 5 [(0, .ref kO), (1, .int p1), (2, .int p2), (3, .int p3), (4, .int p4)] := hl
  refine lv_aload_n hx hb dX5_rate_0 rfl (lv_at hl 0 rfl) ?_
  refine lv_iconst (v := 0) hx hb dX5_rate_1 (by decide) ?_
  refine va_put (D := D) (ci := 5) (v := .int (0 : Int32)) (ty := .int) (C := RX5) (T := TX5) (N := 16) hx hb hts k_inX5 tyX5 tyX5_ok nmX5 hown hK hP hD hS 0 rfl rfl 0 (by decide) (hts _ kw_489) (fun _ h9 => h9) rfl (by decide +kernel) rfl rfl (Nat.le_of_ble_eq_true rfl) dX5_rate_2 (fun H locs hP hD hS => ?_)
  have hP : va_P D vwCl (wK kO km kw kb kr kd kt cA (0 : Int32) kmn kpw klf kmk ksc krc kno kpp kpc kme kwe kbo kre kdr ktb) H := hP
  have hD : va_D A (wK kO km kw kb kr kd kt cA (0 : Int32) kmn kpw klf kmk ksc krc kno kpp kpc kme kwe kbo kre kdr ktb) := hD
  refine lv_iload_n hx hb dX5_rate_5 rfl (lv_at hl 1 rfl) ?_
  refine lv_iload_n hx hb dX5_rate_6 rfl (lv_at hl 2 rfl) ?_
  refine lv_iload_n hx hb dX5_rate_7 rfl (lv_at hl 3 rfl) ?_
  refine k_rdSi (As := [.int p1, .int p2, .int p3]) (rest := []) ⟨hx, hb, hml, hown, hts⟩ k_self (c_X5_isRate l p1 p2 p3) kv_X5_108 rfl rfl ⟨Nat.le_of_ble_eq_true rfl, Nat.le_of_ble_eq_true rfl⟩ rfl hl.1 rfl (Nat.le_of_ble_eq_true rfl) dX5_rate_8 ⟨Nat.zero_le _, Nat.zero_le _⟩ ?_
  refine lv_if_eq (tgt := 27) hx hb dX5_rate_11 (by decide) (fun c_11 => ?_) (fun c_11 => ?_)
  · refine lv_iconst (v := -1) hx hb dX5_rate_27 (by decide) ?_
    have hE : spX5_rate kth kdr p1 p2 p3 p4 = ((-1 : Int32), (0 : Int32), kdr) := by unfold spX5_rate; rw [if_pos c_11]
    exact W.iret (v := (-1 : Int32)) hx hb hr (fun t ht hW => ⟨⟨(-1 : Int32), (), rfl, by rw [hE], by rw [hE, ht]; exact hP, va_K.moved hW.alike hK, by rw [hE]; exact hD⟩, hS.F ht⟩) hS.2.2 dX5_rate_28
  · refine lv_iload hx hb dX5_rate_14 (lv_at hl 4 rfl) ?_
    refine lv_i2l (v := (Int32.toInt64 p4)) hx hb dX5_rate_16 rfl ?_
    refine lv_lconst (v := 0) hx hb dX5_rate_17 (by decide) ?_
    refine lv_ldc2 (v := 999999999) hx hb hown (hts _ kw_551) dX5_rate_18 ?_
    refine k_rdSi (As := [.long (Int32.toInt64 p4), .long (0 : Int64), .long (999999999 : Int64)]) (rest := []) ⟨hx, hb, hml, hown, hts⟩ k_self (c_X5_in l (Int32.toInt64 p4) (0 : Int64) (999999999 : Int64)) kv_X5_52 rfl rfl ⟨Nat.le_of_ble_eq_true rfl, Nat.le_of_ble_eq_true rfl⟩ rfl hl.1 rfl (Nat.le_of_ble_eq_true rfl) dX5_rate_21 ⟨Nat.zero_le _, Nat.zero_le _⟩ ?_
    refine lv_if_ne (tgt := 29) hx hb dX5_rate_24 (by decide) (fun c_24 => ?_) (fun c_24 => ?_)
    · refine lv_aload_n hx hb dX5_rate_29 rfl (lv_at hl 0 rfl) ?_
      refine va_get (D := D) (ci := 5) (v := .ref kd) (C := RX5) (T := TX5) (N := 16) hx hb hts k_inX5 hown hK hP 0 rfl rfl 6 (by decide) (hts _ kw_495) (fun _ h9 => h9) rfl dX5_rate_30 ?_
      refine lv_iload_n hx hb dX5_rate_33 rfl (lv_at hl 1 rfl) ?_
      refine lv_iload_n hx hb dX5_rate_34 rfl (lv_at hl 2 rfl) ?_
      refine lv_iload_n hx hb dX5_rate_35 rfl (lv_at hl 3 rfl) ?_
      refine k_rdSi (As := [.int p1, .int p2, .int p3]) (rest := [.ref kd]) ⟨hx, hb, hml, hown, hts⟩ k_self (c_X5_place l p1 p2 p3) kv_X5_112 rfl rfl ⟨Nat.le_of_ble_eq_true rfl, Nat.le_of_ble_eq_true rfl⟩ rfl hl.1 rfl (Nat.le_of_ble_eq_true rfl) dX5_rate_36 ⟨Nat.zero_le _, Nat.zero_le _⟩ ?_
      refine lv_iload hx hb dX5_rate_39 (lv_at hl 4 rfl) ?_
      refine va_iast hx hb hK hP hD hS 5 0 rfl rfl (k_ratein c_11) dX5_rate_41 (fun H locs hP hD hS => ?_)
      have hP : va_P D vwCl (wK kO km kw kb kr kd kt cA (0 : Int32) kmn kpw klf kmk ksc krc kno kpp kpc kme kwe kbo kre (upd kdr (Int32.toNatClampNeg (spX5_place p1 p2 p3)) p4) ktb) H := hP
      have hD : va_D A (wK kO km kw kb kr kd kt cA (0 : Int32) kmn kpw klf kmk ksc krc kno kpp kpc kme kwe kbo kre (upd kdr (Int32.toNatClampNeg (spX5_place p1 p2 p3)) p4) ktb) := hD
      refine lv_iconst (v := 1) hx hb dX5_rate_42 (by decide) ?_
      have hE : spX5_rate kth kdr p1 p2 p3 p4 = ((1 : Int32), (0 : Int32), (upd kdr (Int32.toNatClampNeg (spX5_place p1 p2 p3)) p4)) := by unfold spX5_rate; rw [if_neg c_11, if_neg c_24]
      exact W.iret (v := (1 : Int32)) hx hb hr (fun t ht hW => ⟨⟨(1 : Int32), (), rfl, by rw [hE], by rw [hE, ht]; exact hP, va_K.moved hW.alike hK, by rw [hE]; exact hD⟩, hS.F ht⟩) hS.2.2 dX5_rate_43
    · refine lv_iconst (v := -1) hx hb dX5_rate_27 (by decide) ?_
      have hE : spX5_rate kth kdr p1 p2 p3 p4 = ((-1 : Int32), (0 : Int32), kdr) := by unfold spX5_rate; rw [if_neg c_11, if_pos c_24]
      exact W.iret (v := (-1 : Int32)) hx hb hr (fun t ht hW => ⟨⟨(-1 : Int32), (), rfl, by rw [hE], by rw [hE, ht]; exact hP, va_K.moved hW.alike hK, by rw [hE]; exact hD⟩, hS.F ht⟩) hS.2.2 dX5_rate_28
def spX5_weigh (kth : Int32) (ktb : Nat → Int32) (p1 : Int32) (p2 : Int32) (p3 : Int32) : Int32 × Int32 := (if (spX5_in (Int32.toInt64 p2) (1 : Int64) (500 : Int64)) = 0 then ((-1 : Int32), (0 : Int32)) else (if (spX5_isRate p1 ((p2 - (1 : Int32)) / (50 : Int32)) p3) = 0 then ((-1 : Int32), (0 : Int32)) else (if (ktb (Int32.toNatClampNeg (spX5_place p1 ((p2 - (1 : Int32)) / (50 : Int32)) p3))) = 0 then ((-1 : Int32), (0 : Int32)) else ((ktb (Int32.toNatClampNeg (spX5_place p1 ((p2 - (1 : Int32)) / (50 : Int32)) p3))), (0 : Int32)))))
set_option maxHeartbeats 4000000 in
set_option maxRecDepth 100000 in
theorem c_X5_weigh (l : Launch) (D : va_G) (kO km kw kb kr kd kt : Nat) (cA : ClassId) (kth : Int32) (kmn : Int32) (kpw : Int32) (klf : Int32) (kmk : Int32) (ksc : Int32) (krc : Int32) (kno : Int32) (kpp : Int32) (kpc : Int64) (kme : Nat → Int32) (kwe : Nat → Int32) (kbo : Nat → Int32) (kre : Nat → Int32) (kdr : Nat → Int32) (ktb : Nat → Int32) (p1 : Int32) (p2 : Int32) (p3 : Int32)  : kWi l yX5_weigh cX5_weigh 6 (some .int) { frames := 2, cells := 0, slots := 0, locals := 47 } D [(cA, .int)] [.ref kO, .int p1, .int p2, .int p3] (wK kO km kw kb kr kd kt cA kth kmn kpw klf kmk ksc krc kno kpp kpc kme kwe kbo kre kdr ktb) (spX5_weigh kth ktb p1 p2 p3).1 (wK kO km kw kb kr kd kt cA (spX5_weigh kth ktb p1 p2 p3).2 kmn kpw klf kmk ksc krc kno kpp kpc kme kwe kbo kre kdr ktb) := by
  intro sz
  refine Met.ofW (cc := cX5_weigh) (maxL := 6) (ret := (some .int)) (by decide) rfl ?_
  intro p e s m args below meth c s₁ B hml hv
  obtain ⟨rfl, hsz, hP, hK, hD0⟩ := hv
  have hx := B.exec
  have hb := B.bytes
  have hr := B.returns
  have hts : ∀ w ∈ kG, w.before _ s = true := fun w h => atoms_spec (ws := kT yX5_weigh cX5_weigh 6 (some .int)) B.pre w (List.mem_cons_of_mem _ h)
  have hown : s.vm.findClass RX5 = some m.cls := findClass_of_methodNamed B.named
  have hlocks := B.notSynchronized
  subst hsz
  have hD := hD0.self (sz := s.heap.size)
  generalize hAe : va_A (wK kO km kw kb kr kd kt cA kth kmn kpw klf kmk ksc krc kno kpp kpc kme kwe kbo kre kdr ktb) s.heap.size = A at hD ⊢
  have hA : ∀ q : Nat, s.heap.size ≤ q → A q := fun q h => by rw [← hAe]; exact Or.inr h
  have hS : va_S A s.heap s.heap [] := va_S.rf
  have hl := lv_entry ([.ref kO, .int p1, .int p2, .int p3]) (n := 6) (Nat.le_of_ble_eq_true rfl)
  rw [lg_entry_eq]
  generalize (lg_sl ([.ref kO, .int p1, .int p2, .int p3]) ++ List.replicate (6 - (lg_sl ([.ref kO, .int p1, .int p2, .int p3])).length) Slot.unset).toArray = ls at hl ⊢
  have hl : lv_has ls 6 [(0, .ref kO), (1, .int p1), (2, .int p2), (3, .int p3)] := hl
  refine lv_aload_n hx hb dX5_weigh_0 rfl (lv_at hl 0 rfl) ?_
  refine lv_iconst (v := 0) hx hb dX5_weigh_1 (by decide) ?_
  refine va_put (D := D) (ci := 5) (v := .int (0 : Int32)) (ty := .int) (C := RX5) (T := TX5) (N := 16) hx hb hts k_inX5 tyX5 tyX5_ok nmX5 hown hK hP hD hS 0 rfl rfl 0 (by decide) (hts _ kw_489) (fun _ h9 => h9) rfl (by decide +kernel) rfl rfl (Nat.le_of_ble_eq_true rfl) dX5_weigh_2 (fun H locs hP hD hS => ?_)
  have hP : va_P D vwCl (wK kO km kw kb kr kd kt cA (0 : Int32) kmn kpw klf kmk ksc krc kno kpp kpc kme kwe kbo kre kdr ktb) H := hP
  have hD : va_D A (wK kO km kw kb kr kd kt cA (0 : Int32) kmn kpw klf kmk ksc krc kno kpp kpc kme kwe kbo kre kdr ktb) := hD
  refine lv_iload_n hx hb dX5_weigh_5 rfl (lv_at hl 2 rfl) ?_
  refine lv_iconst (v := 1) hx hb dX5_weigh_6 (by decide) ?_
  refine lv_isub hx hb dX5_weigh_7 ?_
  refine lv_bipush (v := 50) hx hb dX5_weigh_8 (by decide) ?_
  refine lv_idiv hx hb dX5_weigh_10 (by decide) ?_
  refine lv_istore (lv' := [(4, .int ((p2 - (1 : Int32)) / (50 : Int32))), (0, .ref kO), (1, .int p1), (2, .int p2), (3, .int p3)]) hx hb dX5_weigh_11 hl (by decide) rfl (fun ls hl => ?_)
  refine lv_iload_n hx hb dX5_weigh_13 rfl (lv_at hl 3 rfl) ?_
  refine lv_i2l (v := (Int32.toInt64 p2)) hx hb dX5_weigh_14 rfl ?_
  refine lv_lconst (v := 1) hx hb dX5_weigh_15 (by decide) ?_
  refine lv_ldc2 (v := 500) hx hb hown (hts _ kw_588) dX5_weigh_16 ?_
  refine k_rdSi (As := [.long (Int32.toInt64 p2), .long (1 : Int64), .long (500 : Int64)]) (rest := []) ⟨hx, hb, hml, hown, hts⟩ k_self (c_X5_in l (Int32.toInt64 p2) (1 : Int64) (500 : Int64)) kv_X5_52 rfl rfl ⟨Nat.le_of_ble_eq_true rfl, Nat.le_of_ble_eq_true rfl⟩ rfl hl.1 rfl (Nat.le_of_ble_eq_true rfl) dX5_weigh_19 ⟨Nat.zero_le _, Nat.zero_le _⟩ ?_
  refine lv_if_eq (tgt := 35) hx hb dX5_weigh_22 (by decide) (fun c_22 => ?_) (fun c_22 => ?_)
  · refine lv_iconst (v := -1) hx hb dX5_weigh_35 (by decide) ?_
    have hE : spX5_weigh kth ktb p1 p2 p3 = ((-1 : Int32), (0 : Int32)) := by unfold spX5_weigh; rw [if_pos c_22]
    exact W.iret (v := (-1 : Int32)) hx hb hr (fun t ht hW => ⟨⟨(-1 : Int32), (), rfl, by rw [hE], by rw [hE, ht]; exact hP, va_K.moved hW.alike hK, by rw [hE]; exact hD⟩, hS.F ht⟩) hS.2.2 dX5_weigh_36
  · refine lv_iload_n hx hb dX5_weigh_25 rfl (lv_at hl 2 rfl) ?_
    refine lv_iload hx hb dX5_weigh_26 (lv_at hl 0 rfl) ?_
    refine lv_iload_n hx hb dX5_weigh_28 rfl (lv_at hl 4 rfl) ?_
    refine k_rdSi (As := [.int p1, .int ((p2 - (1 : Int32)) / (50 : Int32)), .int p3]) (rest := []) ⟨hx, hb, hml, hown, hts⟩ k_self (c_X5_isRate l p1 ((p2 - (1 : Int32)) / (50 : Int32)) p3) kv_X5_108 rfl rfl ⟨Nat.le_of_ble_eq_true rfl, Nat.le_of_ble_eq_true rfl⟩ rfl hl.1 rfl (Nat.le_of_ble_eq_true rfl) dX5_weigh_29 ⟨Nat.zero_le _, Nat.zero_le _⟩ ?_
    refine lv_if_ne (tgt := 37) hx hb dX5_weigh_32 (by decide) (fun c_32 => ?_) (fun c_32 => ?_)
    · refine lv_aload_n hx hb dX5_weigh_37 rfl (lv_at hl 1 rfl) ?_
      refine va_get (D := D) (ci := 5) (v := .ref kt) (C := RX5) (T := TX5) (N := 16) hx hb hts k_inX5 hown hK hP 0 rfl rfl 7 (by decide) (hts _ kw_496) (fun _ h9 => h9) rfl dX5_weigh_38 ?_
      refine lv_iload_n hx hb dX5_weigh_41 rfl (lv_at hl 2 rfl) ?_
      refine lv_iload hx hb dX5_weigh_42 (lv_at hl 0 rfl) ?_
      refine lv_iload_n hx hb dX5_weigh_44 rfl (lv_at hl 4 rfl) ?_
      refine k_rdSi (As := [.int p1, .int ((p2 - (1 : Int32)) / (50 : Int32)), .int p3]) (rest := [.ref kt]) ⟨hx, hb, hml, hown, hts⟩ k_self (c_X5_place l p1 ((p2 - (1 : Int32)) / (50 : Int32)) p3) kv_X5_112 rfl rfl ⟨Nat.le_of_ble_eq_true rfl, Nat.le_of_ble_eq_true rfl⟩ rfl hl.1 rfl (Nat.le_of_ble_eq_true rfl) dX5_weigh_45 ⟨Nat.zero_le _, Nat.zero_le _⟩ ?_
      refine va_iald hx hb hK hP 6 0 rfl rfl (k_ratein c_32) dX5_weigh_48 ?_
      refine lv_istore (lv' := [(5, .int (ktb (Int32.toNatClampNeg (spX5_place p1 ((p2 - (1 : Int32)) / (50 : Int32)) p3)))), (4, .int ((p2 - (1 : Int32)) / (50 : Int32))), (0, .ref kO), (1, .int p1), (2, .int p2), (3, .int p3)]) hx hb dX5_weigh_49 hl (by decide) rfl (fun ls hl => ?_)
      refine lv_iload hx hb dX5_weigh_51 (lv_at hl 0 rfl) ?_
      refine lv_if_ne (tgt := 60) hx hb dX5_weigh_53 (by decide) (fun c_53 => ?_) (fun c_53 => ?_)
      · refine lv_iload hx hb dX5_weigh_60 (lv_at hl 0 rfl) ?_
        have hE : spX5_weigh kth ktb p1 p2 p3 = ((ktb (Int32.toNatClampNeg (spX5_place p1 ((p2 - (1 : Int32)) / (50 : Int32)) p3))), (0 : Int32)) := by unfold spX5_weigh; rw [if_neg c_22, if_neg c_32, if_neg c_53]
        exact W.iret (v := (ktb (Int32.toNatClampNeg (spX5_place p1 ((p2 - (1 : Int32)) / (50 : Int32)) p3)))) hx hb hr (fun t ht hW => ⟨⟨(ktb (Int32.toNatClampNeg (spX5_place p1 ((p2 - (1 : Int32)) / (50 : Int32)) p3))), (), rfl, by rw [hE], by rw [hE, ht]; exact hP, va_K.moved hW.alike hK, by rw [hE]; exact hD⟩, hS.F ht⟩) hS.2.2 dX5_weigh_62
      · refine lv_iconst (v := -1) hx hb dX5_weigh_56 (by decide) ?_
        refine lv_goto (tgt := 62) hx hb dX5_weigh_57 (by decide) ?_
        have hE : spX5_weigh kth ktb p1 p2 p3 = ((-1 : Int32), (0 : Int32)) := by unfold spX5_weigh; rw [if_neg c_22, if_neg c_32, if_pos c_53]
        exact W.iret (v := (-1 : Int32)) hx hb hr (fun t ht hW => ⟨⟨(-1 : Int32), (), rfl, by rw [hE], by rw [hE, ht]; exact hP, va_K.moved hW.alike hK, by rw [hE]; exact hD⟩, hS.F ht⟩) hS.2.2 dX5_weigh_62
    · refine lv_iconst (v := -1) hx hb dX5_weigh_35 (by decide) ?_
      have hE : spX5_weigh kth ktb p1 p2 p3 = ((-1 : Int32), (0 : Int32)) := by unfold spX5_weigh; rw [if_neg c_22, if_pos c_32]
      exact W.iret (v := (-1 : Int32)) hx hb hr (fun t ht hW => ⟨⟨(-1 : Int32), (), rfl, by rw [hE], by rw [hE, ht]; exact hP, va_K.moved hW.alike hK, by rw [hE]; exact hD⟩, hS.F ht⟩) hS.2.2 dX5_weigh_36
def spX5_printed (kth : Int32) (kpp : Int32) (kpc : Int64) (p1 : Int32) : Int64 × Int32 := (if p1 = 0 then ((Int32.toInt64 kpp), (0 : Int32)) else (if p1 = (1 : Int32) then (kpc, (0 : Int32)) else ((-1 : Int64), (0 : Int32))))
set_option maxHeartbeats 4000000 in
set_option maxRecDepth 100000 in
theorem c_X5_printed (l : Launch) (D : va_G) (kO km kw kb kr kd kt : Nat) (cA : ClassId) (kth : Int32) (kmn : Int32) (kpw : Int32) (klf : Int32) (kmk : Int32) (ksc : Int32) (krc : Int32) (kno : Int32) (kpp : Int32) (kpc : Int64) (kme : Nat → Int32) (kwe : Nat → Int32) (kbo : Nat → Int32) (kre : Nat → Int32) (kdr : Nat → Int32) (ktb : Nat → Int32) (p1 : Int32)  : kWl l yX5_printed cX5_printed 2 (some .long) { frames := 0, cells := 0, slots := 0, locals := 0 } D [(cA, .int)] [.ref kO, .int p1] (wK kO km kw kb kr kd kt cA kth kmn kpw klf kmk ksc krc kno kpp kpc kme kwe kbo kre kdr ktb) (spX5_printed kth kpp kpc p1).1 (wK kO km kw kb kr kd kt cA (spX5_printed kth kpp kpc p1).2 kmn kpw klf kmk ksc krc kno kpp kpc kme kwe kbo kre kdr ktb) := by
  intro sz
  refine Met.ofW (cc := cX5_printed) (maxL := 2) (ret := (some .long)) (by decide) rfl ?_
  intro p e s m args below meth c s₁ B hml hv
  obtain ⟨rfl, hsz, hP, hK, hD0⟩ := hv
  have hx := B.exec
  have hb := B.bytes
  have hr := B.returns
  have hts : ∀ w ∈ kG, w.before _ s = true := fun w h => atoms_spec (ws := kT yX5_printed cX5_printed 2 (some .long)) B.pre w (List.mem_cons_of_mem _ h)
  have hown : s.vm.findClass RX5 = some m.cls := findClass_of_methodNamed B.named
  have hlocks := B.notSynchronized
  subst hsz
  have hD := hD0.self (sz := s.heap.size)
  generalize hAe : va_A (wK kO km kw kb kr kd kt cA kth kmn kpw klf kmk ksc krc kno kpp kpc kme kwe kbo kre kdr ktb) s.heap.size = A at hD ⊢
  have hA : ∀ q : Nat, s.heap.size ≤ q → A q := fun q h => by rw [← hAe]; exact Or.inr h
  have hS : va_S A s.heap s.heap [] := va_S.rf
  have hl := lv_entry ([.ref kO, .int p1]) (n := 2) (Nat.le_of_ble_eq_true rfl)
  rw [lg_entry_eq]
  generalize (lg_sl ([.ref kO, .int p1]) ++ List.replicate (2 - (lg_sl ([.ref kO, .int p1])).length) Slot.unset).toArray = ls at hl ⊢
  have hl : lv_has ls 2 [(0, .ref kO), (1, .int p1)] := hl
  refine lv_aload_n hx hb dX5_printed_0 rfl (lv_at hl 0 rfl) ?_
  refine lv_iconst (v := 0) hx hb dX5_printed_1 (by decide) ?_
  refine va_put (D := D) (ci := 5) (v := .int (0 : Int32)) (ty := .int) (C := RX5) (T := TX5) (N := 16) hx hb hts k_inX5 tyX5 tyX5_ok nmX5 hown hK hP hD hS 0 rfl rfl 0 (by decide) (hts _ kw_489) (fun _ h9 => h9) rfl (by decide +kernel) rfl rfl (Nat.le_of_ble_eq_true rfl) dX5_printed_2 (fun H locs hP hD hS => ?_)
  have hP : va_P D vwCl (wK kO km kw kb kr kd kt cA (0 : Int32) kmn kpw klf kmk ksc krc kno kpp kpc kme kwe kbo kre kdr ktb) H := hP
  have hD : va_D A (wK kO km kw kb kr kd kt cA (0 : Int32) kmn kpw klf kmk ksc krc kno kpp kpc kme kwe kbo kre kdr ktb) := hD
  refine lv_iload_n hx hb dX5_printed_5 rfl (lv_at hl 1 rfl) ?_
  refine lv_if_ne (tgt := 17) hx hb dX5_printed_6 (by decide) (fun c_6 => ?_) (fun c_6 => ?_)
  · refine lv_iload_n hx hb dX5_printed_17 rfl (lv_at hl 1 rfl) ?_
    refine lv_iconst (v := 1) hx hb dX5_printed_18 (by decide) ?_
    refine lv_icmp_ne (tgt := 29) hx hb dX5_printed_19 (by decide) (fun c_19 => ?_) (fun c_19 => ?_)
    · refine lv_ldc2 (v := -1) hx hb hown (hts _ kw_605) dX5_printed_29 ?_
      have hE : spX5_printed kth kpp kpc p1 = ((-1 : Int64), (0 : Int32)) := by unfold spX5_printed; rw [if_neg c_6, if_neg c_19]
      exact W.lret (v := (-1 : Int64)) hx hb hr (fun t ht hW => ⟨⟨(-1 : Int64), (), rfl, by rw [hE], by rw [hE, ht]; exact hP, va_K.moved hW.alike hK, by rw [hE]; exact hD⟩, hS.F ht⟩) hS.2.2 dX5_printed_32
    · refine lv_aload_n hx hb dX5_printed_22 rfl (lv_at hl 0 rfl) ?_
      refine va_get (D := D) (ci := 5) (v := .long kpc) (C := RX5) (T := TX5) (N := 16) hx hb hts k_inX5 hown hK hP 0 rfl rfl 15 (by decide) (hts _ kw_504) (fun _ h9 => h9) rfl dX5_printed_23 ?_
      refine lv_goto (tgt := 32) hx hb dX5_printed_26 (by decide) ?_
      have hE : spX5_printed kth kpp kpc p1 = (kpc, (0 : Int32)) := by unfold spX5_printed; rw [if_neg c_6, if_pos c_19]
      exact W.lret (v := kpc) hx hb hr (fun t ht hW => ⟨⟨kpc, (), rfl, by rw [hE], by rw [hE, ht]; exact hP, va_K.moved hW.alike hK, by rw [hE]; exact hD⟩, hS.F ht⟩) hS.2.2 dX5_printed_32
  · refine lv_aload_n hx hb dX5_printed_9 rfl (lv_at hl 0 rfl) ?_
    refine va_get (D := D) (ci := 5) (v := .int kpp) (C := RX5) (T := TX5) (N := 16) hx hb hts k_inX5 hown hK hP 0 rfl rfl 14 (by decide) (hts _ kw_503) (fun _ h9 => h9) rfl dX5_printed_10 ?_
    refine lv_i2l (v := (Int32.toInt64 kpp)) hx hb dX5_printed_13 rfl ?_
    refine lv_goto (tgt := 32) hx hb dX5_printed_14 (by decide) ?_
    have hE : spX5_printed kth kpp kpc p1 = ((Int32.toInt64 kpp), (0 : Int32)) := by unfold spX5_printed; rw [if_pos c_6]
    exact W.lret (v := (Int32.toInt64 kpp)) hx hb hr (fun t ht hW => ⟨⟨(Int32.toInt64 kpp), (), rfl, by rw [hE], by rw [hE, ht]; exact hP, va_K.moved hW.alike hK, by rw [hE]; exact hD⟩, hS.F ht⟩) hS.2.2 dX5_printed_32
def spX5_codeFor (kth : Int32) (kmn : Int32) (p1 : Int32) (p2 : Int32) : Int32 × Int32 := (if p1 < 0 then ((-1 : Int32), (0 : Int32)) else (if 0 ≤ p2 then ((spX5_code kmn p1 p2), (0 : Int32)) else ((-1 : Int32), (0 : Int32))))
set_option maxHeartbeats 4000000 in
set_option maxRecDepth 100000 in
theorem c_X5_codeFor (l : Launch) (D : va_G) (kO km kw kb kr kd kt : Nat) (cA : ClassId) (kth : Int32) (kmn : Int32) (kpw : Int32) (klf : Int32) (kmk : Int32) (ksc : Int32) (krc : Int32) (kno : Int32) (kpp : Int32) (kpc : Int64) (kme : Nat → Int32) (kwe : Nat → Int32) (kbo : Nat → Int32) (kre : Nat → Int32) (kdr : Nat → Int32) (ktb : Nat → Int32) (p1 : Int32) (p2 : Int32)  : kWi l yX5_codeFor cX5_codeFor 3 (some .int) { frames := 1, cells := 0, slots := 0, locals := 24 } D [(cA, .int)] [.ref kO, .int p1, .int p2] (wK kO km kw kb kr kd kt cA kth kmn kpw klf kmk ksc krc kno kpp kpc kme kwe kbo kre kdr ktb) (spX5_codeFor kth kmn p1 p2).1 (wK kO km kw kb kr kd kt cA (spX5_codeFor kth kmn p1 p2).2 kmn kpw klf kmk ksc krc kno kpp kpc kme kwe kbo kre kdr ktb) := by
  intro sz
  refine Met.ofW (cc := cX5_codeFor) (maxL := 3) (ret := (some .int)) (by decide) rfl ?_
  intro p e s m args below meth c s₁ B hml hv
  obtain ⟨rfl, hsz, hP, hK, hD0⟩ := hv
  have hx := B.exec
  have hb := B.bytes
  have hr := B.returns
  have hts : ∀ w ∈ kG, w.before _ s = true := fun w h => atoms_spec (ws := kT yX5_codeFor cX5_codeFor 3 (some .int)) B.pre w (List.mem_cons_of_mem _ h)
  have hown : s.vm.findClass RX5 = some m.cls := findClass_of_methodNamed B.named
  have hlocks := B.notSynchronized
  subst hsz
  have hD := hD0.self (sz := s.heap.size)
  generalize hAe : va_A (wK kO km kw kb kr kd kt cA kth kmn kpw klf kmk ksc krc kno kpp kpc kme kwe kbo kre kdr ktb) s.heap.size = A at hD ⊢
  have hA : ∀ q : Nat, s.heap.size ≤ q → A q := fun q h => by rw [← hAe]; exact Or.inr h
  have hS : va_S A s.heap s.heap [] := va_S.rf
  have hl := lv_entry ([.ref kO, .int p1, .int p2]) (n := 3) (Nat.le_of_ble_eq_true rfl)
  rw [lg_entry_eq]
  generalize (lg_sl ([.ref kO, .int p1, .int p2]) ++ List.replicate (3 - (lg_sl ([.ref kO, .int p1, .int p2])).length) Slot.unset).toArray = ls at hl ⊢
  have hl : lv_has ls 3 [(0, .ref kO), (1, .int p1), (2, .int p2)] := hl
  refine lv_aload_n hx hb dX5_codeFor_0 rfl (lv_at hl 0 rfl) ?_
  refine lv_iconst (v := 0) hx hb dX5_codeFor_1 (by decide) ?_
  refine va_put (D := D) (ci := 5) (v := .int (0 : Int32)) (ty := .int) (C := RX5) (T := TX5) (N := 16) hx hb hts k_inX5 tyX5 tyX5_ok nmX5 hown hK hP hD hS 0 rfl rfl 0 (by decide) (hts _ kw_489) (fun _ h9 => h9) rfl (by decide +kernel) rfl rfl (Nat.le_of_ble_eq_true rfl) dX5_codeFor_2 (fun H locs hP hD hS => ?_)
  have hP : va_P D vwCl (wK kO km kw kb kr kd kt cA (0 : Int32) kmn kpw klf kmk ksc krc kno kpp kpc kme kwe kbo kre kdr ktb) H := hP
  have hD : va_D A (wK kO km kw kb kr kd kt cA (0 : Int32) kmn kpw klf kmk ksc krc kno kpp kpc kme kwe kbo kre kdr ktb) := hD
  refine lv_iload_n hx hb dX5_codeFor_5 rfl (lv_at hl 1 rfl) ?_
  refine lv_if_lt (tgt := 13) hx hb dX5_codeFor_6 (by decide) (fun c_6 => ?_) (fun c_6 => ?_)
  · refine lv_iconst (v := -1) hx hb dX5_codeFor_13 (by decide) ?_
    refine lv_goto (tgt := 23) hx hb dX5_codeFor_14 (by decide) ?_
    have hE : spX5_codeFor kth kmn p1 p2 = ((-1 : Int32), (0 : Int32)) := by unfold spX5_codeFor; rw [if_pos c_6]
    exact W.iret (v := (-1 : Int32)) hx hb hr (fun t ht hW => ⟨⟨(-1 : Int32), (), rfl, by rw [hE], by rw [hE, ht]; exact hP, va_K.moved hW.alike hK, by rw [hE]; exact hD⟩, hS.F ht⟩) hS.2.2 dX5_codeFor_23
  · refine lv_iload_n hx hb dX5_codeFor_9 rfl (lv_at hl 2 rfl) ?_
    refine lv_if_ge (tgt := 17) hx hb dX5_codeFor_10 (by decide) (fun c_10 => ?_) (fun c_10 => ?_)
    · refine lv_aload_n hx hb dX5_codeFor_17 rfl (lv_at hl 0 rfl) ?_
      refine lv_iload_n hx hb dX5_codeFor_18 rfl (lv_at hl 1 rfl) ?_
      refine lv_iload_n hx hb dX5_codeFor_19 rfl (lv_at hl 2 rfl) ?_
      refine k_rdVi (As := [.int p1, .int p2]) (rest := []) (ci := 5) (q0 := 0) ⟨hx, hb, hml, hown, hts⟩ k_self (c_X5_code l D kO km kw kb kr kd kt cA (0 : Int32) kmn kpw klf kmk ksc krc kno kpp kpc kme kwe kbo kre kdr ktb p1 p2) kv_X5_148 (hP.sub [0, 1, 2, 3, 4, 5, 6] rfl) (hK.sub [0] rfl) rfl rfl rfl rfl ⟨Nat.le_of_ble_eq_true rfl, Nat.le_of_ble_eq_true rfl⟩ rfl hl.1 rfl (Nat.le_of_ble_eq_true rfl) dX5_codeFor_20 ⟨Nat.zero_le _, Nat.zero_le _⟩ ?_
      have hE : spX5_codeFor kth kmn p1 p2 = ((spX5_code kmn p1 p2), (0 : Int32)) := by unfold spX5_codeFor; rw [if_neg c_6, if_pos c_10]
      exact W.iret (v := (spX5_code kmn p1 p2)) hx hb hr (fun t ht hW => ⟨⟨(spX5_code kmn p1 p2), (), rfl, by rw [hE], by rw [hE, ht]; exact hP, va_K.moved hW.alike hK, by rw [hE]; exact hD⟩, hS.F ht⟩) hS.2.2 dX5_codeFor_23
    · refine lv_iconst (v := -1) hx hb dX5_codeFor_13 (by decide) ?_
      refine lv_goto (tgt := 23) hx hb dX5_codeFor_14 (by decide) ?_
      have hE : spX5_codeFor kth kmn p1 p2 = ((-1 : Int32), (0 : Int32)) := by unfold spX5_codeFor; rw [if_neg c_6, if_neg c_10]
      exact W.iret (v := (-1 : Int32)) hx hb hr (fun t ht hW => ⟨⟨(-1 : Int32), (), rfl, by rw [hE], by rw [hE, ht]; exact hP, va_K.moved hW.alike hK, by rw [hE]; exact hD⟩, hS.F ht⟩) hS.2.2 dX5_codeFor_23
def spX5_book (kth : Int32) (kpw : Int32) (kbo : Nat → Int32) (p1 : Int32) : Int64 × Int32 := (if kpw = 0 then ((-7 : Int64), (0 : Int32)) else (if (spX5_in (Int32.toInt64 p1) (0 : Int64) (9 : Int64)) = 0 then ((-1 : Int64), (0 : Int32)) else (if (4 : Int32) ≤ p1 then ((Int32.toInt64 (kbo (Int32.toNatClampNeg ((6 : Int32) + p1)))), (0 : Int32)) else ((spX5_sum kbo ((2 : Int32) + ((2 : Int32) * p1))), (0 : Int32)))))
set_option maxHeartbeats 4000000 in
set_option maxRecDepth 100000 in
theorem c_X5_book (l : Launch) (D : va_G) (kO km kw kb kr kd kt : Nat) (cA : ClassId) (kth : Int32) (kmn : Int32) (kpw : Int32) (klf : Int32) (kmk : Int32) (ksc : Int32) (krc : Int32) (kno : Int32) (kpp : Int32) (kpc : Int64) (kme : Nat → Int32) (kwe : Nat → Int32) (kbo : Nat → Int32) (kre : Nat → Int32) (kdr : Nat → Int32) (ktb : Nat → Int32) (p1 : Int32)  : kWl l yX5_book cX5_book 2 (some .long) { frames := 1, cells := 0, slots := 0, locals := 25 } D [(cA, .int)] [.ref kO, .int p1] (wK kO km kw kb kr kd kt cA kth kmn kpw klf kmk ksc krc kno kpp kpc kme kwe kbo kre kdr ktb) (spX5_book kth kpw kbo p1).1 (wK kO km kw kb kr kd kt cA (spX5_book kth kpw kbo p1).2 kmn kpw klf kmk ksc krc kno kpp kpc kme kwe kbo kre kdr ktb) := by
  intro sz
  refine Met.ofW (cc := cX5_book) (maxL := 2) (ret := (some .long)) (by decide) rfl ?_
  intro p e s m args below meth c s₁ B hml hv
  obtain ⟨rfl, hsz, hP, hK, hD0⟩ := hv
  have hx := B.exec
  have hb := B.bytes
  have hr := B.returns
  have hts : ∀ w ∈ kG, w.before _ s = true := fun w h => atoms_spec (ws := kT yX5_book cX5_book 2 (some .long)) B.pre w (List.mem_cons_of_mem _ h)
  have hown : s.vm.findClass RX5 = some m.cls := findClass_of_methodNamed B.named
  have hlocks := B.notSynchronized
  subst hsz
  have hD := hD0.self (sz := s.heap.size)
  generalize hAe : va_A (wK kO km kw kb kr kd kt cA kth kmn kpw klf kmk ksc krc kno kpp kpc kme kwe kbo kre kdr ktb) s.heap.size = A at hD ⊢
  have hA : ∀ q : Nat, s.heap.size ≤ q → A q := fun q h => by rw [← hAe]; exact Or.inr h
  have hS : va_S A s.heap s.heap [] := va_S.rf
  have hl := lv_entry ([.ref kO, .int p1]) (n := 2) (Nat.le_of_ble_eq_true rfl)
  rw [lg_entry_eq]
  generalize (lg_sl ([.ref kO, .int p1]) ++ List.replicate (2 - (lg_sl ([.ref kO, .int p1])).length) Slot.unset).toArray = ls at hl ⊢
  have hl : lv_has ls 2 [(0, .ref kO), (1, .int p1)] := hl
  refine lv_aload_n hx hb dX5_book_0 rfl (lv_at hl 0 rfl) ?_
  refine lv_iconst (v := 0) hx hb dX5_book_1 (by decide) ?_
  refine va_put (D := D) (ci := 5) (v := .int (0 : Int32)) (ty := .int) (C := RX5) (T := TX5) (N := 16) hx hb hts k_inX5 tyX5 tyX5_ok nmX5 hown hK hP hD hS 0 rfl rfl 0 (by decide) (hts _ kw_489) (fun _ h9 => h9) rfl (by decide +kernel) rfl rfl (Nat.le_of_ble_eq_true rfl) dX5_book_2 (fun H locs hP hD hS => ?_)
  have hP : va_P D vwCl (wK kO km kw kb kr kd kt cA (0 : Int32) kmn kpw klf kmk ksc krc kno kpp kpc kme kwe kbo kre kdr ktb) H := hP
  have hD : va_D A (wK kO km kw kb kr kd kt cA (0 : Int32) kmn kpw klf kmk ksc krc kno kpp kpc kme kwe kbo kre kdr ktb) := hD
  refine lv_aload_n hx hb dX5_book_5 rfl (lv_at hl 0 rfl) ?_
  refine va_get (D := D) (ci := 5) (v := .int kpw) (C := RX5) (T := TX5) (N := 16) hx hb hts k_inX5 hown hK hP 0 rfl rfl 8 (by decide) (hts _ kw_497) (fun _ h9 => h9) rfl dX5_book_6 ?_
  refine lv_if_ne (tgt := 16) hx hb dX5_book_9 (by decide) (fun c_9 => ?_) (fun c_9 => ?_)
  · refine lv_iload_n hx hb dX5_book_16 rfl (lv_at hl 1 rfl) ?_
    refine lv_i2l (v := (Int32.toInt64 p1)) hx hb dX5_book_17 rfl ?_
    refine lv_lconst (v := 0) hx hb dX5_book_18 (by decide) ?_
    refine lv_ldc2 (v := 9) hx hb hown (hts _ kw_549) dX5_book_19 ?_
    refine k_rdSi (As := [.long (Int32.toInt64 p1), .long (0 : Int64), .long (9 : Int64)]) (rest := []) ⟨hx, hb, hml, hown, hts⟩ k_self (c_X5_in l (Int32.toInt64 p1) (0 : Int64) (9 : Int64)) kv_X5_52 rfl rfl ⟨Nat.le_of_ble_eq_true rfl, Nat.le_of_ble_eq_true rfl⟩ rfl hl.1 rfl (Nat.le_of_ble_eq_true rfl) dX5_book_22 ⟨Nat.zero_le _, Nat.zero_le _⟩ ?_
    refine lv_if_ne (tgt := 34) hx hb dX5_book_25 (by decide) (fun c_25 => ?_) (fun c_25 => ?_)
    · refine lv_iload_n hx hb dX5_book_34 rfl (lv_at hl 1 rfl) ?_
      refine lv_iconst (v := 4) hx hb dX5_book_35 (by decide) ?_
      refine lv_icmp_ge (tgt := 51) hx hb dX5_book_36 (by decide) (fun c_36 => ?_) (fun c_36 => ?_)
      · refine lv_aload_n hx hb dX5_book_51 rfl (lv_at hl 0 rfl) ?_
        refine va_get (D := D) (ci := 5) (v := .ref kb) (C := RX5) (T := TX5) (N := 16) hx hb hts k_inX5 hown hK hP 0 rfl rfl 4 (by decide) (hts _ kw_493) (fun _ h9 => h9) rfl dX5_book_52 ?_
        refine lv_bipush (v := 6) hx hb dX5_book_55 (by decide) ?_
        refine lv_iload_n hx hb dX5_book_57 rfl (lv_at hl 1 rfl) ?_
        refine lv_iadd hx hb dX5_book_58 ?_
        refine va_iald hx hb hK hP 3 0 rfl rfl (by obtain ⟨w, hw, hw1⟩ := k_inN c_25; have l2 : (9 : Int64).toInt = 9 := rfl; simp only [hw, show (6 : Int32) = nI 6 from rfl, nI_add]; exact vp_in_nI (by omega) (by decide)) dX5_book_59 ?_
        refine lv_i2l (v := (Int32.toInt64 (kbo (Int32.toNatClampNeg ((6 : Int32) + p1))))) hx hb dX5_book_60 rfl ?_
        have hE : spX5_book kth kpw kbo p1 = ((Int32.toInt64 (kbo (Int32.toNatClampNeg ((6 : Int32) + p1)))), (0 : Int32)) := by unfold spX5_book; rw [if_neg c_9, if_neg c_25, if_pos c_36]
        exact W.lret (v := (Int32.toInt64 (kbo (Int32.toNatClampNeg ((6 : Int32) + p1))))) hx hb hr (fun t ht hW => ⟨⟨(Int32.toInt64 (kbo (Int32.toNatClampNeg ((6 : Int32) + p1)))), (), rfl, by rw [hE], by rw [hE, ht]; exact hP, va_K.moved hW.alike hK, by rw [hE]; exact hD⟩, hS.F ht⟩) hS.2.2 dX5_book_61
      · refine lv_aload_n hx hb dX5_book_39 rfl (lv_at hl 0 rfl) ?_
        refine lv_iconst (v := 2) hx hb dX5_book_40 (by decide) ?_
        refine lv_iconst (v := 2) hx hb dX5_book_41 (by decide) ?_
        refine lv_iload_n hx hb dX5_book_42 rfl (lv_at hl 1 rfl) ?_
        refine lv_imul hx hb dX5_book_43 ?_
        refine lv_iadd hx hb dX5_book_44 ?_
        refine k_rdVl (As := [.int ((2 : Int32) + ((2 : Int32) * p1))]) (rest := []) (ci := 5) (q0 := 0) ⟨hx, hb, hml, hown, hts⟩ k_self (c_X5_sum l D kO km kw kb kr kd kt cA (0 : Int32) kmn kpw klf kmk ksc krc kno kpp kpc kme kwe kbo kre kdr ktb ((2 : Int32) + ((2 : Int32) * p1)) (by obtain ⟨w, hw, hw1⟩ := k_inN c_25; have h4 : ¬ 4 ≤ w := fun h => c_36 (by rw [hw]; exact nI_le (a := 4) h (by have l2 : (9 : Int64).toInt = 9 := rfl; omega)); exact ⟨2 + 2 * w, by simp only [hw, show (2 : Int32) = nI 2 from rfl, pk_mul, nI_add], by omega⟩)) kv_X5_91 (hP.sub [0, 1, 2, 3, 4, 5, 6] rfl) (hK.sub [0] rfl) rfl rfl rfl rfl ⟨Nat.le_of_ble_eq_true rfl, Nat.le_of_ble_eq_true rfl⟩ rfl hl.1 rfl (Nat.le_of_ble_eq_true rfl) dX5_book_45 ⟨Nat.zero_le _, Nat.zero_le _⟩ ?_
        refine lv_goto (tgt := 61) hx hb dX5_book_48 (by decide) ?_
        have hE : spX5_book kth kpw kbo p1 = ((spX5_sum kbo ((2 : Int32) + ((2 : Int32) * p1))), (0 : Int32)) := by unfold spX5_book; rw [if_neg c_9, if_neg c_25, if_neg c_36]
        exact W.lret (v := (spX5_sum kbo ((2 : Int32) + ((2 : Int32) * p1)))) hx hb hr (fun t ht hW => ⟨⟨(spX5_sum kbo ((2 : Int32) + ((2 : Int32) * p1))), (), rfl, by rw [hE], by rw [hE, ht]; exact hP, va_K.moved hW.alike hK, by rw [hE]; exact hD⟩, hS.F ht⟩) hS.2.2 dX5_book_61
    · refine lv_ldc2 (v := -1) hx hb hown (hts _ kw_605) dX5_book_28 ?_
      refine lv_goto (tgt := 61) hx hb dX5_book_31 (by decide) ?_
      have hE : spX5_book kth kpw kbo p1 = ((-1 : Int64), (0 : Int32)) := by unfold spX5_book; rw [if_neg c_9, if_pos c_25]
      exact W.lret (v := (-1 : Int64)) hx hb hr (fun t ht hW => ⟨⟨(-1 : Int64), (), rfl, by rw [hE], by rw [hE, ht]; exact hP, va_K.moved hW.alike hK, by rw [hE]; exact hD⟩, hS.F ht⟩) hS.2.2 dX5_book_61
  · refine lv_ldc2 (v := -7) hx hb hown (hts _ kw_631) dX5_book_12 ?_
    have hE : spX5_book kth kpw kbo p1 = ((-7 : Int64), (0 : Int32)) := by unfold spX5_book; rw [if_pos c_9]
    exact W.lret (v := (-7 : Int64)) hx hb hr (fun t ht hW => ⟨⟨(-7 : Int64), (), rfl, by rw [hE], by rw [hE, ht]; exact hP, va_K.moved hW.alike hK, by rw [hE]; exact hD⟩, hS.F ht⟩) hS.2.2 dX5_book_15
def spX5_counter (kth : Int32) (kpw : Int32) (kbo : Nat → Int32) (p1 : Int32) (p2 : Int32) : Int64 × Int32 := (if kpw = 0 then ((-7 : Int64), (0 : Int32)) else (if (spX5_in (Int32.toInt64 p1) (0 : Int64) (15 : Int64)) = 0 then ((-1 : Int64), (0 : Int32)) else (if (spX5_in (Int32.toInt64 p2) (0 : Int64) (1 : Int64)) = 0 then ((-1 : Int64), (0 : Int32)) else (if p2 = 0 then ((Int32.toInt64 (kbo (Int32.toNatClampNeg ((17 : Int32) + ((3 : Int32) * p1))))), (0 : Int32)) else ((spX5_sum kbo (((17 : Int32) + ((3 : Int32) * p1)) + (1 : Int32))), (0 : Int32))))))
set_option maxHeartbeats 4000000 in
set_option maxRecDepth 100000 in
theorem c_X5_counter (l : Launch) (D : va_G) (kO km kw kb kr kd kt : Nat) (cA : ClassId) (kth : Int32) (kmn : Int32) (kpw : Int32) (klf : Int32) (kmk : Int32) (ksc : Int32) (krc : Int32) (kno : Int32) (kpp : Int32) (kpc : Int64) (kme : Nat → Int32) (kwe : Nat → Int32) (kbo : Nat → Int32) (kre : Nat → Int32) (kdr : Nat → Int32) (ktb : Nat → Int32) (p1 : Int32) (p2 : Int32)  : kWl l yX5_counter cX5_counter 4 (some .long) { frames := 1, cells := 0, slots := 0, locals := 25 } D [(cA, .int)] [.ref kO, .int p1, .int p2] (wK kO km kw kb kr kd kt cA kth kmn kpw klf kmk ksc krc kno kpp kpc kme kwe kbo kre kdr ktb) (spX5_counter kth kpw kbo p1 p2).1 (wK kO km kw kb kr kd kt cA (spX5_counter kth kpw kbo p1 p2).2 kmn kpw klf kmk ksc krc kno kpp kpc kme kwe kbo kre kdr ktb) := by
  intro sz
  refine Met.ofW (cc := cX5_counter) (maxL := 4) (ret := (some .long)) (by decide) rfl ?_
  intro p e s m args below meth c s₁ B hml hv
  obtain ⟨rfl, hsz, hP, hK, hD0⟩ := hv
  have hx := B.exec
  have hb := B.bytes
  have hr := B.returns
  have hts : ∀ w ∈ kG, w.before _ s = true := fun w h => atoms_spec (ws := kT yX5_counter cX5_counter 4 (some .long)) B.pre w (List.mem_cons_of_mem _ h)
  have hown : s.vm.findClass RX5 = some m.cls := findClass_of_methodNamed B.named
  have hlocks := B.notSynchronized
  subst hsz
  have hD := hD0.self (sz := s.heap.size)
  generalize hAe : va_A (wK kO km kw kb kr kd kt cA kth kmn kpw klf kmk ksc krc kno kpp kpc kme kwe kbo kre kdr ktb) s.heap.size = A at hD ⊢
  have hA : ∀ q : Nat, s.heap.size ≤ q → A q := fun q h => by rw [← hAe]; exact Or.inr h
  have hS : va_S A s.heap s.heap [] := va_S.rf
  have hl := lv_entry ([.ref kO, .int p1, .int p2]) (n := 4) (Nat.le_of_ble_eq_true rfl)
  rw [lg_entry_eq]
  generalize (lg_sl ([.ref kO, .int p1, .int p2]) ++ List.replicate (4 - (lg_sl ([.ref kO, .int p1, .int p2])).length) Slot.unset).toArray = ls at hl ⊢
  have hl : lv_has ls 4 [(0, .ref kO), (1, .int p1), (2, .int p2)] := hl
  refine lv_aload_n hx hb dX5_counter_0 rfl (lv_at hl 0 rfl) ?_
  refine lv_iconst (v := 0) hx hb dX5_counter_1 (by decide) ?_
  refine va_put (D := D) (ci := 5) (v := .int (0 : Int32)) (ty := .int) (C := RX5) (T := TX5) (N := 16) hx hb hts k_inX5 tyX5 tyX5_ok nmX5 hown hK hP hD hS 0 rfl rfl 0 (by decide) (hts _ kw_489) (fun _ h9 => h9) rfl (by decide +kernel) rfl rfl (Nat.le_of_ble_eq_true rfl) dX5_counter_2 (fun H locs hP hD hS => ?_)
  have hP : va_P D vwCl (wK kO km kw kb kr kd kt cA (0 : Int32) kmn kpw klf kmk ksc krc kno kpp kpc kme kwe kbo kre kdr ktb) H := hP
  have hD : va_D A (wK kO km kw kb kr kd kt cA (0 : Int32) kmn kpw klf kmk ksc krc kno kpp kpc kme kwe kbo kre kdr ktb) := hD
  refine lv_aload_n hx hb dX5_counter_5 rfl (lv_at hl 0 rfl) ?_
  refine va_get (D := D) (ci := 5) (v := .int kpw) (C := RX5) (T := TX5) (N := 16) hx hb hts k_inX5 hown hK hP 0 rfl rfl 8 (by decide) (hts _ kw_497) (fun _ h9 => h9) rfl dX5_counter_6 ?_
  refine lv_if_ne (tgt := 16) hx hb dX5_counter_9 (by decide) (fun c_9 => ?_) (fun c_9 => ?_)
  · refine lv_iload_n hx hb dX5_counter_16 rfl (lv_at hl 1 rfl) ?_
    refine lv_i2l (v := (Int32.toInt64 p1)) hx hb dX5_counter_17 rfl ?_
    refine lv_lconst (v := 0) hx hb dX5_counter_18 (by decide) ?_
    refine lv_ldc2 (v := 15) hx hb hown (hts _ kw_597) dX5_counter_19 ?_
    refine k_rdSi (As := [.long (Int32.toInt64 p1), .long (0 : Int64), .long (15 : Int64)]) (rest := []) ⟨hx, hb, hml, hown, hts⟩ k_self (c_X5_in l (Int32.toInt64 p1) (0 : Int64) (15 : Int64)) kv_X5_52 rfl rfl ⟨Nat.le_of_ble_eq_true rfl, Nat.le_of_ble_eq_true rfl⟩ rfl hl.1 rfl (Nat.le_of_ble_eq_true rfl) dX5_counter_22 ⟨Nat.zero_le _, Nat.zero_le _⟩ ?_
    refine lv_if_eq (tgt := 38) hx hb dX5_counter_25 (by decide) (fun c_25 => ?_) (fun c_25 => ?_)
    · refine lv_ldc2 (v := -1) hx hb hown (hts _ kw_605) dX5_counter_38 ?_
      have hE : spX5_counter kth kpw kbo p1 p2 = ((-1 : Int64), (0 : Int32)) := by unfold spX5_counter; rw [if_neg c_9, if_pos c_25]
      exact W.lret (v := (-1 : Int64)) hx hb hr (fun t ht hW => ⟨⟨(-1 : Int64), (), rfl, by rw [hE], by rw [hE, ht]; exact hP, va_K.moved hW.alike hK, by rw [hE]; exact hD⟩, hS.F ht⟩) hS.2.2 dX5_counter_41
    · refine lv_iload_n hx hb dX5_counter_28 rfl (lv_at hl 2 rfl) ?_
      refine lv_i2l (v := (Int32.toInt64 p2)) hx hb dX5_counter_29 rfl ?_
      refine lv_lconst (v := 0) hx hb dX5_counter_30 (by decide) ?_
      refine lv_lconst (v := 1) hx hb dX5_counter_31 (by decide) ?_
      refine k_rdSi (As := [.long (Int32.toInt64 p2), .long (0 : Int64), .long (1 : Int64)]) (rest := []) ⟨hx, hb, hml, hown, hts⟩ k_self (c_X5_in l (Int32.toInt64 p2) (0 : Int64) (1 : Int64)) kv_X5_52 rfl rfl ⟨Nat.le_of_ble_eq_true rfl, Nat.le_of_ble_eq_true rfl⟩ rfl hl.1 rfl (Nat.le_of_ble_eq_true rfl) dX5_counter_32 ⟨Nat.zero_le _, Nat.zero_le _⟩ ?_
      refine lv_if_ne (tgt := 42) hx hb dX5_counter_35 (by decide) (fun c_35 => ?_) (fun c_35 => ?_)
      · refine lv_bipush (v := 17) hx hb dX5_counter_42 (by decide) ?_
        refine lv_iconst (v := 3) hx hb dX5_counter_44 (by decide) ?_
        refine lv_iload_n hx hb dX5_counter_45 rfl (lv_at hl 1 rfl) ?_
        refine lv_imul hx hb dX5_counter_46 ?_
        refine lv_iadd hx hb dX5_counter_47 ?_
        refine lv_istore_n (lv' := [(3, .int ((17 : Int32) + ((3 : Int32) * p1))), (0, .ref kO), (1, .int p1), (2, .int p2)]) hx hb dX5_counter_48 rfl hl (by decide) rfl (fun ls hl => ?_)
        refine lv_iload_n hx hb dX5_counter_49 rfl (lv_at hl 3 rfl) ?_
        refine lv_if_ne (tgt := 63) hx hb dX5_counter_50 (by decide) (fun c_50 => ?_) (fun c_50 => ?_)
        · refine lv_aload_n hx hb dX5_counter_63 rfl (lv_at hl 1 rfl) ?_
          refine lv_iload_n hx hb dX5_counter_64 rfl (lv_at hl 0 rfl) ?_
          refine lv_iconst (v := 1) hx hb dX5_counter_65 (by decide) ?_
          refine lv_iadd hx hb dX5_counter_66 ?_
          refine k_rdVl (As := [.int (((17 : Int32) + ((3 : Int32) * p1)) + (1 : Int32))]) (rest := []) (ci := 5) (q0 := 0) ⟨hx, hb, hml, hown, hts⟩ k_self (c_X5_sum l D kO km kw kb kr kd kt cA (0 : Int32) kmn kpw klf kmk ksc krc kno kpp kpc kme kwe kbo kre kdr ktb (((17 : Int32) + ((3 : Int32) * p1)) + (1 : Int32)) (by obtain ⟨w, hw, hw1⟩ := k_inN c_25; have l2 : (15 : Int64).toInt = 15 := rfl; exact ⟨17 + 3 * w + 1, by simp only [hw, show (17 : Int32) = nI 17 from rfl, show (3 : Int32) = nI 3 from rfl, show (1 : Int32) = nI 1 from rfl, pk_mul, nI_add], by omega⟩)) kv_X5_91 (hP.sub [0, 1, 2, 3, 4, 5, 6] rfl) (hK.sub [0] rfl) rfl rfl rfl rfl ⟨Nat.le_of_ble_eq_true rfl, Nat.le_of_ble_eq_true rfl⟩ rfl hl.1 rfl (Nat.le_of_ble_eq_true rfl) dX5_counter_67 ⟨Nat.zero_le _, Nat.zero_le _⟩ ?_
          have hE : spX5_counter kth kpw kbo p1 p2 = ((spX5_sum kbo (((17 : Int32) + ((3 : Int32) * p1)) + (1 : Int32))), (0 : Int32)) := by unfold spX5_counter; rw [if_neg c_9, if_neg c_25, if_neg c_35, if_neg c_50]
          exact W.lret (v := (spX5_sum kbo (((17 : Int32) + ((3 : Int32) * p1)) + (1 : Int32)))) hx hb hr (fun t ht hW => ⟨⟨(spX5_sum kbo (((17 : Int32) + ((3 : Int32) * p1)) + (1 : Int32))), (), rfl, by rw [hE], by rw [hE, ht]; exact hP, va_K.moved hW.alike hK, by rw [hE]; exact hD⟩, hS.F ht⟩) hS.2.2 dX5_counter_70
        · refine lv_aload_n hx hb dX5_counter_53 rfl (lv_at hl 1 rfl) ?_
          refine va_get (D := D) (ci := 5) (v := .ref kb) (C := RX5) (T := TX5) (N := 16) hx hb hts k_inX5 hown hK hP 0 rfl rfl 4 (by decide) (hts _ kw_493) (fun _ h9 => h9) rfl dX5_counter_54 ?_
          refine lv_iload_n hx hb dX5_counter_57 rfl (lv_at hl 0 rfl) ?_
          refine va_iald hx hb hK hP 3 0 rfl rfl (by obtain ⟨w, hw, hw1⟩ := k_inN c_25; have l2 : (15 : Int64).toInt = 15 := rfl; simp only [hw, show (17 : Int32) = nI 17 from rfl, show (3 : Int32) = nI 3 from rfl, pk_mul, nI_add]; exact vp_in_nI (by omega) (by decide)) dX5_counter_58 ?_
          refine lv_i2l (v := (Int32.toInt64 (kbo (Int32.toNatClampNeg ((17 : Int32) + ((3 : Int32) * p1)))))) hx hb dX5_counter_59 rfl ?_
          refine lv_goto (tgt := 70) hx hb dX5_counter_60 (by decide) ?_
          have hE : spX5_counter kth kpw kbo p1 p2 = ((Int32.toInt64 (kbo (Int32.toNatClampNeg ((17 : Int32) + ((3 : Int32) * p1))))), (0 : Int32)) := by unfold spX5_counter; rw [if_neg c_9, if_neg c_25, if_neg c_35, if_pos c_50]
          exact W.lret (v := (Int32.toInt64 (kbo (Int32.toNatClampNeg ((17 : Int32) + ((3 : Int32) * p1)))))) hx hb hr (fun t ht hW => ⟨⟨(Int32.toInt64 (kbo (Int32.toNatClampNeg ((17 : Int32) + ((3 : Int32) * p1))))), (), rfl, by rw [hE], by rw [hE, ht]; exact hP, va_K.moved hW.alike hK, by rw [hE]; exact hD⟩, hS.F ht⟩) hS.2.2 dX5_counter_70
      · refine lv_ldc2 (v := -1) hx hb hown (hts _ kw_605) dX5_counter_38 ?_
        have hE : spX5_counter kth kpw kbo p1 p2 = ((-1 : Int64), (0 : Int32)) := by unfold spX5_counter; rw [if_neg c_9, if_neg c_25, if_pos c_35]
        exact W.lret (v := (-1 : Int64)) hx hb hr (fun t ht hW => ⟨⟨(-1 : Int64), (), rfl, by rw [hE], by rw [hE, ht]; exact hP, va_K.moved hW.alike hK, by rw [hE]; exact hD⟩, hS.F ht⟩) hS.2.2 dX5_counter_41
  · refine lv_ldc2 (v := -7) hx hb hown (hts _ kw_631) dX5_counter_12 ?_
    have hE : spX5_counter kth kpw kbo p1 p2 = ((-7 : Int64), (0 : Int32)) := by unfold spX5_counter; rw [if_pos c_9]
    exact W.lret (v := (-7 : Int64)) hx hb hr (fun t ht hW => ⟨⟨(-7 : Int64), (), rfl, by rw [hE], by rw [hE, ht]; exact hP, va_K.moved hW.alike hK, by rw [hE]; exact hD⟩, hS.F ht⟩) hS.2.2 dX5_counter_15
def spX5_dayTotal (kth : Int32) (kpw : Int32) (kbo : Nat → Int32) (p1 : Int32) (p2 : Int32) : Int64 × Int32 := (if kpw = 0 then ((-7 : Int64), (0 : Int32)) else (if (spX5_isDay p1) = 0 then ((-1 : Int64), (0 : Int32)) else (if (spX5_in (Int32.toInt64 p2) (0 : Int64) (1 : Int64)) = 0 then ((-1 : Int64), (0 : Int32)) else (if (kbo (Int32.toNatClampNeg ((65 : Int32) + ((4 : Int32) * (p1 - p1 / (32 : Int32) * (32 : Int32)))))) = p1 then (if p2 = 0 then ((Int32.toInt64 (kbo (Int32.toNatClampNeg (((65 : Int32) + ((4 : Int32) * (p1 - p1 / (32 : Int32) * (32 : Int32)))) + (1 : Int32))))), (0 : Int32)) else ((spX5_sum kbo (((65 : Int32) + ((4 : Int32) * (p1 - p1 / (32 : Int32) * (32 : Int32)))) + (2 : Int32))), (0 : Int32))) else ((0 : Int64), (0 : Int32))))))
set_option maxHeartbeats 4000000 in
set_option maxRecDepth 100000 in
theorem c_X5_dayTotal (l : Launch) (D : va_G) (kO km kw kb kr kd kt : Nat) (cA : ClassId) (kth : Int32) (kmn : Int32) (kpw : Int32) (klf : Int32) (kmk : Int32) (ksc : Int32) (krc : Int32) (kno : Int32) (kpp : Int32) (kpc : Int64) (kme : Nat → Int32) (kwe : Nat → Int32) (kbo : Nat → Int32) (kre : Nat → Int32) (kdr : Nat → Int32) (ktb : Nat → Int32) (p1 : Int32) (p2 : Int32)  : kWl l yX5_dayTotal cX5_dayTotal 4 (some .long) { frames := 2, cells := 0, slots := 0, locals := 45 } D [(cA, .int)] [.ref kO, .int p1, .int p2] (wK kO km kw kb kr kd kt cA kth kmn kpw klf kmk ksc krc kno kpp kpc kme kwe kbo kre kdr ktb) (spX5_dayTotal kth kpw kbo p1 p2).1 (wK kO km kw kb kr kd kt cA (spX5_dayTotal kth kpw kbo p1 p2).2 kmn kpw klf kmk ksc krc kno kpp kpc kme kwe kbo kre kdr ktb) := by
  intro sz
  refine Met.ofW (cc := cX5_dayTotal) (maxL := 4) (ret := (some .long)) (by decide) rfl ?_
  intro p e s m args below meth c s₁ B hml hv
  obtain ⟨rfl, hsz, hP, hK, hD0⟩ := hv
  have hx := B.exec
  have hb := B.bytes
  have hr := B.returns
  have hts : ∀ w ∈ kG, w.before _ s = true := fun w h => atoms_spec (ws := kT yX5_dayTotal cX5_dayTotal 4 (some .long)) B.pre w (List.mem_cons_of_mem _ h)
  have hown : s.vm.findClass RX5 = some m.cls := findClass_of_methodNamed B.named
  have hlocks := B.notSynchronized
  subst hsz
  have hD := hD0.self (sz := s.heap.size)
  generalize hAe : va_A (wK kO km kw kb kr kd kt cA kth kmn kpw klf kmk ksc krc kno kpp kpc kme kwe kbo kre kdr ktb) s.heap.size = A at hD ⊢
  have hA : ∀ q : Nat, s.heap.size ≤ q → A q := fun q h => by rw [← hAe]; exact Or.inr h
  have hS : va_S A s.heap s.heap [] := va_S.rf
  have hl := lv_entry ([.ref kO, .int p1, .int p2]) (n := 4) (Nat.le_of_ble_eq_true rfl)
  rw [lg_entry_eq]
  generalize (lg_sl ([.ref kO, .int p1, .int p2]) ++ List.replicate (4 - (lg_sl ([.ref kO, .int p1, .int p2])).length) Slot.unset).toArray = ls at hl ⊢
  have hl : lv_has ls 4 [(0, .ref kO), (1, .int p1), (2, .int p2)] := hl
  refine lv_aload_n hx hb dX5_dayTotal_0 rfl (lv_at hl 0 rfl) ?_
  refine lv_iconst (v := 0) hx hb dX5_dayTotal_1 (by decide) ?_
  refine va_put (D := D) (ci := 5) (v := .int (0 : Int32)) (ty := .int) (C := RX5) (T := TX5) (N := 16) hx hb hts k_inX5 tyX5 tyX5_ok nmX5 hown hK hP hD hS 0 rfl rfl 0 (by decide) (hts _ kw_489) (fun _ h9 => h9) rfl (by decide +kernel) rfl rfl (Nat.le_of_ble_eq_true rfl) dX5_dayTotal_2 (fun H locs hP hD hS => ?_)
  have hP : va_P D vwCl (wK kO km kw kb kr kd kt cA (0 : Int32) kmn kpw klf kmk ksc krc kno kpp kpc kme kwe kbo kre kdr ktb) H := hP
  have hD : va_D A (wK kO km kw kb kr kd kt cA (0 : Int32) kmn kpw klf kmk ksc krc kno kpp kpc kme kwe kbo kre kdr ktb) := hD
  refine lv_aload_n hx hb dX5_dayTotal_5 rfl (lv_at hl 0 rfl) ?_
  refine va_get (D := D) (ci := 5) (v := .int kpw) (C := RX5) (T := TX5) (N := 16) hx hb hts k_inX5 hown hK hP 0 rfl rfl 8 (by decide) (hts _ kw_497) (fun _ h9 => h9) rfl dX5_dayTotal_6 ?_
  refine lv_if_ne (tgt := 16) hx hb dX5_dayTotal_9 (by decide) (fun c_9 => ?_) (fun c_9 => ?_)
  · refine lv_iload_n hx hb dX5_dayTotal_16 rfl (lv_at hl 1 rfl) ?_
    refine k_rdSi (As := [.int p1]) (rest := []) ⟨hx, hb, hml, hown, hts⟩ k_self (c_X5_isDay l p1) kv_X5_123 rfl rfl ⟨Nat.le_of_ble_eq_true rfl, Nat.le_of_ble_eq_true rfl⟩ rfl hl.1 rfl (Nat.le_of_ble_eq_true rfl) dX5_dayTotal_17 ⟨Nat.zero_le _, Nat.zero_le _⟩ ?_
    refine lv_if_eq (tgt := 33) hx hb dX5_dayTotal_20 (by decide) (fun c_20 => ?_) (fun c_20 => ?_)
    · refine lv_ldc2 (v := -1) hx hb hown (hts _ kw_605) dX5_dayTotal_33 ?_
      have hE : spX5_dayTotal kth kpw kbo p1 p2 = ((-1 : Int64), (0 : Int32)) := by unfold spX5_dayTotal; rw [if_neg c_9, if_pos c_20]
      exact W.lret (v := (-1 : Int64)) hx hb hr (fun t ht hW => ⟨⟨(-1 : Int64), (), rfl, by rw [hE], by rw [hE, ht]; exact hP, va_K.moved hW.alike hK, by rw [hE]; exact hD⟩, hS.F ht⟩) hS.2.2 dX5_dayTotal_36
    · refine lv_iload_n hx hb dX5_dayTotal_23 rfl (lv_at hl 2 rfl) ?_
      refine lv_i2l (v := (Int32.toInt64 p2)) hx hb dX5_dayTotal_24 rfl ?_
      refine lv_lconst (v := 0) hx hb dX5_dayTotal_25 (by decide) ?_
      refine lv_lconst (v := 1) hx hb dX5_dayTotal_26 (by decide) ?_
      refine k_rdSi (As := [.long (Int32.toInt64 p2), .long (0 : Int64), .long (1 : Int64)]) (rest := []) ⟨hx, hb, hml, hown, hts⟩ k_self (c_X5_in l (Int32.toInt64 p2) (0 : Int64) (1 : Int64)) kv_X5_52 rfl rfl ⟨Nat.le_of_ble_eq_true rfl, Nat.le_of_ble_eq_true rfl⟩ rfl hl.1 rfl (Nat.le_of_ble_eq_true rfl) dX5_dayTotal_27 ⟨Nat.zero_le _, Nat.zero_le _⟩ ?_
      refine lv_if_ne (tgt := 37) hx hb dX5_dayTotal_30 (by decide) (fun c_30 => ?_) (fun c_30 => ?_)
      · refine lv_bipush (v := 65) hx hb dX5_dayTotal_37 (by decide) ?_
        refine lv_iconst (v := 4) hx hb dX5_dayTotal_39 (by decide) ?_
        refine lv_iload_n hx hb dX5_dayTotal_40 rfl (lv_at hl 1 rfl) ?_
        refine lv_bipush (v := 32) hx hb dX5_dayTotal_41 (by decide) ?_
        refine lv_irem hx hb dX5_dayTotal_43 (by decide) ?_
        refine lv_imul hx hb dX5_dayTotal_44 ?_
        refine lv_iadd hx hb dX5_dayTotal_45 ?_
        refine lv_istore_n (lv' := [(3, .int ((65 : Int32) + ((4 : Int32) * (p1 - p1 / (32 : Int32) * (32 : Int32))))), (0, .ref kO), (1, .int p1), (2, .int p2)]) hx hb dX5_dayTotal_46 rfl hl (by decide) rfl (fun ls hl => ?_)
        refine lv_aload_n hx hb dX5_dayTotal_47 rfl (lv_at hl 1 rfl) ?_
        refine va_get (D := D) (ci := 5) (v := .ref kb) (C := RX5) (T := TX5) (N := 16) hx hb hts k_inX5 hown hK hP 0 rfl rfl 4 (by decide) (hts _ kw_493) (fun _ h9 => h9) rfl dX5_dayTotal_48 ?_
        refine lv_iload_n hx hb dX5_dayTotal_51 rfl (lv_at hl 0 rfl) ?_
        refine va_iald hx hb hK hP 3 0 rfl rfl (by obtain ⟨w, hw, hw1⟩ := k_dayr c_20; have hm : w % 32 < 32 := Nat.mod_lt _ (by decide); simp only [hw, show (65 : Int32) = nI 65 from rfl, show (4 : Int32) = nI 4 from rfl, pk_mul, nI_add]; exact vp_in_nI (by omega) (by decide)) dX5_dayTotal_52 ?_
        refine lv_iload_n hx hb dX5_dayTotal_53 rfl (lv_at hl 2 rfl) ?_
        refine lv_icmp_eq (tgt := 61) hx hb dX5_dayTotal_54 (by decide) (fun c_54 => ?_) (fun c_54 => ?_)
        · refine lv_iload_n hx hb dX5_dayTotal_61 rfl (lv_at hl 3 rfl) ?_
          refine lv_if_ne (tgt := 77) hx hb dX5_dayTotal_62 (by decide) (fun c_62 => ?_) (fun c_62 => ?_)
          · refine lv_aload_n hx hb dX5_dayTotal_77 rfl (lv_at hl 1 rfl) ?_
            refine lv_iload_n hx hb dX5_dayTotal_78 rfl (lv_at hl 0 rfl) ?_
            refine lv_iconst (v := 2) hx hb dX5_dayTotal_79 (by decide) ?_
            refine lv_iadd hx hb dX5_dayTotal_80 ?_
            refine k_rdVl (As := [.int (((65 : Int32) + ((4 : Int32) * (p1 - p1 / (32 : Int32) * (32 : Int32)))) + (2 : Int32))]) (rest := []) (ci := 5) (q0 := 0) ⟨hx, hb, hml, hown, hts⟩ k_self (c_X5_sum l D kO km kw kb kr kd kt cA (0 : Int32) kmn kpw klf kmk ksc krc kno kpp kpc kme kwe kbo kre kdr ktb (((65 : Int32) + ((4 : Int32) * (p1 - p1 / (32 : Int32) * (32 : Int32)))) + (2 : Int32)) (by obtain ⟨w, hw, hw1⟩ := k_dayr c_20; have hm : w % 32 < 32 := Nat.mod_lt _ (by decide); exact ⟨65 + 4 * (w % 32) + 2, by simp only [hw, show (65 : Int32) = nI 65 from rfl, show (4 : Int32) = nI 4 from rfl, show (2 : Int32) = nI 2 from rfl, pk_mul, nI_add], by omega⟩)) kv_X5_91 (hP.sub [0, 1, 2, 3, 4, 5, 6] rfl) (hK.sub [0] rfl) rfl rfl rfl rfl ⟨Nat.le_of_ble_eq_true rfl, Nat.le_of_ble_eq_true rfl⟩ rfl hl.1 rfl (Nat.le_of_ble_eq_true rfl) dX5_dayTotal_81 ⟨Nat.zero_le _, Nat.zero_le _⟩ ?_
            have hE : spX5_dayTotal kth kpw kbo p1 p2 = ((spX5_sum kbo (((65 : Int32) + ((4 : Int32) * (p1 - p1 / (32 : Int32) * (32 : Int32)))) + (2 : Int32))), (0 : Int32)) := by unfold spX5_dayTotal; rw [if_neg c_9, if_neg c_20, if_neg c_30, if_pos c_54, if_neg c_62]
            exact W.lret (v := (spX5_sum kbo (((65 : Int32) + ((4 : Int32) * (p1 - p1 / (32 : Int32) * (32 : Int32)))) + (2 : Int32)))) hx hb hr (fun t ht hW => ⟨⟨(spX5_sum kbo (((65 : Int32) + ((4 : Int32) * (p1 - p1 / (32 : Int32) * (32 : Int32)))) + (2 : Int32))), (), rfl, by rw [hE], by rw [hE, ht]; exact hP, va_K.moved hW.alike hK, by rw [hE]; exact hD⟩, hS.F ht⟩) hS.2.2 dX5_dayTotal_84
          · refine lv_aload_n hx hb dX5_dayTotal_65 rfl (lv_at hl 1 rfl) ?_
            refine va_get (D := D) (ci := 5) (v := .ref kb) (C := RX5) (T := TX5) (N := 16) hx hb hts k_inX5 hown hK hP 0 rfl rfl 4 (by decide) (hts _ kw_493) (fun _ h9 => h9) rfl dX5_dayTotal_66 ?_
            refine lv_iload_n hx hb dX5_dayTotal_69 rfl (lv_at hl 0 rfl) ?_
            refine lv_iconst (v := 1) hx hb dX5_dayTotal_70 (by decide) ?_
            refine lv_iadd hx hb dX5_dayTotal_71 ?_
            refine va_iald hx hb hK hP 3 0 rfl rfl (by obtain ⟨w, hw, hw1⟩ := k_dayr c_20; have hm : w % 32 < 32 := Nat.mod_lt _ (by decide); simp only [hw, show (65 : Int32) = nI 65 from rfl, show (4 : Int32) = nI 4 from rfl, show (1 : Int32) = nI 1 from rfl, pk_mul, nI_add]; exact vp_in_nI (by omega) (by decide)) dX5_dayTotal_72 ?_
            refine lv_i2l (v := (Int32.toInt64 (kbo (Int32.toNatClampNeg (((65 : Int32) + ((4 : Int32) * (p1 - p1 / (32 : Int32) * (32 : Int32)))) + (1 : Int32)))))) hx hb dX5_dayTotal_73 rfl ?_
            refine lv_goto (tgt := 84) hx hb dX5_dayTotal_74 (by decide) ?_
            have hE : spX5_dayTotal kth kpw kbo p1 p2 = ((Int32.toInt64 (kbo (Int32.toNatClampNeg (((65 : Int32) + ((4 : Int32) * (p1 - p1 / (32 : Int32) * (32 : Int32)))) + (1 : Int32))))), (0 : Int32)) := by unfold spX5_dayTotal; rw [if_neg c_9, if_neg c_20, if_neg c_30, if_pos c_54, if_pos c_62]
            exact W.lret (v := (Int32.toInt64 (kbo (Int32.toNatClampNeg (((65 : Int32) + ((4 : Int32) * (p1 - p1 / (32 : Int32) * (32 : Int32)))) + (1 : Int32)))))) hx hb hr (fun t ht hW => ⟨⟨(Int32.toInt64 (kbo (Int32.toNatClampNeg (((65 : Int32) + ((4 : Int32) * (p1 - p1 / (32 : Int32) * (32 : Int32)))) + (1 : Int32))))), (), rfl, by rw [hE], by rw [hE, ht]; exact hP, va_K.moved hW.alike hK, by rw [hE]; exact hD⟩, hS.F ht⟩) hS.2.2 dX5_dayTotal_84
        · refine lv_lconst (v := 0) hx hb dX5_dayTotal_57 (by decide) ?_
          refine lv_goto (tgt := 84) hx hb dX5_dayTotal_58 (by decide) ?_
          have hE : spX5_dayTotal kth kpw kbo p1 p2 = ((0 : Int64), (0 : Int32)) := by unfold spX5_dayTotal; rw [if_neg c_9, if_neg c_20, if_neg c_30, if_neg c_54]
          exact W.lret (v := (0 : Int64)) hx hb hr (fun t ht hW => ⟨⟨(0 : Int64), (), rfl, by rw [hE], by rw [hE, ht]; exact hP, va_K.moved hW.alike hK, by rw [hE]; exact hD⟩, hS.F ht⟩) hS.2.2 dX5_dayTotal_84
      · refine lv_ldc2 (v := -1) hx hb hown (hts _ kw_605) dX5_dayTotal_33 ?_
        have hE : spX5_dayTotal kth kpw kbo p1 p2 = ((-1 : Int64), (0 : Int32)) := by unfold spX5_dayTotal; rw [if_neg c_9, if_neg c_20, if_pos c_30]
        exact W.lret (v := (-1 : Int64)) hx hb hr (fun t ht hW => ⟨⟨(-1 : Int64), (), rfl, by rw [hE], by rw [hE, ht]; exact hP, va_K.moved hW.alike hK, by rw [hE]; exact hD⟩, hS.F ht⟩) hS.2.2 dX5_dayTotal_36
  · refine lv_ldc2 (v := -7) hx hb hown (hts _ kw_631) dX5_dayTotal_12 ?_
    have hE : spX5_dayTotal kth kpw kbo p1 p2 = ((-7 : Int64), (0 : Int32)) := by unfold spX5_dayTotal; rw [if_pos c_9]
    exact W.lret (v := (-7 : Int64)) hx hb hr (fun t ht hW => ⟨⟨(-7 : Int64), (), rfl, by rw [hE], by rw [hE, ht]; exact hP, va_K.moved hW.alike hK, by rw [hE]; exact hD⟩, hS.F ht⟩) hS.2.2 dX5_dayTotal_15
def spX5_cut (kth : Int32) (klf : Int32) (kmk : Int32) (p1 : Int32) (p2 : Int32) : Int32 × Int32 × Int32 × Int32 := (if (spX5_in (Int32.toInt64 p1) (0 : Int64) (100000 : Int64)) = 0 then ((-1 : Int32), (0 : Int32), klf, kmk) else ((1 : Int32), (0 : Int32), p1, p2))
set_option maxHeartbeats 4000000 in
set_option maxRecDepth 100000 in
theorem c_X5_cut (l : Launch) (D : va_G) (kO km kw kb kr kd kt : Nat) (cA : ClassId) (kth : Int32) (kmn : Int32) (kpw : Int32) (klf : Int32) (kmk : Int32) (ksc : Int32) (krc : Int32) (kno : Int32) (kpp : Int32) (kpc : Int64) (kme : Nat → Int32) (kwe : Nat → Int32) (kbo : Nat → Int32) (kre : Nat → Int32) (kdr : Nat → Int32) (ktb : Nat → Int32) (p1 : Int32) (p2 : Int32)  : kWi l yX5_cut cX5_cut 3 (some .int) { frames := 1, cells := 0, slots := 0, locals := 25 } D [(cA, .int)] [.ref kO, .int p1, .int p2] (wK kO km kw kb kr kd kt cA kth kmn kpw klf kmk ksc krc kno kpp kpc kme kwe kbo kre kdr ktb) (spX5_cut kth klf kmk p1 p2).1 (wK kO km kw kb kr kd kt cA (spX5_cut kth klf kmk p1 p2).2.1 kmn kpw (spX5_cut kth klf kmk p1 p2).2.2.1 (spX5_cut kth klf kmk p1 p2).2.2.2 ksc krc kno kpp kpc kme kwe kbo kre kdr ktb) := by
  intro sz
  refine Met.ofW (cc := cX5_cut) (maxL := 3) (ret := (some .int)) (by decide) rfl ?_
  intro p e s m args below meth c s₁ B hml hv
  obtain ⟨rfl, hsz, hP, hK, hD0⟩ := hv
  have hx := B.exec
  have hb := B.bytes
  have hr := B.returns
  have hts : ∀ w ∈ kG, w.before _ s = true := fun w h => atoms_spec (ws := kT yX5_cut cX5_cut 3 (some .int)) B.pre w (List.mem_cons_of_mem _ h)
  have hown : s.vm.findClass RX5 = some m.cls := findClass_of_methodNamed B.named
  have hlocks := B.notSynchronized
  subst hsz
  have hD := hD0.self (sz := s.heap.size)
  generalize hAe : va_A (wK kO km kw kb kr kd kt cA kth kmn kpw klf kmk ksc krc kno kpp kpc kme kwe kbo kre kdr ktb) s.heap.size = A at hD ⊢
  have hA : ∀ q : Nat, s.heap.size ≤ q → A q := fun q h => by rw [← hAe]; exact Or.inr h
  have hS : va_S A s.heap s.heap [] := va_S.rf
  have hl := lv_entry ([.ref kO, .int p1, .int p2]) (n := 3) (Nat.le_of_ble_eq_true rfl)
  rw [lg_entry_eq]
  generalize (lg_sl ([.ref kO, .int p1, .int p2]) ++ List.replicate (3 - (lg_sl ([.ref kO, .int p1, .int p2])).length) Slot.unset).toArray = ls at hl ⊢
  have hl : lv_has ls 3 [(0, .ref kO), (1, .int p1), (2, .int p2)] := hl
  refine lv_aload_n hx hb dX5_cut_0 rfl (lv_at hl 0 rfl) ?_
  refine lv_iconst (v := 0) hx hb dX5_cut_1 (by decide) ?_
  refine va_put (D := D) (ci := 5) (v := .int (0 : Int32)) (ty := .int) (C := RX5) (T := TX5) (N := 16) hx hb hts k_inX5 tyX5 tyX5_ok nmX5 hown hK hP hD hS 0 rfl rfl 0 (by decide) (hts _ kw_489) (fun _ h9 => h9) rfl (by decide +kernel) rfl rfl (Nat.le_of_ble_eq_true rfl) dX5_cut_2 (fun H locs hP hD hS => ?_)
  have hP : va_P D vwCl (wK kO km kw kb kr kd kt cA (0 : Int32) kmn kpw klf kmk ksc krc kno kpp kpc kme kwe kbo kre kdr ktb) H := hP
  have hD : va_D A (wK kO km kw kb kr kd kt cA (0 : Int32) kmn kpw klf kmk ksc krc kno kpp kpc kme kwe kbo kre kdr ktb) := hD
  refine lv_iload_n hx hb dX5_cut_5 rfl (lv_at hl 1 rfl) ?_
  refine lv_i2l (v := (Int32.toInt64 p1)) hx hb dX5_cut_6 rfl ?_
  refine lv_lconst (v := 0) hx hb dX5_cut_7 (by decide) ?_
  refine lv_ldc2 (v := 100000) hx hb hown (hts _ kw_596) dX5_cut_8 ?_
  refine k_rdSi (As := [.long (Int32.toInt64 p1), .long (0 : Int64), .long (100000 : Int64)]) (rest := []) ⟨hx, hb, hml, hown, hts⟩ k_self (c_X5_in l (Int32.toInt64 p1) (0 : Int64) (100000 : Int64)) kv_X5_52 rfl rfl ⟨Nat.le_of_ble_eq_true rfl, Nat.le_of_ble_eq_true rfl⟩ rfl hl.1 rfl (Nat.le_of_ble_eq_true rfl) dX5_cut_11 ⟨Nat.zero_le _, Nat.zero_le _⟩ ?_
  refine lv_if_ne (tgt := 19) hx hb dX5_cut_14 (by decide) (fun c_14 => ?_) (fun c_14 => ?_)
  · refine lv_aload_n hx hb dX5_cut_19 rfl (lv_at hl 0 rfl) ?_
    refine lv_iload_n hx hb dX5_cut_20 rfl (lv_at hl 1 rfl) ?_
    refine va_put (D := D) (ci := 5) (v := .int p1) (ty := .int) (C := RX5) (T := TX5) (N := 16) hx hb hts k_inX5 tyX5 tyX5_ok nmX5 hown hK hP hD hS 0 rfl rfl 9 (by decide) (hts _ kw_498) (fun _ h9 => h9) rfl (by decide +kernel) rfl rfl (Nat.le_of_ble_eq_true rfl) dX5_cut_21 (fun H locs hP hD hS => ?_)
    have hP : va_P D vwCl (wK kO km kw kb kr kd kt cA (0 : Int32) kmn kpw p1 kmk ksc krc kno kpp kpc kme kwe kbo kre kdr ktb) H := hP
    have hD : va_D A (wK kO km kw kb kr kd kt cA (0 : Int32) kmn kpw p1 kmk ksc krc kno kpp kpc kme kwe kbo kre kdr ktb) := hD
    refine lv_aload_n hx hb dX5_cut_24 rfl (lv_at hl 0 rfl) ?_
    refine lv_iload_n hx hb dX5_cut_25 rfl (lv_at hl 2 rfl) ?_
    refine va_put (D := D) (ci := 5) (v := .int p2) (ty := .int) (C := RX5) (T := TX5) (N := 16) hx hb hts k_inX5 tyX5 tyX5_ok nmX5 hown hK hP hD hS 0 rfl rfl 10 (by decide) (hts _ kw_499) (fun _ h9 => h9) rfl (by decide +kernel) rfl rfl (Nat.le_of_ble_eq_true rfl) dX5_cut_26 (fun H locs hP hD hS => ?_)
    have hP : va_P D vwCl (wK kO km kw kb kr kd kt cA (0 : Int32) kmn kpw p1 p2 ksc krc kno kpp kpc kme kwe kbo kre kdr ktb) H := hP
    have hD : va_D A (wK kO km kw kb kr kd kt cA (0 : Int32) kmn kpw p1 p2 ksc krc kno kpp kpc kme kwe kbo kre kdr ktb) := hD
    refine lv_iconst (v := 1) hx hb dX5_cut_29 (by decide) ?_
    have hE : spX5_cut kth klf kmk p1 p2 = ((1 : Int32), (0 : Int32), p1, p2) := by unfold spX5_cut; rw [if_neg c_14]
    exact W.iret (v := (1 : Int32)) hx hb hr (fun t ht hW => ⟨⟨(1 : Int32), (), rfl, by rw [hE], by rw [hE, ht]; exact hP, va_K.moved hW.alike hK, by rw [hE]; exact hD⟩, hS.F ht⟩) hS.2.2 dX5_cut_30
  · refine lv_iconst (v := -1) hx hb dX5_cut_17 (by decide) ?_
    have hE : spX5_cut kth klf kmk p1 p2 = ((-1 : Int32), (0 : Int32), klf, kmk) := by unfold spX5_cut; rw [if_pos c_14]
    exact W.iret (v := (-1 : Int32)) hx hb hr (fun t ht hW => ⟨⟨(-1 : Int32), (), rfl, by rw [hE], by rw [hE, ht]; exact hP, va_K.moved hW.alike hK, by rw [hE]; exact hD⟩, hS.F ht⟩) hS.2.2 dX5_cut_18
def spX5_uncertain (kth : Int32) (kpw : Int32) (kbo : Nat → Int32) : Int32 × Int32 := (if kpw = 0 then ((-7 : Int32), (0 : Int32)) else (if (kbo (Int32.toNatClampNeg (16 : Int32))) = 0 then ((0 : Int32), (0 : Int32)) else ((1 : Int32), (0 : Int32))))
set_option maxHeartbeats 4000000 in
set_option maxRecDepth 100000 in
theorem c_X5_uncertain (l : Launch) (D : va_G) (kO km kw kb kr kd kt : Nat) (cA : ClassId) (kth : Int32) (kmn : Int32) (kpw : Int32) (klf : Int32) (kmk : Int32) (ksc : Int32) (krc : Int32) (kno : Int32) (kpp : Int32) (kpc : Int64) (kme : Nat → Int32) (kwe : Nat → Int32) (kbo : Nat → Int32) (kre : Nat → Int32) (kdr : Nat → Int32) (ktb : Nat → Int32)   : kWi l yX5_uncertain cX5_uncertain 1 (some .int) { frames := 0, cells := 0, slots := 0, locals := 0 } D [(cA, .int)] [.ref kO] (wK kO km kw kb kr kd kt cA kth kmn kpw klf kmk ksc krc kno kpp kpc kme kwe kbo kre kdr ktb) (spX5_uncertain kth kpw kbo).1 (wK kO km kw kb kr kd kt cA (spX5_uncertain kth kpw kbo).2 kmn kpw klf kmk ksc krc kno kpp kpc kme kwe kbo kre kdr ktb) := by
  intro sz
  refine Met.ofW (cc := cX5_uncertain) (maxL := 1) (ret := (some .int)) (by decide) rfl ?_
  intro p e s m args below meth c s₁ B hml hv
  obtain ⟨rfl, hsz, hP, hK, hD0⟩ := hv
  have hx := B.exec
  have hb := B.bytes
  have hr := B.returns
  have hts : ∀ w ∈ kG, w.before _ s = true := fun w h => atoms_spec (ws := kT yX5_uncertain cX5_uncertain 1 (some .int)) B.pre w (List.mem_cons_of_mem _ h)
  have hown : s.vm.findClass RX5 = some m.cls := findClass_of_methodNamed B.named
  have hlocks := B.notSynchronized
  subst hsz
  have hD := hD0.self (sz := s.heap.size)
  generalize hAe : va_A (wK kO km kw kb kr kd kt cA kth kmn kpw klf kmk ksc krc kno kpp kpc kme kwe kbo kre kdr ktb) s.heap.size = A at hD ⊢
  have hA : ∀ q : Nat, s.heap.size ≤ q → A q := fun q h => by rw [← hAe]; exact Or.inr h
  have hS : va_S A s.heap s.heap [] := va_S.rf
  have hl := lv_entry ([.ref kO]) (n := 1) (Nat.le_of_ble_eq_true rfl)
  rw [lg_entry_eq]
  generalize (lg_sl ([.ref kO]) ++ List.replicate (1 - (lg_sl ([.ref kO])).length) Slot.unset).toArray = ls at hl ⊢
  have hl : lv_has ls 1 [(0, .ref kO)] := hl
  refine lv_aload_n hx hb dX5_uncertain_0 rfl (lv_at hl 0 rfl) ?_
  refine lv_iconst (v := 0) hx hb dX5_uncertain_1 (by decide) ?_
  refine va_put (D := D) (ci := 5) (v := .int (0 : Int32)) (ty := .int) (C := RX5) (T := TX5) (N := 16) hx hb hts k_inX5 tyX5 tyX5_ok nmX5 hown hK hP hD hS 0 rfl rfl 0 (by decide) (hts _ kw_489) (fun _ h9 => h9) rfl (by decide +kernel) rfl rfl (Nat.le_of_ble_eq_true rfl) dX5_uncertain_2 (fun H locs hP hD hS => ?_)
  have hP : va_P D vwCl (wK kO km kw kb kr kd kt cA (0 : Int32) kmn kpw klf kmk ksc krc kno kpp kpc kme kwe kbo kre kdr ktb) H := hP
  have hD : va_D A (wK kO km kw kb kr kd kt cA (0 : Int32) kmn kpw klf kmk ksc krc kno kpp kpc kme kwe kbo kre kdr ktb) := hD
  refine lv_aload_n hx hb dX5_uncertain_5 rfl (lv_at hl 0 rfl) ?_
  refine va_get (D := D) (ci := 5) (v := .int kpw) (C := RX5) (T := TX5) (N := 16) hx hb hts k_inX5 hown hK hP 0 rfl rfl 8 (by decide) (hts _ kw_497) (fun _ h9 => h9) rfl dX5_uncertain_6 ?_
  refine lv_if_ne (tgt := 17) hx hb dX5_uncertain_9 (by decide) (fun c_9 => ?_) (fun c_9 => ?_)
  · refine lv_aload_n hx hb dX5_uncertain_17 rfl (lv_at hl 0 rfl) ?_
    refine va_get (D := D) (ci := 5) (v := .ref kb) (C := RX5) (T := TX5) (N := 16) hx hb hts k_inX5 hown hK hP 0 rfl rfl 4 (by decide) (hts _ kw_493) (fun _ h9 => h9) rfl dX5_uncertain_18 ?_
    refine lv_bipush (v := 16) hx hb dX5_uncertain_21 (by decide) ?_
    refine va_iald hx hb hK hP 3 0 rfl rfl (vp_in_nI (n := 16) (N := 193) (by decide) (by decide)) dX5_uncertain_23 ?_
    refine lv_if_eq (tgt := 31) hx hb dX5_uncertain_24 (by decide) (fun c_24 => ?_) (fun c_24 => ?_)
    · refine lv_iconst (v := 0) hx hb dX5_uncertain_31 (by decide) ?_
      have hE : spX5_uncertain kth kpw kbo = ((0 : Int32), (0 : Int32)) := by unfold spX5_uncertain; rw [if_neg c_9, if_pos c_24]
      exact W.iret (v := (0 : Int32)) hx hb hr (fun t ht hW => ⟨⟨(0 : Int32), (), rfl, by rw [hE], by rw [hE, ht]; exact hP, va_K.moved hW.alike hK, by rw [hE]; exact hD⟩, hS.F ht⟩) hS.2.2 dX5_uncertain_32
    · refine lv_iconst (v := 1) hx hb dX5_uncertain_27 (by decide) ?_
      refine lv_goto (tgt := 32) hx hb dX5_uncertain_28 (by decide) ?_
      have hE : spX5_uncertain kth kpw kbo = ((1 : Int32), (0 : Int32)) := by unfold spX5_uncertain; rw [if_neg c_9, if_neg c_24]
      exact W.iret (v := (1 : Int32)) hx hb hr (fun t ht hW => ⟨⟨(1 : Int32), (), rfl, by rw [hE], by rw [hE, ht]; exact hP, va_K.moved hW.alike hK, by rw [hE]; exact hD⟩, hS.F ht⟩) hS.2.2 dX5_uncertain_32
  · refine lv_bipush (v := -7) hx hb dX5_uncertain_12 (by decide) ?_
    refine lv_goto (tgt := 32) hx hb dX5_uncertain_14 (by decide) ?_
    have hE : spX5_uncertain kth kpw kbo = ((-7 : Int32), (0 : Int32)) := by unfold spX5_uncertain; rw [if_pos c_9]
    exact W.iret (v := (-7 : Int32)) hx hb hr (fun t ht hW => ⟨⟨(-7 : Int32), (), rfl, by rw [hE], by rw [hE, ht]; exact hP, va_K.moved hW.alike hK, by rw [hE]; exact hD⟩, hS.F ht⟩) hS.2.2 dX5_uncertain_32
def spX5_wear (kth : Int32) (kwe : Nat → Int32) (p1 : Int32) : Int32 × Int32 := (if (spX5_in (Int32.toInt64 p1) (0 : Int64) (15 : Int64)) = 0 then ((-1 : Int32), (0 : Int32)) else ((kwe (Int32.toNatClampNeg p1)), (0 : Int32)))
set_option maxHeartbeats 4000000 in
set_option maxRecDepth 100000 in
theorem c_X5_wear (l : Launch) (D : va_G) (kO km kw kb kr kd kt : Nat) (cA : ClassId) (kth : Int32) (kmn : Int32) (kpw : Int32) (klf : Int32) (kmk : Int32) (ksc : Int32) (krc : Int32) (kno : Int32) (kpp : Int32) (kpc : Int64) (kme : Nat → Int32) (kwe : Nat → Int32) (kbo : Nat → Int32) (kre : Nat → Int32) (kdr : Nat → Int32) (ktb : Nat → Int32) (p1 : Int32)  : kWi l yX5_wear cX5_wear 2 (some .int) { frames := 1, cells := 0, slots := 0, locals := 25 } D [(cA, .int)] [.ref kO, .int p1] (wK kO km kw kb kr kd kt cA kth kmn kpw klf kmk ksc krc kno kpp kpc kme kwe kbo kre kdr ktb) (spX5_wear kth kwe p1).1 (wK kO km kw kb kr kd kt cA (spX5_wear kth kwe p1).2 kmn kpw klf kmk ksc krc kno kpp kpc kme kwe kbo kre kdr ktb) := by
  intro sz
  refine Met.ofW (cc := cX5_wear) (maxL := 2) (ret := (some .int)) (by decide) rfl ?_
  intro p e s m args below meth c s₁ B hml hv
  obtain ⟨rfl, hsz, hP, hK, hD0⟩ := hv
  have hx := B.exec
  have hb := B.bytes
  have hr := B.returns
  have hts : ∀ w ∈ kG, w.before _ s = true := fun w h => atoms_spec (ws := kT yX5_wear cX5_wear 2 (some .int)) B.pre w (List.mem_cons_of_mem _ h)
  have hown : s.vm.findClass RX5 = some m.cls := findClass_of_methodNamed B.named
  have hlocks := B.notSynchronized
  subst hsz
  have hD := hD0.self (sz := s.heap.size)
  generalize hAe : va_A (wK kO km kw kb kr kd kt cA kth kmn kpw klf kmk ksc krc kno kpp kpc kme kwe kbo kre kdr ktb) s.heap.size = A at hD ⊢
  have hA : ∀ q : Nat, s.heap.size ≤ q → A q := fun q h => by rw [← hAe]; exact Or.inr h
  have hS : va_S A s.heap s.heap [] := va_S.rf
  have hl := lv_entry ([.ref kO, .int p1]) (n := 2) (Nat.le_of_ble_eq_true rfl)
  rw [lg_entry_eq]
  generalize (lg_sl ([.ref kO, .int p1]) ++ List.replicate (2 - (lg_sl ([.ref kO, .int p1])).length) Slot.unset).toArray = ls at hl ⊢
  have hl : lv_has ls 2 [(0, .ref kO), (1, .int p1)] := hl
  refine lv_aload_n hx hb dX5_wear_0 rfl (lv_at hl 0 rfl) ?_
  refine lv_iconst (v := 0) hx hb dX5_wear_1 (by decide) ?_
  refine va_put (D := D) (ci := 5) (v := .int (0 : Int32)) (ty := .int) (C := RX5) (T := TX5) (N := 16) hx hb hts k_inX5 tyX5 tyX5_ok nmX5 hown hK hP hD hS 0 rfl rfl 0 (by decide) (hts _ kw_489) (fun _ h9 => h9) rfl (by decide +kernel) rfl rfl (Nat.le_of_ble_eq_true rfl) dX5_wear_2 (fun H locs hP hD hS => ?_)
  have hP : va_P D vwCl (wK kO km kw kb kr kd kt cA (0 : Int32) kmn kpw klf kmk ksc krc kno kpp kpc kme kwe kbo kre kdr ktb) H := hP
  have hD : va_D A (wK kO km kw kb kr kd kt cA (0 : Int32) kmn kpw klf kmk ksc krc kno kpp kpc kme kwe kbo kre kdr ktb) := hD
  refine lv_iload_n hx hb dX5_wear_5 rfl (lv_at hl 1 rfl) ?_
  refine lv_i2l (v := (Int32.toInt64 p1)) hx hb dX5_wear_6 rfl ?_
  refine lv_lconst (v := 0) hx hb dX5_wear_7 (by decide) ?_
  refine lv_ldc2 (v := 15) hx hb hown (hts _ kw_597) dX5_wear_8 ?_
  refine k_rdSi (As := [.long (Int32.toInt64 p1), .long (0 : Int64), .long (15 : Int64)]) (rest := []) ⟨hx, hb, hml, hown, hts⟩ k_self (c_X5_in l (Int32.toInt64 p1) (0 : Int64) (15 : Int64)) kv_X5_52 rfl rfl ⟨Nat.le_of_ble_eq_true rfl, Nat.le_of_ble_eq_true rfl⟩ rfl hl.1 rfl (Nat.le_of_ble_eq_true rfl) dX5_wear_11 ⟨Nat.zero_le _, Nat.zero_le _⟩ ?_
  refine lv_if_eq (tgt := 26) hx hb dX5_wear_14 (by decide) (fun c_14 => ?_) (fun c_14 => ?_)
  · refine lv_iconst (v := -1) hx hb dX5_wear_26 (by decide) ?_
    have hE : spX5_wear kth kwe p1 = ((-1 : Int32), (0 : Int32)) := by unfold spX5_wear; rw [if_pos c_14]
    exact W.iret (v := (-1 : Int32)) hx hb hr (fun t ht hW => ⟨⟨(-1 : Int32), (), rfl, by rw [hE], by rw [hE, ht]; exact hP, va_K.moved hW.alike hK, by rw [hE]; exact hD⟩, hS.F ht⟩) hS.2.2 dX5_wear_27
  · refine lv_aload_n hx hb dX5_wear_17 rfl (lv_at hl 0 rfl) ?_
    refine va_get (D := D) (ci := 5) (v := .ref kw) (C := RX5) (T := TX5) (N := 16) hx hb hts k_inX5 hown hK hP 0 rfl rfl 3 (by decide) (hts _ kw_492) (fun _ h9 => h9) rfl dX5_wear_18 ?_
    refine lv_iload_n hx hb dX5_wear_21 rfl (lv_at hl 1 rfl) ?_
    refine va_iald hx hb hK hP 2 0 rfl rfl (by obtain ⟨w, hw, hw1⟩ := k_inN c_14; have l2 : (15 : Int64).toInt = 15 := rfl; rw [hw]; exact vp_in_nI (by omega) (by decide)) dX5_wear_22 ?_
    refine lv_goto (tgt := 27) hx hb dX5_wear_23 (by decide) ?_
    have hE : spX5_wear kth kwe p1 = ((kwe (Int32.toNatClampNeg p1)), (0 : Int32)) := by unfold spX5_wear; rw [if_neg c_14]
    exact W.iret (v := (kwe (Int32.toNatClampNeg p1))) hx hb hr (fun t ht hW => ⟨⟨(kwe (Int32.toNatClampNeg p1)), (), rfl, by rw [hE], by rw [hE, ht]; exact hP, va_K.moved hW.alike hK, by rw [hE]; exact hD⟩, hS.F ht⟩) hS.2.2 dX5_wear_27
def spX5_word (kth : Int32) (kme : Nat → Int32) (p1 : Int32) (p2 : Int32) : Int32 × Int32 := (if (spX5_in (Int32.toInt64 p1) (0 : Int64) (15 : Int64)) = 0 then ((-1 : Int32), (0 : Int32)) else (if (spX5_in (Int32.toInt64 p2) (0 : Int64) (255 : Int64)) = 0 then ((-1 : Int32), (0 : Int32)) else ((kme (Int32.toNatClampNeg (((256 : Int32) * p1) + p2))), (0 : Int32))))
set_option maxHeartbeats 4000000 in
set_option maxRecDepth 100000 in
theorem c_X5_word (l : Launch) (D : va_G) (kO km kw kb kr kd kt : Nat) (cA : ClassId) (kth : Int32) (kmn : Int32) (kpw : Int32) (klf : Int32) (kmk : Int32) (ksc : Int32) (krc : Int32) (kno : Int32) (kpp : Int32) (kpc : Int64) (kme : Nat → Int32) (kwe : Nat → Int32) (kbo : Nat → Int32) (kre : Nat → Int32) (kdr : Nat → Int32) (ktb : Nat → Int32) (p1 : Int32) (p2 : Int32)  : kWi l yX5_word cX5_word 3 (some .int) { frames := 1, cells := 0, slots := 0, locals := 25 } D [(cA, .int)] [.ref kO, .int p1, .int p2] (wK kO km kw kb kr kd kt cA kth kmn kpw klf kmk ksc krc kno kpp kpc kme kwe kbo kre kdr ktb) (spX5_word kth kme p1 p2).1 (wK kO km kw kb kr kd kt cA (spX5_word kth kme p1 p2).2 kmn kpw klf kmk ksc krc kno kpp kpc kme kwe kbo kre kdr ktb) := by
  intro sz
  refine Met.ofW (cc := cX5_word) (maxL := 3) (ret := (some .int)) (by decide) rfl ?_
  intro p e s m args below meth c s₁ B hml hv
  obtain ⟨rfl, hsz, hP, hK, hD0⟩ := hv
  have hx := B.exec
  have hb := B.bytes
  have hr := B.returns
  have hts : ∀ w ∈ kG, w.before _ s = true := fun w h => atoms_spec (ws := kT yX5_word cX5_word 3 (some .int)) B.pre w (List.mem_cons_of_mem _ h)
  have hown : s.vm.findClass RX5 = some m.cls := findClass_of_methodNamed B.named
  have hlocks := B.notSynchronized
  subst hsz
  have hD := hD0.self (sz := s.heap.size)
  generalize hAe : va_A (wK kO km kw kb kr kd kt cA kth kmn kpw klf kmk ksc krc kno kpp kpc kme kwe kbo kre kdr ktb) s.heap.size = A at hD ⊢
  have hA : ∀ q : Nat, s.heap.size ≤ q → A q := fun q h => by rw [← hAe]; exact Or.inr h
  have hS : va_S A s.heap s.heap [] := va_S.rf
  have hl := lv_entry ([.ref kO, .int p1, .int p2]) (n := 3) (Nat.le_of_ble_eq_true rfl)
  rw [lg_entry_eq]
  generalize (lg_sl ([.ref kO, .int p1, .int p2]) ++ List.replicate (3 - (lg_sl ([.ref kO, .int p1, .int p2])).length) Slot.unset).toArray = ls at hl ⊢
  have hl : lv_has ls 3 [(0, .ref kO), (1, .int p1), (2, .int p2)] := hl
  refine lv_aload_n hx hb dX5_word_0 rfl (lv_at hl 0 rfl) ?_
  refine lv_iconst (v := 0) hx hb dX5_word_1 (by decide) ?_
  refine va_put (D := D) (ci := 5) (v := .int (0 : Int32)) (ty := .int) (C := RX5) (T := TX5) (N := 16) hx hb hts k_inX5 tyX5 tyX5_ok nmX5 hown hK hP hD hS 0 rfl rfl 0 (by decide) (hts _ kw_489) (fun _ h9 => h9) rfl (by decide +kernel) rfl rfl (Nat.le_of_ble_eq_true rfl) dX5_word_2 (fun H locs hP hD hS => ?_)
  have hP : va_P D vwCl (wK kO km kw kb kr kd kt cA (0 : Int32) kmn kpw klf kmk ksc krc kno kpp kpc kme kwe kbo kre kdr ktb) H := hP
  have hD : va_D A (wK kO km kw kb kr kd kt cA (0 : Int32) kmn kpw klf kmk ksc krc kno kpp kpc kme kwe kbo kre kdr ktb) := hD
  refine lv_iload_n hx hb dX5_word_5 rfl (lv_at hl 1 rfl) ?_
  refine lv_i2l (v := (Int32.toInt64 p1)) hx hb dX5_word_6 rfl ?_
  refine lv_lconst (v := 0) hx hb dX5_word_7 (by decide) ?_
  refine lv_ldc2 (v := 15) hx hb hown (hts _ kw_597) dX5_word_8 ?_
  refine k_rdSi (As := [.long (Int32.toInt64 p1), .long (0 : Int64), .long (15 : Int64)]) (rest := []) ⟨hx, hb, hml, hown, hts⟩ k_self (c_X5_in l (Int32.toInt64 p1) (0 : Int64) (15 : Int64)) kv_X5_52 rfl rfl ⟨Nat.le_of_ble_eq_true rfl, Nat.le_of_ble_eq_true rfl⟩ rfl hl.1 rfl (Nat.le_of_ble_eq_true rfl) dX5_word_11 ⟨Nat.zero_le _, Nat.zero_le _⟩ ?_
  refine lv_if_eq (tgt := 44) hx hb dX5_word_14 (by decide) (fun c_14 => ?_) (fun c_14 => ?_)
  · refine lv_iconst (v := -1) hx hb dX5_word_44 (by decide) ?_
    have hE : spX5_word kth kme p1 p2 = ((-1 : Int32), (0 : Int32)) := by unfold spX5_word; rw [if_pos c_14]
    exact W.iret (v := (-1 : Int32)) hx hb hr (fun t ht hW => ⟨⟨(-1 : Int32), (), rfl, by rw [hE], by rw [hE, ht]; exact hP, va_K.moved hW.alike hK, by rw [hE]; exact hD⟩, hS.F ht⟩) hS.2.2 dX5_word_45
  · refine lv_iload_n hx hb dX5_word_17 rfl (lv_at hl 2 rfl) ?_
    refine lv_i2l (v := (Int32.toInt64 p2)) hx hb dX5_word_18 rfl ?_
    refine lv_lconst (v := 0) hx hb dX5_word_19 (by decide) ?_
    refine lv_ldc2 (v := 255) hx hb hown (hts _ kw_680) dX5_word_20 ?_
    refine k_rdSi (As := [.long (Int32.toInt64 p2), .long (0 : Int64), .long (255 : Int64)]) (rest := []) ⟨hx, hb, hml, hown, hts⟩ k_self (c_X5_in l (Int32.toInt64 p2) (0 : Int64) (255 : Int64)) kv_X5_52 rfl rfl ⟨Nat.le_of_ble_eq_true rfl, Nat.le_of_ble_eq_true rfl⟩ rfl hl.1 rfl (Nat.le_of_ble_eq_true rfl) dX5_word_23 ⟨Nat.zero_le _, Nat.zero_le _⟩ ?_
    refine lv_if_eq (tgt := 44) hx hb dX5_word_26 (by decide) (fun c_26 => ?_) (fun c_26 => ?_)
    · refine lv_iconst (v := -1) hx hb dX5_word_44 (by decide) ?_
      have hE : spX5_word kth kme p1 p2 = ((-1 : Int32), (0 : Int32)) := by unfold spX5_word; rw [if_neg c_14, if_pos c_26]
      exact W.iret (v := (-1 : Int32)) hx hb hr (fun t ht hW => ⟨⟨(-1 : Int32), (), rfl, by rw [hE], by rw [hE, ht]; exact hP, va_K.moved hW.alike hK, by rw [hE]; exact hD⟩, hS.F ht⟩) hS.2.2 dX5_word_45
    · refine lv_aload_n hx hb dX5_word_29 rfl (lv_at hl 0 rfl) ?_
      refine va_get (D := D) (ci := 5) (v := .ref km) (C := RX5) (T := TX5) (N := 16) hx hb hts k_inX5 hown hK hP 0 rfl rfl 2 (by decide) (hts _ kw_491) (fun _ h9 => h9) rfl dX5_word_30 ?_
      refine lv_sipush (v := 256) hx hb dX5_word_33 (by decide) ?_
      refine lv_iload_n hx hb dX5_word_36 rfl (lv_at hl 1 rfl) ?_
      refine lv_imul hx hb dX5_word_37 ?_
      refine lv_iload_n hx hb dX5_word_38 rfl (lv_at hl 2 rfl) ?_
      refine lv_iadd hx hb dX5_word_39 ?_
      refine va_iald hx hb hK hP 1 0 rfl rfl (by obtain ⟨w, hw, hw1⟩ := k_inN c_14; obtain ⟨v, hv, hv1⟩ := k_inN c_26; have l2 : (15 : Int64).toInt = 15 := rfl; have l3 : (255 : Int64).toInt = 255 := rfl; simp only [hw, hv, show (256 : Int32) = nI 256 from rfl, pk_mul, nI_add]; exact vp_in_nI (by omega) (by decide)) dX5_word_40 ?_
      refine lv_goto (tgt := 45) hx hb dX5_word_41 (by decide) ?_
      have hE : spX5_word kth kme p1 p2 = ((kme (Int32.toNatClampNeg (((256 : Int32) * p1) + p2))), (0 : Int32)) := by unfold spX5_word; rw [if_neg c_14, if_neg c_26]
      exact W.iret (v := (kme (Int32.toNatClampNeg (((256 : Int32) * p1) + p2)))) hx hb hr (fun t ht hW => ⟨⟨(kme (Int32.toNatClampNeg (((256 : Int32) * p1) + p2))), (), rfl, by rw [hE], by rw [hE, ht]; exact hP, va_K.moved hW.alike hK, by rw [hE]; exact hD⟩, hS.F ht⟩) hS.2.2 dX5_word_45
def spX5_sound (kth : Int32) (kpw : Int32) : Int32 × Int32 := (if kpw = 0 then ((-7 : Int32), (0 : Int32)) else ((1 : Int32), (0 : Int32)))
set_option maxHeartbeats 4000000 in
set_option maxRecDepth 100000 in
theorem c_X5_sound (l : Launch) (D : va_G) (kO km kw kb kr kd kt : Nat) (cA : ClassId) (kth : Int32) (kmn : Int32) (kpw : Int32) (klf : Int32) (kmk : Int32) (ksc : Int32) (krc : Int32) (kno : Int32) (kpp : Int32) (kpc : Int64) (kme : Nat → Int32) (kwe : Nat → Int32) (kbo : Nat → Int32) (kre : Nat → Int32) (kdr : Nat → Int32) (ktb : Nat → Int32)   : kWi l yX5_sound cX5_sound 1 (some .int) { frames := 0, cells := 0, slots := 0, locals := 0 } D [(cA, .int)] [.ref kO] (wK kO km kw kb kr kd kt cA kth kmn kpw klf kmk ksc krc kno kpp kpc kme kwe kbo kre kdr ktb) (spX5_sound kth kpw).1 (wK kO km kw kb kr kd kt cA (spX5_sound kth kpw).2 kmn kpw klf kmk ksc krc kno kpp kpc kme kwe kbo kre kdr ktb) := by
  intro sz
  refine Met.ofW (cc := cX5_sound) (maxL := 1) (ret := (some .int)) (by decide) rfl ?_
  intro p e s m args below meth c s₁ B hml hv
  obtain ⟨rfl, hsz, hP, hK, hD0⟩ := hv
  have hx := B.exec
  have hb := B.bytes
  have hr := B.returns
  have hts : ∀ w ∈ kG, w.before _ s = true := fun w h => atoms_spec (ws := kT yX5_sound cX5_sound 1 (some .int)) B.pre w (List.mem_cons_of_mem _ h)
  have hown : s.vm.findClass RX5 = some m.cls := findClass_of_methodNamed B.named
  have hlocks := B.notSynchronized
  subst hsz
  have hD := hD0.self (sz := s.heap.size)
  generalize hAe : va_A (wK kO km kw kb kr kd kt cA kth kmn kpw klf kmk ksc krc kno kpp kpc kme kwe kbo kre kdr ktb) s.heap.size = A at hD ⊢
  have hA : ∀ q : Nat, s.heap.size ≤ q → A q := fun q h => by rw [← hAe]; exact Or.inr h
  have hS : va_S A s.heap s.heap [] := va_S.rf
  have hl := lv_entry ([.ref kO]) (n := 1) (Nat.le_of_ble_eq_true rfl)
  rw [lg_entry_eq]
  generalize (lg_sl ([.ref kO]) ++ List.replicate (1 - (lg_sl ([.ref kO])).length) Slot.unset).toArray = ls at hl ⊢
  have hl : lv_has ls 1 [(0, .ref kO)] := hl
  refine lv_aload_n hx hb dX5_sound_0 rfl (lv_at hl 0 rfl) ?_
  refine lv_iconst (v := 0) hx hb dX5_sound_1 (by decide) ?_
  refine va_put (D := D) (ci := 5) (v := .int (0 : Int32)) (ty := .int) (C := RX5) (T := TX5) (N := 16) hx hb hts k_inX5 tyX5 tyX5_ok nmX5 hown hK hP hD hS 0 rfl rfl 0 (by decide) (hts _ kw_489) (fun _ h9 => h9) rfl (by decide +kernel) rfl rfl (Nat.le_of_ble_eq_true rfl) dX5_sound_2 (fun H locs hP hD hS => ?_)
  have hP : va_P D vwCl (wK kO km kw kb kr kd kt cA (0 : Int32) kmn kpw klf kmk ksc krc kno kpp kpc kme kwe kbo kre kdr ktb) H := hP
  have hD : va_D A (wK kO km kw kb kr kd kt cA (0 : Int32) kmn kpw klf kmk ksc krc kno kpp kpc kme kwe kbo kre kdr ktb) := hD
  refine lv_aload_n hx hb dX5_sound_5 rfl (lv_at hl 0 rfl) ?_
  refine va_get (D := D) (ci := 5) (v := .int kpw) (C := RX5) (T := TX5) (N := 16) hx hb hts k_inX5 hown hK hP 0 rfl rfl 8 (by decide) (hts _ kw_497) (fun _ h9 => h9) rfl dX5_sound_6 ?_
  refine lv_if_eq (tgt := 16) hx hb dX5_sound_9 (by decide) (fun c_9 => ?_) (fun c_9 => ?_)
  · refine lv_bipush (v := -7) hx hb dX5_sound_16 (by decide) ?_
    have hE : spX5_sound kth kpw = ((-7 : Int32), (0 : Int32)) := by unfold spX5_sound; rw [if_pos c_9]
    exact W.iret (v := (-7 : Int32)) hx hb hr (fun t ht hW => ⟨⟨(-7 : Int32), (), rfl, by rw [hE], by rw [hE, ht]; exact hP, va_K.moved hW.alike hK, by rw [hE]; exact hD⟩, hS.F ht⟩) hS.2.2 dX5_sound_18
  · refine lv_iconst (v := 1) hx hb dX5_sound_12 (by decide) ?_
    refine lv_goto (tgt := 18) hx hb dX5_sound_13 (by decide) ?_
    have hE : spX5_sound kth kpw = ((1 : Int32), (0 : Int32)) := by unfold spX5_sound; rw [if_neg c_9]
    exact W.iret (v := (1 : Int32)) hx hb hr (fun t ht hW => ⟨⟨(1 : Int32), (), rfl, by rw [hE], by rw [hE, ht]; exact hP, va_K.moved hW.alike hK, by rw [hE]; exact hD⟩, hS.F ht⟩) hS.2.2 dX5_sound_18
def lpX5_loadTable_48 : Nat → Int32 → Int32 → Int32 → Int32 → Int32 → Int32 → Int32 → (Nat → Int32) → (Nat → Int32) → (Nat → Int32) → (Nat → Int32) → (Nat → Int32) → (Nat → Int32) → Int32 → Int32 → (Int32 × Int32 × Int32 × Int32 × Int32 × Int32 × Int32 × (Nat → Int32) × (Nat → Int32) × (Nat → Int32) × (Nat → Int32) × (Nat → Int32))
  | 0, kth1, kpw1, klf1, _, ksc1, krc1, kno1, kme1, kwe1, kbo1, kre1, _, ktb1, _, _ => (0, kth1, kpw1, klf1, ksc1, krc1, kno1, kme1, kwe1, kbo1, kre1, ktb1)
  | n + 1, kth1, kpw1, klf1, kmk, ksc1, krc1, kno1, kme1, kwe1, kbo1, kre1, kdr, ktb1, p1, x2 => (if (320 : Int32) ≤ x2 then ((1 : Int32), kth1, kpw1, klf1, ksc1, krc1, kno1, kme1, kwe1, kbo1, kre1, ktb1) else (lpX5_loadTable_48 n kth1 kpw1 klf1 kmk ksc1 krc1 kno1 kme1 kwe1 kbo1 kre1 kdr (upd ktb1 (Int32.toNatClampNeg x2) (kdr (Int32.toNatClampNeg x2))) p1 (x2 + (1 : Int32))))
theorem lpX5_loadTable_48_e (n : Nat) (kth1 : Int32) (kpw1 : Int32) (klf1 : Int32) (kmk : Int32) (ksc1 : Int32) (krc1 : Int32) (kno1 : Int32) (kme1 : Nat → Int32) (kwe1 : Nat → Int32) (kbo1 : Nat → Int32) (kre1 : Nat → Int32) (kdr : Nat → Int32) (ktb1 : Nat → Int32) (p1 : Int32) (x2 : Int32) : lpX5_loadTable_48 (n + 1) kth1 kpw1 klf1 kmk ksc1 krc1 kno1 kme1 kwe1 kbo1 kre1 kdr ktb1 p1 x2 = (if (320 : Int32) ≤ x2 then ((1 : Int32), kth1, kpw1, klf1, ksc1, krc1, kno1, kme1, kwe1, kbo1, kre1, ktb1) else (lpX5_loadTable_48 n kth1 kpw1 klf1 kmk ksc1 krc1 kno1 kme1 kwe1 kbo1 kre1 kdr (upd ktb1 (Int32.toNatClampNeg x2) (kdr (Int32.toNatClampNeg x2))) p1 (x2 + (1 : Int32)))) := rfl
def spX5_loadTable (kth : Int32) (kpw : Int32) (klf : Int32) (kmk : Int32) (ksc : Int32) (krc : Int32) (kno : Int32) (kme : Nat → Int32) (kwe : Nat → Int32) (kbo : Nat → Int32) (kre : Nat → Int32) (kdr : Nat → Int32) (ktb : Nat → Int32) (p1 : Int32) : Int32 × Int32 × Int32 × Int32 × Int32 × Int32 × Int32 × (Nat → Int32) × (Nat → Int32) × (Nat → Int32) × (Nat → Int32) × (Nat → Int32) := (if kpw = 0 then ((-7 : Int32), (0 : Int32), kpw, klf, ksc, krc, kno, kme, kwe, kbo, kre, ktb) else (if p1 < 0 then ((0 : Int32), (0 : Int32), kpw, klf, ksc, krc, kno, kme, kwe, kbo, kre, ktb) else (if (kbo (Int32.toNatClampNeg (15 : Int32))) ≤ p1 then (match spX5_put kpw klf kmk ksc krc kno kme kwe kbo kre (9 : Int32) p1 (0 : Int32) with | (r_37, kpw_37, klf_37, ksc_37, krc_37, kno_37, kme_37, kwe_37, kbo_37, kre_37) => (if r_37 = 0 then ((-7 : Int32), (0 : Int32), kpw_37, klf_37, ksc_37, krc_37, kno_37, kme_37, kwe_37, kbo_37, kre_37, ktb) else (lpX5_loadTable_48 321 (0 : Int32) kpw_37 klf_37 kmk ksc_37 krc_37 kno_37 kme_37 kwe_37 kbo_37 kre_37 kdr ktb p1 (0 : Int32)))) else ((0 : Int32), (0 : Int32), kpw, klf, ksc, krc, kno, kme, kwe, kbo, kre, ktb))))
set_option maxHeartbeats 4000000 in
set_option maxRecDepth 100000 in
theorem c_X5_loadTable (l : Launch) (D : va_G) (kO km kw kb kr kd kt : Nat) (cA : ClassId) (kth : Int32) (kmn : Int32) (kpw : Int32) (klf : Int32) (kmk : Int32) (ksc : Int32) (krc : Int32) (kno : Int32) (kpp : Int32) (kpc : Int64) (kme : Nat → Int32) (kwe : Nat → Int32) (kbo : Nat → Int32) (kre : Nat → Int32) (kdr : Nat → Int32) (ktb : Nat → Int32) (p1 : Int32) (hs : ∃ k : Nat, ksc = nI k ∧ k < 16) (hrr : ∃ r : Nat, krc = nI r ∧ r ≤ 12) (hp : kpw = 0 ∨ kpw = 1) : kWi l yX5_loadTable cX5_loadTable 3 (some .int) { frames := 5, cells := 0, slots := 0, locals := 120 } D [(cA, .int)] [.ref kO, .int p1] (wK kO km kw kb kr kd kt cA kth kmn kpw klf kmk ksc krc kno kpp kpc kme kwe kbo kre kdr ktb) (spX5_loadTable kth kpw klf kmk ksc krc kno kme kwe kbo kre kdr ktb p1).1 (wK kO km kw kb kr kd kt cA (spX5_loadTable kth kpw klf kmk ksc krc kno kme kwe kbo kre kdr ktb p1).2.1 kmn (spX5_loadTable kth kpw klf kmk ksc krc kno kme kwe kbo kre kdr ktb p1).2.2.1 (spX5_loadTable kth kpw klf kmk ksc krc kno kme kwe kbo kre kdr ktb p1).2.2.2.1 kmk (spX5_loadTable kth kpw klf kmk ksc krc kno kme kwe kbo kre kdr ktb p1).2.2.2.2.1 (spX5_loadTable kth kpw klf kmk ksc krc kno kme kwe kbo kre kdr ktb p1).2.2.2.2.2.1 (spX5_loadTable kth kpw klf kmk ksc krc kno kme kwe kbo kre kdr ktb p1).2.2.2.2.2.2.1 kpp kpc (spX5_loadTable kth kpw klf kmk ksc krc kno kme kwe kbo kre kdr ktb p1).2.2.2.2.2.2.2.1 (spX5_loadTable kth kpw klf kmk ksc krc kno kme kwe kbo kre kdr ktb p1).2.2.2.2.2.2.2.2.1 (spX5_loadTable kth kpw klf kmk ksc krc kno kme kwe kbo kre kdr ktb p1).2.2.2.2.2.2.2.2.2.1 (spX5_loadTable kth kpw klf kmk ksc krc kno kme kwe kbo kre kdr ktb p1).2.2.2.2.2.2.2.2.2.2.1 kdr (spX5_loadTable kth kpw klf kmk ksc krc kno kme kwe kbo kre kdr ktb p1).2.2.2.2.2.2.2.2.2.2.2) := by
  intro sz
  refine Met.ofW (cc := cX5_loadTable) (maxL := 3) (ret := (some .int)) (by decide) rfl ?_
  intro p e s m args below meth c s₁ B hml hv
  obtain ⟨rfl, hsz, hP, hK, hD0⟩ := hv
  have hx := B.exec
  have hb := B.bytes
  have hr := B.returns
  have hts : ∀ w ∈ kG, w.before _ s = true := fun w h => atoms_spec (ws := kT yX5_loadTable cX5_loadTable 3 (some .int)) B.pre w (List.mem_cons_of_mem _ h)
  have hown : s.vm.findClass RX5 = some m.cls := findClass_of_methodNamed B.named
  have hlocks := B.notSynchronized
  subst hsz
  have hD := hD0.self (sz := s.heap.size)
  generalize hAe : va_A (wK kO km kw kb kr kd kt cA kth kmn kpw klf kmk ksc krc kno kpp kpc kme kwe kbo kre kdr ktb) s.heap.size = A at hD ⊢
  have hA : ∀ q : Nat, s.heap.size ≤ q → A q := fun q h => by rw [← hAe]; exact Or.inr h
  have hS : va_S A s.heap s.heap [] := va_S.rf
  have hl := lv_entry ([.ref kO, .int p1]) (n := 3) (Nat.le_of_ble_eq_true rfl)
  rw [lg_entry_eq]
  generalize (lg_sl ([.ref kO, .int p1]) ++ List.replicate (3 - (lg_sl ([.ref kO, .int p1])).length) Slot.unset).toArray = ls at hl ⊢
  have hl : lv_has ls 3 [(0, .ref kO), (1, .int p1)] := hl
  have L48 : ∀ (n : Nat) (kth1 : Int32) (kpw1 : Int32) (klf1 : Int32) (ksc1 : Int32) (krc1 : Int32) (kno1 : Int32) (kme1 : Nat → Int32) (kwe1 : Nat → Int32) (kbo1 : Nat → Int32) (kre1 : Nat → Int32) (ktb1 : Nat → Int32) (x2 : Int32) (H : Heap) (locs : List Loc) (ls : Array Slot), (∃ k : Nat, x2 = nI k ∧ k ≤ 320 ∧ 320 < k + n) → spX5_loadTable kth kpw klf kmk ksc krc kno kme kwe kbo kre kdr ktb p1 = lpX5_loadTable_48 n kth1 kpw1 klf1 kmk ksc1 krc1 kno1 kme1 kwe1 kbo1 kre1 kdr ktb1 p1 x2 → va_P D vwCl (wK kO km kw kb kr kd kt cA kth1 kmn kpw1 klf1 kmk ksc1 krc1 kno1 kpp kpc kme1 kwe1 kbo1 kre1 kdr ktb1) H → va_D A (wK kO km kw kb kr kd kt cA kth1 kmn kpw1 klf1 kmk ksc1 krc1 kno1 kpp kpc kme1 kwe1 kbo1 kre1 kdr ktb1) → va_S A s.heap H locs → lv_has ls 3 [(0, .ref kO), (1, .int p1), (2, .int x2)] → W p l e (headSpec (kT yX5_loadTable cX5_loadTable 3 (some .int)) ({ frames := 5, cells := 0, slots := 0, locals := 120 })).room s m ([.ref kO, .int p1] : List Value).toArray below meth c H locs 0 0 (MQ below (va_Qi (fun r (_ : Unit) => r = (spX5_loadTable kth kpw klf kmk ksc krc kno kme kwe kbo kre kdr ktb p1).1) (kPost D A (wK kO km kw kb kr kd kt cA (spX5_loadTable kth kpw klf kmk ksc krc kno kme kwe kbo kre kdr ktb p1).2.1 kmn (spX5_loadTable kth kpw klf kmk ksc krc kno kme kwe kbo kre kdr ktb p1).2.2.1 (spX5_loadTable kth kpw klf kmk ksc krc kno kme kwe kbo kre kdr ktb p1).2.2.2.1 kmk (spX5_loadTable kth kpw klf kmk ksc krc kno kme kwe kbo kre kdr ktb p1).2.2.2.2.1 (spX5_loadTable kth kpw klf kmk ksc krc kno kme kwe kbo kre kdr ktb p1).2.2.2.2.2.1 (spX5_loadTable kth kpw klf kmk ksc krc kno kme kwe kbo kre kdr ktb p1).2.2.2.2.2.2.1 kpp kpc (spX5_loadTable kth kpw klf kmk ksc krc kno kme kwe kbo kre kdr ktb p1).2.2.2.2.2.2.2.1 (spX5_loadTable kth kpw klf kmk ksc krc kno kme kwe kbo kre kdr ktb p1).2.2.2.2.2.2.2.2.1 (spX5_loadTable kth kpw klf kmk ksc krc kno kme kwe kbo kre kdr ktb p1).2.2.2.2.2.2.2.2.2.1 (spX5_loadTable kth kpw klf kmk ksc krc kno kme kwe kbo kre kdr ktb p1).2.2.2.2.2.2.2.2.2.2.1 kdr (spX5_loadTable kth kpw klf kmk ksc krc kno kme kwe kbo kre kdr ktb p1).2.2.2.2.2.2.2.2.2.2.2) [(cA, .int)]) A) ([.ref kO, .int p1] : List Value).toArray s 0 0 A) (F0 m 48 ls []) := by
    intro n
    induction n with
    | zero =>
      intro kth1 kpw1 klf1 ksc1 krc1 kno1 kme1 kwe1 kbo1 kre1 ktb1 x2 H locs ls hI
      exact absurd hI (by rintro ⟨k, -, h1, h2⟩; omega)
    | succ n ih =>
      intro kth1 kpw1 klf1 ksc1 krc1 kno1 kme1 kwe1 kbo1 kre1 ktb1 x2 H locs ls hI hE hP hD hS hl
      obtain ⟨k, hk, hk1, hk2⟩ := hI
      refine lv_iload_n hx hb dX5_loadTable_48 rfl (lv_at hl 2 rfl) ?_
      refine lv_sipush (v := 320) hx hb dX5_loadTable_49 (by decide) ?_
      refine lv_icmp_ge (tgt := 73) hx hb dX5_loadTable_52 (by decide) (fun c_52 => ?_) (fun c_52 => ?_)
      · refine lv_iconst (v := 1) hx hb dX5_loadTable_73 (by decide) ?_
        have hE : spX5_loadTable kth kpw klf kmk ksc krc kno kme kwe kbo kre kdr ktb p1 = ((1 : Int32), kth1, kpw1, klf1, ksc1, krc1, kno1, kme1, kwe1, kbo1, kre1, ktb1) := hE.trans (by rw [lpX5_loadTable_48_e]; rw [if_pos c_52])
        exact W.iret (v := (1 : Int32)) hx hb hr (fun t ht hW => ⟨⟨(1 : Int32), (), rfl, by rw [hE], by rw [hE, ht]; exact hP, va_K.moved hW.alike hK, by rw [hE]; exact hD⟩, hS.F ht⟩) hS.2.2 dX5_loadTable_74
      · refine lv_aload_n hx hb dX5_loadTable_55 rfl (lv_at hl 0 rfl) ?_
        refine va_get (D := D) (ci := 5) (v := .ref kt) (C := RX5) (T := TX5) (N := 16) hx hb hts k_inX5 hown hK hP 0 rfl rfl 7 (by decide) (hts _ kw_496) (fun _ h9 => h9) rfl dX5_loadTable_56 ?_
        refine lv_iload_n hx hb dX5_loadTable_59 rfl (lv_at hl 2 rfl) ?_
        refine lv_aload_n hx hb dX5_loadTable_60 rfl (lv_at hl 0 rfl) ?_
        refine va_get (D := D) (ci := 5) (v := .ref kd) (C := RX5) (T := TX5) (N := 16) hx hb hts k_inX5 hown hK hP 0 rfl rfl 6 (by decide) (hts _ kw_495) (fun _ h9 => h9) rfl dX5_loadTable_61 ?_
        refine lv_iload_n hx hb dX5_loadTable_64 rfl (lv_at hl 2 rfl) ?_
        refine va_iald hx hb hK hP 5 0 rfl rfl (by rw [hk]; exact vp_in_nI (k_lt (N := 320) rfl hk hk1 (by decide) c_52) (by decide)) dX5_loadTable_65 ?_
        refine va_iast hx hb hK hP hD hS 6 0 rfl rfl (by rw [hk]; exact vp_in_nI (k_lt (N := 320) rfl hk hk1 (by decide) c_52) (by decide)) dX5_loadTable_66 (fun H locs hP hD hS => ?_)
        have hP : va_P D vwCl (wK kO km kw kb kr kd kt cA kth1 kmn kpw1 klf1 kmk ksc1 krc1 kno1 kpp kpc kme1 kwe1 kbo1 kre1 kdr (upd ktb1 (Int32.toNatClampNeg x2) (kdr (Int32.toNatClampNeg x2)))) H := hP
        have hD : va_D A (wK kO km kw kb kr kd kt cA kth1 kmn kpw1 klf1 kmk ksc1 krc1 kno1 kpp kpc kme1 kwe1 kbo1 kre1 kdr (upd ktb1 (Int32.toNatClampNeg x2) (kdr (Int32.toNatClampNeg x2)))) := hD
        refine lv_iinc (v := (x2 + (1 : Int32))) (lv' := [(2, .int (x2 + (1 : Int32))), (0, .ref kO), (1, .int p1)]) hx hb dX5_loadTable_67 hl (k := 2) rfl rfl (by decide) rfl (fun ls hl => ?_)
        refine lv_goto (tgt := 48) hx hb dX5_loadTable_70 (by decide) ?_
        exact ih  kth1 kpw1 klf1 ksc1 krc1 kno1 kme1 kwe1 kbo1 kre1 (upd ktb1 (Int32.toNatClampNeg x2) (kdr (Int32.toNatClampNeg x2))) (x2 + (1 : Int32)) _ _ ls (k_step (N := 320) rfl (by decide) hk hk1 hk2 c_52) (hE.trans (by rw [lpX5_loadTable_48_e]; rw [if_neg c_52])) hP hD hS (lv_sub hl [1, 2, 0] rfl)
  refine lv_aload_n hx hb dX5_loadTable_0 rfl (lv_at hl 0 rfl) ?_
  refine lv_iconst (v := 0) hx hb dX5_loadTable_1 (by decide) ?_
  refine va_put (D := D) (ci := 5) (v := .int (0 : Int32)) (ty := .int) (C := RX5) (T := TX5) (N := 16) hx hb hts k_inX5 tyX5 tyX5_ok nmX5 hown hK hP hD hS 0 rfl rfl 0 (by decide) (hts _ kw_489) (fun _ h9 => h9) rfl (by decide +kernel) rfl rfl (Nat.le_of_ble_eq_true rfl) dX5_loadTable_2 (fun H locs hP hD hS => ?_)
  have hP : va_P D vwCl (wK kO km kw kb kr kd kt cA (0 : Int32) kmn kpw klf kmk ksc krc kno kpp kpc kme kwe kbo kre kdr ktb) H := hP
  have hD : va_D A (wK kO km kw kb kr kd kt cA (0 : Int32) kmn kpw klf kmk ksc krc kno kpp kpc kme kwe kbo kre kdr ktb) := hD
  refine lv_aload_n hx hb dX5_loadTable_5 rfl (lv_at hl 0 rfl) ?_
  refine va_get (D := D) (ci := 5) (v := .int kpw) (C := RX5) (T := TX5) (N := 16) hx hb hts k_inX5 hown hK hP 0 rfl rfl 8 (by decide) (hts _ kw_497) (fun _ h9 => h9) rfl dX5_loadTable_6 ?_
  refine lv_if_ne (tgt := 15) hx hb dX5_loadTable_9 (by decide) (fun c_9 => ?_) (fun c_9 => ?_)
  · refine lv_iload_n hx hb dX5_loadTable_15 rfl (lv_at hl 1 rfl) ?_
    refine lv_if_lt (tgt := 30) hx hb dX5_loadTable_16 (by decide) (fun c_16 => ?_) (fun c_16 => ?_)
    · refine lv_iconst (v := 0) hx hb dX5_loadTable_30 (by decide) ?_
      have hE : spX5_loadTable kth kpw klf kmk ksc krc kno kme kwe kbo kre kdr ktb p1 = ((0 : Int32), (0 : Int32), kpw, klf, ksc, krc, kno, kme, kwe, kbo, kre, ktb) := by unfold spX5_loadTable; rw [if_neg c_9, if_pos c_16]
      exact W.iret (v := (0 : Int32)) hx hb hr (fun t ht hW => ⟨⟨(0 : Int32), (), rfl, by rw [hE], by rw [hE, ht]; exact hP, va_K.moved hW.alike hK, by rw [hE]; exact hD⟩, hS.F ht⟩) hS.2.2 dX5_loadTable_31
    · refine lv_iload_n hx hb dX5_loadTable_19 rfl (lv_at hl 1 rfl) ?_
      refine lv_aload_n hx hb dX5_loadTable_20 rfl (lv_at hl 0 rfl) ?_
      refine va_get (D := D) (ci := 5) (v := .ref kb) (C := RX5) (T := TX5) (N := 16) hx hb hts k_inX5 hown hK hP 0 rfl rfl 4 (by decide) (hts _ kw_493) (fun _ h9 => h9) rfl dX5_loadTable_21 ?_
      refine lv_bipush (v := 15) hx hb dX5_loadTable_24 (by decide) ?_
      refine va_iald hx hb hK hP 3 0 rfl rfl (vp_in_nI (n := 15) (N := 193) (by decide) (by decide)) dX5_loadTable_26 ?_
      refine lv_icmp_ge (tgt := 32) hx hb dX5_loadTable_27 (by decide) (fun c_27 => ?_) (fun c_27 => ?_)
      · refine lv_aload_n hx hb dX5_loadTable_32 rfl (lv_at hl 0 rfl) ?_
        refine lv_bipush (v := 9) hx hb dX5_loadTable_33 (by decide) ?_
        refine lv_iload_n hx hb dX5_loadTable_35 rfl (lv_at hl 1 rfl) ?_
        refine lv_iconst (v := 0) hx hb dX5_loadTable_36 (by decide) ?_
        rcases hq_37 : spX5_put kpw klf kmk ksc krc kno kme kwe kbo kre (9 : Int32) p1 (0 : Int32) with ⟨r_37, kpw_37, klf_37, ksc_37, krc_37, kno_37, kme_37, kwe_37, kbo_37, kre_37⟩
        have hM_37 : kWi l yX5_put cX5_put 7 (some .boolean) { frames := 4, cells := 0, slots := 0, locals := 94 } D [(cA, .int)] [.ref kO, .int (9 : Int32), .int p1, .int (0 : Int32)] (wK kO km kw kb kr kd kt cA (0 : Int32) kmn kpw klf kmk ksc krc kno kpp kpc kme kwe kbo kre kdr ktb) r_37 (wK kO km kw kb kr kd kt cA (0 : Int32) kmn kpw_37 klf_37 kmk ksc_37 krc_37 kno_37 kpp kpc kme_37 kwe_37 kbo_37 kre_37 kdr ktb) := by
          have h := c_X5_put l D kO km kw kb kr kd kt cA (0 : Int32) kmn kpw klf kmk ksc krc kno kpp kpc kme kwe kbo kre kdr ktb (9 : Int32) p1 (0 : Int32) hs hrr hp (fun h => absurd h (by decide))
          rw [hq_37] at h
          exact h
        refine k_wrVi (As := [.int (9 : Int32), .int p1, .int (0 : Int32)]) (rest := []) (ci := 5) (q0 := 0) (ws' := (wK kO km kw kb kr kd kt cA (0 : Int32) kmn kpw_37 klf_37 kmk ksc_37 krc_37 kno_37 kpp kpc kme_37 kwe_37 kbo_37 kre_37 kdr ktb)) (wr := []) ⟨hx, hb, hml, hown, hts⟩ k_self hM_37 kv_X5_116 hP hD hS hA hK rfl rfl [0, 1, 2, 3, 4, 5, 6] [] [0, 1, 2, 3, 4, 5, 6] rfl (by decide) rfl (by decide) (by decide) rfl (by decide) rfl rfl ⟨Nat.le_of_ble_eq_true rfl, Nat.le_of_ble_eq_true rfl⟩ rfl hl.1 rfl (Nat.le_of_ble_eq_true rfl) dX5_loadTable_37 ⟨Nat.zero_le _, Nat.zero_le _⟩ (fun H locs hP hD hS => ?_)
        refine lv_if_ne (tgt := 46) hx hb dX5_loadTable_40 (by decide) (fun c_40 => ?_) (fun c_40 => ?_)
        · refine lv_iconst (v := 0) hx hb dX5_loadTable_46 (by decide) ?_
          refine lv_istore_n (lv' := [(2, .int (0 : Int32)), (0, .ref kO), (1, .int p1)]) hx hb dX5_loadTable_47 rfl hl (by decide) rfl (fun ls hl => ?_)
          exact L48 321 (0 : Int32) kpw_37 klf_37 ksc_37 krc_37 kno_37 kme_37 kwe_37 kbo_37 kre_37 ktb (0 : Int32) _ _ ls (⟨0, rfl, by decide, by decide⟩) (by unfold spX5_loadTable; rw [if_neg c_9, if_neg c_16, if_pos c_27]; rw [hq_37]; dsimp only; rw [if_neg c_40]) hP hD hS (lv_sub hl [1, 2, 0] rfl)
        · refine lv_bipush (v := -7) hx hb dX5_loadTable_43 (by decide) ?_
          have hE : spX5_loadTable kth kpw klf kmk ksc krc kno kme kwe kbo kre kdr ktb p1 = ((-7 : Int32), (0 : Int32), kpw_37, klf_37, ksc_37, krc_37, kno_37, kme_37, kwe_37, kbo_37, kre_37, ktb) := by unfold spX5_loadTable; rw [if_neg c_9, if_neg c_16, if_pos c_27]; rw [hq_37]; dsimp only; rw [if_pos c_40]
          exact W.iret (v := (-7 : Int32)) hx hb hr (fun t ht hW => ⟨⟨(-7 : Int32), (), rfl, by rw [hE], by rw [hE, ht]; exact hP, va_K.moved hW.alike hK, by rw [hE]; exact hD⟩, hS.F ht⟩) hS.2.2 dX5_loadTable_45
      · refine lv_iconst (v := 0) hx hb dX5_loadTable_30 (by decide) ?_
        have hE : spX5_loadTable kth kpw klf kmk ksc krc kno kme kwe kbo kre kdr ktb p1 = ((0 : Int32), (0 : Int32), kpw, klf, ksc, krc, kno, kme, kwe, kbo, kre, ktb) := by unfold spX5_loadTable; rw [if_neg c_9, if_neg c_16, if_neg c_27]
        exact W.iret (v := (0 : Int32)) hx hb hr (fun t ht hW => ⟨⟨(0 : Int32), (), rfl, by rw [hE], by rw [hE, ht]; exact hP, va_K.moved hW.alike hK, by rw [hE]; exact hD⟩, hS.F ht⟩) hS.2.2 dX5_loadTable_31
  · refine lv_bipush (v := -7) hx hb dX5_loadTable_12 (by decide) ?_
    have hE : spX5_loadTable kth kpw klf kmk ksc krc kno kme kwe kbo kre kdr ktb p1 = ((-7 : Int32), (0 : Int32), kpw, klf, ksc, krc, kno, kme, kwe, kbo, kre, ktb) := by unfold spX5_loadTable; rw [if_pos c_9]
    exact W.iret (v := (-7 : Int32)) hx hb hr (fun t ht hW => ⟨⟨(-7 : Int32), (), rfl, by rw [hE], by rw [hE, ht]; exact hP, va_K.moved hW.alike hK, by rw [hE]; exact hD⟩, hS.F ht⟩) hS.2.2 dX5_loadTable_14
def spX5_frank (kth : Int32) (kpw : Int32) (klf : Int32) (kmk : Int32) (ksc : Int32) (krc : Int32) (kno : Int32) (kpp : Int32) (kpc : Int64) (kme : Nat → Int32) (kwe : Nat → Int32) (kbo : Nat → Int32) (kre : Nat → Int32) (p1 : Int32) (p2 : Int32) (p3 : Int32) : Int32 × Int32 × Int32 × Int32 × Int32 × Int32 × Int32 × Int32 × Int64 × (Nat → Int32) × (Nat → Int32) × (Nat → Int32) × (Nat → Int32) := (if kpw = 0 then ((-7 : Int32), (0 : Int32), kpw, klf, ksc, krc, kno, kpp, kpc, kme, kwe, kbo, kre) else (if (kbo (Int32.toNatClampNeg (13 : Int32))) = 0 then (if (spX5_isDay p3) = 0 then ((0 : Int32), (0 : Int32), kpw, klf, ksc, krc, kno, kpp, kpc, kme, kwe, kbo, kre) else (if (kbo (Int32.toNatClampNeg (14 : Int32))) < p3 then ((0 : Int32), (0 : Int32), kpw, klf, ksc, krc, kno, kpp, kpc, kme, kwe, kbo, kre) else (if (spX5_in (Int32.toInt64 p1) (0 : Int64) (15 : Int64)) = 0 then ((0 : Int32), (0 : Int32), kpw, klf, ksc, krc, kno, kpp, kpc, kme, kwe, kbo, kre) else (if (spX5_isMoney p2) = 0 then ((0 : Int32), (0 : Int32), kpw, klf, ksc, krc, kno, kpp, kpc, kme, kwe, kbo, kre) else (if 0 < (lg_cmp (Int32.toInt64 p2) (spX5_sum kbo (4 : Int32))) then ((0 : Int32), (0 : Int32), kpw, klf, ksc, krc, kno, kpp, kpc, kme, kwe, kbo, kre) else (if (kbo (Int32.toNatClampNeg (16 : Int32))) = 0 then (match spX5_put kpw klf kmk ksc krc kno kme kwe kbo kre (1 : Int32) p2 (p1 + ((16 : Int32) * p3)) with | (r_106, kpw_106, klf_106, ksc_106, krc_106, kno_106, kme_106, kwe_106, kbo_106, kre_106) => (if r_106 = 0 then ((-7 : Int32), (0 : Int32), kpw_106, klf_106, ksc_106, krc_106, kno_106, kpp, kpc, kme_106, kwe_106, kbo_106, kre_106) else (match spX5_put kpw_106 klf_106 kmk ksc_106 krc_106 kno_106 kme_106 kwe_106 kbo_106 kre_106 (2 : Int32) (0 : Int32) (0 : Int32) with | (r_140, kpw_140, klf_140, ksc_140, krc_140, kno_140, kme_140, kwe_140, kbo_140, kre_140) => (if r_140 = 0 then ((-7 : Int32), (0 : Int32), kpw_140, klf_140, ksc_140, krc_140, kno_140, (kpp + (1 : Int32)), (kpc + (Int32.toInt64 p2)), kme_140, kwe_140, kbo_140, kre_140) else ((1 : Int32), (0 : Int32), kpw_140, klf_140, ksc_140, krc_140, kno_140, (kpp + (1 : Int32)), (kpc + (Int32.toInt64 p2)), kme_140, kwe_140, kbo_140, kre_140))))) else ((0 : Int32), (0 : Int32), kpw, klf, ksc, krc, kno, kpp, kpc, kme, kwe, kbo, kre))))))) else ((0 : Int32), (0 : Int32), kpw, klf, ksc, krc, kno, kpp, kpc, kme, kwe, kbo, kre)))
set_option maxHeartbeats 4000000 in
set_option maxRecDepth 100000 in
theorem c_X5_frank (l : Launch) (D : va_G) (kO km kw kb kr kd kt : Nat) (cA : ClassId) (kth : Int32) (kmn : Int32) (kpw : Int32) (klf : Int32) (kmk : Int32) (ksc : Int32) (krc : Int32) (kno : Int32) (kpp : Int32) (kpc : Int64) (kme : Nat → Int32) (kwe : Nat → Int32) (kbo : Nat → Int32) (kre : Nat → Int32) (kdr : Nat → Int32) (ktb : Nat → Int32) (p1 : Int32) (p2 : Int32) (p3 : Int32) (hs : ∃ k : Nat, ksc = nI k ∧ k < 16) (hrr : ∃ r : Nat, krc = nI r ∧ r ≤ 12) (hp : kpw = 0 ∨ kpw = 1) : kWi l yX5_frank cX5_frank 5 (some .int) { frames := 5, cells := 0, slots := 0, locals := 120 } D [(cA, .int)] [.ref kO, .int p1, .int p2, .int p3] (wK kO km kw kb kr kd kt cA kth kmn kpw klf kmk ksc krc kno kpp kpc kme kwe kbo kre kdr ktb) (spX5_frank kth kpw klf kmk ksc krc kno kpp kpc kme kwe kbo kre p1 p2 p3).1 (wK kO km kw kb kr kd kt cA (spX5_frank kth kpw klf kmk ksc krc kno kpp kpc kme kwe kbo kre p1 p2 p3).2.1 kmn (spX5_frank kth kpw klf kmk ksc krc kno kpp kpc kme kwe kbo kre p1 p2 p3).2.2.1 (spX5_frank kth kpw klf kmk ksc krc kno kpp kpc kme kwe kbo kre p1 p2 p3).2.2.2.1 kmk (spX5_frank kth kpw klf kmk ksc krc kno kpp kpc kme kwe kbo kre p1 p2 p3).2.2.2.2.1 (spX5_frank kth kpw klf kmk ksc krc kno kpp kpc kme kwe kbo kre p1 p2 p3).2.2.2.2.2.1 (spX5_frank kth kpw klf kmk ksc krc kno kpp kpc kme kwe kbo kre p1 p2 p3).2.2.2.2.2.2.1 (spX5_frank kth kpw klf kmk ksc krc kno kpp kpc kme kwe kbo kre p1 p2 p3).2.2.2.2.2.2.2.1 (spX5_frank kth kpw klf kmk ksc krc kno kpp kpc kme kwe kbo kre p1 p2 p3).2.2.2.2.2.2.2.2.1 (spX5_frank kth kpw klf kmk ksc krc kno kpp kpc kme kwe kbo kre p1 p2 p3).2.2.2.2.2.2.2.2.2.1 (spX5_frank kth kpw klf kmk ksc krc kno kpp kpc kme kwe kbo kre p1 p2 p3).2.2.2.2.2.2.2.2.2.2.1 (spX5_frank kth kpw klf kmk ksc krc kno kpp kpc kme kwe kbo kre p1 p2 p3).2.2.2.2.2.2.2.2.2.2.2.1 (spX5_frank kth kpw klf kmk ksc krc kno kpp kpc kme kwe kbo kre p1 p2 p3).2.2.2.2.2.2.2.2.2.2.2.2 kdr ktb) := by
  intro sz
  refine Met.ofW (cc := cX5_frank) (maxL := 5) (ret := (some .int)) (by decide) rfl ?_
  intro p e s m args below meth c s₁ B hml hv
  obtain ⟨rfl, hsz, hP, hK, hD0⟩ := hv
  have hx := B.exec
  have hb := B.bytes
  have hr := B.returns
  have hts : ∀ w ∈ kG, w.before _ s = true := fun w h => atoms_spec (ws := kT yX5_frank cX5_frank 5 (some .int)) B.pre w (List.mem_cons_of_mem _ h)
  have hown : s.vm.findClass RX5 = some m.cls := findClass_of_methodNamed B.named
  have hlocks := B.notSynchronized
  subst hsz
  have hD := hD0.self (sz := s.heap.size)
  generalize hAe : va_A (wK kO km kw kb kr kd kt cA kth kmn kpw klf kmk ksc krc kno kpp kpc kme kwe kbo kre kdr ktb) s.heap.size = A at hD ⊢
  have hA : ∀ q : Nat, s.heap.size ≤ q → A q := fun q h => by rw [← hAe]; exact Or.inr h
  have hS : va_S A s.heap s.heap [] := va_S.rf
  have hl := lv_entry ([.ref kO, .int p1, .int p2, .int p3]) (n := 5) (Nat.le_of_ble_eq_true rfl)
  rw [lg_entry_eq]
  generalize (lg_sl ([.ref kO, .int p1, .int p2, .int p3]) ++ List.replicate (5 - (lg_sl ([.ref kO, .int p1, .int p2, .int p3])).length) Slot.unset).toArray = ls at hl ⊢
  have hl : lv_has ls 5 [(0, .ref kO), (1, .int p1), (2, .int p2), (3, .int p3)] := hl
  refine lv_aload_n hx hb dX5_frank_0 rfl (lv_at hl 0 rfl) ?_
  refine lv_iconst (v := 0) hx hb dX5_frank_1 (by decide) ?_
  refine va_put (D := D) (ci := 5) (v := .int (0 : Int32)) (ty := .int) (C := RX5) (T := TX5) (N := 16) hx hb hts k_inX5 tyX5 tyX5_ok nmX5 hown hK hP hD hS 0 rfl rfl 0 (by decide) (hts _ kw_489) (fun _ h9 => h9) rfl (by decide +kernel) rfl rfl (Nat.le_of_ble_eq_true rfl) dX5_frank_2 (fun H locs hP hD hS => ?_)
  have hP : va_P D vwCl (wK kO km kw kb kr kd kt cA (0 : Int32) kmn kpw klf kmk ksc krc kno kpp kpc kme kwe kbo kre kdr ktb) H := hP
  have hD : va_D A (wK kO km kw kb kr kd kt cA (0 : Int32) kmn kpw klf kmk ksc krc kno kpp kpc kme kwe kbo kre kdr ktb) := hD
  refine lv_aload_n hx hb dX5_frank_5 rfl (lv_at hl 0 rfl) ?_
  refine va_get (D := D) (ci := 5) (v := .int kpw) (C := RX5) (T := TX5) (N := 16) hx hb hts k_inX5 hown hK hP 0 rfl rfl 8 (by decide) (hts _ kw_497) (fun _ h9 => h9) rfl dX5_frank_6 ?_
  refine lv_if_ne (tgt := 15) hx hb dX5_frank_9 (by decide) (fun c_9 => ?_) (fun c_9 => ?_)
  · refine lv_aload_n hx hb dX5_frank_15 rfl (lv_at hl 0 rfl) ?_
    refine va_get (D := D) (ci := 5) (v := .ref kb) (C := RX5) (T := TX5) (N := 16) hx hb hts k_inX5 hown hK hP 0 rfl rfl 4 (by decide) (hts _ kw_493) (fun _ h9 => h9) rfl dX5_frank_16 ?_
    refine lv_bipush (v := 13) hx hb dX5_frank_19 (by decide) ?_
    refine va_iald hx hb hK hP 3 0 rfl rfl (vp_in_nI (n := 13) (N := 193) (by decide) (by decide)) dX5_frank_21 ?_
    refine lv_if_ne (tgt := 59) hx hb dX5_frank_22 (by decide) (fun c_22 => ?_) (fun c_22 => ?_)
    · refine lv_iconst (v := 0) hx hb dX5_frank_59 (by decide) ?_
      refine lv_istore (lv' := [(4, .int (0 : Int32)), (0, .ref kO), (1, .int p1), (2, .int p2), (3, .int p3)]) hx hb dX5_frank_60 hl (by decide) rfl (fun ls hl => ?_)
      refine lv_iload hx hb dX5_frank_62 (lv_at hl 0 rfl) ?_
      refine lv_if_eq (tgt := 95) hx hb dX5_frank_64 (by decide) (fun c_64 => ?_) (fun c_64 => ?_)
      · refine lv_iconst (v := 0) hx hb dX5_frank_95 (by decide) ?_
        have hE : spX5_frank kth kpw klf kmk ksc krc kno kpp kpc kme kwe kbo kre p1 p2 p3 = ((0 : Int32), (0 : Int32), kpw, klf, ksc, krc, kno, kpp, kpc, kme, kwe, kbo, kre) := by unfold spX5_frank; rw [if_neg c_9, if_neg c_22]
        exact W.iret (v := (0 : Int32)) hx hb hr (fun t ht hW => ⟨⟨(0 : Int32), (), rfl, by rw [hE], by rw [hE, ht]; exact hP, va_K.moved hW.alike hK, by rw [hE]; exact hD⟩, hS.F ht⟩) hS.2.2 dX5_frank_96
      · exact absurd c_64 (by decide)
    · refine lv_iload_n hx hb dX5_frank_25 rfl (lv_at hl 3 rfl) ?_
      refine k_rdSi (As := [.int p3]) (rest := []) ⟨hx, hb, hml, hown, hts⟩ k_self (c_X5_isDay l p3) kv_X5_123 rfl rfl ⟨Nat.le_of_ble_eq_true rfl, Nat.le_of_ble_eq_true rfl⟩ rfl hl.1 rfl (Nat.le_of_ble_eq_true rfl) dX5_frank_26 ⟨Nat.zero_le _, Nat.zero_le _⟩ ?_
      refine lv_if_eq (tgt := 59) hx hb dX5_frank_29 (by decide) (fun c_29 => ?_) (fun c_29 => ?_)
      · refine lv_iconst (v := 0) hx hb dX5_frank_59 (by decide) ?_
        refine lv_istore (lv' := [(4, .int (0 : Int32)), (0, .ref kO), (1, .int p1), (2, .int p2), (3, .int p3)]) hx hb dX5_frank_60 hl (by decide) rfl (fun ls hl => ?_)
        refine lv_iload hx hb dX5_frank_62 (lv_at hl 0 rfl) ?_
        refine lv_if_eq (tgt := 95) hx hb dX5_frank_64 (by decide) (fun c_64 => ?_) (fun c_64 => ?_)
        · refine lv_iconst (v := 0) hx hb dX5_frank_95 (by decide) ?_
          have hE : spX5_frank kth kpw klf kmk ksc krc kno kpp kpc kme kwe kbo kre p1 p2 p3 = ((0 : Int32), (0 : Int32), kpw, klf, ksc, krc, kno, kpp, kpc, kme, kwe, kbo, kre) := by unfold spX5_frank; rw [if_neg c_9, if_pos c_22, if_pos c_29]
          exact W.iret (v := (0 : Int32)) hx hb hr (fun t ht hW => ⟨⟨(0 : Int32), (), rfl, by rw [hE], by rw [hE, ht]; exact hP, va_K.moved hW.alike hK, by rw [hE]; exact hD⟩, hS.F ht⟩) hS.2.2 dX5_frank_96
        · exact absurd c_64 (by decide)
      · refine lv_iload_n hx hb dX5_frank_32 rfl (lv_at hl 3 rfl) ?_
        refine lv_aload_n hx hb dX5_frank_33 rfl (lv_at hl 0 rfl) ?_
        refine va_get (D := D) (ci := 5) (v := .ref kb) (C := RX5) (T := TX5) (N := 16) hx hb hts k_inX5 hown hK hP 0 rfl rfl 4 (by decide) (hts _ kw_493) (fun _ h9 => h9) rfl dX5_frank_34 ?_
        refine lv_bipush (v := 14) hx hb dX5_frank_37 (by decide) ?_
        refine va_iald hx hb hK hP 3 0 rfl rfl (vp_in_nI (n := 14) (N := 193) (by decide) (by decide)) dX5_frank_39 ?_
        refine lv_icmp_gt (tgt := 59) hx hb dX5_frank_40 (by decide) (fun c_40 => ?_) (fun c_40 => ?_)
        · refine lv_iconst (v := 0) hx hb dX5_frank_59 (by decide) ?_
          refine lv_istore (lv' := [(4, .int (0 : Int32)), (0, .ref kO), (1, .int p1), (2, .int p2), (3, .int p3)]) hx hb dX5_frank_60 hl (by decide) rfl (fun ls hl => ?_)
          refine lv_iload hx hb dX5_frank_62 (lv_at hl 0 rfl) ?_
          refine lv_if_eq (tgt := 95) hx hb dX5_frank_64 (by decide) (fun c_64 => ?_) (fun c_64 => ?_)
          · refine lv_iconst (v := 0) hx hb dX5_frank_95 (by decide) ?_
            have hE : spX5_frank kth kpw klf kmk ksc krc kno kpp kpc kme kwe kbo kre p1 p2 p3 = ((0 : Int32), (0 : Int32), kpw, klf, ksc, krc, kno, kpp, kpc, kme, kwe, kbo, kre) := by unfold spX5_frank; rw [if_neg c_9, if_pos c_22, if_neg c_29, if_pos c_40]
            exact W.iret (v := (0 : Int32)) hx hb hr (fun t ht hW => ⟨⟨(0 : Int32), (), rfl, by rw [hE], by rw [hE, ht]; exact hP, va_K.moved hW.alike hK, by rw [hE]; exact hD⟩, hS.F ht⟩) hS.2.2 dX5_frank_96
          · exact absurd c_64 (by decide)
        · refine lv_iload_n hx hb dX5_frank_43 rfl (lv_at hl 1 rfl) ?_
          refine lv_i2l (v := (Int32.toInt64 p1)) hx hb dX5_frank_44 rfl ?_
          refine lv_lconst (v := 0) hx hb dX5_frank_45 (by decide) ?_
          refine lv_ldc2 (v := 15) hx hb hown (hts _ kw_597) dX5_frank_46 ?_
          refine k_rdSi (As := [.long (Int32.toInt64 p1), .long (0 : Int64), .long (15 : Int64)]) (rest := []) ⟨hx, hb, hml, hown, hts⟩ k_self (c_X5_in l (Int32.toInt64 p1) (0 : Int64) (15 : Int64)) kv_X5_52 rfl rfl ⟨Nat.le_of_ble_eq_true rfl, Nat.le_of_ble_eq_true rfl⟩ rfl hl.1 rfl (Nat.le_of_ble_eq_true rfl) dX5_frank_49 ⟨Nat.zero_le _, Nat.zero_le _⟩ ?_
          refine lv_if_eq (tgt := 59) hx hb dX5_frank_52 (by decide) (fun c_52 => ?_) (fun c_52 => ?_)
          · refine lv_iconst (v := 0) hx hb dX5_frank_59 (by decide) ?_
            refine lv_istore (lv' := [(4, .int (0 : Int32)), (0, .ref kO), (1, .int p1), (2, .int p2), (3, .int p3)]) hx hb dX5_frank_60 hl (by decide) rfl (fun ls hl => ?_)
            refine lv_iload hx hb dX5_frank_62 (lv_at hl 0 rfl) ?_
            refine lv_if_eq (tgt := 95) hx hb dX5_frank_64 (by decide) (fun c_64 => ?_) (fun c_64 => ?_)
            · refine lv_iconst (v := 0) hx hb dX5_frank_95 (by decide) ?_
              have hE : spX5_frank kth kpw klf kmk ksc krc kno kpp kpc kme kwe kbo kre p1 p2 p3 = ((0 : Int32), (0 : Int32), kpw, klf, ksc, krc, kno, kpp, kpc, kme, kwe, kbo, kre) := by unfold spX5_frank; rw [if_neg c_9, if_pos c_22, if_neg c_29, if_neg c_40, if_pos c_52]
              exact W.iret (v := (0 : Int32)) hx hb hr (fun t ht hW => ⟨⟨(0 : Int32), (), rfl, by rw [hE], by rw [hE, ht]; exact hP, va_K.moved hW.alike hK, by rw [hE]; exact hD⟩, hS.F ht⟩) hS.2.2 dX5_frank_96
            · exact absurd c_64 (by decide)
          · refine lv_iconst (v := 1) hx hb dX5_frank_55 (by decide) ?_
            refine lv_goto (tgt := 60) hx hb dX5_frank_56 (by decide) ?_
            refine lv_istore (lv' := [(4, .int (1 : Int32)), (0, .ref kO), (1, .int p1), (2, .int p2), (3, .int p3)]) hx hb dX5_frank_60 hl (by decide) rfl (fun ls hl => ?_)
            refine lv_iload hx hb dX5_frank_62 (lv_at hl 0 rfl) ?_
            refine lv_if_eq (tgt := 95) hx hb dX5_frank_64 (by decide) (fun c_64 => ?_) (fun c_64 => ?_)
            · exact absurd c_64 (by decide)
            · refine lv_iload_n hx hb dX5_frank_67 rfl (lv_at hl 3 rfl) ?_
              refine k_rdSi (As := [.int p2]) (rest := []) ⟨hx, hb, hml, hown, hts⟩ k_self (c_X5_isMoney l p2) kv_X5_128 rfl rfl ⟨Nat.le_of_ble_eq_true rfl, Nat.le_of_ble_eq_true rfl⟩ rfl hl.1 rfl (Nat.le_of_ble_eq_true rfl) dX5_frank_68 ⟨Nat.zero_le _, Nat.zero_le _⟩ ?_
              refine lv_if_eq (tgt := 95) hx hb dX5_frank_71 (by decide) (fun c_71 => ?_) (fun c_71 => ?_)
              · refine lv_iconst (v := 0) hx hb dX5_frank_95 (by decide) ?_
                have hE : spX5_frank kth kpw klf kmk ksc krc kno kpp kpc kme kwe kbo kre p1 p2 p3 = ((0 : Int32), (0 : Int32), kpw, klf, ksc, krc, kno, kpp, kpc, kme, kwe, kbo, kre) := by unfold spX5_frank; rw [if_neg c_9, if_pos c_22, if_neg c_29, if_neg c_40, if_neg c_52, if_pos c_71]
                exact W.iret (v := (0 : Int32)) hx hb hr (fun t ht hW => ⟨⟨(0 : Int32), (), rfl, by rw [hE], by rw [hE, ht]; exact hP, va_K.moved hW.alike hK, by rw [hE]; exact hD⟩, hS.F ht⟩) hS.2.2 dX5_frank_96
              · refine lv_iload_n hx hb dX5_frank_74 rfl (lv_at hl 3 rfl) ?_
                refine lv_i2l (v := (Int32.toInt64 p2)) hx hb dX5_frank_75 rfl ?_
                refine lv_aload_n hx hb dX5_frank_76 rfl (lv_at hl 1 rfl) ?_
                refine lv_iconst (v := 4) hx hb dX5_frank_77 (by decide) ?_
                refine k_rdVl (As := [.int (4 : Int32)]) (rest := [.long (Int32.toInt64 p2)]) (ci := 5) (q0 := 0) ⟨hx, hb, hml, hown, hts⟩ k_self (c_X5_sum l D kO km kw kb kr kd kt cA (0 : Int32) kmn kpw klf kmk ksc krc kno kpp kpc kme kwe kbo kre kdr ktb (4 : Int32) ⟨4, rfl, by decide⟩) kv_X5_91 (hP.sub [0, 1, 2, 3, 4, 5, 6] rfl) (hK.sub [0] rfl) rfl rfl rfl rfl ⟨Nat.le_of_ble_eq_true rfl, Nat.le_of_ble_eq_true rfl⟩ rfl hl.1 rfl (Nat.le_of_ble_eq_true rfl) dX5_frank_78 ⟨Nat.zero_le _, Nat.zero_le _⟩ ?_
                refine W.lcmp hx hb dX5_frank_81 ?_
                refine lv_if_gt (tgt := 95) hx hb dX5_frank_82 (by decide) (fun c_82 => ?_) (fun c_82 => ?_)
                · refine lv_iconst (v := 0) hx hb dX5_frank_95 (by decide) ?_
                  have hE : spX5_frank kth kpw klf kmk ksc krc kno kpp kpc kme kwe kbo kre p1 p2 p3 = ((0 : Int32), (0 : Int32), kpw, klf, ksc, krc, kno, kpp, kpc, kme, kwe, kbo, kre) := by unfold spX5_frank; rw [if_neg c_9, if_pos c_22, if_neg c_29, if_neg c_40, if_neg c_52, if_neg c_71, if_pos c_82]
                  exact W.iret (v := (0 : Int32)) hx hb hr (fun t ht hW => ⟨⟨(0 : Int32), (), rfl, by rw [hE], by rw [hE, ht]; exact hP, va_K.moved hW.alike hK, by rw [hE]; exact hD⟩, hS.F ht⟩) hS.2.2 dX5_frank_96
                · refine lv_aload_n hx hb dX5_frank_85 rfl (lv_at hl 1 rfl) ?_
                  refine va_get (D := D) (ci := 5) (v := .ref kb) (C := RX5) (T := TX5) (N := 16) hx hb hts k_inX5 hown hK hP 0 rfl rfl 4 (by decide) (hts _ kw_493) (fun _ h9 => h9) rfl dX5_frank_86 ?_
                  refine lv_bipush (v := 16) hx hb dX5_frank_89 (by decide) ?_
                  refine va_iald hx hb hK hP 3 0 rfl rfl (vp_in_nI (n := 16) (N := 193) (by decide) (by decide)) dX5_frank_91 ?_
                  refine lv_if_eq (tgt := 97) hx hb dX5_frank_92 (by decide) (fun c_92 => ?_) (fun c_92 => ?_)
                  · refine lv_aload_n hx hb dX5_frank_97 rfl (lv_at hl 1 rfl) ?_
                    refine lv_iconst (v := 1) hx hb dX5_frank_98 (by decide) ?_
                    refine lv_iload_n hx hb dX5_frank_99 rfl (lv_at hl 3 rfl) ?_
                    refine lv_iload_n hx hb dX5_frank_100 rfl (lv_at hl 2 rfl) ?_
                    refine lv_bipush (v := 16) hx hb dX5_frank_101 (by decide) ?_
                    refine lv_iload_n hx hb dX5_frank_103 rfl (lv_at hl 4 rfl) ?_
                    refine lv_imul hx hb dX5_frank_104 ?_
                    refine lv_iadd hx hb dX5_frank_105 ?_
                    rcases hq_106 : spX5_put kpw klf kmk ksc krc kno kme kwe kbo kre (1 : Int32) p2 (p1 + ((16 : Int32) * p3)) with ⟨r_106, kpw_106, klf_106, ksc_106, krc_106, kno_106, kme_106, kwe_106, kbo_106, kre_106⟩
                    have hM_106 : kWi l yX5_put cX5_put 7 (some .boolean) { frames := 4, cells := 0, slots := 0, locals := 94 } D [(cA, .int)] [.ref kO, .int (1 : Int32), .int p2, .int (p1 + ((16 : Int32) * p3))] (wK kO km kw kb kr kd kt cA (0 : Int32) kmn kpw klf kmk ksc krc kno kpp kpc kme kwe kbo kre kdr ktb) r_106 (wK kO km kw kb kr kd kt cA (0 : Int32) kmn kpw_106 klf_106 kmk ksc_106 krc_106 kno_106 kpp kpc kme_106 kwe_106 kbo_106 kre_106 kdr ktb) := by
                      have h := c_X5_put l D kO km kw kb kr kd kt cA (0 : Int32) kmn kpw klf kmk ksc krc kno kpp kpc kme kwe kbo kre kdr ktb (1 : Int32) p2 (p1 + ((16 : Int32) * p3)) hs hrr hp (fun _ => k_bnn c_52 c_29)
                      rw [hq_106] at h
                      exact h
                    refine k_wrVi (As := [.int (1 : Int32), .int p2, .int (p1 + ((16 : Int32) * p3))]) (rest := []) (ci := 5) (q0 := 0) (ws' := (wK kO km kw kb kr kd kt cA (0 : Int32) kmn kpw_106 klf_106 kmk ksc_106 krc_106 kno_106 kpp kpc kme_106 kwe_106 kbo_106 kre_106 kdr ktb)) (wr := []) ⟨hx, hb, hml, hown, hts⟩ k_self hM_106 kv_X5_116 hP hD hS hA hK rfl rfl [0, 1, 2, 3, 4, 5, 6] [] [0, 1, 2, 3, 4, 5, 6] rfl (by decide) rfl (by decide) (by decide) rfl (by decide) rfl rfl ⟨Nat.le_of_ble_eq_true rfl, Nat.le_of_ble_eq_true rfl⟩ rfl hl.1 rfl (Nat.le_of_ble_eq_true rfl) dX5_frank_106 ⟨Nat.zero_le _, Nat.zero_le _⟩ (fun H locs hP hD hS => ?_)
                    refine lv_if_ne (tgt := 115) hx hb dX5_frank_109 (by decide) (fun c_109 => ?_) (fun c_109 => ?_)
                    · refine lv_aload_n hx hb dX5_frank_115 rfl (lv_at hl 1 rfl) ?_
                      refine lv_dup hx hb dX5_frank_116 rfl ?_
                      refine va_get (D := D) (ci := 5) (v := .int kpp) (C := RX5) (T := TX5) (N := 16) hx hb hts k_inX5 hown hK hP 0 rfl rfl 14 (by decide) (hts _ kw_503) (fun _ h9 => h9) rfl dX5_frank_117 ?_
                      refine lv_iconst (v := 1) hx hb dX5_frank_120 (by decide) ?_
                      refine lv_iadd hx hb dX5_frank_121 ?_
                      refine va_put (D := D) (ci := 5) (v := .int (kpp + (1 : Int32))) (ty := .int) (C := RX5) (T := TX5) (N := 16) hx hb hts k_inX5 tyX5 tyX5_ok nmX5 hown hK hP hD hS 0 rfl rfl 14 (by decide) (hts _ kw_503) (fun _ h9 => h9) rfl (by decide +kernel) rfl rfl (Nat.le_of_ble_eq_true rfl) dX5_frank_122 (fun H locs hP hD hS => ?_)
                      have hP : va_P D vwCl (wK kO km kw kb kr kd kt cA (0 : Int32) kmn kpw_106 klf_106 kmk ksc_106 krc_106 kno_106 (kpp + (1 : Int32)) kpc kme_106 kwe_106 kbo_106 kre_106 kdr ktb) H := hP
                      have hD : va_D A (wK kO km kw kb kr kd kt cA (0 : Int32) kmn kpw_106 klf_106 kmk ksc_106 krc_106 kno_106 (kpp + (1 : Int32)) kpc kme_106 kwe_106 kbo_106 kre_106 kdr ktb) := hD
                      refine lv_aload_n hx hb dX5_frank_125 rfl (lv_at hl 1 rfl) ?_
                      refine lv_aload_n hx hb dX5_frank_126 rfl (lv_at hl 1 rfl) ?_
                      refine va_get (D := D) (ci := 5) (v := .long kpc) (C := RX5) (T := TX5) (N := 16) hx hb hts k_inX5 hown hK hP 0 rfl rfl 15 (by decide) (hts _ kw_504) (fun _ h9 => h9) rfl dX5_frank_127 ?_
                      refine lv_iload_n hx hb dX5_frank_130 rfl (lv_at hl 3 rfl) ?_
                      refine lv_i2l (v := (Int32.toInt64 p2)) hx hb dX5_frank_131 rfl ?_
                      refine lv_ladd hx hb dX5_frank_132 ?_
                      refine va_put (D := D) (ci := 5) (v := .long (kpc + (Int32.toInt64 p2))) (ty := .long) (C := RX5) (T := TX5) (N := 16) hx hb hts k_inX5 tyX5 tyX5_ok nmX5 hown hK hP hD hS 0 rfl rfl 15 (by decide) (hts _ kw_504) (fun _ h9 => h9) rfl (by decide +kernel) rfl rfl (Nat.le_of_ble_eq_true rfl) dX5_frank_133 (fun H locs hP hD hS => ?_)
                      have hP : va_P D vwCl (wK kO km kw kb kr kd kt cA (0 : Int32) kmn kpw_106 klf_106 kmk ksc_106 krc_106 kno_106 (kpp + (1 : Int32)) (kpc + (Int32.toInt64 p2)) kme_106 kwe_106 kbo_106 kre_106 kdr ktb) H := hP
                      have hD : va_D A (wK kO km kw kb kr kd kt cA (0 : Int32) kmn kpw_106 klf_106 kmk ksc_106 krc_106 kno_106 (kpp + (1 : Int32)) (kpc + (Int32.toInt64 p2)) kme_106 kwe_106 kbo_106 kre_106 kdr ktb) := hD
                      refine lv_aload_n hx hb dX5_frank_136 rfl (lv_at hl 1 rfl) ?_
                      refine lv_iconst (v := 2) hx hb dX5_frank_137 (by decide) ?_
                      refine lv_iconst (v := 0) hx hb dX5_frank_138 (by decide) ?_
                      refine lv_iconst (v := 0) hx hb dX5_frank_139 (by decide) ?_
                      rcases hq_140 : spX5_put kpw_106 klf_106 kmk ksc_106 krc_106 kno_106 kme_106 kwe_106 kbo_106 kre_106 (2 : Int32) (0 : Int32) (0 : Int32) with ⟨r_140, kpw_140, klf_140, ksc_140, krc_140, kno_140, kme_140, kwe_140, kbo_140, kre_140⟩
                      have hM_140 : kWi l yX5_put cX5_put 7 (some .boolean) { frames := 4, cells := 0, slots := 0, locals := 94 } D [(cA, .int)] [.ref kO, .int (2 : Int32), .int (0 : Int32), .int (0 : Int32)] (wK kO km kw kb kr kd kt cA (0 : Int32) kmn kpw_106 klf_106 kmk ksc_106 krc_106 kno_106 (kpp + (1 : Int32)) (kpc + (Int32.toInt64 p2)) kme_106 kwe_106 kbo_106 kre_106 kdr ktb) r_140 (wK kO km kw kb kr kd kt cA (0 : Int32) kmn kpw_140 klf_140 kmk ksc_140 krc_140 kno_140 (kpp + (1 : Int32)) (kpc + (Int32.toInt64 p2)) kme_140 kwe_140 kbo_140 kre_140 kdr ktb) := by
                        have h := c_X5_put l D kO km kw kb kr kd kt cA (0 : Int32) kmn kpw_106 klf_106 kmk ksc_106 krc_106 kno_106 (kpp + (1 : Int32)) (kpc + (Int32.toInt64 p2)) kme_106 kwe_106 kbo_106 kre_106 kdr ktb (2 : Int32) (0 : Int32) (0 : Int32) (k_putp hq_106 hs hrr hp).1 (k_putp hq_106 hs hrr hp).2.1 (k_putp hq_106 hs hrr hp).2.2 (fun h => absurd h (by decide))
                        rw [hq_140] at h
                        exact h
                      refine k_wrVi (As := [.int (2 : Int32), .int (0 : Int32), .int (0 : Int32)]) (rest := []) (ci := 5) (q0 := 0) (ws' := (wK kO km kw kb kr kd kt cA (0 : Int32) kmn kpw_140 klf_140 kmk ksc_140 krc_140 kno_140 (kpp + (1 : Int32)) (kpc + (Int32.toInt64 p2)) kme_140 kwe_140 kbo_140 kre_140 kdr ktb)) (wr := []) ⟨hx, hb, hml, hown, hts⟩ k_self hM_140 kv_X5_116 hP hD hS hA hK rfl rfl [0, 1, 2, 3, 4, 5, 6] [] [0, 1, 2, 3, 4, 5, 6] rfl (by decide) rfl (by decide) (by decide) rfl (by decide) rfl rfl ⟨Nat.le_of_ble_eq_true rfl, Nat.le_of_ble_eq_true rfl⟩ rfl hl.1 rfl (Nat.le_of_ble_eq_true rfl) dX5_frank_140 ⟨Nat.zero_le _, Nat.zero_le _⟩ (fun H locs hP hD hS => ?_)
                      refine lv_if_eq (tgt := 150) hx hb dX5_frank_143 (by decide) (fun c_143 => ?_) (fun c_143 => ?_)
                      · refine lv_bipush (v := -7) hx hb dX5_frank_150 (by decide) ?_
                        have hE : spX5_frank kth kpw klf kmk ksc krc kno kpp kpc kme kwe kbo kre p1 p2 p3 = ((-7 : Int32), (0 : Int32), kpw_140, klf_140, ksc_140, krc_140, kno_140, (kpp + (1 : Int32)), (kpc + (Int32.toInt64 p2)), kme_140, kwe_140, kbo_140, kre_140) := by unfold spX5_frank; rw [if_neg c_9, if_pos c_22, if_neg c_29, if_neg c_40, if_neg c_52, if_neg c_71, if_neg c_82, if_pos c_92]; rw [hq_106]; dsimp only; rw [if_neg c_109]; rw [hq_140]; dsimp only; rw [if_pos c_143]
                        exact W.iret (v := (-7 : Int32)) hx hb hr (fun t ht hW => ⟨⟨(-7 : Int32), (), rfl, by rw [hE], by rw [hE, ht]; exact hP, va_K.moved hW.alike hK, by rw [hE]; exact hD⟩, hS.F ht⟩) hS.2.2 dX5_frank_152
                      · refine lv_iconst (v := 1) hx hb dX5_frank_146 (by decide) ?_
                        refine lv_goto (tgt := 152) hx hb dX5_frank_147 (by decide) ?_
                        have hE : spX5_frank kth kpw klf kmk ksc krc kno kpp kpc kme kwe kbo kre p1 p2 p3 = ((1 : Int32), (0 : Int32), kpw_140, klf_140, ksc_140, krc_140, kno_140, (kpp + (1 : Int32)), (kpc + (Int32.toInt64 p2)), kme_140, kwe_140, kbo_140, kre_140) := by unfold spX5_frank; rw [if_neg c_9, if_pos c_22, if_neg c_29, if_neg c_40, if_neg c_52, if_neg c_71, if_neg c_82, if_pos c_92]; rw [hq_106]; dsimp only; rw [if_neg c_109]; rw [hq_140]; dsimp only; rw [if_neg c_143]
                        exact W.iret (v := (1 : Int32)) hx hb hr (fun t ht hW => ⟨⟨(1 : Int32), (), rfl, by rw [hE], by rw [hE, ht]; exact hP, va_K.moved hW.alike hK, by rw [hE]; exact hD⟩, hS.F ht⟩) hS.2.2 dX5_frank_152
                    · refine lv_bipush (v := -7) hx hb dX5_frank_112 (by decide) ?_
                      have hE : spX5_frank kth kpw klf kmk ksc krc kno kpp kpc kme kwe kbo kre p1 p2 p3 = ((-7 : Int32), (0 : Int32), kpw_106, klf_106, ksc_106, krc_106, kno_106, kpp, kpc, kme_106, kwe_106, kbo_106, kre_106) := by unfold spX5_frank; rw [if_neg c_9, if_pos c_22, if_neg c_29, if_neg c_40, if_neg c_52, if_neg c_71, if_neg c_82, if_pos c_92]; rw [hq_106]; dsimp only; rw [if_pos c_109]
                      exact W.iret (v := (-7 : Int32)) hx hb hr (fun t ht hW => ⟨⟨(-7 : Int32), (), rfl, by rw [hE], by rw [hE, ht]; exact hP, va_K.moved hW.alike hK, by rw [hE]; exact hD⟩, hS.F ht⟩) hS.2.2 dX5_frank_114
                  · refine lv_iconst (v := 0) hx hb dX5_frank_95 (by decide) ?_
                    have hE : spX5_frank kth kpw klf kmk ksc krc kno kpp kpc kme kwe kbo kre p1 p2 p3 = ((0 : Int32), (0 : Int32), kpw, klf, ksc, krc, kno, kpp, kpc, kme, kwe, kbo, kre) := by unfold spX5_frank; rw [if_neg c_9, if_pos c_22, if_neg c_29, if_neg c_40, if_neg c_52, if_neg c_71, if_neg c_82, if_neg c_92]
                    exact W.iret (v := (0 : Int32)) hx hb hr (fun t ht hW => ⟨⟨(0 : Int32), (), rfl, by rw [hE], by rw [hE, ht]; exact hP, va_K.moved hW.alike hK, by rw [hE]; exact hD⟩, hS.F ht⟩) hS.2.2 dX5_frank_96
  · refine lv_bipush (v := -7) hx hb dX5_frank_12 (by decide) ?_
    have hE : spX5_frank kth kpw klf kmk ksc krc kno kpp kpc kme kwe kbo kre p1 p2 p3 = ((-7 : Int32), (0 : Int32), kpw, klf, ksc, krc, kno, kpp, kpc, kme, kwe, kbo, kre) := by unfold spX5_frank; rw [if_pos c_9]
    exact W.iret (v := (-7 : Int32)) hx hb hr (fun t ht hW => ⟨⟨(-7 : Int32), (), rfl, by rw [hE], by rw [hE, ht]; exact hP, va_K.moved hW.alike hK, by rw [hE]; exact hD⟩, hS.F ht⟩) hS.2.2 dX5_frank_14
def spX5_refill (kth : Int32) (kmn : Int32) (kpw : Int32) (klf : Int32) (kmk : Int32) (ksc : Int32) (krc : Int32) (kno : Int32) (kme : Nat → Int32) (kwe : Nat → Int32) (kbo : Nat → Int32) (kre : Nat → Int32) (p1 : Int32) (p2 : Int32) : Int32 × Int32 × Int32 × Int32 × Int32 × Int32 × Int32 × (Nat → Int32) × (Nat → Int32) × (Nat → Int32) × (Nat → Int32) := (if kpw = 0 then ((-7 : Int32), (0 : Int32), kpw, klf, ksc, krc, kno, kme, kwe, kbo, kre) else (if (spX5_isMoney p1) = 0 then ((0 : Int32), (0 : Int32), kpw, klf, ksc, krc, kno, kme, kwe, kbo, kre) else (if p2 = (spX5_code kmn (kbo (Int32.toNatClampNeg (12 : Int32))) p1) then (if (lg_cmp ((spX5_sum kbo (6 : Int32)) + (Int32.toInt64 p1)) (1099511627776 : Int64)) < 0 then (match spX5_put kpw klf kmk ksc krc kno kme kwe kbo kre (4 : Int32) p1 (0 : Int32) with | (r_60, kpw_60, klf_60, ksc_60, krc_60, kno_60, kme_60, kwe_60, kbo_60, kre_60) => (if r_60 = 0 then ((-7 : Int32), (0 : Int32), kpw_60, klf_60, ksc_60, krc_60, kno_60, kme_60, kwe_60, kbo_60, kre_60) else ((1 : Int32), (0 : Int32), kpw_60, klf_60, ksc_60, krc_60, kno_60, kme_60, kwe_60, kbo_60, kre_60))) else ((0 : Int32), (0 : Int32), kpw, klf, ksc, krc, kno, kme, kwe, kbo, kre)) else ((0 : Int32), (0 : Int32), kpw, klf, ksc, krc, kno, kme, kwe, kbo, kre))))
set_option maxHeartbeats 4000000 in
set_option maxRecDepth 100000 in
theorem c_X5_refill (l : Launch) (D : va_G) (kO km kw kb kr kd kt : Nat) (cA : ClassId) (kth : Int32) (kmn : Int32) (kpw : Int32) (klf : Int32) (kmk : Int32) (ksc : Int32) (krc : Int32) (kno : Int32) (kpp : Int32) (kpc : Int64) (kme : Nat → Int32) (kwe : Nat → Int32) (kbo : Nat → Int32) (kre : Nat → Int32) (kdr : Nat → Int32) (ktb : Nat → Int32) (p1 : Int32) (p2 : Int32) (hs : ∃ k : Nat, ksc = nI k ∧ k < 16) (hrr : ∃ r : Nat, krc = nI r ∧ r ≤ 12) (hp : kpw = 0 ∨ kpw = 1) : kWi l yX5_refill cX5_refill 3 (some .int) { frames := 5, cells := 0, slots := 0, locals := 120 } D [(cA, .int)] [.ref kO, .int p1, .int p2] (wK kO km kw kb kr kd kt cA kth kmn kpw klf kmk ksc krc kno kpp kpc kme kwe kbo kre kdr ktb) (spX5_refill kth kmn kpw klf kmk ksc krc kno kme kwe kbo kre p1 p2).1 (wK kO km kw kb kr kd kt cA (spX5_refill kth kmn kpw klf kmk ksc krc kno kme kwe kbo kre p1 p2).2.1 kmn (spX5_refill kth kmn kpw klf kmk ksc krc kno kme kwe kbo kre p1 p2).2.2.1 (spX5_refill kth kmn kpw klf kmk ksc krc kno kme kwe kbo kre p1 p2).2.2.2.1 kmk (spX5_refill kth kmn kpw klf kmk ksc krc kno kme kwe kbo kre p1 p2).2.2.2.2.1 (spX5_refill kth kmn kpw klf kmk ksc krc kno kme kwe kbo kre p1 p2).2.2.2.2.2.1 (spX5_refill kth kmn kpw klf kmk ksc krc kno kme kwe kbo kre p1 p2).2.2.2.2.2.2.1 kpp kpc (spX5_refill kth kmn kpw klf kmk ksc krc kno kme kwe kbo kre p1 p2).2.2.2.2.2.2.2.1 (spX5_refill kth kmn kpw klf kmk ksc krc kno kme kwe kbo kre p1 p2).2.2.2.2.2.2.2.2.1 (spX5_refill kth kmn kpw klf kmk ksc krc kno kme kwe kbo kre p1 p2).2.2.2.2.2.2.2.2.2.1 (spX5_refill kth kmn kpw klf kmk ksc krc kno kme kwe kbo kre p1 p2).2.2.2.2.2.2.2.2.2.2 kdr ktb) := by
  intro sz
  refine Met.ofW (cc := cX5_refill) (maxL := 3) (ret := (some .int)) (by decide) rfl ?_
  intro p e s m args below meth c s₁ B hml hv
  obtain ⟨rfl, hsz, hP, hK, hD0⟩ := hv
  have hx := B.exec
  have hb := B.bytes
  have hr := B.returns
  have hts : ∀ w ∈ kG, w.before _ s = true := fun w h => atoms_spec (ws := kT yX5_refill cX5_refill 3 (some .int)) B.pre w (List.mem_cons_of_mem _ h)
  have hown : s.vm.findClass RX5 = some m.cls := findClass_of_methodNamed B.named
  have hlocks := B.notSynchronized
  subst hsz
  have hD := hD0.self (sz := s.heap.size)
  generalize hAe : va_A (wK kO km kw kb kr kd kt cA kth kmn kpw klf kmk ksc krc kno kpp kpc kme kwe kbo kre kdr ktb) s.heap.size = A at hD ⊢
  have hA : ∀ q : Nat, s.heap.size ≤ q → A q := fun q h => by rw [← hAe]; exact Or.inr h
  have hS : va_S A s.heap s.heap [] := va_S.rf
  have hl := lv_entry ([.ref kO, .int p1, .int p2]) (n := 3) (Nat.le_of_ble_eq_true rfl)
  rw [lg_entry_eq]
  generalize (lg_sl ([.ref kO, .int p1, .int p2]) ++ List.replicate (3 - (lg_sl ([.ref kO, .int p1, .int p2])).length) Slot.unset).toArray = ls at hl ⊢
  have hl : lv_has ls 3 [(0, .ref kO), (1, .int p1), (2, .int p2)] := hl
  refine lv_aload_n hx hb dX5_refill_0 rfl (lv_at hl 0 rfl) ?_
  refine lv_iconst (v := 0) hx hb dX5_refill_1 (by decide) ?_
  refine va_put (D := D) (ci := 5) (v := .int (0 : Int32)) (ty := .int) (C := RX5) (T := TX5) (N := 16) hx hb hts k_inX5 tyX5 tyX5_ok nmX5 hown hK hP hD hS 0 rfl rfl 0 (by decide) (hts _ kw_489) (fun _ h9 => h9) rfl (by decide +kernel) rfl rfl (Nat.le_of_ble_eq_true rfl) dX5_refill_2 (fun H locs hP hD hS => ?_)
  have hP : va_P D vwCl (wK kO km kw kb kr kd kt cA (0 : Int32) kmn kpw klf kmk ksc krc kno kpp kpc kme kwe kbo kre kdr ktb) H := hP
  have hD : va_D A (wK kO km kw kb kr kd kt cA (0 : Int32) kmn kpw klf kmk ksc krc kno kpp kpc kme kwe kbo kre kdr ktb) := hD
  refine lv_aload_n hx hb dX5_refill_5 rfl (lv_at hl 0 rfl) ?_
  refine va_get (D := D) (ci := 5) (v := .int kpw) (C := RX5) (T := TX5) (N := 16) hx hb hts k_inX5 hown hK hP 0 rfl rfl 8 (by decide) (hts _ kw_497) (fun _ h9 => h9) rfl dX5_refill_6 ?_
  refine lv_if_ne (tgt := 15) hx hb dX5_refill_9 (by decide) (fun c_9 => ?_) (fun c_9 => ?_)
  · refine lv_iload_n hx hb dX5_refill_15 rfl (lv_at hl 1 rfl) ?_
    refine k_rdSi (As := [.int p1]) (rest := []) ⟨hx, hb, hml, hown, hts⟩ k_self (c_X5_isMoney l p1) kv_X5_128 rfl rfl ⟨Nat.le_of_ble_eq_true rfl, Nat.le_of_ble_eq_true rfl⟩ rfl hl.1 rfl (Nat.le_of_ble_eq_true rfl) dX5_refill_16 ⟨Nat.zero_le _, Nat.zero_le _⟩ ?_
    refine lv_if_eq (tgt := 54) hx hb dX5_refill_19 (by decide) (fun c_19 => ?_) (fun c_19 => ?_)
    · refine lv_iconst (v := 0) hx hb dX5_refill_54 (by decide) ?_
      have hE : spX5_refill kth kmn kpw klf kmk ksc krc kno kme kwe kbo kre p1 p2 = ((0 : Int32), (0 : Int32), kpw, klf, ksc, krc, kno, kme, kwe, kbo, kre) := by unfold spX5_refill; rw [if_neg c_9, if_pos c_19]
      exact W.iret (v := (0 : Int32)) hx hb hr (fun t ht hW => ⟨⟨(0 : Int32), (), rfl, by rw [hE], by rw [hE, ht]; exact hP, va_K.moved hW.alike hK, by rw [hE]; exact hD⟩, hS.F ht⟩) hS.2.2 dX5_refill_55
    · refine lv_iload_n hx hb dX5_refill_22 rfl (lv_at hl 2 rfl) ?_
      refine lv_aload_n hx hb dX5_refill_23 rfl (lv_at hl 0 rfl) ?_
      refine lv_aload_n hx hb dX5_refill_24 rfl (lv_at hl 0 rfl) ?_
      refine va_get (D := D) (ci := 5) (v := .ref kb) (C := RX5) (T := TX5) (N := 16) hx hb hts k_inX5 hown hK hP 0 rfl rfl 4 (by decide) (hts _ kw_493) (fun _ h9 => h9) rfl dX5_refill_25 ?_
      refine lv_bipush (v := 12) hx hb dX5_refill_28 (by decide) ?_
      refine va_iald hx hb hK hP 3 0 rfl rfl (vp_in_nI (n := 12) (N := 193) (by decide) (by decide)) dX5_refill_30 ?_
      refine lv_iload_n hx hb dX5_refill_31 rfl (lv_at hl 1 rfl) ?_
      refine k_rdVi (As := [.int (kbo (Int32.toNatClampNeg (12 : Int32))), .int p1]) (rest := [.int p2]) (ci := 5) (q0 := 0) ⟨hx, hb, hml, hown, hts⟩ k_self (c_X5_code l D kO km kw kb kr kd kt cA (0 : Int32) kmn kpw klf kmk ksc krc kno kpp kpc kme kwe kbo kre kdr ktb (kbo (Int32.toNatClampNeg (12 : Int32))) p1) kv_X5_148 (hP.sub [0, 1, 2, 3, 4, 5, 6] rfl) (hK.sub [0] rfl) rfl rfl rfl rfl ⟨Nat.le_of_ble_eq_true rfl, Nat.le_of_ble_eq_true rfl⟩ rfl hl.1 rfl (Nat.le_of_ble_eq_true rfl) dX5_refill_32 ⟨Nat.zero_le _, Nat.zero_le _⟩ ?_
      refine lv_icmp_ne (tgt := 54) hx hb dX5_refill_35 (by decide) (fun c_35 => ?_) (fun c_35 => ?_)
      · refine lv_iconst (v := 0) hx hb dX5_refill_54 (by decide) ?_
        have hE : spX5_refill kth kmn kpw klf kmk ksc krc kno kme kwe kbo kre p1 p2 = ((0 : Int32), (0 : Int32), kpw, klf, ksc, krc, kno, kme, kwe, kbo, kre) := by unfold spX5_refill; rw [if_neg c_9, if_neg c_19, if_neg c_35]
        exact W.iret (v := (0 : Int32)) hx hb hr (fun t ht hW => ⟨⟨(0 : Int32), (), rfl, by rw [hE], by rw [hE, ht]; exact hP, va_K.moved hW.alike hK, by rw [hE]; exact hD⟩, hS.F ht⟩) hS.2.2 dX5_refill_55
      · refine lv_aload_n hx hb dX5_refill_38 rfl (lv_at hl 0 rfl) ?_
        refine lv_bipush (v := 6) hx hb dX5_refill_39 (by decide) ?_
        refine k_rdVl (As := [.int (6 : Int32)]) (rest := []) (ci := 5) (q0 := 0) ⟨hx, hb, hml, hown, hts⟩ k_self (c_X5_sum l D kO km kw kb kr kd kt cA (0 : Int32) kmn kpw klf kmk ksc krc kno kpp kpc kme kwe kbo kre kdr ktb (6 : Int32) ⟨6, rfl, by decide⟩) kv_X5_91 (hP.sub [0, 1, 2, 3, 4, 5, 6] rfl) (hK.sub [0] rfl) rfl rfl rfl rfl ⟨Nat.le_of_ble_eq_true rfl, Nat.le_of_ble_eq_true rfl⟩ rfl hl.1 rfl (Nat.le_of_ble_eq_true rfl) dX5_refill_41 ⟨Nat.zero_le _, Nat.zero_le _⟩ ?_
        refine lv_iload_n hx hb dX5_refill_44 rfl (lv_at hl 1 rfl) ?_
        refine lv_i2l (v := (Int32.toInt64 p1)) hx hb dX5_refill_45 rfl ?_
        refine lv_ladd hx hb dX5_refill_46 ?_
        refine lv_ldc2 (v := 1099511627776) hx hb hown (hts _ kw_618) dX5_refill_47 ?_
        refine W.lcmp hx hb dX5_refill_50 ?_
        refine lv_if_lt (tgt := 56) hx hb dX5_refill_51 (by decide) (fun c_51 => ?_) (fun c_51 => ?_)
        · refine lv_aload_n hx hb dX5_refill_56 rfl (lv_at hl 0 rfl) ?_
          refine lv_iconst (v := 4) hx hb dX5_refill_57 (by decide) ?_
          refine lv_iload_n hx hb dX5_refill_58 rfl (lv_at hl 1 rfl) ?_
          refine lv_iconst (v := 0) hx hb dX5_refill_59 (by decide) ?_
          rcases hq_60 : spX5_put kpw klf kmk ksc krc kno kme kwe kbo kre (4 : Int32) p1 (0 : Int32) with ⟨r_60, kpw_60, klf_60, ksc_60, krc_60, kno_60, kme_60, kwe_60, kbo_60, kre_60⟩
          have hM_60 : kWi l yX5_put cX5_put 7 (some .boolean) { frames := 4, cells := 0, slots := 0, locals := 94 } D [(cA, .int)] [.ref kO, .int (4 : Int32), .int p1, .int (0 : Int32)] (wK kO km kw kb kr kd kt cA (0 : Int32) kmn kpw klf kmk ksc krc kno kpp kpc kme kwe kbo kre kdr ktb) r_60 (wK kO km kw kb kr kd kt cA (0 : Int32) kmn kpw_60 klf_60 kmk ksc_60 krc_60 kno_60 kpp kpc kme_60 kwe_60 kbo_60 kre_60 kdr ktb) := by
            have h := c_X5_put l D kO km kw kb kr kd kt cA (0 : Int32) kmn kpw klf kmk ksc krc kno kpp kpc kme kwe kbo kre kdr ktb (4 : Int32) p1 (0 : Int32) hs hrr hp (fun h => absurd h (by decide))
            rw [hq_60] at h
            exact h
          refine k_wrVi (As := [.int (4 : Int32), .int p1, .int (0 : Int32)]) (rest := []) (ci := 5) (q0 := 0) (ws' := (wK kO km kw kb kr kd kt cA (0 : Int32) kmn kpw_60 klf_60 kmk ksc_60 krc_60 kno_60 kpp kpc kme_60 kwe_60 kbo_60 kre_60 kdr ktb)) (wr := []) ⟨hx, hb, hml, hown, hts⟩ k_self hM_60 kv_X5_116 hP hD hS hA hK rfl rfl [0, 1, 2, 3, 4, 5, 6] [] [0, 1, 2, 3, 4, 5, 6] rfl (by decide) rfl (by decide) (by decide) rfl (by decide) rfl rfl ⟨Nat.le_of_ble_eq_true rfl, Nat.le_of_ble_eq_true rfl⟩ rfl hl.1 rfl (Nat.le_of_ble_eq_true rfl) dX5_refill_60 ⟨Nat.zero_le _, Nat.zero_le _⟩ (fun H locs hP hD hS => ?_)
          refine lv_if_eq (tgt := 70) hx hb dX5_refill_63 (by decide) (fun c_63 => ?_) (fun c_63 => ?_)
          · refine lv_bipush (v := -7) hx hb dX5_refill_70 (by decide) ?_
            have hE : spX5_refill kth kmn kpw klf kmk ksc krc kno kme kwe kbo kre p1 p2 = ((-7 : Int32), (0 : Int32), kpw_60, klf_60, ksc_60, krc_60, kno_60, kme_60, kwe_60, kbo_60, kre_60) := by unfold spX5_refill; rw [if_neg c_9, if_neg c_19, if_pos c_35, if_pos c_51]; rw [hq_60]; dsimp only; rw [if_pos c_63]
            exact W.iret (v := (-7 : Int32)) hx hb hr (fun t ht hW => ⟨⟨(-7 : Int32), (), rfl, by rw [hE], by rw [hE, ht]; exact hP, va_K.moved hW.alike hK, by rw [hE]; exact hD⟩, hS.F ht⟩) hS.2.2 dX5_refill_72
          · refine lv_iconst (v := 1) hx hb dX5_refill_66 (by decide) ?_
            refine lv_goto (tgt := 72) hx hb dX5_refill_67 (by decide) ?_
            have hE : spX5_refill kth kmn kpw klf kmk ksc krc kno kme kwe kbo kre p1 p2 = ((1 : Int32), (0 : Int32), kpw_60, klf_60, ksc_60, krc_60, kno_60, kme_60, kwe_60, kbo_60, kre_60) := by unfold spX5_refill; rw [if_neg c_9, if_neg c_19, if_pos c_35, if_pos c_51]; rw [hq_60]; dsimp only; rw [if_neg c_63]
            exact W.iret (v := (1 : Int32)) hx hb hr (fun t ht hW => ⟨⟨(1 : Int32), (), rfl, by rw [hE], by rw [hE, ht]; exact hP, va_K.moved hW.alike hK, by rw [hE]; exact hD⟩, hS.F ht⟩) hS.2.2 dX5_refill_72
        · refine lv_iconst (v := 0) hx hb dX5_refill_54 (by decide) ?_
          have hE : spX5_refill kth kmn kpw klf kmk ksc krc kno kme kwe kbo kre p1 p2 = ((0 : Int32), (0 : Int32), kpw, klf, ksc, krc, kno, kme, kwe, kbo, kre) := by unfold spX5_refill; rw [if_neg c_9, if_neg c_19, if_pos c_35, if_neg c_51]
          exact W.iret (v := (0 : Int32)) hx hb hr (fun t ht hW => ⟨⟨(0 : Int32), (), rfl, by rw [hE], by rw [hE, ht]; exact hP, va_K.moved hW.alike hK, by rw [hE]; exact hD⟩, hS.F ht⟩) hS.2.2 dX5_refill_55
  · refine lv_bipush (v := -7) hx hb dX5_refill_12 (by decide) ?_
    have hE : spX5_refill kth kmn kpw klf kmk ksc krc kno kme kwe kbo kre p1 p2 = ((-7 : Int32), (0 : Int32), kpw, klf, ksc, krc, kno, kme, kwe, kbo, kre) := by unfold spX5_refill; rw [if_pos c_9]
    exact W.iret (v := (-7 : Int32)) hx hb hr (fun t ht hW => ⟨⟨(-7 : Int32), (), rfl, by rw [hE], by rw [hE, ht]; exact hP, va_K.moved hW.alike hK, by rw [hE]; exact hD⟩, hS.F ht⟩) hS.2.2 dX5_refill_14
def spX5_claimBack (kth : Int32) (kpw : Int32) (klf : Int32) (kmk : Int32) (ksc : Int32) (krc : Int32) (kno : Int32) (kme : Nat → Int32) (kwe : Nat → Int32) (kbo : Nat → Int32) (kre : Nat → Int32) (p1 : Int32) (p2 : Int32) : Int32 × Int32 × Int32 × Int32 × Int32 × Int32 × Int32 × (Nat → Int32) × (Nat → Int32) × (Nat → Int32) × (Nat → Int32) := (if kpw = 0 then ((-7 : Int32), (0 : Int32), kpw, klf, ksc, krc, kno, kme, kwe, kbo, kre) else (if ((kbo (Int32.toNatClampNeg (11 : Int32))) + (1 : Int32)) ≤ ((kbo (Int32.toNatClampNeg (10 : Int32))) / (100 : Int32)) then (if (spX5_isMoney p2) = 0 then ((0 : Int32), (0 : Int32), kpw, klf, ksc, krc, kno, kme, kwe, kbo, kre) else (if 0 < (lg_cmp (Int32.toInt64 p2) (spX5_sum kbo (2 : Int32))) then ((0 : Int32), (0 : Int32), kpw, klf, ksc, krc, kno, kme, kwe, kbo, kre) else (if (spX5_isDay p1) = 0 then ((0 : Int32), (0 : Int32), kpw, klf, ksc, krc, kno, kme, kwe, kbo, kre) else (match spX5_put kpw klf kmk ksc krc kno kme kwe kbo kre (5 : Int32) p2 p1 with | (r_78, kpw_78, klf_78, ksc_78, krc_78, kno_78, kme_78, kwe_78, kbo_78, kre_78) => (if r_78 = 0 then ((-7 : Int32), (0 : Int32), kpw_78, klf_78, ksc_78, krc_78, kno_78, kme_78, kwe_78, kbo_78, kre_78) else ((1 : Int32), (0 : Int32), kpw_78, klf_78, ksc_78, krc_78, kno_78, kme_78, kwe_78, kbo_78, kre_78)))))) else ((0 : Int32), (0 : Int32), kpw, klf, ksc, krc, kno, kme, kwe, kbo, kre)))
set_option maxHeartbeats 4000000 in
set_option maxRecDepth 100000 in
theorem c_X5_claimBack (l : Launch) (D : va_G) (kO km kw kb kr kd kt : Nat) (cA : ClassId) (kth : Int32) (kmn : Int32) (kpw : Int32) (klf : Int32) (kmk : Int32) (ksc : Int32) (krc : Int32) (kno : Int32) (kpp : Int32) (kpc : Int64) (kme : Nat → Int32) (kwe : Nat → Int32) (kbo : Nat → Int32) (kre : Nat → Int32) (kdr : Nat → Int32) (ktb : Nat → Int32) (p1 : Int32) (p2 : Int32) (hs : ∃ k : Nat, ksc = nI k ∧ k < 16) (hrr : ∃ r : Nat, krc = nI r ∧ r ≤ 12) (hp : kpw = 0 ∨ kpw = 1) : kWi l yX5_claimBack cX5_claimBack 4 (some .int) { frames := 5, cells := 0, slots := 0, locals := 120 } D [(cA, .int)] [.ref kO, .int p1, .int p2] (wK kO km kw kb kr kd kt cA kth kmn kpw klf kmk ksc krc kno kpp kpc kme kwe kbo kre kdr ktb) (spX5_claimBack kth kpw klf kmk ksc krc kno kme kwe kbo kre p1 p2).1 (wK kO km kw kb kr kd kt cA (spX5_claimBack kth kpw klf kmk ksc krc kno kme kwe kbo kre p1 p2).2.1 kmn (spX5_claimBack kth kpw klf kmk ksc krc kno kme kwe kbo kre p1 p2).2.2.1 (spX5_claimBack kth kpw klf kmk ksc krc kno kme kwe kbo kre p1 p2).2.2.2.1 kmk (spX5_claimBack kth kpw klf kmk ksc krc kno kme kwe kbo kre p1 p2).2.2.2.2.1 (spX5_claimBack kth kpw klf kmk ksc krc kno kme kwe kbo kre p1 p2).2.2.2.2.2.1 (spX5_claimBack kth kpw klf kmk ksc krc kno kme kwe kbo kre p1 p2).2.2.2.2.2.2.1 kpp kpc (spX5_claimBack kth kpw klf kmk ksc krc kno kme kwe kbo kre p1 p2).2.2.2.2.2.2.2.1 (spX5_claimBack kth kpw klf kmk ksc krc kno kme kwe kbo kre p1 p2).2.2.2.2.2.2.2.2.1 (spX5_claimBack kth kpw klf kmk ksc krc kno kme kwe kbo kre p1 p2).2.2.2.2.2.2.2.2.2.1 (spX5_claimBack kth kpw klf kmk ksc krc kno kme kwe kbo kre p1 p2).2.2.2.2.2.2.2.2.2.2 kdr ktb) := by
  intro sz
  refine Met.ofW (cc := cX5_claimBack) (maxL := 4) (ret := (some .int)) (by decide) rfl ?_
  intro p e s m args below meth c s₁ B hml hv
  obtain ⟨rfl, hsz, hP, hK, hD0⟩ := hv
  have hx := B.exec
  have hb := B.bytes
  have hr := B.returns
  have hts : ∀ w ∈ kG, w.before _ s = true := fun w h => atoms_spec (ws := kT yX5_claimBack cX5_claimBack 4 (some .int)) B.pre w (List.mem_cons_of_mem _ h)
  have hown : s.vm.findClass RX5 = some m.cls := findClass_of_methodNamed B.named
  have hlocks := B.notSynchronized
  subst hsz
  have hD := hD0.self (sz := s.heap.size)
  generalize hAe : va_A (wK kO km kw kb kr kd kt cA kth kmn kpw klf kmk ksc krc kno kpp kpc kme kwe kbo kre kdr ktb) s.heap.size = A at hD ⊢
  have hA : ∀ q : Nat, s.heap.size ≤ q → A q := fun q h => by rw [← hAe]; exact Or.inr h
  have hS : va_S A s.heap s.heap [] := va_S.rf
  have hl := lv_entry ([.ref kO, .int p1, .int p2]) (n := 4) (Nat.le_of_ble_eq_true rfl)
  rw [lg_entry_eq]
  generalize (lg_sl ([.ref kO, .int p1, .int p2]) ++ List.replicate (4 - (lg_sl ([.ref kO, .int p1, .int p2])).length) Slot.unset).toArray = ls at hl ⊢
  have hl : lv_has ls 4 [(0, .ref kO), (1, .int p1), (2, .int p2)] := hl
  refine lv_aload_n hx hb dX5_claimBack_0 rfl (lv_at hl 0 rfl) ?_
  refine lv_iconst (v := 0) hx hb dX5_claimBack_1 (by decide) ?_
  refine va_put (D := D) (ci := 5) (v := .int (0 : Int32)) (ty := .int) (C := RX5) (T := TX5) (N := 16) hx hb hts k_inX5 tyX5 tyX5_ok nmX5 hown hK hP hD hS 0 rfl rfl 0 (by decide) (hts _ kw_489) (fun _ h9 => h9) rfl (by decide +kernel) rfl rfl (Nat.le_of_ble_eq_true rfl) dX5_claimBack_2 (fun H locs hP hD hS => ?_)
  have hP : va_P D vwCl (wK kO km kw kb kr kd kt cA (0 : Int32) kmn kpw klf kmk ksc krc kno kpp kpc kme kwe kbo kre kdr ktb) H := hP
  have hD : va_D A (wK kO km kw kb kr kd kt cA (0 : Int32) kmn kpw klf kmk ksc krc kno kpp kpc kme kwe kbo kre kdr ktb) := hD
  refine lv_aload_n hx hb dX5_claimBack_5 rfl (lv_at hl 0 rfl) ?_
  refine va_get (D := D) (ci := 5) (v := .int kpw) (C := RX5) (T := TX5) (N := 16) hx hb hts k_inX5 hown hK hP 0 rfl rfl 8 (by decide) (hts _ kw_497) (fun _ h9 => h9) rfl dX5_claimBack_6 ?_
  refine lv_if_ne (tgt := 15) hx hb dX5_claimBack_9 (by decide) (fun c_9 => ?_) (fun c_9 => ?_)
  · refine lv_aload_n hx hb dX5_claimBack_15 rfl (lv_at hl 0 rfl) ?_
    refine va_get (D := D) (ci := 5) (v := .ref kb) (C := RX5) (T := TX5) (N := 16) hx hb hts k_inX5 hown hK hP 0 rfl rfl 4 (by decide) (hts _ kw_493) (fun _ h9 => h9) rfl dX5_claimBack_16 ?_
    refine lv_bipush (v := 11) hx hb dX5_claimBack_19 (by decide) ?_
    refine va_iald hx hb hK hP 3 0 rfl rfl (vp_in_nI (n := 11) (N := 193) (by decide) (by decide)) dX5_claimBack_21 ?_
    refine lv_iconst (v := 1) hx hb dX5_claimBack_22 (by decide) ?_
    refine lv_iadd hx hb dX5_claimBack_23 ?_
    refine lv_aload_n hx hb dX5_claimBack_24 rfl (lv_at hl 0 rfl) ?_
    refine va_get (D := D) (ci := 5) (v := .ref kb) (C := RX5) (T := TX5) (N := 16) hx hb hts k_inX5 hown hK hP 0 rfl rfl 4 (by decide) (hts _ kw_493) (fun _ h9 => h9) rfl dX5_claimBack_25 ?_
    refine lv_bipush (v := 10) hx hb dX5_claimBack_28 (by decide) ?_
    refine va_iald hx hb hK hP 3 0 rfl rfl (vp_in_nI (n := 10) (N := 193) (by decide) (by decide)) dX5_claimBack_30 ?_
    refine lv_bipush (v := 100) hx hb dX5_claimBack_31 (by decide) ?_
    refine lv_idiv hx hb dX5_claimBack_33 (by decide) ?_
    refine lv_icmp_le (tgt := 41) hx hb dX5_claimBack_34 (by decide) (fun c_34 => ?_) (fun c_34 => ?_)
    · refine lv_iconst (v := 0) hx hb dX5_claimBack_41 (by decide) ?_
      refine lv_istore_n (lv' := [(3, .int (0 : Int32)), (0, .ref kO), (1, .int p1), (2, .int p2)]) hx hb dX5_claimBack_42 rfl hl (by decide) rfl (fun ls hl => ?_)
      refine lv_iload_n hx hb dX5_claimBack_43 rfl (lv_at hl 0 rfl) ?_
      refine lv_if_ne (tgt := 72) hx hb dX5_claimBack_44 (by decide) (fun c_44 => ?_) (fun c_44 => ?_)
      · exact absurd c_44 (by decide)
      · refine lv_iload_n hx hb dX5_claimBack_47 rfl (lv_at hl 3 rfl) ?_
        refine k_rdSi (As := [.int p2]) (rest := []) ⟨hx, hb, hml, hown, hts⟩ k_self (c_X5_isMoney l p2) kv_X5_128 rfl rfl ⟨Nat.le_of_ble_eq_true rfl, Nat.le_of_ble_eq_true rfl⟩ rfl hl.1 rfl (Nat.le_of_ble_eq_true rfl) dX5_claimBack_48 ⟨Nat.zero_le _, Nat.zero_le _⟩ ?_
        refine lv_if_eq (tgt := 72) hx hb dX5_claimBack_51 (by decide) (fun c_51 => ?_) (fun c_51 => ?_)
        · refine lv_iconst (v := 0) hx hb dX5_claimBack_72 (by decide) ?_
          have hE : spX5_claimBack kth kpw klf kmk ksc krc kno kme kwe kbo kre p1 p2 = ((0 : Int32), (0 : Int32), kpw, klf, ksc, krc, kno, kme, kwe, kbo, kre) := by unfold spX5_claimBack; rw [if_neg c_9, if_pos c_34, if_pos c_51]
          exact W.iret (v := (0 : Int32)) hx hb hr (fun t ht hW => ⟨⟨(0 : Int32), (), rfl, by rw [hE], by rw [hE, ht]; exact hP, va_K.moved hW.alike hK, by rw [hE]; exact hD⟩, hS.F ht⟩) hS.2.2 dX5_claimBack_73
        · refine lv_iload_n hx hb dX5_claimBack_54 rfl (lv_at hl 3 rfl) ?_
          refine lv_i2l (v := (Int32.toInt64 p2)) hx hb dX5_claimBack_55 rfl ?_
          refine lv_aload_n hx hb dX5_claimBack_56 rfl (lv_at hl 1 rfl) ?_
          refine lv_iconst (v := 2) hx hb dX5_claimBack_57 (by decide) ?_
          refine k_rdVl (As := [.int (2 : Int32)]) (rest := [.long (Int32.toInt64 p2)]) (ci := 5) (q0 := 0) ⟨hx, hb, hml, hown, hts⟩ k_self (c_X5_sum l D kO km kw kb kr kd kt cA (0 : Int32) kmn kpw klf kmk ksc krc kno kpp kpc kme kwe kbo kre kdr ktb (2 : Int32) ⟨2, rfl, by decide⟩) kv_X5_91 (hP.sub [0, 1, 2, 3, 4, 5, 6] rfl) (hK.sub [0] rfl) rfl rfl rfl rfl ⟨Nat.le_of_ble_eq_true rfl, Nat.le_of_ble_eq_true rfl⟩ rfl hl.1 rfl (Nat.le_of_ble_eq_true rfl) dX5_claimBack_58 ⟨Nat.zero_le _, Nat.zero_le _⟩ ?_
          refine W.lcmp hx hb dX5_claimBack_61 ?_
          refine lv_if_gt (tgt := 72) hx hb dX5_claimBack_62 (by decide) (fun c_62 => ?_) (fun c_62 => ?_)
          · refine lv_iconst (v := 0) hx hb dX5_claimBack_72 (by decide) ?_
            have hE : spX5_claimBack kth kpw klf kmk ksc krc kno kme kwe kbo kre p1 p2 = ((0 : Int32), (0 : Int32), kpw, klf, ksc, krc, kno, kme, kwe, kbo, kre) := by unfold spX5_claimBack; rw [if_neg c_9, if_pos c_34, if_neg c_51, if_pos c_62]
            exact W.iret (v := (0 : Int32)) hx hb hr (fun t ht hW => ⟨⟨(0 : Int32), (), rfl, by rw [hE], by rw [hE, ht]; exact hP, va_K.moved hW.alike hK, by rw [hE]; exact hD⟩, hS.F ht⟩) hS.2.2 dX5_claimBack_73
          · refine lv_iload_n hx hb dX5_claimBack_65 rfl (lv_at hl 2 rfl) ?_
            refine k_rdSi (As := [.int p1]) (rest := []) ⟨hx, hb, hml, hown, hts⟩ k_self (c_X5_isDay l p1) kv_X5_123 rfl rfl ⟨Nat.le_of_ble_eq_true rfl, Nat.le_of_ble_eq_true rfl⟩ rfl hl.1 rfl (Nat.le_of_ble_eq_true rfl) dX5_claimBack_66 ⟨Nat.zero_le _, Nat.zero_le _⟩ ?_
            refine lv_if_ne (tgt := 74) hx hb dX5_claimBack_69 (by decide) (fun c_69 => ?_) (fun c_69 => ?_)
            · refine lv_aload_n hx hb dX5_claimBack_74 rfl (lv_at hl 1 rfl) ?_
              refine lv_iconst (v := 5) hx hb dX5_claimBack_75 (by decide) ?_
              refine lv_iload_n hx hb dX5_claimBack_76 rfl (lv_at hl 3 rfl) ?_
              refine lv_iload_n hx hb dX5_claimBack_77 rfl (lv_at hl 2 rfl) ?_
              rcases hq_78 : spX5_put kpw klf kmk ksc krc kno kme kwe kbo kre (5 : Int32) p2 p1 with ⟨r_78, kpw_78, klf_78, ksc_78, krc_78, kno_78, kme_78, kwe_78, kbo_78, kre_78⟩
              have hM_78 : kWi l yX5_put cX5_put 7 (some .boolean) { frames := 4, cells := 0, slots := 0, locals := 94 } D [(cA, .int)] [.ref kO, .int (5 : Int32), .int p2, .int p1] (wK kO km kw kb kr kd kt cA (0 : Int32) kmn kpw klf kmk ksc krc kno kpp kpc kme kwe kbo kre kdr ktb) r_78 (wK kO km kw kb kr kd kt cA (0 : Int32) kmn kpw_78 klf_78 kmk ksc_78 krc_78 kno_78 kpp kpc kme_78 kwe_78 kbo_78 kre_78 kdr ktb) := by
                have h := c_X5_put l D kO km kw kb kr kd kt cA (0 : Int32) kmn kpw klf kmk ksc krc kno kpp kpc kme kwe kbo kre kdr ktb (5 : Int32) p2 p1 hs hrr hp (fun h => absurd h (by decide))
                rw [hq_78] at h
                exact h
              refine k_wrVi (As := [.int (5 : Int32), .int p2, .int p1]) (rest := []) (ci := 5) (q0 := 0) (ws' := (wK kO km kw kb kr kd kt cA (0 : Int32) kmn kpw_78 klf_78 kmk ksc_78 krc_78 kno_78 kpp kpc kme_78 kwe_78 kbo_78 kre_78 kdr ktb)) (wr := []) ⟨hx, hb, hml, hown, hts⟩ k_self hM_78 kv_X5_116 hP hD hS hA hK rfl rfl [0, 1, 2, 3, 4, 5, 6] [] [0, 1, 2, 3, 4, 5, 6] rfl (by decide) rfl (by decide) (by decide) rfl (by decide) rfl rfl ⟨Nat.le_of_ble_eq_true rfl, Nat.le_of_ble_eq_true rfl⟩ rfl hl.1 rfl (Nat.le_of_ble_eq_true rfl) dX5_claimBack_78 ⟨Nat.zero_le _, Nat.zero_le _⟩ (fun H locs hP hD hS => ?_)
              refine lv_if_eq (tgt := 88) hx hb dX5_claimBack_81 (by decide) (fun c_81 => ?_) (fun c_81 => ?_)
              · refine lv_bipush (v := -7) hx hb dX5_claimBack_88 (by decide) ?_
                have hE : spX5_claimBack kth kpw klf kmk ksc krc kno kme kwe kbo kre p1 p2 = ((-7 : Int32), (0 : Int32), kpw_78, klf_78, ksc_78, krc_78, kno_78, kme_78, kwe_78, kbo_78, kre_78) := by unfold spX5_claimBack; rw [if_neg c_9, if_pos c_34, if_neg c_51, if_neg c_62, if_neg c_69]; rw [hq_78]; dsimp only; rw [if_pos c_81]
                exact W.iret (v := (-7 : Int32)) hx hb hr (fun t ht hW => ⟨⟨(-7 : Int32), (), rfl, by rw [hE], by rw [hE, ht]; exact hP, va_K.moved hW.alike hK, by rw [hE]; exact hD⟩, hS.F ht⟩) hS.2.2 dX5_claimBack_90
              · refine lv_iconst (v := 1) hx hb dX5_claimBack_84 (by decide) ?_
                refine lv_goto (tgt := 90) hx hb dX5_claimBack_85 (by decide) ?_
                have hE : spX5_claimBack kth kpw klf kmk ksc krc kno kme kwe kbo kre p1 p2 = ((1 : Int32), (0 : Int32), kpw_78, klf_78, ksc_78, krc_78, kno_78, kme_78, kwe_78, kbo_78, kre_78) := by unfold spX5_claimBack; rw [if_neg c_9, if_pos c_34, if_neg c_51, if_neg c_62, if_neg c_69]; rw [hq_78]; dsimp only; rw [if_neg c_81]
                exact W.iret (v := (1 : Int32)) hx hb hr (fun t ht hW => ⟨⟨(1 : Int32), (), rfl, by rw [hE], by rw [hE, ht]; exact hP, va_K.moved hW.alike hK, by rw [hE]; exact hD⟩, hS.F ht⟩) hS.2.2 dX5_claimBack_90
            · refine lv_iconst (v := 0) hx hb dX5_claimBack_72 (by decide) ?_
              have hE : spX5_claimBack kth kpw klf kmk ksc krc kno kme kwe kbo kre p1 p2 = ((0 : Int32), (0 : Int32), kpw, klf, ksc, krc, kno, kme, kwe, kbo, kre) := by unfold spX5_claimBack; rw [if_neg c_9, if_pos c_34, if_neg c_51, if_neg c_62, if_pos c_69]
              exact W.iret (v := (0 : Int32)) hx hb hr (fun t ht hW => ⟨⟨(0 : Int32), (), rfl, by rw [hE], by rw [hE, ht]; exact hP, va_K.moved hW.alike hK, by rw [hE]; exact hD⟩, hS.F ht⟩) hS.2.2 dX5_claimBack_73
    · refine lv_iconst (v := 1) hx hb dX5_claimBack_37 (by decide) ?_
      refine lv_goto (tgt := 42) hx hb dX5_claimBack_38 (by decide) ?_
      refine lv_istore_n (lv' := [(3, .int (1 : Int32)), (0, .ref kO), (1, .int p1), (2, .int p2)]) hx hb dX5_claimBack_42 rfl hl (by decide) rfl (fun ls hl => ?_)
      refine lv_iload_n hx hb dX5_claimBack_43 rfl (lv_at hl 0 rfl) ?_
      refine lv_if_ne (tgt := 72) hx hb dX5_claimBack_44 (by decide) (fun c_44 => ?_) (fun c_44 => ?_)
      · refine lv_iconst (v := 0) hx hb dX5_claimBack_72 (by decide) ?_
        have hE : spX5_claimBack kth kpw klf kmk ksc krc kno kme kwe kbo kre p1 p2 = ((0 : Int32), (0 : Int32), kpw, klf, ksc, krc, kno, kme, kwe, kbo, kre) := by unfold spX5_claimBack; rw [if_neg c_9, if_neg c_34]
        exact W.iret (v := (0 : Int32)) hx hb hr (fun t ht hW => ⟨⟨(0 : Int32), (), rfl, by rw [hE], by rw [hE, ht]; exact hP, va_K.moved hW.alike hK, by rw [hE]; exact hD⟩, hS.F ht⟩) hS.2.2 dX5_claimBack_73
      · exact absurd c_44 (by decide)
  · refine lv_bipush (v := -7) hx hb dX5_claimBack_12 (by decide) ?_
    have hE : spX5_claimBack kth kpw klf kmk ksc krc kno kme kwe kbo kre p1 p2 = ((-7 : Int32), (0 : Int32), kpw, klf, ksc, krc, kno, kme, kwe, kbo, kre) := by unfold spX5_claimBack; rw [if_pos c_9]
    exact W.iret (v := (-7 : Int32)) hx hb hr (fun t ht hW => ⟨⟨(-7 : Int32), (), rfl, by rw [hE], by rw [hE, ht]; exact hP, va_K.moved hW.alike hK, by rw [hE]; exact hD⟩, hS.F ht⟩) hS.2.2 dX5_claimBack_14
def spX5_inspect (kth : Int32) (kpw : Int32) (klf : Int32) (kmk : Int32) (ksc : Int32) (krc : Int32) (kno : Int32) (kme : Nat → Int32) (kwe : Nat → Int32) (kbo : Nat → Int32) (kre : Nat → Int32) (p1 : Int32) : Int32 × Int32 × Int32 × Int32 × Int32 × Int32 × Int32 × (Nat → Int32) × (Nat → Int32) × (Nat → Int32) × (Nat → Int32) := (if kpw = 0 then ((-7 : Int32), (0 : Int32), kpw, klf, ksc, krc, kno, kme, kwe, kbo, kre) else (if (spX5_isDay p1) = 0 then ((0 : Int32), (0 : Int32), kpw, klf, ksc, krc, kno, kme, kwe, kbo, kre) else (if (kbo (Int32.toNatClampNeg (14 : Int32))) ≤ p1 then (match spX5_put kpw klf kmk ksc krc kno kme kwe kbo kre (6 : Int32) p1 (0 : Int32) with | (r_40, kpw_40, klf_40, ksc_40, krc_40, kno_40, kme_40, kwe_40, kbo_40, kre_40) => (if r_40 = 0 then ((-7 : Int32), (0 : Int32), kpw_40, klf_40, ksc_40, krc_40, kno_40, kme_40, kwe_40, kbo_40, kre_40) else ((1 : Int32), (0 : Int32), kpw_40, klf_40, ksc_40, krc_40, kno_40, kme_40, kwe_40, kbo_40, kre_40))) else ((0 : Int32), (0 : Int32), kpw, klf, ksc, krc, kno, kme, kwe, kbo, kre))))
set_option maxHeartbeats 4000000 in
set_option maxRecDepth 100000 in
theorem c_X5_inspect (l : Launch) (D : va_G) (kO km kw kb kr kd kt : Nat) (cA : ClassId) (kth : Int32) (kmn : Int32) (kpw : Int32) (klf : Int32) (kmk : Int32) (ksc : Int32) (krc : Int32) (kno : Int32) (kpp : Int32) (kpc : Int64) (kme : Nat → Int32) (kwe : Nat → Int32) (kbo : Nat → Int32) (kre : Nat → Int32) (kdr : Nat → Int32) (ktb : Nat → Int32) (p1 : Int32) (hs : ∃ k : Nat, ksc = nI k ∧ k < 16) (hrr : ∃ r : Nat, krc = nI r ∧ r ≤ 12) (hp : kpw = 0 ∨ kpw = 1) : kWi l yX5_inspect cX5_inspect 2 (some .int) { frames := 5, cells := 0, slots := 0, locals := 120 } D [(cA, .int)] [.ref kO, .int p1] (wK kO km kw kb kr kd kt cA kth kmn kpw klf kmk ksc krc kno kpp kpc kme kwe kbo kre kdr ktb) (spX5_inspect kth kpw klf kmk ksc krc kno kme kwe kbo kre p1).1 (wK kO km kw kb kr kd kt cA (spX5_inspect kth kpw klf kmk ksc krc kno kme kwe kbo kre p1).2.1 kmn (spX5_inspect kth kpw klf kmk ksc krc kno kme kwe kbo kre p1).2.2.1 (spX5_inspect kth kpw klf kmk ksc krc kno kme kwe kbo kre p1).2.2.2.1 kmk (spX5_inspect kth kpw klf kmk ksc krc kno kme kwe kbo kre p1).2.2.2.2.1 (spX5_inspect kth kpw klf kmk ksc krc kno kme kwe kbo kre p1).2.2.2.2.2.1 (spX5_inspect kth kpw klf kmk ksc krc kno kme kwe kbo kre p1).2.2.2.2.2.2.1 kpp kpc (spX5_inspect kth kpw klf kmk ksc krc kno kme kwe kbo kre p1).2.2.2.2.2.2.2.1 (spX5_inspect kth kpw klf kmk ksc krc kno kme kwe kbo kre p1).2.2.2.2.2.2.2.2.1 (spX5_inspect kth kpw klf kmk ksc krc kno kme kwe kbo kre p1).2.2.2.2.2.2.2.2.2.1 (spX5_inspect kth kpw klf kmk ksc krc kno kme kwe kbo kre p1).2.2.2.2.2.2.2.2.2.2 kdr ktb) := by
  intro sz
  refine Met.ofW (cc := cX5_inspect) (maxL := 2) (ret := (some .int)) (by decide) rfl ?_
  intro p e s m args below meth c s₁ B hml hv
  obtain ⟨rfl, hsz, hP, hK, hD0⟩ := hv
  have hx := B.exec
  have hb := B.bytes
  have hr := B.returns
  have hts : ∀ w ∈ kG, w.before _ s = true := fun w h => atoms_spec (ws := kT yX5_inspect cX5_inspect 2 (some .int)) B.pre w (List.mem_cons_of_mem _ h)
  have hown : s.vm.findClass RX5 = some m.cls := findClass_of_methodNamed B.named
  have hlocks := B.notSynchronized
  subst hsz
  have hD := hD0.self (sz := s.heap.size)
  generalize hAe : va_A (wK kO km kw kb kr kd kt cA kth kmn kpw klf kmk ksc krc kno kpp kpc kme kwe kbo kre kdr ktb) s.heap.size = A at hD ⊢
  have hA : ∀ q : Nat, s.heap.size ≤ q → A q := fun q h => by rw [← hAe]; exact Or.inr h
  have hS : va_S A s.heap s.heap [] := va_S.rf
  have hl := lv_entry ([.ref kO, .int p1]) (n := 2) (Nat.le_of_ble_eq_true rfl)
  rw [lg_entry_eq]
  generalize (lg_sl ([.ref kO, .int p1]) ++ List.replicate (2 - (lg_sl ([.ref kO, .int p1])).length) Slot.unset).toArray = ls at hl ⊢
  have hl : lv_has ls 2 [(0, .ref kO), (1, .int p1)] := hl
  refine lv_aload_n hx hb dX5_inspect_0 rfl (lv_at hl 0 rfl) ?_
  refine lv_iconst (v := 0) hx hb dX5_inspect_1 (by decide) ?_
  refine va_put (D := D) (ci := 5) (v := .int (0 : Int32)) (ty := .int) (C := RX5) (T := TX5) (N := 16) hx hb hts k_inX5 tyX5 tyX5_ok nmX5 hown hK hP hD hS 0 rfl rfl 0 (by decide) (hts _ kw_489) (fun _ h9 => h9) rfl (by decide +kernel) rfl rfl (Nat.le_of_ble_eq_true rfl) dX5_inspect_2 (fun H locs hP hD hS => ?_)
  have hP : va_P D vwCl (wK kO km kw kb kr kd kt cA (0 : Int32) kmn kpw klf kmk ksc krc kno kpp kpc kme kwe kbo kre kdr ktb) H := hP
  have hD : va_D A (wK kO km kw kb kr kd kt cA (0 : Int32) kmn kpw klf kmk ksc krc kno kpp kpc kme kwe kbo kre kdr ktb) := hD
  refine lv_aload_n hx hb dX5_inspect_5 rfl (lv_at hl 0 rfl) ?_
  refine va_get (D := D) (ci := 5) (v := .int kpw) (C := RX5) (T := TX5) (N := 16) hx hb hts k_inX5 hown hK hP 0 rfl rfl 8 (by decide) (hts _ kw_497) (fun _ h9 => h9) rfl dX5_inspect_6 ?_
  refine lv_if_ne (tgt := 15) hx hb dX5_inspect_9 (by decide) (fun c_9 => ?_) (fun c_9 => ?_)
  · refine lv_iload_n hx hb dX5_inspect_15 rfl (lv_at hl 1 rfl) ?_
    refine k_rdSi (As := [.int p1]) (rest := []) ⟨hx, hb, hml, hown, hts⟩ k_self (c_X5_isDay l p1) kv_X5_123 rfl rfl ⟨Nat.le_of_ble_eq_true rfl, Nat.le_of_ble_eq_true rfl⟩ rfl hl.1 rfl (Nat.le_of_ble_eq_true rfl) dX5_inspect_16 ⟨Nat.zero_le _, Nat.zero_le _⟩ ?_
    refine lv_if_eq (tgt := 33) hx hb dX5_inspect_19 (by decide) (fun c_19 => ?_) (fun c_19 => ?_)
    · refine lv_iconst (v := 0) hx hb dX5_inspect_33 (by decide) ?_
      have hE : spX5_inspect kth kpw klf kmk ksc krc kno kme kwe kbo kre p1 = ((0 : Int32), (0 : Int32), kpw, klf, ksc, krc, kno, kme, kwe, kbo, kre) := by unfold spX5_inspect; rw [if_neg c_9, if_pos c_19]
      exact W.iret (v := (0 : Int32)) hx hb hr (fun t ht hW => ⟨⟨(0 : Int32), (), rfl, by rw [hE], by rw [hE, ht]; exact hP, va_K.moved hW.alike hK, by rw [hE]; exact hD⟩, hS.F ht⟩) hS.2.2 dX5_inspect_34
    · refine lv_iload_n hx hb dX5_inspect_22 rfl (lv_at hl 1 rfl) ?_
      refine lv_aload_n hx hb dX5_inspect_23 rfl (lv_at hl 0 rfl) ?_
      refine va_get (D := D) (ci := 5) (v := .ref kb) (C := RX5) (T := TX5) (N := 16) hx hb hts k_inX5 hown hK hP 0 rfl rfl 4 (by decide) (hts _ kw_493) (fun _ h9 => h9) rfl dX5_inspect_24 ?_
      refine lv_bipush (v := 14) hx hb dX5_inspect_27 (by decide) ?_
      refine va_iald hx hb hK hP 3 0 rfl rfl (vp_in_nI (n := 14) (N := 193) (by decide) (by decide)) dX5_inspect_29 ?_
      refine lv_icmp_ge (tgt := 35) hx hb dX5_inspect_30 (by decide) (fun c_30 => ?_) (fun c_30 => ?_)
      · refine lv_aload_n hx hb dX5_inspect_35 rfl (lv_at hl 0 rfl) ?_
        refine lv_bipush (v := 6) hx hb dX5_inspect_36 (by decide) ?_
        refine lv_iload_n hx hb dX5_inspect_38 rfl (lv_at hl 1 rfl) ?_
        refine lv_iconst (v := 0) hx hb dX5_inspect_39 (by decide) ?_
        rcases hq_40 : spX5_put kpw klf kmk ksc krc kno kme kwe kbo kre (6 : Int32) p1 (0 : Int32) with ⟨r_40, kpw_40, klf_40, ksc_40, krc_40, kno_40, kme_40, kwe_40, kbo_40, kre_40⟩
        have hM_40 : kWi l yX5_put cX5_put 7 (some .boolean) { frames := 4, cells := 0, slots := 0, locals := 94 } D [(cA, .int)] [.ref kO, .int (6 : Int32), .int p1, .int (0 : Int32)] (wK kO km kw kb kr kd kt cA (0 : Int32) kmn kpw klf kmk ksc krc kno kpp kpc kme kwe kbo kre kdr ktb) r_40 (wK kO km kw kb kr kd kt cA (0 : Int32) kmn kpw_40 klf_40 kmk ksc_40 krc_40 kno_40 kpp kpc kme_40 kwe_40 kbo_40 kre_40 kdr ktb) := by
          have h := c_X5_put l D kO km kw kb kr kd kt cA (0 : Int32) kmn kpw klf kmk ksc krc kno kpp kpc kme kwe kbo kre kdr ktb (6 : Int32) p1 (0 : Int32) hs hrr hp (fun h => absurd h (by decide))
          rw [hq_40] at h
          exact h
        refine k_wrVi (As := [.int (6 : Int32), .int p1, .int (0 : Int32)]) (rest := []) (ci := 5) (q0 := 0) (ws' := (wK kO km kw kb kr kd kt cA (0 : Int32) kmn kpw_40 klf_40 kmk ksc_40 krc_40 kno_40 kpp kpc kme_40 kwe_40 kbo_40 kre_40 kdr ktb)) (wr := []) ⟨hx, hb, hml, hown, hts⟩ k_self hM_40 kv_X5_116 hP hD hS hA hK rfl rfl [0, 1, 2, 3, 4, 5, 6] [] [0, 1, 2, 3, 4, 5, 6] rfl (by decide) rfl (by decide) (by decide) rfl (by decide) rfl rfl ⟨Nat.le_of_ble_eq_true rfl, Nat.le_of_ble_eq_true rfl⟩ rfl hl.1 rfl (Nat.le_of_ble_eq_true rfl) dX5_inspect_40 ⟨Nat.zero_le _, Nat.zero_le _⟩ (fun H locs hP hD hS => ?_)
        refine lv_if_eq (tgt := 50) hx hb dX5_inspect_43 (by decide) (fun c_43 => ?_) (fun c_43 => ?_)
        · refine lv_bipush (v := -7) hx hb dX5_inspect_50 (by decide) ?_
          have hE : spX5_inspect kth kpw klf kmk ksc krc kno kme kwe kbo kre p1 = ((-7 : Int32), (0 : Int32), kpw_40, klf_40, ksc_40, krc_40, kno_40, kme_40, kwe_40, kbo_40, kre_40) := by unfold spX5_inspect; rw [if_neg c_9, if_neg c_19, if_pos c_30]; rw [hq_40]; dsimp only; rw [if_pos c_43]
          exact W.iret (v := (-7 : Int32)) hx hb hr (fun t ht hW => ⟨⟨(-7 : Int32), (), rfl, by rw [hE], by rw [hE, ht]; exact hP, va_K.moved hW.alike hK, by rw [hE]; exact hD⟩, hS.F ht⟩) hS.2.2 dX5_inspect_52
        · refine lv_iconst (v := 1) hx hb dX5_inspect_46 (by decide) ?_
          refine lv_goto (tgt := 52) hx hb dX5_inspect_47 (by decide) ?_
          have hE : spX5_inspect kth kpw klf kmk ksc krc kno kme kwe kbo kre p1 = ((1 : Int32), (0 : Int32), kpw_40, klf_40, ksc_40, krc_40, kno_40, kme_40, kwe_40, kbo_40, kre_40) := by unfold spX5_inspect; rw [if_neg c_9, if_neg c_19, if_pos c_30]; rw [hq_40]; dsimp only; rw [if_neg c_43]
          exact W.iret (v := (1 : Int32)) hx hb hr (fun t ht hW => ⟨⟨(1 : Int32), (), rfl, by rw [hE], by rw [hE, ht]; exact hP, va_K.moved hW.alike hK, by rw [hE]; exact hD⟩, hS.F ht⟩) hS.2.2 dX5_inspect_52
      · refine lv_iconst (v := 0) hx hb dX5_inspect_33 (by decide) ?_
        have hE : spX5_inspect kth kpw klf kmk ksc krc kno kme kwe kbo kre p1 = ((0 : Int32), (0 : Int32), kpw, klf, ksc, krc, kno, kme, kwe, kbo, kre) := by unfold spX5_inspect; rw [if_neg c_9, if_neg c_19, if_neg c_30]
        exact W.iret (v := (0 : Int32)) hx hb hr (fun t ht hW => ⟨⟨(0 : Int32), (), rfl, by rw [hE], by rw [hE, ht]; exact hP, va_K.moved hW.alike hK, by rw [hE]; exact hD⟩, hS.F ht⟩) hS.2.2 dX5_inspect_34
  · refine lv_bipush (v := -7) hx hb dX5_inspect_12 (by decide) ?_
    have hE : spX5_inspect kth kpw klf kmk ksc krc kno kme kwe kbo kre p1 = ((-7 : Int32), (0 : Int32), kpw, klf, ksc, krc, kno, kme, kwe, kbo, kre) := by unfold spX5_inspect; rw [if_pos c_9]
    exact W.iret (v := (-7 : Int32)) hx hb hr (fun t ht hW => ⟨⟨(-7 : Int32), (), rfl, by rw [hE], by rw [hE, ht]; exact hP, va_K.moved hW.alike hK, by rw [hE]; exact hD⟩, hS.F ht⟩) hS.2.2 dX5_inspect_14
def spX5_lock (kth : Int32) (kpw : Int32) (klf : Int32) (kmk : Int32) (ksc : Int32) (krc : Int32) (kno : Int32) (kme : Nat → Int32) (kwe : Nat → Int32) (kbo : Nat → Int32) (kre : Nat → Int32) : Int32 × Int32 × Int32 × Int32 × Int32 × Int32 × Int32 × (Nat → Int32) × (Nat → Int32) × (Nat → Int32) × (Nat → Int32) := (if kpw = 0 then ((-7 : Int32), (0 : Int32), kpw, klf, ksc, krc, kno, kme, kwe, kbo, kre) else (if (kbo (Int32.toNatClampNeg (13 : Int32))) = (1 : Int32) then ((0 : Int32), (0 : Int32), kpw, klf, ksc, krc, kno, kme, kwe, kbo, kre) else (match spX5_put kpw klf kmk ksc krc kno kme kwe kbo kre (7 : Int32) (0 : Int32) (0 : Int32) with | (r_33, kpw_33, klf_33, ksc_33, krc_33, kno_33, kme_33, kwe_33, kbo_33, kre_33) => (if r_33 = 0 then ((-7 : Int32), (0 : Int32), kpw_33, klf_33, ksc_33, krc_33, kno_33, kme_33, kwe_33, kbo_33, kre_33) else ((1 : Int32), (0 : Int32), kpw_33, klf_33, ksc_33, krc_33, kno_33, kme_33, kwe_33, kbo_33, kre_33)))))
set_option maxHeartbeats 4000000 in
set_option maxRecDepth 100000 in
theorem c_X5_lock (l : Launch) (D : va_G) (kO km kw kb kr kd kt : Nat) (cA : ClassId) (kth : Int32) (kmn : Int32) (kpw : Int32) (klf : Int32) (kmk : Int32) (ksc : Int32) (krc : Int32) (kno : Int32) (kpp : Int32) (kpc : Int64) (kme : Nat → Int32) (kwe : Nat → Int32) (kbo : Nat → Int32) (kre : Nat → Int32) (kdr : Nat → Int32) (ktb : Nat → Int32)  (hs : ∃ k : Nat, ksc = nI k ∧ k < 16) (hrr : ∃ r : Nat, krc = nI r ∧ r ≤ 12) (hp : kpw = 0 ∨ kpw = 1) : kWi l yX5_lock cX5_lock 1 (some .int) { frames := 5, cells := 0, slots := 0, locals := 120 } D [(cA, .int)] [.ref kO] (wK kO km kw kb kr kd kt cA kth kmn kpw klf kmk ksc krc kno kpp kpc kme kwe kbo kre kdr ktb) (spX5_lock kth kpw klf kmk ksc krc kno kme kwe kbo kre).1 (wK kO km kw kb kr kd kt cA (spX5_lock kth kpw klf kmk ksc krc kno kme kwe kbo kre).2.1 kmn (spX5_lock kth kpw klf kmk ksc krc kno kme kwe kbo kre).2.2.1 (spX5_lock kth kpw klf kmk ksc krc kno kme kwe kbo kre).2.2.2.1 kmk (spX5_lock kth kpw klf kmk ksc krc kno kme kwe kbo kre).2.2.2.2.1 (spX5_lock kth kpw klf kmk ksc krc kno kme kwe kbo kre).2.2.2.2.2.1 (spX5_lock kth kpw klf kmk ksc krc kno kme kwe kbo kre).2.2.2.2.2.2.1 kpp kpc (spX5_lock kth kpw klf kmk ksc krc kno kme kwe kbo kre).2.2.2.2.2.2.2.1 (spX5_lock kth kpw klf kmk ksc krc kno kme kwe kbo kre).2.2.2.2.2.2.2.2.1 (spX5_lock kth kpw klf kmk ksc krc kno kme kwe kbo kre).2.2.2.2.2.2.2.2.2.1 (spX5_lock kth kpw klf kmk ksc krc kno kme kwe kbo kre).2.2.2.2.2.2.2.2.2.2 kdr ktb) := by
  intro sz
  refine Met.ofW (cc := cX5_lock) (maxL := 1) (ret := (some .int)) (by decide) rfl ?_
  intro p e s m args below meth c s₁ B hml hv
  obtain ⟨rfl, hsz, hP, hK, hD0⟩ := hv
  have hx := B.exec
  have hb := B.bytes
  have hr := B.returns
  have hts : ∀ w ∈ kG, w.before _ s = true := fun w h => atoms_spec (ws := kT yX5_lock cX5_lock 1 (some .int)) B.pre w (List.mem_cons_of_mem _ h)
  have hown : s.vm.findClass RX5 = some m.cls := findClass_of_methodNamed B.named
  have hlocks := B.notSynchronized
  subst hsz
  have hD := hD0.self (sz := s.heap.size)
  generalize hAe : va_A (wK kO km kw kb kr kd kt cA kth kmn kpw klf kmk ksc krc kno kpp kpc kme kwe kbo kre kdr ktb) s.heap.size = A at hD ⊢
  have hA : ∀ q : Nat, s.heap.size ≤ q → A q := fun q h => by rw [← hAe]; exact Or.inr h
  have hS : va_S A s.heap s.heap [] := va_S.rf
  have hl := lv_entry ([.ref kO]) (n := 1) (Nat.le_of_ble_eq_true rfl)
  rw [lg_entry_eq]
  generalize (lg_sl ([.ref kO]) ++ List.replicate (1 - (lg_sl ([.ref kO])).length) Slot.unset).toArray = ls at hl ⊢
  have hl : lv_has ls 1 [(0, .ref kO)] := hl
  refine lv_aload_n hx hb dX5_lock_0 rfl (lv_at hl 0 rfl) ?_
  refine lv_iconst (v := 0) hx hb dX5_lock_1 (by decide) ?_
  refine va_put (D := D) (ci := 5) (v := .int (0 : Int32)) (ty := .int) (C := RX5) (T := TX5) (N := 16) hx hb hts k_inX5 tyX5 tyX5_ok nmX5 hown hK hP hD hS 0 rfl rfl 0 (by decide) (hts _ kw_489) (fun _ h9 => h9) rfl (by decide +kernel) rfl rfl (Nat.le_of_ble_eq_true rfl) dX5_lock_2 (fun H locs hP hD hS => ?_)
  have hP : va_P D vwCl (wK kO km kw kb kr kd kt cA (0 : Int32) kmn kpw klf kmk ksc krc kno kpp kpc kme kwe kbo kre kdr ktb) H := hP
  have hD : va_D A (wK kO km kw kb kr kd kt cA (0 : Int32) kmn kpw klf kmk ksc krc kno kpp kpc kme kwe kbo kre kdr ktb) := hD
  refine lv_aload_n hx hb dX5_lock_5 rfl (lv_at hl 0 rfl) ?_
  refine va_get (D := D) (ci := 5) (v := .int kpw) (C := RX5) (T := TX5) (N := 16) hx hb hts k_inX5 hown hK hP 0 rfl rfl 8 (by decide) (hts _ kw_497) (fun _ h9 => h9) rfl dX5_lock_6 ?_
  refine lv_if_ne (tgt := 15) hx hb dX5_lock_9 (by decide) (fun c_9 => ?_) (fun c_9 => ?_)
  · refine lv_aload_n hx hb dX5_lock_15 rfl (lv_at hl 0 rfl) ?_
    refine va_get (D := D) (ci := 5) (v := .ref kb) (C := RX5) (T := TX5) (N := 16) hx hb hts k_inX5 hown hK hP 0 rfl rfl 4 (by decide) (hts _ kw_493) (fun _ h9 => h9) rfl dX5_lock_16 ?_
    refine lv_bipush (v := 13) hx hb dX5_lock_19 (by decide) ?_
    refine va_iald hx hb hK hP 3 0 rfl rfl (vp_in_nI (n := 13) (N := 193) (by decide) (by decide)) dX5_lock_21 ?_
    refine lv_iconst (v := 1) hx hb dX5_lock_22 (by decide) ?_
    refine lv_icmp_ne (tgt := 28) hx hb dX5_lock_23 (by decide) (fun c_23 => ?_) (fun c_23 => ?_)
    · refine lv_aload_n hx hb dX5_lock_28 rfl (lv_at hl 0 rfl) ?_
      refine lv_bipush (v := 7) hx hb dX5_lock_29 (by decide) ?_
      refine lv_iconst (v := 0) hx hb dX5_lock_31 (by decide) ?_
      refine lv_iconst (v := 0) hx hb dX5_lock_32 (by decide) ?_
      rcases hq_33 : spX5_put kpw klf kmk ksc krc kno kme kwe kbo kre (7 : Int32) (0 : Int32) (0 : Int32) with ⟨r_33, kpw_33, klf_33, ksc_33, krc_33, kno_33, kme_33, kwe_33, kbo_33, kre_33⟩
      have hM_33 : kWi l yX5_put cX5_put 7 (some .boolean) { frames := 4, cells := 0, slots := 0, locals := 94 } D [(cA, .int)] [.ref kO, .int (7 : Int32), .int (0 : Int32), .int (0 : Int32)] (wK kO km kw kb kr kd kt cA (0 : Int32) kmn kpw klf kmk ksc krc kno kpp kpc kme kwe kbo kre kdr ktb) r_33 (wK kO km kw kb kr kd kt cA (0 : Int32) kmn kpw_33 klf_33 kmk ksc_33 krc_33 kno_33 kpp kpc kme_33 kwe_33 kbo_33 kre_33 kdr ktb) := by
        have h := c_X5_put l D kO km kw kb kr kd kt cA (0 : Int32) kmn kpw klf kmk ksc krc kno kpp kpc kme kwe kbo kre kdr ktb (7 : Int32) (0 : Int32) (0 : Int32) hs hrr hp (fun h => absurd h (by decide))
        rw [hq_33] at h
        exact h
      refine k_wrVi (As := [.int (7 : Int32), .int (0 : Int32), .int (0 : Int32)]) (rest := []) (ci := 5) (q0 := 0) (ws' := (wK kO km kw kb kr kd kt cA (0 : Int32) kmn kpw_33 klf_33 kmk ksc_33 krc_33 kno_33 kpp kpc kme_33 kwe_33 kbo_33 kre_33 kdr ktb)) (wr := []) ⟨hx, hb, hml, hown, hts⟩ k_self hM_33 kv_X5_116 hP hD hS hA hK rfl rfl [0, 1, 2, 3, 4, 5, 6] [] [0, 1, 2, 3, 4, 5, 6] rfl (by decide) rfl (by decide) (by decide) rfl (by decide) rfl rfl ⟨Nat.le_of_ble_eq_true rfl, Nat.le_of_ble_eq_true rfl⟩ rfl hl.1 rfl (Nat.le_of_ble_eq_true rfl) dX5_lock_33 ⟨Nat.zero_le _, Nat.zero_le _⟩ (fun H locs hP hD hS => ?_)
      refine lv_if_eq (tgt := 43) hx hb dX5_lock_36 (by decide) (fun c_36 => ?_) (fun c_36 => ?_)
      · refine lv_bipush (v := -7) hx hb dX5_lock_43 (by decide) ?_
        have hE : spX5_lock kth kpw klf kmk ksc krc kno kme kwe kbo kre = ((-7 : Int32), (0 : Int32), kpw_33, klf_33, ksc_33, krc_33, kno_33, kme_33, kwe_33, kbo_33, kre_33) := by unfold spX5_lock; rw [if_neg c_9, if_neg c_23]; rw [hq_33]; dsimp only; rw [if_pos c_36]
        exact W.iret (v := (-7 : Int32)) hx hb hr (fun t ht hW => ⟨⟨(-7 : Int32), (), rfl, by rw [hE], by rw [hE, ht]; exact hP, va_K.moved hW.alike hK, by rw [hE]; exact hD⟩, hS.F ht⟩) hS.2.2 dX5_lock_45
      · refine lv_iconst (v := 1) hx hb dX5_lock_39 (by decide) ?_
        refine lv_goto (tgt := 45) hx hb dX5_lock_40 (by decide) ?_
        have hE : spX5_lock kth kpw klf kmk ksc krc kno kme kwe kbo kre = ((1 : Int32), (0 : Int32), kpw_33, klf_33, ksc_33, krc_33, kno_33, kme_33, kwe_33, kbo_33, kre_33) := by unfold spX5_lock; rw [if_neg c_9, if_neg c_23]; rw [hq_33]; dsimp only; rw [if_neg c_36]
        exact W.iret (v := (1 : Int32)) hx hb hr (fun t ht hW => ⟨⟨(1 : Int32), (), rfl, by rw [hE], by rw [hE, ht]; exact hP, va_K.moved hW.alike hK, by rw [hE]; exact hD⟩, hS.F ht⟩) hS.2.2 dX5_lock_45
    · refine lv_iconst (v := 0) hx hb dX5_lock_26 (by decide) ?_
      have hE : spX5_lock kth kpw klf kmk ksc krc kno kme kwe kbo kre = ((0 : Int32), (0 : Int32), kpw, klf, ksc, krc, kno, kme, kwe, kbo, kre) := by unfold spX5_lock; rw [if_neg c_9, if_pos c_23]
      exact W.iret (v := (0 : Int32)) hx hb hr (fun t ht hW => ⟨⟨(0 : Int32), (), rfl, by rw [hE], by rw [hE, ht]; exact hP, va_K.moved hW.alike hK, by rw [hE]; exact hD⟩, hS.F ht⟩) hS.2.2 dX5_lock_27
  · refine lv_bipush (v := -7) hx hb dX5_lock_12 (by decide) ?_
    have hE : spX5_lock kth kpw klf kmk ksc krc kno kme kwe kbo kre = ((-7 : Int32), (0 : Int32), kpw, klf, ksc, krc, kno, kme, kwe, kbo, kre) := by unfold spX5_lock; rw [if_pos c_9]
    exact W.iret (v := (-7 : Int32)) hx hb hr (fun t ht hW => ⟨⟨(-7 : Int32), (), rfl, by rw [hE], by rw [hE, ht]; exact hP, va_K.moved hW.alike hK, by rw [hE]; exact hD⟩, hS.F ht⟩) hS.2.2 dX5_lock_14
def spX5_unlock (kth : Int32) (kmn : Int32) (kpw : Int32) (klf : Int32) (kmk : Int32) (ksc : Int32) (krc : Int32) (kno : Int32) (kme : Nat → Int32) (kwe : Nat → Int32) (kbo : Nat → Int32) (kre : Nat → Int32) (p1 : Int32) : Int32 × Int32 × Int32 × Int32 × Int32 × Int32 × Int32 × (Nat → Int32) × (Nat → Int32) × (Nat → Int32) × (Nat → Int32) := (if kpw = 0 then ((-7 : Int32), (0 : Int32), kpw, klf, ksc, krc, kno, kme, kwe, kbo, kre) else (if (kbo (Int32.toNatClampNeg (13 : Int32))) = 0 then ((0 : Int32), (0 : Int32), kpw, klf, ksc, krc, kno, kme, kwe, kbo, kre) else (if p1 = (spX5_code kmn (kbo (Int32.toNatClampNeg (12 : Int32))) (0 : Int32)) then (match spX5_put kpw klf kmk ksc krc kno kme kwe kbo kre (8 : Int32) (0 : Int32) (0 : Int32) with | (r_48, kpw_48, klf_48, ksc_48, krc_48, kno_48, kme_48, kwe_48, kbo_48, kre_48) => (if r_48 = 0 then ((-7 : Int32), (0 : Int32), kpw_48, klf_48, ksc_48, krc_48, kno_48, kme_48, kwe_48, kbo_48, kre_48) else ((1 : Int32), (0 : Int32), kpw_48, klf_48, ksc_48, krc_48, kno_48, kme_48, kwe_48, kbo_48, kre_48))) else ((0 : Int32), (0 : Int32), kpw, klf, ksc, krc, kno, kme, kwe, kbo, kre))))
set_option maxHeartbeats 4000000 in
set_option maxRecDepth 100000 in
theorem c_X5_unlock (l : Launch) (D : va_G) (kO km kw kb kr kd kt : Nat) (cA : ClassId) (kth : Int32) (kmn : Int32) (kpw : Int32) (klf : Int32) (kmk : Int32) (ksc : Int32) (krc : Int32) (kno : Int32) (kpp : Int32) (kpc : Int64) (kme : Nat → Int32) (kwe : Nat → Int32) (kbo : Nat → Int32) (kre : Nat → Int32) (kdr : Nat → Int32) (ktb : Nat → Int32) (p1 : Int32) (hs : ∃ k : Nat, ksc = nI k ∧ k < 16) (hrr : ∃ r : Nat, krc = nI r ∧ r ≤ 12) (hp : kpw = 0 ∨ kpw = 1) : kWi l yX5_unlock cX5_unlock 2 (some .int) { frames := 5, cells := 0, slots := 0, locals := 120 } D [(cA, .int)] [.ref kO, .int p1] (wK kO km kw kb kr kd kt cA kth kmn kpw klf kmk ksc krc kno kpp kpc kme kwe kbo kre kdr ktb) (spX5_unlock kth kmn kpw klf kmk ksc krc kno kme kwe kbo kre p1).1 (wK kO km kw kb kr kd kt cA (spX5_unlock kth kmn kpw klf kmk ksc krc kno kme kwe kbo kre p1).2.1 kmn (spX5_unlock kth kmn kpw klf kmk ksc krc kno kme kwe kbo kre p1).2.2.1 (spX5_unlock kth kmn kpw klf kmk ksc krc kno kme kwe kbo kre p1).2.2.2.1 kmk (spX5_unlock kth kmn kpw klf kmk ksc krc kno kme kwe kbo kre p1).2.2.2.2.1 (spX5_unlock kth kmn kpw klf kmk ksc krc kno kme kwe kbo kre p1).2.2.2.2.2.1 (spX5_unlock kth kmn kpw klf kmk ksc krc kno kme kwe kbo kre p1).2.2.2.2.2.2.1 kpp kpc (spX5_unlock kth kmn kpw klf kmk ksc krc kno kme kwe kbo kre p1).2.2.2.2.2.2.2.1 (spX5_unlock kth kmn kpw klf kmk ksc krc kno kme kwe kbo kre p1).2.2.2.2.2.2.2.2.1 (spX5_unlock kth kmn kpw klf kmk ksc krc kno kme kwe kbo kre p1).2.2.2.2.2.2.2.2.2.1 (spX5_unlock kth kmn kpw klf kmk ksc krc kno kme kwe kbo kre p1).2.2.2.2.2.2.2.2.2.2 kdr ktb) := by
  intro sz
  refine Met.ofW (cc := cX5_unlock) (maxL := 2) (ret := (some .int)) (by decide) rfl ?_
  intro p e s m args below meth c s₁ B hml hv
  obtain ⟨rfl, hsz, hP, hK, hD0⟩ := hv
  have hx := B.exec
  have hb := B.bytes
  have hr := B.returns
  have hts : ∀ w ∈ kG, w.before _ s = true := fun w h => atoms_spec (ws := kT yX5_unlock cX5_unlock 2 (some .int)) B.pre w (List.mem_cons_of_mem _ h)
  have hown : s.vm.findClass RX5 = some m.cls := findClass_of_methodNamed B.named
  have hlocks := B.notSynchronized
  subst hsz
  have hD := hD0.self (sz := s.heap.size)
  generalize hAe : va_A (wK kO km kw kb kr kd kt cA kth kmn kpw klf kmk ksc krc kno kpp kpc kme kwe kbo kre kdr ktb) s.heap.size = A at hD ⊢
  have hA : ∀ q : Nat, s.heap.size ≤ q → A q := fun q h => by rw [← hAe]; exact Or.inr h
  have hS : va_S A s.heap s.heap [] := va_S.rf
  have hl := lv_entry ([.ref kO, .int p1]) (n := 2) (Nat.le_of_ble_eq_true rfl)
  rw [lg_entry_eq]
  generalize (lg_sl ([.ref kO, .int p1]) ++ List.replicate (2 - (lg_sl ([.ref kO, .int p1])).length) Slot.unset).toArray = ls at hl ⊢
  have hl : lv_has ls 2 [(0, .ref kO), (1, .int p1)] := hl
  refine lv_aload_n hx hb dX5_unlock_0 rfl (lv_at hl 0 rfl) ?_
  refine lv_iconst (v := 0) hx hb dX5_unlock_1 (by decide) ?_
  refine va_put (D := D) (ci := 5) (v := .int (0 : Int32)) (ty := .int) (C := RX5) (T := TX5) (N := 16) hx hb hts k_inX5 tyX5 tyX5_ok nmX5 hown hK hP hD hS 0 rfl rfl 0 (by decide) (hts _ kw_489) (fun _ h9 => h9) rfl (by decide +kernel) rfl rfl (Nat.le_of_ble_eq_true rfl) dX5_unlock_2 (fun H locs hP hD hS => ?_)
  have hP : va_P D vwCl (wK kO km kw kb kr kd kt cA (0 : Int32) kmn kpw klf kmk ksc krc kno kpp kpc kme kwe kbo kre kdr ktb) H := hP
  have hD : va_D A (wK kO km kw kb kr kd kt cA (0 : Int32) kmn kpw klf kmk ksc krc kno kpp kpc kme kwe kbo kre kdr ktb) := hD
  refine lv_aload_n hx hb dX5_unlock_5 rfl (lv_at hl 0 rfl) ?_
  refine va_get (D := D) (ci := 5) (v := .int kpw) (C := RX5) (T := TX5) (N := 16) hx hb hts k_inX5 hown hK hP 0 rfl rfl 8 (by decide) (hts _ kw_497) (fun _ h9 => h9) rfl dX5_unlock_6 ?_
  refine lv_if_ne (tgt := 15) hx hb dX5_unlock_9 (by decide) (fun c_9 => ?_) (fun c_9 => ?_)
  · refine lv_aload_n hx hb dX5_unlock_15 rfl (lv_at hl 0 rfl) ?_
    refine va_get (D := D) (ci := 5) (v := .ref kb) (C := RX5) (T := TX5) (N := 16) hx hb hts k_inX5 hown hK hP 0 rfl rfl 4 (by decide) (hts _ kw_493) (fun _ h9 => h9) rfl dX5_unlock_16 ?_
    refine lv_bipush (v := 13) hx hb dX5_unlock_19 (by decide) ?_
    refine va_iald hx hb hK hP 3 0 rfl rfl (vp_in_nI (n := 13) (N := 193) (by decide) (by decide)) dX5_unlock_21 ?_
    refine lv_if_eq (tgt := 41) hx hb dX5_unlock_22 (by decide) (fun c_22 => ?_) (fun c_22 => ?_)
    · refine lv_iconst (v := 0) hx hb dX5_unlock_41 (by decide) ?_
      have hE : spX5_unlock kth kmn kpw klf kmk ksc krc kno kme kwe kbo kre p1 = ((0 : Int32), (0 : Int32), kpw, klf, ksc, krc, kno, kme, kwe, kbo, kre) := by unfold spX5_unlock; rw [if_neg c_9, if_pos c_22]
      exact W.iret (v := (0 : Int32)) hx hb hr (fun t ht hW => ⟨⟨(0 : Int32), (), rfl, by rw [hE], by rw [hE, ht]; exact hP, va_K.moved hW.alike hK, by rw [hE]; exact hD⟩, hS.F ht⟩) hS.2.2 dX5_unlock_42
    · refine lv_iload_n hx hb dX5_unlock_25 rfl (lv_at hl 1 rfl) ?_
      refine lv_aload_n hx hb dX5_unlock_26 rfl (lv_at hl 0 rfl) ?_
      refine lv_aload_n hx hb dX5_unlock_27 rfl (lv_at hl 0 rfl) ?_
      refine va_get (D := D) (ci := 5) (v := .ref kb) (C := RX5) (T := TX5) (N := 16) hx hb hts k_inX5 hown hK hP 0 rfl rfl 4 (by decide) (hts _ kw_493) (fun _ h9 => h9) rfl dX5_unlock_28 ?_
      refine lv_bipush (v := 12) hx hb dX5_unlock_31 (by decide) ?_
      refine va_iald hx hb hK hP 3 0 rfl rfl (vp_in_nI (n := 12) (N := 193) (by decide) (by decide)) dX5_unlock_33 ?_
      refine lv_iconst (v := 0) hx hb dX5_unlock_34 (by decide) ?_
      refine k_rdVi (As := [.int (kbo (Int32.toNatClampNeg (12 : Int32))), .int (0 : Int32)]) (rest := [.int p1]) (ci := 5) (q0 := 0) ⟨hx, hb, hml, hown, hts⟩ k_self (c_X5_code l D kO km kw kb kr kd kt cA (0 : Int32) kmn kpw klf kmk ksc krc kno kpp kpc kme kwe kbo kre kdr ktb (kbo (Int32.toNatClampNeg (12 : Int32))) (0 : Int32)) kv_X5_148 (hP.sub [0, 1, 2, 3, 4, 5, 6] rfl) (hK.sub [0] rfl) rfl rfl rfl rfl ⟨Nat.le_of_ble_eq_true rfl, Nat.le_of_ble_eq_true rfl⟩ rfl hl.1 rfl (Nat.le_of_ble_eq_true rfl) dX5_unlock_35 ⟨Nat.zero_le _, Nat.zero_le _⟩ ?_
      refine lv_icmp_eq (tgt := 43) hx hb dX5_unlock_38 (by decide) (fun c_38 => ?_) (fun c_38 => ?_)
      · refine lv_aload_n hx hb dX5_unlock_43 rfl (lv_at hl 0 rfl) ?_
        refine lv_bipush (v := 8) hx hb dX5_unlock_44 (by decide) ?_
        refine lv_iconst (v := 0) hx hb dX5_unlock_46 (by decide) ?_
        refine lv_iconst (v := 0) hx hb dX5_unlock_47 (by decide) ?_
        rcases hq_48 : spX5_put kpw klf kmk ksc krc kno kme kwe kbo kre (8 : Int32) (0 : Int32) (0 : Int32) with ⟨r_48, kpw_48, klf_48, ksc_48, krc_48, kno_48, kme_48, kwe_48, kbo_48, kre_48⟩
        have hM_48 : kWi l yX5_put cX5_put 7 (some .boolean) { frames := 4, cells := 0, slots := 0, locals := 94 } D [(cA, .int)] [.ref kO, .int (8 : Int32), .int (0 : Int32), .int (0 : Int32)] (wK kO km kw kb kr kd kt cA (0 : Int32) kmn kpw klf kmk ksc krc kno kpp kpc kme kwe kbo kre kdr ktb) r_48 (wK kO km kw kb kr kd kt cA (0 : Int32) kmn kpw_48 klf_48 kmk ksc_48 krc_48 kno_48 kpp kpc kme_48 kwe_48 kbo_48 kre_48 kdr ktb) := by
          have h := c_X5_put l D kO km kw kb kr kd kt cA (0 : Int32) kmn kpw klf kmk ksc krc kno kpp kpc kme kwe kbo kre kdr ktb (8 : Int32) (0 : Int32) (0 : Int32) hs hrr hp (fun h => absurd h (by decide))
          rw [hq_48] at h
          exact h
        refine k_wrVi (As := [.int (8 : Int32), .int (0 : Int32), .int (0 : Int32)]) (rest := []) (ci := 5) (q0 := 0) (ws' := (wK kO km kw kb kr kd kt cA (0 : Int32) kmn kpw_48 klf_48 kmk ksc_48 krc_48 kno_48 kpp kpc kme_48 kwe_48 kbo_48 kre_48 kdr ktb)) (wr := []) ⟨hx, hb, hml, hown, hts⟩ k_self hM_48 kv_X5_116 hP hD hS hA hK rfl rfl [0, 1, 2, 3, 4, 5, 6] [] [0, 1, 2, 3, 4, 5, 6] rfl (by decide) rfl (by decide) (by decide) rfl (by decide) rfl rfl ⟨Nat.le_of_ble_eq_true rfl, Nat.le_of_ble_eq_true rfl⟩ rfl hl.1 rfl (Nat.le_of_ble_eq_true rfl) dX5_unlock_48 ⟨Nat.zero_le _, Nat.zero_le _⟩ (fun H locs hP hD hS => ?_)
        refine lv_if_eq (tgt := 58) hx hb dX5_unlock_51 (by decide) (fun c_51 => ?_) (fun c_51 => ?_)
        · refine lv_bipush (v := -7) hx hb dX5_unlock_58 (by decide) ?_
          have hE : spX5_unlock kth kmn kpw klf kmk ksc krc kno kme kwe kbo kre p1 = ((-7 : Int32), (0 : Int32), kpw_48, klf_48, ksc_48, krc_48, kno_48, kme_48, kwe_48, kbo_48, kre_48) := by unfold spX5_unlock; rw [if_neg c_9, if_neg c_22, if_pos c_38]; rw [hq_48]; dsimp only; rw [if_pos c_51]
          exact W.iret (v := (-7 : Int32)) hx hb hr (fun t ht hW => ⟨⟨(-7 : Int32), (), rfl, by rw [hE], by rw [hE, ht]; exact hP, va_K.moved hW.alike hK, by rw [hE]; exact hD⟩, hS.F ht⟩) hS.2.2 dX5_unlock_60
        · refine lv_iconst (v := 1) hx hb dX5_unlock_54 (by decide) ?_
          refine lv_goto (tgt := 60) hx hb dX5_unlock_55 (by decide) ?_
          have hE : spX5_unlock kth kmn kpw klf kmk ksc krc kno kme kwe kbo kre p1 = ((1 : Int32), (0 : Int32), kpw_48, klf_48, ksc_48, krc_48, kno_48, kme_48, kwe_48, kbo_48, kre_48) := by unfold spX5_unlock; rw [if_neg c_9, if_neg c_22, if_pos c_38]; rw [hq_48]; dsimp only; rw [if_neg c_51]
          exact W.iret (v := (1 : Int32)) hx hb hr (fun t ht hW => ⟨⟨(1 : Int32), (), rfl, by rw [hE], by rw [hE, ht]; exact hP, va_K.moved hW.alike hK, by rw [hE]; exact hD⟩, hS.F ht⟩) hS.2.2 dX5_unlock_60
      · refine lv_iconst (v := 0) hx hb dX5_unlock_41 (by decide) ?_
        have hE : spX5_unlock kth kmn kpw klf kmk ksc krc kno kme kwe kbo kre p1 = ((0 : Int32), (0 : Int32), kpw, klf, ksc, krc, kno, kme, kwe, kbo, kre) := by unfold spX5_unlock; rw [if_neg c_9, if_neg c_22, if_neg c_38]
        exact W.iret (v := (0 : Int32)) hx hb hr (fun t ht hW => ⟨⟨(0 : Int32), (), rfl, by rw [hE], by rw [hE, ht]; exact hP, va_K.moved hW.alike hK, by rw [hE]; exact hD⟩, hS.F ht⟩) hS.2.2 dX5_unlock_42
  · refine lv_bipush (v := -7) hx hb dX5_unlock_12 (by decide) ?_
    have hE : spX5_unlock kth kmn kpw klf kmk ksc krc kno kme kwe kbo kre p1 = ((-7 : Int32), (0 : Int32), kpw, klf, ksc, krc, kno, kme, kwe, kbo, kre) := by unfold spX5_unlock; rw [if_pos c_9]
    exact W.iret (v := (-7 : Int32)) hx hb hr (fun t ht hW => ⟨⟨(-7 : Int32), (), rfl, by rw [hE], by rw [hE, ht]; exact hP, va_K.moved hW.alike hK, by rw [hE]; exact hD⟩, hS.F ht⟩) hS.2.2 dX5_unlock_14
def spX5_settle (kth : Int32) (kpw : Int32) (klf : Int32) (kmk : Int32) (ksc : Int32) (krc : Int32) (kno : Int32) (kme : Nat → Int32) (kwe : Nat → Int32) (kbo : Nat → Int32) (kre : Nat → Int32) (p1 : Int32) : Int32 × Int32 × Int32 × Int32 × Int32 × Int32 × Int32 × (Nat → Int32) × (Nat → Int32) × (Nat → Int32) × (Nat → Int32) := (if kpw = 0 then ((-7 : Int32), (0 : Int32), kpw, klf, ksc, krc, kno, kme, kwe, kbo, kre) else (if (kbo (Int32.toNatClampNeg (16 : Int32))) = 0 then ((0 : Int32), (0 : Int32), kpw, klf, ksc, krc, kno, kme, kwe, kbo, kre) else (if p1 = 0 then (match spX5_put kpw klf kmk ksc krc kno kme kwe kbo kre (3 : Int32) (0 : Int32) (0 : Int32) with | (r_39, kpw_39, klf_39, ksc_39, krc_39, kno_39, kme_39, kwe_39, kbo_39, kre_39) => (if r_39 = 0 then ((-7 : Int32), (0 : Int32), kpw_39, klf_39, ksc_39, krc_39, kno_39, kme_39, kwe_39, kbo_39, kre_39) else ((1 : Int32), (0 : Int32), kpw_39, klf_39, ksc_39, krc_39, kno_39, kme_39, kwe_39, kbo_39, kre_39))) else (match spX5_put kpw klf kmk ksc krc kno kme kwe kbo kre (3 : Int32) (1 : Int32) (0 : Int32) with | (r_39, kpw_39, klf_39, ksc_39, krc_39, kno_39, kme_39, kwe_39, kbo_39, kre_39) => (if r_39 = 0 then ((-7 : Int32), (0 : Int32), kpw_39, klf_39, ksc_39, krc_39, kno_39, kme_39, kwe_39, kbo_39, kre_39) else ((1 : Int32), (0 : Int32), kpw_39, klf_39, ksc_39, krc_39, kno_39, kme_39, kwe_39, kbo_39, kre_39))))))
set_option maxHeartbeats 4000000 in
set_option maxRecDepth 100000 in
theorem c_X5_settle (l : Launch) (D : va_G) (kO km kw kb kr kd kt : Nat) (cA : ClassId) (kth : Int32) (kmn : Int32) (kpw : Int32) (klf : Int32) (kmk : Int32) (ksc : Int32) (krc : Int32) (kno : Int32) (kpp : Int32) (kpc : Int64) (kme : Nat → Int32) (kwe : Nat → Int32) (kbo : Nat → Int32) (kre : Nat → Int32) (kdr : Nat → Int32) (ktb : Nat → Int32) (p1 : Int32) (hs : ∃ k : Nat, ksc = nI k ∧ k < 16) (hrr : ∃ r : Nat, krc = nI r ∧ r ≤ 12) (hp : kpw = 0 ∨ kpw = 1) : kWi l yX5_settle cX5_settle 2 (some .int) { frames := 5, cells := 0, slots := 0, locals := 120 } D [(cA, .int)] [.ref kO, .int p1] (wK kO km kw kb kr kd kt cA kth kmn kpw klf kmk ksc krc kno kpp kpc kme kwe kbo kre kdr ktb) (spX5_settle kth kpw klf kmk ksc krc kno kme kwe kbo kre p1).1 (wK kO km kw kb kr kd kt cA (spX5_settle kth kpw klf kmk ksc krc kno kme kwe kbo kre p1).2.1 kmn (spX5_settle kth kpw klf kmk ksc krc kno kme kwe kbo kre p1).2.2.1 (spX5_settle kth kpw klf kmk ksc krc kno kme kwe kbo kre p1).2.2.2.1 kmk (spX5_settle kth kpw klf kmk ksc krc kno kme kwe kbo kre p1).2.2.2.2.1 (spX5_settle kth kpw klf kmk ksc krc kno kme kwe kbo kre p1).2.2.2.2.2.1 (spX5_settle kth kpw klf kmk ksc krc kno kme kwe kbo kre p1).2.2.2.2.2.2.1 kpp kpc (spX5_settle kth kpw klf kmk ksc krc kno kme kwe kbo kre p1).2.2.2.2.2.2.2.1 (spX5_settle kth kpw klf kmk ksc krc kno kme kwe kbo kre p1).2.2.2.2.2.2.2.2.1 (spX5_settle kth kpw klf kmk ksc krc kno kme kwe kbo kre p1).2.2.2.2.2.2.2.2.2.1 (spX5_settle kth kpw klf kmk ksc krc kno kme kwe kbo kre p1).2.2.2.2.2.2.2.2.2.2 kdr ktb) := by
  intro sz
  refine Met.ofW (cc := cX5_settle) (maxL := 2) (ret := (some .int)) (by decide) rfl ?_
  intro p e s m args below meth c s₁ B hml hv
  obtain ⟨rfl, hsz, hP, hK, hD0⟩ := hv
  have hx := B.exec
  have hb := B.bytes
  have hr := B.returns
  have hts : ∀ w ∈ kG, w.before _ s = true := fun w h => atoms_spec (ws := kT yX5_settle cX5_settle 2 (some .int)) B.pre w (List.mem_cons_of_mem _ h)
  have hown : s.vm.findClass RX5 = some m.cls := findClass_of_methodNamed B.named
  have hlocks := B.notSynchronized
  subst hsz
  have hD := hD0.self (sz := s.heap.size)
  generalize hAe : va_A (wK kO km kw kb kr kd kt cA kth kmn kpw klf kmk ksc krc kno kpp kpc kme kwe kbo kre kdr ktb) s.heap.size = A at hD ⊢
  have hA : ∀ q : Nat, s.heap.size ≤ q → A q := fun q h => by rw [← hAe]; exact Or.inr h
  have hS : va_S A s.heap s.heap [] := va_S.rf
  have hl := lv_entry ([.ref kO, .int p1]) (n := 2) (Nat.le_of_ble_eq_true rfl)
  rw [lg_entry_eq]
  generalize (lg_sl ([.ref kO, .int p1]) ++ List.replicate (2 - (lg_sl ([.ref kO, .int p1])).length) Slot.unset).toArray = ls at hl ⊢
  have hl : lv_has ls 2 [(0, .ref kO), (1, .int p1)] := hl
  refine lv_aload_n hx hb dX5_settle_0 rfl (lv_at hl 0 rfl) ?_
  refine lv_iconst (v := 0) hx hb dX5_settle_1 (by decide) ?_
  refine va_put (D := D) (ci := 5) (v := .int (0 : Int32)) (ty := .int) (C := RX5) (T := TX5) (N := 16) hx hb hts k_inX5 tyX5 tyX5_ok nmX5 hown hK hP hD hS 0 rfl rfl 0 (by decide) (hts _ kw_489) (fun _ h9 => h9) rfl (by decide +kernel) rfl rfl (Nat.le_of_ble_eq_true rfl) dX5_settle_2 (fun H locs hP hD hS => ?_)
  have hP : va_P D vwCl (wK kO km kw kb kr kd kt cA (0 : Int32) kmn kpw klf kmk ksc krc kno kpp kpc kme kwe kbo kre kdr ktb) H := hP
  have hD : va_D A (wK kO km kw kb kr kd kt cA (0 : Int32) kmn kpw klf kmk ksc krc kno kpp kpc kme kwe kbo kre kdr ktb) := hD
  refine lv_aload_n hx hb dX5_settle_5 rfl (lv_at hl 0 rfl) ?_
  refine va_get (D := D) (ci := 5) (v := .int kpw) (C := RX5) (T := TX5) (N := 16) hx hb hts k_inX5 hown hK hP 0 rfl rfl 8 (by decide) (hts _ kw_497) (fun _ h9 => h9) rfl dX5_settle_6 ?_
  refine lv_if_ne (tgt := 15) hx hb dX5_settle_9 (by decide) (fun c_9 => ?_) (fun c_9 => ?_)
  · refine lv_aload_n hx hb dX5_settle_15 rfl (lv_at hl 0 rfl) ?_
    refine va_get (D := D) (ci := 5) (v := .ref kb) (C := RX5) (T := TX5) (N := 16) hx hb hts k_inX5 hown hK hP 0 rfl rfl 4 (by decide) (hts _ kw_493) (fun _ h9 => h9) rfl dX5_settle_16 ?_
    refine lv_bipush (v := 16) hx hb dX5_settle_19 (by decide) ?_
    refine va_iald hx hb hK hP 3 0 rfl rfl (vp_in_nI (n := 16) (N := 193) (by decide) (by decide)) dX5_settle_21 ?_
    refine lv_if_ne (tgt := 27) hx hb dX5_settle_22 (by decide) (fun c_22 => ?_) (fun c_22 => ?_)
    · refine lv_aload_n hx hb dX5_settle_27 rfl (lv_at hl 0 rfl) ?_
      refine lv_iconst (v := 3) hx hb dX5_settle_28 (by decide) ?_
      refine lv_iload_n hx hb dX5_settle_29 rfl (lv_at hl 1 rfl) ?_
      refine lv_if_eq (tgt := 37) hx hb dX5_settle_30 (by decide) (fun c_30 => ?_) (fun c_30 => ?_)
      · refine lv_iconst (v := 0) hx hb dX5_settle_37 (by decide) ?_
        refine lv_iconst (v := 0) hx hb dX5_settle_38 (by decide) ?_
        rcases hq_39 : spX5_put kpw klf kmk ksc krc kno kme kwe kbo kre (3 : Int32) (0 : Int32) (0 : Int32) with ⟨r_39, kpw_39, klf_39, ksc_39, krc_39, kno_39, kme_39, kwe_39, kbo_39, kre_39⟩
        have hM_39 : kWi l yX5_put cX5_put 7 (some .boolean) { frames := 4, cells := 0, slots := 0, locals := 94 } D [(cA, .int)] [.ref kO, .int (3 : Int32), .int (0 : Int32), .int (0 : Int32)] (wK kO km kw kb kr kd kt cA (0 : Int32) kmn kpw klf kmk ksc krc kno kpp kpc kme kwe kbo kre kdr ktb) r_39 (wK kO km kw kb kr kd kt cA (0 : Int32) kmn kpw_39 klf_39 kmk ksc_39 krc_39 kno_39 kpp kpc kme_39 kwe_39 kbo_39 kre_39 kdr ktb) := by
          have h := c_X5_put l D kO km kw kb kr kd kt cA (0 : Int32) kmn kpw klf kmk ksc krc kno kpp kpc kme kwe kbo kre kdr ktb (3 : Int32) (0 : Int32) (0 : Int32) hs hrr hp (fun h => absurd h (by decide))
          rw [hq_39] at h
          exact h
        refine k_wrVi (As := [.int (3 : Int32), .int (0 : Int32), .int (0 : Int32)]) (rest := []) (ci := 5) (q0 := 0) (ws' := (wK kO km kw kb kr kd kt cA (0 : Int32) kmn kpw_39 klf_39 kmk ksc_39 krc_39 kno_39 kpp kpc kme_39 kwe_39 kbo_39 kre_39 kdr ktb)) (wr := []) ⟨hx, hb, hml, hown, hts⟩ k_self hM_39 kv_X5_116 hP hD hS hA hK rfl rfl [0, 1, 2, 3, 4, 5, 6] [] [0, 1, 2, 3, 4, 5, 6] rfl (by decide) rfl (by decide) (by decide) rfl (by decide) rfl rfl ⟨Nat.le_of_ble_eq_true rfl, Nat.le_of_ble_eq_true rfl⟩ rfl hl.1 rfl (Nat.le_of_ble_eq_true rfl) dX5_settle_39 ⟨Nat.zero_le _, Nat.zero_le _⟩ (fun H locs hP hD hS => ?_)
        refine lv_if_eq (tgt := 49) hx hb dX5_settle_42 (by decide) (fun c_42 => ?_) (fun c_42 => ?_)
        · refine lv_bipush (v := -7) hx hb dX5_settle_49 (by decide) ?_
          have hE : spX5_settle kth kpw klf kmk ksc krc kno kme kwe kbo kre p1 = ((-7 : Int32), (0 : Int32), kpw_39, klf_39, ksc_39, krc_39, kno_39, kme_39, kwe_39, kbo_39, kre_39) := by unfold spX5_settle; rw [if_neg c_9, if_neg c_22, if_pos c_30]; rw [hq_39]; dsimp only; rw [if_pos c_42]
          exact W.iret (v := (-7 : Int32)) hx hb hr (fun t ht hW => ⟨⟨(-7 : Int32), (), rfl, by rw [hE], by rw [hE, ht]; exact hP, va_K.moved hW.alike hK, by rw [hE]; exact hD⟩, hS.F ht⟩) hS.2.2 dX5_settle_51
        · refine lv_iconst (v := 1) hx hb dX5_settle_45 (by decide) ?_
          refine lv_goto (tgt := 51) hx hb dX5_settle_46 (by decide) ?_
          have hE : spX5_settle kth kpw klf kmk ksc krc kno kme kwe kbo kre p1 = ((1 : Int32), (0 : Int32), kpw_39, klf_39, ksc_39, krc_39, kno_39, kme_39, kwe_39, kbo_39, kre_39) := by unfold spX5_settle; rw [if_neg c_9, if_neg c_22, if_pos c_30]; rw [hq_39]; dsimp only; rw [if_neg c_42]
          exact W.iret (v := (1 : Int32)) hx hb hr (fun t ht hW => ⟨⟨(1 : Int32), (), rfl, by rw [hE], by rw [hE, ht]; exact hP, va_K.moved hW.alike hK, by rw [hE]; exact hD⟩, hS.F ht⟩) hS.2.2 dX5_settle_51
      · refine lv_iconst (v := 1) hx hb dX5_settle_33 (by decide) ?_
        refine lv_goto (tgt := 38) hx hb dX5_settle_34 (by decide) ?_
        refine lv_iconst (v := 0) hx hb dX5_settle_38 (by decide) ?_
        rcases hq_39 : spX5_put kpw klf kmk ksc krc kno kme kwe kbo kre (3 : Int32) (1 : Int32) (0 : Int32) with ⟨r_39, kpw_39, klf_39, ksc_39, krc_39, kno_39, kme_39, kwe_39, kbo_39, kre_39⟩
        have hM_39 : kWi l yX5_put cX5_put 7 (some .boolean) { frames := 4, cells := 0, slots := 0, locals := 94 } D [(cA, .int)] [.ref kO, .int (3 : Int32), .int (1 : Int32), .int (0 : Int32)] (wK kO km kw kb kr kd kt cA (0 : Int32) kmn kpw klf kmk ksc krc kno kpp kpc kme kwe kbo kre kdr ktb) r_39 (wK kO km kw kb kr kd kt cA (0 : Int32) kmn kpw_39 klf_39 kmk ksc_39 krc_39 kno_39 kpp kpc kme_39 kwe_39 kbo_39 kre_39 kdr ktb) := by
          have h := c_X5_put l D kO km kw kb kr kd kt cA (0 : Int32) kmn kpw klf kmk ksc krc kno kpp kpc kme kwe kbo kre kdr ktb (3 : Int32) (1 : Int32) (0 : Int32) hs hrr hp (fun h => absurd h (by decide))
          rw [hq_39] at h
          exact h
        refine k_wrVi (As := [.int (3 : Int32), .int (1 : Int32), .int (0 : Int32)]) (rest := []) (ci := 5) (q0 := 0) (ws' := (wK kO km kw kb kr kd kt cA (0 : Int32) kmn kpw_39 klf_39 kmk ksc_39 krc_39 kno_39 kpp kpc kme_39 kwe_39 kbo_39 kre_39 kdr ktb)) (wr := []) ⟨hx, hb, hml, hown, hts⟩ k_self hM_39 kv_X5_116 hP hD hS hA hK rfl rfl [0, 1, 2, 3, 4, 5, 6] [] [0, 1, 2, 3, 4, 5, 6] rfl (by decide) rfl (by decide) (by decide) rfl (by decide) rfl rfl ⟨Nat.le_of_ble_eq_true rfl, Nat.le_of_ble_eq_true rfl⟩ rfl hl.1 rfl (Nat.le_of_ble_eq_true rfl) dX5_settle_39 ⟨Nat.zero_le _, Nat.zero_le _⟩ (fun H locs hP hD hS => ?_)
        refine lv_if_eq (tgt := 49) hx hb dX5_settle_42 (by decide) (fun c_42 => ?_) (fun c_42 => ?_)
        · refine lv_bipush (v := -7) hx hb dX5_settle_49 (by decide) ?_
          have hE : spX5_settle kth kpw klf kmk ksc krc kno kme kwe kbo kre p1 = ((-7 : Int32), (0 : Int32), kpw_39, klf_39, ksc_39, krc_39, kno_39, kme_39, kwe_39, kbo_39, kre_39) := by unfold spX5_settle; rw [if_neg c_9, if_neg c_22, if_neg c_30]; rw [hq_39]; dsimp only; rw [if_pos c_42]
          exact W.iret (v := (-7 : Int32)) hx hb hr (fun t ht hW => ⟨⟨(-7 : Int32), (), rfl, by rw [hE], by rw [hE, ht]; exact hP, va_K.moved hW.alike hK, by rw [hE]; exact hD⟩, hS.F ht⟩) hS.2.2 dX5_settle_51
        · refine lv_iconst (v := 1) hx hb dX5_settle_45 (by decide) ?_
          refine lv_goto (tgt := 51) hx hb dX5_settle_46 (by decide) ?_
          have hE : spX5_settle kth kpw klf kmk ksc krc kno kme kwe kbo kre p1 = ((1 : Int32), (0 : Int32), kpw_39, klf_39, ksc_39, krc_39, kno_39, kme_39, kwe_39, kbo_39, kre_39) := by unfold spX5_settle; rw [if_neg c_9, if_neg c_22, if_neg c_30]; rw [hq_39]; dsimp only; rw [if_neg c_42]
          exact W.iret (v := (1 : Int32)) hx hb hr (fun t ht hW => ⟨⟨(1 : Int32), (), rfl, by rw [hE], by rw [hE, ht]; exact hP, va_K.moved hW.alike hK, by rw [hE]; exact hD⟩, hS.F ht⟩) hS.2.2 dX5_settle_51
    · refine lv_iconst (v := 0) hx hb dX5_settle_25 (by decide) ?_
      have hE : spX5_settle kth kpw klf kmk ksc krc kno kme kwe kbo kre p1 = ((0 : Int32), (0 : Int32), kpw, klf, ksc, krc, kno, kme, kwe, kbo, kre) := by unfold spX5_settle; rw [if_neg c_9, if_pos c_22]
      exact W.iret (v := (0 : Int32)) hx hb hr (fun t ht hW => ⟨⟨(0 : Int32), (), rfl, by rw [hE], by rw [hE, ht]; exact hP, va_K.moved hW.alike hK, by rw [hE]; exact hD⟩, hS.F ht⟩) hS.2.2 dX5_settle_26
  · refine lv_bipush (v := -7) hx hb dX5_settle_12 (by decide) ?_
    have hE : spX5_settle kth kpw klf kmk ksc krc kno kme kwe kbo kre p1 = ((-7 : Int32), (0 : Int32), kpw, klf, ksc, krc, kno, kme, kwe, kbo, kre) := by unfold spX5_settle; rw [if_pos c_9]
    exact W.iret (v := (-7 : Int32)) hx hb hr (fun t ht hW => ⟨⟨(-7 : Int32), (), rfl, by rw [hE], by rw [hE, ht]; exact hP, va_K.moved hW.alike hK, by rw [hE]; exact hD⟩, hS.F ht⟩) hS.2.2 dX5_settle_14
