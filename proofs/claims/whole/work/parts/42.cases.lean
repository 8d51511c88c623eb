set_option maxHeartbeats 4000000 in
set_option maxRecDepth 100000 in
theorem law_rate (Rel : RelT) (hpre : Sim_pre Rel) (hsim : Sim_rate Rel) {p : Program} {l : Launch} {e : Env} {s : State} {m : MethodId} {below : List Frame} {meth : Method} {c : Code} {D : va_G} {cA : ClassId} {b L : Nat} {xs : Nat → Int32} (C0 : lw_At p s m meth c b L xs) {aD aT ad af aJ aM aw ae aB ab kO km kw kb kr kd kt n : Nat} {σ : SX} {τ : SK} {H : Heap} {locs : List Loc} {ls : Array Slot} {x3 : Int32} {i : Nat} (hx3 : x3 = nI i) (hi : i + 4 < L) (hLL : L ≤ 2561) (hR : Rel (n + 1) σ τ) (hK : va_K D vwCl [(cA, .int)] s) (hP : va_P D vwCl (wX aD aT ad af aJ aM aw ae aB ab cA σ ++ wY kO km kw kb kr kd kt cA τ) H) (hD : va_D (fun q : Nat => s.heap.size ≤ q) (wX aD aT ad af aJ aM aw ae aB ab cA σ ++ wY kO km kw kb kr kd kt cA τ)) (hS : va_S (fun q : Nat => s.heap.size ≤ q) s.heap H locs) (hl : lv_has ls 4 [(0, .ref b), (1, .ref aD), (2, .ref kO), (3, .int x3)])
    (kk : ∀ (σ' : SX) (τ' : SK) (H : Heap) (locs : List Loc), Rel n σ' τ' → va_P D vwCl (wX aD aT ad af aJ aM aw ae aB ab cA σ' ++ wY kO km kw kb kr kd kt cA τ') H → va_D (fun q : Nat => s.heap.size ≤ q) (wX aD aT ad af aJ aM aw ae aB ab cA σ' ++ wY kO km kw kb kr kd kt cA τ') → va_S (fun q : Nat => s.heap.size ≤ q) s.heap H locs → W p l e room_1 s m #[Value.ref b] below meth c H locs 17 9931 (lw_Z below #[Value.ref b] s) (F0 m 743 ls [])) : W p l e room_1 s m #[Value.ref b] below meth c H locs 17 9931 (lw_Z below #[Value.ref b] s) (F0 m 140 ls []) := by
  obtain ⟨hx, hb, hr, hml, hown0, hts0, hX, hbl, hlocks, hgv⟩ := C0
  have hown : s.vm.findClass RL = some m.cls := hown0
  have hts : ∀ w ∈ kG, w.before #[Value.ref b] s = true := fun w h => hts0 w (k_lw w h)
  have hA : ∀ q : Nat, s.heap.size ≤ q → (fun q : Nat => s.heap.size ≤ q) q := fun _ h => h
  have hbA : ¬ (fun q : Nat => s.heap.size ≤ q) b := Nat.not_le.mpr hbl
  obtain ⟨hp1, hp2, hp3⟩ := hpre _ _ _ hR
  have hi1 : vp_in (x3 + (1 : Int32)) L := by rw [hx3, show (1 : Int32) = nI 1 from rfl, nI_add]; exact vp_in_nI (by omega) (by omega)
  have hi2 : vp_in (x3 + (2 : Int32)) L := by rw [hx3, show (2 : Int32) = nI 2 from rfl, nI_add]; exact vp_in_nI (by omega) (by omega)
  have hi3 : vp_in (x3 + (3 : Int32)) L := by rw [hx3, show (3 : Int32) = nI 3 from rfl, nI_add]; exact vp_in_nI (by omega) (by omega)
  have hi4 : vp_in (x3 + (4 : Int32)) L := by rw [hx3, show (4 : Int32) = nI 4 from rfl, nI_add]; exact vp_in_nI (by omega) (by omega)
  refine lv_aload_n hx hb dL_law_140 rfl (lv_at hl 1 rfl) ?_
  refine lv_aload_n hx hb dL_law_141 rfl (lv_at hl 0 rfl) ?_
  refine lv_iload_n hx hb dL_law_142 rfl (lv_at hl 3 rfl) ?_
  refine lv_iconst (v := 1) hx hb dL_law_143 (by decide) ?_
  refine lv_iadd hx hb dL_law_144 ?_
  refine va_sld hx hb hX hbl hbA hS hi1 dL_law_145 ?_
  refine lv_aload_n hx hb dL_law_146 rfl (lv_at hl 0 rfl) ?_
  refine lv_iload_n hx hb dL_law_147 rfl (lv_at hl 3 rfl) ?_
  refine lv_iconst (v := 2) hx hb dL_law_148 (by decide) ?_
  refine lv_iadd hx hb dL_law_149 ?_
  refine va_sld hx hb hX hbl hbA hS hi2 dL_law_150 ?_
  refine lv_aload_n hx hb dL_law_151 rfl (lv_at hl 0 rfl) ?_
  refine lv_iload_n hx hb dL_law_152 rfl (lv_at hl 3 rfl) ?_
  refine lv_iconst (v := 3) hx hb dL_law_153 (by decide) ?_
  refine lv_iadd hx hb dL_law_154 ?_
  refine va_sld hx hb hX hbl hbA hS hi3 dL_law_155 ?_
  refine lv_aload_n hx hb dL_law_156 rfl (lv_at hl 0 rfl) ?_
  refine lv_iload_n hx hb dL_law_157 rfl (lv_at hl 3 rfl) ?_
  refine lv_iconst (v := 4) hx hb dL_law_158 (by decide) ?_
  refine lv_iadd hx hb dL_law_159 ?_
  refine va_sld hx hb hX hbl hbA hS hi4 dL_law_160 ?_
  refine k_wrVi (As := [.int (xs (Int32.toNatClampNeg (x3 + (1 : Int32)))), .int (xs (Int32.toNatClampNeg (x3 + (2 : Int32)))), .int (xs (Int32.toNatClampNeg (x3 + (3 : Int32)))), .int (xs (Int32.toNatClampNeg (x3 + (4 : Int32))))]) (rest := []) (ci := 4) (q0 := 0) (ws' := (wX aD aT ad af aJ aM aw ae aB ab cA (nx_rate σ ((xs (Int32.toNatClampNeg (x3 + (1 : Int32))))) ((xs (Int32.toNatClampNeg (x3 + (2 : Int32))))) ((xs (Int32.toNatClampNeg (x3 + (3 : Int32))))) ((xs (Int32.toNatClampNeg (x3 + (4 : Int32)))))).2 ++ wY kO km kw kb kr kd kt cA τ)) (wr := (wY kO km kw kb kr kd kt cA τ)) ⟨hx, hb, hml, hown, hts⟩ k_self (e_n_rate l D aD aT ad af aJ aM aw ae aB ab cA σ ((xs (Int32.toNatClampNeg (x3 + (1 : Int32))))) ((xs (Int32.toNatClampNeg (x3 + (2 : Int32))))) ((xs (Int32.toNatClampNeg (x3 + (3 : Int32))))) ((xs (Int32.toNatClampNeg (x3 + (4 : Int32)))))) kv_L_21 hP hD hS hA hK rfl rfl [0, 1, 2, 3, 4, 5, 6, 7, 8, 9] [10, 11, 12, 13, 14, 15, 16] [7, 8, 9, 10, 11, 12, 13, 14, 15, 16, 0, 1, 2, 3, 4, 5, 6] rfl (by decide) rfl (by decide) (by decide) rfl (by decide) rfl rfl ⟨Nat.le_of_ble_eq_true rfl, Nat.le_of_ble_eq_true rfl⟩ rfl hl.1 rfl (Nat.le_of_ble_eq_true rfl) dL_law_161 ⟨Nat.le_of_ble_eq_true rfl, Nat.le_of_ble_eq_true rfl⟩ (fun H locs hP hD hS => ?_)
  refine lv_aload_n hx hb dL_law_164 rfl (lv_at hl 2 rfl) ?_
  refine lv_aload_n hx hb dL_law_165 rfl (lv_at hl 0 rfl) ?_
  refine lv_iload_n hx hb dL_law_166 rfl (lv_at hl 3 rfl) ?_
  refine lv_iconst (v := 1) hx hb dL_law_167 (by decide) ?_
  refine lv_iadd hx hb dL_law_168 ?_
  refine va_sld hx hb hX hbl hbA hS hi1 dL_law_169 ?_
  refine lv_aload_n hx hb dL_law_170 rfl (lv_at hl 0 rfl) ?_
  refine lv_iload_n hx hb dL_law_171 rfl (lv_at hl 3 rfl) ?_
  refine lv_iconst (v := 2) hx hb dL_law_172 (by decide) ?_
  refine lv_iadd hx hb dL_law_173 ?_
  refine va_sld hx hb hX hbl hbA hS hi2 dL_law_174 ?_
  refine lv_aload_n hx hb dL_law_175 rfl (lv_at hl 0 rfl) ?_
  refine lv_iload_n hx hb dL_law_176 rfl (lv_at hl 3 rfl) ?_
  refine lv_iconst (v := 3) hx hb dL_law_177 (by decide) ?_
  refine lv_iadd hx hb dL_law_178 ?_
  refine va_sld hx hb hX hbl hbA hS hi3 dL_law_179 ?_
  refine lv_aload_n hx hb dL_law_180 rfl (lv_at hl 0 rfl) ?_
  refine lv_iload_n hx hb dL_law_181 rfl (lv_at hl 3 rfl) ?_
  refine lv_iconst (v := 4) hx hb dL_law_182 (by decide) ?_
  refine lv_iadd hx hb dL_law_183 ?_
  refine va_sld hx hb hX hbl hbA hS hi4 dL_law_184 ?_
  refine k_wrVi (As := [.int (xs (Int32.toNatClampNeg (x3 + (1 : Int32)))), .int (xs (Int32.toNatClampNeg (x3 + (2 : Int32)))), .int (xs (Int32.toNatClampNeg (x3 + (3 : Int32)))), .int (xs (Int32.toNatClampNeg (x3 + (4 : Int32))))]) (rest := [.int (nx_rate σ ((xs (Int32.toNatClampNeg (x3 + (1 : Int32))))) ((xs (Int32.toNatClampNeg (x3 + (2 : Int32))))) ((xs (Int32.toNatClampNeg (x3 + (3 : Int32))))) ((xs (Int32.toNatClampNeg (x3 + (4 : Int32)))))).1]) (ci := 5) (q0 := 0) (ws' := (wX aD aT ad af aJ aM aw ae aB ab cA (nx_rate σ ((xs (Int32.toNatClampNeg (x3 + (1 : Int32))))) ((xs (Int32.toNatClampNeg (x3 + (2 : Int32))))) ((xs (Int32.toNatClampNeg (x3 + (3 : Int32))))) ((xs (Int32.toNatClampNeg (x3 + (4 : Int32)))))).2 ++ wY kO km kw kb kr kd kt cA (mx_rate τ ((xs (Int32.toNatClampNeg (x3 + (1 : Int32))))) ((xs (Int32.toNatClampNeg (x3 + (2 : Int32))))) ((xs (Int32.toNatClampNeg (x3 + (3 : Int32))))) ((xs (Int32.toNatClampNeg (x3 + (4 : Int32)))))).2)) (wr := (wX aD aT ad af aJ aM aw ae aB ab cA (nx_rate σ ((xs (Int32.toNatClampNeg (x3 + (1 : Int32))))) ((xs (Int32.toNatClampNeg (x3 + (2 : Int32))))) ((xs (Int32.toNatClampNeg (x3 + (3 : Int32))))) ((xs (Int32.toNatClampNeg (x3 + (4 : Int32)))))).2)) ⟨hx, hb, hml, hown, hts⟩ k_self (e_m_rate l D kO km kw kb kr kd kt cA τ ((xs (Int32.toNatClampNeg (x3 + (1 : Int32))))) ((xs (Int32.toNatClampNeg (x3 + (2 : Int32))))) ((xs (Int32.toNatClampNeg (x3 + (3 : Int32))))) ((xs (Int32.toNatClampNeg (x3 + (4 : Int32)))))) kv_L_25 hP hD hS hA hK rfl rfl [10, 11, 12, 13, 14, 15, 16] [0, 1, 2, 3, 4, 5, 6, 7, 8, 9] [0, 1, 2, 3, 4, 5, 6, 7, 8, 9, 10, 11, 12, 13, 14, 15, 16] rfl (by decide) rfl (by decide) (by decide) rfl (by decide) rfl rfl ⟨Nat.le_of_ble_eq_true rfl, Nat.le_of_ble_eq_true rfl⟩ rfl hl.1 rfl (Nat.le_of_ble_eq_true rfl) dL_law_185 ⟨Nat.le_of_ble_eq_true rfl, Nat.le_of_ble_eq_true rfl⟩ (fun H locs hP hD hS => ?_)
  refine lv_icmp_eq (tgt := 743) hx hb dL_law_188 (by decide) (fun c_1 => ?_) (fun c_1 => ?_)
  · have hq := hsim n σ τ ((xs (Int32.toNatClampNeg (x3 + (1 : Int32))))) ((xs (Int32.toNatClampNeg (x3 + (2 : Int32))))) ((xs (Int32.toNatClampNeg (x3 + (3 : Int32))))) ((xs (Int32.toNatClampNeg (x3 + (4 : Int32))))) hR
    exact kk _ _ H locs hq.2 hP hD hS
  · have hq := hsim n σ τ ((xs (Int32.toNatClampNeg (x3 + (1 : Int32))))) ((xs (Int32.toNatClampNeg (x3 + (2 : Int32))))) ((xs (Int32.toNatClampNeg (x3 + (3 : Int32))))) ((xs (Int32.toNatClampNeg (x3 + (4 : Int32))))) hR
    exact absurd hq.1 c_1
set_option maxHeartbeats 4000000 in
set_option maxRecDepth 100000 in
theorem law_loadTable (Rel : RelT) (hpre : Sim_pre Rel) (hsim : Sim_loadTable Rel) {p : Program} {l : Launch} {e : Env} {s : State} {m : MethodId} {below : List Frame} {meth : Method} {c : Code} {D : va_G} {cA : ClassId} {b L : Nat} {xs : Nat → Int32} (C0 : lw_At p s m meth c b L xs) {aD aT ad af aJ aM aw ae aB ab kO km kw kb kr kd kt n : Nat} {σ : SX} {τ : SK} {H : Heap} {locs : List Loc} {ls : Array Slot} {x3 : Int32} {i : Nat} (hx3 : x3 = nI i) (hi : i + 4 < L) (hLL : L ≤ 2561) (hR : Rel (n + 1) σ τ) (hK : va_K D vwCl [(cA, .int)] s) (hP : va_P D vwCl (wX aD aT ad af aJ aM aw ae aB ab cA σ ++ wY kO km kw kb kr kd kt cA τ) H) (hD : va_D (fun q : Nat => s.heap.size ≤ q) (wX aD aT ad af aJ aM aw ae aB ab cA σ ++ wY kO km kw kb kr kd kt cA τ)) (hS : va_S (fun q : Nat => s.heap.size ≤ q) s.heap H locs) (hl : lv_has ls 4 [(0, .ref b), (1, .ref aD), (2, .ref kO), (3, .int x3)])
    (kk : ∀ (σ' : SX) (τ' : SK) (H : Heap) (locs : List Loc), Rel n σ' τ' → va_P D vwCl (wX aD aT ad af aJ aM aw ae aB ab cA σ' ++ wY kO km kw kb kr kd kt cA τ') H → va_D (fun q : Nat => s.heap.size ≤ q) (wX aD aT ad af aJ aM aw ae aB ab cA σ' ++ wY kO km kw kb kr kd kt cA τ') → va_S (fun q : Nat => s.heap.size ≤ q) s.heap H locs → W p l e room_1 s m #[Value.ref b] below meth c H locs 17 9931 (lw_Z below #[Value.ref b] s) (F0 m 743 ls [])) : W p l e room_1 s m #[Value.ref b] below meth c H locs 17 9931 (lw_Z below #[Value.ref b] s) (F0 m 193 ls []) := by
  obtain ⟨hx, hb, hr, hml, hown0, hts0, hX, hbl, hlocks, hgv⟩ := C0
  have hown : s.vm.findClass RL = some m.cls := hown0
  have hts : ∀ w ∈ kG, w.before #[Value.ref b] s = true := fun w h => hts0 w (k_lw w h)
  have hA : ∀ q : Nat, s.heap.size ≤ q → (fun q : Nat => s.heap.size ≤ q) q := fun _ h => h
  have hbA : ¬ (fun q : Nat => s.heap.size ≤ q) b := Nat.not_le.mpr hbl
  obtain ⟨hp1, hp2, hp3⟩ := hpre _ _ _ hR
  have hi1 : vp_in (x3 + (1 : Int32)) L := by rw [hx3, show (1 : Int32) = nI 1 from rfl, nI_add]; exact vp_in_nI (by omega) (by omega)
  have hi2 : vp_in (x3 + (2 : Int32)) L := by rw [hx3, show (2 : Int32) = nI 2 from rfl, nI_add]; exact vp_in_nI (by omega) (by omega)
  have hi3 : vp_in (x3 + (3 : Int32)) L := by rw [hx3, show (3 : Int32) = nI 3 from rfl, nI_add]; exact vp_in_nI (by omega) (by omega)
  have hi4 : vp_in (x3 + (4 : Int32)) L := by rw [hx3, show (4 : Int32) = nI 4 from rfl, nI_add]; exact vp_in_nI (by omega) (by omega)
  refine lv_aload_n hx hb dL_law_193 rfl (lv_at hl 1 rfl) ?_
  refine lv_aload_n hx hb dL_law_194 rfl (lv_at hl 0 rfl) ?_
  refine lv_iload_n hx hb dL_law_195 rfl (lv_at hl 3 rfl) ?_
  refine lv_iconst (v := 1) hx hb dL_law_196 (by decide) ?_
  refine lv_iadd hx hb dL_law_197 ?_
  refine va_sld hx hb hX hbl hbA hS hi1 dL_law_198 ?_
  refine k_wrVi (As := [.int (xs (Int32.toNatClampNeg (x3 + (1 : Int32))))]) (rest := []) (ci := 4) (q0 := 0) (ws' := (wX aD aT ad af aJ aM aw ae aB ab cA (nx_loadTable σ ((xs (Int32.toNatClampNeg (x3 + (1 : Int32)))))).2 ++ wY kO km kw kb kr kd kt cA τ)) (wr := (wY kO km kw kb kr kd kt cA τ)) ⟨hx, hb, hml, hown, hts⟩ k_self (e_n_loadTable l D aD aT ad af aJ aM aw ae aB ab cA σ ((xs (Int32.toNatClampNeg (x3 + (1 : Int32))))) hp1) kv_L_26 hP hD hS hA hK rfl rfl [0, 1, 2, 3, 4, 5, 6, 7, 8, 9] [10, 11, 12, 13, 14, 15, 16] [7, 8, 9, 10, 11, 12, 13, 14, 15, 16, 0, 1, 2, 3, 4, 5, 6] rfl (by decide) rfl (by decide) (by decide) rfl (by decide) rfl rfl ⟨Nat.le_of_ble_eq_true rfl, Nat.le_of_ble_eq_true rfl⟩ rfl hl.1 rfl (Nat.le_of_ble_eq_true rfl) dL_law_199 ⟨Nat.le_of_ble_eq_true rfl, Nat.le_of_ble_eq_true rfl⟩ (fun H locs hP hD hS => ?_)
  refine lv_aload_n hx hb dL_law_202 rfl (lv_at hl 2 rfl) ?_
  refine lv_aload_n hx hb dL_law_203 rfl (lv_at hl 0 rfl) ?_
  refine lv_iload_n hx hb dL_law_204 rfl (lv_at hl 3 rfl) ?_
  refine lv_iconst (v := 1) hx hb dL_law_205 (by decide) ?_
  refine lv_iadd hx hb dL_law_206 ?_
  refine va_sld hx hb hX hbl hbA hS hi1 dL_law_207 ?_
  refine k_wrVi (As := [.int (xs (Int32.toNatClampNeg (x3 + (1 : Int32))))]) (rest := [.int (nx_loadTable σ ((xs (Int32.toNatClampNeg (x3 + (1 : Int32)))))).1]) (ci := 5) (q0 := 0) (ws' := (wX aD aT ad af aJ aM aw ae aB ab cA (nx_loadTable σ ((xs (Int32.toNatClampNeg (x3 + (1 : Int32)))))).2 ++ wY kO km kw kb kr kd kt cA (mx_loadTable τ ((xs (Int32.toNatClampNeg (x3 + (1 : Int32)))))).2)) (wr := (wX aD aT ad af aJ aM aw ae aB ab cA (nx_loadTable σ ((xs (Int32.toNatClampNeg (x3 + (1 : Int32)))))).2)) ⟨hx, hb, hml, hown, hts⟩ k_self (e_m_loadTable l D kO km kw kb kr kd kt cA τ ((xs (Int32.toNatClampNeg (x3 + (1 : Int32))))) hp2) kv_L_30 hP hD hS hA hK rfl rfl [10, 11, 12, 13, 14, 15, 16] [0, 1, 2, 3, 4, 5, 6, 7, 8, 9] [0, 1, 2, 3, 4, 5, 6, 7, 8, 9, 10, 11, 12, 13, 14, 15, 16] rfl (by decide) rfl (by decide) (by decide) rfl (by decide) rfl rfl ⟨Nat.le_of_ble_eq_true rfl, Nat.le_of_ble_eq_true rfl⟩ rfl hl.1 rfl (Nat.le_of_ble_eq_true rfl) dL_law_208 ⟨Nat.le_of_ble_eq_true rfl, Nat.le_of_ble_eq_true rfl⟩ (fun H locs hP hD hS => ?_)
  refine lv_icmp_eq (tgt := 743) hx hb dL_law_211 (by decide) (fun c_1 => ?_) (fun c_1 => ?_)
  · have hq := hsim n σ τ ((xs (Int32.toNatClampNeg (x3 + (1 : Int32))))) hR
    exact kk _ _ H locs hq.2 hP hD hS
  · have hq := hsim n σ τ ((xs (Int32.toNatClampNeg (x3 + (1 : Int32))))) hR
    exact absurd hq.1 c_1
set_option maxHeartbeats 4000000 in
set_option maxRecDepth 100000 in
theorem law_weigh (Rel : RelT) (hpre : Sim_pre Rel) (hsim : Sim_weigh Rel) {p : Program} {l : Launch} {e : Env} {s : State} {m : MethodId} {below : List Frame} {meth : Method} {c : Code} {D : va_G} {cA : ClassId} {b L : Nat} {xs : Nat → Int32} (C0 : lw_At p s m meth c b L xs) {aD aT ad af aJ aM aw ae aB ab kO km kw kb kr kd kt n : Nat} {σ : SX} {τ : SK} {H : Heap} {locs : List Loc} {ls : Array Slot} {x3 : Int32} {i : Nat} (hx3 : x3 = nI i) (hi : i + 4 < L) (hLL : L ≤ 2561) (hR : Rel (n + 1) σ τ) (hK : va_K D vwCl [(cA, .int)] s) (hP : va_P D vwCl (wX aD aT ad af aJ aM aw ae aB ab cA σ ++ wY kO km kw kb kr kd kt cA τ) H) (hD : va_D (fun q : Nat => s.heap.size ≤ q) (wX aD aT ad af aJ aM aw ae aB ab cA σ ++ wY kO km kw kb kr kd kt cA τ)) (hS : va_S (fun q : Nat => s.heap.size ≤ q) s.heap H locs) (hl : lv_has ls 4 [(0, .ref b), (1, .ref aD), (2, .ref kO), (3, .int x3)])
    (kk : ∀ (σ' : SX) (τ' : SK) (H : Heap) (locs : List Loc), Rel n σ' τ' → va_P D vwCl (wX aD aT ad af aJ aM aw ae aB ab cA σ' ++ wY kO km kw kb kr kd kt cA τ') H → va_D (fun q : Nat => s.heap.size ≤ q) (wX aD aT ad af aJ aM aw ae aB ab cA σ' ++ wY kO km kw kb kr kd kt cA τ') → va_S (fun q : Nat => s.heap.size ≤ q) s.heap H locs → W p l e room_1 s m #[Value.ref b] below meth c H locs 17 9931 (lw_Z below #[Value.ref b] s) (F0 m 743 ls [])) : W p l e room_1 s m #[Value.ref b] below meth c H locs 17 9931 (lw_Z below #[Value.ref b] s) (F0 m 216 ls []) := by
  obtain ⟨hx, hb, hr, hml, hown0, hts0, hX, hbl, hlocks, hgv⟩ := C0
  have hown : s.vm.findClass RL = some m.cls := hown0
  have hts : ∀ w ∈ kG, w.before #[Value.ref b] s = true := fun w h => hts0 w (k_lw w h)
  have hA : ∀ q : Nat, s.heap.size ≤ q → (fun q : Nat => s.heap.size ≤ q) q := fun _ h => h
  have hbA : ¬ (fun q : Nat => s.heap.size ≤ q) b := Nat.not_le.mpr hbl
  obtain ⟨hp1, hp2, hp3⟩ := hpre _ _ _ hR
  have hi1 : vp_in (x3 + (1 : Int32)) L := by rw [hx3, show (1 : Int32) = nI 1 from rfl, nI_add]; exact vp_in_nI (by omega) (by omega)
  have hi2 : vp_in (x3 + (2 : Int32)) L := by rw [hx3, show (2 : Int32) = nI 2 from rfl, nI_add]; exact vp_in_nI (by omega) (by omega)
  have hi3 : vp_in (x3 + (3 : Int32)) L := by rw [hx3, show (3 : Int32) = nI 3 from rfl, nI_add]; exact vp_in_nI (by omega) (by omega)
  have hi4 : vp_in (x3 + (4 : Int32)) L := by rw [hx3, show (4 : Int32) = nI 4 from rfl, nI_add]; exact vp_in_nI (by omega) (by omega)
  refine lv_aload_n hx hb dL_law_216 rfl (lv_at hl 1 rfl) ?_
  refine lv_aload_n hx hb dL_law_217 rfl (lv_at hl 0 rfl) ?_
  refine lv_iload_n hx hb dL_law_218 rfl (lv_at hl 3 rfl) ?_
  refine lv_iconst (v := 1) hx hb dL_law_219 (by decide) ?_
  refine lv_iadd hx hb dL_law_220 ?_
  refine va_sld hx hb hX hbl hbA hS hi1 dL_law_221 ?_
  refine lv_aload_n hx hb dL_law_222 rfl (lv_at hl 0 rfl) ?_
  refine lv_iload_n hx hb dL_law_223 rfl (lv_at hl 3 rfl) ?_
  refine lv_iconst (v := 2) hx hb dL_law_224 (by decide) ?_
  refine lv_iadd hx hb dL_law_225 ?_
  refine va_sld hx hb hX hbl hbA hS hi2 dL_law_226 ?_
  refine lv_aload_n hx hb dL_law_227 rfl (lv_at hl 0 rfl) ?_
  refine lv_iload_n hx hb dL_law_228 rfl (lv_at hl 3 rfl) ?_
  refine lv_iconst (v := 3) hx hb dL_law_229 (by decide) ?_
  refine lv_iadd hx hb dL_law_230 ?_
  refine va_sld hx hb hX hbl hbA hS hi3 dL_law_231 ?_
  refine k_rdVi (As := [.int (xs (Int32.toNatClampNeg (x3 + (1 : Int32)))), .int (xs (Int32.toNatClampNeg (x3 + (2 : Int32)))), .int (xs (Int32.toNatClampNeg (x3 + (3 : Int32))))]) (rest := []) (ci := 4) (q0 := 0) ⟨hx, hb, hml, hown, hts⟩ k_self (e_n_weigh l D aD aT ad af aJ aM aw ae aB ab cA σ ((xs (Int32.toNatClampNeg (x3 + (1 : Int32))))) ((xs (Int32.toNatClampNeg (x3 + (2 : Int32))))) ((xs (Int32.toNatClampNeg (x3 + (3 : Int32)))))) kv_L_31 (hP.sub [0, 1, 2, 3, 4, 5, 6, 7, 8, 9] rfl) (hK.sub [0] rfl) rfl rfl rfl rfl ⟨Nat.le_of_ble_eq_true rfl, Nat.le_of_ble_eq_true rfl⟩ rfl hl.1 rfl (Nat.le_of_ble_eq_true rfl) dL_law_232 ⟨Nat.le_of_ble_eq_true rfl, Nat.le_of_ble_eq_true rfl⟩ ?_
  refine lv_aload_n hx hb dL_law_235 rfl (lv_at hl 2 rfl) ?_
  refine lv_aload_n hx hb dL_law_236 rfl (lv_at hl 0 rfl) ?_
  refine lv_iload_n hx hb dL_law_237 rfl (lv_at hl 3 rfl) ?_
  refine lv_iconst (v := 1) hx hb dL_law_238 (by decide) ?_
  refine lv_iadd hx hb dL_law_239 ?_
  refine va_sld hx hb hX hbl hbA hS hi1 dL_law_240 ?_
  refine lv_aload_n hx hb dL_law_241 rfl (lv_at hl 0 rfl) ?_
  refine lv_iload_n hx hb dL_law_242 rfl (lv_at hl 3 rfl) ?_
  refine lv_iconst (v := 2) hx hb dL_law_243 (by decide) ?_
  refine lv_iadd hx hb dL_law_244 ?_
  refine va_sld hx hb hX hbl hbA hS hi2 dL_law_245 ?_
  refine lv_aload_n hx hb dL_law_246 rfl (lv_at hl 0 rfl) ?_
  refine lv_iload_n hx hb dL_law_247 rfl (lv_at hl 3 rfl) ?_
  refine lv_iconst (v := 3) hx hb dL_law_248 (by decide) ?_
  refine lv_iadd hx hb dL_law_249 ?_
  refine va_sld hx hb hX hbl hbA hS hi3 dL_law_250 ?_
  refine k_wrVi (As := [.int (xs (Int32.toNatClampNeg (x3 + (1 : Int32)))), .int (xs (Int32.toNatClampNeg (x3 + (2 : Int32)))), .int (xs (Int32.toNatClampNeg (x3 + (3 : Int32))))]) (rest := [.int (nx_weigh σ ((xs (Int32.toNatClampNeg (x3 + (1 : Int32))))) ((xs (Int32.toNatClampNeg (x3 + (2 : Int32))))) ((xs (Int32.toNatClampNeg (x3 + (3 : Int32)))))).1]) (ci := 5) (q0 := 0) (ws' := (wX aD aT ad af aJ aM aw ae aB ab cA σ ++ wY kO km kw kb kr kd kt cA (mx_weigh τ ((xs (Int32.toNatClampNeg (x3 + (1 : Int32))))) ((xs (Int32.toNatClampNeg (x3 + (2 : Int32))))) ((xs (Int32.toNatClampNeg (x3 + (3 : Int32)))))).2)) (wr := (wX aD aT ad af aJ aM aw ae aB ab cA σ)) ⟨hx, hb, hml, hown, hts⟩ k_self (e_m_weigh l D kO km kw kb kr kd kt cA τ ((xs (Int32.toNatClampNeg (x3 + (1 : Int32))))) ((xs (Int32.toNatClampNeg (x3 + (2 : Int32))))) ((xs (Int32.toNatClampNeg (x3 + (3 : Int32)))))) kv_L_35 hP hD hS hA hK rfl rfl [10, 11, 12, 13, 14, 15, 16] [0, 1, 2, 3, 4, 5, 6, 7, 8, 9] [0, 1, 2, 3, 4, 5, 6, 7, 8, 9, 10, 11, 12, 13, 14, 15, 16] rfl (by decide) rfl (by decide) (by decide) rfl (by decide) rfl rfl ⟨Nat.le_of_ble_eq_true rfl, Nat.le_of_ble_eq_true rfl⟩ rfl hl.1 rfl (Nat.le_of_ble_eq_true rfl) dL_law_251 ⟨Nat.le_of_ble_eq_true rfl, Nat.le_of_ble_eq_true rfl⟩ (fun H locs hP hD hS => ?_)
  refine lv_icmp_eq (tgt := 743) hx hb dL_law_254 (by decide) (fun c_1 => ?_) (fun c_1 => ?_)
  · have hq := hsim n σ τ ((xs (Int32.toNatClampNeg (x3 + (1 : Int32))))) ((xs (Int32.toNatClampNeg (x3 + (2 : Int32))))) ((xs (Int32.toNatClampNeg (x3 + (3 : Int32))))) hR
    exact kk _ _ H locs hq.2 hP hD hS
  · have hq := hsim n σ τ ((xs (Int32.toNatClampNeg (x3 + (1 : Int32))))) ((xs (Int32.toNatClampNeg (x3 + (2 : Int32))))) ((xs (Int32.toNatClampNeg (x3 + (3 : Int32))))) hR
    exact absurd hq.1 c_1
set_option maxHeartbeats 4000000 in
set_option maxRecDepth 100000 in
theorem law_frank (Rel : RelT) (hpre : Sim_pre Rel) (hsim : Sim_frank Rel) {p : Program} {l : Launch} {e : Env} {s : State} {m : MethodId} {below : List Frame} {meth : Method} {c : Code} {D : va_G} {cA : ClassId} {b L : Nat} {xs : Nat → Int32} (C0 : lw_At p s m meth c b L xs) {aD aT ad af aJ aM aw ae aB ab kO km kw kb kr kd kt n : Nat} {σ : SX} {τ : SK} {H : Heap} {locs : List Loc} {ls : Array Slot} {x3 : Int32} {i : Nat} (hx3 : x3 = nI i) (hi : i + 4 < L) (hLL : L ≤ 2561) (hR : Rel (n + 1) σ τ) (hK : va_K D vwCl [(cA, .int)] s) (hP : va_P D vwCl (wX aD aT ad af aJ aM aw ae aB ab cA σ ++ wY kO km kw kb kr kd kt cA τ) H) (hD : va_D (fun q : Nat => s.heap.size ≤ q) (wX aD aT ad af aJ aM aw ae aB ab cA σ ++ wY kO km kw kb kr kd kt cA τ)) (hS : va_S (fun q : Nat => s.heap.size ≤ q) s.heap H locs) (hl : lv_has ls 4 [(0, .ref b), (1, .ref aD), (2, .ref kO), (3, .int x3)])
    (kk : ∀ (σ' : SX) (τ' : SK) (H : Heap) (locs : List Loc), Rel n σ' τ' → va_P D vwCl (wX aD aT ad af aJ aM aw ae aB ab cA σ' ++ wY kO km kw kb kr kd kt cA τ') H → va_D (fun q : Nat => s.heap.size ≤ q) (wX aD aT ad af aJ aM aw ae aB ab cA σ' ++ wY kO km kw kb kr kd kt cA τ') → va_S (fun q : Nat => s.heap.size ≤ q) s.heap H locs → W p l e room_1 s m #[Value.ref b] below meth c H locs 17 9931 (lw_Z below #[Value.ref b] s) (F0 m 743 ls [])) : W p l e room_1 s m #[Value.ref b] below meth c H locs 17 9931 (lw_Z below #[Value.ref b] s) (F0 m 259 ls []) := by
  obtain ⟨hx, hb, hr, hml, hown0, hts0, hX, hbl, hlocks, hgv⟩ := C0
  have hown : s.vm.findClass RL = some m.cls := hown0
  have hts : ∀ w ∈ kG, w.before #[Value.ref b] s = true := fun w h => hts0 w (k_lw w h)
  have hA : ∀ q : Nat, s.heap.size ≤ q → (fun q : Nat => s.heap.size ≤ q) q := fun _ h => h
  have hbA : ¬ (fun q : Nat => s.heap.size ≤ q) b := Nat.not_le.mpr hbl
  obtain ⟨hp1, hp2, hp3⟩ := hpre _ _ _ hR
  have hi1 : vp_in (x3 + (1 : Int32)) L := by rw [hx3, show (1 : Int32) = nI 1 from rfl, nI_add]; exact vp_in_nI (by omega) (by omega)
  have hi2 : vp_in (x3 + (2 : Int32)) L := by rw [hx3, show (2 : Int32) = nI 2 from rfl, nI_add]; exact vp_in_nI (by omega) (by omega)
  have hi3 : vp_in (x3 + (3 : Int32)) L := by rw [hx3, show (3 : Int32) = nI 3 from rfl, nI_add]; exact vp_in_nI (by omega) (by omega)
  have hi4 : vp_in (x3 + (4 : Int32)) L := by rw [hx3, show (4 : Int32) = nI 4 from rfl, nI_add]; exact vp_in_nI (by omega) (by omega)
  refine lv_aload_n hx hb dL_law_259 rfl (lv_at hl 1 rfl) ?_
  refine lv_aload_n hx hb dL_law_260 rfl (lv_at hl 0 rfl) ?_
  refine lv_iload_n hx hb dL_law_261 rfl (lv_at hl 3 rfl) ?_
  refine lv_iconst (v := 1) hx hb dL_law_262 (by decide) ?_
  refine lv_iadd hx hb dL_law_263 ?_
  refine va_sld hx hb hX hbl hbA hS hi1 dL_law_264 ?_
  refine lv_aload_n hx hb dL_law_265 rfl (lv_at hl 0 rfl) ?_
  refine lv_iload_n hx hb dL_law_266 rfl (lv_at hl 3 rfl) ?_
  refine lv_iconst (v := 2) hx hb dL_law_267 (by decide) ?_
  refine lv_iadd hx hb dL_law_268 ?_
  refine va_sld hx hb hX hbl hbA hS hi2 dL_law_269 ?_
  refine lv_aload_n hx hb dL_law_270 rfl (lv_at hl 0 rfl) ?_
  refine lv_iload_n hx hb dL_law_271 rfl (lv_at hl 3 rfl) ?_
  refine lv_iconst (v := 3) hx hb dL_law_272 (by decide) ?_
  refine lv_iadd hx hb dL_law_273 ?_
  refine va_sld hx hb hX hbl hbA hS hi3 dL_law_274 ?_
  refine k_wrVi (As := [.int (xs (Int32.toNatClampNeg (x3 + (1 : Int32)))), .int (xs (Int32.toNatClampNeg (x3 + (2 : Int32)))), .int (xs (Int32.toNatClampNeg (x3 + (3 : Int32))))]) (rest := []) (ci := 4) (q0 := 0) (ws' := (wX aD aT ad af aJ aM aw ae aB ab cA (nx_frank σ ((xs (Int32.toNatClampNeg (x3 + (1 : Int32))))) ((xs (Int32.toNatClampNeg (x3 + (2 : Int32))))) ((xs (Int32.toNatClampNeg (x3 + (3 : Int32)))))).2 ++ wY kO km kw kb kr kd kt cA τ)) (wr := (wY kO km kw kb kr kd kt cA τ)) ⟨hx, hb, hml, hown, hts⟩ k_self (e_n_frank l D aD aT ad af aJ aM aw ae aB ab cA σ ((xs (Int32.toNatClampNeg (x3 + (1 : Int32))))) ((xs (Int32.toNatClampNeg (x3 + (2 : Int32))))) ((xs (Int32.toNatClampNeg (x3 + (3 : Int32))))) hp1) kv_L_36 hP hD hS hA hK rfl rfl [0, 1, 2, 3, 4, 5, 6, 7, 8, 9] [10, 11, 12, 13, 14, 15, 16] [7, 8, 9, 10, 11, 12, 13, 14, 15, 16, 0, 1, 2, 3, 4, 5, 6] rfl (by decide) rfl (by decide) (by decide) rfl (by decide) rfl rfl ⟨Nat.le_of_ble_eq_true rfl, Nat.le_of_ble_eq_true rfl⟩ rfl hl.1 rfl (Nat.le_of_ble_eq_true rfl) dL_law_275 ⟨Nat.le_of_ble_eq_true rfl, Nat.le_of_ble_eq_true rfl⟩ (fun H locs hP hD hS => ?_)
  refine lv_aload_n hx hb dL_law_278 rfl (lv_at hl 2 rfl) ?_
  refine lv_aload_n hx hb dL_law_279 rfl (lv_at hl 0 rfl) ?_
  refine lv_iload_n hx hb dL_law_280 rfl (lv_at hl 3 rfl) ?_
  refine lv_iconst (v := 1) hx hb dL_law_281 (by decide) ?_
  refine lv_iadd hx hb dL_law_282 ?_
  refine va_sld hx hb hX hbl hbA hS hi1 dL_law_283 ?_
  refine lv_aload_n hx hb dL_law_284 rfl (lv_at hl 0 rfl) ?_
  refine lv_iload_n hx hb dL_law_285 rfl (lv_at hl 3 rfl) ?_
  refine lv_iconst (v := 2) hx hb dL_law_286 (by decide) ?_
  refine lv_iadd hx hb dL_law_287 ?_
  refine va_sld hx hb hX hbl hbA hS hi2 dL_law_288 ?_
  refine lv_aload_n hx hb dL_law_289 rfl (lv_at hl 0 rfl) ?_
  refine lv_iload_n hx hb dL_law_290 rfl (lv_at hl 3 rfl) ?_
  refine lv_iconst (v := 3) hx hb dL_law_291 (by decide) ?_
  refine lv_iadd hx hb dL_law_292 ?_
  refine va_sld hx hb hX hbl hbA hS hi3 dL_law_293 ?_
  refine k_wrVi (As := [.int (xs (Int32.toNatClampNeg (x3 + (1 : Int32)))), .int (xs (Int32.toNatClampNeg (x3 + (2 : Int32)))), .int (xs (Int32.toNatClampNeg (x3 + (3 : Int32))))]) (rest := [.int (nx_frank σ ((xs (Int32.toNatClampNeg (x3 + (1 : Int32))))) ((xs (Int32.toNatClampNeg (x3 + (2 : Int32))))) ((xs (Int32.toNatClampNeg (x3 + (3 : Int32)))))).1]) (ci := 5) (q0 := 0) (ws' := (wX aD aT ad af aJ aM aw ae aB ab cA (nx_frank σ ((xs (Int32.toNatClampNeg (x3 + (1 : Int32))))) ((xs (Int32.toNatClampNeg (x3 + (2 : Int32))))) ((xs (Int32.toNatClampNeg (x3 + (3 : Int32)))))).2 ++ wY kO km kw kb kr kd kt cA (mx_frank τ ((xs (Int32.toNatClampNeg (x3 + (1 : Int32))))) ((xs (Int32.toNatClampNeg (x3 + (2 : Int32))))) ((xs (Int32.toNatClampNeg (x3 + (3 : Int32)))))).2)) (wr := (wX aD aT ad af aJ aM aw ae aB ab cA (nx_frank σ ((xs (Int32.toNatClampNeg (x3 + (1 : Int32))))) ((xs (Int32.toNatClampNeg (x3 + (2 : Int32))))) ((xs (Int32.toNatClampNeg (x3 + (3 : Int32)))))).2)) ⟨hx, hb, hml, hown, hts⟩ k_self (e_m_frank l D kO km kw kb kr kd kt cA τ ((xs (Int32.toNatClampNeg (x3 + (1 : Int32))))) ((xs (Int32.toNatClampNeg (x3 + (2 : Int32))))) ((xs (Int32.toNatClampNeg (x3 + (3 : Int32))))) hp2) kv_L_39 hP hD hS hA hK rfl rfl [10, 11, 12, 13, 14, 15, 16] [0, 1, 2, 3, 4, 5, 6, 7, 8, 9] [0, 1, 2, 3, 4, 5, 6, 7, 8, 9, 10, 11, 12, 13, 14, 15, 16] rfl (by decide) rfl (by decide) (by decide) rfl (by decide) rfl rfl ⟨Nat.le_of_ble_eq_true rfl, Nat.le_of_ble_eq_true rfl⟩ rfl hl.1 rfl (Nat.le_of_ble_eq_true rfl) dL_law_294 ⟨Nat.le_of_ble_eq_true rfl, Nat.le_of_ble_eq_true rfl⟩ (fun H locs hP hD hS => ?_)
  refine lv_icmp_eq (tgt := 743) hx hb dL_law_297 (by decide) (fun c_1 => ?_) (fun c_1 => ?_)
  · have hq := hsim n σ τ ((xs (Int32.toNatClampNeg (x3 + (1 : Int32))))) ((xs (Int32.toNatClampNeg (x3 + (2 : Int32))))) ((xs (Int32.toNatClampNeg (x3 + (3 : Int32))))) hR
    exact kk _ _ H locs hq.2 hP hD hS
  · have hq := hsim n σ τ ((xs (Int32.toNatClampNeg (x3 + (1 : Int32))))) ((xs (Int32.toNatClampNeg (x3 + (2 : Int32))))) ((xs (Int32.toNatClampNeg (x3 + (3 : Int32))))) hR
    exact absurd hq.1 c_1
set_option maxHeartbeats 4000000 in
set_option maxRecDepth 100000 in
theorem law_printed (Rel : RelT) (hpre : Sim_pre Rel) (hsim : Sim_printed Rel) {p : Program} {l : Launch} {e : Env} {s : State} {m : MethodId} {below : List Frame} {meth : Method} {c : Code} {D : va_G} {cA : ClassId} {b L : Nat} {xs : Nat → Int32} (C0 : lw_At p s m meth c b L xs) {aD aT ad af aJ aM aw ae aB ab kO km kw kb kr kd kt n : Nat} {σ : SX} {τ : SK} {H : Heap} {locs : List Loc} {ls : Array Slot} {x3 : Int32} {i : Nat} (hx3 : x3 = nI i) (hi : i + 4 < L) (hLL : L ≤ 2561) (hR : Rel (n + 1) σ τ) (hK : va_K D vwCl [(cA, .int)] s) (hP : va_P D vwCl (wX aD aT ad af aJ aM aw ae aB ab cA σ ++ wY kO km kw kb kr kd kt cA τ) H) (hD : va_D (fun q : Nat => s.heap.size ≤ q) (wX aD aT ad af aJ aM aw ae aB ab cA σ ++ wY kO km kw kb kr kd kt cA τ)) (hS : va_S (fun q : Nat => s.heap.size ≤ q) s.heap H locs) (hl : lv_has ls 4 [(0, .ref b), (1, .ref aD), (2, .ref kO), (3, .int x3)])
    (kk : ∀ (σ' : SX) (τ' : SK) (H : Heap) (locs : List Loc), Rel n σ' τ' → va_P D vwCl (wX aD aT ad af aJ aM aw ae aB ab cA σ' ++ wY kO km kw kb kr kd kt cA τ') H → va_D (fun q : Nat => s.heap.size ≤ q) (wX aD aT ad af aJ aM aw ae aB ab cA σ' ++ wY kO km kw kb kr kd kt cA τ') → va_S (fun q : Nat => s.heap.size ≤ q) s.heap H locs → W p l e room_1 s m #[Value.ref b] below meth c H locs 17 9931 (lw_Z below #[Value.ref b] s) (F0 m 743 ls [])) : W p l e room_1 s m #[Value.ref b] below meth c H locs 17 9931 (lw_Z below #[Value.ref b] s) (F0 m 302 ls []) := by
  obtain ⟨hx, hb, hr, hml, hown0, hts0, hX, hbl, hlocks, hgv⟩ := C0
  have hown : s.vm.findClass RL = some m.cls := hown0
  have hts : ∀ w ∈ kG, w.before #[Value.ref b] s = true := fun w h => hts0 w (k_lw w h)
  have hA : ∀ q : Nat, s.heap.size ≤ q → (fun q : Nat => s.heap.size ≤ q) q := fun _ h => h
  have hbA : ¬ (fun q : Nat => s.heap.size ≤ q) b := Nat.not_le.mpr hbl
  obtain ⟨hp1, hp2, hp3⟩ := hpre _ _ _ hR
  have hi1 : vp_in (x3 + (1 : Int32)) L := by rw [hx3, show (1 : Int32) = nI 1 from rfl, nI_add]; exact vp_in_nI (by omega) (by omega)
  have hi2 : vp_in (x3 + (2 : Int32)) L := by rw [hx3, show (2 : Int32) = nI 2 from rfl, nI_add]; exact vp_in_nI (by omega) (by omega)
  have hi3 : vp_in (x3 + (3 : Int32)) L := by rw [hx3, show (3 : Int32) = nI 3 from rfl, nI_add]; exact vp_in_nI (by omega) (by omega)
  have hi4 : vp_in (x3 + (4 : Int32)) L := by rw [hx3, show (4 : Int32) = nI 4 from rfl, nI_add]; exact vp_in_nI (by omega) (by omega)
  refine lv_aload_n hx hb dL_law_302 rfl (lv_at hl 1 rfl) ?_
  refine lv_aload_n hx hb dL_law_303 rfl (lv_at hl 0 rfl) ?_
  refine lv_iload_n hx hb dL_law_304 rfl (lv_at hl 3 rfl) ?_
  refine lv_iconst (v := 1) hx hb dL_law_305 (by decide) ?_
  refine lv_iadd hx hb dL_law_306 ?_
  refine va_sld hx hb hX hbl hbA hS hi1 dL_law_307 ?_
  refine k_rdVl (As := [.int (xs (Int32.toNatClampNeg (x3 + (1 : Int32))))]) (rest := []) (ci := 4) (q0 := 0) ⟨hx, hb, hml, hown, hts⟩ k_self (e_n_printed l D aD aT ad af aJ aM aw ae aB ab cA σ ((xs (Int32.toNatClampNeg (x3 + (1 : Int32)))))) kv_L_40 (hP.sub [0, 1, 2, 3, 4, 5, 6, 7, 8, 9] rfl) (hK.sub [0] rfl) rfl rfl rfl rfl ⟨Nat.le_of_ble_eq_true rfl, Nat.le_of_ble_eq_true rfl⟩ rfl hl.1 rfl (Nat.le_of_ble_eq_true rfl) dL_law_308 ⟨Nat.le_of_ble_eq_true rfl, Nat.le_of_ble_eq_true rfl⟩ ?_
  refine lv_aload_n hx hb dL_law_311 rfl (lv_at hl 2 rfl) ?_
  refine lv_aload_n hx hb dL_law_312 rfl (lv_at hl 0 rfl) ?_
  refine lv_iload_n hx hb dL_law_313 rfl (lv_at hl 3 rfl) ?_
  refine lv_iconst (v := 1) hx hb dL_law_314 (by decide) ?_
  refine lv_iadd hx hb dL_law_315 ?_
  refine va_sld hx hb hX hbl hbA hS hi1 dL_law_316 ?_
  refine k_wrVl (As := [.int (xs (Int32.toNatClampNeg (x3 + (1 : Int32))))]) (rest := [.long (nx_printed σ ((xs (Int32.toNatClampNeg (x3 + (1 : Int32)))))).1]) (ci := 5) (q0 := 0) (ws' := (wX aD aT ad af aJ aM aw ae aB ab cA σ ++ wY kO km kw kb kr kd kt cA (mx_printed τ ((xs (Int32.toNatClampNeg (x3 + (1 : Int32)))))).2)) (wr := (wX aD aT ad af aJ aM aw ae aB ab cA σ)) ⟨hx, hb, hml, hown, hts⟩ k_self (e_m_printed l D kO km kw kb kr kd kt cA τ ((xs (Int32.toNatClampNeg (x3 + (1 : Int32)))))) kv_L_44 hP hD hS hA hK rfl rfl [10, 11, 12, 13, 14, 15, 16] [0, 1, 2, 3, 4, 5, 6, 7, 8, 9] [0, 1, 2, 3, 4, 5, 6, 7, 8, 9, 10, 11, 12, 13, 14, 15, 16] rfl (by decide) rfl (by decide) (by decide) rfl (by decide) rfl rfl ⟨Nat.le_of_ble_eq_true rfl, Nat.le_of_ble_eq_true rfl⟩ rfl hl.1 rfl (Nat.le_of_ble_eq_true rfl) dL_law_317 ⟨Nat.le_of_ble_eq_true rfl, Nat.le_of_ble_eq_true rfl⟩ (fun H locs hP hD hS => ?_)
  refine W.lcmp hx hb dL_law_320 ?_
  refine lv_if_eq (tgt := 743) hx hb dL_law_321 (by decide) (fun c_1 => ?_) (fun c_1 => ?_)
  · have hq := hsim n σ τ ((xs (Int32.toNatClampNeg (x3 + (1 : Int32))))) hR
    exact kk _ _ H locs hq.2 hP hD hS
  · have hq := hsim n σ τ ((xs (Int32.toNatClampNeg (x3 + (1 : Int32))))) hR
    exact absurd (by rw [lg_cmp_eq]; exact hq.1) c_1
set_option maxHeartbeats 4000000 in
set_option maxRecDepth 100000 in
theorem law_refill (Rel : RelT) (hpre : Sim_pre Rel) (hsim : Sim_refill Rel) {p : Program} {l : Launch} {e : Env} {s : State} {m : MethodId} {below : List Frame} {meth : Method} {c : Code} {D : va_G} {cA : ClassId} {b L : Nat} {xs : Nat → Int32} (C0 : lw_At p s m meth c b L xs) {aD aT ad af aJ aM aw ae aB ab kO km kw kb kr kd kt n : Nat} {σ : SX} {τ : SK} {H : Heap} {locs : List Loc} {ls : Array Slot} {x3 : Int32} {i : Nat} (hx3 : x3 = nI i) (hi : i + 4 < L) (hLL : L ≤ 2561) (hR : Rel (n + 1) σ τ) (hK : va_K D vwCl [(cA, .int)] s) (hP : va_P D vwCl (wX aD aT ad af aJ aM aw ae aB ab cA σ ++ wY kO km kw kb kr kd kt cA τ) H) (hD : va_D (fun q : Nat => s.heap.size ≤ q) (wX aD aT ad af aJ aM aw ae aB ab cA σ ++ wY kO km kw kb kr kd kt cA τ)) (hS : va_S (fun q : Nat => s.heap.size ≤ q) s.heap H locs) (hl : lv_has ls 4 [(0, .ref b), (1, .ref aD), (2, .ref kO), (3, .int x3)])
    (kk : ∀ (σ' : SX) (τ' : SK) (H : Heap) (locs : List Loc), Rel n σ' τ' → va_P D vwCl (wX aD aT ad af aJ aM aw ae aB ab cA σ' ++ wY kO km kw kb kr kd kt cA τ') H → va_D (fun q : Nat => s.heap.size ≤ q) (wX aD aT ad af aJ aM aw ae aB ab cA σ' ++ wY kO km kw kb kr kd kt cA τ') → va_S (fun q : Nat => s.heap.size ≤ q) s.heap H locs → W p l e room_1 s m #[Value.ref b] below meth c H locs 17 9931 (lw_Z below #[Value.ref b] s) (F0 m 743 ls [])) : W p l e room_1 s m #[Value.ref b] below meth c H locs 17 9931 (lw_Z below #[Value.ref b] s) (F0 m 326 ls []) := by
  obtain ⟨hx, hb, hr, hml, hown0, hts0, hX, hbl, hlocks, hgv⟩ := C0
  have hown : s.vm.findClass RL = some m.cls := hown0
  have hts : ∀ w ∈ kG, w.before #[Value.ref b] s = true := fun w h => hts0 w (k_lw w h)
  have hA : ∀ q : Nat, s.heap.size ≤ q → (fun q : Nat => s.heap.size ≤ q) q := fun _ h => h
  have hbA : ¬ (fun q : Nat => s.heap.size ≤ q) b := Nat.not_le.mpr hbl
  obtain ⟨hp1, hp2, hp3⟩ := hpre _ _ _ hR
  have hi1 : vp_in (x3 + (1 : Int32)) L := by rw [hx3, show (1 : Int32) = nI 1 from rfl, nI_add]; exact vp_in_nI (by omega) (by omega)
  have hi2 : vp_in (x3 + (2 : Int32)) L := by rw [hx3, show (2 : Int32) = nI 2 from rfl, nI_add]; exact vp_in_nI (by omega) (by omega)
  have hi3 : vp_in (x3 + (3 : Int32)) L := by rw [hx3, show (3 : Int32) = nI 3 from rfl, nI_add]; exact vp_in_nI (by omega) (by omega)
  have hi4 : vp_in (x3 + (4 : Int32)) L := by rw [hx3, show (4 : Int32) = nI 4 from rfl, nI_add]; exact vp_in_nI (by omega) (by omega)
  refine lv_aload_n hx hb dL_law_326 rfl (lv_at hl 1 rfl) ?_
  refine lv_aload_n hx hb dL_law_327 rfl (lv_at hl 0 rfl) ?_
  refine lv_iload_n hx hb dL_law_328 rfl (lv_at hl 3 rfl) ?_
  refine lv_iconst (v := 1) hx hb dL_law_329 (by decide) ?_
  refine lv_iadd hx hb dL_law_330 ?_
  refine va_sld hx hb hX hbl hbA hS hi1 dL_law_331 ?_
  refine lv_aload_n hx hb dL_law_332 rfl (lv_at hl 0 rfl) ?_
  refine lv_iload_n hx hb dL_law_333 rfl (lv_at hl 3 rfl) ?_
  refine lv_iconst (v := 2) hx hb dL_law_334 (by decide) ?_
  refine lv_iadd hx hb dL_law_335 ?_
  refine va_sld hx hb hX hbl hbA hS hi2 dL_law_336 ?_
  refine k_wrVi (As := [.int (xs (Int32.toNatClampNeg (x3 + (1 : Int32)))), .int (xs (Int32.toNatClampNeg (x3 + (2 : Int32))))]) (rest := []) (ci := 4) (q0 := 0) (ws' := (wX aD aT ad af aJ aM aw ae aB ab cA (nx_refill σ ((xs (Int32.toNatClampNeg (x3 + (1 : Int32))))) ((xs (Int32.toNatClampNeg (x3 + (2 : Int32)))))).2 ++ wY kO km kw kb kr kd kt cA τ)) (wr := (wY kO km kw kb kr kd kt cA τ)) ⟨hx, hb, hml, hown, hts⟩ k_self (e_n_refill l D aD aT ad af aJ aM aw ae aB ab cA σ ((xs (Int32.toNatClampNeg (x3 + (1 : Int32))))) ((xs (Int32.toNatClampNeg (x3 + (2 : Int32))))) hp1) kv_L_45 hP hD hS hA hK rfl rfl [0, 1, 2, 3, 4, 5, 6, 7, 8, 9] [10, 11, 12, 13, 14, 15, 16] [7, 8, 9, 10, 11, 12, 13, 14, 15, 16, 0, 1, 2, 3, 4, 5, 6] rfl (by decide) rfl (by decide) (by decide) rfl (by decide) rfl rfl ⟨Nat.le_of_ble_eq_true rfl, Nat.le_of_ble_eq_true rfl⟩ rfl hl.1 rfl (Nat.le_of_ble_eq_true rfl) dL_law_337 ⟨Nat.le_of_ble_eq_true rfl, Nat.le_of_ble_eq_true rfl⟩ (fun H locs hP hD hS => ?_)
  refine lv_aload_n hx hb dL_law_340 rfl (lv_at hl 2 rfl) ?_
  refine lv_aload_n hx hb dL_law_341 rfl (lv_at hl 0 rfl) ?_
  refine lv_iload_n hx hb dL_law_342 rfl (lv_at hl 3 rfl) ?_
  refine lv_iconst (v := 1) hx hb dL_law_343 (by decide) ?_
  refine lv_iadd hx hb dL_law_344 ?_
  refine va_sld hx hb hX hbl hbA hS hi1 dL_law_345 ?_
  refine lv_aload_n hx hb dL_law_346 rfl (lv_at hl 0 rfl) ?_
  refine lv_iload_n hx hb dL_law_347 rfl (lv_at hl 3 rfl) ?_
  refine lv_iconst (v := 2) hx hb dL_law_348 (by decide) ?_
  refine lv_iadd hx hb dL_law_349 ?_
  refine va_sld hx hb hX hbl hbA hS hi2 dL_law_350 ?_
  refine k_wrVi (As := [.int (xs (Int32.toNatClampNeg (x3 + (1 : Int32)))), .int (xs (Int32.toNatClampNeg (x3 + (2 : Int32))))]) (rest := [.int (nx_refill σ ((xs (Int32.toNatClampNeg (x3 + (1 : Int32))))) ((xs (Int32.toNatClampNeg (x3 + (2 : Int32)))))).1]) (ci := 5) (q0 := 0) (ws' := (wX aD aT ad af aJ aM aw ae aB ab cA (nx_refill σ ((xs (Int32.toNatClampNeg (x3 + (1 : Int32))))) ((xs (Int32.toNatClampNeg (x3 + (2 : Int32)))))).2 ++ wY kO km kw kb kr kd kt cA (mx_refill τ ((xs (Int32.toNatClampNeg (x3 + (1 : Int32))))) ((xs (Int32.toNatClampNeg (x3 + (2 : Int32)))))).2)) (wr := (wX aD aT ad af aJ aM aw ae aB ab cA (nx_refill σ ((xs (Int32.toNatClampNeg (x3 + (1 : Int32))))) ((xs (Int32.toNatClampNeg (x3 + (2 : Int32)))))).2)) ⟨hx, hb, hml, hown, hts⟩ k_self (e_m_refill l D kO km kw kb kr kd kt cA τ ((xs (Int32.toNatClampNeg (x3 + (1 : Int32))))) ((xs (Int32.toNatClampNeg (x3 + (2 : Int32))))) hp2) kv_L_49 hP hD hS hA hK rfl rfl [10, 11, 12, 13, 14, 15, 16] [0, 1, 2, 3, 4, 5, 6, 7, 8, 9] [0, 1, 2, 3, 4, 5, 6, 7, 8, 9, 10, 11, 12, 13, 14, 15, 16] rfl (by decide) rfl (by decide) (by decide) rfl (by decide) rfl rfl ⟨Nat.le_of_ble_eq_true rfl, Nat.le_of_ble_eq_true rfl⟩ rfl hl.1 rfl (Nat.le_of_ble_eq_true rfl) dL_law_351 ⟨Nat.le_of_ble_eq_true rfl, Nat.le_of_ble_eq_true rfl⟩ (fun H locs hP hD hS => ?_)
  refine lv_icmp_eq (tgt := 743) hx hb dL_law_354 (by decide) (fun c_1 => ?_) (fun c_1 => ?_)
  · have hq := hsim n σ τ ((xs (Int32.toNatClampNeg (x3 + (1 : Int32))))) ((xs (Int32.toNatClampNeg (x3 + (2 : Int32))))) hR
    exact kk _ _ H locs hq.2 hP hD hS
  · have hq := hsim n σ τ ((xs (Int32.toNatClampNeg (x3 + (1 : Int32))))) ((xs (Int32.toNatClampNeg (x3 + (2 : Int32))))) hR
    exact absurd hq.1 c_1
set_option maxHeartbeats 4000000 in
set_option maxRecDepth 100000 in
theorem law_codeFor (Rel : RelT) (hpre : Sim_pre Rel) (hsim : Sim_codeFor Rel) {p : Program} {l : Launch} {e : Env} {s : State} {m : MethodId} {below : List Frame} {meth : Method} {c : Code} {D : va_G} {cA : ClassId} {b L : Nat} {xs : Nat → Int32} (C0 : lw_At p s m meth c b L xs) {aD aT ad af aJ aM aw ae aB ab kO km kw kb kr kd kt n : Nat} {σ : SX} {τ : SK} {H : Heap} {locs : List Loc} {ls : Array Slot} {x3 : Int32} {i : Nat} (hx3 : x3 = nI i) (hi : i + 4 < L) (hLL : L ≤ 2561) (hR : Rel (n + 1) σ τ) (hK : va_K D vwCl [(cA, .int)] s) (hP : va_P D vwCl (wX aD aT ad af aJ aM aw ae aB ab cA σ ++ wY kO km kw kb kr kd kt cA τ) H) (hD : va_D (fun q : Nat => s.heap.size ≤ q) (wX aD aT ad af aJ aM aw ae aB ab cA σ ++ wY kO km kw kb kr kd kt cA τ)) (hS : va_S (fun q : Nat => s.heap.size ≤ q) s.heap H locs) (hl : lv_has ls 4 [(0, .ref b), (1, .ref aD), (2, .ref kO), (3, .int x3)])
    (kk : ∀ (σ' : SX) (τ' : SK) (H : Heap) (locs : List Loc), Rel n σ' τ' → va_P D vwCl (wX aD aT ad af aJ aM aw ae aB ab cA σ' ++ wY kO km kw kb kr kd kt cA τ') H → va_D (fun q : Nat => s.heap.size ≤ q) (wX aD aT ad af aJ aM aw ae aB ab cA σ' ++ wY kO km kw kb kr kd kt cA τ') → va_S (fun q : Nat => s.heap.size ≤ q) s.heap H locs → W p l e room_1 s m #[Value.ref b] below meth c H locs 17 9931 (lw_Z below #[Value.ref b] s) (F0 m 743 ls [])) : W p l e room_1 s m #[Value.ref b] below meth c H locs 17 9931 (lw_Z below #[Value.ref b] s) (F0 m 359 ls []) := by
  obtain ⟨hx, hb, hr, hml, hown0, hts0, hX, hbl, hlocks, hgv⟩ := C0
  have hown : s.vm.findClass RL = some m.cls := hown0
  have hts : ∀ w ∈ kG, w.before #[Value.ref b] s = true := fun w h => hts0 w (k_lw w h)
  have hA : ∀ q : Nat, s.heap.size ≤ q → (fun q : Nat => s.heap.size ≤ q) q := fun _ h => h
  have hbA : ¬ (fun q : Nat => s.heap.size ≤ q) b := Nat.not_le.mpr hbl
  obtain ⟨hp1, hp2, hp3⟩ := hpre _ _ _ hR
  have hi1 : vp_in (x3 + (1 : Int32)) L := by rw [hx3, show (1 : Int32) = nI 1 from rfl, nI_add]; exact vp_in_nI (by omega) (by omega)
  have hi2 : vp_in (x3 + (2 : Int32)) L := by rw [hx3, show (2 : Int32) = nI 2 from rfl, nI_add]; exact vp_in_nI (by omega) (by omega)
  have hi3 : vp_in (x3 + (3 : Int32)) L := by rw [hx3, show (3 : Int32) = nI 3 from rfl, nI_add]; exact vp_in_nI (by omega) (by omega)
  have hi4 : vp_in (x3 + (4 : Int32)) L := by rw [hx3, show (4 : Int32) = nI 4 from rfl, nI_add]; exact vp_in_nI (by omega) (by omega)
  refine lv_aload_n hx hb dL_law_359 rfl (lv_at hl 1 rfl) ?_
  refine lv_aload_n hx hb dL_law_360 rfl (lv_at hl 0 rfl) ?_
  refine lv_iload_n hx hb dL_law_361 rfl (lv_at hl 3 rfl) ?_
  refine lv_iconst (v := 1) hx hb dL_law_362 (by decide) ?_
  refine lv_iadd hx hb dL_law_363 ?_
  refine va_sld hx hb hX hbl hbA hS hi1 dL_law_364 ?_
  refine lv_aload_n hx hb dL_law_365 rfl (lv_at hl 0 rfl) ?_
  refine lv_iload_n hx hb dL_law_366 rfl (lv_at hl 3 rfl) ?_
  refine lv_iconst (v := 2) hx hb dL_law_367 (by decide) ?_
  refine lv_iadd hx hb dL_law_368 ?_
  refine va_sld hx hb hX hbl hbA hS hi2 dL_law_369 ?_
  refine k_rdVi (As := [.int (xs (Int32.toNatClampNeg (x3 + (1 : Int32)))), .int (xs (Int32.toNatClampNeg (x3 + (2 : Int32))))]) (rest := []) (ci := 4) (q0 := 0) ⟨hx, hb, hml, hown, hts⟩ k_self (e_n_codeFor l D aD aT ad af aJ aM aw ae aB ab cA σ ((xs (Int32.toNatClampNeg (x3 + (1 : Int32))))) ((xs (Int32.toNatClampNeg (x3 + (2 : Int32)))))) kv_L_50 (hP.sub [0, 1, 2, 3, 4, 5, 6, 7, 8, 9] rfl) (hK.sub [0] rfl) rfl rfl rfl rfl ⟨Nat.le_of_ble_eq_true rfl, Nat.le_of_ble_eq_true rfl⟩ rfl hl.1 rfl (Nat.le_of_ble_eq_true rfl) dL_law_370 ⟨Nat.le_of_ble_eq_true rfl, Nat.le_of_ble_eq_true rfl⟩ ?_
  refine lv_aload_n hx hb dL_law_373 rfl (lv_at hl 2 rfl) ?_
  refine lv_aload_n hx hb dL_law_374 rfl (lv_at hl 0 rfl) ?_
  refine lv_iload_n hx hb dL_law_375 rfl (lv_at hl 3 rfl) ?_
  refine lv_iconst (v := 1) hx hb dL_law_376 (by decide) ?_
  refine lv_iadd hx hb dL_law_377 ?_
  refine va_sld hx hb hX hbl hbA hS hi1 dL_law_378 ?_
  refine lv_aload_n hx hb dL_law_379 rfl (lv_at hl 0 rfl) ?_
  refine lv_iload_n hx hb dL_law_380 rfl (lv_at hl 3 rfl) ?_
  refine lv_iconst (v := 2) hx hb dL_law_381 (by decide) ?_
  refine lv_iadd hx hb dL_law_382 ?_
  refine va_sld hx hb hX hbl hbA hS hi2 dL_law_383 ?_
  refine k_wrVi (As := [.int (xs (Int32.toNatClampNeg (x3 + (1 : Int32)))), .int (xs (Int32.toNatClampNeg (x3 + (2 : Int32))))]) (rest := [.int (nx_codeFor σ ((xs (Int32.toNatClampNeg (x3 + (1 : Int32))))) ((xs (Int32.toNatClampNeg (x3 + (2 : Int32)))))).1]) (ci := 5) (q0 := 0) (ws' := (wX aD aT ad af aJ aM aw ae aB ab cA σ ++ wY kO km kw kb kr kd kt cA (mx_codeFor τ ((xs (Int32.toNatClampNeg (x3 + (1 : Int32))))) ((xs (Int32.toNatClampNeg (x3 + (2 : Int32)))))).2)) (wr := (wX aD aT ad af aJ aM aw ae aB ab cA σ)) ⟨hx, hb, hml, hown, hts⟩ k_self (e_m_codeFor l D kO km kw kb kr kd kt cA τ ((xs (Int32.toNatClampNeg (x3 + (1 : Int32))))) ((xs (Int32.toNatClampNeg (x3 + (2 : Int32)))))) kv_L_53 hP hD hS hA hK rfl rfl [10, 11, 12, 13, 14, 15, 16] [0, 1, 2, 3, 4, 5, 6, 7, 8, 9] [0, 1, 2, 3, 4, 5, 6, 7, 8, 9, 10, 11, 12, 13, 14, 15, 16] rfl (by decide) rfl (by decide) (by decide) rfl (by decide) rfl rfl ⟨Nat.le_of_ble_eq_true rfl, Nat.le_of_ble_eq_true rfl⟩ rfl hl.1 rfl (Nat.le_of_ble_eq_true rfl) dL_law_384 ⟨Nat.le_of_ble_eq_true rfl, Nat.le_of_ble_eq_true rfl⟩ (fun H locs hP hD hS => ?_)
  refine lv_icmp_eq (tgt := 743) hx hb dL_law_387 (by decide) (fun c_1 => ?_) (fun c_1 => ?_)
  · have hq := hsim n σ τ ((xs (Int32.toNatClampNeg (x3 + (1 : Int32))))) ((xs (Int32.toNatClampNeg (x3 + (2 : Int32))))) hR
    exact kk _ _ H locs hq.2 hP hD hS
  · have hq := hsim n σ τ ((xs (Int32.toNatClampNeg (x3 + (1 : Int32))))) ((xs (Int32.toNatClampNeg (x3 + (2 : Int32))))) hR
    exact absurd hq.1 c_1
set_option maxHeartbeats 4000000 in
set_option maxRecDepth 100000 in
theorem law_claimBack (Rel : RelT) (hpre : Sim_pre Rel) (hsim : Sim_claimBack Rel) {p : Program} {l : Launch} {e : Env} {s : State} {m : MethodId} {below : List Frame} {meth : Method} {c : Code} {D : va_G} {cA : ClassId} {b L : Nat} {xs : Nat → Int32} (C0 : lw_At p s m meth c b L xs) {aD aT ad af aJ aM aw ae aB ab kO km kw kb kr kd kt n : Nat} {σ : SX} {τ : SK} {H : Heap} {locs : List Loc} {ls : Array Slot} {x3 : Int32} {i : Nat} (hx3 : x3 = nI i) (hi : i + 4 < L) (hLL : L ≤ 2561) (hR : Rel (n + 1) σ τ) (hK : va_K D vwCl [(cA, .int)] s) (hP : va_P D vwCl (wX aD aT ad af aJ aM aw ae aB ab cA σ ++ wY kO km kw kb kr kd kt cA τ) H) (hD : va_D (fun q : Nat => s.heap.size ≤ q) (wX aD aT ad af aJ aM aw ae aB ab cA σ ++ wY kO km kw kb kr kd kt cA τ)) (hS : va_S (fun q : Nat => s.heap.size ≤ q) s.heap H locs) (hl : lv_has ls 4 [(0, .ref b), (1, .ref aD), (2, .ref kO), (3, .int x3)])
    (kk : ∀ (σ' : SX) (τ' : SK) (H : Heap) (locs : List Loc), Rel n σ' τ' → va_P D vwCl (wX aD aT ad af aJ aM aw ae aB ab cA σ' ++ wY kO km kw kb kr kd kt cA τ') H → va_D (fun q : Nat => s.heap.size ≤ q) (wX aD aT ad af aJ aM aw ae aB ab cA σ' ++ wY kO km kw kb kr kd kt cA τ') → va_S (fun q : Nat => s.heap.size ≤ q) s.heap H locs → W p l e room_1 s m #[Value.ref b] below meth c H locs 17 9931 (lw_Z below #[Value.ref b] s) (F0 m 743 ls [])) : W p l e room_1 s m #[Value.ref b] below meth c H locs 17 9931 (lw_Z below #[Value.ref b] s) (F0 m 392 ls []) := by
  obtain ⟨hx, hb, hr, hml, hown0, hts0, hX, hbl, hlocks, hgv⟩ := C0
  have hown : s.vm.findClass RL = some m.cls := hown0
  have hts : ∀ w ∈ kG, w.before #[Value.ref b] s = true := fun w h => hts0 w (k_lw w h)
  have hA : ∀ q : Nat, s.heap.size ≤ q → (fun q : Nat => s.heap.size ≤ q) q := fun _ h => h
  have hbA : ¬ (fun q : Nat => s.heap.size ≤ q) b := Nat.not_le.mpr hbl
  obtain ⟨hp1, hp2, hp3⟩ := hpre _ _ _ hR
  have hi1 : vp_in (x3 + (1 : Int32)) L := by rw [hx3, show (1 : Int32) = nI 1 from rfl, nI_add]; exact vp_in_nI (by omega) (by omega)
  have hi2 : vp_in (x3 + (2 : Int32)) L := by rw [hx3, show (2 : Int32) = nI 2 from rfl, nI_add]; exact vp_in_nI (by omega) (by omega)
  have hi3 : vp_in (x3 + (3 : Int32)) L := by rw [hx3, show (3 : Int32) = nI 3 from rfl, nI_add]; exact vp_in_nI (by omega) (by omega)
  have hi4 : vp_in (x3 + (4 : Int32)) L := by rw [hx3, show (4 : Int32) = nI 4 from rfl, nI_add]; exact vp_in_nI (by omega) (by omega)
  refine lv_aload_n hx hb dL_law_392 rfl (lv_at hl 1 rfl) ?_
  refine lv_aload_n hx hb dL_law_393 rfl (lv_at hl 0 rfl) ?_
  refine lv_iload_n hx hb dL_law_394 rfl (lv_at hl 3 rfl) ?_
  refine lv_iconst (v := 1) hx hb dL_law_395 (by decide) ?_
  refine lv_iadd hx hb dL_law_396 ?_
  refine va_sld hx hb hX hbl hbA hS hi1 dL_law_397 ?_
  refine lv_aload_n hx hb dL_law_398 rfl (lv_at hl 0 rfl) ?_
  refine lv_iload_n hx hb dL_law_399 rfl (lv_at hl 3 rfl) ?_
  refine lv_iconst (v := 2) hx hb dL_law_400 (by decide) ?_
  refine lv_iadd hx hb dL_law_401 ?_
  refine va_sld hx hb hX hbl hbA hS hi2 dL_law_402 ?_
  refine k_wrVi (As := [.int (xs (Int32.toNatClampNeg (x3 + (1 : Int32)))), .int (xs (Int32.toNatClampNeg (x3 + (2 : Int32))))]) (rest := []) (ci := 4) (q0 := 0) (ws' := (wX aD aT ad af aJ aM aw ae aB ab cA (nx_claimBack σ ((xs (Int32.toNatClampNeg (x3 + (1 : Int32))))) ((xs (Int32.toNatClampNeg (x3 + (2 : Int32)))))).2 ++ wY kO km kw kb kr kd kt cA τ)) (wr := (wY kO km kw kb kr kd kt cA τ)) ⟨hx, hb, hml, hown, hts⟩ k_self (e_n_claimBack l D aD aT ad af aJ aM aw ae aB ab cA σ ((xs (Int32.toNatClampNeg (x3 + (1 : Int32))))) ((xs (Int32.toNatClampNeg (x3 + (2 : Int32))))) hp1) kv_L_54 hP hD hS hA hK rfl rfl [0, 1, 2, 3, 4, 5, 6, 7, 8, 9] [10, 11, 12, 13, 14, 15, 16] [7, 8, 9, 10, 11, 12, 13, 14, 15, 16, 0, 1, 2, 3, 4, 5, 6] rfl (by decide) rfl (by decide) (by decide) rfl (by decide) rfl rfl ⟨Nat.le_of_ble_eq_true rfl, Nat.le_of_ble_eq_true rfl⟩ rfl hl.1 rfl (Nat.le_of_ble_eq_true rfl) dL_law_403 ⟨Nat.le_of_ble_eq_true rfl, Nat.le_of_ble_eq_true rfl⟩ (fun H locs hP hD hS => ?_)
  refine lv_aload_n hx hb dL_law_406 rfl (lv_at hl 2 rfl) ?_
  refine lv_aload_n hx hb dL_law_407 rfl (lv_at hl 0 rfl) ?_
  refine lv_iload_n hx hb dL_law_408 rfl (lv_at hl 3 rfl) ?_
  refine lv_iconst (v := 1) hx hb dL_law_409 (by decide) ?_
  refine lv_iadd hx hb dL_law_410 ?_
  refine va_sld hx hb hX hbl hbA hS hi1 dL_law_411 ?_
  refine lv_aload_n hx hb dL_law_412 rfl (lv_at hl 0 rfl) ?_
  refine lv_iload_n hx hb dL_law_413 rfl (lv_at hl 3 rfl) ?_
  refine lv_iconst (v := 2) hx hb dL_law_414 (by decide) ?_
  refine lv_iadd hx hb dL_law_415 ?_
  refine va_sld hx hb hX hbl hbA hS hi2 dL_law_416 ?_
  refine k_wrVi (As := [.int (xs (Int32.toNatClampNeg (x3 + (1 : Int32)))), .int (xs (Int32.toNatClampNeg (x3 + (2 : Int32))))]) (rest := [.int (nx_claimBack σ ((xs (Int32.toNatClampNeg (x3 + (1 : Int32))))) ((xs (Int32.toNatClampNeg (x3 + (2 : Int32)))))).1]) (ci := 5) (q0 := 0) (ws' := (wX aD aT ad af aJ aM aw ae aB ab cA (nx_claimBack σ ((xs (Int32.toNatClampNeg (x3 + (1 : Int32))))) ((xs (Int32.toNatClampNeg (x3 + (2 : Int32)))))).2 ++ wY kO km kw kb kr kd kt cA (mx_claimBack τ ((xs (Int32.toNatClampNeg (x3 + (1 : Int32))))) ((xs (Int32.toNatClampNeg (x3 + (2 : Int32)))))).2)) (wr := (wX aD aT ad af aJ aM aw ae aB ab cA (nx_claimBack σ ((xs (Int32.toNatClampNeg (x3 + (1 : Int32))))) ((xs (Int32.toNatClampNeg (x3 + (2 : Int32)))))).2)) ⟨hx, hb, hml, hown, hts⟩ k_self (e_m_claimBack l D kO km kw kb kr kd kt cA τ ((xs (Int32.toNatClampNeg (x3 + (1 : Int32))))) ((xs (Int32.toNatClampNeg (x3 + (2 : Int32))))) hp2) kv_L_57 hP hD hS hA hK rfl rfl [10, 11, 12, 13, 14, 15, 16] [0, 1, 2, 3, 4, 5, 6, 7, 8, 9] [0, 1, 2, 3, 4, 5, 6, 7, 8, 9, 10, 11, 12, 13, 14, 15, 16] rfl (by decide) rfl (by decide) (by decide) rfl (by decide) rfl rfl ⟨Nat.le_of_ble_eq_true rfl, Nat.le_of_ble_eq_true rfl⟩ rfl hl.1 rfl (Nat.le_of_ble_eq_true rfl) dL_law_417 ⟨Nat.le_of_ble_eq_true rfl, Nat.le_of_ble_eq_true rfl⟩ (fun H locs hP hD hS => ?_)
  refine lv_icmp_eq (tgt := 743) hx hb dL_law_420 (by decide) (fun c_1 => ?_) (fun c_1 => ?_)
  · have hq := hsim n σ τ ((xs (Int32.toNatClampNeg (x3 + (1 : Int32))))) ((xs (Int32.toNatClampNeg (x3 + (2 : Int32))))) hR
    exact kk _ _ H locs hq.2 hP hD hS
  · have hq := hsim n σ τ ((xs (Int32.toNatClampNeg (x3 + (1 : Int32))))) ((xs (Int32.toNatClampNeg (x3 + (2 : Int32))))) hR
    exact absurd hq.1 c_1
set_option maxHeartbeats 4000000 in
set_option maxRecDepth 100000 in
theorem law_book (Rel : RelT) (hpre : Sim_pre Rel) (hsim : Sim_book Rel) {p : Program} {l : Launch} {e : Env} {s : State} {m : MethodId} {below : List Frame} {meth : Method} {c : Code} {D : va_G} {cA : ClassId} {b L : Nat} {xs : Nat → Int32} (C0 : lw_At p s m meth c b L xs) {aD aT ad af aJ aM aw ae aB ab kO km kw kb kr kd kt n : Nat} {σ : SX} {τ : SK} {H : Heap} {locs : List Loc} {ls : Array Slot} {x3 : Int32} {i : Nat} (hx3 : x3 = nI i) (hi : i + 4 < L) (hLL : L ≤ 2561) (hR : Rel (n + 1) σ τ) (hK : va_K D vwCl [(cA, .int)] s) (hP : va_P D vwCl (wX aD aT ad af aJ aM aw ae aB ab cA σ ++ wY kO km kw kb kr kd kt cA τ) H) (hD : va_D (fun q : Nat => s.heap.size ≤ q) (wX aD aT ad af aJ aM aw ae aB ab cA σ ++ wY kO km kw kb kr kd kt cA τ)) (hS : va_S (fun q : Nat => s.heap.size ≤ q) s.heap H locs) (hl : lv_has ls 4 [(0, .ref b), (1, .ref aD), (2, .ref kO), (3, .int x3)])
    (kk : ∀ (σ' : SX) (τ' : SK) (H : Heap) (locs : List Loc), Rel n σ' τ' → va_P D vwCl (wX aD aT ad af aJ aM aw ae aB ab cA σ' ++ wY kO km kw kb kr kd kt cA τ') H → va_D (fun q : Nat => s.heap.size ≤ q) (wX aD aT ad af aJ aM aw ae aB ab cA σ' ++ wY kO km kw kb kr kd kt cA τ') → va_S (fun q : Nat => s.heap.size ≤ q) s.heap H locs → W p l e room_1 s m #[Value.ref b] below meth c H locs 17 9931 (lw_Z below #[Value.ref b] s) (F0 m 743 ls [])) : W p l e room_1 s m #[Value.ref b] below meth c H locs 17 9931 (lw_Z below #[Value.ref b] s) (F0 m 425 ls []) := by
  obtain ⟨hx, hb, hr, hml, hown0, hts0, hX, hbl, hlocks, hgv⟩ := C0
  have hown : s.vm.findClass RL = some m.cls := hown0
  have hts : ∀ w ∈ kG, w.before #[Value.ref b] s = true := fun w h => hts0 w (k_lw w h)
  have hA : ∀ q : Nat, s.heap.size ≤ q → (fun q : Nat => s.heap.size ≤ q) q := fun _ h => h
  have hbA : ¬ (fun q : Nat => s.heap.size ≤ q) b := Nat.not_le.mpr hbl
  obtain ⟨hp1, hp2, hp3⟩ := hpre _ _ _ hR
  have hi1 : vp_in (x3 + (1 : Int32)) L := by rw [hx3, show (1 : Int32) = nI 1 from rfl, nI_add]; exact vp_in_nI (by omega) (by omega)
  have hi2 : vp_in (x3 + (2 : Int32)) L := by rw [hx3, show (2 : Int32) = nI 2 from rfl, nI_add]; exact vp_in_nI (by omega) (by omega)
  have hi3 : vp_in (x3 + (3 : Int32)) L := by rw [hx3, show (3 : Int32) = nI 3 from rfl, nI_add]; exact vp_in_nI (by omega) (by omega)
  have hi4 : vp_in (x3 + (4 : Int32)) L := by rw [hx3, show (4 : Int32) = nI 4 from rfl, nI_add]; exact vp_in_nI (by omega) (by omega)
  refine lv_aload_n hx hb dL_law_425 rfl (lv_at hl 1 rfl) ?_
  refine lv_aload_n hx hb dL_law_426 rfl (lv_at hl 0 rfl) ?_
  refine lv_iload_n hx hb dL_law_427 rfl (lv_at hl 3 rfl) ?_
  refine lv_iconst (v := 1) hx hb dL_law_428 (by decide) ?_
  refine lv_iadd hx hb dL_law_429 ?_
  refine va_sld hx hb hX hbl hbA hS hi1 dL_law_430 ?_
  refine k_rdVl (As := [.int (xs (Int32.toNatClampNeg (x3 + (1 : Int32))))]) (rest := []) (ci := 4) (q0 := 0) ⟨hx, hb, hml, hown, hts⟩ k_self (e_n_book l D aD aT ad af aJ aM aw ae aB ab cA σ ((xs (Int32.toNatClampNeg (x3 + (1 : Int32))))) hp1) kv_L_58 (hP.sub [0, 1, 2, 3, 4, 5, 6, 7, 8, 9] rfl) (hK.sub [0] rfl) rfl rfl rfl rfl ⟨Nat.le_of_ble_eq_true rfl, Nat.le_of_ble_eq_true rfl⟩ rfl hl.1 rfl (Nat.le_of_ble_eq_true rfl) dL_law_431 ⟨Nat.le_of_ble_eq_true rfl, Nat.le_of_ble_eq_true rfl⟩ ?_
  refine lv_aload_n hx hb dL_law_434 rfl (lv_at hl 2 rfl) ?_
  refine lv_aload_n hx hb dL_law_435 rfl (lv_at hl 0 rfl) ?_
  refine lv_iload_n hx hb dL_law_436 rfl (lv_at hl 3 rfl) ?_
  refine lv_iconst (v := 1) hx hb dL_law_437 (by decide) ?_
  refine lv_iadd hx hb dL_law_438 ?_
  refine va_sld hx hb hX hbl hbA hS hi1 dL_law_439 ?_
  refine k_wrVl (As := [.int (xs (Int32.toNatClampNeg (x3 + (1 : Int32))))]) (rest := [.long (nx_book σ ((xs (Int32.toNatClampNeg (x3 + (1 : Int32)))))).1]) (ci := 5) (q0 := 0) (ws' := (wX aD aT ad af aJ aM aw ae aB ab cA σ ++ wY kO km kw kb kr kd kt cA (mx_book τ ((xs (Int32.toNatClampNeg (x3 + (1 : Int32)))))).2)) (wr := (wX aD aT ad af aJ aM aw ae aB ab cA σ)) ⟨hx, hb, hml, hown, hts⟩ k_self (e_m_book l D kO km kw kb kr kd kt cA τ ((xs (Int32.toNatClampNeg (x3 + (1 : Int32)))))) kv_L_61 hP hD hS hA hK rfl rfl [10, 11, 12, 13, 14, 15, 16] [0, 1, 2, 3, 4, 5, 6, 7, 8, 9] [0, 1, 2, 3, 4, 5, 6, 7, 8, 9, 10, 11, 12, 13, 14, 15, 16] rfl (by decide) rfl (by decide) (by decide) rfl (by decide) rfl rfl ⟨Nat.le_of_ble_eq_true rfl, Nat.le_of_ble_eq_true rfl⟩ rfl hl.1 rfl (Nat.le_of_ble_eq_true rfl) dL_law_440 ⟨Nat.le_of_ble_eq_true rfl, Nat.le_of_ble_eq_true rfl⟩ (fun H locs hP hD hS => ?_)
  refine W.lcmp hx hb dL_law_443 ?_
  refine lv_if_eq (tgt := 743) hx hb dL_law_444 (by decide) (fun c_1 => ?_) (fun c_1 => ?_)
  · have hq := hsim n σ τ ((xs (Int32.toNatClampNeg (x3 + (1 : Int32))))) hR
    exact kk _ _ H locs hq.2 hP hD hS
  · have hq := hsim n σ τ ((xs (Int32.toNatClampNeg (x3 + (1 : Int32))))) hR
    exact absurd (by rw [lg_cmp_eq]; exact hq.1) c_1
set_option maxHeartbeats 4000000 in
set_option maxRecDepth 100000 in
theorem law_counter (Rel : RelT) (hpre : Sim_pre Rel) (hsim : Sim_counter Rel) {p : Program} {l : Launch} {e : Env} {s : State} {m : MethodId} {below : List Frame} {meth : Method} {c : Code} {D : va_G} {cA : ClassId} {b L : Nat} {xs : Nat → Int32} (C0 : lw_At p s m meth c b L xs) {aD aT ad af aJ aM aw ae aB ab kO km kw kb kr kd kt n : Nat} {σ : SX} {τ : SK} {H : Heap} {locs : List Loc} {ls : Array Slot} {x3 : Int32} {i : Nat} (hx3 : x3 = nI i) (hi : i + 4 < L) (hLL : L ≤ 2561) (hR : Rel (n + 1) σ τ) (hK : va_K D vwCl [(cA, .int)] s) (hP : va_P D vwCl (wX aD aT ad af aJ aM aw ae aB ab cA σ ++ wY kO km kw kb kr kd kt cA τ) H) (hD : va_D (fun q : Nat => s.heap.size ≤ q) (wX aD aT ad af aJ aM aw ae aB ab cA σ ++ wY kO km kw kb kr kd kt cA τ)) (hS : va_S (fun q : Nat => s.heap.size ≤ q) s.heap H locs) (hl : lv_has ls 4 [(0, .ref b), (1, .ref aD), (2, .ref kO), (3, .int x3)])
    (kk : ∀ (σ' : SX) (τ' : SK) (H : Heap) (locs : List Loc), Rel n σ' τ' → va_P D vwCl (wX aD aT ad af aJ aM aw ae aB ab cA σ' ++ wY kO km kw kb kr kd kt cA τ') H → va_D (fun q : Nat => s.heap.size ≤ q) (wX aD aT ad af aJ aM aw ae aB ab cA σ' ++ wY kO km kw kb kr kd kt cA τ') → va_S (fun q : Nat => s.heap.size ≤ q) s.heap H locs → W p l e room_1 s m #[Value.ref b] below meth c H locs 17 9931 (lw_Z below #[Value.ref b] s) (F0 m 743 ls [])) : W p l e room_1 s m #[Value.ref b] below meth c H locs 17 9931 (lw_Z below #[Value.ref b] s) (F0 m 449 ls []) := by
  obtain ⟨hx, hb, hr, hml, hown0, hts0, hX, hbl, hlocks, hgv⟩ := C0
  have hown : s.vm.findClass RL = some m.cls := hown0
  have hts : ∀ w ∈ kG, w.before #[Value.ref b] s = true := fun w h => hts0 w (k_lw w h)
  have hA : ∀ q : Nat, s.heap.size ≤ q → (fun q : Nat => s.heap.size ≤ q) q := fun _ h => h
  have hbA : ¬ (fun q : Nat => s.heap.size ≤ q) b := Nat.not_le.mpr hbl
  obtain ⟨hp1, hp2, hp3⟩ := hpre _ _ _ hR
  have hi1 : vp_in (x3 + (1 : Int32)) L := by rw [hx3, show (1 : Int32) = nI 1 from rfl, nI_add]; exact vp_in_nI (by omega) (by omega)
  have hi2 : vp_in (x3 + (2 : Int32)) L := by rw [hx3, show (2 : Int32) = nI 2 from rfl, nI_add]; exact vp_in_nI (by omega) (by omega)
  have hi3 : vp_in (x3 + (3 : Int32)) L := by rw [hx3, show (3 : Int32) = nI 3 from rfl, nI_add]; exact vp_in_nI (by omega) (by omega)
  have hi4 : vp_in (x3 + (4 : Int32)) L := by rw [hx3, show (4 : Int32) = nI 4 from rfl, nI_add]; exact vp_in_nI (by omega) (by omega)
  refine lv_aload_n hx hb dL_law_449 rfl (lv_at hl 1 rfl) ?_
  refine lv_aload_n hx hb dL_law_450 rfl (lv_at hl 0 rfl) ?_
  refine lv_iload_n hx hb dL_law_451 rfl (lv_at hl 3 rfl) ?_
  refine lv_iconst (v := 1) hx hb dL_law_452 (by decide) ?_
  refine lv_iadd hx hb dL_law_453 ?_
  refine va_sld hx hb hX hbl hbA hS hi1 dL_law_454 ?_
  refine lv_aload_n hx hb dL_law_455 rfl (lv_at hl 0 rfl) ?_
  refine lv_iload_n hx hb dL_law_456 rfl (lv_at hl 3 rfl) ?_
  refine lv_iconst (v := 2) hx hb dL_law_457 (by decide) ?_
  refine lv_iadd hx hb dL_law_458 ?_
  refine va_sld hx hb hX hbl hbA hS hi2 dL_law_459 ?_
  refine k_rdVl (As := [.int (xs (Int32.toNatClampNeg (x3 + (1 : Int32)))), .int (xs (Int32.toNatClampNeg (x3 + (2 : Int32))))]) (rest := []) (ci := 4) (q0 := 0) ⟨hx, hb, hml, hown, hts⟩ k_self (e_n_counter l D aD aT ad af aJ aM aw ae aB ab cA σ ((xs (Int32.toNatClampNeg (x3 + (1 : Int32))))) ((xs (Int32.toNatClampNeg (x3 + (2 : Int32))))) hp1) kv_L_62 (hP.sub [0, 1, 2, 3, 4, 5, 6, 7, 8, 9] rfl) (hK.sub [0] rfl) rfl rfl rfl rfl ⟨Nat.le_of_ble_eq_true rfl, Nat.le_of_ble_eq_true rfl⟩ rfl hl.1 rfl (Nat.le_of_ble_eq_true rfl) dL_law_460 ⟨Nat.le_of_ble_eq_true rfl, Nat.le_of_ble_eq_true rfl⟩ ?_
  refine lv_aload_n hx hb dL_law_463 rfl (lv_at hl 2 rfl) ?_
  refine lv_aload_n hx hb dL_law_464 rfl (lv_at hl 0 rfl) ?_
  refine lv_iload_n hx hb dL_law_465 rfl (lv_at hl 3 rfl) ?_
  refine lv_iconst (v := 1) hx hb dL_law_466 (by decide) ?_
  refine lv_iadd hx hb dL_law_467 ?_
  refine va_sld hx hb hX hbl hbA hS hi1 dL_law_468 ?_
  refine lv_aload_n hx hb dL_law_469 rfl (lv_at hl 0 rfl) ?_
  refine lv_iload_n hx hb dL_law_470 rfl (lv_at hl 3 rfl) ?_
  refine lv_iconst (v := 2) hx hb dL_law_471 (by decide) ?_
  refine lv_iadd hx hb dL_law_472 ?_
  refine va_sld hx hb hX hbl hbA hS hi2 dL_law_473 ?_
  refine k_wrVl (As := [.int (xs (Int32.toNatClampNeg (x3 + (1 : Int32)))), .int (xs (Int32.toNatClampNeg (x3 + (2 : Int32))))]) (rest := [.long (nx_counter σ ((xs (Int32.toNatClampNeg (x3 + (1 : Int32))))) ((xs (Int32.toNatClampNeg (x3 + (2 : Int32)))))).1]) (ci := 5) (q0 := 0) (ws' := (wX aD aT ad af aJ aM aw ae aB ab cA σ ++ wY kO km kw kb kr kd kt cA (mx_counter τ ((xs (Int32.toNatClampNeg (x3 + (1 : Int32))))) ((xs (Int32.toNatClampNeg (x3 + (2 : Int32)))))).2)) (wr := (wX aD aT ad af aJ aM aw ae aB ab cA σ)) ⟨hx, hb, hml, hown, hts⟩ k_self (e_m_counter l D kO km kw kb kr kd kt cA τ ((xs (Int32.toNatClampNeg (x3 + (1 : Int32))))) ((xs (Int32.toNatClampNeg (x3 + (2 : Int32)))))) kv_L_66 hP hD hS hA hK rfl rfl [10, 11, 12, 13, 14, 15, 16] [0, 1, 2, 3, 4, 5, 6, 7, 8, 9] [0, 1, 2, 3, 4, 5, 6, 7, 8, 9, 10, 11, 12, 13, 14, 15, 16] rfl (by decide) rfl (by decide) (by decide) rfl (by decide) rfl rfl ⟨Nat.le_of_ble_eq_true rfl, Nat.le_of_ble_eq_true rfl⟩ rfl hl.1 rfl (Nat.le_of_ble_eq_true rfl) dL_law_474 ⟨Nat.le_of_ble_eq_true rfl, Nat.le_of_ble_eq_true rfl⟩ (fun H locs hP hD hS => ?_)
  refine W.lcmp hx hb dL_law_477 ?_
  refine lv_if_eq (tgt := 743) hx hb dL_law_478 (by decide) (fun c_1 => ?_) (fun c_1 => ?_)
  · have hq := hsim n σ τ ((xs (Int32.toNatClampNeg (x3 + (1 : Int32))))) ((xs (Int32.toNatClampNeg (x3 + (2 : Int32))))) hR
    exact kk _ _ H locs hq.2 hP hD hS
  · have hq := hsim n σ τ ((xs (Int32.toNatClampNeg (x3 + (1 : Int32))))) ((xs (Int32.toNatClampNeg (x3 + (2 : Int32))))) hR
    exact absurd (by rw [lg_cmp_eq]; exact hq.1) c_1
set_option maxHeartbeats 4000000 in
set_option maxRecDepth 100000 in
theorem law_dayTotal (Rel : RelT) (hpre : Sim_pre Rel) (hsim : Sim_dayTotal Rel) {p : Program} {l : Launch} {e : Env} {s : State} {m : MethodId} {below : List Frame} {meth : Method} {c : Code} {D : va_G} {cA : ClassId} {b L : Nat} {xs : Nat → Int32} (C0 : lw_At p s m meth c b L xs) {aD aT ad af aJ aM aw ae aB ab kO km kw kb kr kd kt n : Nat} {σ : SX} {τ : SK} {H : Heap} {locs : List Loc} {ls : Array Slot} {x3 : Int32} {i : Nat} (hx3 : x3 = nI i) (hi : i + 4 < L) (hLL : L ≤ 2561) (hR : Rel (n + 1) σ τ) (hK : va_K D vwCl [(cA, .int)] s) (hP : va_P D vwCl (wX aD aT ad af aJ aM aw ae aB ab cA σ ++ wY kO km kw kb kr kd kt cA τ) H) (hD : va_D (fun q : Nat => s.heap.size ≤ q) (wX aD aT ad af aJ aM aw ae aB ab cA σ ++ wY kO km kw kb kr kd kt cA τ)) (hS : va_S (fun q : Nat => s.heap.size ≤ q) s.heap H locs) (hl : lv_has ls 4 [(0, .ref b), (1, .ref aD), (2, .ref kO), (3, .int x3)])
    (kk : ∀ (σ' : SX) (τ' : SK) (H : Heap) (locs : List Loc), Rel n σ' τ' → va_P D vwCl (wX aD aT ad af aJ aM aw ae aB ab cA σ' ++ wY kO km kw kb kr kd kt cA τ') H → va_D (fun q : Nat => s.heap.size ≤ q) (wX aD aT ad af aJ aM aw ae aB ab cA σ' ++ wY kO km kw kb kr kd kt cA τ') → va_S (fun q : Nat => s.heap.size ≤ q) s.heap H locs → W p l e room_1 s m #[Value.ref b] below meth c H locs 17 9931 (lw_Z below #[Value.ref b] s) (F0 m 743 ls [])) : W p l e room_1 s m #[Value.ref b] below meth c H locs 17 9931 (lw_Z below #[Value.ref b] s) (F0 m 483 ls []) := by
  obtain ⟨hx, hb, hr, hml, hown0, hts0, hX, hbl, hlocks, hgv⟩ := C0
  have hown : s.vm.findClass RL = some m.cls := hown0
  have hts : ∀ w ∈ kG, w.before #[Value.ref b] s = true := fun w h => hts0 w (k_lw w h)
  have hA : ∀ q : Nat, s.heap.size ≤ q → (fun q : Nat => s.heap.size ≤ q) q := fun _ h => h
  have hbA : ¬ (fun q : Nat => s.heap.size ≤ q) b := Nat.not_le.mpr hbl
  obtain ⟨hp1, hp2, hp3⟩ := hpre _ _ _ hR
  have hi1 : vp_in (x3 + (1 : Int32)) L := by rw [hx3, show (1 : Int32) = nI 1 from rfl, nI_add]; exact vp_in_nI (by omega) (by omega)
  have hi2 : vp_in (x3 + (2 : Int32)) L := by rw [hx3, show (2 : Int32) = nI 2 from rfl, nI_add]; exact vp_in_nI (by omega) (by omega)
  have hi3 : vp_in (x3 + (3 : Int32)) L := by rw [hx3, show (3 : Int32) = nI 3 from rfl, nI_add]; exact vp_in_nI (by omega) (by omega)
  have hi4 : vp_in (x3 + (4 : Int32)) L := by rw [hx3, show (4 : Int32) = nI 4 from rfl, nI_add]; exact vp_in_nI (by omega) (by omega)
  refine lv_aload_n hx hb dL_law_483 rfl (lv_at hl 1 rfl) ?_
  refine lv_aload_n hx hb dL_law_484 rfl (lv_at hl 0 rfl) ?_
  refine lv_iload_n hx hb dL_law_485 rfl (lv_at hl 3 rfl) ?_
  refine lv_iconst (v := 1) hx hb dL_law_486 (by decide) ?_
  refine lv_iadd hx hb dL_law_487 ?_
  refine va_sld hx hb hX hbl hbA hS hi1 dL_law_488 ?_
  refine lv_aload_n hx hb dL_law_489 rfl (lv_at hl 0 rfl) ?_
  refine lv_iload_n hx hb dL_law_490 rfl (lv_at hl 3 rfl) ?_
  refine lv_iconst (v := 2) hx hb dL_law_491 (by decide) ?_
  refine lv_iadd hx hb dL_law_492 ?_
  refine va_sld hx hb hX hbl hbA hS hi2 dL_law_493 ?_
  refine k_rdVl (As := [.int (xs (Int32.toNatClampNeg (x3 + (1 : Int32)))), .int (xs (Int32.toNatClampNeg (x3 + (2 : Int32))))]) (rest := []) (ci := 4) (q0 := 0) ⟨hx, hb, hml, hown, hts⟩ k_self (e_n_dayTotal l D aD aT ad af aJ aM aw ae aB ab cA σ ((xs (Int32.toNatClampNeg (x3 + (1 : Int32))))) ((xs (Int32.toNatClampNeg (x3 + (2 : Int32))))) hp1) kv_L_67 (hP.sub [0, 1, 2, 3, 4, 5, 6, 7, 8, 9] rfl) (hK.sub [0] rfl) rfl rfl rfl rfl ⟨Nat.le_of_ble_eq_true rfl, Nat.le_of_ble_eq_true rfl⟩ rfl hl.1 rfl (Nat.le_of_ble_eq_true rfl) dL_law_494 ⟨Nat.le_of_ble_eq_true rfl, Nat.le_of_ble_eq_true rfl⟩ ?_
  refine lv_aload_n hx hb dL_law_497 rfl (lv_at hl 2 rfl) ?_
  refine lv_aload_n hx hb dL_law_498 rfl (lv_at hl 0 rfl) ?_
  refine lv_iload_n hx hb dL_law_499 rfl (lv_at hl 3 rfl) ?_
  refine lv_iconst (v := 1) hx hb dL_law_500 (by decide) ?_
  refine lv_iadd hx hb dL_law_501 ?_
  refine va_sld hx hb hX hbl hbA hS hi1 dL_law_502 ?_
  refine lv_aload_n hx hb dL_law_503 rfl (lv_at hl 0 rfl) ?_
  refine lv_iload_n hx hb dL_law_504 rfl (lv_at hl 3 rfl) ?_
  refine lv_iconst (v := 2) hx hb dL_law_505 (by decide) ?_
  refine lv_iadd hx hb dL_law_506 ?_
  refine va_sld hx hb hX hbl hbA hS hi2 dL_law_507 ?_
  refine k_wrVl (As := [.int (xs (Int32.toNatClampNeg (x3 + (1 : Int32)))), .int (xs (Int32.toNatClampNeg (x3 + (2 : Int32))))]) (rest := [.long (nx_dayTotal σ ((xs (Int32.toNatClampNeg (x3 + (1 : Int32))))) ((xs (Int32.toNatClampNeg (x3 + (2 : Int32)))))).1]) (ci := 5) (q0 := 0) (ws' := (wX aD aT ad af aJ aM aw ae aB ab cA σ ++ wY kO km kw kb kr kd kt cA (mx_dayTotal τ ((xs (Int32.toNatClampNeg (x3 + (1 : Int32))))) ((xs (Int32.toNatClampNeg (x3 + (2 : Int32)))))).2)) (wr := (wX aD aT ad af aJ aM aw ae aB ab cA σ)) ⟨hx, hb, hml, hown, hts⟩ k_self (e_m_dayTotal l D kO km kw kb kr kd kt cA τ ((xs (Int32.toNatClampNeg (x3 + (1 : Int32))))) ((xs (Int32.toNatClampNeg (x3 + (2 : Int32)))))) kv_L_70 hP hD hS hA hK rfl rfl [10, 11, 12, 13, 14, 15, 16] [0, 1, 2, 3, 4, 5, 6, 7, 8, 9] [0, 1, 2, 3, 4, 5, 6, 7, 8, 9, 10, 11, 12, 13, 14, 15, 16] rfl (by decide) rfl (by decide) (by decide) rfl (by decide) rfl rfl ⟨Nat.le_of_ble_eq_true rfl, Nat.le_of_ble_eq_true rfl⟩ rfl hl.1 rfl (Nat.le_of_ble_eq_true rfl) dL_law_508 ⟨Nat.le_of_ble_eq_true rfl, Nat.le_of_ble_eq_true rfl⟩ (fun H locs hP hD hS => ?_)
  refine W.lcmp hx hb dL_law_511 ?_
  refine lv_if_eq (tgt := 743) hx hb dL_law_512 (by decide) (fun c_1 => ?_) (fun c_1 => ?_)
  · have hq := hsim n σ τ ((xs (Int32.toNatClampNeg (x3 + (1 : Int32))))) ((xs (Int32.toNatClampNeg (x3 + (2 : Int32))))) hR
    exact kk _ _ H locs hq.2 hP hD hS
  · have hq := hsim n σ τ ((xs (Int32.toNatClampNeg (x3 + (1 : Int32))))) ((xs (Int32.toNatClampNeg (x3 + (2 : Int32))))) hR
    exact absurd (by rw [lg_cmp_eq]; exact hq.1) c_1
set_option maxHeartbeats 4000000 in
set_option maxRecDepth 100000 in
theorem law_inspect (Rel : RelT) (hpre : Sim_pre Rel) (hsim : Sim_inspect Rel) {p : Program} {l : Launch} {e : Env} {s : State} {m : MethodId} {below : List Frame} {meth : Method} {c : Code} {D : va_G} {cA : ClassId} {b L : Nat} {xs : Nat → Int32} (C0 : lw_At p s m meth c b L xs) {aD aT ad af aJ aM aw ae aB ab kO km kw kb kr kd kt n : Nat} {σ : SX} {τ : SK} {H : Heap} {locs : List Loc} {ls : Array Slot} {x3 : Int32} {i : Nat} (hx3 : x3 = nI i) (hi : i + 4 < L) (hLL : L ≤ 2561) (hR : Rel (n + 1) σ τ) (hK : va_K D vwCl [(cA, .int)] s) (hP : va_P D vwCl (wX aD aT ad af aJ aM aw ae aB ab cA σ ++ wY kO km kw kb kr kd kt cA τ) H) (hD : va_D (fun q : Nat => s.heap.size ≤ q) (wX aD aT ad af aJ aM aw ae aB ab cA σ ++ wY kO km kw kb kr kd kt cA τ)) (hS : va_S (fun q : Nat => s.heap.size ≤ q) s.heap H locs) (hl : lv_has ls 4 [(0, .ref b), (1, .ref aD), (2, .ref kO), (3, .int x3)])
    (kk : ∀ (σ' : SX) (τ' : SK) (H : Heap) (locs : List Loc), Rel n σ' τ' → va_P D vwCl (wX aD aT ad af aJ aM aw ae aB ab cA σ' ++ wY kO km kw kb kr kd kt cA τ') H → va_D (fun q : Nat => s.heap.size ≤ q) (wX aD aT ad af aJ aM aw ae aB ab cA σ' ++ wY kO km kw kb kr kd kt cA τ') → va_S (fun q : Nat => s.heap.size ≤ q) s.heap H locs → W p l e room_1 s m #[Value.ref b] below meth c H locs 17 9931 (lw_Z below #[Value.ref b] s) (F0 m 743 ls [])) : W p l e room_1 s m #[Value.ref b] below meth c H locs 17 9931 (lw_Z below #[Value.ref b] s) (F0 m 517 ls []) := by
  obtain ⟨hx, hb, hr, hml, hown0, hts0, hX, hbl, hlocks, hgv⟩ := C0
  have hown : s.vm.findClass RL = some m.cls := hown0
  have hts : ∀ w ∈ kG, w.before #[Value.ref b] s = true := fun w h => hts0 w (k_lw w h)
  have hA : ∀ q : Nat, s.heap.size ≤ q → (fun q : Nat => s.heap.size ≤ q) q := fun _ h => h
  have hbA : ¬ (fun q : Nat => s.heap.size ≤ q) b := Nat.not_le.mpr hbl
  obtain ⟨hp1, hp2, hp3⟩ := hpre _ _ _ hR
  have hi1 : vp_in (x3 + (1 : Int32)) L := by rw [hx3, show (1 : Int32) = nI 1 from rfl, nI_add]; exact vp_in_nI (by omega) (by omega)
  have hi2 : vp_in (x3 + (2 : Int32)) L := by rw [hx3, show (2 : Int32) = nI 2 from rfl, nI_add]; exact vp_in_nI (by omega) (by omega)
  have hi3 : vp_in (x3 + (3 : Int32)) L := by rw [hx3, show (3 : Int32) = nI 3 from rfl, nI_add]; exact vp_in_nI (by omega) (by omega)
  have hi4 : vp_in (x3 + (4 : Int32)) L := by rw [hx3, show (4 : Int32) = nI 4 from rfl, nI_add]; exact vp_in_nI (by omega) (by omega)
  refine lv_aload_n hx hb dL_law_517 rfl (lv_at hl 1 rfl) ?_
  refine lv_aload_n hx hb dL_law_518 rfl (lv_at hl 0 rfl) ?_
  refine lv_iload_n hx hb dL_law_519 rfl (lv_at hl 3 rfl) ?_
  refine lv_iconst (v := 1) hx hb dL_law_520 (by decide) ?_
  refine lv_iadd hx hb dL_law_521 ?_
  refine va_sld hx hb hX hbl hbA hS hi1 dL_law_522 ?_
  refine k_wrVi (As := [.int (xs (Int32.toNatClampNeg (x3 + (1 : Int32))))]) (rest := []) (ci := 4) (q0 := 0) (ws' := (wX aD aT ad af aJ aM aw ae aB ab cA (nx_inspect σ ((xs (Int32.toNatClampNeg (x3 + (1 : Int32)))))).2 ++ wY kO km kw kb kr kd kt cA τ)) (wr := (wY kO km kw kb kr kd kt cA τ)) ⟨hx, hb, hml, hown, hts⟩ k_self (e_n_inspect l D aD aT ad af aJ aM aw ae aB ab cA σ ((xs (Int32.toNatClampNeg (x3 + (1 : Int32))))) hp1) kv_L_71 hP hD hS hA hK rfl rfl [0, 1, 2, 3, 4, 5, 6, 7, 8, 9] [10, 11, 12, 13, 14, 15, 16] [7, 8, 9, 10, 11, 12, 13, 14, 15, 16, 0, 1, 2, 3, 4, 5, 6] rfl (by decide) rfl (by decide) (by decide) rfl (by decide) rfl rfl ⟨Nat.le_of_ble_eq_true rfl, Nat.le_of_ble_eq_true rfl⟩ rfl hl.1 rfl (Nat.le_of_ble_eq_true rfl) dL_law_523 ⟨Nat.le_of_ble_eq_true rfl, Nat.le_of_ble_eq_true rfl⟩ (fun H locs hP hD hS => ?_)
  refine lv_aload_n hx hb dL_law_526 rfl (lv_at hl 2 rfl) ?_
  refine lv_aload_n hx hb dL_law_527 rfl (lv_at hl 0 rfl) ?_
  refine lv_iload_n hx hb dL_law_528 rfl (lv_at hl 3 rfl) ?_
  refine lv_iconst (v := 1) hx hb dL_law_529 (by decide) ?_
  refine lv_iadd hx hb dL_law_530 ?_
  refine va_sld hx hb hX hbl hbA hS hi1 dL_law_531 ?_
  refine k_wrVi (As := [.int (xs (Int32.toNatClampNeg (x3 + (1 : Int32))))]) (rest := [.int (nx_inspect σ ((xs (Int32.toNatClampNeg (x3 + (1 : Int32)))))).1]) (ci := 5) (q0 := 0) (ws' := (wX aD aT ad af aJ aM aw ae aB ab cA (nx_inspect σ ((xs (Int32.toNatClampNeg (x3 + (1 : Int32)))))).2 ++ wY kO km kw kb kr kd kt cA (mx_inspect τ ((xs (Int32.toNatClampNeg (x3 + (1 : Int32)))))).2)) (wr := (wX aD aT ad af aJ aM aw ae aB ab cA (nx_inspect σ ((xs (Int32.toNatClampNeg (x3 + (1 : Int32)))))).2)) ⟨hx, hb, hml, hown, hts⟩ k_self (e_m_inspect l D kO km kw kb kr kd kt cA τ ((xs (Int32.toNatClampNeg (x3 + (1 : Int32))))) hp2) kv_L_74 hP hD hS hA hK rfl rfl [10, 11, 12, 13, 14, 15, 16] [0, 1, 2, 3, 4, 5, 6, 7, 8, 9] [0, 1, 2, 3, 4, 5, 6, 7, 8, 9, 10, 11, 12, 13, 14, 15, 16] rfl (by decide) rfl (by decide) (by decide) rfl (by decide) rfl rfl ⟨Nat.le_of_ble_eq_true rfl, Nat.le_of_ble_eq_true rfl⟩ rfl hl.1 rfl (Nat.le_of_ble_eq_true rfl) dL_law_532 ⟨Nat.le_of_ble_eq_true rfl, Nat.le_of_ble_eq_true rfl⟩ (fun H locs hP hD hS => ?_)
  refine lv_icmp_eq (tgt := 743) hx hb dL_law_535 (by decide) (fun c_1 => ?_) (fun c_1 => ?_)
  · have hq := hsim n σ τ ((xs (Int32.toNatClampNeg (x3 + (1 : Int32))))) hR
    exact kk _ _ H locs hq.2 hP hD hS
  · have hq := hsim n σ τ ((xs (Int32.toNatClampNeg (x3 + (1 : Int32))))) hR
    exact absurd hq.1 c_1
set_option maxHeartbeats 4000000 in
set_option maxRecDepth 100000 in
theorem law_lock (Rel : RelT) (hpre : Sim_pre Rel) (hsim : Sim_lock Rel) {p : Program} {l : Launch} {e : Env} {s : State} {m : MethodId} {below : List Frame} {meth : Method} {c : Code} {D : va_G} {cA : ClassId} {b L : Nat} {xs : Nat → Int32} (C0 : lw_At p s m meth c b L xs) {aD aT ad af aJ aM aw ae aB ab kO km kw kb kr kd kt n : Nat} {σ : SX} {τ : SK} {H : Heap} {locs : List Loc} {ls : Array Slot} {x3 : Int32} {i : Nat} (hx3 : x3 = nI i) (hi : i + 4 < L) (hLL : L ≤ 2561) (hR : Rel (n + 1) σ τ) (hK : va_K D vwCl [(cA, .int)] s) (hP : va_P D vwCl (wX aD aT ad af aJ aM aw ae aB ab cA σ ++ wY kO km kw kb kr kd kt cA τ) H) (hD : va_D (fun q : Nat => s.heap.size ≤ q) (wX aD aT ad af aJ aM aw ae aB ab cA σ ++ wY kO km kw kb kr kd kt cA τ)) (hS : va_S (fun q : Nat => s.heap.size ≤ q) s.heap H locs) (hl : lv_has ls 4 [(0, .ref b), (1, .ref aD), (2, .ref kO), (3, .int x3)])
    (kk : ∀ (σ' : SX) (τ' : SK) (H : Heap) (locs : List Loc), Rel n σ' τ' → va_P D vwCl (wX aD aT ad af aJ aM aw ae aB ab cA σ' ++ wY kO km kw kb kr kd kt cA τ') H → va_D (fun q : Nat => s.heap.size ≤ q) (wX aD aT ad af aJ aM aw ae aB ab cA σ' ++ wY kO km kw kb kr kd kt cA τ') → va_S (fun q : Nat => s.heap.size ≤ q) s.heap H locs → W p l e room_1 s m #[Value.ref b] below meth c H locs 17 9931 (lw_Z below #[Value.ref b] s) (F0 m 743 ls [])) : W p l e room_1 s m #[Value.ref b] below meth c H locs 17 9931 (lw_Z below #[Value.ref b] s) (F0 m 540 ls []) := by
  obtain ⟨hx, hb, hr, hml, hown0, hts0, hX, hbl, hlocks, hgv⟩ := C0
  have hown : s.vm.findClass RL = some m.cls := hown0
  have hts : ∀ w ∈ kG, w.before #[Value.ref b] s = true := fun w h => hts0 w (k_lw w h)
  have hA : ∀ q : Nat, s.heap.size ≤ q → (fun q : Nat => s.heap.size ≤ q) q := fun _ h => h
  have hbA : ¬ (fun q : Nat => s.heap.size ≤ q) b := Nat.not_le.mpr hbl
  obtain ⟨hp1, hp2, hp3⟩ := hpre _ _ _ hR
  have hi1 : vp_in (x3 + (1 : Int32)) L := by rw [hx3, show (1 : Int32) = nI 1 from rfl, nI_add]; exact vp_in_nI (by omega) (by omega)
  have hi2 : vp_in (x3 + (2 : Int32)) L := by rw [hx3, show (2 : Int32) = nI 2 from rfl, nI_add]; exact vp_in_nI (by omega) (by omega)
  have hi3 : vp_in (x3 + (3 : Int32)) L := by rw [hx3, show (3 : Int32) = nI 3 from rfl, nI_add]; exact vp_in_nI (by omega) (by omega)
  have hi4 : vp_in (x3 + (4 : Int32)) L := by rw [hx3, show (4 : Int32) = nI 4 from rfl, nI_add]; exact vp_in_nI (by omega) (by omega)
  refine lv_aload_n hx hb dL_law_540 rfl (lv_at hl 1 rfl) ?_
  refine k_wrVi (As := []) (rest := []) (ci := 4) (q0 := 0) (ws' := (wX aD aT ad af aJ aM aw ae aB ab cA (nx_lock σ ).2 ++ wY kO km kw kb kr kd kt cA τ)) (wr := (wY kO km kw kb kr kd kt cA τ)) ⟨hx, hb, hml, hown, hts⟩ k_self (e_n_lock l D aD aT ad af aJ aM aw ae aB ab cA σ  hp1) kv_L_75 hP hD hS hA hK rfl rfl [0, 1, 2, 3, 4, 5, 6, 7, 8, 9] [10, 11, 12, 13, 14, 15, 16] [7, 8, 9, 10, 11, 12, 13, 14, 15, 16, 0, 1, 2, 3, 4, 5, 6] rfl (by decide) rfl (by decide) (by decide) rfl (by decide) rfl rfl ⟨Nat.le_of_ble_eq_true rfl, Nat.le_of_ble_eq_true rfl⟩ rfl hl.1 rfl (Nat.le_of_ble_eq_true rfl) dL_law_541 ⟨Nat.le_of_ble_eq_true rfl, Nat.le_of_ble_eq_true rfl⟩ (fun H locs hP hD hS => ?_)
  refine lv_aload_n hx hb dL_law_544 rfl (lv_at hl 2 rfl) ?_
  refine k_wrVi (As := []) (rest := [.int (nx_lock σ ).1]) (ci := 5) (q0 := 0) (ws' := (wX aD aT ad af aJ aM aw ae aB ab cA (nx_lock σ ).2 ++ wY kO km kw kb kr kd kt cA (mx_lock τ ).2)) (wr := (wX aD aT ad af aJ aM aw ae aB ab cA (nx_lock σ ).2)) ⟨hx, hb, hml, hown, hts⟩ k_self (e_m_lock l D kO km kw kb kr kd kt cA τ  hp2) kv_L_79 hP hD hS hA hK rfl rfl [10, 11, 12, 13, 14, 15, 16] [0, 1, 2, 3, 4, 5, 6, 7, 8, 9] [0, 1, 2, 3, 4, 5, 6, 7, 8, 9, 10, 11, 12, 13, 14, 15, 16] rfl (by decide) rfl (by decide) (by decide) rfl (by decide) rfl rfl ⟨Nat.le_of_ble_eq_true rfl, Nat.le_of_ble_eq_true rfl⟩ rfl hl.1 rfl (Nat.le_of_ble_eq_true rfl) dL_law_545 ⟨Nat.le_of_ble_eq_true rfl, Nat.le_of_ble_eq_true rfl⟩ (fun H locs hP hD hS => ?_)
  refine lv_icmp_eq (tgt := 743) hx hb dL_law_548 (by decide) (fun c_1 => ?_) (fun c_1 => ?_)
  · have hq := hsim n σ τ  hR
    exact kk _ _ H locs hq.2 hP hD hS
  · have hq := hsim n σ τ  hR
    exact absurd hq.1 c_1
set_option maxHeartbeats 4000000 in
set_option maxRecDepth 100000 in
theorem law_unlock (Rel : RelT) (hpre : Sim_pre Rel) (hsim : Sim_unlock Rel) {p : Program} {l : Launch} {e : Env} {s : State} {m : MethodId} {below : List Frame} {meth : Method} {c : Code} {D : va_G} {cA : ClassId} {b L : Nat} {xs : Nat → Int32} (C0 : lw_At p s m meth c b L xs) {aD aT ad af aJ aM aw ae aB ab kO km kw kb kr kd kt n : Nat} {σ : SX} {τ : SK} {H : Heap} {locs : List Loc} {ls : Array Slot} {x3 : Int32} {i : Nat} (hx3 : x3 = nI i) (hi : i + 4 < L) (hLL : L ≤ 2561) (hR : Rel (n + 1) σ τ) (hK : va_K D vwCl [(cA, .int)] s) (hP : va_P D vwCl (wX aD aT ad af aJ aM aw ae aB ab cA σ ++ wY kO km kw kb kr kd kt cA τ) H) (hD : va_D (fun q : Nat => s.heap.size ≤ q) (wX aD aT ad af aJ aM aw ae aB ab cA σ ++ wY kO km kw kb kr kd kt cA τ)) (hS : va_S (fun q : Nat => s.heap.size ≤ q) s.heap H locs) (hl : lv_has ls 4 [(0, .ref b), (1, .ref aD), (2, .ref kO), (3, .int x3)])
    (kk : ∀ (σ' : SX) (τ' : SK) (H : Heap) (locs : List Loc), Rel n σ' τ' → va_P D vwCl (wX aD aT ad af aJ aM aw ae aB ab cA σ' ++ wY kO km kw kb kr kd kt cA τ') H → va_D (fun q : Nat => s.heap.size ≤ q) (wX aD aT ad af aJ aM aw ae aB ab cA σ' ++ wY kO km kw kb kr kd kt cA τ') → va_S (fun q : Nat => s.heap.size ≤ q) s.heap H locs → W p l e room_1 s m #[Value.ref b] below meth c H locs 17 9931 (lw_Z below #[Value.ref b] s) (F0 m 743 ls [])) : W p l e room_1 s m #[Value.ref b] below meth c H locs 17 9931 (lw_Z below #[Value.ref b] s) (F0 m 553 ls []) := by
  obtain ⟨hx, hb, hr, hml, hown0, hts0, hX, hbl, hlocks, hgv⟩ := C0
  have hown : s.vm.findClass RL = some m.cls := hown0
  have hts : ∀ w ∈ kG, w.before #[Value.ref b] s = true := fun w h => hts0 w (k_lw w h)
  have hA : ∀ q : Nat, s.heap.size ≤ q → (fun q : Nat => s.heap.size ≤ q) q := fun _ h => h
  have hbA : ¬ (fun q : Nat => s.heap.size ≤ q) b := Nat.not_le.mpr hbl
  obtain ⟨hp1, hp2, hp3⟩ := hpre _ _ _ hR
  have hi1 : vp_in (x3 + (1 : Int32)) L := by rw [hx3, show (1 : Int32) = nI 1 from rfl, nI_add]; exact vp_in_nI (by omega) (by omega)
  have hi2 : vp_in (x3 + (2 : Int32)) L := by rw [hx3, show (2 : Int32) = nI 2 from rfl, nI_add]; exact vp_in_nI (by omega) (by omega)
  have hi3 : vp_in (x3 + (3 : Int32)) L := by rw [hx3, show (3 : Int32) = nI 3 from rfl, nI_add]; exact vp_in_nI (by omega) (by omega)
  have hi4 : vp_in (x3 + (4 : Int32)) L := by rw [hx3, show (4 : Int32) = nI 4 from rfl, nI_add]; exact vp_in_nI (by omega) (by omega)
  refine lv_aload_n hx hb dL_law_553 rfl (lv_at hl 1 rfl) ?_
  refine lv_aload_n hx hb dL_law_554 rfl (lv_at hl 0 rfl) ?_
  refine lv_iload_n hx hb dL_law_555 rfl (lv_at hl 3 rfl) ?_
  refine lv_iconst (v := 1) hx hb dL_law_556 (by decide) ?_
  refine lv_iadd hx hb dL_law_557 ?_
  refine va_sld hx hb hX hbl hbA hS hi1 dL_law_558 ?_
  refine k_wrVi (As := [.int (xs (Int32.toNatClampNeg (x3 + (1 : Int32))))]) (rest := []) (ci := 4) (q0 := 0) (ws' := (wX aD aT ad af aJ aM aw ae aB ab cA (nx_unlock σ ((xs (Int32.toNatClampNeg (x3 + (1 : Int32)))))).2 ++ wY kO km kw kb kr kd kt cA τ)) (wr := (wY kO km kw kb kr kd kt cA τ)) ⟨hx, hb, hml, hown, hts⟩ k_self (e_n_unlock l D aD aT ad af aJ aM aw ae aB ab cA σ ((xs (Int32.toNatClampNeg (x3 + (1 : Int32))))) hp1) kv_L_80 hP hD hS hA hK rfl rfl [0, 1, 2, 3, 4, 5, 6, 7, 8, 9] [10, 11, 12, 13, 14, 15, 16] [7, 8, 9, 10, 11, 12, 13, 14, 15, 16, 0, 1, 2, 3, 4, 5, 6] rfl (by decide) rfl (by decide) (by decide) rfl (by decide) rfl rfl ⟨Nat.le_of_ble_eq_true rfl, Nat.le_of_ble_eq_true rfl⟩ rfl hl.1 rfl (Nat.le_of_ble_eq_true rfl) dL_law_559 ⟨Nat.le_of_ble_eq_true rfl, Nat.le_of_ble_eq_true rfl⟩ (fun H locs hP hD hS => ?_)
  refine lv_aload_n hx hb dL_law_562 rfl (lv_at hl 2 rfl) ?_
  refine lv_aload_n hx hb dL_law_563 rfl (lv_at hl 0 rfl) ?_
  refine lv_iload_n hx hb dL_law_564 rfl (lv_at hl 3 rfl) ?_
  refine lv_iconst (v := 1) hx hb dL_law_565 (by decide) ?_
  refine lv_iadd hx hb dL_law_566 ?_
  refine va_sld hx hb hX hbl hbA hS hi1 dL_law_567 ?_
  refine k_wrVi (As := [.int (xs (Int32.toNatClampNeg (x3 + (1 : Int32))))]) (rest := [.int (nx_unlock σ ((xs (Int32.toNatClampNeg (x3 + (1 : Int32)))))).1]) (ci := 5) (q0 := 0) (ws' := (wX aD aT ad af aJ aM aw ae aB ab cA (nx_unlock σ ((xs (Int32.toNatClampNeg (x3 + (1 : Int32)))))).2 ++ wY kO km kw kb kr kd kt cA (mx_unlock τ ((xs (Int32.toNatClampNeg (x3 + (1 : Int32)))))).2)) (wr := (wX aD aT ad af aJ aM aw ae aB ab cA (nx_unlock σ ((xs (Int32.toNatClampNeg (x3 + (1 : Int32)))))).2)) ⟨hx, hb, hml, hown, hts⟩ k_self (e_m_unlock l D kO km kw kb kr kd kt cA τ ((xs (Int32.toNatClampNeg (x3 + (1 : Int32))))) hp2) kv_L_83 hP hD hS hA hK rfl rfl [10, 11, 12, 13, 14, 15, 16] [0, 1, 2, 3, 4, 5, 6, 7, 8, 9] [0, 1, 2, 3, 4, 5, 6, 7, 8, 9, 10, 11, 12, 13, 14, 15, 16] rfl (by decide) rfl (by decide) (by decide) rfl (by decide) rfl rfl ⟨Nat.le_of_ble_eq_true rfl, Nat.le_of_ble_eq_true rfl⟩ rfl hl.1 rfl (Nat.le_of_ble_eq_true rfl) dL_law_568 ⟨Nat.le_of_ble_eq_true rfl, Nat.le_of_ble_eq_true rfl⟩ (fun H locs hP hD hS => ?_)
  refine lv_icmp_eq (tgt := 743) hx hb dL_law_571 (by decide) (fun c_1 => ?_) (fun c_1 => ?_)
  · have hq := hsim n σ τ ((xs (Int32.toNatClampNeg (x3 + (1 : Int32))))) hR
    exact kk _ _ H locs hq.2 hP hD hS
  · have hq := hsim n σ τ ((xs (Int32.toNatClampNeg (x3 + (1 : Int32))))) hR
    exact absurd hq.1 c_1
set_option maxHeartbeats 4000000 in
set_option maxRecDepth 100000 in
theorem law_cut (Rel : RelT) (hpre : Sim_pre Rel) (hsim : Sim_cut Rel) {p : Program} {l : Launch} {e : Env} {s : State} {m : MethodId} {below : List Frame} {meth : Method} {c : Code} {D : va_G} {cA : ClassId} {b L : Nat} {xs : Nat → Int32} (C0 : lw_At p s m meth c b L xs) {aD aT ad af aJ aM aw ae aB ab kO km kw kb kr kd kt n : Nat} {σ : SX} {τ : SK} {H : Heap} {locs : List Loc} {ls : Array Slot} {x3 : Int32} {i : Nat} (hx3 : x3 = nI i) (hi : i + 4 < L) (hLL : L ≤ 2561) (hR : Rel (n + 1) σ τ) (hK : va_K D vwCl [(cA, .int)] s) (hP : va_P D vwCl (wX aD aT ad af aJ aM aw ae aB ab cA σ ++ wY kO km kw kb kr kd kt cA τ) H) (hD : va_D (fun q : Nat => s.heap.size ≤ q) (wX aD aT ad af aJ aM aw ae aB ab cA σ ++ wY kO km kw kb kr kd kt cA τ)) (hS : va_S (fun q : Nat => s.heap.size ≤ q) s.heap H locs) (hl : lv_has ls 4 [(0, .ref b), (1, .ref aD), (2, .ref kO), (3, .int x3)])
    (kk : ∀ (σ' : SX) (τ' : SK) (H : Heap) (locs : List Loc), Rel n σ' τ' → va_P D vwCl (wX aD aT ad af aJ aM aw ae aB ab cA σ' ++ wY kO km kw kb kr kd kt cA τ') H → va_D (fun q : Nat => s.heap.size ≤ q) (wX aD aT ad af aJ aM aw ae aB ab cA σ' ++ wY kO km kw kb kr kd kt cA τ') → va_S (fun q : Nat => s.heap.size ≤ q) s.heap H locs → W p l e room_1 s m #[Value.ref b] below meth c H locs 17 9931 (lw_Z below #[Value.ref b] s) (F0 m 743 ls [])) : W p l e room_1 s m #[Value.ref b] below meth c H locs 17 9931 (lw_Z below #[Value.ref b] s) (F0 m 576 ls []) := by
  obtain ⟨hx, hb, hr, hml, hown0, hts0, hX, hbl, hlocks, hgv⟩ := C0
  have hown : s.vm.findClass RL = some m.cls := hown0
  have hts : ∀ w ∈ kG, w.before #[Value.ref b] s = true := fun w h => hts0 w (k_lw w h)
  have hA : ∀ q : Nat, s.heap.size ≤ q → (fun q : Nat => s.heap.size ≤ q) q := fun _ h => h
  have hbA : ¬ (fun q : Nat => s.heap.size ≤ q) b := Nat.not_le.mpr hbl
  obtain ⟨hp1, hp2, hp3⟩ := hpre _ _ _ hR
  have hi1 : vp_in (x3 + (1 : Int32)) L := by rw [hx3, show (1 : Int32) = nI 1 from rfl, nI_add]; exact vp_in_nI (by omega) (by omega)
  have hi2 : vp_in (x3 + (2 : Int32)) L := by rw [hx3, show (2 : Int32) = nI 2 from rfl, nI_add]; exact vp_in_nI (by omega) (by omega)
  have hi3 : vp_in (x3 + (3 : Int32)) L := by rw [hx3, show (3 : Int32) = nI 3 from rfl, nI_add]; exact vp_in_nI (by omega) (by omega)
  have hi4 : vp_in (x3 + (4 : Int32)) L := by rw [hx3, show (4 : Int32) = nI 4 from rfl, nI_add]; exact vp_in_nI (by omega) (by omega)
  refine lv_aload_n hx hb dL_law_576 rfl (lv_at hl 1 rfl) ?_
  refine lv_aload_n hx hb dL_law_577 rfl (lv_at hl 0 rfl) ?_
  refine lv_iload_n hx hb dL_law_578 rfl (lv_at hl 3 rfl) ?_
  refine lv_iconst (v := 1) hx hb dL_law_579 (by decide) ?_
  refine lv_iadd hx hb dL_law_580 ?_
  refine va_sld hx hb hX hbl hbA hS hi1 dL_law_581 ?_
  refine lv_aload_n hx hb dL_law_582 rfl (lv_at hl 0 rfl) ?_
  refine lv_iload_n hx hb dL_law_583 rfl (lv_at hl 3 rfl) ?_
  refine lv_iconst (v := 2) hx hb dL_law_584 (by decide) ?_
  refine lv_iadd hx hb dL_law_585 ?_
  refine va_sld hx hb hX hbl hbA hS hi2 dL_law_586 ?_
  refine k_wrVi (As := [.int (xs (Int32.toNatClampNeg (x3 + (1 : Int32)))), .int (xs (Int32.toNatClampNeg (x3 + (2 : Int32))))]) (rest := []) (ci := 4) (q0 := 0) (ws' := (wX aD aT ad af aJ aM aw ae aB ab cA (nx_cut σ ((xs (Int32.toNatClampNeg (x3 + (1 : Int32))))) ((xs (Int32.toNatClampNeg (x3 + (2 : Int32)))))).2 ++ wY kO km kw kb kr kd kt cA τ)) (wr := (wY kO km kw kb kr kd kt cA τ)) ⟨hx, hb, hml, hown, hts⟩ k_self (e_n_cut l D aD aT ad af aJ aM aw ae aB ab cA σ ((xs (Int32.toNatClampNeg (x3 + (1 : Int32))))) ((xs (Int32.toNatClampNeg (x3 + (2 : Int32)))))) kv_L_84 hP hD hS hA hK rfl rfl [0, 1, 2, 3, 4, 5, 6, 7, 8, 9] [10, 11, 12, 13, 14, 15, 16] [7, 8, 9, 10, 11, 12, 13, 14, 15, 16, 0, 1, 2, 3, 4, 5, 6] rfl (by decide) rfl (by decide) (by decide) rfl (by decide) rfl rfl ⟨Nat.le_of_ble_eq_true rfl, Nat.le_of_ble_eq_true rfl⟩ rfl hl.1 rfl (Nat.le_of_ble_eq_true rfl) dL_law_587 ⟨Nat.le_of_ble_eq_true rfl, Nat.le_of_ble_eq_true rfl⟩ (fun H locs hP hD hS => ?_)
  refine lv_aload_n hx hb dL_law_590 rfl (lv_at hl 2 rfl) ?_
  refine lv_aload_n hx hb dL_law_591 rfl (lv_at hl 0 rfl) ?_
  refine lv_iload_n hx hb dL_law_592 rfl (lv_at hl 3 rfl) ?_
  refine lv_iconst (v := 1) hx hb dL_law_593 (by decide) ?_
  refine lv_iadd hx hb dL_law_594 ?_
  refine va_sld hx hb hX hbl hbA hS hi1 dL_law_595 ?_
  refine lv_aload_n hx hb dL_law_596 rfl (lv_at hl 0 rfl) ?_
  refine lv_iload_n hx hb dL_law_597 rfl (lv_at hl 3 rfl) ?_
  refine lv_iconst (v := 2) hx hb dL_law_598 (by decide) ?_
  refine lv_iadd hx hb dL_law_599 ?_
  refine va_sld hx hb hX hbl hbA hS hi2 dL_law_600 ?_
  refine k_wrVi (As := [.int (xs (Int32.toNatClampNeg (x3 + (1 : Int32)))), .int (xs (Int32.toNatClampNeg (x3 + (2 : Int32))))]) (rest := [.int (nx_cut σ ((xs (Int32.toNatClampNeg (x3 + (1 : Int32))))) ((xs (Int32.toNatClampNeg (x3 + (2 : Int32)))))).1]) (ci := 5) (q0 := 0) (ws' := (wX aD aT ad af aJ aM aw ae aB ab cA (nx_cut σ ((xs (Int32.toNatClampNeg (x3 + (1 : Int32))))) ((xs (Int32.toNatClampNeg (x3 + (2 : Int32)))))).2 ++ wY kO km kw kb kr kd kt cA (mx_cut τ ((xs (Int32.toNatClampNeg (x3 + (1 : Int32))))) ((xs (Int32.toNatClampNeg (x3 + (2 : Int32)))))).2)) (wr := (wX aD aT ad af aJ aM aw ae aB ab cA (nx_cut σ ((xs (Int32.toNatClampNeg (x3 + (1 : Int32))))) ((xs (Int32.toNatClampNeg (x3 + (2 : Int32)))))).2)) ⟨hx, hb, hml, hown, hts⟩ k_self (e_m_cut l D kO km kw kb kr kd kt cA τ ((xs (Int32.toNatClampNeg (x3 + (1 : Int32))))) ((xs (Int32.toNatClampNeg (x3 + (2 : Int32)))))) kv_L_87 hP hD hS hA hK rfl rfl [10, 11, 12, 13, 14, 15, 16] [0, 1, 2, 3, 4, 5, 6, 7, 8, 9] [0, 1, 2, 3, 4, 5, 6, 7, 8, 9, 10, 11, 12, 13, 14, 15, 16] rfl (by decide) rfl (by decide) (by decide) rfl (by decide) rfl rfl ⟨Nat.le_of_ble_eq_true rfl, Nat.le_of_ble_eq_true rfl⟩ rfl hl.1 rfl (Nat.le_of_ble_eq_true rfl) dL_law_601 ⟨Nat.le_of_ble_eq_true rfl, Nat.le_of_ble_eq_true rfl⟩ (fun H locs hP hD hS => ?_)
  refine lv_icmp_eq (tgt := 743) hx hb dL_law_604 (by decide) (fun c_1 => ?_) (fun c_1 => ?_)
  · have hq := hsim n σ τ ((xs (Int32.toNatClampNeg (x3 + (1 : Int32))))) ((xs (Int32.toNatClampNeg (x3 + (2 : Int32))))) hR
    exact kk _ _ H locs hq.2 hP hD hS
  · have hq := hsim n σ τ ((xs (Int32.toNatClampNeg (x3 + (1 : Int32))))) ((xs (Int32.toNatClampNeg (x3 + (2 : Int32))))) hR
    exact absurd hq.1 c_1
set_option maxHeartbeats 4000000 in
set_option maxRecDepth 100000 in
theorem law_mount (Rel : RelT) (hpre : Sim_pre Rel) (hsim : Sim_mount Rel) {p : Program} {l : Launch} {e : Env} {s : State} {m : MethodId} {below : List Frame} {meth : Method} {c : Code} {D : va_G} {cA : ClassId} {b L : Nat} {xs : Nat → Int32} (C0 : lw_At p s m meth c b L xs) {aD aT ad af aJ aM aw ae aB ab kO km kw kb kr kd kt n : Nat} {σ : SX} {τ : SK} {H : Heap} {locs : List Loc} {ls : Array Slot} {x3 : Int32} {i : Nat} (hx3 : x3 = nI i) (hi : i + 4 < L) (hLL : L ≤ 2561) (hR : Rel (n + 1) σ τ) (hK : va_K D vwCl [(cA, .int)] s) (hP : va_P D vwCl (wX aD aT ad af aJ aM aw ae aB ab cA σ ++ wY kO km kw kb kr kd kt cA τ) H) (hD : va_D (fun q : Nat => s.heap.size ≤ q) (wX aD aT ad af aJ aM aw ae aB ab cA σ ++ wY kO km kw kb kr kd kt cA τ)) (hS : va_S (fun q : Nat => s.heap.size ≤ q) s.heap H locs) (hl : lv_has ls 4 [(0, .ref b), (1, .ref aD), (2, .ref kO), (3, .int x3)])
    (kk : ∀ (σ' : SX) (τ' : SK) (H : Heap) (locs : List Loc), Rel n σ' τ' → va_P D vwCl (wX aD aT ad af aJ aM aw ae aB ab cA σ' ++ wY kO km kw kb kr kd kt cA τ') H → va_D (fun q : Nat => s.heap.size ≤ q) (wX aD aT ad af aJ aM aw ae aB ab cA σ' ++ wY kO km kw kb kr kd kt cA τ') → va_S (fun q : Nat => s.heap.size ≤ q) s.heap H locs → W p l e room_1 s m #[Value.ref b] below meth c H locs 17 9931 (lw_Z below #[Value.ref b] s) (F0 m 743 ls [])) : W p l e room_1 s m #[Value.ref b] below meth c H locs 17 9931 (lw_Z below #[Value.ref b] s) (F0 m 609 ls []) := by
  obtain ⟨hx, hb, hr, hml, hown0, hts0, hX, hbl, hlocks, hgv⟩ := C0
  have hown : s.vm.findClass RL = some m.cls := hown0
  have hts : ∀ w ∈ kG, w.before #[Value.ref b] s = true := fun w h => hts0 w (k_lw w h)
  have hA : ∀ q : Nat, s.heap.size ≤ q → (fun q : Nat => s.heap.size ≤ q) q := fun _ h => h
  have hbA : ¬ (fun q : Nat => s.heap.size ≤ q) b := Nat.not_le.mpr hbl
  obtain ⟨hp1, hp2, hp3⟩ := hpre _ _ _ hR
  have hi1 : vp_in (x3 + (1 : Int32)) L := by rw [hx3, show (1 : Int32) = nI 1 from rfl, nI_add]; exact vp_in_nI (by omega) (by omega)
  have hi2 : vp_in (x3 + (2 : Int32)) L := by rw [hx3, show (2 : Int32) = nI 2 from rfl, nI_add]; exact vp_in_nI (by omega) (by omega)
  have hi3 : vp_in (x3 + (3 : Int32)) L := by rw [hx3, show (3 : Int32) = nI 3 from rfl, nI_add]; exact vp_in_nI (by omega) (by omega)
  have hi4 : vp_in (x3 + (4 : Int32)) L := by rw [hx3, show (4 : Int32) = nI 4 from rfl, nI_add]; exact vp_in_nI (by omega) (by omega)
  refine lv_aload_n hx hb dL_law_609 rfl (lv_at hl 1 rfl) ?_
  refine k_wrVi (As := []) (rest := []) (ci := 4) (q0 := 0) (ws' := (wX aD aT ad af aJ aM aw ae aB ab cA (nx_mount σ ).2 ++ wY kO km kw kb kr kd kt cA τ)) (wr := (wY kO km kw kb kr kd kt cA τ)) ⟨hx, hb, hml, hown, hts⟩ k_self (e_n_mount l D aD aT ad af aJ aM aw ae aB ab cA σ  hp1) kv_L_88 hP hD hS hA hK rfl rfl [0, 1, 2, 3, 4, 5, 6, 7, 8, 9] [10, 11, 12, 13, 14, 15, 16] [7, 8, 9, 10, 11, 12, 13, 14, 15, 16, 0, 1, 2, 3, 4, 5, 6] rfl (by decide) rfl (by decide) (by decide) rfl (by decide) rfl rfl ⟨Nat.le_of_ble_eq_true rfl, Nat.le_of_ble_eq_true rfl⟩ rfl hl.1 rfl (Nat.le_of_ble_eq_true rfl) dL_law_610 ⟨Nat.le_of_ble_eq_true rfl, Nat.le_of_ble_eq_true rfl⟩ (fun H locs hP hD hS => ?_)
  refine lv_aload_n hx hb dL_law_613 rfl (lv_at hl 2 rfl) ?_
  refine k_wrVi (As := []) (rest := [.int (nx_mount σ ).1]) (ci := 5) (q0 := 0) (ws' := (wX aD aT ad af aJ aM aw ae aB ab cA (nx_mount σ ).2 ++ wY kO km kw kb kr kd kt cA (mx_mount τ ).2)) (wr := (wX aD aT ad af aJ aM aw ae aB ab cA (nx_mount σ ).2)) ⟨hx, hb, hml, hown, hts⟩ k_self (e_m_mount l D kO km kw kb kr kd kt cA τ  hp3) kv_L_91 hP hD hS hA hK rfl rfl [10, 11, 12, 13, 14, 15, 16] [0, 1, 2, 3, 4, 5, 6, 7, 8, 9] [0, 1, 2, 3, 4, 5, 6, 7, 8, 9, 10, 11, 12, 13, 14, 15, 16] rfl (by decide) rfl (by decide) (by decide) rfl (by decide) rfl rfl ⟨Nat.le_of_ble_eq_true rfl, Nat.le_of_ble_eq_true rfl⟩ rfl hl.1 rfl (Nat.le_of_ble_eq_true rfl) dL_law_614 ⟨Nat.le_of_ble_eq_true rfl, Nat.le_of_ble_eq_true rfl⟩ (fun H locs hP hD hS => ?_)
  refine lv_icmp_eq (tgt := 743) hx hb dL_law_617 (by decide) (fun c_1 => ?_) (fun c_1 => ?_)
  · have hq := hsim n σ τ  hR
    exact kk _ _ H locs hq.2 hP hD hS
  · have hq := hsim n σ τ  hR
    exact absurd hq.1 c_1
set_option maxHeartbeats 4000000 in
set_option maxRecDepth 100000 in
theorem law_uncertain (Rel : RelT) (hpre : Sim_pre Rel) (hsim : Sim_uncertain Rel) {p : Program} {l : Launch} {e : Env} {s : State} {m : MethodId} {below : List Frame} {meth : Method} {c : Code} {D : va_G} {cA : ClassId} {b L : Nat} {xs : Nat → Int32} (C0 : lw_At p s m meth c b L xs) {aD aT ad af aJ aM aw ae aB ab kO km kw kb kr kd kt n : Nat} {σ : SX} {τ : SK} {H : Heap} {locs : List Loc} {ls : Array Slot} {x3 : Int32} {i : Nat} (hx3 : x3 = nI i) (hi : i + 4 < L) (hLL : L ≤ 2561) (hR : Rel (n + 1) σ τ) (hK : va_K D vwCl [(cA, .int)] s) (hP : va_P D vwCl (wX aD aT ad af aJ aM aw ae aB ab cA σ ++ wY kO km kw kb kr kd kt cA τ) H) (hD : va_D (fun q : Nat => s.heap.size ≤ q) (wX aD aT ad af aJ aM aw ae aB ab cA σ ++ wY kO km kw kb kr kd kt cA τ)) (hS : va_S (fun q : Nat => s.heap.size ≤ q) s.heap H locs) (hl : lv_has ls 4 [(0, .ref b), (1, .ref aD), (2, .ref kO), (3, .int x3)])
    (kk : ∀ (σ' : SX) (τ' : SK) (H : Heap) (locs : List Loc), Rel n σ' τ' → va_P D vwCl (wX aD aT ad af aJ aM aw ae aB ab cA σ' ++ wY kO km kw kb kr kd kt cA τ') H → va_D (fun q : Nat => s.heap.size ≤ q) (wX aD aT ad af aJ aM aw ae aB ab cA σ' ++ wY kO km kw kb kr kd kt cA τ') → va_S (fun q : Nat => s.heap.size ≤ q) s.heap H locs → W p l e room_1 s m #[Value.ref b] below meth c H locs 17 9931 (lw_Z below #[Value.ref b] s) (F0 m 743 ls [])) : W p l e room_1 s m #[Value.ref b] below meth c H locs 17 9931 (lw_Z below #[Value.ref b] s) (F0 m 622 ls []) := by
  obtain ⟨hx, hb, hr, hml, hown0, hts0, hX, hbl, hlocks, hgv⟩ := C0
  have hown : s.vm.findClass RL = some m.cls := hown0
  have hts : ∀ w ∈ kG, w.before #[Value.ref b] s = true := fun w h => hts0 w (k_lw w h)
  have hA : ∀ q : Nat, s.heap.size ≤ q → (fun q : Nat => s.heap.size ≤ q) q := fun _ h => h
  have hbA : ¬ (fun q : Nat => s.heap.size ≤ q) b := Nat.not_le.mpr hbl
  obtain ⟨hp1, hp2, hp3⟩ := hpre _ _ _ hR
  have hi1 : vp_in (x3 + (1 : Int32)) L := by rw [hx3, show (1 : Int32) = nI 1 from rfl, nI_add]; exact vp_in_nI (by omega) (by omega)
  have hi2 : vp_in (x3 + (2 : Int32)) L := by rw [hx3, show (2 : Int32) = nI 2 from rfl, nI_add]; exact vp_in_nI (by omega) (by omega)
  have hi3 : vp_in (x3 + (3 : Int32)) L := by rw [hx3, show (3 : Int32) = nI 3 from rfl, nI_add]; exact vp_in_nI (by omega) (by omega)
  have hi4 : vp_in (x3 + (4 : Int32)) L := by rw [hx3, show (4 : Int32) = nI 4 from rfl, nI_add]; exact vp_in_nI (by omega) (by omega)
  refine lv_aload_n hx hb dL_law_622 rfl (lv_at hl 1 rfl) ?_
  refine k_rdVi (As := []) (rest := []) (ci := 4) (q0 := 0) ⟨hx, hb, hml, hown, hts⟩ k_self (e_n_uncertain l D aD aT ad af aJ aM aw ae aB ab cA σ  hp1) kv_L_92 (hP.sub [0, 1, 2, 3, 4, 5, 6, 7, 8, 9] rfl) (hK.sub [0] rfl) rfl rfl rfl rfl ⟨Nat.le_of_ble_eq_true rfl, Nat.le_of_ble_eq_true rfl⟩ rfl hl.1 rfl (Nat.le_of_ble_eq_true rfl) dL_law_623 ⟨Nat.le_of_ble_eq_true rfl, Nat.le_of_ble_eq_true rfl⟩ ?_
  refine lv_aload_n hx hb dL_law_626 rfl (lv_at hl 2 rfl) ?_
  refine k_wrVi (As := []) (rest := [.int (nx_uncertain σ ).1]) (ci := 5) (q0 := 0) (ws' := (wX aD aT ad af aJ aM aw ae aB ab cA σ ++ wY kO km kw kb kr kd kt cA (mx_uncertain τ ).2)) (wr := (wX aD aT ad af aJ aM aw ae aB ab cA σ)) ⟨hx, hb, hml, hown, hts⟩ k_self (e_m_uncertain l D kO km kw kb kr kd kt cA τ ) kv_L_95 hP hD hS hA hK rfl rfl [10, 11, 12, 13, 14, 15, 16] [0, 1, 2, 3, 4, 5, 6, 7, 8, 9] [0, 1, 2, 3, 4, 5, 6, 7, 8, 9, 10, 11, 12, 13, 14, 15, 16] rfl (by decide) rfl (by decide) (by decide) rfl (by decide) rfl rfl ⟨Nat.le_of_ble_eq_true rfl, Nat.le_of_ble_eq_true rfl⟩ rfl hl.1 rfl (Nat.le_of_ble_eq_true rfl) dL_law_627 ⟨Nat.le_of_ble_eq_true rfl, Nat.le_of_ble_eq_true rfl⟩ (fun H locs hP hD hS => ?_)
  refine lv_icmp_eq (tgt := 743) hx hb dL_law_630 (by decide) (fun c_1 => ?_) (fun c_1 => ?_)
  · have hq := hsim n σ τ  hR
    exact kk _ _ H locs hq.2 hP hD hS
  · have hq := hsim n σ τ  hR
    exact absurd hq.1 c_1
set_option maxHeartbeats 4000000 in
set_option maxRecDepth 100000 in
theorem law_settle (Rel : RelT) (hpre : Sim_pre Rel) (hsim : Sim_settle Rel) {p : Program} {l : Launch} {e : Env} {s : State} {m : MethodId} {below : List Frame} {meth : Method} {c : Code} {D : va_G} {cA : ClassId} {b L : Nat} {xs : Nat → Int32} (C0 : lw_At p s m meth c b L xs) {aD aT ad af aJ aM aw ae aB ab kO km kw kb kr kd kt n : Nat} {σ : SX} {τ : SK} {H : Heap} {locs : List Loc} {ls : Array Slot} {x3 : Int32} {i : Nat} (hx3 : x3 = nI i) (hi : i + 4 < L) (hLL : L ≤ 2561) (hR : Rel (n + 1) σ τ) (hK : va_K D vwCl [(cA, .int)] s) (hP : va_P D vwCl (wX aD aT ad af aJ aM aw ae aB ab cA σ ++ wY kO km kw kb kr kd kt cA τ) H) (hD : va_D (fun q : Nat => s.heap.size ≤ q) (wX aD aT ad af aJ aM aw ae aB ab cA σ ++ wY kO km kw kb kr kd kt cA τ)) (hS : va_S (fun q : Nat => s.heap.size ≤ q) s.heap H locs) (hl : lv_has ls 4 [(0, .ref b), (1, .ref aD), (2, .ref kO), (3, .int x3)])
    (kk : ∀ (σ' : SX) (τ' : SK) (H : Heap) (locs : List Loc), Rel n σ' τ' → va_P D vwCl (wX aD aT ad af aJ aM aw ae aB ab cA σ' ++ wY kO km kw kb kr kd kt cA τ') H → va_D (fun q : Nat => s.heap.size ≤ q) (wX aD aT ad af aJ aM aw ae aB ab cA σ' ++ wY kO km kw kb kr kd kt cA τ') → va_S (fun q : Nat => s.heap.size ≤ q) s.heap H locs → W p l e room_1 s m #[Value.ref b] below meth c H locs 17 9931 (lw_Z below #[Value.ref b] s) (F0 m 743 ls [])) : W p l e room_1 s m #[Value.ref b] below meth c H locs 17 9931 (lw_Z below #[Value.ref b] s) (F0 m 635 ls []) := by
  obtain ⟨hx, hb, hr, hml, hown0, hts0, hX, hbl, hlocks, hgv⟩ := C0
  have hown : s.vm.findClass RL = some m.cls := hown0
  have hts : ∀ w ∈ kG, w.before #[Value.ref b] s = true := fun w h => hts0 w (k_lw w h)
  have hA : ∀ q : Nat, s.heap.size ≤ q → (fun q : Nat => s.heap.size ≤ q) q := fun _ h => h
  have hbA : ¬ (fun q : Nat => s.heap.size ≤ q) b := Nat.not_le.mpr hbl
  obtain ⟨hp1, hp2, hp3⟩ := hpre _ _ _ hR
  have hi1 : vp_in (x3 + (1 : Int32)) L := by rw [hx3, show (1 : Int32) = nI 1 from rfl, nI_add]; exact vp_in_nI (by omega) (by omega)
  have hi2 : vp_in (x3 + (2 : Int32)) L := by rw [hx3, show (2 : Int32) = nI 2 from rfl, nI_add]; exact vp_in_nI (by omega) (by omega)
  have hi3 : vp_in (x3 + (3 : Int32)) L := by rw [hx3, show (3 : Int32) = nI 3 from rfl, nI_add]; exact vp_in_nI (by omega) (by omega)
  have hi4 : vp_in (x3 + (4 : Int32)) L := by rw [hx3, show (4 : Int32) = nI 4 from rfl, nI_add]; exact vp_in_nI (by omega) (by omega)
  refine lv_aload_n hx hb dL_law_635 rfl (lv_at hl 1 rfl) ?_
  refine lv_aload_n hx hb dL_law_636 rfl (lv_at hl 0 rfl) ?_
  refine lv_iload_n hx hb dL_law_637 rfl (lv_at hl 3 rfl) ?_
  refine lv_iconst (v := 1) hx hb dL_law_638 (by decide) ?_
  refine lv_iadd hx hb dL_law_639 ?_
  refine va_sld hx hb hX hbl hbA hS hi1 dL_law_640 ?_
  refine lv_if_eq (tgt := 648) hx hb dL_law_641 (by decide) (fun c_641 => ?_) (fun c_641 => ?_)
  · refine lv_iconst (v := 0) hx hb dL_law_648 (by decide) ?_
    refine k_wrVi (As := [.int (0 : Int32)]) (rest := []) (ci := 4) (q0 := 0) (ws' := (wX aD aT ad af aJ aM aw ae aB ab cA (nx_settle σ ((0 : Int32))).2 ++ wY kO km kw kb kr kd kt cA τ)) (wr := (wY kO km kw kb kr kd kt cA τ)) ⟨hx, hb, hml, hown, hts⟩ k_self (e_n_settle l D aD aT ad af aJ aM aw ae aB ab cA σ ((0 : Int32)) hp1) kv_L_96 hP hD hS hA hK rfl rfl [0, 1, 2, 3, 4, 5, 6, 7, 8, 9] [10, 11, 12, 13, 14, 15, 16] [7, 8, 9, 10, 11, 12, 13, 14, 15, 16, 0, 1, 2, 3, 4, 5, 6] rfl (by decide) rfl (by decide) (by decide) rfl (by decide) rfl rfl ⟨Nat.le_of_ble_eq_true rfl, Nat.le_of_ble_eq_true rfl⟩ rfl hl.1 rfl (Nat.le_of_ble_eq_true rfl) dL_law_649 ⟨Nat.le_of_ble_eq_true rfl, Nat.le_of_ble_eq_true rfl⟩ (fun H locs hP hD hS => ?_)
    refine lv_aload_n hx hb dL_law_652 rfl (lv_at hl 2 rfl) ?_
    refine lv_aload_n hx hb dL_law_653 rfl (lv_at hl 0 rfl) ?_
    refine lv_iload_n hx hb dL_law_654 rfl (lv_at hl 3 rfl) ?_
    refine lv_iconst (v := 1) hx hb dL_law_655 (by decide) ?_
    refine lv_iadd hx hb dL_law_656 ?_
    refine va_sld hx hb hX hbl hbA hS hi1 dL_law_657 ?_
    refine lv_if_eq (tgt := 665) hx hb dL_law_658 (by decide) (fun c_658 => ?_) (fun c_658 => ?_)
    · refine lv_iconst (v := 0) hx hb dL_law_665 (by decide) ?_
      refine k_wrVi (As := [.int (0 : Int32)]) (rest := [.int (nx_settle σ ((0 : Int32))).1]) (ci := 5) (q0 := 0) (ws' := (wX aD aT ad af aJ aM aw ae aB ab cA (nx_settle σ ((0 : Int32))).2 ++ wY kO km kw kb kr kd kt cA (mx_settle τ ((0 : Int32))).2)) (wr := (wX aD aT ad af aJ aM aw ae aB ab cA (nx_settle σ ((0 : Int32))).2)) ⟨hx, hb, hml, hown, hts⟩ k_self (e_m_settle l D kO km kw kb kr kd kt cA τ ((0 : Int32)) hp2) kv_L_100 hP hD hS hA hK rfl rfl [10, 11, 12, 13, 14, 15, 16] [0, 1, 2, 3, 4, 5, 6, 7, 8, 9] [0, 1, 2, 3, 4, 5, 6, 7, 8, 9, 10, 11, 12, 13, 14, 15, 16] rfl (by decide) rfl (by decide) (by decide) rfl (by decide) rfl rfl ⟨Nat.le_of_ble_eq_true rfl, Nat.le_of_ble_eq_true rfl⟩ rfl hl.1 rfl (Nat.le_of_ble_eq_true rfl) dL_law_666 ⟨Nat.le_of_ble_eq_true rfl, Nat.le_of_ble_eq_true rfl⟩ (fun H locs hP hD hS => ?_)
      refine lv_icmp_eq (tgt := 743) hx hb dL_law_669 (by decide) (fun c_1 => ?_) (fun c_1 => ?_)
      · have hq := hsim n σ τ ((0 : Int32)) hR (by first | exact Or.inl rfl | exact Or.inr rfl)
        exact kk _ _ H locs hq.2 hP hD hS
      · have hq := hsim n σ τ ((0 : Int32)) hR (by first | exact Or.inl rfl | exact Or.inr rfl)
        exact absurd hq.1 c_1
    · exact absurd c_641 c_658
  · refine lv_iconst (v := 1) hx hb dL_law_644 (by decide) ?_
    refine lv_goto (tgt := 649) hx hb dL_law_645 (by decide) ?_
    refine k_wrVi (As := [.int (1 : Int32)]) (rest := []) (ci := 4) (q0 := 0) (ws' := (wX aD aT ad af aJ aM aw ae aB ab cA (nx_settle σ ((1 : Int32))).2 ++ wY kO km kw kb kr kd kt cA τ)) (wr := (wY kO km kw kb kr kd kt cA τ)) ⟨hx, hb, hml, hown, hts⟩ k_self (e_n_settle l D aD aT ad af aJ aM aw ae aB ab cA σ ((1 : Int32)) hp1) kv_L_96 hP hD hS hA hK rfl rfl [0, 1, 2, 3, 4, 5, 6, 7, 8, 9] [10, 11, 12, 13, 14, 15, 16] [7, 8, 9, 10, 11, 12, 13, 14, 15, 16, 0, 1, 2, 3, 4, 5, 6] rfl (by decide) rfl (by decide) (by decide) rfl (by decide) rfl rfl ⟨Nat.le_of_ble_eq_true rfl, Nat.le_of_ble_eq_true rfl⟩ rfl hl.1 rfl (Nat.le_of_ble_eq_true rfl) dL_law_649 ⟨Nat.le_of_ble_eq_true rfl, Nat.le_of_ble_eq_true rfl⟩ (fun H locs hP hD hS => ?_)
    refine lv_aload_n hx hb dL_law_652 rfl (lv_at hl 2 rfl) ?_
    refine lv_aload_n hx hb dL_law_653 rfl (lv_at hl 0 rfl) ?_
    refine lv_iload_n hx hb dL_law_654 rfl (lv_at hl 3 rfl) ?_
    refine lv_iconst (v := 1) hx hb dL_law_655 (by decide) ?_
    refine lv_iadd hx hb dL_law_656 ?_
    refine va_sld hx hb hX hbl hbA hS hi1 dL_law_657 ?_
    refine lv_if_eq (tgt := 665) hx hb dL_law_658 (by decide) (fun c_658 => ?_) (fun c_658 => ?_)
    · exact absurd c_658 c_641
    · refine lv_iconst (v := 1) hx hb dL_law_661 (by decide) ?_
      refine lv_goto (tgt := 666) hx hb dL_law_662 (by decide) ?_
      refine k_wrVi (As := [.int (1 : Int32)]) (rest := [.int (nx_settle σ ((1 : Int32))).1]) (ci := 5) (q0 := 0) (ws' := (wX aD aT ad af aJ aM aw ae aB ab cA (nx_settle σ ((1 : Int32))).2 ++ wY kO km kw kb kr kd kt cA (mx_settle τ ((1 : Int32))).2)) (wr := (wX aD aT ad af aJ aM aw ae aB ab cA (nx_settle σ ((1 : Int32))).2)) ⟨hx, hb, hml, hown, hts⟩ k_self (e_m_settle l D kO km kw kb kr kd kt cA τ ((1 : Int32)) hp2) kv_L_100 hP hD hS hA hK rfl rfl [10, 11, 12, 13, 14, 15, 16] [0, 1, 2, 3, 4, 5, 6, 7, 8, 9] [0, 1, 2, 3, 4, 5, 6, 7, 8, 9, 10, 11, 12, 13, 14, 15, 16] rfl (by decide) rfl (by decide) (by decide) rfl (by decide) rfl rfl ⟨Nat.le_of_ble_eq_true rfl, Nat.le_of_ble_eq_true rfl⟩ rfl hl.1 rfl (Nat.le_of_ble_eq_true rfl) dL_law_666 ⟨Nat.le_of_ble_eq_true rfl, Nat.le_of_ble_eq_true rfl⟩ (fun H locs hP hD hS => ?_)
      refine lv_icmp_eq (tgt := 743) hx hb dL_law_669 (by decide) (fun c_1 => ?_) (fun c_1 => ?_)
      · have hq := hsim n σ τ ((1 : Int32)) hR (by first | exact Or.inl rfl | exact Or.inr rfl)
        exact kk _ _ H locs hq.2 hP hD hS
      · have hq := hsim n σ τ ((1 : Int32)) hR (by first | exact Or.inl rfl | exact Or.inr rfl)
        exact absurd hq.1 c_1
set_option maxHeartbeats 4000000 in
set_option maxRecDepth 100000 in
theorem law_wear (Rel : RelT) (hpre : Sim_pre Rel) (hsim : Sim_wear Rel) {p : Program} {l : Launch} {e : Env} {s : State} {m : MethodId} {below : List Frame} {meth : Method} {c : Code} {D : va_G} {cA : ClassId} {b L : Nat} {xs : Nat → Int32} (C0 : lw_At p s m meth c b L xs) {aD aT ad af aJ aM aw ae aB ab kO km kw kb kr kd kt n : Nat} {σ : SX} {τ : SK} {H : Heap} {locs : List Loc} {ls : Array Slot} {x3 : Int32} {i : Nat} (hx3 : x3 = nI i) (hi : i + 4 < L) (hLL : L ≤ 2561) (hR : Rel (n + 1) σ τ) (hK : va_K D vwCl [(cA, .int)] s) (hP : va_P D vwCl (wX aD aT ad af aJ aM aw ae aB ab cA σ ++ wY kO km kw kb kr kd kt cA τ) H) (hD : va_D (fun q : Nat => s.heap.size ≤ q) (wX aD aT ad af aJ aM aw ae aB ab cA σ ++ wY kO km kw kb kr kd kt cA τ)) (hS : va_S (fun q : Nat => s.heap.size ≤ q) s.heap H locs) (hl : lv_has ls 4 [(0, .ref b), (1, .ref aD), (2, .ref kO), (3, .int x3)])
    (kk : ∀ (σ' : SX) (τ' : SK) (H : Heap) (locs : List Loc), Rel n σ' τ' → va_P D vwCl (wX aD aT ad af aJ aM aw ae aB ab cA σ' ++ wY kO km kw kb kr kd kt cA τ') H → va_D (fun q : Nat => s.heap.size ≤ q) (wX aD aT ad af aJ aM aw ae aB ab cA σ' ++ wY kO km kw kb kr kd kt cA τ') → va_S (fun q : Nat => s.heap.size ≤ q) s.heap H locs → W p l e room_1 s m #[Value.ref b] below meth c H locs 17 9931 (lw_Z below #[Value.ref b] s) (F0 m 743 ls [])) : W p l e room_1 s m #[Value.ref b] below meth c H locs 17 9931 (lw_Z below #[Value.ref b] s) (F0 m 674 ls []) := by
  obtain ⟨hx, hb, hr, hml, hown0, hts0, hX, hbl, hlocks, hgv⟩ := C0
  have hown : s.vm.findClass RL = some m.cls := hown0
  have hts : ∀ w ∈ kG, w.before #[Value.ref b] s = true := fun w h => hts0 w (k_lw w h)
  have hA : ∀ q : Nat, s.heap.size ≤ q → (fun q : Nat => s.heap.size ≤ q) q := fun _ h => h
  have hbA : ¬ (fun q : Nat => s.heap.size ≤ q) b := Nat.not_le.mpr hbl
  obtain ⟨hp1, hp2, hp3⟩ := hpre _ _ _ hR
  have hi1 : vp_in (x3 + (1 : Int32)) L := by rw [hx3, show (1 : Int32) = nI 1 from rfl, nI_add]; exact vp_in_nI (by omega) (by omega)
  have hi2 : vp_in (x3 + (2 : Int32)) L := by rw [hx3, show (2 : Int32) = nI 2 from rfl, nI_add]; exact vp_in_nI (by omega) (by omega)
  have hi3 : vp_in (x3 + (3 : Int32)) L := by rw [hx3, show (3 : Int32) = nI 3 from rfl, nI_add]; exact vp_in_nI (by omega) (by omega)
  have hi4 : vp_in (x3 + (4 : Int32)) L := by rw [hx3, show (4 : Int32) = nI 4 from rfl, nI_add]; exact vp_in_nI (by omega) (by omega)
  refine lv_aload_n hx hb dL_law_674 rfl (lv_at hl 1 rfl) ?_
  refine lv_aload_n hx hb dL_law_675 rfl (lv_at hl 0 rfl) ?_
  refine lv_iload_n hx hb dL_law_676 rfl (lv_at hl 3 rfl) ?_
  refine lv_iconst (v := 1) hx hb dL_law_677 (by decide) ?_
  refine lv_iadd hx hb dL_law_678 ?_
  refine va_sld hx hb hX hbl hbA hS hi1 dL_law_679 ?_
  refine k_rdVi (As := [.int (xs (Int32.toNatClampNeg (x3 + (1 : Int32))))]) (rest := []) (ci := 4) (q0 := 0) ⟨hx, hb, hml, hown, hts⟩ k_self (e_n_wear l D aD aT ad af aJ aM aw ae aB ab cA σ ((xs (Int32.toNatClampNeg (x3 + (1 : Int32)))))) kv_L_101 (hP.sub [0, 1, 2, 3, 4, 5, 6, 7, 8, 9] rfl) (hK.sub [0] rfl) rfl rfl rfl rfl ⟨Nat.le_of_ble_eq_true rfl, Nat.le_of_ble_eq_true rfl⟩ rfl hl.1 rfl (Nat.le_of_ble_eq_true rfl) dL_law_680 ⟨Nat.le_of_ble_eq_true rfl, Nat.le_of_ble_eq_true rfl⟩ ?_
  refine lv_aload_n hx hb dL_law_683 rfl (lv_at hl 2 rfl) ?_
  refine lv_aload_n hx hb dL_law_684 rfl (lv_at hl 0 rfl) ?_
  refine lv_iload_n hx hb dL_law_685 rfl (lv_at hl 3 rfl) ?_
  refine lv_iconst (v := 1) hx hb dL_law_686 (by decide) ?_
  refine lv_iadd hx hb dL_law_687 ?_
  refine va_sld hx hb hX hbl hbA hS hi1 dL_law_688 ?_
  refine k_wrVi (As := [.int (xs (Int32.toNatClampNeg (x3 + (1 : Int32))))]) (rest := [.int (nx_wear σ ((xs (Int32.toNatClampNeg (x3 + (1 : Int32)))))).1]) (ci := 5) (q0 := 0) (ws' := (wX aD aT ad af aJ aM aw ae aB ab cA σ ++ wY kO km kw kb kr kd kt cA (mx_wear τ ((xs (Int32.toNatClampNeg (x3 + (1 : Int32)))))).2)) (wr := (wX aD aT ad af aJ aM aw ae aB ab cA σ)) ⟨hx, hb, hml, hown, hts⟩ k_self (e_m_wear l D kO km kw kb kr kd kt cA τ ((xs (Int32.toNatClampNeg (x3 + (1 : Int32)))))) kv_L_104 hP hD hS hA hK rfl rfl [10, 11, 12, 13, 14, 15, 16] [0, 1, 2, 3, 4, 5, 6, 7, 8, 9] [0, 1, 2, 3, 4, 5, 6, 7, 8, 9, 10, 11, 12, 13, 14, 15, 16] rfl (by decide) rfl (by decide) (by decide) rfl (by decide) rfl rfl ⟨Nat.le_of_ble_eq_true rfl, Nat.le_of_ble_eq_true rfl⟩ rfl hl.1 rfl (Nat.le_of_ble_eq_true rfl) dL_law_689 ⟨Nat.le_of_ble_eq_true rfl, Nat.le_of_ble_eq_true rfl⟩ (fun H locs hP hD hS => ?_)
  refine lv_icmp_eq (tgt := 743) hx hb dL_law_692 (by decide) (fun c_1 => ?_) (fun c_1 => ?_)
  · have hq := hsim n σ τ ((xs (Int32.toNatClampNeg (x3 + (1 : Int32))))) hR
    exact kk _ _ H locs hq.2 hP hD hS
  · have hq := hsim n σ τ ((xs (Int32.toNatClampNeg (x3 + (1 : Int32))))) hR
    exact absurd hq.1 c_1
set_option maxHeartbeats 4000000 in
set_option maxRecDepth 100000 in
theorem law_word (Rel : RelT) (hpre : Sim_pre Rel) (hsim : Sim_word Rel) {p : Program} {l : Launch} {e : Env} {s : State} {m : MethodId} {below : List Frame} {meth : Method} {c : Code} {D : va_G} {cA : ClassId} {b L : Nat} {xs : Nat → Int32} (C0 : lw_At p s m meth c b L xs) {aD aT ad af aJ aM aw ae aB ab kO km kw kb kr kd kt n : Nat} {σ : SX} {τ : SK} {H : Heap} {locs : List Loc} {ls : Array Slot} {x3 : Int32} {i : Nat} (hx3 : x3 = nI i) (hi : i + 4 < L) (hLL : L ≤ 2561) (hR : Rel (n + 1) σ τ) (hK : va_K D vwCl [(cA, .int)] s) (hP : va_P D vwCl (wX aD aT ad af aJ aM aw ae aB ab cA σ ++ wY kO km kw kb kr kd kt cA τ) H) (hD : va_D (fun q : Nat => s.heap.size ≤ q) (wX aD aT ad af aJ aM aw ae aB ab cA σ ++ wY kO km kw kb kr kd kt cA τ)) (hS : va_S (fun q : Nat => s.heap.size ≤ q) s.heap H locs) (hl : lv_has ls 4 [(0, .ref b), (1, .ref aD), (2, .ref kO), (3, .int x3)])
    (kk : ∀ (σ' : SX) (τ' : SK) (H : Heap) (locs : List Loc), Rel n σ' τ' → va_P D vwCl (wX aD aT ad af aJ aM aw ae aB ab cA σ' ++ wY kO km kw kb kr kd kt cA τ') H → va_D (fun q : Nat => s.heap.size ≤ q) (wX aD aT ad af aJ aM aw ae aB ab cA σ' ++ wY kO km kw kb kr kd kt cA τ') → va_S (fun q : Nat => s.heap.size ≤ q) s.heap H locs → W p l e room_1 s m #[Value.ref b] below meth c H locs 17 9931 (lw_Z below #[Value.ref b] s) (F0 m 743 ls [])) : W p l e room_1 s m #[Value.ref b] below meth c H locs 17 9931 (lw_Z below #[Value.ref b] s) (F0 m 697 ls []) := by
  obtain ⟨hx, hb, hr, hml, hown0, hts0, hX, hbl, hlocks, hgv⟩ := C0
  have hown : s.vm.findClass RL = some m.cls := hown0
  have hts : ∀ w ∈ kG, w.before #[Value.ref b] s = true := fun w h => hts0 w (k_lw w h)
  have hA : ∀ q : Nat, s.heap.size ≤ q → (fun q : Nat => s.heap.size ≤ q) q := fun _ h => h
  have hbA : ¬ (fun q : Nat => s.heap.size ≤ q) b := Nat.not_le.mpr hbl
  obtain ⟨hp1, hp2, hp3⟩ := hpre _ _ _ hR
  have hi1 : vp_in (x3 + (1 : Int32)) L := by rw [hx3, show (1 : Int32) = nI 1 from rfl, nI_add]; exact vp_in_nI (by omega) (by omega)
  have hi2 : vp_in (x3 + (2 : Int32)) L := by rw [hx3, show (2 : Int32) = nI 2 from rfl, nI_add]; exact vp_in_nI (by omega) (by omega)
  have hi3 : vp_in (x3 + (3 : Int32)) L := by rw [hx3, show (3 : Int32) = nI 3 from rfl, nI_add]; exact vp_in_nI (by omega) (by omega)
  have hi4 : vp_in (x3 + (4 : Int32)) L := by rw [hx3, show (4 : Int32) = nI 4 from rfl, nI_add]; exact vp_in_nI (by omega) (by omega)
  refine lv_aload_n hx hb dL_law_697 rfl (lv_at hl 1 rfl) ?_
  refine lv_aload_n hx hb dL_law_698 rfl (lv_at hl 0 rfl) ?_
  refine lv_iload_n hx hb dL_law_699 rfl (lv_at hl 3 rfl) ?_
  refine lv_iconst (v := 1) hx hb dL_law_700 (by decide) ?_
  refine lv_iadd hx hb dL_law_701 ?_
  refine va_sld hx hb hX hbl hbA hS hi1 dL_law_702 ?_
  refine lv_aload_n hx hb dL_law_703 rfl (lv_at hl 0 rfl) ?_
  refine lv_iload_n hx hb dL_law_704 rfl (lv_at hl 3 rfl) ?_
  refine lv_iconst (v := 2) hx hb dL_law_705 (by decide) ?_
  refine lv_iadd hx hb dL_law_706 ?_
  refine va_sld hx hb hX hbl hbA hS hi2 dL_law_707 ?_
  refine k_rdVi (As := [.int (xs (Int32.toNatClampNeg (x3 + (1 : Int32)))), .int (xs (Int32.toNatClampNeg (x3 + (2 : Int32))))]) (rest := []) (ci := 4) (q0 := 0) ⟨hx, hb, hml, hown, hts⟩ k_self (e_n_word l D aD aT ad af aJ aM aw ae aB ab cA σ ((xs (Int32.toNatClampNeg (x3 + (1 : Int32))))) ((xs (Int32.toNatClampNeg (x3 + (2 : Int32)))))) kv_L_105 (hP.sub [0, 1, 2, 3, 4, 5, 6, 7, 8, 9] rfl) (hK.sub [0] rfl) rfl rfl rfl rfl ⟨Nat.le_of_ble_eq_true rfl, Nat.le_of_ble_eq_true rfl⟩ rfl hl.1 rfl (Nat.le_of_ble_eq_true rfl) dL_law_708 ⟨Nat.le_of_ble_eq_true rfl, Nat.le_of_ble_eq_true rfl⟩ ?_
  refine lv_aload_n hx hb dL_law_711 rfl (lv_at hl 2 rfl) ?_
  refine lv_aload_n hx hb dL_law_712 rfl (lv_at hl 0 rfl) ?_
  refine lv_iload_n hx hb dL_law_713 rfl (lv_at hl 3 rfl) ?_
  refine lv_iconst (v := 1) hx hb dL_law_714 (by decide) ?_
  refine lv_iadd hx hb dL_law_715 ?_
  refine va_sld hx hb hX hbl hbA hS hi1 dL_law_716 ?_
  refine lv_aload_n hx hb dL_law_717 rfl (lv_at hl 0 rfl) ?_
  refine lv_iload_n hx hb dL_law_718 rfl (lv_at hl 3 rfl) ?_
  refine lv_iconst (v := 2) hx hb dL_law_719 (by decide) ?_
  refine lv_iadd hx hb dL_law_720 ?_
  refine va_sld hx hb hX hbl hbA hS hi2 dL_law_721 ?_
  refine k_wrVi (As := [.int (xs (Int32.toNatClampNeg (x3 + (1 : Int32)))), .int (xs (Int32.toNatClampNeg (x3 + (2 : Int32))))]) (rest := [.int (nx_word σ ((xs (Int32.toNatClampNeg (x3 + (1 : Int32))))) ((xs (Int32.toNatClampNeg (x3 + (2 : Int32)))))).1]) (ci := 5) (q0 := 0) (ws' := (wX aD aT ad af aJ aM aw ae aB ab cA σ ++ wY kO km kw kb kr kd kt cA (mx_word τ ((xs (Int32.toNatClampNeg (x3 + (1 : Int32))))) ((xs (Int32.toNatClampNeg (x3 + (2 : Int32)))))).2)) (wr := (wX aD aT ad af aJ aM aw ae aB ab cA σ)) ⟨hx, hb, hml, hown, hts⟩ k_self (e_m_word l D kO km kw kb kr kd kt cA τ ((xs (Int32.toNatClampNeg (x3 + (1 : Int32))))) ((xs (Int32.toNatClampNeg (x3 + (2 : Int32)))))) kv_L_108 hP hD hS hA hK rfl rfl [10, 11, 12, 13, 14, 15, 16] [0, 1, 2, 3, 4, 5, 6, 7, 8, 9] [0, 1, 2, 3, 4, 5, 6, 7, 8, 9, 10, 11, 12, 13, 14, 15, 16] rfl (by decide) rfl (by decide) (by decide) rfl (by decide) rfl rfl ⟨Nat.le_of_ble_eq_true rfl, Nat.le_of_ble_eq_true rfl⟩ rfl hl.1 rfl (Nat.le_of_ble_eq_true rfl) dL_law_722 ⟨Nat.le_of_ble_eq_true rfl, Nat.le_of_ble_eq_true rfl⟩ (fun H locs hP hD hS => ?_)
  refine lv_icmp_eq (tgt := 743) hx hb dL_law_725 (by decide) (fun c_1 => ?_) (fun c_1 => ?_)
  · have hq := hsim n σ τ ((xs (Int32.toNatClampNeg (x3 + (1 : Int32))))) ((xs (Int32.toNatClampNeg (x3 + (2 : Int32))))) hR
    exact kk _ _ H locs hq.2 hP hD hS
  · have hq := hsim n σ τ ((xs (Int32.toNatClampNeg (x3 + (1 : Int32))))) ((xs (Int32.toNatClampNeg (x3 + (2 : Int32))))) hR
    exact absurd hq.1 c_1
set_option maxHeartbeats 4000000 in
set_option maxRecDepth 100000 in
theorem law_sound (Rel : RelT) (hpre : Sim_pre Rel) (hsim : Sim_sound Rel) {p : Program} {l : Launch} {e : Env} {s : State} {m : MethodId} {below : List Frame} {meth : Method} {c : Code} {D : va_G} {cA : ClassId} {b L : Nat} {xs : Nat → Int32} (C0 : lw_At p s m meth c b L xs) {aD aT ad af aJ aM aw ae aB ab kO km kw kb kr kd kt n : Nat} {σ : SX} {τ : SK} {H : Heap} {locs : List Loc} {ls : Array Slot} {x3 : Int32} {i : Nat} (hx3 : x3 = nI i) (hi : i + 4 < L) (hLL : L ≤ 2561) (hR : Rel (n + 1) σ τ) (hK : va_K D vwCl [(cA, .int)] s) (hP : va_P D vwCl (wX aD aT ad af aJ aM aw ae aB ab cA σ ++ wY kO km kw kb kr kd kt cA τ) H) (hD : va_D (fun q : Nat => s.heap.size ≤ q) (wX aD aT ad af aJ aM aw ae aB ab cA σ ++ wY kO km kw kb kr kd kt cA τ)) (hS : va_S (fun q : Nat => s.heap.size ≤ q) s.heap H locs) (hl : lv_has ls 4 [(0, .ref b), (1, .ref aD), (2, .ref kO), (3, .int x3)])
    (kk : ∀ (σ' : SX) (τ' : SK) (H : Heap) (locs : List Loc), Rel n σ' τ' → va_P D vwCl (wX aD aT ad af aJ aM aw ae aB ab cA σ' ++ wY kO km kw kb kr kd kt cA τ') H → va_D (fun q : Nat => s.heap.size ≤ q) (wX aD aT ad af aJ aM aw ae aB ab cA σ' ++ wY kO km kw kb kr kd kt cA τ') → va_S (fun q : Nat => s.heap.size ≤ q) s.heap H locs → W p l e room_1 s m #[Value.ref b] below meth c H locs 17 9931 (lw_Z below #[Value.ref b] s) (F0 m 743 ls [])) : W p l e room_1 s m #[Value.ref b] below meth c H locs 17 9931 (lw_Z below #[Value.ref b] s) (F0 m 730 ls []) := by
  obtain ⟨hx, hb, hr, hml, hown0, hts0, hX, hbl, hlocks, hgv⟩ := C0
  have hown : s.vm.findClass RL = some m.cls := hown0
  have hts : ∀ w ∈ kG, w.before #[Value.ref b] s = true := fun w h => hts0 w (k_lw w h)
  have hA : ∀ q : Nat, s.heap.size ≤ q → (fun q : Nat => s.heap.size ≤ q) q := fun _ h => h
  have hbA : ¬ (fun q : Nat => s.heap.size ≤ q) b := Nat.not_le.mpr hbl
  obtain ⟨hp1, hp2, hp3⟩ := hpre _ _ _ hR
  have hi1 : vp_in (x3 + (1 : Int32)) L := by rw [hx3, show (1 : Int32) = nI 1 from rfl, nI_add]; exact vp_in_nI (by omega) (by omega)
  have hi2 : vp_in (x3 + (2 : Int32)) L := by rw [hx3, show (2 : Int32) = nI 2 from rfl, nI_add]; exact vp_in_nI (by omega) (by omega)
  have hi3 : vp_in (x3 + (3 : Int32)) L := by rw [hx3, show (3 : Int32) = nI 3 from rfl, nI_add]; exact vp_in_nI (by omega) (by omega)
  have hi4 : vp_in (x3 + (4 : Int32)) L := by rw [hx3, show (4 : Int32) = nI 4 from rfl, nI_add]; exact vp_in_nI (by omega) (by omega)
  refine lv_aload_n hx hb dL_law_730 rfl (lv_at hl 1 rfl) ?_
  refine k_rdVi (As := []) (rest := []) (ci := 4) (q0 := 0) ⟨hx, hb, hml, hown, hts⟩ k_self (e_n_sound l D aD aT ad af aJ aM aw ae aB ab cA σ  hp1) kv_L_109 (hP.sub [0, 1, 2, 3, 4, 5, 6, 7, 8, 9] rfl) (hK.sub [0] rfl) rfl rfl rfl rfl ⟨Nat.le_of_ble_eq_true rfl, Nat.le_of_ble_eq_true rfl⟩ rfl hl.1 rfl (Nat.le_of_ble_eq_true rfl) dL_law_731 ⟨Nat.le_of_ble_eq_true rfl, Nat.le_of_ble_eq_true rfl⟩ ?_
  refine lv_aload_n hx hb dL_law_734 rfl (lv_at hl 2 rfl) ?_
  refine k_wrVi (As := []) (rest := [.int (nx_sound σ ).1]) (ci := 5) (q0 := 0) (ws' := (wX aD aT ad af aJ aM aw ae aB ab cA σ ++ wY kO km kw kb kr kd kt cA (mx_sound τ ).2)) (wr := (wX aD aT ad af aJ aM aw ae aB ab cA σ)) ⟨hx, hb, hml, hown, hts⟩ k_self (e_m_sound l D kO km kw kb kr kd kt cA τ ) kv_L_112 hP hD hS hA hK rfl rfl [10, 11, 12, 13, 14, 15, 16] [0, 1, 2, 3, 4, 5, 6, 7, 8, 9] [0, 1, 2, 3, 4, 5, 6, 7, 8, 9, 10, 11, 12, 13, 14, 15, 16] rfl (by decide) rfl (by decide) (by decide) rfl (by decide) rfl rfl ⟨Nat.le_of_ble_eq_true rfl, Nat.le_of_ble_eq_true rfl⟩ rfl hl.1 rfl (Nat.le_of_ble_eq_true rfl) dL_law_735 ⟨Nat.le_of_ble_eq_true rfl, Nat.le_of_ble_eq_true rfl⟩ (fun H locs hP hD hS => ?_)
  refine lv_icmp_eq (tgt := 743) hx hb dL_law_738 (by decide) (fun c_1 => ?_) (fun c_1 => ?_)
  · have hq := hsim n σ τ  hR
    exact kk _ _ H locs hq.2 hP hD hS
  · have hq := hsim n σ τ  hR
    exact absurd hq.1 c_1
