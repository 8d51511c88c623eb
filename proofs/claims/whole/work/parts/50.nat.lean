/-! the books by places: numbers -/
theorem k_at {bw : Nat → Int32} {i : Nat} (h : i < 191) : spX0_at bw (nI i) = bw i := by
  unfold spX0_at
  rw [if_neg (nI_pos (by omega)), if_neg (show ¬ (191 : Int32) ≤ nI i from nI_ge (a := i) (b := 191) h (by decide)), nI_clamp (by omega)]
theorem k_put {bw : Nat → Int32} {i : Nat} {v : Int32} (h : i < 191) : spX0_put bw (nI i) v = upd bw i v := by
  unfold spX0_put
  rw [if_neg (nI_pos (by omega)), if_neg (show ¬ (191 : Int32) ≤ nI i from nI_ge (a := i) (b := 191) h (by decide)), nI_clamp (by omega)]
def sm (f : Nat → Int32) (i : Nat) : Int64 := ((f (i + 1)).toInt64 <<< ((32 : Int32).toInt64 &&& 63)) ||| ((f i).toInt64 &&& 4294967295)
theorem k_sumAt {bw : Nat → Int32} {i : Nat} (h : i + 1 < 191) : spX0_sumAt bw (nI i) = sm bw i := by
  unfold spX0_sumAt sm
  rw [nI_1, k_at h, k_at (by omega)]
theorem k_sh32 (x : Int64) : (x <<< ((32 : Int32).toInt64 &&& 63)).toBitVec = x.toBitVec <<< 32 := by
  rw [Int64.toBitVec_shiftLeft]
  have : ((32 : Int32).toInt64 &&& 63).toBitVec.smod 64 = 32#64 := by decide
  rw [this]
  rfl
theorem k_smbv (a b : Int32) : ((a.toInt64 <<< ((32 : Int32).toInt64 &&& 63)) ||| (b.toInt64 &&& 4294967295)).toBitVec = a.toBitVec ++ b.toBitVec := by
  rw [Int64.toBitVec_or, Int64.toBitVec_and, k_sh32, Int32.toBitVec_toInt64, Int32.toBitVec_toInt64]
  have hm : (4294967295 : Int64).toBitVec = (BitVec.allOnes 32).setWidth 64 := by decide
  rw [hm]
  apply BitVec.eq_of_getLsbD_eq
  intro j hj
  simp only [BitVec.getLsbD_or, BitVec.getLsbD_and, BitVec.getLsbD_shiftLeft, BitVec.getLsbD_append, BitVec.getLsbD_setWidth, BitVec.getLsbD_allOnes, BitVec.getLsbD_signExtend]
  by_cases h : j < 32
  · simp [h, hj]
  · have h1 : j - 32 < 64 := by omega
    have h2 : j - 32 < 32 := by omega
    simp [h, hj, h1, h2]
theorem k_oradd (a b : Int32) : (b.toInt64 &&& 4294967295) + (a.toInt64 <<< ((32 : Int32).toInt64 &&& 63)) = (a.toInt64 <<< ((32 : Int32).toInt64 &&& 63)) ||| (b.toInt64 &&& 4294967295) := by
  apply Int64.toBitVec_inj.mp
  rw [Int64.toBitVec_add, Int64.toBitVec_or, BitVec.add_comm]
  apply BitVec.add_eq_or_of_and_eq_zero
  rw [Int64.toBitVec_and, k_sh32, Int32.toBitVec_toInt64, Int32.toBitVec_toInt64]
  have hm : (4294967295 : Int64).toBitVec = (BitVec.allOnes 32).setWidth 64 := by decide
  rw [hm]
  apply BitVec.eq_of_getLsbD_eq
  intro j hj
  simp only [BitVec.getLsbD_and, BitVec.getLsbD_shiftLeft, BitVec.getLsbD_setWidth, BitVec.getLsbD_allOnes, BitVec.getLsbD_signExtend]
  by_cases h : j < 32
  · simp [h, hj]
  · simp [h, hj]
theorem k_sum5 {kbo : Nat → Int32} {j : Nat} (h : j + 1 < 193) : spX5_sum kbo (nI j) = sm kbo j := by
  unfold spX5_sum sm
  rw [nI_1, nI_clamp (by omega), nI_clamp (by omega)]
  exact k_oradd _ _
def adHi (v : Int64) : Int32 := Int64.toInt32 ((Int64.toUInt64 v >>> ((Int32.toInt64 (32 : Int32)).toUInt64 &&& Int64.toUInt64 63)).toInt64)
theorem k_adHi (v : Int64) : (adHi v).toBitVec = (v.toBitVec >>> 32).setWidth 32 := by
  unfold adHi
  rw [Int64.toBitVec_toInt32]
  have e : (Int64.toUInt64 v >>> ((Int32.toInt64 (32 : Int32)).toUInt64 &&& Int64.toUInt64 63)).toInt64.toBitVec = v.toBitVec >>> 32 := rfl
  rw [e]
  apply BitVec.eq_of_getLsbD_eq
  intro j hj
  have h1 : j < 64 := by omega
  rw [BitVec.getLsbD_signExtend, BitVec.getLsbD_setWidth, BitVec.getLsbD_ushiftRight, if_pos h1]
theorem k_sar (v : Int64) : Int64.toInt32 (v >>> (Int32.toInt64 (32 : Int32) &&& 63)) = adHi v := by
  apply Int32.toBitVec_inj.mp
  rw [k_adHi, Int64.toBitVec_toInt32, Int64.toBitVec_shiftRight]
  have : ((32 : Int32).toInt64 &&& 63).toBitVec.smod 64 = 32#64 := by decide
  rw [this]
  apply BitVec.eq_of_getLsbD_eq
  intro j hj
  rw [show v.toBitVec.sshiftRight' 32#64 = v.toBitVec.sshiftRight 32 from rfl]
  have h1 : j < 64 := by omega
  have h2 : 32 + j < 64 := by omega
  have h3 : ¬ 64 ≤ j := by omega
  rw [BitVec.getLsbD_signExtend, BitVec.getLsbD_setWidth, BitVec.getLsbD_ushiftRight, if_pos h1, BitVec.getLsbD_sshiftRight]
  simp [h1, h2, h3]
def ad (f : Nat → Int32) (i : Nat) (d : Int64) : Nat → Int32 := upd (upd f i (Int64.toInt32 (sm f i + d))) (i + 1) (adHi (sm f i + d))
def inc (f : Nat → Int32) (i : Nat) : Nat → Int32 := upd f i (f i + 1)
theorem k_addToSum {bw : Nat → Int32} {i : Nat} {x : Int32} (h : i + 1 < 191) : spX0_addToSum bw (nI i) x = ad bw i x.toInt64 := by
  unfold spX0_addToSum ad adHi
  rw [k_sumAt h, nI_1, k_put (i := i) (by omega), k_put h]
theorem k_more {kbo : Nat → Int32} {j : Nat} {d : Int64} (h : j + 1 < 193) : spX5_more kbo (nI j) d = ad kbo j d := by
  unfold spX5_more ad
  rw [k_sum5 h, nI_1, nI_clamp (by omega), nI_clamp (by omega), k_sar]
theorem k_addOne {bw : Nat → Int32} {i : Nat} (h : i < 191) : spX0_addOne bw (nI i) = inc bw i := by
  unfold spX0_addOne inc
  rw [k_at h, k_put h]

/-- the class's books and the reference's: shifted by two -/
def BR (f g : Nat → Int32) : Prop := ∀ i : Nat, i < 191 → g (i + 2) = f i
theorem upd_s (f : Nat → Int32) (k : Nat) (v : Int32) : upd f k v k = v := by simp [upd]
theorem upd_n {f : Nat → Int32} {k j : Nat} {v : Int32} (h : j ≠ k) : upd f k v j = f j := by simp [upd, h]
theorem upd_comm {f : Nat → Int32} {a b : Nat} {x y : Int32} (h : a ≠ b) : upd (upd f a x) b y = upd (upd f b y) a x := by
  funext j
  simp only [upd]
  by_cases h1 : j = a
  · by_cases h2 : j = b
    · exact absurd (h1.symm.trans h2) h
    · rw [if_neg h2, if_pos h1, if_pos h1]
  · by_cases h2 : j = b
    · rw [if_pos h2, if_neg h1, if_pos h2]
    · rw [if_neg h2, if_neg h1, if_neg h1, if_neg h2]
theorem upd_self {f : Nat → Int32} {k : Nat} : upd f k (f k) = f := by
  funext j
  simp only [upd]
  by_cases h1 : j = k
  · rw [if_pos h1, h1]
  · rw [if_neg h1]
theorem BR.put {f g : Nat → Int32} (h : BR f g) (i : Nat) (v : Int32) : BR (upd f i v) (upd g (i + 2) v) := by
  intro j hj
  by_cases e : j = i
  · subst e; rw [upd_s, upd_s]
  · rw [upd_n e, upd_n (by omega)]; exact h j hj
theorem BR_sm {f g : Nat → Int32} (h : BR f g) {i : Nat} (hi : i + 1 < 191) : sm g (i + 2) = sm f i := by
  unfold sm
  rw [h i (by omega), show i + 2 + 1 = (i + 1) + 2 by omega, h (i + 1) hi]
theorem BR_ad {f g : Nat → Int32} (h : BR f g) {i : Nat} (hi : i + 1 < 191) (d : Int64) : BR (ad f i d) (ad g (i + 2) d) := by
  unfold ad
  rw [BR_sm h hi, show i + 2 + 1 = (i + 1) + 2 by omega]
  exact (h.put i _).put (i + 1) _
theorem BR_inc {f g : Nat → Int32} (h : BR f g) {i : Nat} (hi : i < 191) : BR (inc f i) (inc g (i + 2)) := by
  unfold inc
  rw [h i hi]
  exact h.put i _
theorem sm_upd {f : Nat → Int32} {i k : Nat} {v : Int32} (h1 : i ≠ k) (h2 : i + 1 ≠ k) : sm (upd f k v) i = sm f i := by
  unfold sm
  rw [upd_n h1, upd_n h2]
theorem ad_inc {f : Nat → Int32} {i j : Nat} {d : Int64} (h1 : i ≠ j) (h2 : i ≠ j + 1) : ad (inc f i) j d = inc (ad f j d) i := by
  unfold ad inc
  rw [sm_upd (Ne.symm h1) (Ne.symm h2), upd_n (f := upd f j _) h2, upd_n h1, upd_comm (f := f) h1, upd_comm (f := upd f j _) h2]
theorem inc_comm {f : Nat → Int32} {i j : Nat} (h : i ≠ j) : inc (inc f i) j = inc (inc f j) i := by
  unfold inc
  rw [upd_n (Ne.symm h), upd_n h, upd_comm h]
theorem sm_bv (f : Nat → Int32) (i : Nat) : (sm f i).toBitVec = (f (i + 1)).toBitVec ++ (f i).toBitVec := k_smbv _ _
theorem sm_ad (f : Nat → Int32) (i : Nat) (d : Int64) : sm (ad f i d) i = sm f i + d := by
  apply Int64.toBitVec_inj.mp
  rw [sm_bv]
  unfold ad
  rw [upd_s, upd_n (show i ≠ i + 1 by omega), upd_s, k_adHi, Int64.toBitVec_toInt32]
  generalize (sm f i + d).toBitVec = x
  apply BitVec.eq_of_getLsbD_eq
  intro j hj
  rw [BitVec.getLsbD_append]
  by_cases h : j < 32
  · rw [BitVec.getLsbD_signExtend]
    have h1 : j < 64 := by omega
    simp [h, h1]
  · rw [BitVec.getLsbD_setWidth, BitVec.getLsbD_ushiftRight]
    have h1 : j - 32 < 32 := by omega
    have h2 : 32 + (j - 32) = j := by omega
    simp [h, h1, h2]
theorem sm_ad_n {f : Nat → Int32} {i j : Nat} {d : Int64} (h1 : i ≠ j) (h2 : i + 1 ≠ j) (h3 : i ≠ j + 1) : sm (ad f j d) i = sm f i := by
  unfold ad
  rw [sm_upd h3 (by omega), sm_upd h1 h2]
theorem ad_n {f : Nat → Int32} {i j : Nat} {d : Int64} (h1 : i ≠ j) (h2 : i ≠ j + 1) : ad f j d i = f i := by
  unfold ad
  rw [upd_n h2, upd_n h1]
theorem inc_n {f : Nat → Int32} {i j : Nat} (h : i ≠ j) : inc f j i = f i := by unfold inc; rw [upd_n h]
theorem inc_s (f : Nat → Int32) (i : Nat) : inc f i i = f i + 1 := by unfold inc; rw [upd_s]
theorem ad_0 (f : Nat → Int32) (i : Nat) : ad f i 0 = f := by
  have e : sm f i + 0 = sm f i := by apply Int64.toBitVec_inj.mp; rw [Int64.toBitVec_add]; simp
  have h1 : Int64.toInt32 (sm f i) = f i := by
    apply Int32.toBitVec_inj.mp
    rw [Int64.toBitVec_toInt32, sm_bv]
    apply BitVec.eq_of_getLsbD_eq
    intro j hj
    rw [BitVec.getLsbD_signExtend, BitVec.getLsbD_append]
    have h1 : j < 64 := by omega
    simp [hj, h1]
  have h2 : adHi (sm f i) = f (i + 1) := by
    apply Int32.toBitVec_inj.mp
    rw [k_adHi, sm_bv]
    apply BitVec.eq_of_getLsbD_eq
    intro j hj
    rw [BitVec.getLsbD_setWidth, BitVec.getLsbD_ushiftRight, BitVec.getLsbD_append]
    simp [hj]
  unfold ad
  rw [e, h1, h2, upd_self, upd_self]
