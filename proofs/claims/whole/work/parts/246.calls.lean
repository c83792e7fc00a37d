/-! ===== numbers: remainders, by chance ===== -/
theorem nI_toI {x : Int32} {n : Nat} (hn : n < 2 ^ 31) (h : x.toInt = (n : Int)) : x = nI n := Int32.toInt_inj.mp (h.trans (nI_toInt hn).symm)
theorem xor_nn (x : Int32) {d : Int32} (hd : 0 ≤ d.toInt) : (0 ≤ (x ^^^ d)) ↔ 0 ≤ x.toInt := by
  rw [Int32.le_iff_toInt_le, show (0 : Int32).toInt = 0 from rfl]
  have h1 : (x ^^^ d).toBitVec.msb = (x.toBitVec.msb ^^ d.toBitVec.msb) := by rw [Int32.toBitVec_xor, BitVec.msb_xor]
  rw [BitVec.msb_eq_toInt, BitVec.msb_eq_toInt, BitVec.msb_eq_toInt] at h1
  have h2 : decide ((x ^^^ d).toInt < 0) = (decide (x.toInt < 0) ^^ decide (d.toInt < 0)) := h1
  rw [decide_eq_false (show ¬ d.toInt < 0 by omega), Bool.xor_false] at h2
  have h3 := decide_eq_decide.mp h2
  omega
theorem xor_nnL (x : Int64) {d : Int64} (hd : 0 ≤ d.toInt) : ((0 : Int64) ≤ (x ^^^ d)) ↔ 0 ≤ x.toInt := by
  rw [Int64.le_iff_toInt_le, show (0 : Int64).toInt = 0 from rfl]
  have h1 : (x ^^^ d).toBitVec.msb = (x.toBitVec.msb ^^ d.toBitVec.msb) := by rw [Int64.toBitVec_xor, BitVec.msb_xor]
  rw [BitVec.msb_eq_toInt, BitVec.msb_eq_toInt, BitVec.msb_eq_toInt] at h1
  have h2 : decide ((x ^^^ d).toInt < 0) = (decide (x.toInt < 0) ^^ decide (d.toInt < 0)) := h1
  rw [decide_eq_false (show ¬ d.toInt < 0 by omega), Bool.xor_false] at h2
  have h3 := decide_eq_decide.mp h2
  omega
theorem tm97 (z : Int) : z.tmod 97 = if 0 ≤ z then z % 97 else -((-z) % 97) := by
  by_cases h : 0 ≤ z
  · rw [if_pos h, Int.tmod_eq_emod_of_nonneg h]
  · rw [if_neg h]
    have h1 := Int.neg_tmod (-z) 97
    rw [Int.neg_neg] at h1
    rw [h1, Int.tmod_eq_emod_of_nonneg (by omega)]
/-- a number of the ring -/
def rg (z : Int) : Nat := (z % 97).toNat
theorem rg_lt (z : Int) : rg z < 97 := by unfold rg; omega
theorem fm97 (x : Int32) : fJ9_floorMod_7cf53 x 97 = some (nI (rg x.toInt)) := by
  have hr := rem_toInt x 97
  rw [show (97 : Int32).toInt = 97 from rfl, tm97] at hr
  unfold fJ9_floorMod_7cf53 rg
  rw [gd_t (show nz 97 = true by decide)]
  simp only [nm]
  by_cases hx : 0 ≤ x.toInt
  · rw [if_pos ((xor_nn x (by decide)).mpr hx)]
    rw [if_pos hx] at hr
    exact congrArg some (nI_toI (by omega) (by omega))
  · rw [if_neg (fun q => hx ((xor_nn x (by decide)).mp q))]
    rw [if_neg hx] at hr
    by_cases h0 : (x - x / 97 * 97) = 0
    · rw [if_pos h0]
      rw [h0, show (0 : Int32).toInt = 0 from rfl] at hr
      rw [h0]
      exact congrArg some (nI_toI (by omega) (by rw [show (0 : Int32).toInt = 0 from rfl]; omega))
    · rw [if_neg h0]
      have h1 : (x - x / 97 * 97).toInt ≠ 0 := fun q => h0 (Int32.toInt_inj.mp q)
      refine congrArg some (nI_toI (by omega) ?_)
      rw [i32_add (by rw [show (97 : Int32).toInt = 97 from rfl]; omega) (by rw [show (97 : Int32).toInt = 97 from rfl]; omega), show (97 : Int32).toInt = 97 from rfl]
      omega
theorem fm97L (x : Int64) : ∃ r, fJ9_floorMod_f86c9 x 97 = some r ∧ Int64.toInt32 r = nI (rg x.toInt) := by
  have hr := Jvm.Kit.i64_rem x 97
  rw [show (97 : Int64).toInt = 97 from rfl, tm97] at hr
  unfold fJ9_floorMod_f86c9 rg
  rw [gd_t (show nzl 97 = true by decide)]
  simp only [nm]
  have fin : ∀ {r : Int64} {n : Nat}, n < 97 → r.toInt = (n : Int) → Int64.toInt32 r = nI n := fun {r n} hn h => nI_toI (by omega) (by rw [i64_n (by omega) (by omega), h])
  by_cases hx : 0 ≤ x.toInt
  · rw [if_pos ((xor_nnL x (by decide)).mpr hx)]
    rw [if_pos hx] at hr
    exact ⟨_, rfl, fin (by omega) (by omega)⟩
  · rw [if_neg (fun q => hx ((xor_nnL x (by decide)).mp q))]
    rw [if_neg hx] at hr
    by_cases h0 : (x - x / 97 * 97) = 0
    · rw [if_pos h0]
      rw [h0, show (0 : Int64).toInt = 0 from rfl] at hr
      rw [h0]
      exact ⟨_, rfl, fin (by omega) (by rw [show (0 : Int64).toInt = 0 from rfl]; omega)⟩
    · rw [if_neg h0]
      have h1 : (x - x / 97 * 97).toInt ≠ 0 := fun q => h0 (Int64.toInt_inj.mp q)
      refine ⟨_, rfl, fin (by omega) ?_⟩
      rw [i64_add (by rw [show (97 : Int64).toInt = 97 from rfl]; omega) (by rw [show (97 : Int64).toInt = 97 from rfl]; omega), show (97 : Int64).toInt = 97 from rfl]
      omega
theorem inRing_eq (x : Int64) : fX10_inRing x = some (nI (rg x.toInt)) := by
  have hr := Jvm.Kit.i64_rem x 97
  rw [show (97 : Int64).toInt = 97 from rfl, tm97] at hr
  have fin : ∀ {r : Int64} {n : Nat}, n < 97 → r.toInt = (n : Int) → Int64.toInt32 r = nI n := fun {r n} hn h => nI_toI (by omega) (by rw [i64_n (by omega) (by omega), h])
  unfold fX10_inRing rg
  simp only [nm]
  by_cases h0 : (0 : Int64) ≤ x - x / 97 * 97
  · rw [if_pos h0]
    rw [Int64.le_iff_toInt_le, show (0 : Int64).toInt = 0 from rfl] at h0
    refine congrArg some (fin (by omega) ?_)
    split at hr <;> omega
  · rw [if_neg h0]
    rw [Int64.le_iff_toInt_le, show (0 : Int64).toInt = 0 from rfl] at h0
    refine congrArg some (fin (by omega) ?_)
    rw [i64_add (by rw [show (97 : Int64).toInt = 97 from rfl]; split at hr <;> omega) (by rw [show (97 : Int64).toInt = 97 from rfl]; split at hr <;> omega), show (97 : Int64).toInt = 97 from rfl]
    split at hr <;> omega
theorem fmN {b d : Nat} (hb : b < 2 ^ 31) (h0 : 0 < d) (hd : d < 2 ^ 31) : fJ9_floorMod_7cf53 (nI b) (nI d) = some (nI (b % d)) := by
  unfold fJ9_floorMod_7cf53
  rw [gd_t (nz_nI h0 hd)]
  simp only [nm]
  rw [if_pos ((xor_nn _ (by rw [nI_toInt hd]; omega)).mpr (by rw [nI_toInt hb]; omega)), pk_rem hb h0 hd]
/-- the next number by chance -/
def nxD (x : Nat) : Nat := (x * 1103515245 + 12345) % 2 ^ 31
theorem nxD_lt (x : Nat) : nxD x < 2 ^ 31 := Nat.mod_lt _ (by decide)
theorem tnm (n : Nat) : (nI n).toBitVec.toNat = n % 2 ^ 32 := rfl
theorem mask31 (n : Nat) : nI n &&& (2147483647 : Int32) = nI (n % 2 ^ 31) := by
  rw [pk_and _ 31 (by decide), tnm, Nat.mod_mod_of_dvd _ (show 2 ^ 31 ∣ 2 ^ 32 from ⟨2, rfl⟩)]
theorem nx_c (x : Nat) : ((nI x * (1103515245 : Int32)) + (12345 : Int32)) &&& (2147483647 : Int32) = nI (nxD x) := by
  unfold nxD
  rw [lit_nI 1103515245, lit_nI 12345, pk_mul, nI_add, mask31]
theorem nx_m {x : Nat} (hx : x < 2 ^ 31) : ((lN x * (1103515245 : Int64)) + (12345 : Int64)) &&& (2147483647 : Int64) = lN (nxD x) := by
  rw [show (1103515245 : Int64) = lN 1103515245 from rfl, show (12345 : Int64) = lN 12345 from rfl, lN_mul, lN_add]
  have hb : x * 1103515245 + 12345 < 2 ^ 62 := by omega
  have e := Jvm.Kit.i64_mask (lN (x * 1103515245 + 12345)) 2147483647 (k := 31) (by decide) (by decide)
  rw [pk_lT (by omega)] at e
  have h1 := nxD_lt x
  apply Int64.toInt_inj.mp
  rw [e, pk_lT (by omega)]
  unfold nxD
  omega
def amt (x a : Nat) : Int32 := nI (x / 65536 % (2 * a + 1))
theorem amount_eq {x a : Nat} (ha : a ≤ 99) : fX1_amount (nI x) (nI a) = some (amt (nxD x) a - nI a, nI (nxD x)) := by
  have h1 := nxD_lt x
  unfold fX1_amount amt
  simp only [nm]
  rw [nx_c, show (2 : Int32) * nI a + 1 = nI (2 * a + 1) from by rw [show (2 : Int32) = nI 2 from rfl, pk_mul, nI_1], show (16 : Int32) = nI 16 from rfl, shr_nI (by decide) h1, fmN (by omega) (by omega) (by omega), bd1_s]
/-- a number kept in the word -/
def kp (lim : Nat) (v : Int32) : Int32 := if v ≤ nI lim then (if -(nI lim) ≤ v then v else -(nI lim)) else nI lim
theorem neg_toInt {n : Nat} (h : n < 2 ^ 31) : (-(nI n)).toInt = -(n : Int) := by rw [i32_neg (by rw [nI_toInt h]; omega), nI_toInt h]
theorem kept_eq {lim : Nat} (hl : lim < 2 ^ 15) (v : Int32) : fX9_kept (nI lim) v = some (kp lim v) := by
  unfold fX9_kept kp
  simp only [nm]
  have e1 := nI_toInt (show lim < 2 ^ 31 by omega)
  have e2 := neg_toInt (show lim < 2 ^ 31 by omega)
  have hlt : ∀ x y : Int32, x < y ↔ x.toInt < y.toInt := fun x y => Int32.lt_iff_toInt_lt
  have hle : ∀ x y : Int32, x ≤ y ↔ x.toInt ≤ y.toInt := fun x y => Int32.le_iff_toInt_le
  refine congrArg some (Int32.toInt_inj.mp ?_)
  simp only [hlt, hle, e1, e2]
  repeat' split
  all_goals omega
theorem kp_ab {lim : Nat} (hl : lim < 2 ^ 15) (v : Int32) : ab (kp lim v) ≤ lim := by
  unfold kp ab
  have e1 := nI_toInt (show lim < 2 ^ 31 by omega)
  have e2 := neg_toInt (show lim < 2 ^ 31 by omega)
  have hle : ∀ x y : Int32, x ≤ y ↔ x.toInt ≤ y.toInt := fun x y => Int32.le_iff_toInt_le
  split
  · split
    · simp only [hle, e1, e2] at *; omega
    · rw [e2]; omega
  · rw [e1]; omega
theorem noisy_eq {x a lim : Nat} (hx : x < 2 ^ 31) (ha : a ≤ 99) (v : Int32) : fX10_noisy (nI lim) (lN x) v (nI a) = some (kp lim (v + (amt (nxD x) a - nI a)), lN (nxD x)) := by
  have h1 := nxD_lt x
  have h2 := Nat.mod_lt (nxD x / 65536) (show 0 < 2 * a + 1 by omega)
  have ed : Int32.toInt64 ((2 : Int32) * nI a + 1) = lN (2 * a + 1) := by
    rw [show (2 : Int32) = nI 2 from rfl, pk_mul, nI_1, nI_l (by omega)]
  unfold fX10_noisy
  simp only [nm]
  rw [nx_m hx, ed, show (65536 : Int64) = lN 65536 from rfl, pk_lDiv (by omega) (by decide) (by decide), pk_lRem (by omega) (by omega) (by omega), lN_i]
  have hz : nzl (lN (2 * a + 1)) = true := by
    unfold nzl
    rw [decide_eq_false (fun q => by have := (pk_lEQ (a := 2 * a + 1) (b := 0) (by omega) (by decide)).mp q; omega)]
    rfl
  rw [gd_t hz]
  have es : v + nI (nxD x / 65536 % (2 * a + 1)) - nI a = v + (amt (nxD x) a - nI a) := by
    unfold amt
    grind
  rw [es]
  unfold kp
  by_cases q1 : v + (amt (nxD x) a - nI a) ≤ nI lim
  · rw [if_pos q1, if_pos q1]
    by_cases q2 : -(nI lim) ≤ v + (amt (nxD x) a - nI a)
    · rw [if_pos q2, if_pos q2]
    · rw [if_neg q2, if_neg q2]
  · rw [if_neg q1, if_neg q1]
