/-! ===== Int32 and Int64 as whole numbers ===== -/
theorem bm32 {z : Int} (h1 : -2147483648 ≤ z) (h2 : z < 2147483648) : z.bmod (2 ^ 32) = z := by
  simp only [Int.bmod_def]
  split <;> omega
theorem bm64 {z : Int} (h1 : -9223372036854775808 ≤ z) (h2 : z < 9223372036854775808) : z.bmod (2 ^ 64) = z := by
  simp only [Int.bmod_def]
  split <;> omega
theorem i32_lo (x : Int32) : -2147483648 ≤ x.toInt ∧ x.toInt < 2147483648 := by
  have h1 := Int32.le_toInt x
  have h2 := Int32.toInt_lt x
  simp at h1 h2
  omega
theorem i32_add {x y : Int32} (h1 : -2147483648 ≤ x.toInt + y.toInt) (h2 : x.toInt + y.toInt < 2147483648) : (x + y).toInt = x.toInt + y.toInt := by
  rw [Int32.toInt_add]; exact bm32 h1 h2
theorem i32_sub {x y : Int32} (h1 : -2147483648 ≤ x.toInt - y.toInt) (h2 : x.toInt - y.toInt < 2147483648) : (x - y).toInt = x.toInt - y.toInt := by
  rw [Int32.toInt_sub]; exact bm32 h1 h2
theorem i32_mul {x y : Int32} (h1 : -2147483648 ≤ x.toInt * y.toInt) (h2 : x.toInt * y.toInt < 2147483648) : (x * y).toInt = x.toInt * y.toInt := by
  rw [Int32.toInt_mul]; exact bm32 h1 h2
theorem i32_neg {x : Int32} (h1 : -2147483648 < x.toInt) : (-x).toInt = -x.toInt := by
  have h := i32_lo x
  rw [Int32.toInt_neg]; exact bm32 (by omega) (by omega)
theorem i64_w (x : Int32) : (Int32.toInt64 x).toInt = x.toInt := by simp
theorem i64_add {x y : Int64} (h1 : -9223372036854775808 ≤ x.toInt + y.toInt) (h2 : x.toInt + y.toInt < 9223372036854775808) : (x + y).toInt = x.toInt + y.toInt := by
  rw [Int64.toInt_add]; exact bm64 h1 h2
theorem i64_sub {x y : Int64} (h1 : -9223372036854775808 ≤ x.toInt - y.toInt) (h2 : x.toInt - y.toInt < 9223372036854775808) : (x - y).toInt = x.toInt - y.toInt := by
  rw [Int64.toInt_sub]; exact bm64 h1 h2
theorem i64_mul {x y : Int64} (h1 : -9223372036854775808 ≤ x.toInt * y.toInt) (h2 : x.toInt * y.toInt < 9223372036854775808) : (x * y).toInt = x.toInt * y.toInt := by
  rw [Int64.toInt_mul]; exact bm64 h1 h2
theorem ab_mul {x y : Int} {a b : Nat} (hx : x.natAbs ≤ a) (hy : y.natAbs ≤ b) : (x * y).natAbs ≤ a * b := by
  rw [Int.natAbs_mul]; exact Nat.mul_le_mul hx hy
theorem ab_lt {z : Int} {n : Nat} (h : z.natAbs ≤ n) : -(n : Int) ≤ z ∧ z ≤ n := by omega
/-! ===== the greatest, as a bound ===== -/
def ab (x : Int32) : Nat := x.toInt.natAbs
/-- the first N of both rows are B at most -/
def BD (N : Nat) (re im : Nat → Int32) (B : Nat) : Prop := ∀ p, p < N → ab (re p) ≤ B ∧ ab (im p) ≤ B
theorem amx_toInt {x : Int32} {B : Nat} (h : ab x ≤ B) (hB : B < 2147483648) : (amx x).toInt = (ab x : Int) := by
  unfold amx ab at *
  have hle : (0 ≤ x) ↔ 0 ≤ x.toInt := Int32.le_iff_toInt_le
  by_cases h0 : 0 ≤ x
  · rw [if_pos h0]
    have := hle.mp h0
    omega
  · rw [if_neg h0, Int32.zero_sub]
    have h1 : ¬ 0 ≤ x.toInt := fun q => h0 (hle.mpr q)
    rw [i32_neg (by omega)]
    omega
theorem mx2_toInt (a b : Int32) : (mx2 a b).toInt = max a.toInt b.toInt := by
  unfold mx2
  have hlt : a < b ↔ a.toInt < b.toInt := Int32.lt_iff_toInt_lt
  by_cases h : a < b
  · rw [if_pos h]; have := hlt.mp h; omega
  · rw [if_neg h]; have : ¬ a.toInt < b.toInt := fun q => h (hlt.mpr q); omega
theorem lgst_bd {re im : Nat → Int32} {B : Nat} (hB : B < 2147483648) : ∀ (n a : Nat) (acc : Int32), 0 ≤ acc.toInt → acc.toInt ≤ B → (∀ p, a ≤ p → p < a + n → ab (re p) ≤ B ∧ ab (im p) ≤ B) →
    acc.toInt ≤ (itr (lgS re im) a n acc).toInt ∧ (itr (lgS re im) a n acc).toInt ≤ B ∧ ∀ p, a ≤ p → p < a + n → (ab (re p) : Int) ≤ (itr (lgS re im) a n acc).toInt ∧ (ab (im p) : Int) ≤ (itr (lgS re im) a n acc).toInt := by
  intro n
  induction n with
  | zero => intro a acc h0 h1 _; exact ⟨Int.le_refl _, h1, fun p h2 h3 => by omega⟩
  | succ n ih =>
    intro a acc h0 h1 h
    obtain ⟨r1, r2⟩ := h a (by omega) (by omega)
    have e : (lgS re im a acc).toInt = max acc.toInt (max (ab (re a) : Int) (ab (im a))) := by
      unfold lgS
      rw [mx2_toInt, mx2_toInt, amx_toInt r1 hB, amx_toInt r2 hB]
    obtain ⟨g1, g2, g3⟩ := ih (a + 1) (lgS re im a acc) (by omega) (by omega) (fun p hp hq => h p (by omega) (by omega))
    show acc.toInt ≤ (itr (lgS re im) (a + 1) n (lgS re im a acc)).toInt ∧ (itr (lgS re im) (a + 1) n (lgS re im a acc)).toInt ≤ B ∧ _
    refine ⟨by omega, g2, fun p hp hq => ?_⟩
    show (ab (re p) : Int) ≤ (itr (lgS re im) (a + 1) n (lgS re im a acc)).toInt ∧ (ab (im p) : Int) ≤ (itr (lgS re im) (a + 1) n (lgS re im a acc)).toInt
    by_cases hpa : p = a
    · subst hpa; omega
    · exact g3 p (by omega) (by omega)
theorem lgst_x {N B : Nat} {re im : Nat → Int32} (hB : B < 2147483648) (h : BD N re im B) : 0 ≤ (lgst re im 0 N).toInt ∧ (lgst re im 0 N).toInt ≤ B ∧ BD N re im (lgst re im 0 N).toInt.toNat := by
  obtain ⟨g1, g2, g3⟩ := lgst_bd hB N 0 0 (by decide) (by simp) (fun p _ hp => h p (by omega))
  have z : (0 : Int32).toInt = 0 := by decide
  rw [z] at g1
  refine ⟨g1, g2, fun p hp => ?_⟩
  obtain ⟨a1, a2⟩ := g3 p (by omega) (by omega)
  unfold lgst
  omega
theorem lgst_le {N B : Nat} {re im : Nat → Int32} (hB : B < 2147483648) (h : BD N re im B) : (lgst re im 0 N).toInt ≤ B := (lgst_x hB h).2.1
/-! ===== halved ===== -/
def hv (nr : Nat) (x : Int32) : Int32 := (x + nI nr) >>> ((1 : Int32) &&& 31)
theorem sar1 (x : Int32) : (x >>> ((1 : Int32) &&& 31)).toInt = x.toInt >>> 1 := pk_shr x _ 1 (by decide)
theorem hv_toInt {nr : Nat} (hn : nr < 2) {x : Int32} (h : ab x < 2147483647) : (hv nr x).toInt = (x.toInt + nr) / 2 := by
  unfold hv ab at *
  have e : (nI nr).toInt = (nr : Int) := nI_toInt (by omega)
  rw [sar1, i32_add (by rw [e]; omega) (by rw [e]; omega), e, Int.shiftRight_eq_div_pow]
  rfl
theorem hv_ab {nr : Nat} (hn : nr < 2) {x : Int32} {B : Nat} (h : ab x ≤ B) (hB : B < 2147483647) : ab (hv nr x) ≤ (B + 1) / 2 := by
  have e := hv_toInt hn (x := x) (by omega)
  unfold ab at *
  rw [e]
  omega
theorem hv_0 {nr : Nat} (hn : nr < 2) : hv nr 0 = 0 := by
  rcases (show nr = 0 ∨ nr = 1 by omega) with rfl | rfl <;> decide
/-- halved k times, the first N -/
def hvN (nr N : Nat) (a : Nat → Int32) : Nat → Nat → Int32
  | 0 => a
  | k + 1 => fun p => if p < N then hv nr (hvN nr N a k p) else a p
def hB (B : Nat) : Nat → Nat
  | 0 => B
  | k + 1 => (hB B k + 1) / 2
theorem hB_le {B : Nat} (h : 1 ≤ B) : ∀ k, hB B k ≤ B ∧ 1 ≤ hB B k := by
  intro k
  induction k with
  | zero => exact ⟨Nat.le_refl _, h⟩
  | succ k ih => show (hB B k + 1) / 2 ≤ B ∧ 1 ≤ (hB B k + 1) / 2; omega
theorem hvN_bd {nr N B : Nat} (hn : nr < 2) {re im : Nat → Int32} (hB1 : 1 ≤ B) (hB2 : B < 2147483647) (h : BD N re im B) : ∀ k, BD N (hvN nr N re k) (hvN nr N im k) (hB B k) := by
  intro k
  induction k with
  | zero => exact h
  | succ k ih =>
    intro p hp
    obtain ⟨a1, a2⟩ := ih p hp
    have := hB_le hB1 k
    show ab (if p < N then hv nr (hvN nr N re k p) else re p) ≤ (hB B k + 1) / 2 ∧ ab (if p < N then hv nr (hvN nr N im k p) else im p) ≤ (hB B k + 1) / 2
    rw [if_pos hp, if_pos hp]
    exact ⟨hv_ab hn a1 (by omega), hv_ab hn a2 (by omega)⟩
theorem hB_20 {B : Nat} (h : 1 ≤ B) (h2 : B ≤ 2 ^ 20) : ∀ k, k ≤ 20 → hB B k ≤ 2 ^ (20 - k) := by
  intro k
  induction k with
  | zero => intro _; exact h2
  | succ k ih =>
    intro hk
    have h3 := ih (by omega)
    have h4 : 2 ^ (20 - k) = 2 * 2 ^ (20 - (k + 1)) := by
      rw [show 20 - k = (20 - (k + 1)) + 1 by omega, Nat.pow_succ, Nat.mul_comm]
    have h5 : 1 ≤ 2 ^ (20 - (k + 1)) := Nat.two_pow_pos _
    show (hB B k + 1) / 2 ≤ 2 ^ (20 - (k + 1))
    omega
