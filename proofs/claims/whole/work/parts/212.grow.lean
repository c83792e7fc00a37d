/-! ===== how far a stage can grow ===== -/
theorem ab_add {x y : Int32} {a b : Nat} (hx : ab x ≤ a) (hy : ab y ≤ b) (h : a + b < 2147483648) : ab (x + y) ≤ a + b := by
  unfold ab at *
  rw [i32_add (by omega) (by omega)]
  omega
theorem ab_sub {x y : Int32} {a b : Nat} (hx : ab x ≤ a) (hy : ab y ≤ b) (h : a + b < 2147483648) : ab (x - y) ≤ a + b := by
  unfold ab at *
  rw [i32_sub (by omega) (by omega)]
  omega
theorem ab_neg {x : Int32} {a : Nat} (hx : ab x ≤ a) (h : a < 2147483648) : ab (-x) ≤ a := by
  unfold ab at *
  rw [i32_neg (by omega)]
  omega
theorem rnd_toInt {nr : Nat} (hn : nr < 2) {z : Int64} {b : Nat} (h : z.toInt.natAbs ≤ b) (hb : b < 2 ^ 60) : (rnd nr z).toInt = (z.toInt + (if nr = 1 then 8192 else 0)) / 16384 := by
  unfold rnd
  rw [sar64 _ _ 14 (by decide)]
  rcases (show nr = 0 ∨ nr = 1 by omega) with rfl | rfl
  · rw [if_neg (by decide), if_neg (by decide), Int64.add_zero, Int.shiftRight_eq_div_pow, Int.add_zero]
    rfl
  · rw [if_pos rfl, if_pos rfl, i64_add (by show _ ≤ z.toInt + 8192; omega) (by show z.toInt + 8192 < _; omega), Int.shiftRight_eq_div_pow]
    rfl
theorem tw_bd {nr L : Nat} (hn : nr < 2) (hL : L ≤ 2 ^ 24) {c s x y : Int32} (hc : ab c ≤ 16384) (hs : ab s ≤ 16384) (hx : ab x ≤ L) (hy : ab y ≤ L) : ab (twRe nr c s x y) ≤ 2 * L ∧ ab (twIm nr c s x y) ≤ 2 * L := by
  unfold ab at *
  have m : ∀ {u v : Int32}, u.toInt.natAbs ≤ L → v.toInt.natAbs ≤ 16384 → (Int32.toInt64 u * Int32.toInt64 v).toInt = u.toInt * v.toInt ∧ (u.toInt * v.toInt).natAbs ≤ L * 16384 := fun {u v} h1 h2 => by
    have h3 := ab_mul h1 h2
    refine ⟨?_, h3⟩
    rw [i64_mul (by rw [i64_w, i64_w]; omega) (by rw [i64_w, i64_w]; omega), i64_w, i64_w]
  have fin : ∀ {z : Int64}, z.toInt.natAbs ≤ L * 32768 → (Int64.toInt32 (rnd nr z)).toInt.natAbs ≤ 2 * L := fun {z} hz => by
    have e := rnd_toInt hn hz (by omega)
    have hd : ((z.toInt + (if nr = 1 then 8192 else 0)) / 16384).natAbs ≤ 2 * L := by
      split <;> omega
    rw [i64_n (by rw [e]; omega) (by rw [e]; omega), e]
    exact hd
  obtain ⟨a1, a2⟩ := m hx hc
  obtain ⟨b1, b2⟩ := m hy hs
  obtain ⟨c1, c2⟩ := m hy hc
  obtain ⟨d1, d2⟩ := m hx hs
  refine ⟨fin ?_, fin ?_⟩
  · rw [i64_add (by rw [a1, b1]; omega) (by rw [a1, b1]; omega), a1, b1]; omega
  · rw [i64_sub (by rw [c1, d1]; omega) (by rw [c1, d1]; omega), c1, d1]; omega
theorem ad_bd {sh q X : Nat} (hs : sh = 1 ∨ sh = 2) (hX : X ≤ 2 ^ 26) {x y : Nat → Int32} (h : ∀ t, t < 2 ^ sh → ab (x t) ≤ X ∧ ab (y t) ≤ X) : ab (adRe sh q x y) ≤ 2 ^ sh * X ∧ ab (adIm sh q x y) ≤ 2 ^ sh * X := by
  rcases hs with rfl | rfl
  · obtain ⟨a0, b0⟩ := h 0 (by decide)
    obtain ⟨a1, b1⟩ := h 1 (by decide)
    have e : 2 ^ 1 * X = X + X := by omega
    rw [e]
    unfold adRe adIm
    rw [if_pos rfl, if_pos rfl]
    split
    · exact ⟨ab_add a0 a1 (by omega), ab_add b0 b1 (by omega)⟩
    · exact ⟨ab_sub a0 a1 (by omega), ab_sub b0 b1 (by omega)⟩
  · obtain ⟨a0, b0⟩ := h 0 (by decide)
    obtain ⟨a1, b1⟩ := h 1 (by decide)
    obtain ⟨a2, b2⟩ := h 2 (by decide)
    obtain ⟨a3, b3⟩ := h 3 (by decide)
    have e : 2 ^ 2 * X = (X + X) + (X + X) := by omega
    rw [e]
    unfold adRe adIm
    rw [if_neg (show ¬ ((2 : Nat) = 1) by decide), if_neg (show ¬ ((2 : Nat) = 1) by decide)]
    have A : ∀ {x y : Int32}, ab x ≤ X → ab y ≤ X → ab (x + y) ≤ X + X := fun h1 h2 => ab_add h1 h2 (by omega)
    have S : ∀ {x y : Int32}, ab x ≤ X → ab y ≤ X → ab (x - y) ≤ X + X := fun h1 h2 => ab_sub h1 h2 (by omega)
    by_cases q0 : q = 0
    · rw [if_pos q0, if_pos q0]
      exact ⟨ab_add (A a0 a2) (A a1 a3) (by omega), ab_add (A b0 b2) (A b1 b3) (by omega)⟩
    rw [if_neg q0, if_neg q0]
    by_cases q1 : q = 1
    · rw [if_pos q1, if_pos q1]
      exact ⟨ab_sub (S a0 a2) (S b3 b1) (by omega), ab_sub (S b0 b2) (S a1 a3) (by omega)⟩
    rw [if_neg q1, if_neg q1]
    by_cases q2 : q = 2
    · rw [if_pos q2, if_pos q2]
      exact ⟨ab_sub (A a0 a2) (A a1 a3) (by omega), ab_sub (A b0 b2) (A b1 b3) (by omega)⟩
    · rw [if_neg q2, if_neg q2]
      exact ⟨ab_add (S a0 a2) (S b3 b1) (by omega), ab_add (S b0 b2) (S a1 a3) (by omega)⟩
def TBB (c s : Nat → Int32) : Prop := ∀ j, j < 32 → ab (c j) ≤ 16384 ∧ ab (s j) ≤ 16384
theorem wg_bd {ord nr sh u q L : Nat} (hn : nr < 2) (hs : sh = 1 ∨ sh = 2) (hL : L ≤ 2 ^ 20) {c s x y : Nat → Int32} (hT : TBB c s) (hu : ∀ t, t < 2 ^ sh → t * u < 32) (hq : q < 2 ^ sh) (h : ∀ t, t < 2 ^ sh → ab (x t) ≤ L ∧ ab (y t) ≤ L) :
    ab (wgRe ord nr sh u c s x y q) ≤ 2 ^ sh * (2 * L) ∧ ab (wgIm ord nr sh u c s x y q) ≤ 2 ^ sh * (2 * L) := by
  have h4 : 2 ^ sh ≤ 4 := by rcases hs with rfl | rfl <;> decide
  have hin : ∀ t, t < 2 ^ sh → ab (inRe ord nr u c s x y t) ≤ (if ord = 0 then 2 * L else L) ∧ ab (inIm ord nr u c s x y t) ≤ (if ord = 0 then 2 * L else L) := by
    intro t ht
    unfold inRe inIm
    obtain ⟨h1, h2⟩ := h t ht
    by_cases h0 : ord = 0
    · rw [if_pos h0]
      by_cases ht0 : t = 0
      · rw [if_neg (by omega), if_neg (by omega)]; omega
      · rw [if_pos ⟨h0, ht0⟩, if_pos ⟨h0, ht0⟩]
        obtain ⟨q1, q2⟩ := hT _ (hu t ht)
        exact tw_bd hn (by omega) q1 q2 h1 h2
    · rw [if_neg h0, if_neg (by omega), if_neg (by omega)]
      exact ⟨h1, h2⟩
  unfold wgRe wgIm
  by_cases h0 : ord = 0
  · rw [if_neg (by omega), if_neg (by omega)]
    rw [if_pos h0] at hin
    exact ad_bd hs (by omega) hin
  · rw [if_neg h0] at hin
    obtain ⟨g1, g2⟩ := ad_bd (q := q) hs (by omega) hin
    have hX : 2 ^ sh * L ≤ 4 * 2 ^ 20 := Nat.mul_le_mul h4 hL
    have e : 2 ^ sh * (2 * L) = 2 * (2 ^ sh * L) := by rw [Nat.mul_left_comm]
    rw [e]
    by_cases hq0 : q = 0
    · rw [if_neg (by omega), if_neg (by omega)]; omega
    · rw [if_pos ⟨h0, hq0⟩, if_pos ⟨h0, hq0⟩]
      obtain ⟨q1, q2⟩ := hT _ (hu q hq)
      exact tw_bd hn (by omega) q1 q2 g1 g2
theorem opWg_bd {M rad ord nr k L : Nat} {c s : Nat → Int32} {z : RowZ} (hM : isM M) (hr : isRad rad) (ho : ord < 2) (hn : nr < 2) (hk : k < nst M rad) (hL : L ≤ 2 ^ 20) (hT : TBB c s) (h : BDz M z L) : BDz M (opWg M rad ord nr k c s z) (2 ^ shn M rad ord k * (2 * L)) := by
  obtain ⟨-, -, -, s4, s5⟩ := sh_x hM hr ho hk
  have hN := isM_pow hM
  intro p hp
  obtain ⟨-, -, g3, g4⟩ := ga_x hM s5 s4 hp
  unfold opWg
  dsimp only
  rw [if_pos hp, if_pos hp]
  unfold wvRe wvIm
  exact wg_bd hn s5 hL hT (fun t ht => by have := (g4 t ht).2; rw [Nat.mul_assoc] at this; unfold uP; omega) g3 (fun t ht => h _ (g4 t ht).1)
theorem hB_sc {B : Nat} : ∀ k, hB B k * 2 ^ k ≤ B + 2 ^ k - 1 := by
  intro k
  induction k with
  | zero => simp [hB]
  | succ k ih =>
    have e : 2 ^ (k + 1) = 2 * 2 ^ k := by rw [Nat.pow_succ, Nat.mul_comm]
    have h1 : (hB B k + 1) / 2 * 2 ≤ hB B k + 1 := Nat.div_mul_le_self _ _
    have h2 : (hB B k + 1) / 2 * 2 * 2 ^ k ≤ (hB B k + 1) * 2 ^ k := Nat.mul_le_mul_right _ h1
    have h3 : 1 ≤ 2 ^ k := Nat.two_pow_pos k
    rw [Nat.add_mul, Nat.one_mul, Nat.mul_assoc] at h2
    show (hB B k + 1) / 2 * 2 ^ (k + 1) ≤ B + 2 ^ (k + 1) - 1
    rw [e]
    omega
theorem rev_bd {M rad ord B : Nat} {z : RowZ} (hM : isM M) (hr : isRad rad) (ho : ord < 2) (h : BDz M z B) : BDz M (opRev M rad ord z) B := by
  intro p hp
  unfold opRev rvR
  dsimp only
  rw [if_pos hp, if_pos hp]
  exact h _ (rv_x hM hr ho hp).2.2.1
theorem ng_bd {M B : Nat} {z : RowZ} (hB : B < 2147483648) (h : BDz M z B) : BDz M (opNg M z) B := by
  intro p hp
  refine ⟨(h p hp).1, ?_⟩
  show ab (if p < 2 ^ M then -(z.2 p) else z.2 p) ≤ B
  rw [if_pos hp]
  exact ab_neg (h p hp).2 hB
/-- behind a stage with halving: in 16 bits, and not 16 times as much, all told -/
theorem st_bd {bk M rad ord nr lim k B : Nat} {c s : Nat → Int32} {z : RowZ} (hM : isM M) (hr : isRad rad) (ho : ord < 2) (hn : nr < 2) (hl1 : 127 ≤ lim) (hl2 : lim < 2 ^ 15) (hk : k < nst M rad) (hT : TBB c s) (h1 : 1 ≤ B) (h2 : B ≤ 2 ^ 16) (h : BDz M z B) :
    ∃ B', 1 ≤ B' ∧ B' ≤ 2 ^ 16 ∧ BDz M (stE 1 bk M rad ord nr lim k c s z) B' ∧ B' * 2 ^ stN 1 M rad ord nr lim k z ≤ 16 * B := by
  obtain ⟨-, -, -, -, s5⟩ := sh_x hM hr ho hk
  have hA := stA_bd (k := k) hM hr ho h
  have hx : isHv 1 nr M lim (grw M rad ord k) (stA M rad ord k z) (stN 1 M rad ord nr lim k z) := by
    unfold stN
    exact nHv_x hn h1 (by omega) (fun _ => hA) hl1 grw_le
  obtain ⟨g1, g2, g3⟩ := isHv_1 (by decide) hx
  obtain ⟨n, en⟩ : ∃ n, n = stN 1 M rad ord nr lim k z := ⟨_, rfl⟩
  obtain ⟨y, ey⟩ : ∃ y, y = stA M rad ord k z := ⟨_, rfl⟩
  rw [← ey] at hA g2 g3
  have hyB : stB 1 M rad ord nr lim k z = opHv nr M n y := by unfold stB; rw [← en, ← ey]
  rw [← en] at g1 g2 g3 ⊢
  obtain ⟨k1, k2⟩ := lgk_toInt hn h1 (by omega) hA n
  have hv := hvN_bd hn h1 (by omega) hA n
  have hle := hB_le h1 n
  have k3 := (lgst_x (show hB B n < 2147483648 by omega) hv).2.2
  rw [k1] at k3
  obtain ⟨L, eL⟩ : ∃ L, L = lgk nr (2 ^ M) y.1 y.2 n := ⟨_, rfl⟩
  rw [← eL] at g2 k2 k3
  have k4 : BDz M (opHv nr M n y) L := by
    have : ((L : Int)).toNat = L := by omega
    rw [this] at k3
    exact k3
  have h7 := hB_sc (B := B) n
  have hp0 : 1 ≤ 2 ^ n := Nat.two_pow_pos n
  have hLn : L * 2 ^ n ≤ hB B n * 2 ^ n := Nat.mul_le_mul_right _ k2
  -- 2^n is small against B
  have hsm : n = 0 ∨ 21 * 2 ^ n ≤ 2 * B := by
    rcases Nat.eq_zero_or_pos n with h0 | h0
    · exact Or.inl h0
    · right
      have e5 := g3 (n - 1) (by omega)
      have e6 := (lgk_toInt hn h1 (by omega) hA (n - 1)).2
      have e7 := hB_sc (B := B) (n - 1)
      have e8 : 2 ^ n = 2 * 2 ^ (n - 1) := by rw [show n = (n - 1) + 1 by omega, Nat.pow_succ, Nat.mul_comm, Nat.add_sub_cancel]
      have hg12 := grw_le (M := M) (rad := rad) (ord := ord) (k := k)
      have e9 : lgk nr (2 ^ M) y.1 y.2 (n - 1) * grw M rad ord k ≤ lgk nr (2 ^ M) y.1 y.2 (n - 1) * 12 := Nat.mul_le_mul_left _ hg12
      have e10 : 22 ≤ hB B (n - 1) := by omega
      have e11 : 22 * 2 ^ (n - 1) ≤ hB B (n - 1) * 2 ^ (n - 1) := Nat.mul_le_mul_right _ e10
      have : 1 ≤ 2 ^ (n - 1) := Nat.two_pow_pos _
      omega
  have hL16 : L ≤ 2 ^ 16 := by omega
  have hw : BDz M (stC 1 M rad ord nr lim k c s z) (8 * L + 3) := by
    unfold stC
    rw [hyB]
    intro p hp
    obtain ⟨w1, w2⟩ := opWg_bd hM hr ho hn hk (by omega) hT k4 p hp
    have : 2 ^ shn M rad ord k * (2 * L) ≤ 8 * L := by rcases s5 with q | q <;> rw [q] <;> omega
    omega
  have hw1 : BDz M (stC 1 M rad ord nr lim k c s z) ((if shn M rad ord k = 2 then 8 * L else 4 * L) + 3) := by
    unfold stC
    rw [hyB]
    intro p hp
    obtain ⟨w1, w2⟩ := opWg_bd hM hr ho hn hk (by omega) hT k4 p hp
    have : 2 ^ shn M rad ord k * (2 * L) ≤ (if shn M rad ord k = 2 then 8 * L else 4 * L) := by rcases s5 with q | q <;> rw [q] <;> simp <;> omega
    omega
  obtain ⟨B', eB'⟩ : ∃ B', B' = (if shn M rad ord k = 2 then 8 * L else 4 * L) + 3 := ⟨_, rfl⟩
  have hB'8 : B' ≤ 8 * L + 3 := by rw [eB']; split <;> omega
  have hB'1 : B' ≤ 2 ^ 16 := by
    rw [eB']
    unfold grw at g2
    rcases s5 with q | q
    · rw [q] at g2 ⊢
      rw [if_neg (by decide)] at g2 ⊢
      split at g2 <;> omega
    · rw [q] at g2 ⊢
      rw [if_pos rfl] at g2 ⊢
      omega
  rw [← eB'] at hw1
  refine ⟨B', by omega, hB'1, ?_, ?_⟩
  · have hD : BDz M (stD 1 M rad ord nr lim k c s z) B' := by
      unfold stD
      split
      · exact rev_bd hM hr ho hw1
      · exact hw1
    unfold stE
    split
    · exact ng_bd (by omega) hD
    · exact hD
  · have h9 : B' * 2 ^ n ≤ (8 * L + 3) * 2 ^ n := Nat.mul_le_mul_right _ hB'8
    rw [Nat.add_mul, Nat.mul_assoc] at h9
    rcases hsm with h0 | h0
    · subst h0
      have : 2 ^ 0 = 1 := rfl
      rw [this] at *
      have := hB_le h1 0
      omega
    · omega
