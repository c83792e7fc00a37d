/-! ===== halving before a stage ===== -/
theorem hvN_out {nr N p : Nat} {a : Nat → Int32} (h : N ≤ p) : ∀ k, hvN nr N a k p = a p := by
  intro k
  cases k with
  | zero => rfl
  | succ k => exact if_neg (by omega)
/-- the greatest behind k halvings -/
def lgk (nr N : Nat) (re im : Nat → Int32) (k : Nat) : Nat := (lgst (hvN nr N re k) (hvN nr N im k) 0 N).toInt.toNat
theorem lgk_toInt {nr N B : Nat} {re im : Nat → Int32} (hn : nr < 2) (h1 : 1 ≤ B) (h2 : B ≤ 2 ^ 20) (h : BD N re im B) (k : Nat) : (lgst (hvN nr N re k) (hvN nr N im k) 0 N).toInt = (lgk nr N re im k : Int) ∧ lgk nr N re im k ≤ hB B k := by
  have hb := hvN_bd hn h1 (by omega) h k
  have h4 := hB_le h1 k
  obtain ⟨g1, g2, -⟩ := lgst_x (show hB B k < 2147483648 by omega) hb
  unfold lgk
  omega
theorem halve_ex {nr N B lim grow : Nat} {re im : Nat → Int32} (hn : nr < 2) (h1 : 1 ≤ B) (h2 : B ≤ 2 ^ 20) (h : BD N re im B) (hl : 127 ≤ lim) (hg : grow ≤ 12) :
    ∃ n, n ≤ 20 ∧ lgk nr N re im n * grow ≤ 2 * lim ∧ ∀ j, j < n → 2 * lim < lgk nr N re im j * grow := by
  have hex : ∃ k, lgk nr N re im k * grow ≤ 2 * lim := by
    refine ⟨20, ?_⟩
    have h3 := (lgk_toInt hn h1 h2 h 20).2
    have h4 := hB_20 h1 h2 20 (Nat.le_refl _)
    have h5 : lgk nr N re im 20 * grow ≤ 1 * 12 := Nat.mul_le_mul (by omega) hg
    omega
  obtain ⟨n, e1, e2⟩ := pk_least _ hex
  refine ⟨n, ?_, e1, fun j hj => Nat.not_le.mp (e2 j hj)⟩
  apply Nat.le_of_not_lt
  intro h9
  have h6 := e2 20 h9
  have h3 := (lgk_toInt hn h1 h2 h 20).2
  have h4 := hB_20 h1 h2 20 (Nat.le_refl _)
  have h5 : lgk nr N re im 20 * grow ≤ 1 * 12 := Nat.mul_le_mul (by omega) hg
  omega
theorem long_cmp {r : Int32} {L lim grow : Nat} (hr : r.toInt = (L : Int)) (hL : L ≤ 2 ^ 20) (hg : grow ≤ 12) (hl : lim < 2 ^ 20) : (Int32.toInt64 r * Int32.toInt64 (nI grow) ≤ Int32.toInt64 (nI lim) * (2 : Int64)) ↔ L * grow ≤ 2 * lim := by
  have e1 : (nI grow).toInt = (grow : Int) := nI_toInt (by omega)
  have e2 : (nI lim).toInt = (lim : Int) := nI_toInt (by omega)
  have h1 : L * grow ≤ 2 ^ 20 * 12 := Nat.mul_le_mul hL hg
  have h1' : (L : Int) * grow = ((L * grow : Nat) : Int) := by simp
  rw [Int64.le_iff_toInt_le, i64_mul (by rw [i64_w, i64_w, hr, e1, h1']; omega) (by rw [i64_w, i64_w, hr, e1, h1']; omega), i64_mul (by rw [i64_w, e2]; show _ ≤ (lim : Int) * 2; omega) (by rw [i64_w, e2]; show (lim : Int) * 2 < _; omega), i64_w, i64_w, i64_w, hr, e1, e2, h1']
  show ((L * grow : Nat) : Int) ≤ (lim : Int) * 2 ↔ _
  omega
theorem halve_c {N lim nr grow n B : Nat} {re im : Nat → Int32} (hN : N ≤ 32) (hl : lim < 2 ^ 20) (hg : grow ≤ 12) (hn : nr < 2) (h1 : 1 ≤ B) (h2 : B ≤ 2 ^ 20) (h : BD N re im B) (h3 : n ≤ 20)
    (h4 : lgk nr N re im n * grow ≤ 2 * lim) (h5 : ∀ j, j < n → 2 * lim < lgk nr N re im j * grow) :
    fX0_halveAsNeeded (nI N) (nI lim) (nI nr) im re (nI grow) = some (nI n, hvN nr N im n, hvN nr N re n) := by
  unfold fX0_halveAsNeeded
  have hcmp : ∀ k, (Int32.toInt64 (lgst (hvN nr N re k) (hvN nr N im k) 0 N) * Int32.toInt64 (nI grow) ≤ Int32.toInt64 (nI lim) * (2 : Int64)) ↔ lgk nr N re im k * grow ≤ 2 * lim := fun k => by
    obtain ⟨e1, e2⟩ := lgk_toInt hn h1 h2 h k
    have e3 := (hB_le h1 k).1
    exact long_cmp e1 (by omega) hg hl
  have hgr : ∀ k, fX7_greatest (hvN nr N im k) (hvN nr N re k) 0 (nI N) = some (lgst (hvN nr N re k) (hvN nr N im k) 0 N) := fun k => greatest_eq _ _ 0 N (by omega) hN
  have hh := loopF (fun f k (z : (Nat → Int32) × (Nat → Int32)) => fX0_halveAsNeeded_3 (nI N) (nI lim) (nI nr) f z.1 z.2 (nI grow) (nI k)) (fun k => (hvN nr N im k, hvN nr N re k)) n (some (nI n, hvN nr N im n, hvN nr N re n)) ?_ ?_ n FU 0 (by omega) (FU_pos (by omega))
  · exact hh
  · intro f k hk
    dsimp only
    rw [fX0_halveAsNeeded_3.eq_2, if_neg (show ¬ ((64 : Int32) ≤ nI k) from nI_ge (a := k) (b := 64) (by omega) (by decide)), hgr, bd1_s, if_neg (fun q => by have := (hcmp k).mp q; have := h5 k hk; omega)]
    have hin : ∀ (K : (Nat → Int32) → (Nat → Int32) → Int32 → Int32 → Option (Int32 × (Nat → Int32) × (Nat → Int32))), fX0_halveAsNeeded_39 (nI N) (nI lim) (nI nr) K FU (hvN nr N im k) (hvN nr N re k) (nI grow) (nI k) 0 = K (hvN nr N im (k + 1)) (hvN nr N re (k + 1)) (nI grow) (nI (k + 1)) := by
      intro K
      have e9 : ∀ a : Nat → Int32, blk (hvN nr N a k) 0 (fun p => hv nr (hvN nr N a k p)) N = hvN nr N a (k + 1) := fun a => by
        funext p
        show (if 0 ≤ p ∧ p < 0 + N then hv nr (hvN nr N a k (p - 0)) else hvN nr N a k p) = if p < N then hv nr (hvN nr N a k p) else a p
        by_cases hp : p < N
        · rw [if_pos (by omega), if_pos hp, Nat.sub_zero]
        · rw [if_neg (by omega), if_neg hp, hvN_out (by omega)]
      have hq := loopF (fun f i (z : (Nat → Int32) × (Nat → Int32)) => fX0_halveAsNeeded_39 (nI N) (nI lim) (nI nr) K f z.1 z.2 (nI grow) (nI k) (nI i)) (fun i => (blk (hvN nr N im k) 0 (fun p => hv nr (hvN nr N im k p)) i, blk (hvN nr N re k) 0 (fun p => hv nr (hvN nr N re k p)) i)) N (K (hvN nr N im (k + 1)) (hvN nr N re (k + 1)) (nI grow) (nI (k + 1))) ?_ ?_ N FU 0 (by omega) (FU_pos (by omega))
      · simp only [blk_0] at hq
        exact hq
      · intro f i hi
        dsimp only
        have b1 : ∀ (a v : Nat → Int32), upd (blk a 0 v i) i (v i) = blk a 0 v (i + 1) := fun a v => by
          have := blk_s (a := a) (b := 0) (i := i) (v := v)
          rw [Nat.zero_add] at this
          exact this
        rw [fX0_halveAsNeeded_39.eq_2, if_neg (nI_ge hi (by omega))]
        simp only [nm, gd_t (inb_nI (show i < 32 by omega) (by decide)), nI_clamp (show i < 2 ^ 31 by omega), nI_1]
        rw [blk_out (show i < 0 ∨ 0 + i ≤ i by omega), blk_out (show i < 0 ∨ 0 + i ≤ i by omega)]
        exact cA2 (fun z1 z2 => fX0_halveAsNeeded_39 (nI N) (nI lim) (nI nr) K f z1 z2 (nI grow) (nI k) (nI (i + 1))) (b1 _ (fun p => hv nr (hvN nr N im k p))) (b1 _ (fun p => hv nr (hvN nr N re k p)))
      · intro f
        dsimp only
        rw [fX0_halveAsNeeded_39.eq_2, if_pos (nI_le (Nat.le_refl _) (by omega)), fX0_halveAsNeeded_96, e9, e9]
        simp only [nm, nI_1]
    exact hin _
  · intro f
    dsimp only
    rw [fX0_halveAsNeeded_3.eq_2, if_neg (show ¬ ((64 : Int32) ≤ nI n) from nI_ge (a := n) (b := 64) (by omega) (by decide)), hgr, bd1_s, if_pos ((hcmp n).mpr h4)]
