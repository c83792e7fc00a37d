/-! ===== the reference's halving ===== -/
theorem sar64 (a s : Int64) (k : Nat) (hs : (s.toBitVec.smod 64).toNat = k) : (a >>> s).toInt = a.toInt >>> k := by
  show (a.toBitVec.sshiftRight (s.toBitVec.smod 64).toNat).toInt = _
  rw [hs, BitVec.toInt_sshiftRight]
  rfl
theorem i64_n {x : Int64} (h1 : -2147483648 ≤ x.toInt) (h2 : x.toInt < 2147483648) : (Int64.toInt32 x).toInt = x.toInt := by
  rw [Int64.toInt_toInt32]
  exact bm32 h1 h2
theorem rounded_1 {nr : Nat} (hn : nr < 2) {x : Int32} (h : ab x < 2147483647) : ∃ r, fX10_rounded (nI nr) (Int32.toInt64 x) 1 = some r ∧ Int64.toInt32 r = hv nr x := by
  have e1 : (Int32.toInt64 (1 - 1) &&& 63 : Int64) = 0 := by decide
  have e3 : ((1 : Int64) <<< (0 : Int64)).toInt = 1 := by decide
  have hx : ab x = x.toInt.natAbs := rfl
  have e2 := hv_toInt hn h
  unfold fX10_rounded
  rcases (show nr = 0 ∨ nr = 1 by omega) with rfl | rfl
  · rw [if_neg (show ¬ (nI 0 = (1 : Int32)) by decide)]
    refine ⟨_, rfl, ?_⟩
    apply Int32.toInt_inj.mp
    have e4 : (Int32.toInt64 x >>> (Int32.toInt64 1 &&& 63)).toInt = x.toInt / 2 := by
      rw [sar64 _ _ 1 (by decide), i64_w, Int.shiftRight_eq_div_pow]; rfl
    rw [i64_n (by rw [e4]; omega) (by rw [e4]; omega), e4, e2]
    omega
  · rw [if_pos (show nI 1 = (1 : Int32) from rfl)]
    refine ⟨_, rfl, ?_⟩
    apply Int32.toInt_inj.mp
    rw [e1]
    have e5 : (Int32.toInt64 x + (1 : Int64) <<< (0 : Int64)).toInt = x.toInt + 1 := by
      rw [i64_add (by rw [i64_w, e3]; omega) (by rw [i64_w, e3]; omega), i64_w, e3]
    have e4 : ((Int32.toInt64 x + (1 : Int64) <<< (0 : Int64)) >>> (Int32.toInt64 1 &&& 63)).toInt = (x.toInt + 1) / 2 := by
      rw [sar64 _ _ 1 (by decide), e5, Int.shiftRight_eq_div_pow]; rfl
    rw [i64_n (by rw [e4]; omega) (by rw [e4]; omega), e4, e2]
    omega
/-- halved n times, one number -/
def hvI (nr : Nat) : Nat → Int32 → Int32
  | 0, x => x
  | k + 1, x => hv nr (hvI nr k x)
theorem hvI_0 {nr : Nat} (hn : nr < 2) : ∀ k, hvI nr k 0 = 0 := by
  intro k
  induction k with
  | zero => rfl
  | succ k ih => show hv nr (hvI nr k 0) = 0; rw [ih, hv_0 hn]
theorem hvN_I {nr N : Nat} {a : Nat → Int32} : ∀ k p, hvN nr N a k p = if p < N then hvI nr k (a p) else a p := by
  intro k
  induction k with
  | zero => intro p; show a p = if p < N then a p else a p; rw [ite_self]
  | succ k ih =>
    intro p
    show (if p < N then hv nr (hvN nr N a k p) else a p) = if p < N then hv nr (hvI nr k (a p)) else a p
    by_cases h : p < N
    · rw [if_pos h, if_pos h, ih, if_pos h]
    · rw [if_neg h, if_neg h]
theorem hvI_ab {nr : Nat} (hn : nr < 2) {x : Int32} {B : Nat} (hB1 : 1 ≤ B) (hB : B < 2147483647) (h : ab x ≤ B) : ∀ k, ab (hvI nr k x) ≤ B := by
  intro k
  induction k with
  | zero => exact h
  | succ k ih =>
    have := hv_ab hn ih hB
    show ab (hv nr (hvI nr k x)) ≤ B
    omega
theorem lgst_congr {re im re' im' : Nat → Int32} {a n : Nat} (h : ∀ p, a ≤ p → p < a + n → re p = re' p ∧ im p = im' p) : lgst re im a n = lgst re' im' a n := by
  have key : ∀ d i (s : Int32), a ≤ i → i + d = a + n → itr (lgS re im) i d s = itr (lgS re' im') i d s := by
    intro d
    induction d with
    | zero => intro i s _ _; rw [itr, itr]
    | succ d ih =>
      intro i s h1 h2
      rw [itr, itr]
      have e : lgS re im i s = lgS re' im' i s := by
        unfold lgS
        rw [(h i h1 (by omega)).1, (h i h1 (by omega)).2]
      rw [e]
      exact ih (i + 1) _ (by omega) (by omega)
  unfold lgst
  exact key n a 0 (Nat.le_refl a) rfl
theorem halve_m {b N lim nr grow n B : Nat} {all told : Nat → Int32} (hb : b ≤ 22) (hN : N ≤ 32) (h0 : told 0 = nI N) (hl : lim < 2 ^ 20) (hg : grow ≤ 12) (hn : nr < 2) (h1 : 1 ≤ B) (h2 : B ≤ 2 ^ 20) (h64 : ∀ k, k < 64 → ab (all (136 * b + k)) ≤ B) (h3 : n ≤ 20)
    (h4 : lgk nr N (fun i => all (136 * b + i)) (fun i => all (136 * b + 32 + i)) n * grow ≤ 2 * lim) (h5 : ∀ j, j < n → 2 * lim < lgk nr N (fun i => all (136 * b + i)) (fun i => all (136 * b + 32 + i)) j * grow) :
    fX10_halvedNow_26 (nI b) (nI nr) (nI lim) 1 told FU all (nI grow) 0 = some (nI n, blk all (136 * b) (fun k => hvI nr n (all (136 * b + k))) 64) := by
  have hBD : BD N (fun i => all (136 * b + i)) (fun i => all (136 * b + 32 + i)) B := fun p hp => ⟨h64 p (by omega), by have := h64 (32 + p) (by omega); rw [← Nat.add_assoc] at this; exact this⟩
  obtain ⟨A, eA⟩ : ∃ A : Nat → Nat → Int32, A = fun n => blk all (136 * b) (fun k => hvI nr n (all (136 * b + k))) 64 := ⟨_, rfl⟩
  have hlg : ∀ k, fX10_largestNow (nI b) (A k) told = some (lgst (hvN nr N (fun i => all (136 * b + i)) k) (hvN nr N (fun i => all (136 * b + 32 + i)) k) 0 N) := fun k => by
    rw [largestNow_eq hb hN _ _ h0, lgst_congr (re' := hvN nr N (fun i => all (136 * b + i)) k) (im' := hvN nr N (fun i => all (136 * b + 32 + i)) k)]
    intro p _ hp
    rw [hvN_I, hvN_I, if_pos (by omega), if_pos (by omega), eA]
    dsimp only
    rw [blk_at (by omega), Nat.add_assoc, blk_at (by omega)]
    exact ⟨rfl, rfl⟩
  have hcmp : ∀ k, (lgst (hvN nr N (fun i => all (136 * b + i)) k) (hvN nr N (fun i => all (136 * b + 32 + i)) k) 0 N * nI grow ≤ (2 : Int32) * nI lim) ↔ lgk nr N (fun i => all (136 * b + i)) (fun i => all (136 * b + 32 + i)) k * grow ≤ 2 * lim := fun k => by
    obtain ⟨e1, e2⟩ := lgk_toInt hn h1 h2 hBD k
    have e3 := (hB_le h1 k).1
    obtain ⟨L, eL⟩ : ∃ L, L = lgk nr N (fun i => all (136 * b + i)) (fun i => all (136 * b + 32 + i)) k := ⟨_, rfl⟩
    rw [← eL] at e1 e2 ⊢
    have e4 : (nI grow).toInt = (grow : Int) := nI_toInt (by omega)
    have h9 : L * grow ≤ 2 ^ 20 * 12 := Nat.mul_le_mul (by omega) hg
    have h9' : (L : Int) * grow = ((L * grow : Nat) : Int) := by simp
    rw [Int32.le_iff_toInt_le, i32_mul (by rw [e1, e4, h9']; omega) (by rw [e1, e4, h9']; omega), e1, e4, h9', show (2 : Int32) * nI lim = nI (2 * lim) from pk_mul 2 lim, nI_toInt (by omega)]
    omega
  have hh := loopF (fun f k (z : Nat → Int32) => fX10_halvedNow_26 (nI b) (nI nr) (nI lim) 1 told f z (nI grow) (nI k)) A n (some (nI n, A n)) ?_ ?_ n FU 0 (by omega) (FU_pos (by omega))
  · have e0 : A 0 = all := by
      rw [eA]; funext j
      show (if 136 * b ≤ j ∧ j < 136 * b + 64 then all (136 * b + (j - 136 * b)) else all j) = all j
      by_cases h : 136 * b ≤ j ∧ j < 136 * b + 64
      · rw [if_pos h, show 136 * b + (j - 136 * b) = j by omega]
      · rw [if_neg h]
    rw [e0] at hh
    rw [eA] at hh
    exact hh
  · intro f k hk
    rw [fX10_halvedNow_26.eq_2, if_neg (show ¬ ((1 : Int32) = 0) by decide), hlg, bd1_s, if_neg (fun q => by have := (hcmp k).mp q; have := h5 k hk; omega)]
    have hq := loopF (fun f2 i (z : Nat → Int32) => fX10_halvedNow_51 (nI b) (nI nr) (nI lim) 1 told (fX10_halvedNow_26 (nI b) (nI nr) (nI lim) 1 told f) f2 z (nI grow) (nI k) (nI i)) (fun i => blk (A k) (136 * b) (fun j => hv nr (A k (136 * b + j))) i) 64 (fX10_halvedNow_26 (nI b) (nI nr) (nI lim) 1 told f (A (k + 1)) (nI grow) (nI (k + 1))) ?_ ?_ 64 FU 0 (by omega) (FU_pos (by omega))
    · rw [blk_0] at hq
      exact hq
    · intro f2 i hi
      have hx : ab (A k (136 * b + i)) < 2147483647 := by
        rw [eA]
        dsimp only
        rw [blk_at hi]
        have := hvI_ab hn h1 (by omega) (h64 i hi) k
        omega
      obtain ⟨r, e1, e2⟩ := rounded_1 hn hx
      rw [fX10_halvedNow_51.eq_2, if_neg (show ¬ ((64 : Int32) ≤ nI i) from nI_ge (a := i) (b := 64) hi (by decide)), of_eq hb (by omega), bd1_s, blk_out (show 136 * b + i < 136 * b ∨ 136 * b + i ≤ 136 * b + i by omega), e1, bd1_s, e2, lay_eq hb (by omega), bd1_s]
      simp only [nm, nI_1]
      rw [blk_s (v := fun j => hv nr (A k (136 * b + j)))]
    · intro f2
      rw [fX10_halvedNow_51.eq_2, if_pos (show (64 : Int32) ≤ nI 64 by decide), fX10_halvedNow_83]
      simp only [nm, nI_1]
      have e9 : blk (A k) (136 * b) (fun j => hv nr (A k (136 * b + j))) 64 = A (k + 1) := by
        rw [eA]
        dsimp only
        funext j
        by_cases h : 136 * b ≤ j ∧ j < 136 * b + 64
        · rw [blk_in h.1 h.2, blk_in h.1 h.2, blk_at (by omega)]
          rfl
        · rw [blk_out (by omega), blk_out (by omega), blk_out (by omega)]
      rw [e9]
  · intro f
    rw [fX10_halvedNow_26.eq_2, if_neg (show ¬ ((1 : Int32) = 0) by decide), hlg, bd1_s, if_pos ((hcmp n).mpr h4)]
