/-! ===== the reference's banks ===== -/
theorem loopF {σ β : Type} (f : Nat → Nat → σ → Option β) (F : Nat → σ) (N : Nat) (K : Option β)
    (hs : ∀ n i, i < N → f (n + 1) i (F i) = f n (i + 1) (F (i + 1))) (he : ∀ n, f (n + 1) N (F N) = K) :
    ∀ d n i, i + d = N → d < n → f n i (F i) = K := by
  intro d
  induction d with
  | zero =>
    intro n i h1 h2
    obtain ⟨n, rfl⟩ : ∃ m, n = m + 1 := ⟨n - 1, by omega⟩
    have h3 : i = N := by omega
    subst h3
    exact he n
  | succ d ih =>
    intro n i h1 h2
    obtain ⟨n, rfl⟩ : ∃ m, n = m + 1 := ⟨n - 1, by omega⟩
    rw [hs n i (by omega)]
    exact ih n (i + 1) (by omega) (by omega)
/-- a with n cells from b on taken from v -/
def blk {α : Type} (a : Nat → α) (b : Nat) (v : Nat → α) (n : Nat) : Nat → α := fun j => if b ≤ j ∧ j < b + n then v (j - b) else a j
theorem blk_0 {α : Type} {a : Nat → α} {b : Nat} {v : Nat → α} : blk a b v 0 = a := by
  funext j
  exact if_neg (by omega)
theorem blk_s {a : Nat → Int32} {b i : Nat} {v : Nat → Int32} : upd (blk a b v i) (b + i) (v i) = blk a b v (i + 1) := by
  funext j
  show (if j = b + i then v i else if b ≤ j ∧ j < b + i then v (j - b) else a j) = if b ≤ j ∧ j < b + (i + 1) then v (j - b) else a j
  by_cases h : j = b + i
  · rw [if_pos h, if_pos (by omega), h, Nat.add_sub_cancel_left]
  · rw [if_neg h]
    by_cases h2 : b ≤ j ∧ j < b + i
    · rw [if_pos h2, if_pos (by omega)]
    · rw [if_neg h2, if_neg (by omega)]
theorem blk_in {α : Type} {a : Nat → α} {b n j : Nat} {v : Nat → α} (h : b ≤ j) (h2 : j < b + n) : blk a b v n j = v (j - b) := if_pos ⟨h, h2⟩
theorem blk_at {α : Type} {a : Nat → α} {b n j : Nat} {v : Nat → α} (h2 : j < n) : blk a b v n (b + j) = v j := by
  rw [blk_in (by omega) (by omega), Nat.add_sub_cancel_left]
theorem blk_out {α : Type} {a : Nat → α} {b n j : Nat} {v : Nat → α} (h : j < b ∨ b + n ≤ j) : blk a b v n j = a j := if_neg (by omega)
theorem m_ix {b k : Nat} : (136 : Int32) * nI b + nI k = nI (136 * b + k) := by
  rw [show (136 : Int32) = nI 136 from rfl, pk_mul, nI_add]
theorem of_eq {b k : Nat} (hb : b ≤ 22) (hk : k < 136) (all : Nat → Int32) : fX10_of (nI b) all (nI k) = some (all (136 * b + k)) := by
  unfold fX10_of
  simp only [nm, m_ix, gd_t (inb_nI (show 136 * b + k < 3128 by omega) (by decide)), nI_clamp (show 136 * b + k < 2 ^ 31 by omega)]
theorem lay_eq {b k : Nat} (hb : b ≤ 22) (hk : k < 136) (all : Nat → Int32) (v : Int32) : fX10_lay (nI b) all (nI k) v = some (upd all (136 * b + k) v) := by
  unfold fX10_lay
  simp only [nm, m_ix, gd_t (inb_nI (show 136 * b + k < 3128 by omega) (by decide)), nI_clamp (show 136 * b + k < 2 ^ 31 by omega)]
theorem copyBank_eq {b c : Nat} (hb : b ≤ 22) (hc : c ≤ 22) (hne : b ≠ c) (all : Nat → Int32) : fX10_copyBank all (nI b) (nI c) = some (blk all (136 * c) (fun k => all (136 * b + k)) 136) := by
  unfold fX10_copyBank
  have h := loopF (fun n i s => fX10_copyBank_2 n s (nI b) (nI c) (nI i)) (fun i => blk all (136 * c) (fun k => all (136 * b + k)) i) 136 (some (blk all (136 * c) (fun k => all (136 * b + k)) 136)) ?_ ?_ 136 FU 0 (by omega) (FU_pos (by omega))
  · rw [blk_0] at h
    exact h
  · intro n i hi
    show fX10_copyBank_2 (n + 1) _ (nI b) (nI c) (nI i) = _
    rw [fX10_copyBank_2.eq_2, if_neg (show ¬ ((136 : Int32) ≤ nI i) from nI_ge hi (by decide))]
    simp only [nm, m_ix, gd_t (inb_nI (show 136 * b + i < 3128 by omega) (by decide)), gd_t (inb_nI (show 136 * c + i < 3128 by omega) (by decide)), nI_clamp (show 136 * b + i < 2 ^ 31 by omega), nI_clamp (show 136 * c + i < 2 ^ 31 by omega), nI_1]
    rw [blk_out (show 136 * b + i < 136 * c ∨ 136 * c + i ≤ 136 * b + i by omega)]
    exact congrArg (fun z => fX10_copyBank_2 n z (nI b) (nI c) (nI (i + 1))) (blk_s (v := fun k => all (136 * b + k)))
  · intro n
    show fX10_copyBank_2 (n + 1) _ (nI b) (nI c) (nI 136) = _
    rw [fX10_copyBank_2.eq_2, if_pos (show (136 : Int32) ≤ nI 136 from by decide)]
theorem noneHalved_eq {b : Nat} (hb : b ≤ 22) (all : Nat → Int32) : fX10_noneHalved (nI b) all = some (blk all (136 * b + 131) (fun _ => -2) 5) := by
  unfold fX10_noneHalved
  have h := loopF (fun n i s => fX10_noneHalved_2 (nI b) n s (nI i)) (fun i => blk all (136 * b + 131) (fun _ => -2) i) 5 (some (blk all (136 * b + 131) (fun _ => -2) 5)) ?_ ?_ 5 FU 0 (by omega) (FU_pos (by omega))
  · rw [blk_0] at h
    exact h
  · intro n i hi
    show fX10_noneHalved_2 (nI b) (n + 1) _ (nI i) = _
    rw [fX10_noneHalved_2.eq_2, if_neg (show ¬ ((5 : Int32) ≤ nI i) from nI_ge hi (by decide)), show (131 : Int32) + nI i = nI (131 + i) from nI_add 131 i, lay_eq hb (by omega), bd1_s, ← Nat.add_assoc]
    simp only [nm, nI_1]
    exact congrArg (fun z => fX10_noneHalved_2 (nI b) n z (nI (i + 1))) (blk_s (v := fun _ => (-2 : Int32)))
  · intro n
    show fX10_noneHalved_2 (nI b) (n + 1) _ (nI 5) = _
    rw [fX10_noneHalved_2.eq_2, if_pos (show (5 : Int32) ≤ nI 5 from by decide)]
/-- a stage's four numbers laid anew: EXP, DONE, BACK 0, none halved -/
def begF (all : Nat → Int32) (b : Nat) : Nat → Int32 := blk (upd (upd (upd all (136 * b + 128) 0) (136 * b + 129) 0) (136 * b + 130) 0) (136 * b + 131) (fun _ => -2) 5
theorem begins_eq {b : Nat} (hb : b ≤ 22) (all : Nat → Int32) : fX10_begins (nI b) all = some (begF all b) := by
  unfold fX10_begins
  rw [show (128 : Int32) = nI 128 from rfl, show (129 : Int32) = nI 129 from rfl, show (130 : Int32) = nI 130 from rfl, lay_eq hb (by decide), bd1_s, lay_eq hb (by decide), bd1_s, lay_eq hb (by decide), bd1_s, noneHalved_eq hb, bd1_s]
  rfl
theorem asNow_eq (bank : Int32) (all : Nat → Int32) : fX10_asNow bank all = some (nI 1, blk all 136 all 136) := by
  unfold fX10_asNow
  rw [show (0 : Int32) = nI 0 from rfl, show (1 : Int32) = nI 1 from rfl, copyBank_eq (by decide) (by decide) (by decide), bd1_s]
  simp only [Nat.mul_one, Nat.mul_zero, Nat.zero_add]
/-- bank 1 as it is tried: points as they were, no stage done -/
def wasF (all : Nat → Int32) : Nat → Int32 := begF (blk (blk all 136 all 136) 136 (fun k => all (64 + k)) 64) 1
theorem asWas_eq (bank : Int32) (all : Nat → Int32) : fX10_asWas bank all = some (nI 1, wasF all) := by
  unfold fX10_asWas
  rw [asNow_eq, bd2_s]
  have h := loopF (fun n i s => fX10_asWas_6 n (nI 1) s (nI i)) (fun i => blk (blk all 136 all 136) 136 (fun k => all (64 + k)) i) 64 (some (nI 1, wasF all)) ?_ ?_ 64 FU 0 (by omega) (FU_pos (by omega))
  · rw [blk_0] at h
    exact h
  · intro n i hi
    show fX10_asWas_6 (n + 1) (nI 1) _ (nI i) = _
    rw [fX10_asWas_6.eq_2, if_neg (show ¬ ((64 : Int32) ≤ nI i) from nI_ge hi (by decide)), show (64 : Int32) + nI i = nI (64 + i) from nI_add 64 i, of_eq (by decide) (by omega), bd1_s, lay_eq (by decide) (by omega), bd1_s]
    simp only [nm, nI_1]
    rw [blk_out (show 136 * 1 + (64 + i) < 136 ∨ 136 + i ≤ 136 * 1 + (64 + i) by omega), blk_in (show 136 ≤ 136 * 1 + (64 + i) by omega) (by omega), show 136 * 1 + (64 + i) - 136 = 64 + i by omega, Nat.mul_one]
    exact congrArg (fun z => fX10_asWas_6 n (nI 1) z (nI (i + 1))) (blk_s (v := fun k => all (64 + k)))
  · intro n
    show fX10_asWas_6 (n + 1) (nI 1) _ (nI 64) = _
    rw [fX10_asWas_6.eq_2, if_pos (show (64 : Int32) ≤ nI 64 from by decide), fX10_asWas_31, begins_eq (by decide), bd1_s]
    rfl
theorem turnsOver_eq {b : Nat} (hb : b ≤ 22) (all : Nat → Int32) : fX10_turnsOver (nI b) all = some (blk all (136 * b + 32) (fun k => -(all (136 * b + 32 + k))) 32) := by
  unfold fX10_turnsOver
  have h := loopF (fun n i s => fX10_turnsOver_2 (nI b) n s (nI i)) (fun i => blk all (136 * b + 32) (fun k => -(all (136 * b + 32 + k))) i) 32 (some (blk all (136 * b + 32) (fun k => -(all (136 * b + 32 + k))) 32)) ?_ ?_ 32 FU 0 (by omega) (FU_pos (by omega))
  · rw [blk_0] at h
    exact h
  · intro n i hi
    show fX10_turnsOver_2 (nI b) (n + 1) _ (nI i) = _
    rw [fX10_turnsOver_2.eq_2, if_neg (show ¬ ((32 : Int32) ≤ nI i) from nI_ge hi (by decide)), show (32 : Int32) + nI i = nI (32 + i) from nI_add 32 i, of_eq hb (by omega), bd1_s, lay_eq hb (by omega), bd1_s, ← Nat.add_assoc]
    simp only [nm, nI_1]
    rw [blk_out (show 136 * b + 32 + i < 136 * b + 32 ∨ 136 * b + 32 + i ≤ 136 * b + 32 + i by omega)]
    exact congrArg (fun z => fX10_turnsOver_2 (nI b) n z (nI (i + 1))) (blk_s (v := fun k => -(all (136 * b + 32 + k))))
  · intro n
    show fX10_turnsOver_2 (nI b) (n + 1) _ (nI 32) = _
    rw [fX10_turnsOver_2.eq_2, if_pos (show (32 : Int32) ≤ nI 32 from by decide)]
theorem asTheyAre_eq {b : Nat} (hb : b ≤ 22) (all : Nat → Int32) : fX10_asTheyAre (nI b) all = some (blk all (136 * b + 64) (fun k => all (136 * b + k)) 64) := by
  unfold fX10_asTheyAre
  have h := loopF (fun n i s => fX10_asTheyAre_2 (nI b) n s (nI i)) (fun i => blk all (136 * b + 64) (fun k => all (136 * b + k)) i) 64 (some (blk all (136 * b + 64) (fun k => all (136 * b + k)) 64)) ?_ ?_ 64 FU 0 (by omega) (FU_pos (by omega))
  · rw [blk_0] at h
    exact h
  · intro n i hi
    show fX10_asTheyAre_2 (nI b) (n + 1) _ (nI i) = _
    rw [fX10_asTheyAre_2.eq_2, if_neg (show ¬ ((64 : Int32) ≤ nI i) from nI_ge hi (by decide)), of_eq hb (by omega), bd1_s, show (64 : Int32) + nI i = nI (64 + i) from nI_add 64 i, lay_eq hb (by omega), bd1_s, ← Nat.add_assoc]
    simp only [nm, nI_1]
    rw [blk_out (show 136 * b + i < 136 * b + 64 ∨ 136 * b + 64 + i ≤ 136 * b + i by omega)]
    exact congrArg (fun z => fX10_asTheyAre_2 (nI b) n z (nI (i + 1))) (blk_s (v := fun k => all (136 * b + k)))
  · intro n
    show fX10_asTheyAre_2 (nI b) (n + 1) _ (nI 64) = _
    rw [fX10_asTheyAre_2.eq_2, if_pos (show (64 : Int32) ≤ nI 64 from by decide)]
theorem goesBack_eq {b : Nat} (hb : b ≤ 22) (all : Nat → Int32) : fX10_goesBack (nI b) all = some (blk (upd (upd (blk all (136 * b + 32) (fun k => -(all (136 * b + 32 + k))) 32) (136 * b + 130) 1) (136 * b + 129) 0) (136 * b + 131) (fun _ => -2) 5) := by
  unfold fX10_goesBack
  rw [turnsOver_eq hb, bd1_s, show (129 : Int32) = nI 129 from rfl, show (130 : Int32) = nI 130 from rfl, lay_eq hb (by decide), bd1_s, lay_eq hb (by decide), bd1_s, noneHalved_eq hb, bd1_s]
theorem size_eq (told : Nat → Int32) : fX10_size told = some (told 0) := rfl
theorem mxs (acc a b : Int32) : (if b ≤ (if a ≤ acc then acc else a) then (if a ≤ acc then acc else a) else b) = mx2 acc (mx2 a b) := by
  unfold mx2
  have hle : ∀ x y : Int32, x ≤ y ↔ x.toInt ≤ y.toInt := fun x y => Int32.le_iff_toInt_le
  have hlt : ∀ x y : Int32, x < y ↔ x.toInt < y.toInt := fun x y => Int32.lt_iff_toInt_lt
  have heq : ∀ x y : Int32, x = y ↔ x.toInt = y.toInt := fun x y => Int32.toInt_inj.symm
  rw [heq]
  simp only [hle, hlt]
  repeat' split
  all_goals (first | rfl | (simp only [hle, hlt] at *; omega))
theorem over0_eq (x : Int32) : fX10_over0 x = some (amx x) := by
  unfold fX10_over0 amx
  split
  · rfl
  · rw [Int32.zero_sub]
theorem largestIn_eq {b a n : Nat} (hb : b ≤ 22) (h : a + n ≤ 32) (all : Nat → Int32) : fX10_largestIn (nI b) all (nI a) (nI n) = some (lgst (fun i => all (136 * b + i)) (fun i => all (136 * b + 32 + i)) a n) := by
  unfold fX10_largestIn
  have h9 := loopN (fun f i s => fX10_largestIn_5 (nI b) all f (nI a) (nI n) s (nI i)) (lgS (fun i => all (136 * b + i)) (fun i => all (136 * b + 32 + i))) (a + n) (fun s => some s) ?_ ?_ n FU a 0 rfl (FU_pos (by omega))
  · exact h9
  · intro f i s hi
    show fX10_largestIn_5 (nI b) all (f + 1) (nI a) (nI n) s (nI i) = _
    rw [fX10_largestIn_5.eq_2, nI_add, if_neg (nI_ge hi (by omega)), of_eq hb (by omega), bd1_s, over0_eq, bd1_s, show (32 : Int32) + nI i = nI (32 + i) from nI_add 32 i, of_eq hb (by omega), bd1_s, over0_eq, bd1_s, ← Nat.add_assoc]
    show _ = fX10_largestIn_5 (nI b) all f (nI a) (nI n) (mx2 s (mx2 (amx (all (136 * b + i))) (amx (all (136 * b + 32 + i))))) (nI (i + 1))
    rw [← mxs]
    unfold fX10_largestIn_50 fX10_largestIn_63
    simp only [nm, nI_1]
    split <;> split <;> rfl
  · intro f s
    show fX10_largestIn_5 (nI b) all (f + 1) (nI a) (nI n) s (nI (a + n)) = _
    rw [fX10_largestIn_5.eq_2, nI_add, if_pos (nI_le (Nat.le_refl _) (by omega))]
theorem largestNow_eq {b N : Nat} (hb : b ≤ 22) (hN : N ≤ 32) (all told : Nat → Int32) (h0 : told 0 = nI N) : fX10_largestNow (nI b) all told = some (lgst (fun i => all (136 * b + i)) (fun i => all (136 * b + 32 + i)) 0 N) := by
  unfold fX10_largestNow
  rw [size_eq, bd1_s, h0, show (0 : Int32) = nI 0 from rfl, largestIn_eq hb (by omega), bd1_s]
