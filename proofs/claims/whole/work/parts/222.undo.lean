/-! ===== undo, image ===== -/
theorem RWS_m {all all' : Nat → Int32} {b b' : Nat} {z : RowZ} {x : Int32} {k bk : Nat} {ha : Nat → Int32} (h : ∀ j, j < 136 → all' (136 * b' + j) = all (136 * b + j)) (hw : RWS all b z x k bk ha) : RWS all' b' z x k bk ha := by
  obtain ⟨w1, w2, w3, w4, w5⟩ := hw
  refine ⟨fun p hp => ?_, ?_, ?_, ?_, fun j hj => ?_⟩
  · rw [h p (by omega), Nat.add_assoc, h (32 + p) (by omega), ← Nat.add_assoc]; exact w1 p hp
  · rw [h _ (by omega)]; exact w2
  · rw [h _ (by omega)]; exact w3
  · rw [h _ (by omega)]; exact w4
  · rw [h _ (by omega)]; exact w5 j hj
theorem WASR_m {all all' : Nat → Int32} {b b' : Nat} {w : RowZ} (h : ∀ j, j < 136 → all' (136 * b' + j) = all (136 * b + j)) (hw : WASR all b w) : WASR all' b' w := fun p hp => by
  rw [Nat.add_assoc, h (64 + p) (by omega), Nat.add_assoc, h (96 + p) (by omega), ← Nat.add_assoc, ← Nat.add_assoc]; exact hw p hp
theorem SLT_m {M rad lim : Nat} {cells cells' : Nat → Int32} {base : Nat} {all all' : Nat → Int32} {b b' : Nat} (hc : ∀ j, base ≤ j → j < base + 136 → cells' j = cells j) (h : ∀ j, j < 136 → all' (136 * b' + j) = all (136 * b + j)) (hs : SLT M rad lim cells base all b) : SLT M rad lim cells' base all' b' := by
  obtain ⟨z, w, x, k, bk, ha, ⟨c1, c2, c3, c4, c5⟩, a2, a3, a4⟩ := hs
  refine ⟨z, w, x, k, bk, ha, ⟨fun p hp => ?_, fun j hj => ?_, ?_, ?_, ?_⟩, RWS_m h a2, WASR_m h a3, a4⟩
  · rw [hc _ (by omega) (by omega), hc _ (by omega) (by omega), hc _ (by omega) (by omega), hc _ (by omega) (by omega)]; exact c1 p hp
  · rw [hc _ (by omega) (by omega)]; exact c2 j hj
  · rw [hc _ (by omega) (by omega)]; exact c3
  · rw [hc _ (by omega) (by omega)]; exact c4
  · rw [hc _ (by omega) (by omega)]; exact c5
/-- the banks moved down, from the first on -/
def mvd (all : Nat → Int32) (i : Nat) : Nat → Int32 := fun j => if 408 ≤ j ∧ j < 408 + 136 * i then all (j + 136) else all j
theorem canUndo_lt {h : Nat} (hh : h < 20) (all : Nat → Int32) : fX10_canUndo (nI h) all = some (nI (h + 1), blk all (136 * (3 + h)) all 136) := by
  unfold fX10_canUndo
  rw [if_neg (fun q => by have := (nI_eq (b := 20) (by omega) (by decide)).mp q; omega), fX10_canUndo_41, show (3 : Int32) + nI h = nI (3 + h) from nI_add 3 h, show (0 : Int32) = nI 0 from rfl, copyBank_eq (by decide) (by omega) (by omega), bd1_s]
  simp only [nm, nI_1, Nat.mul_zero, Nat.zero_add]
theorem canUndo_20 (all : Nat → Int32) : fX10_canUndo (nI 20) all = some (nI 20, blk (mvd all 19) (136 * 22) (mvd all 19) 136) := by
  unfold fX10_canUndo
  rw [if_pos (show nI 20 = (20 : Int32) from rfl)]
  have hh := loopF (fun n i (z : Nat → Int32) => fX10_canUndo_11 n (nI 20) z (nI (1 + i))) (fun i => mvd all i) 19 (some (nI 20, blk (mvd all 19) (136 * 22) (mvd all 19) 136)) ?_ ?_ 19 FU 0 (by omega) (FU_pos (by omega))
  · have e0 : mvd all 0 = all := by
      funext j
      exact if_neg (by omega)
    rw [e0] at hh
    exact hh
  · intro n i hi
    rw [fX10_canUndo_11.eq_2, if_neg (show ¬ ((20 : Int32) ≤ nI (1 + i)) from nI_ge (a := 1 + i) (b := 20) (by omega) (by decide)), show (3 : Int32) + nI (1 + i) = nI (3 + (1 + i)) from nI_add 3 (1 + i), show (1 : Int32) = nI 1 from rfl, pk_sub (by omega), copyBank_eq (by omega) (by omega) (by omega), bd1_s]
    simp only [nm, nI_add]
    have e : blk (mvd all i) (136 * (3 + (1 + i) - 1)) (fun k => mvd all i (136 * (3 + (1 + i)) + k)) 136 = mvd all (i + 1) := by
      funext j
      unfold mvd
      by_cases h : 136 * (3 + (1 + i) - 1) ≤ j ∧ j < 136 * (3 + (1 + i) - 1) + 136
      · rw [blk_in h.1 h.2, if_neg (by omega), if_pos (by omega), show 136 * (3 + (1 + i)) + (j - 136 * (3 + (1 + i) - 1)) = j + 136 by omega]
      · rw [blk_out (by omega)]
        by_cases h2 : 408 ≤ j ∧ j < 408 + 136 * i
        · rw [if_pos h2, if_pos (by omega)]
        · rw [if_neg h2, if_neg (by omega)]
    rw [e, Nat.add_assoc]
  · intro n
    rw [fX10_canUndo_11.eq_2, if_pos (show (20 : Int32) ≤ nI (1 + 19) by decide), fX10_canUndo_35, fX10_canUndo_41, show (3 : Int32) + 19 = nI 22 from rfl, show (0 : Int32) = nI 0 from rfl, copyBank_eq (by decide) (by decide) (by decide), bd1_s]
    simp only [nm, Nat.mul_zero, Nat.zero_add]
    rfl
theorem remember_x {M rad lim : Nat} {all : Nat → Int32} {exp done back : Int32} {re im wr wi ha : Nat → Int32} {next held undos : Int32} {cells : Nat → Int32} (hV : WVR M rad lim all exp done back re im wr wi ha) (hP : PSTR M rad lim all next held cells undos) :
    ∃ next' held' cells' undos' all', fX3_remember next held exp done back ha im re wi wr cells = some (next', held', cells') ∧ fX10_canUndo undos all = some (undos', all') ∧ PSTR M rad lim all' next' held' cells' undos' ∧ ∀ j, j < 408 → all' j = all j := by
  obtain ⟨k, bk, rfl, rfl, v3, v4, v5⟩ := hV
  obtain ⟨nx, h, rfl, p2, rfl, p4, rfl, p6⟩ := hP
  obtain ⟨cells', e1, e2, e3⟩ := writeTo_eq (n := 2720) (base := nx * 136) (k := k) (bk := bk) (by omega) (by decide) v5.2.1 exp cells ha im re wi wr
  have er : fX3_remember (nI nx) (nI h) exp (nI k) (nI bk) ha im re wi wr cells = some (nI ((nx + 1) % 20), nI (min 20 (h + 1)), cells') := by
    unfold fX3_remember
    rw [show (136 : Int32) = nI 136 from rfl, pk_mul, e1, bd1_s, nI_1]
    have em : ∀ s1 : Int32, fX3_remember_38 (nI nx) (nI h) cells' s1 = some (s1, nI (min 20 (h + 1)), cells') := fun s1 => by
      unfold fX3_remember_38
      simp only [nm, nI_1]
      by_cases hq : h + 1 < 20
      · rw [if_pos (show nI (h + 1) < (20 : Int32) from nI_lt (b := 20) hq (by decide)), Nat.min_eq_right (by omega)]
      · rw [if_neg (show ¬ (nI (h + 1) < (20 : Int32)) from nI_nlt (b := 20) (by omega) (by omega)), Nat.min_eq_left (by omega)]; rfl
    by_cases hq : 20 ≤ nx + 1
    · rw [if_pos (show (20 : Int32) ≤ nI (nx + 1) from nI_le (a := 20) hq (by omega)), em, show (nx + 1) % 20 = 0 by omega]; rfl
    · rw [if_neg (show ¬ ((20 : Int32) ≤ nI (nx + 1)) from nI_ge (b := 20) (by omega) (by decide)), em, Nat.mod_eq_of_lt (by omega)]
  have hslot : ∀ (all' : Nat → Int32) (b : Nat), (∀ i, i < 136 → all' (136 * b + i) = all i) → SLT M rad lim cells' (136 * nx) all' b := by
    intro all' b hb
    have hb' : ∀ i, i < 136 → all' (136 * b + i) = all (136 * 0 + i) := fun i hi => by rw [hb i hi, Nat.mul_zero, Nat.zero_add]
    rw [Nat.mul_comm nx] at e2
    exact ⟨_, _, _, _, _, _, e2, RWS_m hb' v3, WASR_m hb' v4, v5⟩
  by_cases hq : h < 20
  · refine ⟨_, _, _, _, _, er, canUndo_lt hq all, ⟨(nx + 1) % 20, h + 1, rfl, Nat.mod_lt _ (by decide), by rw [Nat.min_eq_right (by omega)], by omega, rfl, fun j hj => ?_⟩, fun j hj => blk_out (by omega)⟩
    by_cases hjh : j = h
    · subst hjh
      rw [show ((nx + 1) % 20 + 20 - (j + 1) + j) % 20 = nx by omega]
      exact hslot _ _ (fun i hi => by rw [blk_at hi])
    · have e9 : ((nx + 1) % 20 + 20 - (h + 1) + j) % 20 = (nx + 20 - h + j) % 20 := by omega
      rw [e9]
      refine SLT_m (fun i h1 h2 => e3 i ?_) (fun i hi => blk_out (by omega)) (p6 j (by omega))
      have : (nx + 20 - h + j) % 20 ≠ nx := by omega
      omega
  · obtain rfl : h = 20 := by omega
    refine ⟨_, _, _, _, _, er, canUndo_20 all, ⟨(nx + 1) % 20, 20, rfl, Nat.mod_lt _ (by decide), rfl, by omega, rfl, fun j hj => ?_⟩, fun j hj => by rw [blk_out (by omega)]; exact if_neg (by omega)⟩
    by_cases hjh : j = 19
    · subst hjh
      rw [show ((nx + 1) % 20 + 20 - 20 + 19) % 20 = nx by omega]
      exact hslot _ _ (fun i hi => by rw [blk_at hi]; exact if_neg (by omega))
    · have e9 : ((nx + 1) % 20 + 20 - 20 + j) % 20 = (nx + 20 - 20 + (j + 1)) % 20 := by omega
      rw [e9]
      refine SLT_m (b := 3 + (j + 1)) (fun i h1 h2 => e3 i ?_) (fun i hi => ?_) (p6 (j + 1) (by omega))
      · have : (nx + 20 - 20 + (j + 1)) % 20 ≠ nx := by omega
        omega
      · rw [blk_out (by omega)]
        unfold mvd
        rw [if_pos (by omega)]
        congr 1
        omega
theorem RWS_z {all : Nat → Int32} {b : Nat} {z z' : RowZ} {x : Int32} {k bk : Nat} {ha ha' : Nat → Int32} (hz : RE32 z' z) (hh : ∀ j, j < 5 → ha' j = ha j) (hw : RWS all b z x k bk ha) : RWS all b z' x k bk ha' := by
  obtain ⟨w1, w2, w3, w4, w5⟩ := hw
  refine ⟨fun p hp => ?_, w2, w3, w4, fun j hj => ?_⟩
  · rw [(hz p hp).1, (hz p hp).2]; exact w1 p hp
  · rw [w5 j hj, hh j hj]
theorem WASR_z {all : Nat → Int32} {b : Nat} {w w' : RowZ} (hz : RE32 w' w) (hw : WASR all b w) : WASR all b w' := fun p hp => by
  rw [(hz p hp).1, (hz p hp).2]; exact hw p hp
theorem ZR_z {M : Nat} {z z' : RowZ} (hz : RE32 z' z) (h : ZR M z) : ZR M z' := fun p h1 h2 => by rw [(hz p h2).1, (hz p h2).2]; exact h p h1 h2
theorem BD_z {M B : Nat} {z z' : RowZ} (hM : isM M) (hz : RE32 z' z) (h : BDz M z B) : BDz M z' B := fun p h1 => by
  have := isM_pow hM
  rw [(hz p (by omega)).1, (hz p (by omega)).2]; exact h p h1
theorem WVI_z {M rad lim : Nat} {z w z' w' : RowZ} {x : Int32} {k bk : Nat} (hM : isM M) (hz : RE32 z' z) (hw : RE32 w' w) (h : WVI M rad lim z w x k bk) : WVI M rad lim z' w' x k bk := by
  obtain ⟨h1, h2, h3, h4, h5, h6, h7, h8⟩ := h
  refine ⟨h1, h2, ZR_z hz h3, ZR_z hw h4, BD_z hM hz h5, BD_z hM hw h6, fun a b => ⟨(h7 a b).1, BD_z hM hz (h7 a b).2⟩, fun a => ?_⟩
  obtain ⟨S, s1, B, b1, b2, b3, b4⟩ := h8 a
  exact ⟨S, s1, B, b1, b2, BD_z hM hz b3, b4⟩
theorem copy_to0 {b : Nat} (hb : b ≤ 22) (h0 : 0 < b) (all : Nat → Int32) : fX10_copyBank all (nI b) 0 = some (blk all 0 (fun k => all (136 * b + k)) 136) := by
  have := copyBank_eq hb (show 0 ≤ 22 by decide) (by omega) all
  rw [Nat.mul_zero] at this
  exact this
/-- a slot read back -/
theorem slot_x {M rad lim n base b : Nat} {cells all : Nat → Int32} (hM : isM M) (hb : base + 136 ≤ n) (hn : n < 2 ^ 31) (hs : SLT M rad lim cells base all b) (all' : Nat → Int32) (ha9 : ∀ j, j < 136 → all' j = all (136 * b + j)) (x0 d0 b0 : Int32) (ha0 im re wi wr : Nat → Int32) :
    ∃ x d bk ha' im' re' wi' wr', fX7_readFrom n x0 d0 b0 cells ha0 im re wi wr (nI base) = some (x, d, bk, ha', im', re', wi', wr') ∧ WVR M rad lim all' x d bk re' im' wr' wi' ha' := by
  obtain ⟨z, w, x, k, bk, ha, c1, a2, a3, a4⟩ := hs
  obtain ⟨ha', im', re', wi', wr', e, e1, e2, e3⟩ := readFrom_eq hb hn a4.2.1 c1 x0 d0 b0 ha0 im re wi wr
  have hb' : ∀ j, j < 136 → all' (136 * 0 + j) = all (136 * b + j) := fun j hj => by rw [Nat.mul_zero, Nat.zero_add]; exact ha9 j hj
  exact ⟨_, _, _, _, _, _, _, _, e, k, bk, rfl, rfl, RWS_z e1 e3 (RWS_m hb' a2), WASR_z e2 (WASR_m hb' a3), WVI_z hM e1 e2 a4⟩
