/-! ===== ask ===== -/
theorem cntB_le (P : Nat → Bool) : ∀ n, cntB P n ≤ n := by
  intro n
  induction n with
  | zero => exact Nat.le_refl _
  | succ n ih => unfold cntB; split <;> omega
theorem cntB_c {P Q : Nat → Bool} : ∀ n, (∀ i, i < n → P i = Q i) → cntB P n = cntB Q n := by
  intro n
  induction n with
  | zero => intro _; rfl
  | succ n ih =>
    intro h
    unfold cntB
    rw [ih (fun i hi => h i (by omega)), h n (by omega)]
theorem cntB_mono {P Q : Nat → Bool} : ∀ n, (∀ i, i < n → P i = true → Q i = true) → cntB P n ≤ cntB Q n := by
  intro n
  induction n with
  | zero => intro _; exact Nat.le_refl _
  | succ n ih =>
    intro h
    unfold cntB
    have h1 := ih (fun i hi => h i (by omega))
    by_cases e : P n = true
    · rw [if_pos e, if_pos (h n (by omega) e)]; omega
    · rw [if_neg e]; omega
/-- how many of some values are so much at least -/
def cge (bt : Nat → Bool) (B : Nat → Nat) (n : Nat) : Nat := cntB (fun v => bt v && decide (n ≤ B v)) 16
/-- .. just so much -/
def ceq (bt : Nat → Bool) (B : Nat → Nat) (i n : Nat) : Nat := cntB (fun v => bt v && decide (B v = n)) i
theorem cge_0 {bt : Nat → Bool} {B : Nat → Nat} : cge bt B 0 = cntB bt 16 := cntB_c 16 (fun i _ => by rw [decide_eq_true (Nat.zero_le _), Bool.and_true])
theorem cge_s {bt : Nat → Bool} {B : Nat → Nat} {n : Nat} : cge bt B n = cge bt B (n + 1) + ceq bt B 16 n := by
  unfold cge ceq
  have : ∀ i, cntB (fun v => bt v && decide (n ≤ B v)) i = cntB (fun v => bt v && decide (n + 1 ≤ B v)) i + cntB (fun v => bt v && decide (B v = n)) i := by
    intro i
    induction i with
    | zero => rfl
    | succ i ih =>
      unfold cntB
      rw [ih]
      by_cases hb : bt i = true
      · rw [hb]
        simp only [Bool.true_and, decide_eq_true_eq]
        by_cases h1 : B i = n
        · rw [if_pos (show n ≤ B i by omega), if_neg (show ¬ (n + 1 ≤ B i) by omega), if_pos h1]; omega
        · by_cases h2 : n ≤ B i
          · rw [if_pos h2, if_pos (show n + 1 ≤ B i by omega), if_neg h1]; omega
          · rw [if_neg h2, if_neg (show ¬ (n + 1 ≤ B i) by omega), if_neg h1]; omega
      · rw [Bool.eq_false_iff.mpr hb]
        simp only [Bool.false_and]
        rfl
  exact this 16
theorem cge_le {bt : Nat → Bool} {B : Nat → Nat} {n : Nat} : cge bt B n ≤ cntB bt 16 := cntB_mono 16 (fun i _ h => by rw [Bool.and_eq_true] at h; exact h.1)
theorem bitCount_tb {x : Int32} (h : ∀ b, b < 32 → tb x b = true → b < 16) : fJ6_bitCount_0f7a4 x = some (nI (cntB (tb x) 16)) := by
  have hx : nI x.toBitVec.toNat = x := tb_ext (fun i hi => by rw [tb_nI hi]; rfl)
  have hX : x.toBitVec.toNat < 2 ^ 16 := Nat.lt_pow_two_of_testBit _ (fun i hi => by
    by_cases h32 : i < 32
    · exact Bool.eq_false_iff.mpr (fun q => by have := h i h32 q; omega)
    · exact Nat.testBit_lt_two_pow (Nat.lt_of_lt_of_le x.toBitVec.isLt (Nat.pow_le_pow_right (by decide) (by omega))))
  have := bitCount_eq hX
  rw [hx] at this
  exact this
/-- the bins that values make -/
def bnV (M k : Nat) (row : Nat → Int32) (p v : Nat) : Nat := rg (smX M k row p (v : Int) (2 ^ M))
theorem tally45 {M k p : Nat} (hM : isM M) (hk : k < 2 ^ M) (hp : p < 2 ^ M) {pw row tl : Nat → Int32} (hpw : ∀ j, j < 32 → pw j = nI (pwT M j)) (x : Int32) (h0 : ∀ t, t < 97 → tl t = 0) : ∃ tl', (∀ t, t < 97 → tl' t = nI (ceq (tb x) (bnV M k row p) 16 t)) ∧ fX9_tallyBins_45 (nI (2 ^ M)) pw FU tl x (nI k) (nI p) (nI (rg (smX M k row p 0 (2 ^ M)))) 0 = some tl' := by
  have hh := loopX (fun f i (y : Nat → Int32) => fX9_tallyBins_45 (nI (2 ^ M)) pw f y x (nI k) (nI p) (nI (rg (smX M k row p 0 (2 ^ M)))) (nI i)) (fun i y => ∀ t, t < 97 → y t = nI (ceq (tb x) (bnV M k row p) i t)) 16 (fun y => some y) ?_ ?_ 16 FU 0 tl (by omega) (FU_pos (by omega)) (fun t ht => h0 t ht)
  · obtain ⟨y, a1, a2⟩ := hh
    exact ⟨y, a1, a2⟩
  · intro f i y hi hJ
    have hlt : bnV M k row p i < 97 := rg_lt _
    have es : ∀ t, ceq (tb x) (bnV M k row p) (i + 1) t = ceq (tb x) (bnV M k row p) i t + (if (tb x i && decide (bnV M k row p i = t)) = true then 1 else 0) := fun t => rfl
    show ∃ s', _ ∧ fX9_tallyBins_45 (nI (2 ^ M)) pw (f + 1) y x (nI k) (nI p) (nI (rg (smX M k row p 0 (2 ^ M)))) (nI i) = _
    rw [fX9_tallyBins_45.eq_2, if_neg (show ¬ ((16 : Int32) ≤ nI i) from nI_ge hi (by decide))]
    by_cases hb : tb x i = true
    · rw [if_pos ((bit_t x (by omega)).mpr hb), show fX5_binWith (nI (2 ^ M)) pw (nI (rg (smX M k row p 0 (2 ^ M)))) (nI i) (nI k) (nI p) = some (nI (bnV M k row p i)) from binWith_c hM hk hp hi hpw row, bd1_s, gd_t (inb_nI hlt (by decide)), gd_t (inb_nI hlt (by decide)), nI_clamp (by omega), nm, hJ _ hlt, nI_1, fX9_tallyBins_84, nm, nI_1]
      refine ⟨_, fun t ht => ?_, rfl⟩
      rw [es, hb, Bool.true_and]
      by_cases e : t = bnV M k row p i
      · subst e
        rw [pk_us, if_pos (decide_eq_true rfl)]
      · rw [pk_un e, if_neg (by rw [decide_eq_true_eq]; exact fun q => e q.symm), Nat.add_zero]
        exact hJ t ht
    · rw [if_neg (fun q => hb ((bit_t x (by omega)).mp q)), fX9_tallyBins_84, nm, nI_1]
      refine ⟨y, fun t ht => ?_, rfl⟩
      rw [es, Bool.eq_false_iff.mpr hb, Bool.false_and, if_neg (by decide), Nat.add_zero]
      exact hJ t ht
  · intro f y hJ
    rw [fX9_tallyBins_45.eq_2, if_pos (show (16 : Int32) ≤ nI 16 by decide)]
theorem tally_eq {M k p : Nat} (hM : isM M) (hk : k < 2 ^ M) (hp : p < 2 ^ M) {pw row : Nat → Int32} (hpw : ∀ j, j < 32 → pw j = nI (pwT M j)) (x : Int32) (tl : Nat → Int32) : ∃ tl', (∀ t, t < 97 → tl' t = nI (ceq (tb x) (bnV M k row p) 16 t)) ∧ fX9_tallyBins (nI (2 ^ M)) tl pw row x (nI k) (nI p) = some tl' := by
  have hN2 := isM_pow hM
  have hP : ∀ n, n < 2 ^ M → (nI n = nI p ↔ n = p) := fun n hn => nI_eq (by omega) (by omega)
  unfold fX9_tallyBins
  have hh := loopX (fun f i (y : Nat → Int32) => fX9_tallyBins_3 (nI (2 ^ M)) pw row f y x (nI k) (nI p) (nI i)) (fun i y => ∀ t, t < i → y t = 0) 97 (fun y => fX9_tallyBins_24 (nI (2 ^ M)) pw row y x (nI k) (nI p)) ?_ ?_ 97 FU 0 tl (by omega) (FU_pos (by omega)) (fun t ht => by omega)
  · obtain ⟨y, a1, a2⟩ := hh
    obtain ⟨tl', b1, b2⟩ := tally45 (row := row) hM hk hp hpw x a1
    refine ⟨tl', b1, a2.trans ?_⟩
    unfold fX9_tallyBins_24
    rw [binWithout_eq hM hk hpw hP row, bd1_s]
    exact b2
  · intro f i y hi hJ
    refine ⟨upd y i 0, fun t ht => ?_, ?_⟩
    · by_cases e : t = i
      · subst e; exact pk_us
      · rw [pk_un e]; exact hJ t (by omega)
    · rw [fX9_tallyBins_3.eq_2, if_neg (show ¬ ((97 : Int32) ≤ nI i) from nI_ge hi (by decide)), gd_t (inb_nI hi (by decide)), nm, nm, nI_clamp (by omega), nI_1]
  · intro f y hJ
    rw [fX9_tallyBins_3.eq_2, if_pos (show (97 : Int32) ≤ nI 97 by decide)]
theorem manyBy_eq {bb : Nat → Int32} {B : Nat → Nat} {n : Nat} (hn : n < 97) (hB : ∀ v, v < 16 → bb v = nI (B v) ∧ B v < 97) (x : Int32) : fX10_manyBy bb x (nI n) = some (nI (cge (tb x) B n)) := by
  unfold fX10_manyBy
  have hh := loopX (fun f i (y : Nat) => fX10_manyBy_5 bb f x (nI n) (nI y) (nI i)) (fun i y => y = cntB (fun v => tb x v && decide (n ≤ B v)) i) 16 (fun y => some (nI y)) ?_ ?_ 16 FU 0 0 (by omega) (FU_pos (by omega)) rfl
  · obtain ⟨y, a1, a2⟩ := hh
    rw [a1] at a2
    exact a2
  · intro f i y hi hJ
    have es : cntB (fun v => tb x v && decide (n ≤ B v)) (i + 1) = cntB (fun v => tb x v && decide (n ≤ B v)) i + (if (tb x i && decide (n ≤ B i)) = true then 1 else 0) := rfl
    obtain ⟨b1, b2⟩ := hB i hi
    refine ⟨_, rfl, ?_⟩
    rw [es, ← hJ, fX10_manyBy_5.eq_2, if_neg (show ¬ ((16 : Int32) ≤ nI i) from nI_ge hi (by decide)), fX10_isOf]
    unfold fX10_manyBy_37 fX10_manyBy_38
    by_cases hb : tb x i = true
    · rw [if_pos ((bit_t x (by omega)).mpr hb), bd1_s, if_neg (show ¬ ((1 : Int32) = 0) by decide), gd_t (inb_nI hi (by decide)), nI_clamp (by omega), b1, hb, Bool.true_and]
      by_cases h1 : n ≤ B i
      · rw [if_neg (nI_nlt h1 (by omega)), if_pos (decide_eq_true h1), nm, nm, nI_1, nI_1]
      · rw [if_pos (nI_lt (by omega) (by omega)), if_neg (by rw [decide_eq_true_eq]; exact h1), nm, nm, nI_1, show nI y + 0 = nI (y + 0) from nI_add y 0]
    · rw [if_neg (fun q => hb ((bit_t x (by omega)).mp q)), bd1_s, if_pos rfl, Bool.eq_false_iff.mpr hb, Bool.false_and, if_neg (by decide), nm, nm, nI_1, show nI y + 0 = nI (y + 0) from nI_add y 0]
  · intro f y hJ
    rw [fX10_manyBy_5.eq_2, if_pos (show (16 : Int32) ≤ nI 16 by decide)]
/-- the greater of two -/
def wrs (a c : Nat) : Nat := if c < a - c then a - c else c
theorem wrs_le {a c : Nat} (h : c ≤ a) : wrs a c ≤ a := by unfold wrs; split <;> omega
theorem ask_ci {M k n a : Nat} {pw row tl : Nat → Int32} {bt : Nat → Bool} {B : Nat → Nat} (k44 : (Nat → Int32) → Int32 → Int32 → Int32 → Int32 → Int32 → Int32 → Int32 → Int32 → Option (Int32 × (Nat → Int32))) (ht : ∀ t, t < 97 → tl t = nI (ceq bt B 16 t)) (ha : a = cntB bt 16) (hn : n + 1 < 97) (f : Nat) (p1 p2 x b1 b2 fw : Int32) :
    fX9_ask_71 (nI (2 ^ M)) (nI (2 ^ M)) pw row k44 (f + 1) tl p1 p2 x (nI a) b1 b2 fw (nI k) (nI (cge bt B n)) (nI (n + 1)) =
      fX9_ask_71 (nI (2 ^ M)) (nI (2 ^ M)) pw row k44 f tl p1 p2 x (nI a) (if fw ≤ nI (wrs a (cge bt B (n + 1))) then b1 else nI k) (if fw ≤ nI (wrs a (cge bt B (n + 1))) then b2 else nI (n + 1)) (if fw ≤ nI (wrs a (cge bt B (n + 1))) then fw else nI (wrs a (cge bt B (n + 1)))) (nI k) (nI (cge bt B (n + 1))) (nI (n + 2)) := by
  have hle : cge bt B (n + 1) ≤ a := by rw [ha]; exact cge_le
  have h16 : a ≤ 16 := by rw [ha]; exact cntB_le _ _
  have es : cge bt B n - ceq bt B 16 n = cge bt B (n + 1) := by have := cge_s (bt := bt) (B := B) (n := n); omega
  have em : (if nI (cge bt B (n + 1)) < nI a - nI (cge bt B (n + 1)) then nI a - nI (cge bt B (n + 1)) else nI (cge bt B (n + 1))) = nI (wrs a (cge bt B (n + 1))) := by
    rw [pk_sub hle]
    unfold wrs
    by_cases h : cge bt B (n + 1) < a - cge bt B (n + 1)
    · rw [if_pos (nI_lt h (by omega)), if_pos h]
    · rw [if_neg (nI_nlt (by omega) (by omega)), if_neg h]
  rw [fX9_ask_71.eq_2, if_neg (show ¬ ((97 : Int32) ≤ nI (n + 1)) from nI_ge hn (by decide)), nm, nI_pred, gd_t (inb_nI (show n < 97 by omega) (by decide)), nI_clamp (by omega), nm, ht n (by omega), pk_sub (by have := cge_s (bt := bt) (B := B) (n := n); omega), es, nm, em]
  unfold fX9_ask_123
  by_cases h9 : fw ≤ nI (wrs a (cge bt B (n + 1)))
  · rw [if_pos h9, if_pos h9, if_pos h9, if_pos h9, nm, nI_1]
  · rw [if_neg h9, if_neg h9, if_neg h9, if_neg h9, nm, nI_1]
theorem ask_mi {k n a : Nat} {all roots told bb co : Nat → Int32} {B : Nat → Nat} {x : Int32} (k43 : Int32 → (Nat → Int32) → (Nat → Int32) → Int32 → Int32 → Int32 → Int32 → Int32 → Int32 → Int32 → Option (Int32 × Int32 × (Nat → Int32) × (Nat → Int32))) (hB : ∀ v, v < 16 → bb v = nI (B v) ∧ B v < 97) (ha : a = cntB (tb x) 16) (hn : n + 1 < 97) (f : Nat) (th p1 p2 b1 b2 fw : Int32) :
    fX10_ask_95 0 all roots told k43 (f + 1) th bb co p1 p2 x b1 b2 fw (nI k) (nI a) (nI (n + 1)) =
      fX10_ask_95 0 all roots told k43 f th bb co p1 p2 x (if fw ≤ nI (wrs a (cge (tb x) B (n + 1))) then b1 else nI k) (if fw ≤ nI (wrs a (cge (tb x) B (n + 1))) then b2 else nI (n + 1)) (if fw ≤ nI (wrs a (cge (tb x) B (n + 1))) then fw else nI (wrs a (cge (tb x) B (n + 1)))) (nI k) (nI a) (nI (n + 2)) := by
  have hle : cge (tb x) B (n + 1) ≤ a := by rw [ha]; exact cge_le
  have h16 : a ≤ 16 := by rw [ha]; exact cntB_le _ _
  have e131 : ∀ s0 : Int32, s0 = nI (wrs a (cge (tb x) B (n + 1))) → fX10_ask_131 0 all roots told k43 (fX10_ask_95 0 all roots told k43 f) th bb co p1 p2 x b1 b2 fw (nI k) (nI a) (nI (n + 1)) s0 = fX10_ask_95 0 all roots told k43 f th bb co p1 p2 x (if fw ≤ nI (wrs a (cge (tb x) B (n + 1))) then b1 else nI k) (if fw ≤ nI (wrs a (cge (tb x) B (n + 1))) then b2 else nI (n + 1)) (if fw ≤ nI (wrs a (cge (tb x) B (n + 1))) then fw else nI (wrs a (cge (tb x) B (n + 1)))) (nI k) (nI a) (nI (n + 2)) := by
    intro s0 hs
    unfold fX10_ask_131 fX10_ask_155
    rw [hs]
    by_cases h9 : fw ≤ nI (wrs a (cge (tb x) B (n + 1)))
    · rw [if_neg (show ¬ (nI (wrs a (cge (tb x) B (n + 1))) < fw) from fun q => by rw [Int32.lt_iff_toInt_lt] at q; rw [Int32.le_iff_toInt_le] at h9; omega), if_pos h9, if_pos h9, if_pos h9, nm, nI_1]
    · rw [if_pos (show nI (wrs a (cge (tb x) B (n + 1))) < fw from by rw [Int32.lt_iff_toInt_lt]; rw [Int32.le_iff_toInt_le] at h9; omega), if_neg h9, if_neg h9, if_neg h9, nm, nI_1]
  rw [fX10_ask_95.eq_2, if_neg (show ¬ ((96 : Int32) < nI (n + 1)) from nI_nlt (b := n + 1) (a := 96) (by omega) (by decide)), manyBy_eq hn hB, bd1_s, pk_sub hle]
  unfold wrs at e131 ⊢
  by_cases h : cge (tb x) B (n + 1) ≤ a - cge (tb x) B (n + 1)
  · rw [if_pos (nI_le h (by omega))]
    refine e131 _ ?_
    by_cases h2 : cge (tb x) B (n + 1) < a - cge (tb x) B (n + 1)
    · rw [if_pos h2]
    · rw [if_neg h2, show a - cge (tb x) B (n + 1) = cge (tb x) B (n + 1) by omega]
  · rw [if_neg (nI_ge (by omega) (by omega))]
    refine e131 _ ?_
    rw [if_neg (by omega)]
theorem ask_in {M k a : Nat} {pw row tl all roots told bb co : Nat → Int32} {x : Int32} {B : Nat → Nat} (k44 : (Nat → Int32) → Int32 → Int32 → Int32 → Int32 → Int32 → Int32 → Int32 → Int32 → Option (Int32 × (Nat → Int32))) (k43 : Int32 → (Nat → Int32) → (Nat → Int32) → Int32 → Int32 → Int32 → Int32 → Int32 → Int32 → Int32 → Option (Int32 × Int32 × (Nat → Int32) × (Nat → Int32))) (ht : ∀ t, t < 97 → tl t = nI (ceq (tb x) B 16 t)) (hB : ∀ v, v < 16 → bb v = nI (B v) ∧ B v < 97) (ha : a = cntB (tb x) 16) (th p1 p2 : Int32) :
    ∀ d f g n (b1 b2 fw : Int32), n + d = 96 → d < f → d < g → ∃ b1' b2' fw',
      fX9_ask_71 (nI (2 ^ M)) (nI (2 ^ M)) pw row k44 f tl p1 p2 x (nI a) b1 b2 fw (nI k) (nI (cge (tb x) B n)) (nI (n + 1)) = fX9_ask_129 (nI (2 ^ M)) (nI (2 ^ M)) pw row k44 tl p1 p2 x (nI a) b1' b2' fw' (nI k) ∧
      fX10_ask_95 0 all roots told k43 g th bb co p1 p2 x b1 b2 fw (nI k) (nI a) (nI (n + 1)) = fX10_ask_161 0 all roots told k43 th bb co p1 p2 x b1' b2' fw' (nI k) := by
  intro d
  induction d with
  | zero =>
    intro f g n b1 b2 fw h1 h2 h3
    obtain ⟨f, rfl⟩ : ∃ m, f = m + 1 := ⟨f - 1, by omega⟩
    obtain ⟨g, rfl⟩ : ∃ m, g = m + 1 := ⟨g - 1, by omega⟩
    obtain rfl : n = 96 := by omega
    rw [fX9_ask_71.eq_2, fX10_ask_95.eq_2, if_pos (show (97 : Int32) ≤ nI (96 + 1) by decide), if_pos (show (96 : Int32) < nI (96 + 1) by decide)]
    exact ⟨b1, b2, fw, rfl, rfl⟩
  | succ d ih =>
    intro f g n b1 b2 fw h1 h2 h3
    obtain ⟨f, rfl⟩ : ∃ m, f = m + 1 := ⟨f - 1, by omega⟩
    obtain ⟨g, rfl⟩ : ∃ m, g = m + 1 := ⟨g - 1, by omega⟩
    rw [ask_ci k44 ht ha (by omega), ask_mi k43 hB ha (by omega)]
    exact ih f g (n + 1) _ _ _ (by omega) (by omega) (by omega)
theorem ask55 {M k p : Nat} (hM : isM M) (hk : k < 2 ^ M) (hp : p < 2 ^ M) {all roots told row bb co : Nat → Int32} (h0 : told 0 = nI (2 ^ M)) (hpw : ∀ j, j < 2 ^ M → roots j = nI (pwT M j)) (hrow : ∀ i, i < 2 ^ M → all (64 + i) = row i) (hb : ∀ i, i < 2 ^ M → ab (row i) ≤ 2 ^ 16) (k43 : Int32 → (Nat → Int32) → (Nat → Int32) → Int32 → Int32 → Int32 → Int32 → Int32 → Int32 → Int32 → Option (Int32 × Int32 × (Nat → Int32) × (Nat → Int32))) (th p2 x b1 b2 fw : Int32) :
    ∃ bb', (∀ v, v < 16 → bb' v = nI (bnV M k row p v) ∧ bnV M k row p v < 97) ∧ fX10_ask_55 0 all roots told k43 FU th bb co (nI p) p2 x b1 b2 fw (nI k) 0 = fX10_ask_95 0 all roots told k43 FU th bb' co (nI p) p2 x b1 b2 fw (nI k) (nI (cntB (tb x) 16)) 1 := by
  have hN2 := isM_pow hM
  have hP : ∀ n, n < 2 ^ M → (nI n = nI p ↔ n = p) := fun n hn => nI_eq (by omega) (by omega)
  have hh := loopX (fun f i (y : Nat → Int32) => fX10_ask_55 0 all roots told k43 f th y co (nI p) p2 x b1 b2 fw (nI k) (nI i)) (fun i y => ∀ v, v < i → y v = nI (bnV M k row p v)) 16 (fun y => fX10_ask_84 0 all roots told k43 th y co (nI p) p2 x b1 b2 fw (nI k)) ?_ ?_ 16 FU 0 bb (by omega) (FU_pos (by omega)) (fun t ht => by omega)
  · obtain ⟨y, a1, a2⟩ := hh
    have hB : ∀ v, v < 16 → y v = nI (bnV M k row p v) ∧ bnV M k row p v < 97 := fun v hv => ⟨a1 v hv, rg_lt _⟩
    refine ⟨y, hB, a2.trans ?_⟩
    unfold fX10_ask_84
    rw [show fX10_manyBy y x 0 = _ from manyBy_eq (n := 0) (by decide) hB x, bd1_s, cge_0]
  · intro f i y hi hJ
    have hV : ab (nI i) ≤ 2 ^ 16 := by unfold ab; rw [nI_toInt (by omega)]; omega
    have hB := binWith_m hM hk h0 hpw hrow hb hP hV
    rw [nI_toInt (show i < 2 ^ 31 by omega)] at hB
    refine ⟨upd y i (nI (bnV M k row p i)), fun v hv => ?_, ?_⟩
    · by_cases e : v = i
      · subst e; exact pk_us
      · rw [pk_un e]; exact hJ v (by omega)
    · rw [fX10_ask_55.eq_2, if_neg (show ¬ ((16 : Int32) ≤ nI i) from nI_ge hi (by decide)), hB, bd1_s, gd_t (inb_nI hi (by decide)), nm, nm, nI_clamp (by omega), nI_1]
      rfl
  · intro f y hJ
    rw [fX10_ask_55.eq_2, if_pos (show (16 : Int32) ≤ nI 16 by decide)]
theorem k_ask {o_imageKept : Int32} {o_taped : Int32} {o_way_size : Int32} {o_way_log : Int32} {o_way_wordBits : Int32} {o_way_limit : Int32} {o_way_radix : Int32} {o_way_order : Int32} {o_way_near : Int32} {o_way_seed : Int32} {o_way_stages : Int32} {o_way_shifts : Nat → Int32} {o_wave_exp : Int32} {o_wave_done : Int32} {o_wave_backward : Int32} {o_wave_re : Nat → Int32} {o_wave_im : Nat → Int32} {o_wave_wasRe : Nat → Int32} {o_wave_wasIm : Nat → Int32} {o_wave_halved : Nat → Int32} {o_past_next : Int32} {o_past_held : Int32} {o_past_cells : Nat → Int32} {o_notes_total : Int32} {o_notes_knownBy : Int32} {o_notes_kinds : Nat → Int32} {o_notes_targets : Nat → Int32} {o_notes_bins : Nat → Int32} {o_ring_size : Int32} {o_ring_log : Int32} {o_ring_powers : Nat → Int32} {o_turns_cos : Nat → Int32} {o_turns_sin : Nat → Int32} {o_reader_fault : Int32} {o_reader_faultPlace : Int32} {o_image : Nat → Int32} {o_tape : Nat → Int32} {m_tapeSize : Int32} {m_fault : Int32} {m_faultPlace : Int32} {m_bank : Int32} {m_isImage : Int32} {m_undos : Int32} {m_runRadix : Int32} {m_runOrder : Int32} {m_runNear : Int32} {m_runLimit : Int32} {m_runHalves : Int32} {m_power : Int32} {m_notedMany : Int32} {m_knownTold : Int32} {m_tape : Nat → Int32} {m_words : Nat → Int32} {m_told : Nat → Int32} {m_all : Nat → Int32} {m_quarter : Nat → Int32} {m_roots : Nat → Int32} {m_noted1 : Nat → Int32} (hR : REL o_imageKept o_taped o_way_size o_way_log o_way_wordBits o_way_limit o_way_radix o_way_order o_way_near o_way_seed o_way_stages o_way_shifts o_wave_exp o_wave_done o_wave_backward o_wave_re o_wave_im o_wave_wasRe o_wave_wasIm o_wave_halved o_past_next o_past_held o_past_cells o_notes_total o_notes_knownBy o_notes_kinds o_notes_targets o_notes_bins o_ring_size o_ring_log o_ring_powers o_turns_cos o_turns_sin o_reader_fault o_reader_faultPlace o_image o_tape m_tapeSize m_fault m_faultPlace m_bank m_isImage m_undos m_runRadix m_runOrder m_runNear m_runLimit m_runHalves m_power m_notedMany m_knownTold m_tape m_words m_told m_all m_quarter m_roots m_noted1) (p1 : Int32) (p2 : Int32)  (o_tally : Nat → Int32) (m_thrown : Int32) (m_binBy : Nat → Int32) (m_counts : Nat → Int32) :
    ∃ (r : Int32) (out_o_tally : Nat → Int32) (out_m_thrown : Int32) (out_m_binBy : Nat → Int32) (out_m_counts : Nat → Int32), fX9_ask o_notes_total o_notes_knownBy o_ring_size o_tally o_way_size o_notes_bins o_notes_kinds o_notes_targets o_ring_powers o_wave_wasRe p1 p2 = some (r, out_o_tally) ∧ fX10_ask m_thrown m_bank m_notedMany m_knownTold m_all m_binBy m_counts m_noted1 m_roots m_told p1 p2 = some (r, out_m_thrown, out_m_binBy, out_m_counts) ∧ REL o_imageKept o_taped o_way_size o_way_log o_way_wordBits o_way_limit o_way_radix o_way_order o_way_near o_way_seed o_way_stages o_way_shifts o_wave_exp o_wave_done o_wave_backward o_wave_re o_wave_im o_wave_wasRe o_wave_wasIm o_wave_halved o_past_next o_past_held o_past_cells o_notes_total o_notes_knownBy o_notes_kinds o_notes_targets o_notes_bins o_ring_size o_ring_log o_ring_powers o_turns_cos o_turns_sin o_reader_fault o_reader_faultPlace o_image o_tape m_tapeSize m_fault m_faultPlace m_bank m_isImage m_undos m_runRadix m_runOrder m_runNear m_runLimit m_runHalves m_power m_notedMany m_knownTold m_tape m_words m_told m_all m_quarter m_roots m_noted1 := by
  have hR0 := hR
  obtain ⟨M, bits, rad, ord, nr, sd, hC, hW, hT, hG, hm, hV, hP, hI, hN, hA, hF1, hF2⟩ := hR
  obtain ⟨hM, hbits, hr, ho, hn, hsd⟩ := id hC
  obtain ⟨rfl, rfl, rfl, rfl, rfl, rfl, rfl, rfl, rfl, hSH⟩ := hW
  obtain ⟨rfl, rfl, rfl, rfl, rfl, rfl, rfl, rfl, rfl, t0, t1, t2, t3, t4, t5, hrt⟩ := hm
  have hN2 := isM_pow hM
  have hns := nst_le hM hr
  have hlm := lm_x hbits
  have hCG := CF_c hC
  obtain ⟨k, bk, rfl, rfl, hw, hws, hwi⟩ := hV
  obtain ⟨rfl, rfl, hpw⟩ := id hG
  obtain ⟨n, rfl, n1, rfl, n2, n3, n4⟩ := id hN
  have hws0 := WASR_0 hws
  have hrow : ∀ i, i < 2 ^ M → m_all (64 + i) = o_wave_wasRe i := fun i hi => (hws0 i (by omega)).1
  have hbd : ∀ i, i < 2 ^ M → ab (o_wave_wasRe i) ≤ 2 ^ 16 := fun i hi => by have := (hwi.2.2.2.2.2.1 i hi).1; dsimp only at this; omega
  unfold fX9_ask fX10_ask
  rcases place_c hM p1 with ⟨j, hj, rfl, e1, e2⟩ | ⟨e1, e2⟩
  · rw [e1, e2 _ t0, bd1_s, bd1_s, if_neg (show ¬ ((1 : Int32) = 0) by decide), if_neg (show ¬ ((1 : Int32) = 0) by decide)]
    rcases isIn_c p2 (show 2 < 2 ^ 30 by decide) with ⟨i, hi, rfl, q1, q2, q3⟩ | ⟨q1, q3⟩ | ⟨q1, q2, q4, q3⟩
    · rw [if_neg q1, if_pos (show nI i ≤ 2 from q2), show fX10_isIn (nI i) 0 2 = _ from q3, bd1_s, if_neg (show ¬ ((1 : Int32) = 0) by decide)]
      obtain ⟨x, co', a1, a2, a3⟩ := values_both (all := m_all) (co := m_counts) (row := o_wave_wasRe) hM hj t0 hpw hrt hrow hbd n1 n2 n3 n4
      rw [a1, bd1_s, a2, bd2_s, bitCount_tb a3, bd1_s]
      obtain ⟨A, hA0⟩ : ∃ A, A = cntB (tb x) 16 := ⟨_, rfl⟩
      have hA16 : A ≤ 16 := by rw [hA0]; exact cntB_le _ _
      rw [← hA0]
      have key : ∀ d f g k (b1 b2 fw : Int32) (tl bb : Nat → Int32), k + d = 2 ^ M → d < f → d < g → ∃ r tl' bb',
          fX9_ask_44 (nI (2 ^ M)) (nI (2 ^ M)) o_ring_powers o_wave_wasRe f tl (nI j) (nI i) x (nI A) b1 b2 fw (nI k) = some (r, tl') ∧
          fX10_ask_43 0 m_all m_roots m_told g 0 bb co' (nI j) (nI i) x b1 b2 fw (nI k) = some (r, 0, bb', co') := by
        intro d
        induction d with
        | zero =>
          intro f g k b1 b2 fw tl bb h1 h2 h3
          obtain ⟨f, rfl⟩ : ∃ m, f = m + 1 := ⟨f - 1, by omega⟩
          obtain ⟨g, rfl⟩ : ∃ m, g = m + 1 := ⟨g - 1, by omega⟩
          rw [fX9_ask_44.eq_2, fX10_ask_43.eq_2, size_eq, bd1_s, t0, if_pos (nI_le (by omega) (by omega)), if_pos (nI_le (by omega) (by omega))]
          unfold fX9_ask_135 fX10_ask_167
          by_cases c0 : nI i = 0
          · rw [if_pos c0, if_pos c0]; exact ⟨_, _, _, rfl, rfl⟩
          · rw [if_neg c0, if_neg c0]
            by_cases c1 : nI i = 1
            · rw [if_pos c1, if_pos c1]; exact ⟨_, _, _, rfl, rfl⟩
            · rw [if_neg c1, if_neg c1]; exact ⟨_, _, _, rfl, rfl⟩
        | succ d ih =>
          intro f g k b1 b2 fw tl bb h1 h2 h3
          obtain ⟨f, rfl⟩ : ∃ m, f = m + 1 := ⟨f - 1, by omega⟩
          obtain ⟨g, rfl⟩ : ∃ m, g = m + 1 := ⟨g - 1, by omega⟩
          have hk : k < 2 ^ M := by omega
          obtain ⟨tl', b3, b4⟩ := tally_eq (row := o_wave_wasRe) hM hk hj hpw x tl
          obtain ⟨bb', b5, b6⟩ := ask55 (bb := bb) (co := co') hM hk hj t0 hrt hrow hbd (fX10_ask_43 0 m_all m_roots m_told g) 0 (nI i) x b1 b2 fw
          obtain ⟨c1, c2, c3, d1, d2⟩ := ask_in (M := M) (k := k) (a := A) (pw := o_ring_powers) (row := o_wave_wasRe) (all := m_all) (roots := m_roots) (told := m_told) (co := co') (fX9_ask_44 (nI (2 ^ M)) (nI (2 ^ M)) o_ring_powers o_wave_wasRe f) (fX10_ask_43 0 m_all m_roots m_told g) b3 b5 hA0 0 (nI j) (nI i) 96 FU FU 0 b1 b2 fw (by omega) (FU_pos (by omega)) (FU_pos (by omega))
          rw [cge_0, ← hA0] at d1
          rw [fX9_ask_44.eq_2, fX10_ask_43.eq_2, size_eq, bd1_s, t0, if_neg (nI_ge hk (by omega)), if_neg (nI_ge hk (by omega)), b4, bd1_s, b6, ← hA0, show fX9_ask_71 (nI (2 ^ M)) (nI (2 ^ M)) o_ring_powers o_wave_wasRe (fX9_ask_44 (nI (2 ^ M)) (nI (2 ^ M)) o_ring_powers o_wave_wasRe f) FU tl' (nI j) (nI i) x (nI A) b1 b2 fw (nI k) (nI A) 1 = _ from d1, show fX10_ask_95 0 m_all m_roots m_told (fX10_ask_43 0 m_all m_roots m_told g) FU 0 bb' co' (nI j) (nI i) x b1 b2 fw (nI k) (nI A) 1 = _ from d2]
          unfold fX9_ask_129 fX10_ask_161
          rw [nm, nm, nI_1]
          exact ih f g (k + 1) c1 c2 c3 tl' bb' (by omega) (by omega) (by omega)
      -- the first bin, the first number
      obtain ⟨tl', b3, b4⟩ := tally_eq (k := 0) (row := o_wave_wasRe) hM (by omega) hj hpw x o_tally
      obtain ⟨bb', b5, b6⟩ := ask55 (k := 0) (bb := m_binBy) (co := co') hM (by omega) hj t0 hrt hrow hbd (fX10_ask_43 0 m_all m_roots m_told 4095) 0 (nI i) x 0 1 17
      have hw0 : wrs A (cge (tb x) (bnV M 0 o_wave_wasRe j) (0 + 1)) ≤ A := wrs_le (by rw [hA0]; exact cge_le)
      have s1 := ask_ci (M := M) (k := 0) (n := 0) (a := A) (pw := o_ring_powers) (row := o_wave_wasRe) (fX9_ask_44 (nI (2 ^ M)) (nI (2 ^ M)) o_ring_powers o_wave_wasRe 4095) b3 hA0 (by decide) 4095 (nI j) (nI i) x 0 1 (nI A)
      have s2 := ask_mi (k := 0) (n := 0) (a := A) (all := m_all) (roots := m_roots) (told := m_told) (co := co') (fX10_ask_43 0 m_all m_roots m_told 4095) b5 hA0 (by decide) 4095 0 (nI j) (nI i) 0 1 17
      rw [cge_0, ← hA0] at s1
      have u1 : (if nI A ≤ nI (wrs A (cge (tb x) (bnV M 0 o_wave_wasRe j) (0 + 1))) then (0 : Int32) else nI 0) = 0 := by split <;> rfl
      have u2 : (if nI A ≤ nI (wrs A (cge (tb x) (bnV M 0 o_wave_wasRe j) (0 + 1))) then (1 : Int32) else nI (0 + 1)) = 1 := by split <;> rfl
      have u3 : (if nI A ≤ nI (wrs A (cge (tb x) (bnV M 0 o_wave_wasRe j) (0 + 1))) then nI A else nI (wrs A (cge (tb x) (bnV M 0 o_wave_wasRe j) (0 + 1)))) = nI (wrs A (cge (tb x) (bnV M 0 o_wave_wasRe j) (0 + 1))) := by
        split
        · rename_i q
          have := (nI_leI (by omega) (by omega)).mp q
          rw [show wrs A (cge (tb x) (bnV M 0 o_wave_wasRe j) (0 + 1)) = A by omega]
        · rfl
      have hne : ¬ ((17 : Int32) ≤ nI (wrs A (cge (tb x) (bnV M 0 o_wave_wasRe j) (0 + 1)))) := nI_ge (b := 17) (by omega) (by decide)
      rw [u1, u2, u3] at s1
      rw [if_neg hne, if_neg hne, if_neg hne] at s2
      obtain ⟨c1, c2, c3, d1, d2⟩ := ask_in (M := M) (k := 0) (a := A) (pw := o_ring_powers) (row := o_wave_wasRe) (all := m_all) (roots := m_roots) (told := m_told) (co := co') (fX9_ask_44 (nI (2 ^ M)) (nI (2 ^ M)) o_ring_powers o_wave_wasRe 4095) (fX10_ask_43 0 m_all m_roots m_told 4095) b3 b5 hA0 0 (nI j) (nI i) 95 4095 4095 1 0 1 (nI (wrs A (cge (tb x) (bnV M 0 o_wave_wasRe j) (0 + 1)))) (by omega) (by omega) (by omega)
      obtain ⟨r, tl2, bb2, k1, k2⟩ := key (2 ^ M - 1) 4095 4095 1 c1 c2 c3 tl' bb' (by omega) (by omega) (by omega)
      have f1 : fX9_ask_44 (nI (2 ^ M)) (nI (2 ^ M)) o_ring_powers o_wave_wasRe (4095 + 1) o_tally (nI j) (nI i) x (nI A) 0 1 (nI A) 0 = some (r, tl2) := by
        rw [fX9_ask_44.eq_2, if_neg (show ¬ (nI (2 ^ M) ≤ 0) from nI_ge (a := 0) (b := 2 ^ M) (by omega) (by omega)), show fX9_tallyBins (nI (2 ^ M)) o_tally o_ring_powers o_wave_wasRe x 0 (nI j) = _ from b4, bd1_s]
        refine (show fX9_ask_71 (nI (2 ^ M)) (nI (2 ^ M)) o_ring_powers o_wave_wasRe (fX9_ask_44 (nI (2 ^ M)) (nI (2 ^ M)) o_ring_powers o_wave_wasRe 4095) FU tl' (nI j) (nI i) x (nI A) 0 1 (nI A) 0 (nI A) 1 = _ from s1).trans (d1.trans ?_)
        unfold fX9_ask_129
        rw [nm]
        exact k1
      have f2 : fX10_ask_43 0 m_all m_roots m_told (4095 + 1) 0 m_binBy co' (nI j) (nI i) x 0 1 17 0 = some (r, 0, bb2, co') := by
        rw [fX10_ask_43.eq_2, size_eq, bd1_s, t0, if_neg (show ¬ (nI (2 ^ M) ≤ 0) from nI_ge (a := 0) (b := 2 ^ M) (by omega) (by omega))]
        refine (show fX10_ask_55 0 m_all m_roots m_told (fX10_ask_43 0 m_all m_roots m_told 4095) FU 0 m_binBy co' (nI j) (nI i) x 0 1 17 0 0 = _ from b6).trans ?_
        rw [← hA0]
        refine (show fX10_ask_95 0 m_all m_roots m_told (fX10_ask_43 0 m_all m_roots m_told 4095) FU 0 bb' co' (nI j) (nI i) x 0 1 17 (nI 0) (nI A) 1 = _ from s2).trans (d2.trans ?_)
        unfold fX10_ask_161
        rw [nm]
        exact k2
      exact ⟨_, _, _, _, _, f1, f2, hR0⟩
    · rw [if_pos q1, show fX10_isIn p2 0 2 = _ from q3, bd1_s, if_pos rfl]
      exact ⟨_, _, _, _, _, rfl, rfl, hR0⟩
    · rw [if_neg q1, if_neg (show ¬ (p2 ≤ 2) from q2), show fX10_isIn p2 0 2 = _ from q3, bd1_s, if_pos rfl]
      exact ⟨_, _, _, _, _, rfl, rfl, hR0⟩
  · rw [e1, e2 _ t0]
    exact ⟨_, _, _, _, _, rfl, rfl, hR0⟩
