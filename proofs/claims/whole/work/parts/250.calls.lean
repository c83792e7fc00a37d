/-! ===== bits of a word; values ===== -/
def tb (x : Int32) (i : Nat) : Bool := x.toBitVec.getLsbD i
theorem tb_and (x y : Int32) (i : Nat) : tb (x &&& y) i = (tb x i && tb y i) := by unfold tb; rw [Int32.toBitVec_and, BitVec.getLsbD_and]
theorem tb_or (x y : Int32) (i : Nat) : tb (x ||| y) i = (tb x i || tb y i) := by unfold tb; rw [Int32.toBitVec_or, BitVec.getLsbD_or]
theorem tb_xor (x y : Int32) (i : Nat) : tb (x ^^^ y) i = (tb x i ^^ tb y i) := by unfold tb; rw [Int32.toBitVec_xor, BitVec.getLsbD_xor]
theorem tb_m1 {i : Nat} (hi : i < 32) : tb (-1) i = true := by
  unfold tb
  rw [show (-1 : Int32).toBitVec = BitVec.allOnes 32 by decide, BitVec.getLsbD_allOnes]
  exact decide_eq_true hi
theorem tb_nI {n i : Nat} (hi : i < 32) : tb (nI n) i = n.testBit i := by
  unfold tb
  show (BitVec.ofNat 32 n).getLsbD i = _
  rw [BitVec.getLsbD_ofNat, decide_eq_true hi, Bool.true_and]
theorem tb_pow {t i : Nat} (ht : t < 31) (hi : i < 32) : tb ((1 : Int32) <<< (nI t &&& 31)) i = decide (t = i) := by
  have h : 1 * 2 ^ t < 2 ^ 32 := by rw [Nat.one_mul]; exact Nat.pow_lt_pow_right (by decide) (by omega)
  rw [show (1 : Int32) = nI 1 from rfl, shl_nI (by omega) h, tb_nI hi, Nat.one_mul, Nat.testBit_two_pow]
theorem tb_not {t i : Nat} (ht : t < 31) (hi : i < 32) : tb (((1 : Int32) <<< (nI t &&& 31)) ^^^ (-1 : Int32)) i = !(decide (t = i)) := by
  rw [tb_xor, tb_pow ht hi, tb_m1 hi, Bool.xor_true]
theorem tb_ext {x y : Int32} (h : ∀ i, i < 32 → tb x i = tb y i) : x = y := Int32.toBitVec_inj.mp (BitVec.eq_of_getLsbD_eq (fun i hi => h i hi))
theorem bit_t (x : Int32) {t : Nat} (ht : t < 32) : (((x >>> (nI t &&& 31)) &&& (1 : Int32)) = 1) ↔ tb x t = true := by
  have h1 : tb (x >>> (nI t &&& 31)) 0 = tb x t := by
    unfold tb
    rw [Int32.toBitVec_shiftRight, BitVec.getLsbD_sshiftRight', of_decide_eq_true (all_x s_l32 ht), Nat.add_zero, if_pos ht]
    rfl
  rw [← h1, pk_and _ 1 (by decide)]
  unfold tb
  rw [← BitVec.testBit_toNat, Nat.testBit_zero, decide_eq_true_eq]
  have h2 := Nat.mod_lt (x >>> (nI t &&& 31)).toBitVec.toNat (show 0 < 2 ^ 1 by decide)
  constructor
  · intro q
    exact (nI_eq (b := 1) (by omega) (by decide)).mp q
  · intro q
    rw [show 2 ^ 1 = 2 from rfl, q]
    rfl
theorem standing_both {M kn : Nat} (hM : isM M) (hk : kn ≤ 24) {ki ta bi no : Nat → Int32} (hN : ∀ i, i < kn → NOT1 M ki ta bi no i) :
    ∀ k n m (v : Int32) (co : Nat → Int32) (c : Nat → Bool), k ≤ kn → k < n → k < m → (∀ i, i < 32 → tb v i = (decide (i < kn) && c i)) → (∀ i, i < kn → co i = if c i then 1 else 0) →
    ∃ v' co', ∃ c' : Nat → Bool, fX2_standing_16 ki ta n v (nI k + (-1)) = some v' ∧ fX10_layCounts_30 no m co (nI k + (-1)) = some co' ∧ (∀ i, i < 32 → tb v' i = (decide (i < kn) && c' i)) ∧ (∀ i, i < kn → co' i = if c' i then 1 else 0) := by
  intro k
  induction k with
  | zero =>
    intro n m v co c h1 h2 h3 hv hc
    obtain ⟨n, rfl⟩ : ∃ m, n = m + 1 := ⟨n - 1, by omega⟩
    obtain ⟨m, rfl⟩ : ∃ m', m = m' + 1 := ⟨m - 1, by omega⟩
    rw [fX2_standing_16.eq_2, fX10_layCounts_30.eq_2, if_pos (show nI 0 + (-1) < 0 by decide), if_pos (show nI 0 + (-1) < 0 by decide)]
    exact ⟨v, co, c, rfl, rfl, hv, hc⟩
  | succ k ih =>
    intro n m v co c h1 h2 h3 hv hc
    obtain ⟨n, rfl⟩ : ∃ m, n = m + 1 := ⟨n - 1, by omega⟩
    obtain ⟨m, rfl⟩ : ∃ m', m = m' + 1 := ⟨m - 1, by omega⟩
    have hb : tb v k = c k := by rw [hv k (by omega), decide_eq_true (show k < kn by omega), Bool.true_and]
    have go : ∀ (v2 : Int32) (co2 : Nat → Int32) (c2 : Nat → Bool), (∀ i, i < 32 → tb v2 i = (decide (i < kn) && c2 i)) → (∀ i, i < kn → co2 i = if c2 i then 1 else 0) → ∃ v' co', ∃ c' : Nat → Bool, fX2_standing_52 ki ta (fX2_standing_16 ki ta n) v2 (nI k) = some v' ∧ fX10_layCounts_70 no (fX10_layCounts_30 no m) co2 (nI k) = some co' ∧ (∀ i, i < 32 → tb v' i = (decide (i < kn) && c' i)) ∧ (∀ i, i < kn → co' i = if c' i then 1 else 0) := fun v2 co2 c2 a1 a2 => ih n m v2 co2 c2 (by omega) (by omega) (by omega) a1 a2
    rw [fX2_standing_16.eq_2, fX10_layCounts_30.eq_2, pk_m1, if_neg (nI_pos (by omega)), if_neg (nI_pos (by omega))]
    simp only [gd_t (inb_nI (show k < 24 by omega) (by decide)), nI_clamp (show k < 2 ^ 31 by omega)]
    rw [hc k (by omega)]
    have e3 : (3 : Int32) * nI k = nI (3 * k) := pk_mul 3 k
    rcases hN k (by omega) with ⟨t, ht, n1, n2, n3, n4⟩ | ⟨kk, vv, ee, q1, q2, q3, n1, n2, n3, n4, n5, n6⟩
    · rw [n1, if_pos rfl]
      by_cases hck : c k = true
      · rw [if_pos ((bit_t v (by omega)).mpr (hb.trans hck)), if_pos hck, if_neg (show ¬ ((1 : Int32) = 0) by decide)]
        simp only [nm]
        rw [n2, e3, gd_t (inb_nI (show 3 * k < 72 by omega) (by decide)), nI_1, gd_t (inb_nI (show 3 * k + 1 < 72 by omega) (by decide)), nI_clamp (by omega), nI_clamp (by omega), n3, n4, if_neg (show ¬ ((0 : Int32) ≤ -1) by decide), gd_t (inb_nI (show t < 24 by omega) (by decide)), nI_clamp (by omega)]
        refine go _ _ (fun i => c i && !(decide (t = i))) (fun i hi => ?_) (fun i hi => ?_)
        · rw [tb_and, tb_not (by omega) hi, hv i hi, Bool.and_assoc]
        · by_cases e : i = t
          · subst e
            rw [pk_us, decide_eq_true rfl, Bool.not_true, Bool.and_false]
            rfl
          · rw [pk_un e, hc i hi, decide_eq_false (fun q => e q.symm), Bool.not_false, Bool.and_true]
      · rw [if_neg (fun q => hck (hb.symm.trans ((bit_t v (by omega)).mp q))), if_neg hck, if_pos rfl]
        exact go v co c hv hc
    · rw [if_neg (show ¬ (ki k = 2) from fun q => by rw [n1] at q; have := (nI_eq (b := 2) (by omega) (by decide)).mp q; omega)]
      by_cases hck : c k = true
      · rw [if_pos hck, if_neg (show ¬ ((1 : Int32) = 0) by decide)]
        simp only [nm]
        rw [e3, gd_t (inb_nI (show 3 * k < 72 by omega) (by decide)), nI_clamp (by omega), n4, if_pos (nI_pos' (by have := q1; have := isM_pow hM; omega))]
        exact go v co c hv hc
      · rw [if_neg hck, if_pos rfl]
        exact go v co c hv hc
theorem layCounts_eq {kn nn : Nat} (hk : kn ≤ 24) {many kt : Int32} (hkb : fX10_knownBy many kt = some (nI kn)) (no : Nat → Int32) : ∀ d n i (co : Nat → Int32), i + d = kn → d < n → (∀ j, j < i → co j = 1) → ∃ co', (∀ j, j < kn → co' j = 1) ∧ fX10_layCounts_2 many kt no n co (nI i) = fX10_layCounts_30 no FU co' (nI kn + (-1)) := by
  intro d
  induction d with
  | zero =>
    intro n i co h1 h2 hc
    obtain ⟨n, rfl⟩ : ∃ m, n = m + 1 := ⟨n - 1, by omega⟩
    obtain rfl : i = kn := by omega
    refine ⟨co, hc, ?_⟩
    rw [fX10_layCounts_2.eq_2, hkb, bd1_s, if_pos (nI_le (Nat.le_refl _) (by omega)), fX10_layCounts_23, hkb, bd1_s, nm, Int32.sub_eq_add_neg]
  | succ d ih =>
    intro n i co h1 h2 hc
    obtain ⟨n, rfl⟩ : ∃ m, n = m + 1 := ⟨n - 1, by omega⟩
    obtain ⟨co', a1, a2⟩ := ih n (i + 1) (upd co i 1) (by omega) (by omega) (fun j hj => by
      by_cases e : j = i
      · subst e; exact pk_us
      · rw [pk_un e]; exact hc j (by omega))
    refine ⟨co', a1, ?_⟩
    rw [fX10_layCounts_2.eq_2, hkb, bd1_s, if_neg (nI_ge (by omega) (by omega)), gd_t (inb_nI (show i < 24 by omega) (by decide)), nI_clamp (by omega)]
    simp only [nm, nI_1]
    exact a2
theorem counts_both {M kn : Nat} (hM : isM M) (hk : kn ≤ 24) {ki ta bi no : Nat → Int32} {total kb many kt : Int32} (hN : ∀ i, i < kn → NOT1 M ki ta bi no i) (hkn : fX2_knownNow total kb = some (nI kn)) (hkb : fX10_knownBy many kt = some (nI kn)) (co : Nat → Int32) :
    ∃ v' co', ∃ c' : Nat → Bool, fX2_standing total kb ki ta = some v' ∧ fX10_layCounts many kt co no = some co' ∧ (∀ i, i < 32 → tb v' i = (decide (i < kn) && c' i)) ∧ (∀ i, i < kn → co' i = if c' i then 1 else 0) := by
  obtain ⟨co1, a1, a2⟩ := layCounts_eq (nn := 0) hk hkb no kn FU 0 co (by omega) (FU_pos (by omega)) (fun j hj => by omega)
  have hp : 2 ^ kn ≤ 2 ^ 24 := Nat.pow_le_pow_right (by decide) hk
  have hp1 : 1 ≤ 2 ^ kn := Nat.one_le_two_pow
  have ev : ((1 : Int32) <<< (nI kn &&& 31)) - (1 : Int32) = nI (2 ^ kn - 1) := by
    rw [show (1 : Int32) = nI 1 from rfl, shl_nI (by omega) (by rw [Nat.one_mul]; omega), Nat.one_mul, pk_sub hp1]
  obtain ⟨v', co', c', b1, b2, b3, b4⟩ := standing_both hM hk hN kn FU FU (nI (2 ^ kn - 1)) co1 (fun _ => true) (Nat.le_refl _) (FU_pos (by omega)) (FU_pos (by omega)) (fun i hi => by rw [tb_nI hi, Nat.testBit_two_pow_sub_one, Bool.and_true]) (fun i hi => by rw [a1 i hi]; rfl)
  refine ⟨v', co', c', ?_, ?_, b3, b4⟩
  · unfold fX2_standing
    rw [hkn, bd1_s, nm, bd1_s, nm, ev, Int32.sub_eq_add_neg]
    exact b1
  · unfold fX10_layCounts
    exact a2.trans b2
/-- what a note asks of a value -/
def cnd (M : Nat) (row : Nat → Int32) (p : Nat) (ki ta bi : Nat → Int32) (j b : Nat) : Bool := (decide (nI (rg (smX M (ta j).toNatClampNeg row p (b : Int) (2 ^ M))) < bi j)) != (decide (ki j = 1))
/-- .. if it counts -/
def gdn (M : Nat) (row : Nat → Int32) (p : Nat) (ki ta bi : Nat → Int32) (c : Nat → Bool) (j b : Nat) : Bool := !(c j) || (decide (ki j = 2) || cnd M row p ki ta bi j b)
theorem valuesByNote_eq {M p j : Nat} (hM : isM M) (hp : p < 2 ^ M) (hj : j < 24) {pw row ki ta bi no : Nat → Int32} (hpw : ∀ j, j < 32 → pw j = nI (pwT M j)) (hN : NOT1 M ki ta bi no j) (h2 : ki j ≠ 2) : ∃ r, fX9_valuesByNote (nI (2 ^ M)) bi ki ta pw row (nI j) (nI p) = some r ∧ ∀ b, b < 32 → tb r b = (decide (b < 16) && cnd M row p ki ta bi j b) := by
  rcases hN with ⟨t, ht, n1, n2, n3, n4⟩ | ⟨k, v, e, q1, q2, q3, n1, n2, n3, n4, n5, n6⟩
  · exact absurd n1 h2
  · have hN2 := isM_pow hM
    have hP : ∀ n, n < 2 ^ M → (nI n = nI p ↔ n = p) := fun n hn => nI_eq (by omega) (by omega)
    have hcl : (ta j).toNatClampNeg = k := by rw [n2, nI_clamp (by omega)]
    have go : ∀ s0 : Int32, s0 = (if ki j = 1 then 1 else 0) → ∃ r, fX9_valuesByNote_46 (nI (2 ^ M)) bi pw (nI j) (nI p) (nI k) (nI (rg (smX M k row p 0 (2 ^ M)))) s0 = some r ∧ ∀ b, b < 32 → tb r b = (decide (b < 16) && cnd M row p ki ta bi j b) := by
      intro s0 hs0
      unfold fX9_valuesByNote_46
      have hh := loopX (fun n i (y : Int32) => fX9_valuesByNote_54 (nI (2 ^ M)) bi pw n (nI j) (nI p) (nI k) (nI (rg (smX M k row p 0 (2 ^ M)))) s0 y (nI i)) (fun i y => ∀ b, b < 32 → tb y b = (decide (b < i) && cnd M row p ki ta bi j b)) 16 (fun y => some y) ?_ ?_ 16 FU 0 0 (by omega) (FU_pos (by omega)) (fun b hb => by rw [show (0 : Int32) = nI 0 from rfl, tb_nI hb, Nat.zero_testBit, decide_eq_false (by omega), Bool.false_and])
      · obtain ⟨y, a1, a2⟩ := hh
        exact ⟨y, a2, a1⟩
      · intro n i y hi hJ
        have hB := binWith_c hM q1 hp hi hpw row
        have hcd : cnd M row p ki ta bi j i = ((decide (nI (rg (smX M k row p (i : Int) (2 ^ M))) < bi j)) != (decide (ki j = 1))) := by unfold cnd; rw [hcl]
        have st : ∀ s1 : Int32, s1 = (if nI (rg (smX M k row p (i : Int) (2 ^ M))) < bi j then 0 else 1) → ∃ s', (∀ b, b < 32 → tb s' b = (decide (b < i + 1) && cnd M row p ki ta bi j b)) ∧ fX9_valuesByNote_91 (nI (2 ^ M)) bi pw (fX9_valuesByNote_54 (nI (2 ^ M)) bi pw n) (nI j) (nI p) (nI k) (nI (rg (smX M k row p 0 (2 ^ M)))) s0 y (nI i) s1 = fX9_valuesByNote_54 (nI (2 ^ M)) bi pw n (nI j) (nI p) (nI k) (nI (rg (smX M k row p 0 (2 ^ M)))) s0 s' (nI (i + 1)) := by
          intro s1 hs1
          have hiff : (s1 = s0) ↔ cnd M row p ki ta bi j i = true := by
            rw [hcd, hs1, hs0]
            by_cases a : nI (rg (smX M k row p (i : Int) (2 ^ M))) < bi j
            · by_cases b : ki j = 1
              · rw [if_pos a, if_pos b, decide_eq_true a, decide_eq_true b]; decide
              · rw [if_pos a, if_neg b, decide_eq_true a, decide_eq_false b]; decide
            · by_cases b : ki j = 1
              · rw [if_neg a, if_pos b, decide_eq_false a, decide_eq_true b]; decide
              · rw [if_neg a, if_neg b, decide_eq_false a, decide_eq_false b]; decide
          unfold fX9_valuesByNote_91 fX9_valuesByNote_109
          by_cases hs : s1 = s0
          · refine ⟨y ||| ((1 : Int32) <<< (nI i &&& 31)), fun b hb => ?_, ?_⟩
            · rw [tb_or, tb_pow (by omega) hb, hJ b hb]
              by_cases e1 : b = i
              · subst e1
                rw [decide_eq_true rfl, hiff.mp hs, decide_eq_true (show b < b + 1 by omega), Bool.or_true]
                rfl
              · rw [decide_eq_false (show ¬ (i = b) from fun q => e1 q.symm), Bool.or_false]
                congr 1
                exact decide_eq_decide.mpr (by omega)
            · rw [if_pos hs]
              simp only [nm, nI_1]
          · refine ⟨y, fun b hb => ?_, ?_⟩
            · rw [hJ b hb]
              by_cases e1 : b = i
              · subst e1
                have hf : cnd M row p ki ta bi j b = false := Bool.eq_false_iff.mpr (fun q => hs (hiff.mpr q))
                rw [hf, Bool.and_false, Bool.and_false]
              · congr 1
                exact decide_eq_decide.mpr (by omega)
            · rw [if_neg hs]
              simp only [nm, nI_1]
        show ∃ s', _ ∧ fX9_valuesByNote_54 (nI (2 ^ M)) bi pw (n + 1) (nI j) (nI p) (nI k) (nI (rg (smX M k row p 0 (2 ^ M)))) s0 y (nI i) = _
        rw [fX9_valuesByNote_54.eq_2, if_neg (show ¬ ((16 : Int32) ≤ nI i) from nI_ge hi (by decide)), hB, bd1_s, gd_t (inb_nI hj (by decide)), nI_clamp (show j < 2 ^ 31 by omega)]
        by_cases a : nI (rg (smX M k row p (i : Int) (2 ^ M))) < bi j
        · rw [if_pos a]
          exact st 0 (by rw [if_pos a])
        · rw [if_neg a]
          exact st 1 (by rw [if_neg a])
      · intro n y hJ
        rw [fX9_valuesByNote_54.eq_2, if_pos (show (16 : Int32) ≤ nI 16 by decide)]
    unfold fX9_valuesByNote
    rw [gd_t (inb_nI hj (by decide)), nm, nI_clamp (by omega), n2, binWithout_eq hM q1 hpw hP row, bd1_s, gd_t (inb_nI hj (by decide))]
    by_cases b : ki j = 1
    · rw [if_pos b]; exact go 1 (by rw [if_pos b])
    · rw [if_neg b]; exact go 0 (by rw [if_neg b])
theorem valuesOf_c {M p n kn : Nat} (hM : isM M) (hp : p < 2 ^ M) (hn : n ≤ 24) {pw row ki ta bi no : Nat → Int32} (hpw : ∀ j, j < 32 → pw j = nI (pwT M j)) (hN : ∀ i, i < n → NOT1 M ki ta bi no i) {kb v : Int32} {c : Nat → Bool} (hst : fX2_standing (nI n) kb ki ta = some v) (hv : ∀ i, i < 32 → tb v i = (decide (i < kn) && c i)) :
    ∃ r, fX9_valuesOf (nI n) kb (nI (2 ^ M)) bi ki ta pw row (nI p) = some r ∧ ∀ b, b < 32 → (tb r b = true ↔ b < 16 ∧ ∀ i, i < n → i < kn → gdn M row p ki ta bi c i b = true) := by
  unfold fX9_valuesOf
  rw [hst, bd1_s]
  have hh := loopX (fun f i (y : Int32) => fX9_valuesOf_15 (nI n) (nI (2 ^ M)) bi ki ta pw row f (nI p) v y (nI i)) (fun i y => ∀ b, b < 32 → (tb y b = true ↔ b < 16 ∧ ∀ j, j < i → j < kn → gdn M row p ki ta bi c j b = true)) n (fun y => some y) ?_ ?_ n FU 0 65535 (by omega) (FU_pos (by omega)) (fun b hb => by
    rw [show (65535 : Int32) = nI (2 ^ 16 - 1) from rfl, tb_nI hb, Nat.testBit_two_pow_sub_one, decide_eq_true_eq]
    exact ⟨fun q => ⟨q, fun j hj => by omega⟩, fun q => q.1⟩)
  · obtain ⟨y, a1, a2⟩ := hh
    exact ⟨y, a2, a1⟩
  · intro f i y hi hJ
    have go : ∀ y' : Int32, (∀ b, b < 32 → (tb y' b = true ↔ tb y b = true ∧ (i < kn → gdn M row p ki ta bi c i b = true))) → ∃ s', (∀ b, b < 32 → (tb s' b = true ↔ b < 16 ∧ ∀ j, j < i + 1 → j < kn → gdn M row p ki ta bi c j b = true)) ∧ fX9_valuesOf_61 (nI n) (nI (2 ^ M)) bi ki ta pw row (fX9_valuesOf_15 (nI n) (nI (2 ^ M)) bi ki ta pw row f) (nI p) v y' (nI i) = fX9_valuesOf_15 (nI n) (nI (2 ^ M)) bi ki ta pw row f (nI p) v s' (nI (i + 1)) := fun y' hy => by
      refine ⟨y', fun b hb => ?_, ?_⟩
      · rw [hy b hb, hJ b hb]
        constructor
        · intro q
          refine ⟨q.1.1, fun j hj hj2 => ?_⟩
          by_cases e : j = i
          · subst e; exact q.2 hj2
          · exact q.1.2 j (by omega) hj2
        · intro q
          exact ⟨⟨q.1, fun j hj hj2 => q.2 j (by omega) hj2⟩, fun h => q.2 i (by omega) h⟩
      · unfold fX9_valuesOf_61
        simp only [nm, nI_1]
    show ∃ s', _ ∧ fX9_valuesOf_15 (nI n) (nI (2 ^ M)) bi ki ta pw row (f + 1) (nI p) v y (nI i) = _
    rw [fX9_valuesOf_15.eq_2, if_neg (nI_ge hi (by omega))]
    have hvi := hv i (by omega)
    by_cases hb : tb v i = true
    · rw [if_pos ((bit_t v (by omega)).mpr hb), gd_t (inb_nI (show i < 24 by omega) (by decide)), nI_clamp (by omega)]
      rw [hb] at hvi
      have hkn : i < kn ∧ c i = true := by
        have := hvi.symm
        rw [Bool.and_eq_true, decide_eq_true_eq] at this
        exact this
      by_cases hk2 : ki i = 2
      · rw [if_pos hk2]
        refine go y (fun b hb => ⟨fun q => ⟨q, fun _ => ?_⟩, fun q => q.1⟩)
        unfold gdn
        rw [decide_eq_true hk2, Bool.true_or, Bool.or_true]
      · rw [if_neg hk2]
        obtain ⟨r, r1, r2⟩ := valuesByNote_eq (row := row) hM hp (show i < 24 by omega) hpw (hN i hi) hk2
        rw [r1, bd1_s, nm]
        refine go (y &&& r) (fun b hb => ?_)
        rw [tb_and, Bool.and_eq_true, r2 b hb, Bool.and_eq_true, decide_eq_true_eq]
        have eg : gdn M row p ki ta bi c i b = cnd M row p ki ta bi i b := by
          unfold gdn
          rw [hkn.2, decide_eq_false hk2, Bool.not_true, Bool.false_or, Bool.false_or]
        rw [eg]
        constructor
        · intro q
          exact ⟨q.1, fun _ => q.2.2⟩
        · intro q
          exact ⟨q.1, ((hJ b hb).mp q.1).1, q.2 hkn.1⟩
    · rw [if_neg (fun q => hb ((bit_t v (by omega)).mp q))]
      refine go y (fun b hb2 => ⟨fun q => ⟨q, fun hk => ?_⟩, fun q => q.1⟩)
      rw [Bool.not_eq_true] at hb
      rw [hb, decide_eq_true hk, Bool.true_and] at hvi
      unfold gdn
      rw [← hvi]
      rfl
  · intro f y hJ
    rw [fX9_valuesOf_15.eq_2, if_pos (nI_le (Nat.le_refl _) (by omega))]
