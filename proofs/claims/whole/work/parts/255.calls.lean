/-! ===== tokens of a text ===== -/
/-- words: where each begins, how long it is -/
def frW (k : Nat) : Nat := [0, 5, 10, 16, 22, 27, 32, 37, 42, 47, 52].getD k 52
def wlW (k : Nat) : Nat := [4, 4, 5, 5, 4, 4, 4, 4, 4, 4].getD k 4
def isLt (x : Int32) : Prop := ¬ x < 97 ∧ ¬ (122 : Int32) < x
theorem wdC_t : (List.range 10).all (fun k => decide (wlW k ≤ 5) && (decide (1 ≤ wlW k) && (decide (frW (k + 1) = frW k + wlW k + 1) && (decide (frW k + wlW k < 52) && (decide (mX10_52 (frW k + wlW k) = 32) && (((List.range 5).all fun i => !decide (i < wlW k) || decide (¬ (mX10_52 (frW k + i) = 32))) && ((List.range 5).all fun i => decide (chr (nI (5 * k + i)) = if i < wlW k then mX10_52 (frW k + i) else 32)))))))) = true := by decide +kernel
theorem wd_x {k : Nat} (hk : k < 10) : wlW k ≤ 5 ∧ 1 ≤ wlW k ∧ frW (k + 1) = frW k + wlW k + 1 ∧ frW k + wlW k < 52 ∧ mX10_52 (frW k + wlW k) = 32 ∧ (∀ i, i < wlW k → ¬ (mX10_52 (frW k + i) = 32)) ∧ ∀ i, i < 5 → chr (nI (5 * k + i)) = if i < wlW k then mX10_52 (frW k + i) else 32 := by
  have h := all_x wdC_t hk
  simp only [Bool.and_eq_true, decide_eq_true_eq] at h
  refine ⟨h.1, h.2.1, h.2.2.1, h.2.2.2.1, h.2.2.2.2.1, fun i hi => ?_, fun i hi => of_decide_eq_true (all_x h.2.2.2.2.2.2 hi)⟩
  have := all_x h.2.2.2.2.2.1 (show i < 5 by omega)
  rw [decide_eq_true hi, Bool.not_true, Bool.false_or, decide_eq_true_eq] at this
  exact this
/-- a word stands from s up to a -/
def MTC (t : Nat → Int32) (s a k : Nat) : Prop := a - s = wlW k ∧ ∀ i, i < wlW k → t (s + i) = mX10_52 (frW k + i)
theorem isWordHere_eq {t : Nat → Int32} {s a k : Nat} (hs : s < a) (ha : a ≤ 700) (hk : k < 10) (hL : ∀ j, s ≤ j → j < a → isLt (t j)) : ∃ r, fX4_isWordHere (nI a) (nI s) t (nI (5 * k)) = some r ∧ ((r = 1 ∧ MTC t s a k) ∨ (r = 0 ∧ ¬ MTC t s a k)) := by
  obtain ⟨w1, w2, w3, w4, w5, w6, w7⟩ := wd_x hk
  have h32 : ∀ j, s ≤ j → j < a → t j ≠ 32 := fun j h1 h2 q => by
    have := (hL j h1 h2).1
    rw [q] at this
    exact this (by decide)
  unfold fX4_isWordHere
  rw [pk_sub (by omega)]
  by_cases h5 : a - s ≤ 5
  · rw [if_pos (show nI (a - s) ≤ 5 from nI_le (b := 5) h5 (by decide))]
    have key : ∀ d n i, i + d = 5 → d < n → (∀ j, j < i → (if s + j < a then t (s + j) else 32) = chr (nI (5 * k + j))) → ∃ r, fX4_isWordHere_17 (nI a) (nI s) t n (nI (5 * k)) (nI i) = some r ∧ ((r = 1 ∧ ∀ j, j < 5 → (if s + j < a then t (s + j) else 32) = chr (nI (5 * k + j))) ∨ (r = 0 ∧ ¬ ∀ j, j < 5 → (if s + j < a then t (s + j) else 32) = chr (nI (5 * k + j)))) := by
      intro d
      induction d with
      | zero =>
        intro n i h1 h2 hJ
        obtain ⟨n, rfl⟩ : ∃ m, n = m + 1 := ⟨n - 1, by omega⟩
        obtain rfl : i = 5 := by omega
        rw [fX4_isWordHere_17.eq_2, if_pos (show (5 : Int32) ≤ nI 5 by decide)]
        exact ⟨1, rfl, Or.inl ⟨rfl, hJ⟩⟩
      | succ d ih =>
        intro n i h1 h2 hJ
        obtain ⟨n, rfl⟩ : ∃ m, n = m + 1 := ⟨n - 1, by omega⟩
        have e48 : ∀ s0 : Int32, s0 = (if s + i < a then t (s + i) else 32) → ∃ r, fX4_isWordHere_48 (nI a) (nI s) t (fX4_isWordHere_17 (nI a) (nI s) t n) (nI (5 * k)) (nI i) s0 = some r ∧ ((r = 1 ∧ ∀ j, j < 5 → (if s + j < a then t (s + j) else 32) = chr (nI (5 * k + j))) ∨ (r = 0 ∧ ¬ ∀ j, j < 5 → (if s + j < a then t (s + j) else 32) = chr (nI (5 * k + j)))) := by
          intro s0 hs0
          unfold fX4_isWordHere_48
          rw [nm, nI_add, gd_t (inb_nI (show 5 * k + i < 50 by omega) (by decide)), hs0]
          by_cases he : (if s + i < a then t (s + i) else 32) = chr (nI (5 * k + i))
          · rw [if_pos he, nm, nI_1]
            exact ih n (i + 1) (by omega) (by omega) (fun j hj => by
              by_cases e : j = i
              · subst e; exact he
              · exact hJ j (by omega))
          · rw [if_neg he]
            exact ⟨0, rfl, Or.inr ⟨rfl, fun q => he (q i (by omega))⟩⟩
        rw [fX4_isWordHere_17.eq_2, if_neg (show ¬ ((5 : Int32) ≤ nI i) from nI_ge (b := 5) (by omega) (by decide)), nI_add]
        by_cases hi : s + i < a
        · rw [if_neg (nI_ge hi (by omega)), nm, gd_t (inb_nI (show s + i < 700 by omega) (by decide)), nI_clamp (by omega)]
          exact e48 _ (by rw [if_pos hi])
        · rw [if_pos (nI_le (by omega) (by omega))]
          exact e48 _ (by rw [if_neg hi])
    obtain ⟨r, r1, r2⟩ := key 5 FU 0 (by omega) (FU_pos (by omega)) (fun j hj => by omega)
    have hiff : (∀ j, j < 5 → (if s + j < a then t (s + j) else 32) = chr (nI (5 * k + j))) ↔ MTC t s a k := by
      constructor
      · intro q
        have hlen : a - s = wlW k := by
          by_cases hlt : a - s < wlW k
          · have := q (a - s) (by omega)
            rw [if_neg (by omega), w7 _ (by omega), if_pos hlt] at this
            exact absurd this.symm (w6 _ hlt)
          · by_cases hgt : wlW k < a - s
            · have := q (wlW k) (by omega)
              rw [if_pos (by omega), w7 _ (by omega), if_neg (by omega)] at this
              exact absurd this (h32 _ (by omega) (by omega))
            · omega
        refine ⟨hlen, fun i hi => ?_⟩
        have := q i (by omega)
        rw [if_pos (by omega), w7 _ (by omega), if_pos hi] at this
        exact this
      · intro q j hj
        rw [w7 j hj]
        by_cases hi : j < wlW k
        · rw [if_pos (by have := q.1; omega), if_pos hi]
          exact q.2 j hi
        · rw [if_neg (by have := q.1; omega), if_neg hi]
    refine ⟨r, r1, ?_⟩
    rcases r2 with ⟨a1, a2⟩ | ⟨a1, a2⟩
    · exact Or.inl ⟨a1, hiff.mp a2⟩
    · exact Or.inr ⟨a1, fun q => a2 (hiff.mpr q)⟩
  · rw [if_neg (show ¬ (nI (a - s) ≤ 5) from nI_ge (a := 5) (by omega) (by omega))]
    exact ⟨0, rfl, Or.inr ⟨rfl, fun q => by have := q.1; omega⟩⟩
theorem wordAt_m {t : Nat → Int32} {s a k : Nat} (hs : s < a) (ha : a ≤ 700) (hk : k < 10) (n : Nat) : (MTC t s a k ∧ fX10_wordAt_5 t mX10_52 (n + 1) (nI s) (nI a) (nI k) (nI (frW k)) = some (nI k)) ∨ (¬ MTC t s a k ∧ fX10_wordAt_5 t mX10_52 (n + 1) (nI s) (nI a) (nI k) (nI (frW k)) = fX10_wordAt_5 t mX10_52 n (nI s) (nI a) (nI (k + 1)) (nI (frW (k + 1)))) := by
  obtain ⟨w1, w2, w3, w4, w5, w6, w7⟩ := wd_x hk
  have hfr : frW k < 52 := by omega
  obtain ⟨K, eK⟩ : ∃ K, K = fX10_wordAt_5 t mX10_52 n := ⟨_, rfl⟩
  have e104 : ∀ v6 : Int32, fX10_wordAt_104 t mX10_52 K (nI s) (nI a) (nI k) (nI (frW k)) (nI (wlW k)) v6 = if v6 = 0 then K (nI s) (nI a) (nI (k + 1)) (nI (frW (k + 1))) else some (nI k) := by
    intro v6
    unfold fX10_wordAt_104
    rw [nm, nm, nI_1, nI_1, nI_add, w3, Nat.add_assoc]
  have e57 : ∀ d f i, i + d = wlW k → d < f → (∀ j, j < i → t (s + j) = mX10_52 (frW k + j)) → a - s = wlW k → ((∀ j, j < wlW k → t (s + j) = mX10_52 (frW k + j)) ∧ fX10_wordAt_57 t mX10_52 K f (nI s) (nI a) (nI k) (nI (frW k)) (nI (wlW k)) 1 (nI i) = some (nI k)) ∨ ((¬ ∀ j, j < wlW k → t (s + j) = mX10_52 (frW k + j)) ∧ fX10_wordAt_57 t mX10_52 K f (nI s) (nI a) (nI k) (nI (frW k)) (nI (wlW k)) 1 (nI i) = K (nI s) (nI a) (nI (k + 1)) (nI (frW (k + 1)))) := by
    intro d
    induction d with
    | zero =>
      intro f i h1 h2 hJ hl
      obtain ⟨f, rfl⟩ : ∃ m, f = m + 1 := ⟨f - 1, by omega⟩
      obtain rfl : i = wlW k := by omega
      left
      refine ⟨hJ, ?_⟩
      rw [fX10_wordAt_57.eq_2, if_pos (nI_le (Nat.le_refl _) (by omega)), e104, if_neg (show ¬ ((1 : Int32) = 0) by decide)]
    | succ d ih =>
      intro f i h1 h2 hJ hl
      obtain ⟨f, rfl⟩ : ∃ m, f = m + 1 := ⟨f - 1, by omega⟩
      rw [fX10_wordAt_57.eq_2, if_neg (nI_ge (by omega) (by omega)), if_neg (show ¬ ((1 : Int32) = 0) by decide), nm, nI_add, gd_t (inb_nI (show frW k + i < 52 by omega) (by decide)), nm, nI_add, gd_t (inb_nI (show s + i < 700 by omega) (by decide)), nI_clamp (by omega), nI_clamp (by omega)]
      unfold fX10_wordAt_96
      by_cases he : mX10_52 (frW k + i) = t (s + i)
      · rw [if_pos he, nm, nI_1]
        exact ih f (i + 1) (by omega) (by omega) (fun j hj => by
          by_cases e : j = i
          · subst e; exact he.symm
          · exact hJ j (by omega)) hl
      · rw [if_neg he, nm, nI_1]
        right
        refine ⟨fun q => he (q i (by omega)).symm, ?_⟩
        obtain ⟨f, rfl⟩ : ∃ m, f = m + 1 := ⟨f - 1, by omega⟩
        rw [fX10_wordAt_57.eq_2]
        by_cases hl2 : wlW k ≤ i + 1
        · rw [if_pos (nI_le hl2 (by omega)), e104, if_pos rfl]
        · rw [if_neg (nI_ge (by omega) (by omega)), if_pos rfl, e104, if_pos rfl]
  have e18 : ∀ d f i, i + d = wlW k → d < f → fX10_wordAt_18 t mX10_52 K f (nI s) (nI a) (nI k) (nI (frW k)) (nI i) = fX10_wordAt_39 t mX10_52 K (nI s) (nI a) (nI k) (nI (frW k)) (nI (wlW k)) := by
    intro d
    induction d with
    | zero =>
      intro f i h1 h2
      obtain ⟨f, rfl⟩ : ∃ m, f = m + 1 := ⟨f - 1, by omega⟩
      obtain rfl : i = wlW k := by omega
      rw [fX10_wordAt_18.eq_2, nm, nI_add, gd_t (inb_nI w4 (by decide)), nI_clamp (by omega), if_pos w5]
    | succ d ih =>
      intro f i h1 h2
      obtain ⟨f, rfl⟩ : ∃ m, f = m + 1 := ⟨f - 1, by omega⟩
      rw [fX10_wordAt_18.eq_2, nm, nI_add, gd_t (inb_nI (show frW k + i < 52 by omega) (by decide)), nI_clamp (by omega), if_neg (w6 i (by omega)), nm, nI_1]
      exact ih f (i + 1) (by omega) (by omega)
  have h5 : fX10_wordAt_5 t mX10_52 (n + 1) (nI s) (nI a) (nI k) (nI (frW k)) = fX10_wordAt_39 t mX10_52 K (nI s) (nI a) (nI k) (nI (frW k)) (nI (wlW k)) := by
    rw [fX10_wordAt_5.eq_2, if_neg (show ¬ ((52 : Int32) ≤ nI (frW k)) from nI_ge (b := 52) hfr (by decide)), ← eK]
    exact e18 (wlW k) FU 0 (by omega) (FU_pos (by omega))
  rw [h5, ← eK]
  unfold fX10_wordAt_39 fX10_wordAt_52
  rw [pk_sub (by omega)]
  by_cases hl : a - s = wlW k
  · rw [if_pos (by rw [hl])]
    rcases e57 (wlW k) FU 0 (by omega) (FU_pos (by omega)) (fun j hj => by omega) hl with ⟨q1, q2⟩ | ⟨q1, q2⟩
    · exact Or.inl ⟨⟨hl, q1⟩, q2⟩
    · exact Or.inr ⟨fun q => q1 q.2, q2⟩
  · rw [if_neg (fun q => hl ((nI_eq (by omega) (by omega)).mp q).symm)]
    right
    refine ⟨fun q => hl q.1, ?_⟩
    rw [show FU = 4095 + 1 from rfl, fX10_wordAt_57.eq_2, if_neg (show ¬ (nI (wlW k) ≤ 0) from nI_ge (a := 0) (by omega) (by omega)), if_pos rfl, e104, if_pos rfl]
theorem MTC_c {t t2 : Nat → Int32} {s a k : Nat} (hT : ∀ j, s ≤ j → j < a → t j = t2 j) (h : MTC t s a k) : MTC t2 s a k := ⟨h.1, fun i hi => by
  rw [← hT (s + i) (by omega) (by have := h.1; omega)]; exact h.2 i hi⟩
theorem word_both {t t2 : Nat → Int32} {s a : Nat} (hs : s < a) (ha : a ≤ 700) (hT : ∀ j, s ≤ j → j < a → t j = t2 j) (hL : ∀ j, s ≤ j → j < a → isLt (t j)) : ∃ w, fX4_wordHere (nI a) (nI s) t = some w ∧ fX10_wordAt t2 mX10_52 (nI s) (nI a) = some w ∧ (w = -1 ∨ ∃ k, k < 10 ∧ w = nI k) := by
  have key : ∀ d n m k, k + d = 10 → d < n → d < m → ∃ w, fX4_wordHere_2 (nI a) (nI s) t n (nI k) = some w ∧ fX10_wordAt_5 t2 mX10_52 m (nI s) (nI a) (nI k) (nI (frW k)) = some w ∧ (w = -1 ∨ ∃ k, k < 10 ∧ w = nI k) := by
    intro d
    induction d with
    | zero =>
      intro n m k h1 h2 h3
      obtain ⟨n, rfl⟩ : ∃ m, n = m + 1 := ⟨n - 1, by omega⟩
      obtain ⟨m, rfl⟩ : ∃ m', m = m' + 1 := ⟨m - 1, by omega⟩
      obtain rfl : k = 10 := by omega
      rw [fX4_wordHere_2.eq_2, fX10_wordAt_5.eq_2, if_pos (show (10 : Int32) ≤ nI 10 by decide), if_pos (show (52 : Int32) ≤ nI (frW 10) by decide)]
      exact ⟨-1, rfl, rfl, Or.inl rfl⟩
    | succ d ih =>
      intro n m k h1 h2 h3
      obtain ⟨n, rfl⟩ : ∃ m, n = m + 1 := ⟨n - 1, by omega⟩
      obtain ⟨m, rfl⟩ : ∃ m', m = m' + 1 := ⟨m - 1, by omega⟩
      obtain ⟨r, r1, r2⟩ := isWordHere_eq hs ha (show k < 10 by omega) hL
      rw [fX4_wordHere_2.eq_2, if_neg (show ¬ ((10 : Int32) ≤ nI k) from nI_ge (b := 10) (by omega) (by decide)), show nI k * (5 : Int32) = nI (5 * k) from by rw [show (5 : Int32) = nI 5 from rfl, pk_mul, Nat.mul_comm], r1, bd1_s]
      rcases wordAt_m (t := t2) hs ha (show k < 10 by omega) m with ⟨q1, q2⟩ | ⟨q1, q2⟩
      · rcases r2 with ⟨rfl, a2⟩ | ⟨rfl, a2⟩
        · rw [q2, if_neg (show ¬ ((1 : Int32) = 0) by decide)]
          exact ⟨nI k, rfl, rfl, Or.inr ⟨k, by omega, rfl⟩⟩
        · exact absurd (MTC_c (fun j h1 h2 => (hT j h1 h2).symm) q1) a2
      · rcases r2 with ⟨rfl, a2⟩ | ⟨rfl, a2⟩
        · exact absurd (MTC_c hT a2) q1
        · rw [q2, if_pos rfl, nm, nI_1]
          exact ih n m (k + 1) (by omega) (by omega) (by omega)
  exact key 10 FU FU 0 (by omega) (FU_pos (by omega)) (FU_pos (by omega))
