/-! ===== a token read by both ===== -/
theorem isLetter_x (x : Int32) : (isLt x ∧ fX4_isLetter x = some 1) ∨ (¬ isLt x ∧ fX4_isLetter x = some 0) := by
  unfold fX4_isLetter isLt
  by_cases h1 : x < 97
  · exact Or.inr ⟨fun q => q.1 h1, by rw [if_pos h1]⟩
  · by_cases h2 : (122 : Int32) < x
    · exact Or.inr ⟨fun q => q.2 h2, by rw [if_neg h1, if_pos h2]⟩
    · exact Or.inl ⟨⟨h1, h2⟩, by rw [if_neg h1, if_neg h2]⟩
def isDg (x : Int32) : Prop := ¬ x < 48 ∧ ¬ (57 : Int32) < x
theorem isDigit_x (x : Int32) : (isDg x ∧ fX4_isDigit x = some 1) ∨ (¬ isDg x ∧ fX4_isDigit x = some 0) := by
  unfold fX4_isDigit isDg
  by_cases h1 : x < 48
  · exact Or.inr ⟨fun q => q.1 h1, by rw [if_pos h1]⟩
  · by_cases h2 : (57 : Int32) < x
    · exact Or.inr ⟨fun q => q.2 h2, by rw [if_neg h1, if_pos h2]⟩
    · exact Or.inl ⟨⟨h1, h2⟩, by rw [if_neg h1, if_neg h2]⟩
theorem isSmall_m {n a : Nat} (h : a < n) (hn : n ≤ 700) (t : Nat → Int32) : fX10_isSmall (nI n) t (nI a) = fX4_isLetter (t a) := by
  unfold fX10_isSmall fX4_isLetter
  rw [if_neg (nI_ge h (by omega)), gd_t (inb_nI (show a < 700 by omega) (by decide)), nI_clamp (by omega), gd_t (inb_nI (show a < 700 by omega) (by decide))]
theorem isDigit_m {n a : Nat} (h : a < n) (hn : n ≤ 700) (t : Nat → Int32) : fX10_isDigit (nI n) t (nI a) = fX4_isDigit (t a) := by
  unfold fX10_isDigit fX4_isDigit
  rw [if_neg (nI_ge h (by omega)), gd_t (inb_nI (show a < 700 by omega) (by decide)), nI_clamp (by omega), gd_t (inb_nI (show a < 700 by omega) (by decide))]
theorem isSmall_e {n : Nat} (hn : n ≤ 700) (t : Nat → Int32) : fX10_isSmall (nI n) t (nI n) = some 0 := by
  unfold fX10_isSmall
  rw [if_pos (nI_le (Nat.le_refl _) (by omega))]
theorem isDigit_e {n : Nat} (hn : n ≤ 700) (t : Nat → Int32) : fX10_isDigit (nI n) t (nI n) = some 0 := by
  unfold fX10_isDigit
  rw [if_pos (nI_le (Nat.le_refl _) (by omega))]
/-- a token, as both have it -/
def TK (n a0 : Nat) (t : Nat → Int32) (place kind start number next mkind which mat : Int32) : Prop :=
  ∃ s a, a0 ≤ s ∧ s ≤ a ∧ a ≤ n ∧ place = nI a ∧ next = nI a ∧ start = nI s ∧ mat = nI s ∧
    ((kind = 0 ∧ mkind = 0 ∧ s = n) ∨
     (s < a ∧ kind = 1 ∧ ∃ w, fX4_wordHere (nI a) (nI s) t = some w ∧ ((w = -1 ∧ mkind = 4) ∨ ∃ k, k < 10 ∧ w = nI k ∧ mkind = 1 ∧ which = nI k)) ∨
     (s < a ∧ kind = 2 ∧ mkind = 2 ∧ ∃ v, v < 1000000 ∧ which = nI v ∧ number = nI (if v ≤ 99999 then v else 100000)) ∨
     (s < a ∧ kind = 3 ∧ mkind = 3) ∨ (s < a ∧ kind = 4 ∧ mkind = 4))
theorem blanks_both {n : Nat} (hn : n ≤ 700) {t t2 : Nat → Int32} (hT : ∀ j, j < n → t j = t2 j) (k0 s0 n0 km w0 at0 : Int32) : ∀ d f g a, a + d = n → d < f → d < g → ∃ s, a ≤ s ∧ s ≤ n ∧ fX4_nextToken_0 (nI n) t f (nI a) k0 s0 n0 = fX4_nextToken_46 (nI n) t (nI s) k0 s0 n0 ∧ fX10_token_0 (nI n) t2 mX10_52 g (nI a) km w0 at0 = fX10_token_52 (nI n) t2 mX10_52 (nI s) km w0 at0 := by
  intro d
  induction d with
  | zero =>
    intro f g a h1 h2 h3
    obtain ⟨f, rfl⟩ : ∃ m, f = m + 1 := ⟨f - 1, by omega⟩
    obtain ⟨g, rfl⟩ : ∃ m, g = m + 1 := ⟨g - 1, by omega⟩
    refine ⟨a, Nat.le_refl _, by omega, ?_, ?_⟩
    · rw [fX4_nextToken_0.eq_2, if_pos (nI_le (by omega) (by omega))]
    · rw [fX10_token_0.eq_2, if_pos (nI_le (by omega) (by omega))]
  | succ d ih =>
    intro f g a h1 h2 h3
    obtain ⟨f, rfl⟩ : ∃ m, f = m + 1 := ⟨f - 1, by omega⟩
    obtain ⟨g, rfl⟩ : ∃ m, g = m + 1 := ⟨g - 1, by omega⟩
    obtain ⟨s, i1, i2, i3, i4⟩ := ih f g (a + 1) (by omega) (by omega) (by omega)
    have c1 : fX4_nextToken_33 (nI n) t (fX4_nextToken_0 (nI n) t f) (nI a) k0 s0 n0 = fX4_nextToken_46 (nI n) t (nI s) k0 s0 n0 := by
      unfold fX4_nextToken_33
      rw [nm, nI_1]
      exact i3
    have c2 : fX10_token_39 (nI n) t2 mX10_52 (fX10_token_0 (nI n) t2 mX10_52 g) (nI a) km w0 at0 = fX10_token_52 (nI n) t2 mX10_52 (nI s) km w0 at0 := by
      unfold fX10_token_39
      rw [nm, nI_1]
      exact i4
    rw [fX4_nextToken_0.eq_2, fX10_token_0.eq_2, if_neg (nI_ge (by omega) (by omega)), if_neg (nI_ge (by omega) (by omega))]
    simp only [gd_t (inb_nI (show a < 700 by omega) (by decide)), nI_clamp (show a < 2 ^ 31 by omega)]
    rw [← hT a (by omega)]
    by_cases h10 : t a = 10
    · rw [if_pos h10, if_pos h10]
      exact ⟨s, by omega, i2, c1, c2⟩
    · rw [if_neg h10, if_neg h10]
      by_cases h32 : t a = 32
      · rw [if_pos h32, if_pos h32]
        exact ⟨s, by omega, i2, c1, c2⟩
      · rw [if_neg h32, if_neg h32]
        exact ⟨a, Nat.le_refl _, by omega, rfl, rfl⟩
theorem letters_both {n : Nat} (hn : n ≤ 700) {t t2 : Nat → Int32} (hT : ∀ j, j < n → t j = t2 j) (k0 s0 n0 km w0 at0 : Int32) : ∀ d f g a, a + d = n → d < f → d < g → ∃ a', a ≤ a' ∧ a' ≤ n ∧ (∀ j, a ≤ j → j < a' → isLt (t j)) ∧ (a' = n ∨ ¬ isLt (t a')) ∧ fX4_nextToken_90 (nI n) t f (nI a) k0 s0 n0 = some (nI a', k0, s0, n0) ∧ fX10_token_90 (nI n) t2 mX10_52 g (nI a) km w0 at0 = fX10_token_114 t2 mX10_52 (nI a') km w0 at0 := by
  intro d
  induction d with
  | zero =>
    intro f g a h1 h2 h3
    obtain ⟨f, rfl⟩ : ∃ m, f = m + 1 := ⟨f - 1, by omega⟩
    obtain ⟨g, rfl⟩ : ∃ m, g = m + 1 := ⟨g - 1, by omega⟩
    obtain rfl : a = n := by omega
    refine ⟨a, Nat.le_refl _, Nat.le_refl _, fun j h1 h2 => by omega, Or.inl rfl, ?_, ?_⟩
    · rw [fX4_nextToken_90.eq_2, if_pos (nI_le (by omega) (by omega))]
    · rw [fX10_token_90.eq_2, isSmall_e hn, bd1_s, if_pos rfl]
  | succ d ih =>
    intro f g a h1 h2 h3
    obtain ⟨f, rfl⟩ : ∃ m, f = m + 1 := ⟨f - 1, by omega⟩
    obtain ⟨g, rfl⟩ : ∃ m, g = m + 1 := ⟨g - 1, by omega⟩
    obtain ⟨a', i1, i2, i3, i4, i5, i6⟩ := ih f g (a + 1) (by omega) (by omega) (by omega)
    rw [fX4_nextToken_90.eq_2, fX10_token_90.eq_2, if_neg (nI_ge (by omega) (by omega)), gd_t (inb_nI (show a < 700 by omega) (by decide)), nI_clamp (by omega), isSmall_m (by omega) hn, ← hT a (by omega)]
    rcases isLetter_x (t a) with ⟨q1, q2⟩ | ⟨q1, q2⟩
    · rw [q2, bd1_s, bd1_s, if_neg (show ¬ ((1 : Int32) = 0) by decide), if_neg (show ¬ ((1 : Int32) = 0) by decide), nm, nm, nI_1]
      refine ⟨a', by omega, i2, fun j h1 h2 => ?_, i4, i5, i6⟩
      by_cases e : j = a
      · subst e; exact q1
      · exact i3 j (by omega) h2
    · rw [q2, bd1_s, bd1_s, if_pos rfl, if_pos rfl]
      exact ⟨a, Nat.le_refl _, by omega, fun j h1 h2 => by omega, Or.inr q1, rfl, rfl⟩
theorem digits_both {n : Nat} (hn : n ≤ 700) {t t2 : Nat → Int32} (hT : ∀ j, j < n → t j = t2 j) (km at0 : Int32) : ∀ d f g a v, a + d = n → d < f → d < g → v < 1000000 → ∃ a' v', a ≤ a' ∧ a' ≤ n ∧ v' < 1000000 ∧ (a < n → isDg (t a) → a < a') ∧ fX4_readNumber_5 (nI n) t f (nI a) (nI (if v ≤ 99999 then v else 100000)) = some (nI a', nI (if v' ≤ 99999 then v' else 100000)) ∧ fX10_token_170 (nI n) t2 g (nI a) km (nI v) at0 = some (nI a', km, nI v', at0) := by
  intro d
  induction d with
  | zero =>
    intro f g a v h1 h2 h3 hv
    obtain ⟨f, rfl⟩ : ∃ m, f = m + 1 := ⟨f - 1, by omega⟩
    obtain ⟨g, rfl⟩ : ∃ m, g = m + 1 := ⟨g - 1, by omega⟩
    obtain rfl : a = n := by omega
    refine ⟨a, v, Nat.le_refl _, Nat.le_refl _, hv, fun q => by omega, ?_, ?_⟩
    · rw [fX4_readNumber_5.eq_2, if_pos (nI_le (by omega) (by omega))]
    · rw [fX10_token_170.eq_2, isDigit_e hn, bd1_s, if_pos rfl]
  | succ d ih =>
    intro f g a v h1 h2 h3 hv
    obtain ⟨f, rfl⟩ : ∃ m, f = m + 1 := ⟨f - 1, by omega⟩
    obtain ⟨g, rfl⟩ : ∃ m, g = m + 1 := ⟨g - 1, by omega⟩
    rw [fX4_readNumber_5.eq_2, fX10_token_170.eq_2, if_neg (nI_ge (by omega) (by omega)), isDigit_m (by omega) hn, ← hT a (by omega)]
    simp only [gd_t (inb_nI (show a < 700 by omega) (by decide)), nI_clamp (show a < 2 ^ 31 by omega)]
    rw [← hT a (by omega)]
    rcases isDigit_x (t a) with ⟨q1, q2⟩ | ⟨q1, q2⟩
    · rw [q2, bd1_s, bd1_s, if_neg (show ¬ ((1 : Int32) = 0) by decide), if_neg (show ¬ ((1 : Int32) = 0) by decide)]
      obtain ⟨c, hc1, hc2, hc⟩ : ∃ c, 48 ≤ c ∧ c ≤ 57 ∧ t a = nI c := by
        obtain ⟨u1, u2⟩ := q1
        rw [Int32.lt_iff_toInt_lt, show (48 : Int32).toInt = 48 from rfl] at u1
        rw [Int32.lt_iff_toInt_lt, show (57 : Int32).toInt = 57 from rfl] at u2
        exact ⟨(t a).toInt.toNat, by omega, by omega, nI_toI (by omega) (by omega)⟩
      unfold fX10_token_218
      rw [hc]
      by_cases hv9 : v ≤ 99999
      · have ec : (((nI (if v ≤ 99999 then v else 100000) * (10 : Int32)) + nI c) - (48 : Int32)) = nI (10 * v + c - 48) := by
          rw [if_pos hv9, show (10 : Int32) = nI 10 from rfl, pk_mul, nI_add, show (48 : Int32) = nI 48 from rfl, pk_sub (by omega), Nat.mul_comm]
        have em : ((10 : Int32) * nI v + nI c) - (48 : Int32) = nI (10 * v + c - 48) := by
          rw [show (10 : Int32) = nI 10 from rfl, pk_mul, nI_add, show (48 : Int32) = nI 48 from rfl, pk_sub (by omega)]
        have e3 : (if nI (10 * v + c - 48) < (100000 : Int32) then nI (10 * v + c - 48) else (100000 : Int32)) = nI (if 10 * v + c - 48 ≤ 99999 then 10 * v + c - 48 else 100000) := by
          by_cases h9 : 10 * v + c - 48 ≤ 99999
          · rw [if_pos (show nI (10 * v + c - 48) < 100000 from nI_lt (b := 100000) (by omega) (by decide)), if_pos h9]
          · rw [if_neg (show ¬ (nI (10 * v + c - 48) < 100000) from nI_nlt (b := 100000) (by omega) (by omega)), if_neg h9]
            rfl
        obtain ⟨a', v', i1, i2, i3, i4, i5, i6⟩ := ih f g (a + 1) (10 * v + c - 48) (by omega) (by omega) (by omega) (by omega)
        rw [ec, nm, nm, nm, e3, if_pos (show nI v ≤ 99999 from nI_le (b := 99999) hv9 (by decide)), em, nI_1]
        exact ⟨a', v', by omega, i2, i3, fun _ _ => by omega, i5, i6⟩
      · have ec : (((nI (if v ≤ 99999 then v else 100000) * (10 : Int32)) + nI c) - (48 : Int32)) = nI (1000000 + c - 48) := by
          rw [if_neg hv9, show (10 : Int32) = nI 10 from rfl, pk_mul, nI_add, show (48 : Int32) = nI 48 from rfl, pk_sub (by omega)]
        have e3 : (if nI (1000000 + c - 48) < (100000 : Int32) then nI (1000000 + c - 48) else (100000 : Int32)) = nI (if v ≤ 99999 then v else 100000) := by
          rw [if_neg (show ¬ (nI (1000000 + c - 48) < 100000) from nI_nlt (b := 100000) (by omega) (by omega)), if_neg hv9]
          rfl
        obtain ⟨a', v', i1, i2, i3, i4, i5, i6⟩ := ih f g (a + 1) v (by omega) (by omega) (by omega) hv
        rw [ec, nm, nm, nm, e3, if_neg (show ¬ (nI v ≤ 99999) from nI_ge (a := 99999) (by omega) (by omega)), nI_1]
        exact ⟨a', v', by omega, i2, i3, fun _ _ => by omega, i5, i6⟩
    · rw [q2, bd1_s, bd1_s, if_pos rfl, if_pos rfl]
      exact ⟨a, v, Nat.le_refl _, by omega, hv, fun _ q => absurd q q1, rfl, rfl⟩
theorem token_both {n a0 : Nat} (hn : n ≤ 700) (ha : a0 ≤ n) {t t2 : Nat → Int32} (hT : ∀ j, j < n → t j = t2 j) (k0 s0 n0 km w0 at0 : Int32) :
    ∃ place kind start number next mkind which mat, fX4_nextToken (nI n) (nI a0) k0 s0 n0 t = some (place, kind, start, number) ∧ fX10_token (nI n) (nI a0) km w0 at0 t2 mX10_52 = some (next, mkind, which, mat) ∧ TK n a0 t place kind start number next mkind which mat := by
  obtain ⟨s, s1, s2, s3, s4⟩ := blanks_both hn hT k0 s0 n0 km w0 at0 (n - a0) FU FU a0 (by omega) (FU_pos (by omega)) (FU_pos (by omega))
  have f1 : fX4_nextToken (nI n) (nI a0) k0 s0 n0 t = fX4_nextToken_46 (nI n) t (nI s) k0 s0 n0 := s3
  have f2 : fX10_token (nI n) (nI a0) km w0 at0 t2 mX10_52 = fX10_token_52 (nI n) t2 mX10_52 (nI s) km w0 at0 := s4
  rw [f1, f2]
  unfold fX4_nextToken_46 fX10_token_52
  by_cases he : s = n
  · subst he
    rw [if_neg (nI_nlt (Nat.le_refl _) (by omega)), if_pos rfl]
    exact ⟨_, _, _, _, _, _, _, _, rfl, rfl, s, s, s1, Nat.le_refl _, Nat.le_refl _, rfl, rfl, rfl, rfl, Or.inl ⟨rfl, rfl, rfl⟩⟩
  · have hs : s < n := by omega
    rw [if_pos (nI_lt hs (by omega)), if_neg (fun q => he ((nI_eq (by omega) (by omega)).mp q)), isSmall_m hs hn, isDigit_m hs hn]
    simp only [gd_t (inb_nI (show s < 700 by omega) (by decide)), nI_clamp (show s < 2 ^ 31 by omega)]
    rw [← hT s hs]
    rcases isLetter_x (t s) with ⟨q1, q2⟩ | ⟨q1, q2⟩
    · rw [q2, bd1_s, bd1_s, if_neg (show ¬ ((1 : Int32) = 0) by decide), if_neg (show ¬ ((1 : Int32) = 0) by decide)]
      obtain ⟨a', i1, i2, i3, i4, i5, i6⟩ := letters_both hn hT 1 (nI s) n0 km w0 (nI s) (n - s) FU FU s (by omega) (FU_pos (by omega)) (FU_pos (by omega))
      have hsa : s < a' := by
        by_cases e : s = a'
        · subst e
          rcases i4 with q | q
          · omega
          · exact absurd q1 q
        · omega
      obtain ⟨w, w1, w2, w3⟩ := word_both (t2 := t2) hsa (by omega) (fun j h1 h2 => hT j (by omega)) i3
      rw [i5, i6]
      unfold fX10_token_114 fX10_token_143
      rw [w2, bd1_s]
      rcases w3 with rfl | ⟨k, hk, rfl⟩
      · rw [if_pos (show (-1 : Int32) < 0 by decide)]
        exact ⟨_, _, _, _, _, _, _, _, rfl, rfl, s, a', s1, by omega, i2, rfl, rfl, rfl, rfl, Or.inr (Or.inl ⟨hsa, rfl, _, w1, Or.inl ⟨rfl, rfl⟩⟩)⟩
      · rw [if_neg (nI_pos (by omega))]
        exact ⟨_, _, _, _, _, _, _, _, rfl, rfl, s, a', s1, by omega, i2, rfl, rfl, rfl, rfl, Or.inr (Or.inl ⟨hsa, rfl, _, w1, Or.inr ⟨k, hk, rfl, rfl, rfl⟩⟩)⟩
    · rw [q2, bd1_s, bd1_s, if_pos rfl, if_pos rfl]
      rcases isDigit_x (t s) with ⟨d1, d2⟩ | ⟨d1, d2⟩
      · rw [d2, bd1_s, bd1_s, if_neg (show ¬ ((1 : Int32) = 0) by decide), if_neg (show ¬ ((1 : Int32) = 0) by decide)]
        obtain ⟨a', v', i1, i2, i3, i4, i5, i6⟩ := digits_both hn hT 2 (nI s) (n - s) FU FU s 0 (by omega) (FU_pos (by omega)) (FU_pos (by omega)) (by decide)
        rw [show fX4_readNumber (nI n) (nI s) n0 t = _ from i5, bd2_s, show fX10_token_170 (nI n) t2 FU (nI s) 2 0 (nI s) = _ from i6]
        exact ⟨_, _, _, _, _, _, _, _, rfl, rfl, s, a', s1, i1, i2, rfl, rfl, rfl, rfl, Or.inr (Or.inr (Or.inl ⟨i4 hs d1, rfl, rfl, v', i3, rfl, rfl⟩))⟩
      · rw [d2, bd1_s, bd1_s, if_pos rfl, if_pos rfl]
        unfold fX4_nextToken_168 fX10_token_254
        by_cases h59 : t s = 59
        · rw [if_pos h59, if_pos h59, nm, nm, nI_1]
          exact ⟨_, _, _, _, _, _, _, _, rfl, rfl, s, s + 1, s1, by omega, by omega, rfl, rfl, rfl, rfl, Or.inr (Or.inr (Or.inr (Or.inl ⟨by omega, rfl, rfl⟩)))⟩
        · rw [if_neg h59, if_neg h59, nm, nm, nI_1]
          exact ⟨_, _, _, _, _, _, _, _, rfl, rfl, s, s + 1, s1, by omega, by omega, rfl, rfl, rfl, rfl, Or.inr (Or.inr (Or.inr (Or.inr ⟨by omega, rfl, rfl⟩)))⟩
