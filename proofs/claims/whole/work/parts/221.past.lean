/-! ===== waves written and read, what can be undone ===== -/
theorem cpok_nI {a b n n0 n1 : Nat} (h0 : a + n ≤ n0) (h1 : b + n ≤ n1) (k0 : n0 < 2 ^ 31) (k1 : n1 < 2 ^ 31) : cpok (nI a) (nI b) (nI n) n0 n1 = true := by
  unfold cpok
  rw [nI_clamp (by omega), nI_clamp (by omega), nI_clamp (by omega)]
  simp only [Bool.and_eq_true, Bool.not_eq_true', decide_eq_true_eq, decide_eq_false_iff_not]
  exact ⟨nI_pos (by omega), nI_pos (by omega), nI_pos (by omega), h0, h1⟩
theorem writeTo_eq {n base k bk : Nat} (hb : base + 136 ≤ n) (hn : n < 2 ^ 31) (hbk : bk < 2) (x : Int32) (cells ha im re wi wr : Nat → Int32) :
    ∃ cells', fX7_writeTo n x (nI k) (nI bk) cells ha im re wi wr (nI base) = some cells' ∧ CSL cells' base (re, im) (wr, wi) x k bk ha ∧ ∀ j, (j < base ∨ base + 136 ≤ j) → cells' j = cells j := by
  unfold fX7_writeTo
  simp only [show (0 : Int32) = nI 0 from rfl, show (1 : Int32) = nI 1 from rfl, show (2 : Int32) = nI 2 from rfl, show (5 : Int32) = nI 5 from rfl, show (32 : Int32) = nI 32 from rfl, show (64 : Int32) = nI 64 from rfl, show (96 : Int32) = nI 96 from rfl, show (128 : Int32) = nI 128 from rfl, nI_add, nm]
  rw [gd_t (cpok_nI (by omega) (by omega) (by omega) hn), gd_t (cpok_nI (by omega) (by omega) (by omega) hn), gd_t (cpok_nI (by omega) (by omega) (by omega) hn), gd_t (cpok_nI (by omega) (by omega) (by omega) hn), gd_t (cpok_nI (by omega) (by omega) (by omega) hn), gd_t (inb_nI (by omega) hn), gd_t (inb_nI (by omega) hn)]
  simp only [nI_clamp (show 0 < 2 ^ 31 by decide), nI_clamp (show 32 < 2 ^ 31 by decide), nI_clamp (show 5 < 2 ^ 31 by decide), nI_clamp (show base < 2 ^ 31 by omega), nI_clamp (show base + 32 < 2 ^ 31 by omega), nI_clamp (show base + 64 < 2 ^ 31 by omega), nI_clamp (show base + 96 < 2 ^ 31 by omega), nI_clamp (show base + 128 < 2 ^ 31 by omega), nI_clamp (show base + 128 + 5 < 2 ^ 31 by omega), nI_clamp (show base + 128 + 5 + 1 < 2 ^ 31 by omega)]
  obtain ⟨C, eC⟩ : ∃ C, C = upd (upd (va_cpy ha (va_cpy wi (va_cpy wr (va_cpy im (va_cpy re cells 0 base 32) 0 (base + 32) 32) 0 (base + 64) 32) 0 (base + 96) 32) 0 (base + 128) 5) (base + 128 + 5) x) (base + 128 + 5 + 1) (nI k) := ⟨_, rfl⟩
  rw [← eC]
  have fin : (if nI bk = nI 0 then fX7_writeTo_112 n C (nI (base + 128 + 5 + 2)) (nI 0) else fX7_writeTo_112 n C (nI (base + 128 + 5 + 2)) (nI 1)) = some (upd C (base + 135) (nI bk)) := by
    unfold fX7_writeTo_112
    simp only [nm, gd_t (inb_nI (show base + 128 + 5 + 2 < n by omega) hn), nI_clamp (show base + 128 + 5 + 2 < 2 ^ 31 by omega)]
    rcases (show bk = 0 ∨ bk = 1 by omega) with rfl | rfl
    · rw [if_pos rfl]
    · rw [if_neg (by decide)]
  rw [fin]
  refine ⟨_, rfl, ⟨fun p hp => ?_, fun j hj => ?_, ?_, ?_, ?_⟩, fun j hj => ?_⟩
  · rw [pk_un (by omega), pk_un (by omega), pk_un (by omega), pk_un (by omega), eC, pk_un (by omega), pk_un (by omega), pk_un (by omega), pk_un (by omega), pk_un (by omega), pk_un (by omega), pk_un (by omega), pk_un (by omega)]
    refine ⟨?_, ?_, ?_, ?_⟩
    · rw [pk_cpy_out (by omega), pk_cpy_out (by omega), pk_cpy_out (by omega), pk_cpy_out (by omega), pk_cpy_in (by omega) (by omega), show 0 + (base + p - base) = p by omega]
    · rw [pk_cpy_out (by omega), pk_cpy_out (by omega), pk_cpy_out (by omega), pk_cpy_in (by omega) (by omega), show 0 + (base + 32 + p - (base + 32)) = p by omega]
    · rw [pk_cpy_out (by omega), pk_cpy_out (by omega), pk_cpy_in (by omega) (by omega), show 0 + (base + 64 + p - (base + 64)) = p by omega]
    · rw [pk_cpy_out (by omega), pk_cpy_in (by omega) (by omega), show 0 + (base + 96 + p - (base + 96)) = p by omega]
  · rw [pk_un (by omega), eC, pk_un (by omega), pk_un (by omega), pk_cpy_in (by omega) (by omega), show 0 + (base + 128 + j - (base + 128)) = j by omega]
  · rw [pk_un (by omega), eC, pk_un (by omega), show base + 133 = base + 128 + 5 from rfl, pk_us]
  · rw [pk_un (by omega), eC, show base + 134 = base + 128 + 5 + 1 from rfl, pk_us]
  · rw [pk_us]
  · rw [pk_un (by omega), eC, pk_un (by omega), pk_un (by omega), pk_cpy_out (by omega), pk_cpy_out (by omega), pk_cpy_out (by omega), pk_cpy_out (by omega), pk_cpy_out (by omega)]
/-- rows alike at the first 32 places -/
def RE32 (a b : RowZ) : Prop := ∀ p, p < 32 → a.1 p = b.1 p ∧ a.2 p = b.2 p
theorem sb_cpyX {f g : Nat → Int32} {a n j : Nat} (h : j < n) : va_cpy f g a 0 n j = f (a + j) := by
  rw [pk_cpy_in (Nat.zero_le _) (by omega), Nat.sub_zero]
theorem readFrom_eq {n base k bk : Nat} {cells : Nat → Int32} {z w : RowZ} {x : Int32} {ha : Nat → Int32} (hb : base + 136 ≤ n) (hn : n < 2 ^ 31) (hbk : bk < 2) (hc : CSL cells base z w x k bk ha) (x0 d0 b0 : Int32) (ha0 im re wi wr : Nat → Int32) :
    ∃ ha' im' re' wi' wr', fX7_readFrom n x0 d0 b0 cells ha0 im re wi wr (nI base) = some (x, nI k, nI bk, ha', im', re', wi', wr') ∧ RE32 (re', im') z ∧ RE32 (wr', wi') w ∧ ∀ j, j < 5 → ha' j = ha j := by
  obtain ⟨c1, c2, c3, c4, c5⟩ := hc
  unfold fX7_readFrom
  simp only [show (0 : Int32) = nI 0 from rfl, show (1 : Int32) = nI 1 from rfl, show (2 : Int32) = nI 2 from rfl, show (5 : Int32) = nI 5 from rfl, show (32 : Int32) = nI 32 from rfl, show (64 : Int32) = nI 64 from rfl, show (96 : Int32) = nI 96 from rfl, show (128 : Int32) = nI 128 from rfl, nI_add, nm]
  rw [gd_t (cpok_nI (by omega) (by omega) (by omega) (by omega)), gd_t (cpok_nI (by omega) (by omega) (by omega) (by omega)), gd_t (cpok_nI (by omega) (by omega) (by omega) (by omega)), gd_t (cpok_nI (by omega) (by omega) (by omega) (by omega)), gd_t (cpok_nI (by omega) (by omega) (by omega) (by omega)), gd_t (inb_nI (by omega) hn), gd_t (inb_nI (by omega) hn), gd_t (inb_nI (by omega) hn)]
  simp only [nI_clamp (show 0 < 2 ^ 31 by decide), nI_clamp (show 32 < 2 ^ 31 by decide), nI_clamp (show 5 < 2 ^ 31 by decide), nI_clamp (show base < 2 ^ 31 by omega), nI_clamp (show base + 32 < 2 ^ 31 by omega), nI_clamp (show base + 64 < 2 ^ 31 by omega), nI_clamp (show base + 96 < 2 ^ 31 by omega), nI_clamp (show base + 128 < 2 ^ 31 by omega), nI_clamp (show base + 128 + 5 < 2 ^ 31 by omega), nI_clamp (show base + 128 + 5 + 1 < 2 ^ 31 by omega), nI_clamp (show base + 128 + 5 + 2 < 2 ^ 31 by omega)]
  rw [show base + 128 + 5 = base + 133 from rfl, show base + 133 + 1 = base + 134 from rfl, show base + 133 + 2 = base + 135 from rfl, c3, c4, c5]
  have key : ∀ (X : Option (Int32 × Int32 × Int32 × (Nat → Int32) × (Nat → Int32) × (Nat → Int32) × (Nat → Int32) × (Nat → Int32))) (h i r wi2 wr2 : Nat → Int32),
      X = (if nI bk = nI 1 then fX7_readFrom_111 n x (nI k) b0 h i r wi2 wr2 (nI 1) else fX7_readFrom_111 n x (nI k) b0 h i r wi2 wr2 (nI 0)) → X = some (x, nI k, nI bk, h, i, r, wi2, wr2) := by
    intro X h i r wi2 wr2 e
    rw [e]
    unfold fX7_readFrom_111
    rcases (show bk = 0 ∨ bk = 1 by omega) with rfl | rfl
    · rw [if_neg (by decide), gd_t (by decide)]
    · rw [if_pos rfl, gd_t (by decide)]
  refine ⟨_, _, _, _, _, key _ _ _ _ _ _ rfl, fun p hp => ?_, fun p hp => ?_, fun j hj => ?_⟩
  · dsimp only
    rw [sb_cpyX hp, sb_cpyX hp]
    exact ⟨(c1 p hp).1, (c1 p hp).2.1⟩
  · dsimp only
    rw [sb_cpyX hp, sb_cpyX hp]
    exact ⟨(c1 p hp).2.2.1, (c1 p hp).2.2.2⟩
  · rw [sb_cpyX hj]
    exact c2 j hj
