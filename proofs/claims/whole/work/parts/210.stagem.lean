/-! ===== a stage of the reference ===== -/
/-- bank b holds the rows -/
def RW (all : Nat → Int32) (b : Nat) (z : RowZ) : Prop := ∀ p, p < 32 → all (136 * b + p) = z.1 p ∧ all (136 * b + 32 + p) = z.2 p
/-- nothing but the rows of bank b has changed -/
def FR (all all' : Nat → Int32) (b : Nat) : Prop := ∀ j, (j < 136 * b ∨ 136 * b + 64 ≤ j) → all' j = all j
def ZR (M : Nat) (z : RowZ) : Prop := ∀ p, 2 ^ M ≤ p → p < 32 → z.1 p = 0 ∧ z.2 p = 0
theorem FR_t {a b c : Nat → Int32} {n : Nat} (h1 : FR a b n) (h2 : FR b c n) : FR a c n := fun j hj => (h2 j hj).trans (h1 j hj)
theorem FR_r {a : Nat → Int32} {n : Nat} : FR a a n := fun _ _ => rfl
def lyd (all : Nat → Int32) (b n : Nat) (lr li : Nat → Int32) : Nat → Int32 := fun j => if 136 * b ≤ j ∧ j < 136 * b + n then lr (j - 136 * b) else if 136 * b + 32 ≤ j ∧ j < 136 * b + 32 + n then li (j - (136 * b + 32)) else all j
theorem lyd_0 {all : Nat → Int32} {b : Nat} {lr li : Nat → Int32} : lyd all b 0 lr li = all := by
  funext j
  unfold lyd
  rw [if_neg (by omega), if_neg (by omega)]
theorem lyd_s {all : Nat → Int32} {b i : Nat} {lr li : Nat → Int32} (hi : i < 32) : upd (upd (lyd all b i lr li) (136 * b + i) (lr i)) (136 * b + (32 + i)) (li i) = lyd all b (i + 1) lr li := by
  funext j
  unfold upd lyd
  by_cases h1 : j = 136 * b + (32 + i)
  · subst h1
    rw [if_pos rfl, if_neg (by omega), if_pos (by omega), show 136 * b + (32 + i) - (136 * b + 32) = i by omega]
  · rw [if_neg h1]
    by_cases h2 : j = 136 * b + i
    · subst h2
      rw [if_pos rfl, if_pos (by omega), show 136 * b + i - 136 * b = i by omega]
    · rw [if_neg h2]
      by_cases h3 : 136 * b ≤ j ∧ j < 136 * b + i
      · rw [if_pos h3, if_pos (by omega)]
      · rw [if_neg h3, if_neg (show ¬ (136 * b ≤ j ∧ j < 136 * b + (i + 1)) by omega)]
        by_cases h4 : 136 * b + 32 ≤ j ∧ j < 136 * b + 32 + i
        · rw [if_pos h4, if_pos (by omega)]
        · rw [if_neg h4, if_neg (by omega)]
theorem laid_eq {b N : Nat} {told : Nat → Int32} (hb : b ≤ 22) (hN : N ≤ 32) (h0 : told 0 = nI N) (all li lr : Nat → Int32) : fX10_laid (nI b) all li lr told = some (lyd all b N lr li) := by
  unfold fX10_laid
  have hh := loopF (fun n i (z : Nat → Int32) => fX10_laid_2 (nI b) li lr told n z (nI i)) (fun i => lyd all b i lr li) N (some (lyd all b N lr li)) ?_ ?_ N FU 0 (by omega) (FU_pos (by omega))
  · rw [lyd_0] at hh
    exact hh
  · intro n i hi
    rw [fX10_laid_2.eq_2, size_eq, bd1_s, h0, if_neg (nI_ge hi (by omega)), gd_t (inb_nI (show i < 32 by omega) (by decide)), nI_clamp (by omega), lay_eq hb (by omega), bd1_s, gd_t (inb_nI (show i < 32 by omega) (by decide)), show (32 : Int32) + nI i = nI (32 + i) from nI_add 32 i, lay_eq hb (by omega), bd1_s]
    simp only [nm, nI_1]
    rw [lyd_s (by omega)]
  · intro n
    rw [fX10_laid_2.eq_2, size_eq, bd1_s, h0, if_pos (nI_le (Nat.le_refl _) (by omega))]
theorem lyd_x {all : Nat → Int32} {b N : Nat} {lr li : Nat → Int32} {z y : RowZ} (hN : N ≤ 32) (hz : RW all b z) (h1 : ∀ p, p < N → lr p = y.1 p ∧ li p = y.2 p) (h2 : ∀ p, N ≤ p → y.1 p = z.1 p ∧ y.2 p = z.2 p) : RW (lyd all b N lr li) b y ∧ FR all (lyd all b N lr li) b := by
  refine ⟨fun p hp => ?_, fun j hj => ?_⟩
  · unfold lyd
    by_cases h : p < N
    · rw [if_pos (by omega), if_neg (by omega), if_pos (by omega), show 136 * b + p - 136 * b = p by omega, show 136 * b + 32 + p - (136 * b + 32) = p by omega]
      exact h1 p h
    · rw [if_neg (by omega), if_neg (by omega), if_neg (by omega), if_neg (by omega), (h2 p (by omega)).1, (h2 p (by omega)).2]
      exact hz p hp
  · unfold lyd
    rw [if_neg (by omega), if_neg (by omega)]
theorem reverses_eq {b M rad ord : Nat} {all told : Nat → Int32} {z : RowZ} (hb : b ≤ 22) (hM : isM M) (hr : isRad rad) (ho : ord < 2) (h0 : told 0 = nI (2 ^ M)) (hz : RW all b z) (li lr : Nat → Int32) :
    ∃ all' li' lr', fX10_reverses (nI b) (nI rad) (nI ord) (nI M) all li lr told = some (all', li', lr') ∧ RW all' b (opRev M rad ord z) ∧ FR all all' b := by
  have hN := isM_pow hM
  unfold fX10_reverses
  have hh := loopX (fun n i (y : (Nat → Int32) × (Nat → Int32)) => fX10_reverses_2 (nI b) (nI rad) (nI ord) (nI M) told n all y.1 y.2 (nI i)) (fun i y => ∀ j, j < i → y.1 (rvN M rad ord j) = z.2 j ∧ y.2 (rvN M rad ord j) = z.1 j) (2 ^ M)
    (fun y => some (lyd all b (2 ^ M) y.2 y.1, y.1, y.2)) ?_ ?_ (2 ^ M) FU 0 (li, lr) (by omega) (FU_pos (by omega)) (fun j hj => by omega)
  · obtain ⟨y, hJ, e9⟩ := hh
    have hx := lyd_x (y := opRev M rad ord z) (lr := y.2) (li := y.1) hN.2 hz ?_ ?_
    · exact ⟨_, y.1, y.2, e9, hx.1, hx.2⟩
    · intro p hp
      obtain ⟨-, -, g3, g4⟩ := rv_x hM hr ho hp
      have := hJ _ g3
      rw [g4] at this
      unfold opRev rvR
      dsimp only
      rw [if_pos hp, if_pos hp]
      exact ⟨this.2, this.1⟩
    · intro p hp
      unfold opRev rvR
      dsimp only
      rw [if_neg (by omega), if_neg (by omega)]
      exact ⟨rfl, rfl⟩
  · intro n i y hi hJ
    obtain ⟨g1, g2, -, -⟩ := rv_x hM hr ho hi
    refine ⟨(upd y.1 (rvN M rad ord i) (z.2 i), upd y.2 (rvN M rad ord i) (z.1 i)), ?_, ?_⟩
    · intro j hj
      by_cases h9 : j = i
      · subst h9; exact ⟨pk_us, pk_us⟩
      · have h10 : rvN M rad ord j ≠ rvN M rad ord i := fun q => h9 (rvinj hM hr ho (by omega) hi q)
        dsimp only
        rw [pk_un h10, pk_un h10]
        exact hJ j (by omega)
    · rw [fX10_reverses_2.eq_2, size_eq, bd1_s, h0, if_neg (nI_ge hi (by omega)), g1, bd1_s, of_eq hb (by omega), bd1_s, gd_t (inb_nI (show rvN M rad ord i < 32 by omega) (by decide)), show (32 : Int32) + nI i = nI (32 + i) from nI_add 32 i, of_eq hb (by omega)]
      simp only [nm, bd1_s, gd_t (inb_nI (show rvN M rad ord i < 32 by omega) (by decide)), nI_clamp (show rvN M rad ord i < 2 ^ 31 by omega), nI_1]
      rw [← Nat.add_assoc, (hz i (by omega)).1, (hz i (by omega)).2]
  · intro n y hJ
    rw [fX10_reverses_2.eq_2, size_eq, bd1_s, h0, if_pos (nI_le (Nat.le_refl _) (by omega)), fX10_reverses_47, laid_eq hb hN.2 h0, bd1_s]
theorem wv_congr {M ord nr sh lsp p : Nat} {c s x y x' y' : Nat → Int32} (hM : isM M) (hs : sh = 1 ∨ sh = 2) (hl : lsp + sh ≤ M) (hp : p < 2 ^ M) (h : ∀ i, i < 32 → x i = x' i ∧ y i = y' i) : wvRe ord nr sh lsp M c s x y p = wvRe ord nr sh lsp M c s x' y' p ∧ wvIm ord nr sh lsp M c s x y p = wvIm ord nr sh lsp M c s x' y' p := by
  have hN := isM_pow hM
  obtain ⟨-, -, g3, g4⟩ := ga_x hM hs hl hp
  unfold wvRe wvIm
  exact wg_congr hs (fun t ht => h _ (by have := (g4 t ht).1; omega)) g3
theorem wings_eq {b M rad ord nr k : Nat} {all told qua c s : Nat → Int32} {z : RowZ} (hb : b ≤ 22) (hM : isM M) (hr : isRad rad) (ho : ord < 2) (hn : nr < 2) (hk : k < nst M rad) (h0 : told 0 = nI (2 ^ M)) (hT : TBL (2 ^ M) qua told c s) (hz : RW all b z) (li lr : Nat → Int32) :
    ∃ all' li' lr', fX10_wings (nI b) (nI rad) (nI ord) (nI nr) (nI M) all li lr qua told (nI k) = some (all', li', lr') ∧ RW all' b (opWg M rad ord nr k c s z) ∧ FR all all' b := by
  have hN := isM_pow hM
  have hns := nst_le hM hr
  obtain ⟨m1, m5⟩ := id hM
  obtain ⟨s1, s2, s3, s4, s5⟩ := sh_x hM hr ho hk
  have hah : ∀ j, j ≤ k → ahd M rad ord j ≤ M := fun j hj => by
    rcases Nat.eq_zero_or_pos j with rfl | h0
    · exact Nat.zero_le _
    · obtain ⟨i, rfl⟩ : ∃ i, j = i + 1 := ⟨j - 1, by omega⟩
      exact (sh_x hM hr ho (show i < nst M rad by omega)).2.2.1
  have pdiv : ∀ a d, a ≤ 5 → d ≤ a → nI (2 ^ a) / nI (2 ^ d) = nI (2 ^ (a - d)) := fun a d ha hd => by
    have h1 := p2_le ha
    have h2 := p2_le (show d ≤ 5 by omega)
    rw [pk_div (by omega) (by omega) (by omega), Nat.pow_div hd (by decide)]
  have f49 : ∃ all' li' lr', fX10_wings_49 (nI b) (nI ord) (nI nr) qua told all li lr (nI (2 ^ shn M rad ord k)) (nI (2 ^ lspn M rad ord k)) = some (all', li', lr') ∧ RW all' b (opWg M rad ord nr k c s z) ∧ FR all all' b := by
    unfold fX10_wings_49
    have hh := loopX (fun n i (y : (Nat → Int32) × (Nat → Int32)) => fX10_wings_52 (nI b) (nI ord) (nI nr) qua told n all y.1 y.2 (nI (2 ^ shn M rad ord k)) (nI (2 ^ lspn M rad ord k)) (nI i)) (fun i y => ∀ j, j < i → y.1 j = (opWg M rad ord nr k c s z).2 j ∧ y.2 j = (opWg M rad ord nr k c s z).1 j) (2 ^ M)
      (fun y => some (lyd all b (2 ^ M) y.2 y.1, y.1, y.2)) ?_ ?_ (2 ^ M) FU 0 (li, lr) (by omega) (FU_pos (by omega)) (fun j hj => by omega)
    · obtain ⟨y, hJ, e9⟩ := hh
      have hx := lyd_x (y := opWg M rad ord nr k c s z) (lr := y.2) (li := y.1) hN.2 hz ?_ ?_
      · exact ⟨_, y.1, y.2, e9, hx.1, hx.2⟩
      · intro p hp
        exact ⟨(hJ p hp).2, (hJ p hp).1⟩
      · intro p hp
        unfold opWg
        dsimp only
        rw [if_neg (by omega), if_neg (by omega)]
        exact ⟨rfl, rfl⟩
    · intro n i y hi hJ
      obtain ⟨w1, w2⟩ := wv_congr (nr := nr) (ord := ord) (c := c) (s := s) hM s5 s4 hi hz
      refine ⟨(upd y.1 i ((opWg M rad ord nr k c s z).2 i), upd y.2 i ((opWg M rad ord nr k c s z).1 i)), ?_, ?_⟩
      · intro j hj
        by_cases h9 : j = i
        · subst h9; exact ⟨pk_us, pk_us⟩
        · dsimp only
          rw [pk_un h9, pk_un h9]
          exact hJ j (by omega)
      · have hRL := p2_le (show shn M rad ord k + lspn M rad ord k ≤ 5 by omega)
        have e9 : nI (2 ^ M) / nI (2 ^ (shn M rad ord k + lspn M rad ord k)) = nI (2 ^ (M - lspn M rad ord k - shn M rad ord k)) := by
          rw [pdiv M _ m5 (by omega), show M - (shn M rad ord k + lspn M rad ord k) = M - lspn M rad ord k - shn M rad ord k by omega]
        rw [fX10_wings_52.eq_2, size_eq, bd1_s, h0, if_neg (nI_ge hi (by omega)), bd1_s]
        simp only [nm]
        rw [pk_mul, ← Nat.pow_add, gd_t (nz_nI (by omega) (by omega)), e9, gathers_eq hb hM ho hn s5 s4 hi hT, bd2_s, nI_1, w1, w2]
        unfold opWg
        dsimp only
        rw [if_pos hi, if_pos hi]
    · intro n y hJ
      rw [fX10_wings_52.eq_2, size_eq, bd1_s, h0, if_pos (nI_le (Nat.le_refl _) (by omega)), fX10_wings_83, laid_eq hb hN.2 h0, bd1_s]
  have f32 : fX10_wings_32 (nI b) (nI ord) (nI nr) qua told all li lr (nI (2 ^ shn M rad ord k)) (nI (2 ^ ahd M rad ord k)) = fX10_wings_49 (nI b) (nI ord) (nI nr) qua told all li lr (nI (2 ^ shn M rad ord k)) (nI (2 ^ lspn M rad ord k)) := by
    unfold fX10_wings_32
    rcases (show ord = 0 ∨ ord = 1 by omega) with rfl | rfl
    · rw [if_neg (show ¬ (nI 0 = (1 : Int32)) by decide)]
      unfold lspn
      rw [if_pos rfl]
    · rw [if_pos (show nI 1 = (1 : Int32) from rfl), size_eq, bd1_s, h0]
      simp only [nm]
      have hRL := p2_le (show ahd M rad 1 k + shn M rad 1 k ≤ 5 by omega)
      rw [pk_mul, ← Nat.pow_add, gd_t (nz_nI (by omega) (by omega)), pdiv M _ m5 s3]
      unfold lspn
      rw [if_neg (by decide), Nat.sub_sub]
  unfold fX10_wings
  rw [s2, bd1_s]
  have hh := loopF (fun n j (_ : Unit) => fX10_wings_11 (nI b) (nI rad) (nI ord) (nI nr) (nI M) qua told n all li lr (nI k) (nI (2 ^ shn M rad ord k)) (nI (2 ^ ahd M rad ord j)) (nI j)) (fun _ => ()) k (fX10_wings_49 (nI b) (nI ord) (nI nr) qua told all li lr (nI (2 ^ shn M rad ord k)) (nI (2 ^ lspn M rad ord k))) ?_ ?_ k FU 0 (by omega) (FU_pos (by omega))
  · rw [show (1 : Int32) = nI (2 ^ ahd M rad ord 0) from rfl, show (0 : Int32) = nI 0 from rfl]
    refine Eq.subst (motive := fun X => ∃ all' li' lr', X = some (all', li', lr') ∧ RW all' b (opWg M rad ord nr k c s z) ∧ FR all all' b) hh.symm f49
  · intro n j hj
    rw [fX10_wings_11.eq_2, if_neg (nI_ge hj (by omega)), (sh_x hM hr ho (show j < nst M rad by omega)).2.1, bd1_s]
    simp only [nm, nI_1]
    rw [pk_mul, ← Nat.pow_add]
    rfl
  · intro n
    rw [fX10_wings_11.eq_2, if_pos (nI_le (Nat.le_refl _) (by omega)), f32]
