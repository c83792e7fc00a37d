/-! ===== a stage, as both do it ===== -/
def rvR (M rad ord : Nat) (a : Nat → Int32) : Nat → Int32 := fun p => if p < 2 ^ M then a (rwN M rad ord p) else a p
def ngR (M : Nat) (a : Nat → Int32) : Nat → Int32 := fun p => if p < 2 ^ M then -(a p) else a p
abbrev RowZ := (Nat → Int32) × (Nat → Int32)
def opRev (M rad ord : Nat) (z : RowZ) : RowZ := (rvR M rad ord z.1, rvR M rad ord z.2)
def opNg (M : Nat) (z : RowZ) : RowZ := (z.1, ngR M z.2)
def opHv (nr M n : Nat) (z : RowZ) : RowZ := (hvN nr (2 ^ M) z.1 n, hvN nr (2 ^ M) z.2 n)
def opWg (M rad ord nr k : Nat) (c s : Nat → Int32) (z : RowZ) : RowZ :=
  (fun p => if p < 2 ^ M then wvRe ord nr (shn M rad ord k) (lspn M rad ord k) M c s z.1 z.2 p else z.1 p,
   fun p => if p < 2 ^ M then wvIm ord nr (shn M rad ord k) (lspn M rad ord k) M c s z.1 z.2 p else z.2 p)
/-- n is how often all is halved -/
def isHv (hl : Nat) (nr M lim grow : Nat) (z : RowZ) (n : Nat) : Prop := if hl = 0 then n = 0 else n ≤ 20 ∧ lgk nr (2 ^ M) z.1 z.2 n * grow ≤ 2 * lim ∧ ∀ j, j < n → 2 * lim < lgk nr (2 ^ M) z.1 z.2 j * grow
noncomputable def nHv (hl nr M lim grow : Nat) (z : RowZ) : Nat := Classical.epsilon (isHv hl nr M lim grow z)
def BDz (M : Nat) (z : RowZ) (B : Nat) : Prop := BD (2 ^ M) z.1 z.2 B
theorem nHv_x {hl nr M lim grow B : Nat} {z : RowZ} (hn : nr < 2) (h1 : 1 ≤ B) (h2 : B ≤ 2 ^ 20) (h : hl ≠ 0 → BDz M z B) (hlm : 127 ≤ lim) (hg : grow ≤ 12) : isHv hl nr M lim grow z (nHv hl nr M lim grow z) := by
  apply Classical.epsilon_spec
  unfold isHv
  by_cases h0 : hl = 0
  · exact ⟨0, by rw [if_pos h0]⟩
  · obtain ⟨n, e⟩ := halve_ex hn h1 h2 (h h0) hlm hg
    exact ⟨n, by rw [if_neg h0]; exact e⟩
def stA (M rad ord k : Nat) (z : RowZ) : RowZ := if ord = 0 ∧ k = 0 then opRev M rad ord z else z
noncomputable def stN (hl M rad ord nr lim k : Nat) (z : RowZ) : Nat := nHv hl nr M lim (grw M rad ord k) (stA M rad ord k z)
noncomputable def stB (hl M rad ord nr lim k : Nat) (z : RowZ) : RowZ := opHv nr M (stN hl M rad ord nr lim k z) (stA M rad ord k z)
noncomputable def stC (hl M rad ord nr lim k : Nat) (c s : Nat → Int32) (z : RowZ) : RowZ := opWg M rad ord nr k c s (stB hl M rad ord nr lim k z)
noncomputable def stD (hl M rad ord nr lim k : Nat) (c s : Nat → Int32) (z : RowZ) : RowZ := if ord ≠ 0 ∧ k + 1 = nst M rad then opRev M rad ord (stC hl M rad ord nr lim k c s z) else stC hl M rad ord nr lim k c s z
noncomputable def stE (hl bk M rad ord nr lim k : Nat) (c s : Nat → Int32) (z : RowZ) : RowZ := if bk ≠ 0 ∧ k + 1 = nst M rad then opNg M (stD hl M rad ord nr lim k c s z) else stD hl M rad ord nr lim k c s z
def stX (bk M rad k : Nat) (x : Int32) (n : Nat) : Int32 := if bk ≠ 0 ∧ k + 1 = nst M rad then x + nI n - nI M else x + nI n
theorem grw_le {M rad ord k : Nat} : grw M rad ord k ≤ 12 := by
  unfold grw
  repeat' split
  all_goals decide
theorem isM_pow {M : Nat} (hM : isM M) : 2 ≤ 2 ^ M ∧ 2 ^ M ≤ 32 := by
  obtain ⟨a, b⟩ := hM
  rcases (show M = 1 ∨ M = 2 ∨ M = 3 ∨ M = 4 ∨ M = 5 by omega) with rfl | rfl | rfl | rfl | rfl <;> decide
def rjC : Nat → Nat → Nat → Bool := fun M rad ord => (List.range (2 ^ M)).all fun p => decide (rwN M rad ord (rvN M rad ord p) = p)
theorem rjC_t : shapes rjC = true := by decide +kernel
theorem rvinj {M rad ord i j : Nat} (hM : isM M) (hr : isRad rad) (ho : ord < 2) (hi : i < 2 ^ M) (hj : j < 2 ^ M) (h : rvN M rad ord i = rvN M rad ord j) : i = j := by
  have h1 := of_decide_eq_true (all_x (shapes_x rjC_t hM hr ho) hi)
  have h2 := of_decide_eq_true (all_x (shapes_x rjC_t hM hr ho) hj)
  rw [← h1, ← h2, h]
theorem reverseAll_eq {M rad ord : Nat} {h : Nat → Int32} (hM : isM M) (hr : isRad rad) (ho : ord < 2) (e : SHF M rad ord h) (re im si sr : Nat → Int32) :
    ∃ si' sr', fX0_reverseAll (nI (2 ^ M)) (nI (nst M rad)) im re h si sr = some (rvR M rad ord im, rvR M rad ord re, si', sr') := by
  have hN := isM_pow hM
  unfold fX0_reverseAll
  have hh := loopX (fun n i (z : (Nat → Int32) × (Nat → Int32)) => fX0_reverseAll_2 (nI (2 ^ M)) (nI (nst M rad)) h n im re z.1 z.2 (nI i)) (fun i z => ∀ j, j < i → z.1 (rvN M rad ord j) = im j ∧ z.2 (rvN M rad ord j) = re j) (2 ^ M)
    (fun z => some (rvR M rad ord im, rvR M rad ord re, z.1, z.2)) ?_ ?_ (2 ^ M) FU 0 (si, sr) (by omega) (FU_pos (by omega)) (fun j hj => by omega)
  · obtain ⟨z, -, e9⟩ := hh
    exact ⟨z.1, z.2, e9⟩
  · intro n i z hi hJ
    obtain ⟨g1, g2, -, -⟩ := rv_x hM hr ho hi
    refine ⟨(upd z.1 (rvN M rad ord i) (im i), upd z.2 (rvN M rad ord i) (re i)), ?_, ?_⟩
    · have inj : ∀ j, j < i → rvN M rad ord j ≠ rvN M rad ord i := fun j hj q => by
        have k1 := (rvinj hM hr ho (show j < 2 ^ M by omega) hi q)
        omega
      intro j hj
      by_cases h9 : j = i
      · subst h9; exact ⟨pk_us, pk_us⟩
      · have h10 := inj j (by omega)
        dsimp only
        rw [pk_un h10, pk_un h10]
        exact hJ j (by omega)
    · dsimp only
      rw [fX0_reverseAll_2.eq_2, if_neg (nI_ge hi (by omega)), revp_eq hM hr ho hi e, bd1_s]
      simp only [nm, gd_t (inb_nI (show i < 32 by omega) (by decide)), gd_t (inb_nI (show rvN M rad ord i < 32 by omega) (by decide)), nI_clamp (show i < 2 ^ 31 by omega), nI_clamp (show rvN M rad ord i < 2 ^ 31 by omega), nI_1]
  · intro n z hJ
    have key : ∀ (a b : Nat → Int32), (∀ j, j < 2 ^ M → a (rvN M rad ord j) = b j) → va_cpy a b 0 0 (2 ^ M) = rvR M rad ord b := by
      intro a b hab
      funext p
      unfold rvR
      by_cases hp : p < 2 ^ M
      · obtain ⟨-, -, g3, g4⟩ := rv_x hM hr ho hp
        rw [sb_cpy0 hp, if_pos hp, ← hab _ g3, g4]
      · rw [pk_cpy_out (by omega), if_neg hp]
    rw [fX0_reverseAll_2.eq_2, if_pos (nI_le (Nat.le_refl _) (by omega)), fX0_reverseAll_49, fX0_takeSpare]
    have hck : cpok 0 0 (nI (2 ^ M)) 32 32 = true := by
      obtain ⟨a, b⟩ := hM
      rcases (show M = 1 ∨ M = 2 ∨ M = 3 ∨ M = 4 ∨ M = 5 by omega) with rfl | rfl | rfl | rfl | rfl <;> decide
    simp only [nm, gd_t hck, sb_cl0, nI_clamp (show 2 ^ M < 2 ^ 31 by omega), bd2_s]
    rw [key z.2 re (fun j hj => (hJ j hj).2), key z.1 im (fun j hj => (hJ j hj).1)]
theorem flipIm_eq {M : Nat} (hM : isM M) (im : Nat → Int32) : fX7_flipIm im (nI (2 ^ M)) = some (ngR M im) := by
  have hN := isM_pow hM
  unfold fX7_flipIm
  have hh := loopF (fun n i (z : Nat → Int32) => fX7_flipIm_2 n z (nI (2 ^ M)) (nI i)) (fun i => blk im 0 (fun p => -(im p)) i) (2 ^ M) (some (ngR M im)) ?_ ?_ (2 ^ M) FU 0 (by omega) (FU_pos (by omega))
  · rw [blk_0] at hh
    exact hh
  · intro n i hi
    rw [fX7_flipIm_2.eq_2, if_neg (nI_ge hi (by omega))]
    simp only [nm, gd_t (inb_nI (show i < 32 by omega) (by decide)), nI_clamp (show i < 2 ^ 31 by omega), nI_1]
    rw [blk_out (show i < 0 ∨ 0 + i ≤ i by omega)]
    have := blk_s (a := im) (b := 0) (i := i) (v := fun p => -(im p))
    rw [Nat.zero_add] at this
    rw [this]
  · intro n
    rw [fX7_flipIm_2.eq_2, if_pos (nI_le (Nat.le_refl _) (by omega))]
    congr 1
    funext p
    unfold ngR
    by_cases hp : p < 2 ^ M
    · rw [blk_in (by omega) (by omega), if_pos hp, Nat.sub_zero]
    · rw [blk_out (by omega), if_neg hp]
theorem beatWings_eq {M rad ord nr k : Nat} {h : Nat → Int32} (hM : isM M) (hr : isRad rad) (ho : ord < 2) (hn : nr < 2) (hk : k < nst M rad) (e : SHF M rad ord h) (re im wi wr c s : Nat → Int32) :
    ∃ wi' wr', fX0_beatWings (nI M) (nI ord) (nI nr) im re h wi wr c s (nI k) = some ((opWg M rad ord nr k c s (re, im)).2, (opWg M rad ord nr k c s (re, im)).1, wi', wr') := by
  have hN := isM_pow hM
  have hns := nst_le hM hr
  obtain ⟨m1, m5⟩ := id hM
  have hah : ∀ j, j ≤ k → ahd M rad ord j ≤ M := fun j hj => by
    rcases Nat.eq_zero_or_pos j with rfl | h0
    · exact Nat.zero_le _
    · obtain ⟨i, rfl⟩ : ∃ i, j = i + 1 := ⟨j - 1, by omega⟩
      exact (sh_x hM hr ho (show i < nst M rad by omega)).2.2.1
  obtain ⟨s1, s2, s3, s4, s5⟩ := sh_x hM hr ho hk
  unfold fX0_beatWings
  obtain ⟨wi', wr', e6⟩ := beatWings_60_eq (lsp := lspn M rad ord k) (sh := shn M rad ord k) hM ho hn s5 s4 re im wi wr c s
  refine ⟨wi', wr', ?_⟩
  have fin : fX0_beatWings_30 (nI M) (nI ord) (nI nr) h c s im re wi wr (nI k) (nI (ahd M rad ord k)) = some ((opWg M rad ord nr k c s (re, im)).2, (opWg M rad ord nr k c s (re, im)).1, wi', wr') := by
    unfold fX0_beatWings_30
    simp only [nm, gd_t (inb_nI (show k < 5 by omega) (by decide)), nI_clamp (show k < 2 ^ 31 by omega)]
    rw [e k hk, s1]
    have hd : ∀ (v a : Nat → Int32), dnW M (lspn M rad ord k) (shn M rad ord k) (2 ^ (M - lspn M rad ord k - shn M rad ord k) * 2 ^ lspn M rad ord k) v a = fun p => if p < 2 ^ M then v p else a p := by
      intro v a
      funext p
      unfold dnW
      by_cases hp : p < 2 ^ M
      · rw [if_pos ⟨hp, wix_lt hM s5 s4 hp⟩, if_pos hp]
      · rw [if_neg (fun q => hp q.1), if_neg hp]
    rw [hd, hd] at e6
    rcases (show ord = 0 ∨ ord = 1 by omega) with rfl | rfl
    · rw [if_pos (show nI 0 = 0 from rfl)]
      have : lspn M rad 0 k = ahd M rad 0 k := by unfold lspn; rw [if_pos rfl]
      rw [this] at e6
      rw [e6]
      unfold opWg
      rw [this]
    · rw [if_neg (show ¬ (nI 1 = 0) by decide), pk_sub (hah k (Nat.le_refl _)), pk_sub (show shn M rad 1 k ≤ M - ahd M rad 1 k by omega)]
      have : lspn M rad 1 k = M - ahd M rad 1 k - shn M rad 1 k := by unfold lspn; rw [if_neg (by decide)]
      rw [this] at e6
      rw [e6]
      unfold opWg
      rw [this]
  have hh := loopF (fun n j (z : Unit) => fX0_beatWings_6 (nI M) (nI ord) (nI nr) h c s n im re wi wr (nI k) (nI (ahd M rad ord j)) (nI j)) (fun _ => ()) k (some ((opWg M rad ord nr k c s (re, im)).2, (opWg M rad ord nr k c s (re, im)).1, wi', wr')) ?_ ?_ k FU 0 (by omega) (FU_pos (by omega))
  · exact hh
  · intro n j hj
    rw [fX0_beatWings_6.eq_2, if_neg (nI_ge hj (by omega))]
    simp only [nm, gd_t (inb_nI (show j < 5 by omega) (by decide)), nI_clamp (show j < 2 ^ 31 by omega), nI_1]
    rw [e j (by omega), (sh_x hM hr ho (show j < nst M rad by omega)).1, nI_add]
    rfl
  · intro n
    rw [fX0_beatWings_6.eq_2, if_pos (nI_le (Nat.le_refl _) (by omega)), fin]
theorem growOf_eq {M rad ord k : Nat} {h : Nat → Int32} (hM : isM M) (hr : isRad rad) (ho : ord < 2) (hk : k < nst M rad) (e : SHF M rad ord h) : fX8_growOf (nI ord) h (nI k) = some (nI (grw M rad ord k)) := by
  have hns := nst_le hM hr
  obtain ⟨s1, -, -, -, s5⟩ := sh_x hM hr ho hk
  unfold fX8_growOf
  rw [gd_t (inb_nI (show k < 5 by omega) (by decide)), nI_clamp (by omega), e k hk, s1]
  unfold grw
  rcases s5 with h | h <;> rw [h] <;> rcases (show ord = 0 ∨ ord = 1 by omega) with rfl | rfl <;> rfl
theorem stA_bd {M rad ord k B : Nat} {z : RowZ} (hM : isM M) (hr : isRad rad) (ho : ord < 2) (h : BDz M z B) : BDz M (stA M rad ord k z) B := by
  unfold stA
  split
  · intro p hp
    unfold opRev rvR
    dsimp only
    rw [if_pos hp, if_pos hp]
    exact h _ (rv_x hM hr ho hp).2.2.1
  · exact h
theorem isHv_1 {hl nr M lim grow : Nat} {z : RowZ} {n : Nat} (h0 : hl ≠ 0) (h : isHv hl nr M lim grow z n) : n ≤ 20 ∧ lgk nr (2 ^ M) z.1 z.2 n * grow ≤ 2 * lim ∧ ∀ j, j < n → 2 * lim < lgk nr (2 ^ M) z.1 z.2 j * grow := by
  unfold isHv at h
  rw [if_neg h0] at h
  exact h
theorem isHv_0 {nr M lim grow : Nat} {z : RowZ} {n : Nat} (h : isHv 0 nr M lim grow z n) : n = 0 := by
  unfold isHv at h
  rw [if_pos rfl] at h
  exact h
theorem doStage_eq {hl bk M rad ord nr lim k B : Nat} {h : Nat → Int32} (hhl : hl < 2) (hbk : bk < 2) (hM : isM M) (hr : isRad rad) (ho : ord < 2) (hn : nr < 2) (hl1 : 127 ≤ lim) (hl2 : lim < 2 ^ 20) (hk : k < nst M rad) (e : SHF M rad ord h)
    (h1 : 1 ≤ B) (h2 : B ≤ 2 ^ 20) (z : RowZ) (hB : hl ≠ 0 → BDz M z B) (x : Int32) (ha si sr wi wr c s : Nat → Int32) :
    ∃ si' sr' wi' wr', fX0_doStage x (nI k) (nI bk) (nI (2 ^ M)) (nI M) (nI lim) (nI ord) (nI nr) (nI (nst M rad)) ha z.2 z.1 h si sr wi wr c s (nI hl) =
      some (nI (stN hl M rad ord nr lim k z), stX bk M rad k x (stN hl M rad ord nr lim k z), nI (k + 1), upd ha k (nI (stN hl M rad ord nr lim k z)), (stE hl bk M rad ord nr lim k c s z).2, (stE hl bk M rad ord nr lim k c s z).1, si', sr', wi', wr') := by
  have hN := isM_pow hM
  have hns := nst_le hM hr
  have hlast : (nI k = nI (nst M rad) - 1) ↔ k + 1 = nst M rad := by
    rw [show (1 : Int32) = nI 1 from rfl, pk_sub (by omega), nI_eq (by omega) (by omega)]
    omega
  -- the end
  have f90 : ∀ (l : Nat) (hlt : l < 2) (hll : l = 1 ↔ k + 1 = nst M rad) (n : Nat) (y : RowZ) (si sr wi wr : Nat → Int32),
      fX0_doStage_90 (nI bk) (nI (2 ^ M)) (nI M) x (nI k) ha y.2 y.1 si sr wi wr (nI k) (nI l) (nI n) =
      some (nI n, stX bk M rad k x n, nI (k + 1), upd ha k (nI n), (if bk ≠ 0 ∧ k + 1 = nst M rad then opNg M y else y).2, (if bk ≠ 0 ∧ k + 1 = nst M rad then opNg M y else y).1, si, sr, wi, wr) := by
    intro l hlt hll n y si sr wi wr
    unfold fX0_doStage_90
    simp only [nm, gd_t (inb_nI (show k < 5 by omega) (by decide)), nI_clamp (show k < 2 ^ 31 by omega), nI_1]
    unfold stX
    rcases (show bk = 0 ∨ bk = 1 by omega) with rfl | rfl
    · rw [if_pos (show nI 0 = 0 from rfl), if_neg (by omega), if_neg (by omega)]
    · rw [if_neg (show ¬ (nI 1 = 0) by decide)]
      rcases (show l = 0 ∨ l = 1 by omega) with rfl | rfl
      · rw [if_pos (show nI 0 = 0 from rfl), if_neg (by omega), if_neg (by omega)]
      · rw [if_neg (show ¬ (nI 1 = 0) by decide), flipIm_eq hM, bd1_s, if_pos (by omega), if_pos (by omega)]
        rfl
  -- from the wings on
  have f62 : ∀ (l : Nat) (hlt : l < 2) (hll : l = 1 ↔ k + 1 = nst M rad) (n : Nat) (y : RowZ) (si sr wi wr : Nat → Int32), ∃ si' sr' wi' wr',
      fX0_doStage_62 (nI bk) (nI (2 ^ M)) (nI M) (nI ord) (nI nr) (nI (nst M rad)) h c s x (nI k) ha y.2 y.1 si sr wi wr (nI k) (nI l) (nI n) =
      (let w := opWg M rad ord nr k c s y
       let w2 := if ord ≠ 0 ∧ k + 1 = nst M rad then opRev M rad ord w else w
       some (nI n, stX bk M rad k x n, nI (k + 1), upd ha k (nI n), (if bk ≠ 0 ∧ k + 1 = nst M rad then opNg M w2 else w2).2, (if bk ≠ 0 ∧ k + 1 = nst M rad then opNg M w2 else w2).1, si', sr', wi', wr')) := by
    intro l hlt hll n y si sr wi wr
    unfold fX0_doStage_62
    obtain ⟨wi', wr', e6⟩ := beatWings_eq hM hr ho hn hk e y.1 y.2 wi wr c s
    rw [e6, bd4_s]
    dsimp only
    rcases (show ord = 0 ∨ ord = 1 by omega) with rfl | rfl
    · refine ⟨si, sr, wi', wr', ?_⟩
      rw [if_pos (show nI 0 = 0 from rfl), if_neg (show ¬ ((0 : Nat) ≠ 0 ∧ k + 1 = nst M rad) by omega)]
      exact f90 l hlt hll n _ si sr wi' wr'
    · rw [if_neg (show ¬ (nI 1 = 0) by decide)]
      rcases (show l = 0 ∨ l = 1 by omega) with rfl | rfl
      · refine ⟨si, sr, wi', wr', ?_⟩
        rw [if_pos (show nI 0 = 0 from rfl), if_neg (show ¬ ((1 : Nat) ≠ 0 ∧ k + 1 = nst M rad) by omega)]
        exact f90 0 hlt hll n _ si sr wi' wr'
      · rw [if_neg (show ¬ (nI 1 = 0) by decide), if_pos (show (1 : Nat) ≠ 0 ∧ k + 1 = nst M rad by omega)]
        obtain ⟨si', sr', e7⟩ := reverseAll_eq hM hr (show 1 < 2 by decide) e (opWg M rad 1 nr k c s y).1 (opWg M rad 1 nr k c s y).2 si sr
        refine ⟨si', sr', wi', wr', ?_⟩
        rw [e7, bd4_s]
        exact f90 1 hlt hll n (opRev M rad 1 (opWg M rad 1 nr k c s y)) si' sr' wi' wr'
  -- from the halving on
  have f42 : ∀ (l : Nat) (hlt : l < 2) (hll : l = 1 ↔ k + 1 = nst M rad) (y : RowZ) (hy : y = stA M rad ord k z) (si sr wi wr : Nat → Int32), ∃ si' sr' wi' wr',
      fX0_doStage_42 (nI bk) (nI (2 ^ M)) (nI M) (nI lim) (nI ord) (nI nr) (nI (nst M rad)) h c s x (nI k) ha y.2 y.1 si sr wi wr (nI hl) (nI k) (nI l) =
      some (nI (stN hl M rad ord nr lim k z), stX bk M rad k x (stN hl M rad ord nr lim k z), nI (k + 1), upd ha k (nI (stN hl M rad ord nr lim k z)), (stE hl bk M rad ord nr lim k c s z).2, (stE hl bk M rad ord nr lim k c s z).1, si', sr', wi', wr') := by
    intro l hlt hll y hy si sr wi wr
    have hx : isHv hl nr M lim (grw M rad ord k) y (stN hl M rad ord nr lim k z) := by
      unfold stN
      rw [← hy]
      exact nHv_x hn h1 h2 (fun q => by rw [hy]; exact stA_bd hM hr ho (hB q)) hl1 grw_le
    unfold stE stD stC stB
    unfold fX0_doStage_42
    rw [← hy]
    rcases (show hl = 0 ∨ hl = 1 by omega) with rfl | rfl
    · rw [if_pos (show nI 0 = 0 from rfl)]
      have h0 := isHv_0 hx
      obtain ⟨si', sr', wi', wr', e8⟩ := f62 l hlt hll 0 y si sr wi wr
      refine ⟨si', sr', wi', wr', ?_⟩
      rw [h0]
      exact e8
    · rw [if_neg (show ¬ (nI 1 = 0) by decide), growOf_eq hM hr ho hk e, bd1_s]
      obtain ⟨g1, g2, g3⟩ := isHv_1 (by decide) hx
      rw [halve_c (by omega) hl2 grw_le hn h1 h2 (by rw [hy]; exact stA_bd hM hr ho (hB (by decide))) g1 g2 g3, bd3_s]
      exact f62 l hlt hll _ (opHv nr M (stN 1 M rad ord nr lim k z) y) si sr wi wr
  -- the beginning
  have f22 : ∀ (l : Nat) (hlt : l < 2) (hll : l = 1 ↔ k + 1 = nst M rad), ∃ si' sr' wi' wr',
      fX0_doStage_22 (nI bk) (nI (2 ^ M)) (nI M) (nI lim) (nI ord) (nI nr) (nI (nst M rad)) h c s x (nI k) ha z.2 z.1 si sr wi wr (nI hl) (nI k) (nI l) =
      some (nI (stN hl M rad ord nr lim k z), stX bk M rad k x (stN hl M rad ord nr lim k z), nI (k + 1), upd ha k (nI (stN hl M rad ord nr lim k z)), (stE hl bk M rad ord nr lim k c s z).2, (stE hl bk M rad ord nr lim k c s z).1, si', sr', wi', wr') := by
    intro l hlt hll
    unfold fX0_doStage_22
    by_cases h0 : ord = 0
    · rw [if_pos (by rw [h0]; rfl)]
      by_cases hk0 : k = 0
      · rw [if_pos (by rw [hk0]; rfl)]
        obtain ⟨si', sr', e7⟩ := reverseAll_eq hM hr ho e z.1 z.2 si sr
        rw [e7, bd4_s]
        exact f42 l hlt hll (opRev M rad ord z) (by unfold stA; rw [if_pos ⟨h0, hk0⟩]) si' sr' wi wr
      · rw [if_neg (nI_ne0 (by omega) (by omega))]
        exact f42 l hlt hll z (by unfold stA; rw [if_neg (by omega)]) si sr wi wr
    · rw [if_neg (nI_ne0 (by omega) (by omega))]
      exact f42 l hlt hll z (by unfold stA; rw [if_neg (by omega)]) si sr wi wr
  unfold fX0_doStage
  by_cases hq : k + 1 = nst M rad
  · rw [if_pos (hlast.mpr hq)]
    exact f22 1 (by decide) ⟨fun _ => hq, fun _ => rfl⟩
  · rw [if_neg (fun q => hq (hlast.mp q))]
    exact f22 0 (by decide) ⟨fun q => absurd q (by decide), fun q => absurd q hq⟩
