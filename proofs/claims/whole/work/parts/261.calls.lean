/-! ===== a text taken over ===== -/
theorem fit_c {M : Nat} (hM : isM M) (co si : Nat → Int32) : ∃ co' si', fX6_fit co si (nI M) = some (co', si') ∧ TRN M co' si' := by
  unfold fX6_fit
  have hh := loopX (fun n i (y : (Nat → Int32) × (Nat → Int32)) => fX6_fit_2 n y.1 y.2 (nI M) (nI i)) (fun i y => ∀ j, j < i → y.1 j = ctb M j ∧ y.2 j = stb M j) 32 (fun y => some (y.1, y.2)) ?_ ?_ 32 FU 0 (co, si) (by omega) (FU_pos (by omega)) (fun j hj => by omega)
  · obtain ⟨y, a1, a2⟩ := hh
    exact ⟨y.1, y.2, a2, a1⟩
  · intro n i y hi hJ
    obtain ⟨c1, c2, -⟩ := ctb_x hM hi
    refine ⟨(upd y.1 i (ctb M i), upd y.2 i (stb M i)), fun j hj => ?_, ?_⟩
    · dsimp only
      by_cases e : j = i
      · subst e; exact ⟨pk_us, pk_us⟩
      · rw [pk_un e, pk_un e]; exact hJ j (by omega)
    · rw [fX6_fit_2.eq_2, if_neg (show ¬ ((32 : Int32) ≤ nI i) from nI_ge hi (by decide)), nm, c1, bd1_s, gd_t (inb_nI hi (by decide)), nm, c2, bd1_s, gd_t (inb_nI hi (by decide)), nm, nm, nI_clamp (by omega), nI_1]
  · intro n y hJ
    rw [fX6_fit_2.eq_2, if_pos (show (32 : Int32) ≤ nI 32 by decide)]
theorem rtC_t : (List.range 5).all (fun m => decide (rts.getD m 0 = nI (rtN (m + 1))) && decide (rtN (m + 1) < 97)) = true := by decide +kernel
theorem rt_x {M : Nat} (hM : isM M) : rts.getD (M - 1) 0 = nI (rtN M) ∧ rtN M < 97 := by
  obtain ⟨m1, m5⟩ := hM
  have h := all_x rtC_t (show M - 1 < 5 by omega)
  rw [show M - 1 + 1 = M by omega] at h
  simp only [Bool.and_eq_true, decide_eq_true_eq] at h
  exact h
theorem rfit_c {M : Nat} (hM : isM M) (x y : Int32) (pw : Nat → Int32) : ∃ pw', fX5_fit x y pw (nI (2 ^ M)) (nI M) = some (nI (2 ^ M), nI M, pw') ∧ RNGR M (nI (2 ^ M)) (nI M) pw' := by
  obtain ⟨r1, r2⟩ := rt_x hM
  obtain ⟨m1, m5⟩ := id hM
  unfold fX5_fit fX5_fit_43
  rw [if_neg (show ¬ (nI M < 1) from nI_nlt (b := 1) (by omega) (by omega)), if_neg (show ¬ ((5 : Int32) < nI M) from nI_nlt (b := M) (a := 5) (by omega) (by decide)), nm, show nI M - 1 = nI (M - 1) from pk_sub (b := 1) m1, gd_t (inb_nI (show M - 1 < 5 by omega) (by decide)), nI_clamp (by omega), r1]
  have hh := loopX (fun n i (y : Nat → Int32) => fX5_fit_50 n (nI (2 ^ M)) (nI M) y (nI (rtN M)) (nI (pwT M i)) (nI i)) (fun i y => ∀ j, j < i → y j = nI (pwT M j)) 32 (fun y => some (nI (2 ^ M), nI M, y)) ?_ ?_ 32 FU 0 pw (by omega) (FU_pos (by omega)) (fun j hj => by omega)
  · obtain ⟨y, a1, a2⟩ := hh
    exact ⟨y, a2, rfl, rfl, a1⟩
  · intro n i y hi hJ
    have hp := pw_lt hM hi
    have hmul : pwT M i * rtN M ≤ 97 * 97 := Nat.mul_le_mul (by omega) (by omega)
    refine ⟨upd y i (nI (pwT M i)), fun j hj => ?_, ?_⟩
    · by_cases e : j = i
      · subst e; exact pk_us
      · rw [pk_un e]; exact hJ j (by omega)
    · rw [fX5_fit_50.eq_2, if_neg (show ¬ ((32 : Int32) ≤ nI i) from nI_ge hi (by decide)), gd_t (inb_nI hi (by decide)), nm, nm, nm, nI_clamp (by omega), pk_mul, show (97 : Int32) = nI 97 from rfl, pk_rem (by omega) (by decide) (by decide), nI_1]
      rfl
  · intro n y hJ
    rw [fX5_fit_50.eq_2, if_pos (show (32 : Int32) ≤ nI 32 by decide)]
theorem bySize_m {M : Nat} (hM : isM M) {told : Nat → Int32} (h0 : told 0 = nI (2 ^ M)) (p0 : Int32) (roots : Nat → Int32) : ∃ roots', fX10_bySize p0 roots told = some (nI M, roots') ∧ ∀ j, j < 2 ^ M → roots' j = nI (pwT M j) := by
  have h32 := isM_pow hM
  obtain ⟨m1, m5⟩ := id hM
  obtain ⟨-, r2⟩ := rt_x hM
  have h5 : ∀ d n p, p + d = M → d < n → fX10_bySize_5 told n (nI p) roots = fX10_bySize_31 told (nI M) roots := by
    intro d
    induction d with
    | zero =>
      intro n p h1 h2
      obtain ⟨n, rfl⟩ : ∃ m, n = m + 1 := ⟨n - 1, by omega⟩
      obtain rfl : p = M := by omega
      rw [fX10_bySize_5.eq_2, size_eq, bd1_s, h0, show (1 : Int32) = nI 1 from rfl, shl_nI (by omega) (by rw [Nat.one_mul]; omega), Nat.one_mul, if_pos (nI_le (Nat.le_refl _) (by omega))]
    | succ d ih =>
      intro n p h1 h2
      obtain ⟨n, rfl⟩ : ∃ m, n = m + 1 := ⟨n - 1, by omega⟩
      have hlt : 2 ^ p < 2 ^ M := Nat.pow_lt_pow_right (by decide) (by omega)
      rw [fX10_bySize_5.eq_2, size_eq, bd1_s, h0, show (1 : Int32) = nI 1 from rfl, shl_nI (by omega) (by rw [Nat.one_mul]; omega), Nat.one_mul, if_neg (nI_ge hlt (by omega)), nm, nI_add]
      exact ih n (p + 1) (by omega) (by omega)
  have h31 : fX10_bySize_31 told (nI M) roots = fX10_bySize_88 told (nI M) roots (nI (rtN M)) := by
    unfold fX10_bySize_31
    rw [size_eq]
    simp only [bd1_s]
    rw [h0]
    rcases (show M = 1 ∨ M = 2 ∨ M = 3 ∨ M = 4 ∨ M = 5 by omega) with rfl | rfl | rfl | rfl | rfl
    · rw [if_neg (show ¬ (nI (2 ^ 1) = 32) by decide), if_neg (show ¬ (nI (2 ^ 1) = 16) by decide), if_neg (show ¬ (nI (2 ^ 1) = 8) by decide), if_neg (show ¬ (nI (2 ^ 1) = 4) by decide), show nI (rtN 1) = 96 from rfl]
    · rw [if_neg (show ¬ (nI (2 ^ 2) = 32) by decide), if_neg (show ¬ (nI (2 ^ 2) = 16) by decide), if_neg (show ¬ (nI (2 ^ 2) = 8) by decide), if_pos (show nI (2 ^ 2) = 4 by decide), show nI (rtN 2) = 22 from rfl]
    · rw [if_neg (show ¬ (nI (2 ^ 3) = 32) by decide), if_neg (show ¬ (nI (2 ^ 3) = 16) by decide), if_pos (show nI (2 ^ 3) = 8 by decide), show nI (rtN 3) = 64 from rfl]
    · rw [if_neg (show ¬ (nI (2 ^ 4) = 32) by decide), if_pos (show nI (2 ^ 4) = 16 by decide), show nI (rtN 4) = 8 from rfl]
    · rw [if_pos (show nI (2 ^ 5) = 32 by decide), show nI (rtN 5) = 28 from rfl]
  unfold fX10_bySize
  rw [show fX10_bySize_5 told FU 0 roots = _ from h5 M FU 0 (by omega) (FU_pos (by omega)), h31]
  unfold fX10_bySize_88
  rw [gd_t (show inb (0 : Int32) 32 = true by decide), nm, show Int32.toNatClampNeg 0 = 0 from rfl]
  have hh := loopX (fun n i (y : Nat → Int32) => fX10_bySize_98 told n (nI M) y (nI (rtN M)) (nI i)) (fun i y => 1 ≤ i ∧ ∀ j, j < i → y j = nI (pwT M j)) (2 ^ M) (fun y => some (nI M, y)) ?_ ?_ (2 ^ M - 1) FU 1 (upd roots 0 1) (by omega) (FU_pos (by omega)) ⟨Nat.le_refl _, fun j hj => by
    obtain rfl : j = 0 := by omega
    exact pk_us⟩
  · obtain ⟨y, a1, a2⟩ := hh
    exact ⟨y, a2, a1.2⟩
  · intro n i y hi hJ
    obtain ⟨i, rfl⟩ : ∃ m, i = m + 1 := ⟨i - 1, by omega⟩
    have hp := pw_lt hM (show i < 32 by omega)
    have hmul : pwT M i * rtN M ≤ 97 * 97 := Nat.mul_le_mul (by omega) (by omega)
    refine ⟨upd y (i + 1) (nI (pwT M (i + 1))), ⟨by omega, fun j hj => ?_⟩, ?_⟩
    · by_cases e : j = i + 1
      · subst e; exact pk_us
      · rw [pk_un e]; exact hJ.2 j (by omega)
    · rw [fX10_bySize_98.eq_2, size_eq, bd1_s, h0, if_neg (nI_ge hi (by omega)), nm, nI_pred, gd_t (inb_nI (show i < 32 by omega) (by decide)), gd_t (inb_nI (show i + 1 < 32 by omega) (by decide)), nm, nm, nI_clamp (by omega), nI_clamp (by omega), hJ.2 i (by omega), pk_mul, show (97 : Int32) = nI 97 from rfl, pk_rem (by omega) (by decide) (by decide), nI_1]
      rfl
  · intro n y hJ
    rw [fX10_bySize_98.eq_2, size_eq, bd1_s, h0, if_pos (nI_le (Nat.le_refl _) (by omega))]
theorem keepText_m {M bits rad ord nr sd : Nat} (hC : CF M bits rad ord nr sd) {told tW re im : Nat → Int32} (t6 : told 6 = nI (2 ^ M)) (t7 : told 7 = nI bits) (t8 : told 8 = nI rad) (t9 : told 9 = nI ord) (t10 : told 10 = nI nr) (t11 : told 11 = nI sd) (hW : ∀ p, p < 32 → tW (64 + p) = re p ∧ tW (96 + p) = im p) (b0 ii un rr ro rn rl rh pw nm0 kt : Int32) (all roots ha : Nat → Int32) :
    ∃ all' roots' told' tW', fX10_keepText b0 ii un rr ro rn rl rh pw nm0 kt all roots told tW = some (0, 0, 0, nI rad, nI ord, nI nr, nI (lmN bits), 1, nI M, 0, -1, all', roots', told', tW') ∧ (∀ j, j < 6 → told' j = told (6 + j)) ∧ (∀ j, j < 2 ^ M → roots' j = nI (pwT M j)) ∧ RWS all' 0 (re, im) 0 0 0 ha ∧ WASR all' 0 (re, im) := by
  obtain ⟨hM, hbits, hr, ho, hn, hsd⟩ := id hC
  unfold fX10_keepText
  have hh := loopX (fun n i (y : Nat → Int32) => fX10_keepText_2 n b0 ii un rr ro rn rl rh pw nm0 kt all roots y tW (nI i)) (fun i y => (∀ j, j < i → y j = told (6 + j)) ∧ ∀ j, 6 ≤ j → y j = told j) 6 (fun y => fX10_keepText_29 b0 ii un rr ro rn rl rh pw nm0 kt all roots y tW) ?_ ?_ 6 FU 0 told (by omega) (FU_pos (by omega)) ⟨fun j hj => by omega, fun _ _ => rfl⟩
  · obtain ⟨td, ⟨d1, d2⟩, e1⟩ := hh
    obtain ⟨roots', f1, f2⟩ := bySize_m hM (show td 0 = nI (2 ^ M) by rw [d1 0 (by decide)]; exact t6) pw roots
    have h35 := loopX (fun n i (y : Nat → Int32) => fX10_keepText_35 n b0 ii un rr ro rn rl rh (nI M) nm0 kt all roots' td y (nI i)) (fun i y => (∀ j, j < i → y j = tW (64 + j)) ∧ ∀ j, 64 ≤ j → y j = tW j) 64 (fun y => fX10_keepText_62 b0 ii un rr ro rn rl rh (nI M) nm0 kt all roots' td y) ?_ ?_ 64 FU 0 tW (by omega) (FU_pos (by omega)) ⟨fun j hj => by omega, fun _ _ => rfl⟩
    · obtain ⟨tw', ⟨w1, w2⟩, e2⟩ := h35
      have hby : fX10_byText rr ro rn rl rh td = some (nI rad, nI ord, nI nr, nI (lmN bits), 1) := by
        unfold fX10_byText
        simp only [nm, gd_t (show inb (2 : Int32) 12 = true by decide), gd_t (show inb (3 : Int32) 12 = true by decide), gd_t (show inb (4 : Int32) 12 = true by decide), gd_t (show inb (1 : Int32) 12 = true by decide), show Int32.toNatClampNeg 1 = 1 from rfl, show Int32.toNatClampNeg 2 = 2 from rfl, show Int32.toNatClampNeg 3 = 3 from rfl, show Int32.toNatClampNeg 4 = 4 from rfl]
        rw [d1 1 (by decide), d1 2 (by decide), d1 3 (by decide), d1 4 (by decide), t7, t8, t9, t10, limitOf_eq hbits, bd1_s]
      have h73 := loopF (fun n i (y : Nat → Int32) => fX10_keepText_73 n 0 ii un (nI rad) (nI ord) (nI nr) (nI (lmN bits)) 1 (nI M) nm0 kt y roots' td tw' (nI i)) (fun i => blk all 0 (fun _ => 0) i) 136 (fX10_keepText_92 0 ii un (nI rad) (nI ord) (nI nr) (nI (lmN bits)) 1 (nI M) nm0 kt (blk all 0 (fun _ => 0) 136) roots' td tw') ?_ ?_ 136 FU 0 (by omega) (FU_pos (by omega))
      · have h94 := loopX (fun n i (y : Nat → Int32) => fX10_keepText_94 n 0 ii un (nI rad) (nI ord) (nI nr) (nI (lmN bits)) 1 (nI M) nm0 kt y roots' td tw' (nI i)) (fun i y => (∀ j, j < i → y j = tW (64 + j) ∧ y (64 + j) = tW (64 + j)) ∧ ∀ j, 128 ≤ j → y j = blk all 0 (fun _ => 0) 136 j) 64 (fun y => fX10_keepText_131 0 ii un (nI rad) (nI ord) (nI nr) (nI (lmN bits)) 1 (nI M) nm0 kt y roots' td tw') ?_ ?_ 64 FU 0 (blk all 0 (fun _ => 0) 136) (by omega) (FU_pos (by omega)) ⟨fun j hj => by omega, fun _ _ => rfl⟩
        · obtain ⟨al, ⟨l1, l2⟩, e3⟩ := h94
          have hz : ∀ j, 128 ≤ j → j < 136 → al j = 0 := fun j h1 h2 => by rw [l2 j h1, blk_in (by omega) (by omega)]
          refine ⟨blk al 131 (fun _ => -2) 5, roots', td, tw', ?_, fun j hj => d1 j hj, f2, ⟨fun p hp => ?_, ?_, ?_, ?_, fun j hj => ?_⟩, fun p hp => ?_⟩
          · refine e1.trans ?_
            unfold fX10_keepText_29
            rw [f1, bd2_s]
            refine (show fX10_keepText_35 FU b0 ii un rr ro rn rl rh (nI M) nm0 kt all roots' td tW 0 = _ from e2).trans ?_
            unfold fX10_keepText_62
            rw [hby, bd5_s]
            rw [blk_0] at h73
            refine (show fX10_keepText_73 FU 0 ii un (nI rad) (nI ord) (nI nr) (nI (lmN bits)) 1 (nI M) nm0 kt all roots' td tw' 0 = _ from h73).trans ?_
            unfold fX10_keepText_92
            refine (show fX10_keepText_94 FU 0 ii un (nI rad) (nI ord) (nI nr) (nI (lmN bits)) 1 (nI M) nm0 kt (blk all 0 (fun _ => 0) 136) roots' td tw' 0 = _ from e3).trans ?_
            unfold fX10_keepText_131
            rw [show fX10_noneHalved 0 al = _ from noneHalved_eq (b := 0) (by decide) al, bd1_s]
          · rw [blk_out (by omega), blk_out (by omega), show 136 * 0 + p = p by omega, show 136 * 0 + 32 + p = 32 + p by omega, (l1 p (by omega)).1, (l1 (32 + p) (by omega)).1, show 64 + (32 + p) = 96 + p by omega]
            exact hW p hp
          · rw [blk_out (by omega)]; exact hz 128 (by decide) (by decide)
          · rw [blk_out (by omega)]; exact hz 129 (by decide) (by decide)
          · rw [blk_out (by omega)]; exact hz 130 (by decide) (by decide)
          · rw [show 136 * 0 + (131 + j) = 131 + j by omega, blk_at hj, if_neg (by omega)]
          · rw [blk_out (by omega), blk_out (by omega), show 136 * 0 + 64 + p = 64 + p by omega, show 136 * 0 + 96 + p = 64 + (32 + p) by omega, (l1 p (by omega)).2, (l1 (32 + p) (by omega)).2, show 64 + (32 + p) = 96 + p by omega]
            exact hW p hp
        · intro n i y hi hJ
          refine ⟨upd (upd y i (tW (64 + i))) (64 + i) (tW (64 + i)), ⟨fun j hj => ?_, fun j hj => ?_⟩, ?_⟩
          · by_cases e : j = i
            · subst e
              rw [pk_un (by omega), pk_us, pk_us]
              exact ⟨rfl, rfl⟩
            · rw [pk_un (show j ≠ 64 + i by omega), pk_un e, pk_un (show 64 + j ≠ 64 + i by omega), pk_un (show 64 + j ≠ i by omega)]
              exact hJ.1 j (by omega)
          · rw [pk_un (by omega), pk_un (by omega)]; exact hJ.2 j hj
          · rw [fX10_keepText_94.eq_2, if_neg (show ¬ ((64 : Int32) ≤ nI i) from nI_ge hi (by decide)), gd_t (inb_nI (show i < 128 by omega) (by decide)), nI_clamp (by omega), w1 i hi, show fX10_lay 0 y (nI i) (tW (64 + i)) = _ from lay_eq (b := 0) (by decide) (by omega) y _, bd1_s, gd_t (inb_nI (show i < 128 by omega) (by decide)), show (64 : Int32) + nI i = nI (64 + i) from nI_add 64 i, show ∀ z : Nat → Int32, fX10_lay 0 z (nI (64 + i)) (tW (64 + i)) = _ from fun z => lay_eq (b := 0) (by decide) (by omega) z _, bd1_s, nm, nI_1, show 136 * 0 + i = i by omega, show 136 * 0 + (64 + i) = 64 + i by omega]
        · intro n y hJ
          rw [fX10_keepText_94.eq_2, if_pos (show (64 : Int32) ≤ nI 64 by decide)]
      · intro n i hi
        show fX10_keepText_73 (n + 1) 0 ii un (nI rad) (nI ord) (nI nr) (nI (lmN bits)) 1 (nI M) nm0 kt _ roots' td tw' (nI i) = _
        rw [fX10_keepText_73.eq_2, if_neg (show ¬ ((136 : Int32) ≤ nI i) from nI_ge hi (by decide)), show ∀ z : Nat → Int32, fX10_lay 0 z (nI i) 0 = _ from fun z => lay_eq (b := 0) (by decide) (by omega) z _, bd1_s, nm, nI_1, show 136 * 0 + i = 0 + i by omega]
        exact congrArg (fun z => fX10_keepText_73 n 0 ii un (nI rad) (nI ord) (nI nr) (nI (lmN bits)) 1 (nI M) nm0 kt z roots' td tw' (nI (i + 1))) (blk_s (v := fun _ => (0 : Int32)))
      · intro n
        show fX10_keepText_73 (n + 1) 0 ii un (nI rad) (nI ord) (nI nr) (nI (lmN bits)) 1 (nI M) nm0 kt _ roots' td tw' (nI 136) = _
        rw [fX10_keepText_73.eq_2, if_pos (show (136 : Int32) ≤ nI 136 by decide)]
    · intro n i y hi hJ
      refine ⟨upd y i (tW (64 + i)), ⟨fun j hj => ?_, fun j hj => ?_⟩, ?_⟩
      · by_cases e : j = i
        · subst e; exact pk_us
        · rw [pk_un e]; exact hJ.1 j (by omega)
      · rw [pk_un (by omega)]; exact hJ.2 j hj
      · rw [fX10_keepText_35.eq_2, if_neg (show ¬ ((64 : Int32) ≤ nI i) from nI_ge hi (by decide)), nm, show (64 : Int32) + nI i = nI (64 + i) from nI_add 64 i, gd_t (inb_nI (show 64 + i < 128 by omega) (by decide)), gd_t (inb_nI (show i < 128 by omega) (by decide)), nm, nm, nI_clamp (by omega), nI_clamp (by omega), hJ.2 (64 + i) (by omega), nI_1]
    · intro n y hJ
      rw [fX10_keepText_35.eq_2, if_pos (show (64 : Int32) ≤ nI 64 by decide)]
  · intro n i y hi hJ
    refine ⟨upd y i (told (6 + i)), ⟨fun j hj => ?_, fun j hj => ?_⟩, ?_⟩
    · by_cases e : j = i
      · subst e; exact pk_us
      · rw [pk_un e]; exact hJ.1 j (by omega)
    · rw [pk_un (by omega)]; exact hJ.2 j hj
    · rw [fX10_keepText_2.eq_2, if_neg (show ¬ ((6 : Int32) ≤ nI i) from nI_ge hi (by decide)), nm, show (6 : Int32) + nI i = nI (6 + i) from nI_add 6 i, gd_t (inb_nI (show 6 + i < 12 by omega) (by decide)), gd_t (inb_nI (show i < 12 by omega) (by decide)), nm, nm, nI_clamp (by omega), nI_clamp (by omega), hJ.2 (6 + i) (by omega), nI_1]
  · intro n y hJ
    rw [fX10_keepText_2.eq_2, if_pos (show (6 : Int32) ≤ nI 6 by decide)]
