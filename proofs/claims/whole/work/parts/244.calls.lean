/-! ===== returned, best ===== -/
theorem run_S {hl bk M rad ord nr lim : Nat} {c s : Nat → Int32} : ∀ d k (y y' : RunZ), y.1 = y'.1 → y.2.1 = y'.2.1 → (itr (stp hl bk M rad ord nr lim c s) k d y).1 = (itr (stp hl bk M rad ord nr lim c s) k d y').1 ∧ (itr (stp hl bk M rad ord nr lim c s) k d y).2.1 = (itr (stp hl bk M rad ord nr lim c s) k d y').2.1 ∧ (itr (stp hl bk M rad ord nr lim c s) k d y).2.2.1 + y'.2.2.1 = (itr (stp hl bk M rad ord nr lim c s) k d y').2.2.1 + y.2.2.1 := by
  intro d
  induction d with
  | zero =>
    intro k y y' h1 h2
    exact ⟨h1, h2, Nat.add_comm _ _⟩
  | succ d ih =>
    intro k y y' h1 h2
    have hh := ih (k + 1) (stp hl bk M rad ord nr lim c s k y) (stp hl bk M rad ord nr lim c s k y') (by unfold stp; rw [h1]) (by unfold stp; rw [h1, h2])
    obtain ⟨a1, a2, a3⟩ := hh
    refine ⟨a1, a2, ?_⟩
    have e1 : (stp hl bk M rad ord nr lim c s k y).2.2.1 = y.2.2.1 + stN hl M rad ord nr lim k y.1 := rfl
    have e2 : (stp hl bk M rad ord nr lim c s k y').2.2.1 = y'.2.2.1 + stN hl M rad ord nr lim k y'.1 := rfl
    rw [e1, e2, ← h1] at a3
    show (itr (stp hl bk M rad ord nr lim c s) (k + 1) d (stp hl bk M rad ord nr lim c s k y)).2.2.1 + y'.2.2.1 = (itr (stp hl bk M rad ord nr lim c s) (k + 1) d (stp hl bk M rad ord nr lim c s k y')).2.2.1 + y.2.2.1
    omega
theorem run_xb {hl M rad ord nr lim : Nat} {c s : Nat → Int32} : ∀ d k (y : RunZ), k + d + 1 = nst M rad → y.2.1 = nI y.2.2.1 → (itr (stp hl 1 M rad ord nr lim c s) k (d + 1) y).2.1 + nI M = nI (itr (stp hl 1 M rad ord nr lim c s) k (d + 1) y).2.2.1 := by
  intro d
  induction d with
  | zero =>
    intro k y h1 h2
    show stX 1 M rad k y.2.1 (stN hl M rad ord nr lim k y.1) + nI M = nI (y.2.2.1 + stN hl M rad ord nr lim k y.1)
    unfold stX
    rw [if_pos ⟨by decide, by omega⟩, h2, nI_add]
    grind
  | succ d ih =>
    intro k y h1 h2
    refine ih (k + 1) _ (by omega) ?_
    show stX 1 M rad k y.2.1 (stN hl M rad ord nr lim k y.1) = nI (y.2.2.1 + stN hl M rad ord nr lim k y.1)
    unfold stX
    rw [if_neg (by omega), h2, nI_add]
/-- a run back, all stages, with what was halved before -/
noncomputable def runB (M rad ord nr lim : Nat) (c s : Nat → Int32) (z : RowZ) (S : Nat) : RunZ := itr (stp 1 1 M rad ord nr lim c s) 0 (nst M rad) (z, nI S, S, fun _ => 0)
/-- there and back -/
noncomputable def runR (M rad ord nr lim : Nat) (c s : Nat → Int32) (z : RowZ) : RunZ := runB M rad ord nr lim c s (opNg M (runT M rad ord nr lim c s z).1) (tS M rad ord nr lim c s z)
theorem SB_ng {M S t : Nat} {z : RowZ} (h : SB M z S t) : SB M (opNg M z) S t := by
  obtain ⟨B, h1, h2, h3, h4⟩ := h
  exact ⟨B, h1, h2, ng_bd (by omega) h3, h4⟩
theorem runR_SB {M rad ord nr lim : Nat} {c s : Nat → Int32} {z : RowZ} (hc : CFG M rad ord nr lim) (hT : TBB c s) (hB : BDz M z (2 ^ 16)) : SB M (runR M rad ord nr lim c s z).1 (runR M rad ord nr lim c s z).2.2.1 (nst M rad + nst M rad) := SB_run (bk := 1) hc hT (nst M rad) 0 (opNg M (runT M rad ord nr lim c s z).1, nI (tS M rad ord nr lim c s z), tS M rad ord nr lim c s z, fun _ => 0) (nst M rad) (by omega) (SB_ng (runT_SB hc hT hB))
theorem runR_Z {M rad ord nr lim : Nat} {c s : Nat → Int32} {z : RowZ} (h : ZR M z) : ZR M (runR M rad ord nr lim c s z).1 := ZR_run (nst M rad) 0 (opNg M (runT M rad ord nr lim c s z).1, nI (tS M rad ord nr lim c s z), tS M rad ord nr lim c s z, fun _ => 0) (OUT_Z ng_out (runT_Z h))
theorem returned68 {M : Nat} (hM : isM M) {z w : RowZ} {S : Nat} {o_trial_re o_trial_im o_wave_wasRe o_wave_wasIm : Nat → Int32} (h1 : RE32 (o_trial_re, o_trial_im) z) (h2 : RE32 (o_wave_wasRe, o_wave_wasIm) w) (o_trial_exp : Int32) (o_trial_done : Int32) (o_trial_backward : Int32) (o_beater_spareIm : Nat → Int32) (o_beater_spareRe : Nat → Int32) (o_beater_wingIm : Nat → Int32) (o_beater_wingRe : Nat → Int32) (o_trial_halved : Nat → Int32) :
    ∃ r o, fX9_returned_68 (nI (2 ^ M)) (nI M) o_wave_wasIm o_wave_wasRe FU o_trial_exp o_trial_done o_trial_backward o_beater_spareIm o_beater_spareRe o_beater_wingIm o_beater_wingRe o_trial_halved o_trial_im o_trial_re (nI S) ((0 : Int64)) ((0 : Int32)) = some (r, o) ∧ MXP (2 ^ M) (dfV z w S M 0) (dfV z w S M 1) r := by
  have hN := isM_pow hM
  have hh := loopX (fun n i (y : Int64) => fX9_returned_68 (nI (2 ^ M)) (nI M) o_wave_wasIm o_wave_wasRe n o_trial_exp o_trial_done o_trial_backward o_beater_spareIm o_beater_spareRe o_beater_wingIm o_beater_wingRe o_trial_halved o_trial_im o_trial_re (nI S) y (nI i)) (fun i y => MXP i (dfV z w S M 0) (dfV z w S M 1) y) (2 ^ M) (fun y => some (y, o_trial_exp, o_trial_done, o_trial_backward, o_beater_spareIm, o_beater_spareRe, o_beater_wingIm, o_beater_wingRe, o_trial_halved, o_trial_im, o_trial_re)) ?_ ?_ (2 ^ M) FU 0 0 (by omega) (FU_pos (by omega)) MXP_0
  · obtain ⟨y, hJ, e⟩ := hh
    exact ⟨y, _, e, hJ⟩
  · intro n i y hi hJ
    refine ⟨_, MXP_s hJ, ?_⟩
    rw [fX9_returned_68.eq_2, if_neg (nI_ge hi (by omega))]
    unfold fX9_scaled
    have e1 := h1 i (by omega)
    have e2 := h2 i (by omega)
    dsimp only at e1 e2
    simp only [nm, bd1_s, gd_t (inb_nI (show i < 32 by omega) (by decide)), nI_clamp (show i < 2 ^ 31 by omega), nI_1, e1.1, e1.2, e2.1, e2.2]
    rfl
  · intro n y hJ
    rw [fX9_returned_68.eq_2, if_pos (nI_le (Nat.le_refl _) (by omega))]
theorem returned_c {M bits rad ord nr sd : Nat} {o_turns_cos o_turns_sin o_wave_wasRe o_wave_wasIm o_way_shifts : Nat → Int32} (hC : CF M bits rad ord nr sd) (hSH : SHF M rad ord o_way_shifts) (hT : TBB o_turns_cos o_turns_sin) (hB : BDz M (o_wave_wasRe, o_wave_wasIm) (2 ^ 16)) (o_trial_exp : Int32) (o_trial_done : Int32) (o_trial_backward : Int32) (o_beater_spareIm : Nat → Int32) (o_beater_spareRe : Nat → Int32) (o_beater_wingIm : Nat → Int32) (o_beater_wingRe : Nat → Int32) (o_trial_halved : Nat → Int32) (o_trial_im : Nat → Int32) (o_trial_re : Nat → Int32) :
    ∃ r o, fX9_returned o_trial_exp o_trial_done o_trial_backward (nI (2 ^ M)) (nI M) (nI (lmN bits)) (nI ord) (nI nr) (nI (nst M rad)) o_beater_spareIm o_beater_spareRe o_beater_wingIm o_beater_wingRe o_trial_halved o_trial_im o_trial_re o_turns_cos o_turns_sin o_wave_wasIm o_wave_wasRe o_way_shifts = some (r, o) ∧ MXP (2 ^ M) (dfV (runR M rad ord nr (lmN bits) o_turns_cos o_turns_sin (o_wave_wasRe, o_wave_wasIm)).1 (o_wave_wasRe, o_wave_wasIm) (runR M rad ord nr (lmN bits) o_turns_cos o_turns_sin (o_wave_wasRe, o_wave_wasIm)).2.2.1 M 0) (dfV (runR M rad ord nr (lmN bits) o_turns_cos o_turns_sin (o_wave_wasRe, o_wave_wasIm)).1 (o_wave_wasRe, o_wave_wasIm) (runR M rad ord nr (lmN bits) o_turns_cos o_turns_sin (o_wave_wasRe, o_wave_wasIm)).2.2.1 M 1) r := by
  obtain ⟨hM, hbits, hr, ho, hn, hsd⟩ := id hC
  have hns := nst_le hM hr
  have hc := CF_c hC
  obtain ⟨im', re', r1, r2⟩ := restartFrom_eq o_trial_exp o_trial_done o_trial_backward o_wave_wasIm o_wave_wasRe o_trial_im o_trial_re
  obtain ⟨ha2, im2, re2, si2, sr2, wi2, wr2, f1, f2⟩ := class_run hc hSH hT hB r2 o_trial_halved o_beater_spareIm o_beater_spareRe o_beater_wingIm o_beater_wingRe
  have g1 : RE32 (re2, ngR M im2) (opNg M (runT M rad ord nr (lmN bits) o_turns_cos o_turns_sin (o_wave_wasRe, o_wave_wasIm)).1) := ng_re f2
  have hB2 : BDz M (opNg M (runT M rad ord nr (lmN bits) o_turns_cos o_turns_sin (o_wave_wasRe, o_wave_wasIm)).1) (2 ^ 16) := SB_B (SB_ng (runT_SB hc hT hB))
  obtain ⟨si4, sr4, wi4, wr4, f3⟩ := doStages_eq (hl := 1) (bk := 1) (k := 0) (m := 5) (by decide) (by decide) hc (Nat.zero_le _) (by decide) hSH hT (re2, ngR M im2) (fun _ => BD_z hM g1 hB2) (nI (tS M rad ord nr (lmN bits) o_turns_cos o_turns_sin (o_wave_wasRe, o_wave_wasIm))) ha2 si2 sr2 wi2 wr2
  rw [show min 5 (nst M rad - 0) = nst M rad by omega] at f3
  have hU := run_re (hl := 1) (bk := 1) (nr := nr) (lim := lmN bits) (c := o_turns_cos) (s := o_turns_sin) hM hr ho (nst M rad) 0 ((re2, ngR M im2), nI (tS M rad ord nr (lmN bits) o_turns_cos o_turns_sin (o_wave_wasRe, o_wave_wasIm)), 0, ha2) (opNg M (runT M rad ord nr (lmN bits) o_turns_cos o_turns_sin (o_wave_wasRe, o_wave_wasIm)).1, nI (tS M rad ord nr (lmN bits) o_turns_cos o_turns_sin (o_wave_wasRe, o_wave_wasIm)), 0, fun _ => 0) (by omega) ⟨g1, rfl, rfl⟩
  have hS := run_S (hl := 1) (bk := 1) (M := M) (rad := rad) (ord := ord) (nr := nr) (lim := lmN bits) (c := o_turns_cos) (s := o_turns_sin) (nst M rad) 0 (opNg M (runT M rad ord nr (lmN bits) o_turns_cos o_turns_sin (o_wave_wasRe, o_wave_wasIm)).1, nI (tS M rad ord nr (lmN bits) o_turns_cos o_turns_sin (o_wave_wasRe, o_wave_wasIm)), 0, fun _ => 0) (opNg M (runT M rad ord nr (lmN bits) o_turns_cos o_turns_sin (o_wave_wasRe, o_wave_wasIm)).1, nI (tS M rad ord nr (lmN bits) o_turns_cos o_turns_sin (o_wave_wasRe, o_wave_wasIm)), tS M rad ord nr (lmN bits) o_turns_cos o_turns_sin (o_wave_wasRe, o_wave_wasIm), fun _ => 0) rfl rfl
  obtain ⟨Y, eY⟩ : ∃ Y, Y = itr (stp 1 1 M rad ord nr (lmN bits) o_turns_cos o_turns_sin) 0 (nst M rad) ((re2, ngR M im2), nI (tS M rad ord nr (lmN bits) o_turns_cos o_turns_sin (o_wave_wasRe, o_wave_wasIm)), 0, ha2) := ⟨_, rfl⟩
  rw [← eY] at f3 hU
  dsimp only at f3
  obtain ⟨u1, u2, u3⟩ := hU
  obtain ⟨v1, v2, v3⟩ := hS
  have hY1 : RE32 (Y.1.1, Y.1.2) (runR M rad ord nr (lmN bits) o_turns_cos o_turns_sin (o_wave_wasRe, o_wave_wasIm)).1 := by
    rw [v1] at u1
    exact u1
  have hY3 : tS M rad ord nr (lmN bits) o_turns_cos o_turns_sin (o_wave_wasRe, o_wave_wasIm) + Y.2.2.1 = (runR M rad ord nr (lmN bits) o_turns_cos o_turns_sin (o_wave_wasRe, o_wave_wasIm)).2.2.1 := by
    rw [u3, Nat.add_comm]
    exact v3
  unfold fX9_returned
  rw [r1, bd5_s, f1, bd10_s, fX7_goBack, flipIm_eq hM, bd1_s]
  simp only [nm]
  rw [bd3_s, show fX0_doStages (nI (tS M rad ord nr (lmN bits) o_turns_cos o_turns_sin (o_wave_wasRe, o_wave_wasIm))) 0 1 (nI (2 ^ M)) (nI M) (nI (lmN bits)) (nI ord) (nI nr) (nI (nst M rad)) ha2 (ngR M im2) re2 o_way_shifts si2 sr2 wi2 wr2 o_turns_cos o_turns_sin 5 1 = _ from f3, bd10_s]
  rw [nI_add, hY3]
  exact returned68 hM hY1 RE_r ..
theorem returned39 {M : Nat} (hM : isM M) {al li lr told : Nat → Int32} {z w : RowZ} {S t : Nat} (th a b c d e : Int32) (hz : RW al 1 z) (hw : WASR al 1 w) (hS : SB M z S t) (ht : t ≤ 10) (hZ : ZR M z) (hB : BDz M w (2 ^ 16)) (hZw : ZR M w) :
    ∃ r, fX10_returned_39 (nI M) told FU th (nI 1) a b c d e al li lr (nI S) 0 0 = fX10_returned_95 told th (nI 1) a b c d e al li lr r ∧ MXP 32 (dfV z w S M 0) (dfV z w S M 1) r := by
  obtain ⟨m1, m5⟩ := id hM
  have bw : ∀ p, p < 32 → ab6 (shV (w.1 p) M) ≤ 2 ^ 61 ∧ ab6 (shV (w.2 p) M) ≤ 2 ^ 61 := fun p hp => by
    have h32 : 2 ^ M ≤ 32 := (isM_pow hM).2
    have hS2 : SB M w M 2 := ⟨2 ^ 16, by decide, Nat.le_refl _, hB, by have := Nat.mul_le_mul_left (2 ^ 16) h32; omega⟩
    have := shV_bd hS2 (by decide) hZw hp
    omega
  have bz : ∀ p, p < 32 → ab6 (shV (z.1 p) S) ≤ 2 ^ 61 ∧ ab6 (shV (z.2 p) S) ≤ 2 ^ 61 := fun p hp => by
    have := shV_bd hS ht hZ hp
    omega
  have hv : ∀ i, i < 64 → fX10_apartBy (shV (al (136 * 1 + i)) S) (shV (al (136 * 1 + (64 + i))) M) = some (abL (shV (al (136 * 1 + i)) S - shV (al (136 * 1 + (64 + i))) M)) := fun i hi => by
    by_cases hl : i < 32
    · rw [(hz i hl).1, show 136 * 1 + (64 + i) = 136 * 1 + 64 + i by omega, (hw i hl).1]
      exact apartBy_eq (bz i hl).1 (bw i hl).1
    · obtain ⟨j, rfl⟩ : ∃ j, i = 32 + j := ⟨i - 32, by omega⟩
      rw [show 136 * 1 + (32 + j) = 136 * 1 + 32 + j by omega, show 136 * 1 + (64 + (32 + j)) = 136 * 1 + 96 + j by omega, (hz j (by omega)).2, (hw j (by omega)).2]
      exact apartBy_eq (bz j (by omega)).2 (bw j (by omega)).2
  have hh := loopX (fun n i (y : Int64) => fX10_returned_39 (nI M) told n th (nI 1) a b c d e al li lr (nI S) y (nI i)) (fun i y => MX1 i (fun p => abL (shV (al (136 * 1 + p)) S - shV (al (136 * 1 + (64 + p))) M)) y) 64 (fun y => fX10_returned_95 told th (nI 1) a b c d e al li lr y) ?_ ?_ 64 FU 0 0 (by omega) (FU_pos (by omega)) MX1_0
  · obtain ⟨y, hJ, e⟩ := hh
    refine ⟨y, e, MX1_P hJ (fun p hp => ?_)⟩
    rw [show 136 * 1 + (32 + p) = 136 * 1 + 32 + p by omega, show 136 * 1 + (64 + (32 + p)) = 136 * 1 + 96 + p by omega, show 136 * 1 + (64 + p) = 136 * 1 + 64 + p by omega, (hz p hp).1, (hz p hp).2, (hw p hp).1, (hw p hp).2]
    exact ⟨rfl, rfl⟩
  · intro n i y hi hJ
    refine ⟨_, MX1_s hJ, ?_⟩
    rw [fX10_returned_39.eq_2, if_neg (show ¬ ((64 : Int32) ≤ nI i) from nI_ge hi (by decide)), of_eq (by decide) (by omega), bd1_s, show (64 : Int32) + nI i = nI (64 + i) from nI_add 64 i, of_eq (by decide) (by omega), bd1_s, fX10_powerOf, bd1_s, show fX10_apartBy (Int32.toInt64 (al (136 * 1 + i)) <<< (Int32.toInt64 (nI S) &&& 63)) (Int32.toInt64 (al (136 * 1 + (64 + i))) <<< (Int32.toInt64 (nI M) &&& 63)) = _ from hv i hi, bd1_s]
    unfold fX10_returned_88
    simp only [nm, nI_1]
    by_cases h9 : abL (shV (al (136 * 1 + i)) S - shV (al (136 * 1 + (64 + i))) M) ≤ y
    · rw [if_pos h9, if_pos h9]
    · rw [if_neg h9, if_neg h9]
  · intro n y hJ
    rw [fX10_returned_39.eq_2, if_pos (show (64 : Int32) ≤ nI 64 from by decide)]
theorem returned_m {M bits rad ord nr sd : Nat} {all told c s : Nat → Int32} {w : RowZ} (hC : CF M bits rad ord nr sd) (hm : MOK M told mX10_61 c s) (hT : TBB c s) (hB : BDz M w (2 ^ 16)) (hZ : ZR M w) (hw : WASR all 0 w) (t1 : told 1 = nI bits) (t2 : told 2 = nI rad) (t3 : told 3 = nI ord) (t4 : told 4 = nI nr) (th : Int32) (li lr : Nat → Int32) :
    ∃ r all' li' lr', fX10_returned th 0 (nI rad) (nI ord) (nI nr) (nI (lmN bits)) 1 (nI M) all li lr mX10_61 told = some (r, 0, 0, nI rad, nI ord, nI nr, nI (lmN bits), 1, all', li', lr') ∧ FB1 all all' ∧
      MXP 32 (dfV (runR M rad ord nr (lmN bits) c s w).1 w (runR M rad ord nr (lmN bits) c s w).2.2.1 M 0) (dfV (runR M rad ord nr (lmN bits) c s w).1 w (runR M rad ord nr (lmN bits) c s w).2.2.1 M 1) r := by
  obtain ⟨hM, hbits, hr, ho, hn, hsd⟩ := id hC
  have hns := nst_le hM hr
  have hc := CF_c hC
  obtain ⟨al, a1, a2, a3, a4⟩ := asWas_x 0 (fun _ => 0) hw
  obtain ⟨al2, li2, lr2, ha2, e1, e2, e3⟩ := ref_run (b := 1) (by decide) hc hm hT hB hZ a2 li lr
  obtain ⟨al3, g1, g2, g3⟩ := goesBack_x (b := 1) (M := M) (by decide) e2 (runT_Z hZ) (fun _ => 0)
  have hB2 : BDz M (opNg M (runT M rad ord nr (lmN bits) c s w).1) (2 ^ 16) := SB_B (SB_ng (runT_SB hc hT hB))
  obtain ⟨al4, li4, lr4, e5, e6, e7⟩ := beatsAll_eq (hl := 1) (bk := 1) (k := 0) (b := 1) (by decide) (by decide) (by decide) hc (Nat.zero_le _) hm hT g2 (OUT_Z ng_out (runT_Z hZ)) (fun _ => hB2) (tS M rad ord nr (lmN bits) c s w) li2 lr2
  rw [Nat.sub_zero] at e6
  have e6' : RWS al4 1 (runR M rad ord nr (lmN bits) c s w).1 (runR M rad ord nr (lmN bits) c s w).2.1 (nst M rad) 1 (runR M rad ord nr (lmN bits) c s w).2.2.2 := e6
  have hx : (runR M rad ord nr (lmN bits) c s w).2.1 + nI M = nI (runR M rad ord nr (lmN bits) c s w).2.2.1 := by
    have := run_xb (hl := 1) (M := M) (rad := rad) (ord := ord) (nr := nr) (lim := lmN bits) (c := c) (s := s) (nst M rad - 1) 0 (opNg M (runT M rad ord nr (lmN bits) c s w).1, nI (tS M rad ord nr (lmN bits) c s w), tS M rad ord nr (lmN bits) c s w, fun _ => 0) (by omega) rfl
    rw [show nst M rad - 1 + 1 = nst M rad by omega] at this
    exact this
  have hF := FB1_t a4 (FB1_t (FRB_1 e3) (FB1_t (FRB_1 g3) (FRB_1 e7)))
  have hw4 : WASR al4 1 w := WASR_f e7 (WASR_f g3 (WASR_f e3 a3))
  obtain ⟨r, x1, x2⟩ := returned39 (told := told) (li := li4) (lr := lr4) hM 0 (nI rad) (nI ord) (nI nr) (nI (lmN bits)) 1 e6'.1 hw4 (runR_SB hc hT hB) (by omega) (runR_Z hZ) hB hZ
  refine ⟨r, al4, li4, lr4, ?_, hF, x2⟩
  unfold fX10_returned
  rw [a1, bd2_s, e1, bd3_s, g1, bd1_s, show fX10_beatsAll (nI 1) (nI rad) (nI ord) (nI nr) (nI (lmN bits)) 1 (nI M) al3 li2 lr2 mX10_61 told = _ from e5, bd3_s, show (128 : Int32) = nI 128 from rfl, of_eq (by decide) (by decide), bd1_s, fX10_powerOf, bd1_s, e6'.2.1]
  rw [nm, hx, x1, fX10_returned_95, asItIs_eq hbits t1 t2 t3 t4, bd6_s]
theorem k_returned {o_imageKept : Int32} {o_taped : Int32} {o_way_size : Int32} {o_way_log : Int32} {o_way_wordBits : Int32} {o_way_limit : Int32} {o_way_radix : Int32} {o_way_order : Int32} {o_way_near : Int32} {o_way_seed : Int32} {o_way_stages : Int32} {o_way_shifts : Nat → Int32} {o_wave_exp : Int32} {o_wave_done : Int32} {o_wave_backward : Int32} {o_wave_re : Nat → Int32} {o_wave_im : Nat → Int32} {o_wave_wasRe : Nat → Int32} {o_wave_wasIm : Nat → Int32} {o_wave_halved : Nat → Int32} {o_past_next : Int32} {o_past_held : Int32} {o_past_cells : Nat → Int32} {o_notes_total : Int32} {o_notes_knownBy : Int32} {o_notes_kinds : Nat → Int32} {o_notes_targets : Nat → Int32} {o_notes_bins : Nat → Int32} {o_ring_size : Int32} {o_ring_log : Int32} {o_ring_powers : Nat → Int32} {o_turns_cos : Nat → Int32} {o_turns_sin : Nat → Int32} {o_reader_fault : Int32} {o_reader_faultPlace : Int32} {o_image : Nat → Int32} {o_tape : Nat → Int32} {m_tapeSize : Int32} {m_fault : Int32} {m_faultPlace : Int32} {m_bank : Int32} {m_isImage : Int32} {m_undos : Int32} {m_runRadix : Int32} {m_runOrder : Int32} {m_runNear : Int32} {m_runLimit : Int32} {m_runHalves : Int32} {m_power : Int32} {m_notedMany : Int32} {m_knownTold : Int32} {m_tape : Nat → Int32} {m_words : Nat → Int32} {m_told : Nat → Int32} {m_all : Nat → Int32} {m_quarter : Nat → Int32} {m_roots : Nat → Int32} {m_noted1 : Nat → Int32} (hR : REL o_imageKept o_taped o_way_size o_way_log o_way_wordBits o_way_limit o_way_radix o_way_order o_way_near o_way_seed o_way_stages o_way_shifts o_wave_exp o_wave_done o_wave_backward o_wave_re o_wave_im o_wave_wasRe o_wave_wasIm o_wave_halved o_past_next o_past_held o_past_cells o_notes_total o_notes_knownBy o_notes_kinds o_notes_targets o_notes_bins o_ring_size o_ring_log o_ring_powers o_turns_cos o_turns_sin o_reader_fault o_reader_faultPlace o_image o_tape m_tapeSize m_fault m_faultPlace m_bank m_isImage m_undos m_runRadix m_runOrder m_runNear m_runLimit m_runHalves m_power m_notedMany m_knownTold m_tape m_words m_told m_all m_quarter m_roots m_noted1)   (o_trial_exp : Int32) (o_trial_done : Int32) (o_trial_backward : Int32) (o_beater_spareIm : Nat → Int32) (o_beater_spareRe : Nat → Int32) (o_beater_wingIm : Nat → Int32) (o_beater_wingRe : Nat → Int32) (o_trial_halved : Nat → Int32) (o_trial_im : Nat → Int32) (o_trial_re : Nat → Int32) (m_thrown : Int32) (m_laidIm : Nat → Int32) (m_laidRe : Nat → Int32) :
    ∃ (r : Int64) (out_o_trial_exp : Int32) (out_o_trial_done : Int32) (out_o_trial_backward : Int32) (out_o_beater_spareIm : Nat → Int32) (out_o_beater_spareRe : Nat → Int32) (out_o_beater_wingIm : Nat → Int32) (out_o_beater_wingRe : Nat → Int32) (out_o_trial_halved : Nat → Int32) (out_o_trial_im : Nat → Int32) (out_o_trial_re : Nat → Int32) (out_m_thrown : Int32) (out_m_bank : Int32) (out_m_runRadix : Int32) (out_m_runOrder : Int32) (out_m_runNear : Int32) (out_m_runLimit : Int32) (out_m_runHalves : Int32) (out_m_all : Nat → Int32) (out_m_laidIm : Nat → Int32) (out_m_laidRe : Nat → Int32), fX9_returned o_trial_exp o_trial_done o_trial_backward o_way_size o_way_log o_way_limit o_way_order o_way_near o_way_stages o_beater_spareIm o_beater_spareRe o_beater_wingIm o_beater_wingRe o_trial_halved o_trial_im o_trial_re o_turns_cos o_turns_sin o_wave_wasIm o_wave_wasRe o_way_shifts = some (r, out_o_trial_exp, out_o_trial_done, out_o_trial_backward, out_o_beater_spareIm, out_o_beater_spareRe, out_o_beater_wingIm, out_o_beater_wingRe, out_o_trial_halved, out_o_trial_im, out_o_trial_re) ∧ fX10_returned m_thrown m_bank m_runRadix m_runOrder m_runNear m_runLimit m_runHalves m_power m_all m_laidIm m_laidRe m_quarter m_told = some (r, out_m_thrown, out_m_bank, out_m_runRadix, out_m_runOrder, out_m_runNear, out_m_runLimit, out_m_runHalves, out_m_all, out_m_laidIm, out_m_laidRe) ∧ REL o_imageKept o_taped o_way_size o_way_log o_way_wordBits o_way_limit o_way_radix o_way_order o_way_near o_way_seed o_way_stages o_way_shifts o_wave_exp o_wave_done o_wave_backward o_wave_re o_wave_im o_wave_wasRe o_wave_wasIm o_wave_halved o_past_next o_past_held o_past_cells o_notes_total o_notes_knownBy o_notes_kinds o_notes_targets o_notes_bins o_ring_size o_ring_log o_ring_powers o_turns_cos o_turns_sin o_reader_fault o_reader_faultPlace o_image o_tape m_tapeSize m_fault m_faultPlace out_m_bank m_isImage m_undos out_m_runRadix out_m_runOrder out_m_runNear out_m_runLimit out_m_runHalves m_power m_notedMany m_knownTold m_tape m_words m_told out_m_all m_quarter m_roots m_noted1 := by
  have hR0 := hR
  obtain ⟨M, bits, rad, ord, nr, sd, hC, hW, hT, hG, hm, hV, hP, hI, hN, hA, hF1, hF2⟩ := hR
  obtain ⟨hM, hbits, hr, ho, hn, hsd⟩ := id hC
  obtain ⟨rfl, rfl, rfl, rfl, rfl, rfl, rfl, rfl, rfl, hSH⟩ := hW
  obtain ⟨rfl, rfl, rfl, rfl, rfl, rfl, rfl, rfl, rfl, t0, t1, t2, t3, t4, t5, hrt⟩ := hm
  have hN2 := isM_pow hM
  have hns := nst_le hM hr
  have hlm := lm_x hbits
  have hCG := CF_c hC
  have hV0 := hV
  obtain ⟨k, bk, rfl, rfl, hw, hws, hwi⟩ := hV
  have hMO := TRN_m hM hT t0
  have hTB := TRN_B hM hT
  have hB16 : BDz M (o_wave_wasRe, o_wave_wasIm) (2 ^ 16) := fun p hp => by have := hwi.2.2.2.2.2.1 p hp; omega
  have hZ := hwi.2.2.2.1
  obtain ⟨r, ⟨a1, a2, a3, a4, a5, a6, a7, a8, a9, a10⟩, e1, e2⟩ := returned_c hC hSH hTB hB16 o_trial_exp o_trial_done o_trial_backward o_beater_spareIm o_beater_spareRe o_beater_wingIm o_beater_wingRe o_trial_halved o_trial_im o_trial_re
  obtain ⟨r', all', li', lr', e3, e4, e5⟩ := returned_m hC hMO hTB hB16 hZ hws t1 t2 t3 t4 m_thrown m_laidIm m_laidRe
  obtain rfl := MXP_u (MXP_32 e2 hN2.2 (dfV_0 (runR_Z hZ) hZ)) e5
  exact ⟨_, _, _, _, _, _, _, _, _, _, _, _, _, _, _, _, _, _, _, _, _, e1, e3, M, bits, rad, ord, nr, sd, hC, ⟨rfl, rfl, rfl, rfl, rfl, rfl, rfl, rfl, rfl, hSH⟩, hT, hG, ⟨rfl, rfl, rfl, rfl, rfl, rfl, rfl, rfl, rfl, t0, t1, t2, t3, t4, t5, hrt⟩, WVR_1 e4 hV0, PSTR_1 e4 hP, IMGR_1 e4 hI, hN, hA, hF1, hF2⟩
