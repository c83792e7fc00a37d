/-! ===== taper, shift, turnRound, louder ===== -/
def tap (nr : Nat) (c v : Int32) : Int32 := Int64.toInt32 ((Int32.toInt64 v * Int32.toInt64 (16384 - c) + (if nr = 1 then 16384 else 0)) >>> (Int32.toInt64 15 &&& 63))
theorem tapered_eq {nr : Nat} (hn : nr < 2) (c v : Int32) : fX9_tapered (nI nr) v (16384 - c) = some (tap nr c v) := by
  unfold fX9_tapered fX9_tapered_26 tap
  simp only [nm]
  rcases (show nr = 0 ∨ nr = 1 by omega) with rfl | rfl
  · rw [if_neg (show ¬ (nI 0 = (1 : Int32)) by decide), if_neg (by decide), Int64.add_zero]
  · rw [if_pos (show nI 1 = (1 : Int32) from rfl), if_pos rfl]
theorem wid_sub {c : Int32} (hc : ab c ≤ 16384) : Int32.toInt64 (16384 - c) = 16384 - Int32.toInt64 c := by
  unfold ab at hc
  apply Int64.toInt_inj.mp
  have e : (16384 : Int32).toInt = 16384 := by decide
  have e6 : (16384 : Int64).toInt = 16384 := by decide
  rw [i64_w, i32_sub (by rw [e]; omega) (by rw [e]; omega), i64_sub (by rw [e6, i64_w]; omega) (by rw [e6, i64_w]; omega), i64_w, e, e6]
theorem rounded_15 {nr : Nat} (hn : nr < 2) {c : Int32} (hc : ab c ≤ 16384) (v : Int32) : ∃ r, fX10_rounded (nI nr) (Int32.toInt64 v * (16384 - Int32.toInt64 c)) 15 = some r ∧ Int64.toInt32 r = tap nr c v := by
  unfold fX10_rounded tap
  rw [wid_sub hc]
  rcases (show nr = 0 ∨ nr = 1 by omega) with rfl | rfl
  · rw [if_neg (show ¬ (nI 0 = (1 : Int32)) by decide), if_neg (by decide), Int64.add_zero]
    exact ⟨_, rfl, rfl⟩
  · rw [if_pos (show nI 1 = (1 : Int32) from rfl), if_pos rfl, show ((1 : Int64) <<< (Int32.toInt64 (15 - 1) &&& 63)) = 16384 by decide]
    exact ⟨_, rfl, rfl⟩
theorem tap_bd {nr B : Nat} (hn : nr < 2) {c v : Int32} (hc : ab c ≤ 16384) (hv : ab v ≤ B) (hB : B ≤ 2 ^ 16) : ab (tap nr c v) ≤ B := by
  unfold ab at hc hv ⊢
  unfold tap
  have e : (16384 : Int32).toInt = 16384 := by decide
  have ew : (16384 - c).toInt = 16384 - c.toInt := by rw [i32_sub (by rw [e]; omega) (by rw [e]; omega), e]
  obtain ⟨w, hw⟩ : ∃ w, w = (16384 - c).toInt := ⟨_, rfl⟩
  have hw0 : 0 ≤ w ∧ w ≤ 32768 := by rw [hw, ew]; omega
  have em : (Int32.toInt64 v * Int32.toInt64 (16384 - c)).toInt = v.toInt * w := by
    have h3 := ab_mul (x := v.toInt) (y := w) hv (show w.natAbs ≤ 32768 by omega)
    rw [i64_mul (by rw [i64_w, i64_w, ← hw]; omega) (by rw [i64_w, i64_w, ← hw]; omega), i64_w, i64_w, hw]
  have hm : -((B : Int) * 32768) ≤ v.toInt * w ∧ v.toInt * w ≤ (B : Int) * 32768 := by
    have h3 := ab_mul (x := v.toInt) (y := w) hv (show w.natAbs ≤ 32768 by omega)
    omega
  have es : ((Int32.toInt64 v * Int32.toInt64 (16384 - c) + (if nr = 1 then 16384 else 0)) >>> (Int32.toInt64 15 &&& 63)).toInt = (v.toInt * w + (if nr = 1 then 16384 else 0)) / 32768 := by
    rw [sar64 _ _ 15 (by decide)]
    rcases (show nr = 0 ∨ nr = 1 by omega) with rfl | rfl
    · rw [if_neg (by decide), if_neg (by decide), Int64.add_zero, em, Int.shiftRight_eq_div_pow, Int.add_zero]; rfl
    · rw [if_pos rfl, if_pos rfl, i64_add (by rw [em]; show _ ≤ v.toInt * w + 16384; omega) (by rw [em]; show v.toInt * w + 16384 < _; omega), em, Int.shiftRight_eq_div_pow]; rfl
  have hd : ((v.toInt * w + (if nr = 1 then 16384 else 0)) / 32768).natAbs ≤ B := by
    split <;> omega
  rw [i64_n (by rw [es]; omega) (by rw [es]; omega), es]
  exact hd
def opTp (nr M : Nat) (c : Nat → Int32) (z : RowZ) : RowZ := (fun p => if p < 2 ^ M then tap nr (c p) (z.1 p) else z.1 p, fun p => if p < 2 ^ M then tap nr (c p) (z.2 p) else z.2 p)
theorem blk0 {a v : Nat → Int32} {N : Nat} : blk a 0 v N = fun p => if p < N then v p else a p := by
  funext p
  by_cases h : p < N
  · rw [blk_in (Nat.zero_le _) (by omega), if_pos h, Nat.sub_zero]
  · rw [blk_out (by omega), if_neg h]
theorem blk0_s {a v : Nat → Int32} {i : Nat} : upd (blk a 0 v i) i (v i) = blk a 0 v (i + 1) := by
  have := blk_s (a := a) (b := 0) (i := i) (v := v)
  rw [Nat.zero_add] at this
  exact this
theorem k_taper {o_imageKept : Int32} {o_taped : Int32} {o_way_size : Int32} {o_way_log : Int32} {o_way_wordBits : Int32} {o_way_limit : Int32} {o_way_radix : Int32} {o_way_order : Int32} {o_way_near : Int32} {o_way_seed : Int32} {o_way_stages : Int32} {o_way_shifts : Nat → Int32} {o_wave_exp : Int32} {o_wave_done : Int32} {o_wave_backward : Int32} {o_wave_re : Nat → Int32} {o_wave_im : Nat → Int32} {o_wave_wasRe : Nat → Int32} {o_wave_wasIm : Nat → Int32} {o_wave_halved : Nat → Int32} {o_past_next : Int32} {o_past_held : Int32} {o_past_cells : Nat → Int32} {o_notes_total : Int32} {o_notes_knownBy : Int32} {o_notes_kinds : Nat → Int32} {o_notes_targets : Nat → Int32} {o_notes_bins : Nat → Int32} {o_ring_size : Int32} {o_ring_log : Int32} {o_ring_powers : Nat → Int32} {o_turns_cos : Nat → Int32} {o_turns_sin : Nat → Int32} {o_reader_fault : Int32} {o_reader_faultPlace : Int32} {o_image : Nat → Int32} {o_tape : Nat → Int32} {m_tapeSize : Int32} {m_fault : Int32} {m_faultPlace : Int32} {m_bank : Int32} {m_isImage : Int32} {m_undos : Int32} {m_runRadix : Int32} {m_runOrder : Int32} {m_runNear : Int32} {m_runLimit : Int32} {m_runHalves : Int32} {m_power : Int32} {m_notedMany : Int32} {m_knownTold : Int32} {m_tape : Nat → Int32} {m_words : Nat → Int32} {m_told : Nat → Int32} {m_all : Nat → Int32} {m_quarter : Nat → Int32} {m_roots : Nat → Int32} {m_noted1 : Nat → Int32} (hR : REL o_imageKept o_taped o_way_size o_way_log o_way_wordBits o_way_limit o_way_radix o_way_order o_way_near o_way_seed o_way_stages o_way_shifts o_wave_exp o_wave_done o_wave_backward o_wave_re o_wave_im o_wave_wasRe o_wave_wasIm o_wave_halved o_past_next o_past_held o_past_cells o_notes_total o_notes_knownBy o_notes_kinds o_notes_targets o_notes_bins o_ring_size o_ring_log o_ring_powers o_turns_cos o_turns_sin o_reader_fault o_reader_faultPlace o_image o_tape m_tapeSize m_fault m_faultPlace m_bank m_isImage m_undos m_runRadix m_runOrder m_runNear m_runLimit m_runHalves m_power m_notedMany m_knownTold m_tape m_words m_told m_all m_quarter m_roots m_noted1)   (m_thrown : Int32) :
    ∃ (r : Int32) (out_o_past_next : Int32) (out_o_past_held : Int32) (out_o_past_cells : Nat → Int32) (out_o_wave_im : Nat → Int32) (out_o_wave_re : Nat → Int32) (out_o_wave_wasIm : Nat → Int32) (out_o_wave_wasRe : Nat → Int32) (out_m_thrown : Int32) (out_m_undos : Int32) (out_m_all : Nat → Int32), fX9_taper o_past_next o_past_held o_wave_exp o_wave_done o_wave_backward o_way_size o_way_near o_past_cells o_turns_cos o_wave_halved o_wave_im o_wave_re o_wave_wasIm o_wave_wasRe = some (r, out_o_past_next, out_o_past_held, out_o_past_cells, out_o_wave_im, out_o_wave_re, out_o_wave_wasIm, out_o_wave_wasRe) ∧ fX10_taper m_thrown m_bank m_undos m_runNear m_all m_quarter m_told = some (r, out_m_thrown, out_m_undos, out_m_all) ∧ REL o_imageKept o_taped o_way_size o_way_log o_way_wordBits o_way_limit o_way_radix o_way_order o_way_near o_way_seed o_way_stages o_way_shifts o_wave_exp o_wave_done o_wave_backward out_o_wave_re out_o_wave_im out_o_wave_wasRe out_o_wave_wasIm o_wave_halved out_o_past_next out_o_past_held out_o_past_cells o_notes_total o_notes_knownBy o_notes_kinds o_notes_targets o_notes_bins o_ring_size o_ring_log o_ring_powers o_turns_cos o_turns_sin o_reader_fault o_reader_faultPlace o_image o_tape m_tapeSize m_fault m_faultPlace m_bank m_isImage out_m_undos m_runRadix m_runOrder m_runNear m_runLimit m_runHalves m_power m_notedMany m_knownTold m_tape m_words m_told out_m_all m_quarter m_roots m_noted1 := by
  have hR0 := hR
  obtain ⟨M, bits, rad, ord, nr, sd, hC, hW, hT, hG, hm, hV, hP, hI, hN, hA, hF1, hF2⟩ := hR
  obtain ⟨hM, hbits, hr, ho, hn, hsd⟩ := id hC
  obtain ⟨rfl, rfl, rfl, rfl, rfl, rfl, rfl, rfl, rfl, hSH⟩ := hW
  obtain ⟨rfl, rfl, rfl, rfl, rfl, rfl, rfl, rfl, rfl, t0, t1, t2, t3, t4, t5, hrt⟩ := hm
  have hN2 := isM_pow hM
  have hns := nst_le hM hr
  have hlm := lm_x hbits
  have hCG := CF_c hC
  have hV0 := hV
  obtain ⟨k, bk, rfl, rfl, hw, hws, hwi⟩ := hV
  have hMO := TRN_m hM hT t0
  have hTB := TRN_B hM hT
  unfold fX9_taper fX10_taper
  rcases fresh_c (by have := hwi.1; omega) hwi.2.1 hw with ⟨rfl, rfl, f1, f2⟩ | ⟨f1, f2⟩
  · obtain ⟨x0, hB0⟩ := hwi.2.2.2.2.2.2.1 rfl rfl
    subst x0
    obtain ⟨nx', hd', ce', un', al', r1, r2, r3, r4⟩ := remember_x hV0 hP
    obtain ⟨w1, -⟩ := RWS_0 hw
    obtain ⟨Y, eY⟩ : ∃ Y, Y = opTp nr M o_turns_cos (o_wave_re, o_wave_im) := ⟨_, rfl⟩
    have hR1 : RW (lyd al' 0 (2 ^ M) Y.1 Y.2) 0 Y ∧ FR al' (lyd al' 0 (2 ^ M) Y.1 Y.2) 0 := lyd_x (z := (o_wave_re, o_wave_im)) hN2.2 (fun p hp => by simp only [Nat.mul_zero, Nat.zero_add]; rw [r4 p (by omega), r4 (32 + p) (by omega)]; exact w1 p hp) (fun p hp => ⟨rfl, rfl⟩) (fun p hp => by rw [eY]; exact ⟨if_neg (by omega), if_neg (by omega)⟩)
    obtain ⟨wi', wr', al2, s1, s2, s3, s4⟩ := settled (y := Y) (al0 := al') (wi := o_wave_wasIm) (wr := o_wave_wasRe) hM hr hlm.2 hw (fun i hi => r4 i (by omega)) hR1.2 hR1.1
      (fun p h1 h2 => by
        have h3 := hwi.2.2.1 p h1 h2
        rw [eY]
        unfold opTp
        dsimp only at h3 ⊢
        rw [if_neg (by omega), if_neg (by omega)]
        exact h3)
      (fun p hp => by
        have h3 := hB0 p hp
        rw [eY]
        unfold opTp
        dsimp only at h3 ⊢
        rw [if_pos hp, if_pos hp]
        exact ⟨tap_bd hn (hTB p (by omega)).1 h3.1 (by omega), tap_bd hn (hTB p (by omega)).1 h3.2 (by omega)⟩)
    rw [f1, f2, bd1_s, bd1_s, if_neg (show ¬ ((1 : Int32) = 0) by decide), if_neg (show ¬ ((1 : Int32) = 0) by decide), r1, r2, bd3_s, bd2_s]
    have hc := loopF (fun n i (z : RowZ) => fX9_taper_22 (nI (2 ^ M)) (nI nr) o_turns_cos n nx' hd' ce' z.2 z.1 o_wave_wasIm o_wave_wasRe (nI i)) (fun i => (blk o_wave_re 0 (fun p => tap nr (o_turns_cos p) (o_wave_re p)) i, blk o_wave_im 0 (fun p => tap nr (o_turns_cos p) (o_wave_im p)) i)) (2 ^ M) (some (1, nx', hd', ce', Y.2, Y.1, wi', wr')) ?_ ?_ (2 ^ M) FU 0 (by omega) (FU_pos (by omega))
    · have hm := loopF (fun n i (z : Nat → Int32) => fX10_taper_20 0 (nI nr) mX10_61 m_told n 0 un' z (nI i)) (fun i => lyd al' 0 i Y.1 Y.2) (2 ^ M) (some ((1 : Int32), (0 : Int32), un', al2)) ?_ ?_ (2 ^ M) FU 0 (by omega) (FU_pos (by omega))
      · simp only [blk_0, lyd_0] at hc hm
        exact ⟨_, _, _, _, _, _, _, _, _, _, _, hc, hm, M, bits, rad, ord, nr, sd, hC, ⟨rfl, rfl, rfl, rfl, rfl, rfl, rfl, rfl, rfl, hSH⟩, hT, hG, ⟨rfl, rfl, rfl, rfl, rfl, rfl, rfl, rfl, rfl, t0, t1, t2, t3, t4, t5, hrt⟩, s3, PSTR_c (fun i hi => s4 i (by omega)) r3, IMGR_c (fun i h1 h2 => by rw [s4 i (by omega), r4 i (by omega)]) hI, hN, hA, hF1, hF2⟩
      · intro n i hi
        have hci := (hTB i (by omega)).1
        obtain ⟨ra, ra1, ra2⟩ := rounded_15 hn hci (o_wave_re i)
        obtain ⟨rb, rb1, rb2⟩ := rounded_15 hn hci (o_wave_im i)
        have g1 : lyd al' 0 i Y.1 Y.2 i = o_wave_re i := by
          unfold lyd
          rw [if_neg (by omega), if_neg (by omega), r4 i (by omega)]; exact (w1 i (by omega)).1
        have g2 : lyd al' 0 i Y.1 Y.2 (32 + i) = o_wave_im i := by
          unfold lyd
          rw [if_neg (by omega), if_neg (by omega), r4 _ (by omega)]; exact (w1 i (by omega)).2
        have y1 : Y.1 i = tap nr (o_turns_cos i) (o_wave_re i) := by rw [eY]; exact if_pos hi
        have y2 : Y.2 i = tap nr (o_turns_cos i) (o_wave_im i) := by rw [eY]; exact if_pos hi
        rw [fX10_taper_20.eq_2, size_eq, bd1_s, t0, if_neg (nI_ge hi (by omega)), (hMO.2 i hi).1, bd1_s]
        simp only [nm]
        rw [of0 (by omega), bd1_s, g1, ra1, bd1_s, ra2, lay0 (by omega), bd1_s, show (32 : Int32) + nI i = nI (32 + i) from nI_add 32 i, of0 (by omega), bd1_s, pk_un (by omega), g2, rb1, bd1_s, rb2, lay0 (by omega), bd1_s, nI_1, ← y1, ← y2]
        have := lyd_s (all := al') (b := 0) (i := i) (lr := Y.1) (li := Y.2) (by omega)
        simp only [Nat.mul_zero, Nat.zero_add] at this
        rw [this]
      · intro n
        rw [fX10_taper_20.eq_2, size_eq, bd1_s, t0, if_pos (nI_le (Nat.le_refl _) (by omega)), fX10_taper_91, s2, bd1_s]
    · intro n i hi
      dsimp only
      rw [fX9_taper_22.eq_2, if_neg (nI_ge hi (by omega))]
      simp only [nm, gd_t (inb_nI (show i < 32 by omega) (by decide)), nI_clamp (show i < 2 ^ 31 by omega), nI_1, tapered_eq hn, bd1_s]
      rw [blk_out (show i < 0 ∨ 0 + i ≤ i by omega), blk_out (show i < 0 ∨ 0 + i ≤ i by omega)]
      exact cA2 (fun z1 z2 => fX9_taper_22 (nI (2 ^ M)) (nI nr) o_turns_cos n nx' hd' ce' z1 z2 o_wave_wasIm o_wave_wasRe (nI (i + 1))) (blk0_s (v := fun p => tap nr (o_turns_cos p) (o_wave_im p))) (blk0_s (v := fun p => tap nr (o_turns_cos p) (o_wave_re p)))
    · intro n
      dsimp only
      rw [fX9_taper_22.eq_2, if_pos (nI_le (Nat.le_refl _) (by omega)), fX9_taper_99, blk0, blk0]
      have e1 : (fun p => if p < 2 ^ M then tap nr (o_turns_cos p) (o_wave_re p) else o_wave_re p) = Y.1 := by rw [eY]; rfl
      have e2 : (fun p => if p < 2 ^ M then tap nr (o_turns_cos p) (o_wave_im p) else o_wave_im p) = Y.2 := by rw [eY]; rfl
      rw [e1, e2, s1, bd2_s]
  · rw [f1, f2]
    exact ⟨_, _, _, _, _, _, _, _, _, _, _, rfl, rfl, hR0⟩
/-- places go elsewhere, one to one -/
def BIJ (N : Nat) (to fr : Nat → Nat) : Prop := (∀ p, p < N → to p < N ∧ fr p < N ∧ to (fr p) = p) ∧ ∀ i j, i < N → j < N → to i = to j → i = j
def opMv (M : Nat) (fr : Nat → Nat) (z : RowZ) : RowZ := (fun p => if p < 2 ^ M then z.1 (fr p) else z.1 p, fun p => if p < 2 ^ M then z.2 (fr p) else z.2 p)
theorem moveAll_eq {M : Nat} {to fr : Nat → Nat} (hM : isM M) (hb : BIJ (2 ^ M) to fr) {sg ad : Int32} (hi : ∀ p, p < 2 ^ M → (sg * nI p + ad) &&& (nI (2 ^ M) - 1) = nI (to p)) (z : RowZ) (si sr : Nat → Int32) :
    ∃ si' sr', fX0_moveAll z.2 z.1 si sr (nI (2 ^ M)) sg ad = some ((opMv M fr z).2, (opMv M fr z).1, si', sr') := by
  have hN := isM_pow hM
  unfold fX0_moveAll
  have hh := loopX (fun n i (y : (Nat → Int32) × (Nat → Int32)) => fX0_moveAll_3 n z.2 z.1 y.1 y.2 (nI (2 ^ M)) sg ad (nI i)) (fun i y => ∀ j, j < i → y.1 (to j) = z.2 j ∧ y.2 (to j) = z.1 j) (2 ^ M)
    (fun y => some ((opMv M fr z).2, (opMv M fr z).1, y.1, y.2)) ?_ ?_ (2 ^ M) FU 0 (si, sr) (by omega) (FU_pos (by omega)) (fun j hj => by omega)
  · obtain ⟨y, -, e9⟩ := hh
    exact ⟨y.1, y.2, e9⟩
  · intro n i y hi2 hJ
    have g1 := (hb.1 i hi2).1
    refine ⟨(upd y.1 (to i) (z.2 i), upd y.2 (to i) (z.1 i)), ?_, ?_⟩
    · intro j hj
      by_cases h9 : j = i
      · subst h9; exact ⟨pk_us, pk_us⟩
      · have h10 : to j ≠ to i := fun q => h9 (hb.2 j i (by omega) hi2 q)
        dsimp only
        rw [pk_un h10, pk_un h10]
        exact hJ j (by omega)
    · rw [fX0_moveAll_3.eq_2, if_neg (nI_ge hi2 (by omega)), hi i hi2]
      simp only [nm, gd_t (inb_nI (show i < 32 by omega) (by decide)), gd_t (inb_nI (show to i < 32 by omega) (by decide)), nI_clamp (show i < 2 ^ 31 by omega), nI_clamp (show to i < 2 ^ 31 by omega), nI_1]
  · intro n y hJ
    have key : ∀ (a b : Nat → Int32), (∀ j, j < 2 ^ M → a (to j) = b j) → va_cpy a b 0 0 (2 ^ M) = fun p => if p < 2 ^ M then b (fr p) else b p := by
      intro a b hab
      funext p
      by_cases hp : p < 2 ^ M
      · obtain ⟨-, g3, g4⟩ := hb.1 p hp
        rw [sb_cpy0 hp, if_pos hp, ← hab _ g3, g4]
      · rw [pk_cpy_out (by omega), if_neg hp]
    rw [fX0_moveAll_3.eq_2, if_pos (nI_le (Nat.le_refl _) (by omega)), fX0_moveAll_56, fX0_takeSpare]
    have hck : cpok 0 0 (nI (2 ^ M)) 32 32 = true := by
      obtain ⟨a, b⟩ := hM
      rcases (show M = 1 ∨ M = 2 ∨ M = 3 ∨ M = 4 ∨ M = 5 by omega) with rfl | rfl | rfl | rfl | rfl <;> decide
    simp only [nm, gd_t hck, sb_cl0, nI_clamp (show 2 ^ M < 2 ^ 31 by omega), bd2_s]
    rw [key y.2 z.1 (fun j hj => (hJ j hj).2), key y.1 z.2 (fun j hj => (hJ j hj).1)]
    rfl
theorem moves_eq {M : Nat} {to fr : Nat → Nat} {told : Nat → Int32} (hM : isM M) (hb : BIJ (2 ^ M) to fr) (h0 : told 0 = nI (2 ^ M)) {sg ad : Int32} (hi : ∀ p, p < 2 ^ M → ((ad + sg * nI p) + nI (2 ^ M)) - ((ad + sg * nI p) + nI (2 ^ M)) / nI (2 ^ M) * nI (2 ^ M) = nI (to p)) {al : Nat → Int32} {z : RowZ} (hz : RW al 0 z) (un : Int32) (li lr : Nat → Int32) :
    ∃ al1 li' lr', (∀ al2, fX10_asTheyAre 0 al1 = some al2 → fX10_moves_6 0 told FU un al li lr ad sg 0 = some (un, al2, li', lr')) ∧ RW al1 0 (opMv M fr z) ∧ FR al al1 0 := by
  have hN := isM_pow hM
  have hz0 : ∀ p, p < 32 → al p = z.1 p ∧ al (32 + p) = z.2 p := fun p hp => by
    have := hz p hp
    simp only [Nat.mul_zero, Nat.zero_add] at this
    exact this
  have hh := loopX (fun n i (y : (Nat → Int32) × (Nat → Int32)) => fX10_moves_6 0 told n un al y.1 y.2 ad sg (nI i)) (fun i y => ∀ j, j < i → y.1 (to j) = z.2 j ∧ y.2 (to j) = z.1 j) (2 ^ M)
    (fun y => bd1 (fX10_asTheyAre 0 (lyd al 0 (2 ^ M) y.2 y.1)) (fun al2 => some (un, al2, y.1, y.2))) ?_ ?_ (2 ^ M) FU 0 (li, lr) (by omega) (FU_pos (by omega)) (fun j hj => by omega)
  · obtain ⟨y, hJ, e9⟩ := hh
    have hx := lyd_x (y := opMv M fr z) (lr := y.2) (li := y.1) hN.2 hz ?_ ?_
    · exact ⟨lyd al 0 (2 ^ M) y.2 y.1, y.1, y.2, fun al2 e2 => by rw [e2] at e9; exact e9, hx.1, hx.2⟩
    · intro p hp
      obtain ⟨-, g3, g4⟩ := hb.1 p hp
      have := hJ _ g3
      rw [g4] at this
      unfold opMv
      dsimp only
      rw [if_pos hp, if_pos hp]
      exact ⟨this.2, this.1⟩
    · intro p hp
      unfold opMv
      dsimp only
      rw [if_neg (by omega), if_neg (by omega)]
      exact ⟨rfl, rfl⟩
  · intro n i y hi2 hJ
    have g1 := (hb.1 i hi2).1
    refine ⟨(upd y.1 (to i) (z.2 i), upd y.2 (to i) (z.1 i)), ?_, ?_⟩
    · intro j hj
      by_cases h9 : j = i
      · subst h9; exact ⟨pk_us, pk_us⟩
      · have h10 : to j ≠ to i := fun q => h9 (hb.2 j i (by omega) hi2 q)
        dsimp only
        rw [pk_un h10, pk_un h10]
        exact hJ j (by omega)
    · rw [fX10_moves_6.eq_2, size_eq, bd1_s, h0, if_neg (nI_ge hi2 (by omega)), bd1_s, bd1_s, gd_t (nz_nI (by omega) (by omega)), hi i hi2]
      simp only [nm]
      rw [of0 (by omega), bd1_s, gd_t (inb_nI (show to i < 32 by omega) (by decide)), show (32 : Int32) + nI i = nI (32 + i) from nI_add 32 i, of0 (by omega), bd1_s, gd_t (inb_nI (show to i < 32 by omega) (by decide)), nI_clamp (by omega), nI_1, (hz0 i (by omega)).1, (hz0 i (by omega)).2]
  · intro n y hJ
    rw [fX10_moves_6.eq_2, size_eq, bd1_s, h0, if_pos (nI_le (Nat.le_refl _) (by omega)), fX10_moves_64, show fX10_laid 0 al y.1 y.2 told = _ from laid_eq (b := 0) (by decide) hN.2 h0 al y.1 y.2, bd1_s]
theorem BIJ_s {M s : Nat} (hM : isM M) : BIJ (2 ^ M) (fun p => (p + s) % 2 ^ M) (fun p => (p + (2 ^ M - s % 2 ^ M)) % 2 ^ M) := by
  have hN := isM_pow hM
  obtain ⟨N, eN⟩ : ∃ N, N = 2 ^ M := ⟨_, rfl⟩
  rw [← eN] at hN ⊢
  have hs := Nat.mod_lt s (show 0 < N by omega)
  have hd := Nat.div_add_mod s N
  refine ⟨fun p hp => ⟨Nat.mod_lt _ (by omega), Nat.mod_lt _ (by omega), ?_⟩, fun i j hi hj h => ?_⟩
  · dsimp only
    rw [Nat.mod_add_mod, show p + (N - s % N) + s = p + N * (s / N + 1) by rw [Nat.mul_add, Nat.mul_one]; omega, Nat.add_mul_mod_self_left, Nat.mod_eq_of_lt hp]
  · dsimp only at h
    have h1 : ((i + s) % N + (N - s % N)) % N = ((j + s) % N + (N - s % N)) % N := by rw [h]
    rw [Nat.mod_add_mod, Nat.mod_add_mod, show i + s + (N - s % N) = i + N * (s / N + 1) by rw [Nat.mul_add, Nat.mul_one]; omega, show j + s + (N - s % N) = j + N * (s / N + 1) by rw [Nat.mul_add, Nat.mul_one]; omega, Nat.add_mul_mod_self_left, Nat.add_mul_mod_self_left, Nat.mod_eq_of_lt hi, Nat.mod_eq_of_lt hj] at h1
    exact h1
theorem BIJ_r {M : Nat} (hM : isM M) : BIJ (2 ^ M) (fun p => (2 ^ M - p) % 2 ^ M) (fun p => (2 ^ M - p) % 2 ^ M) := by
  have hN := isM_pow hM
  obtain ⟨N, eN⟩ : ∃ N, N = 2 ^ M := ⟨_, rfl⟩
  rw [← eN] at hN ⊢
  have h1 : ∀ p, p < N → (N - p) % N = if p = 0 then 0 else N - p := fun p hp => by
    by_cases h : p = 0
    · rw [if_pos h, h, Nat.sub_zero, Nat.mod_self]
    · rw [if_neg h, Nat.mod_eq_of_lt (by omega)]
  refine ⟨fun p hp => ⟨Nat.mod_lt _ (by omega), Nat.mod_lt _ (by omega), ?_⟩, fun i j hi hj h => ?_⟩
  · dsimp only
    rw [h1 p hp]
    by_cases h : p = 0
    · rw [if_pos h, h1 0 (by omega), if_pos rfl, h]
    · rw [if_neg h, h1 _ (by omega), if_neg (by omega)]; omega
  · dsimp only at h
    rw [h1 i hi, h1 j hj] at h
    split at h <;> split at h <;> omega
theorem mv_Z {M : Nat} {fr : Nat → Nat} {z : RowZ} (h : ZR M z) : ZR M (opMv M fr z) := fun p h1 h2 => by
  unfold opMv
  dsimp only
  rw [if_neg (by omega), if_neg (by omega)]
  exact h p h1 h2
theorem mv_B {M B : Nat} {to fr : Nat → Nat} {z : RowZ} (hb : BIJ (2 ^ M) to fr) (h : BDz M z B) : BDz M (opMv M fr z) B := fun p hp => by
  unfold opMv
  dsimp only
  rw [if_pos hp, if_pos hp]
  exact h _ (hb.1 p hp).2.1
