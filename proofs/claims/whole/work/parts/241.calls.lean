/-! ===== ahead, grown, sweep, bits ===== -/
theorem expBits_c {M bits rad ord nr sd b : Nat} {o_turns_cos o_turns_sin o_wave_wasRe o_wave_wasIm : Nat → Int32} (hC : CF M bits rad ord nr sd) (hb : 8 ≤ b ∧ b ≤ 16) (hT : TBB o_turns_cos o_turns_sin) (hB : BDz M (o_wave_wasRe, o_wave_wasIm) (2 ^ 16)) (o_trial_exp : Int32) (o_trial_done : Int32) (o_trial_backward : Int32) (o_trialWay_size : Int32) (o_trialWay_log : Int32) (o_trialWay_wordBits : Int32) (o_trialWay_limit : Int32) (o_trialWay_radix : Int32) (o_trialWay_order : Int32) (o_trialWay_near : Int32) (o_trialWay_seed : Int32) (o_trialWay_stages : Int32) (o_beater_spareIm : Nat → Int32) (o_beater_spareRe : Nat → Int32) (o_beater_wingIm : Nat → Int32) (o_beater_wingRe : Nat → Int32) (o_trial_halved : Nat → Int32) (o_trial_im : Nat → Int32) (o_trial_re : Nat → Int32) (o_trialWay_shifts : Nat → Int32) : ∃ o, fX9_expWithBits o_trial_exp o_trial_done o_trial_backward o_trialWay_size o_trialWay_log o_trialWay_wordBits o_trialWay_limit o_trialWay_radix o_trialWay_order o_trialWay_near o_trialWay_seed o_trialWay_stages (nI (2 ^ M)) (nI M) (nI bits) (nI rad) (nI ord) (nI nr) (nI sd) o_beater_spareIm o_beater_spareRe o_beater_wingIm o_beater_wingRe o_trial_halved o_trial_im o_trial_re o_trialWay_shifts o_turns_cos o_turns_sin o_wave_wasIm o_wave_wasRe (nI b) = some (nI (tS M rad ord nr (lmN b) o_turns_cos o_turns_sin (o_wave_wasRe, o_wave_wasIm)), o) := by
  obtain ⟨hM, hbits, hr, ho, hn, hsd⟩ := id hC
  obtain ⟨sh', e1, e2⟩ := copyFrom_eq hC o_trialWay_size o_trialWay_log o_trialWay_wordBits o_trialWay_limit o_trialWay_radix o_trialWay_order o_trialWay_near o_trialWay_seed o_trialWay_stages o_trialWay_shifts
  obtain ⟨im', re', r1, r2⟩ := restartFrom_eq o_trial_exp o_trial_done o_trial_backward o_wave_wasIm o_wave_wasRe o_trial_im o_trial_re
  obtain ⟨ha2, im2, re2, si2, sr2, wi2, wr2, d1, -⟩ := class_run (lim := lmN b) ⟨hM, hr, ho, hn, lm_x hb⟩ e2 hT hB r2 o_trial_halved o_beater_spareIm o_beater_spareRe o_beater_wingIm o_beater_wingRe
  unfold fX9_expWithBits
  rw [e1, bd10_s, takeBits_eq hb, bd2_s, r1, bd5_s, d1, bd10_s]
  exact ⟨_, rfl⟩
theorem expRun_m {M rad ord nr lim : Nat} {all told c s ha : Nat → Int32} {z : RowZ} (hc : CFG M rad ord nr lim) (hm : MOK M told mX10_61 c s) (hT : TBB c s) (hB : BDz M z (2 ^ 16)) (hZ : ZR M z) (hw : RWS all 1 z 0 0 0 ha) (li lr : Nat → Int32) :
    ∃ all' li' lr', fX10_expRun (nI 1) (nI rad) (nI ord) (nI nr) (nI lim) 1 (nI M) all li lr mX10_61 told = some (nI (tS M rad ord nr lim c s z), all', li', lr') ∧ FB1 all all' := by
  obtain ⟨all', li', lr', ha', e, g1, g2⟩ := ref_run (b := 1) (by decide) hc hm hT hB hZ hw li lr
  refine ⟨all', li', lr', ?_, FRB_1 g2⟩
  unfold fX10_expRun
  rw [e, bd3_s, show (128 : Int32) = nI 128 from rfl, of_eq (by decide) (by decide), bd1_s, g1.2.1]
theorem expBy_m {M bits rad ord nr sd b : Nat} {all told c s : Nat → Int32} {w : RowZ} (hC : CF M bits rad ord nr sd) (hb : 8 ≤ b ∧ b ≤ 16) (hm : MOK M told mX10_61 c s) (hT : TBB c s) (hB : BDz M w (2 ^ 16)) (hZ : ZR M w) (hw : WASR all 0 w) (t1 : told 1 = nI bits) (t2 : told 2 = nI rad) (t3 : told 3 = nI ord) (t4 : told 4 = nI nr) (li lr : Nat → Int32) :
    ∃ all' li' lr', fX10_expBy 0 (nI rad) (nI ord) (nI nr) (nI (lmN bits)) 1 (nI M) all li lr mX10_61 told (nI b) = some (nI (tS M rad ord nr (lmN b) c s w), 0, nI rad, nI ord, nI nr, nI (lmN bits), 1, all', li', lr') ∧ FB1 all all' := by
  obtain ⟨hM, hbits, hr, ho, hn, hsd⟩ := id hC
  obtain ⟨al, a1, a2, a3, a4⟩ := asWas_x 0 (fun _ => 0) hw
  obtain ⟨all', li', lr', e1, e2⟩ := expRun_m (lim := lmN b) ⟨hM, hr, ho, hn, lm_x hb⟩ hm hT hB hZ a2 li lr
  refine ⟨all', li', lr', ?_, FB1_t a4 e2⟩
  unfold fX10_expBy
  rw [a1, bd2_s, limitOf_eq hb, bd1_s, e1, bd4_s, asItIs_eq hbits t1 t2 t3 t4, bd6_s]
theorem k_sweep {o_imageKept : Int32} {o_taped : Int32} {o_way_size : Int32} {o_way_log : Int32} {o_way_wordBits : Int32} {o_way_limit : Int32} {o_way_radix : Int32} {o_way_order : Int32} {o_way_near : Int32} {o_way_seed : Int32} {o_way_stages : Int32} {o_way_shifts : Nat → Int32} {o_wave_exp : Int32} {o_wave_done : Int32} {o_wave_backward : Int32} {o_wave_re : Nat → Int32} {o_wave_im : Nat → Int32} {o_wave_wasRe : Nat → Int32} {o_wave_wasIm : Nat → Int32} {o_wave_halved : Nat → Int32} {o_past_next : Int32} {o_past_held : Int32} {o_past_cells : Nat → Int32} {o_notes_total : Int32} {o_notes_knownBy : Int32} {o_notes_kinds : Nat → Int32} {o_notes_targets : Nat → Int32} {o_notes_bins : Nat → Int32} {o_ring_size : Int32} {o_ring_log : Int32} {o_ring_powers : Nat → Int32} {o_turns_cos : Nat → Int32} {o_turns_sin : Nat → Int32} {o_reader_fault : Int32} {o_reader_faultPlace : Int32} {o_image : Nat → Int32} {o_tape : Nat → Int32} {m_tapeSize : Int32} {m_fault : Int32} {m_faultPlace : Int32} {m_bank : Int32} {m_isImage : Int32} {m_undos : Int32} {m_runRadix : Int32} {m_runOrder : Int32} {m_runNear : Int32} {m_runLimit : Int32} {m_runHalves : Int32} {m_power : Int32} {m_notedMany : Int32} {m_knownTold : Int32} {m_tape : Nat → Int32} {m_words : Nat → Int32} {m_told : Nat → Int32} {m_all : Nat → Int32} {m_quarter : Nat → Int32} {m_roots : Nat → Int32} {m_noted1 : Nat → Int32} (hR : REL o_imageKept o_taped o_way_size o_way_log o_way_wordBits o_way_limit o_way_radix o_way_order o_way_near o_way_seed o_way_stages o_way_shifts o_wave_exp o_wave_done o_wave_backward o_wave_re o_wave_im o_wave_wasRe o_wave_wasIm o_wave_halved o_past_next o_past_held o_past_cells o_notes_total o_notes_knownBy o_notes_kinds o_notes_targets o_notes_bins o_ring_size o_ring_log o_ring_powers o_turns_cos o_turns_sin o_reader_fault o_reader_faultPlace o_image o_tape m_tapeSize m_fault m_faultPlace m_bank m_isImage m_undos m_runRadix m_runOrder m_runNear m_runLimit m_runHalves m_power m_notedMany m_knownTold m_tape m_words m_told m_all m_quarter m_roots m_noted1) (p1 : Int32)  (o_trial_exp : Int32) (o_trial_done : Int32) (o_trial_backward : Int32) (o_trialWay_size : Int32) (o_trialWay_log : Int32) (o_trialWay_wordBits : Int32) (o_trialWay_limit : Int32) (o_trialWay_radix : Int32) (o_trialWay_order : Int32) (o_trialWay_near : Int32) (o_trialWay_seed : Int32) (o_trialWay_stages : Int32) (o_beater_spareIm : Nat → Int32) (o_beater_spareRe : Nat → Int32) (o_beater_wingIm : Nat → Int32) (o_beater_wingRe : Nat → Int32) (o_trial_halved : Nat → Int32) (o_trial_im : Nat → Int32) (o_trial_re : Nat → Int32) (o_trialWay_shifts : Nat → Int32) (m_thrown : Int32) (m_laidIm : Nat → Int32) (m_laidRe : Nat → Int32) :
    ∃ (r : Int32) (out_o_trial_exp : Int32) (out_o_trial_done : Int32) (out_o_trial_backward : Int32) (out_o_trialWay_size : Int32) (out_o_trialWay_log : Int32) (out_o_trialWay_wordBits : Int32) (out_o_trialWay_limit : Int32) (out_o_trialWay_radix : Int32) (out_o_trialWay_order : Int32) (out_o_trialWay_near : Int32) (out_o_trialWay_seed : Int32) (out_o_trialWay_stages : Int32) (out_o_beater_spareIm : Nat → Int32) (out_o_beater_spareRe : Nat → Int32) (out_o_beater_wingIm : Nat → Int32) (out_o_beater_wingRe : Nat → Int32) (out_o_trial_halved : Nat → Int32) (out_o_trial_im : Nat → Int32) (out_o_trial_re : Nat → Int32) (out_o_trialWay_shifts : Nat → Int32) (out_m_thrown : Int32) (out_m_bank : Int32) (out_m_runRadix : Int32) (out_m_runOrder : Int32) (out_m_runNear : Int32) (out_m_runLimit : Int32) (out_m_runHalves : Int32) (out_m_all : Nat → Int32) (out_m_laidIm : Nat → Int32) (out_m_laidRe : Nat → Int32), fX9_sweep o_trial_exp o_trial_done o_trial_backward o_trialWay_size o_trialWay_log o_trialWay_wordBits o_trialWay_limit o_trialWay_radix o_trialWay_order o_trialWay_near o_trialWay_seed o_trialWay_stages o_way_size o_way_log o_way_wordBits o_way_radix o_way_order o_way_near o_way_seed o_beater_spareIm o_beater_spareRe o_beater_wingIm o_beater_wingRe o_trial_halved o_trial_im o_trial_re o_trialWay_shifts o_turns_cos o_turns_sin o_wave_wasIm o_wave_wasRe p1 = some (r, out_o_trial_exp, out_o_trial_done, out_o_trial_backward, out_o_trialWay_size, out_o_trialWay_log, out_o_trialWay_wordBits, out_o_trialWay_limit, out_o_trialWay_radix, out_o_trialWay_order, out_o_trialWay_near, out_o_trialWay_seed, out_o_trialWay_stages, out_o_beater_spareIm, out_o_beater_spareRe, out_o_beater_wingIm, out_o_beater_wingRe, out_o_trial_halved, out_o_trial_im, out_o_trial_re, out_o_trialWay_shifts) ∧ fX10_sweep m_thrown m_bank m_runRadix m_runOrder m_runNear m_runLimit m_runHalves m_power m_all m_laidIm m_laidRe m_quarter m_told p1 = some (r, out_m_thrown, out_m_bank, out_m_runRadix, out_m_runOrder, out_m_runNear, out_m_runLimit, out_m_runHalves, out_m_all, out_m_laidIm, out_m_laidRe) ∧ REL o_imageKept o_taped o_way_size o_way_log o_way_wordBits o_way_limit o_way_radix o_way_order o_way_near o_way_seed o_way_stages o_way_shifts o_wave_exp o_wave_done o_wave_backward o_wave_re o_wave_im o_wave_wasRe o_wave_wasIm o_wave_halved o_past_next o_past_held o_past_cells o_notes_total o_notes_knownBy o_notes_kinds o_notes_targets o_notes_bins o_ring_size o_ring_log o_ring_powers o_turns_cos o_turns_sin o_reader_fault o_reader_faultPlace o_image o_tape m_tapeSize m_fault m_faultPlace out_m_bank m_isImage m_undos out_m_runRadix out_m_runOrder out_m_runNear out_m_runLimit out_m_runHalves m_power m_notedMany m_knownTold m_tape m_words m_told out_m_all m_quarter m_roots m_noted1 := by
  have hR0 := hR
  obtain ⟨M, bits, rad, ord, nr, sd, hC, hW, hT, hG, hm, hV, hP, hI, hN, hA, hF1, hF2⟩ := hR
  obtain ⟨hM, hbits, hr, ho, hn, hsd⟩ := id hC
  obtain ⟨rfl, rfl, rfl, rfl, rfl, rfl, rfl, rfl, rfl, hSH⟩ := hW
  obtain ⟨rfl, rfl, rfl, rfl, rfl, rfl, rfl, rfl, rfl, t0, t1, t2, t3, t4, t5, hrt⟩ := hm
  have hN2 := isM_pow hM
  have hns := nst_le hM hr
  have hlm := lm_x hbits
  have hCG := CF_c hC
  have hV0 := hV
  obtain ⟨k, bk, rfl, rfl, hw, hws, hwi⟩ := hV
  have hMO := TRN_m hM hT t0
  have hTB := TRN_B hM hT
  have hB16 : BDz M (o_wave_wasRe, o_wave_wasIm) (2 ^ 16) := fun p hp => by have := hwi.2.2.2.2.2.1 p hp; omega
  unfold fX9_sweep fX10_sweep
  rcases isIn_d p1 (show 8 ≤ 16 by decide) (show 16 < 2 ^ 30 by decide) with ⟨b, hb1, hb2, rfl, q1, q2, q3⟩ | ⟨q1, q3⟩ | ⟨q1, q2, q3⟩
  · obtain ⟨⟨a1, a2, a3, a4, a5, a6, a7, a8, a9, a10, a11, a12, a13, a14, a15, a16, a17, a18, a19, a20⟩, e1⟩ := expBits_c (o_turns_cos := o_turns_cos) (o_turns_sin := o_turns_sin) (o_wave_wasRe := o_wave_wasRe) (o_wave_wasIm := o_wave_wasIm) hC ⟨hb1, hb2⟩ hTB hB16 o_trial_exp o_trial_done o_trial_backward o_trialWay_size o_trialWay_log o_trialWay_wordBits o_trialWay_limit o_trialWay_radix o_trialWay_order o_trialWay_near o_trialWay_seed o_trialWay_stages o_beater_spareIm o_beater_spareRe o_beater_wingIm o_beater_wingRe o_trial_halved o_trial_im o_trial_re o_trialWay_shifts
    obtain ⟨all', li', lr', e2, e3⟩ := expBy_m hC ⟨hb1, hb2⟩ hMO hTB hB16 hwi.2.2.2.1 hws t1 t2 t3 t4 m_laidIm m_laidRe
    rw [if_neg (show ¬ (nI b < 8) from q1), if_pos (show nI b ≤ 16 from nI_le (b := 16) hb2 (by decide)), show fX10_isIn (nI b) 8 16 = _ from q3, bd1_s, if_neg (show ¬ ((1 : Int32) = 0) by decide), e1, bd21_s, e2, bd10_s]
    exact ⟨_, _, _, _, _, _, _, _, _, _, _, _, _, _, _, _, _, _, _, _, _, _, _, _, _, _, _, _, _, _, _, rfl, rfl, M, bits, rad, ord, nr, sd, hC, ⟨rfl, rfl, rfl, rfl, rfl, rfl, rfl, rfl, rfl, hSH⟩, hT, hG, ⟨rfl, rfl, rfl, rfl, rfl, rfl, rfl, rfl, rfl, t0, t1, t2, t3, t4, t5, hrt⟩, WVR_1 e3 hV0, PSTR_1 e3 hP, IMGR_1 e3 hI, hN, hA, hF1, hF2⟩
  · rw [if_pos (show p1 < 8 from q1), show fX10_isIn p1 8 16 = _ from q3, bd1_s, if_pos rfl]
    exact ⟨_, _, _, _, _, _, _, _, _, _, _, _, _, _, _, _, _, _, _, _, _, _, _, _, _, _, _, _, _, _, _, rfl, rfl, hR0⟩
  · rw [if_neg (show ¬ (p1 < 8) from q1), if_neg (show ¬ (p1 ≤ 16) from fun q => by rw [Int32.le_iff_toInt_le] at q; rw [Int32.lt_iff_toInt_lt] at q2; have h9 : (nI 16).toInt = (16 : Int32).toInt := rfl; omega), show fX10_isIn p1 8 16 = _ from q3, bd1_s, if_pos rfl]
    exact ⟨_, _, _, _, _, _, _, _, _, _, _, _, _, _, _, _, _, _, _, _, _, _, _, _, _, _, _, _, _, _, _, rfl, rfl, hR0⟩
theorem k_bits {o_imageKept : Int32} {o_taped : Int32} {o_way_size : Int32} {o_way_log : Int32} {o_way_wordBits : Int32} {o_way_limit : Int32} {o_way_radix : Int32} {o_way_order : Int32} {o_way_near : Int32} {o_way_seed : Int32} {o_way_stages : Int32} {o_way_shifts : Nat → Int32} {o_wave_exp : Int32} {o_wave_done : Int32} {o_wave_backward : Int32} {o_wave_re : Nat → Int32} {o_wave_im : Nat → Int32} {o_wave_wasRe : Nat → Int32} {o_wave_wasIm : Nat → Int32} {o_wave_halved : Nat → Int32} {o_past_next : Int32} {o_past_held : Int32} {o_past_cells : Nat → Int32} {o_notes_total : Int32} {o_notes_knownBy : Int32} {o_notes_kinds : Nat → Int32} {o_notes_targets : Nat → Int32} {o_notes_bins : Nat → Int32} {o_ring_size : Int32} {o_ring_log : Int32} {o_ring_powers : Nat → Int32} {o_turns_cos : Nat → Int32} {o_turns_sin : Nat → Int32} {o_reader_fault : Int32} {o_reader_faultPlace : Int32} {o_image : Nat → Int32} {o_tape : Nat → Int32} {m_tapeSize : Int32} {m_fault : Int32} {m_faultPlace : Int32} {m_bank : Int32} {m_isImage : Int32} {m_undos : Int32} {m_runRadix : Int32} {m_runOrder : Int32} {m_runNear : Int32} {m_runLimit : Int32} {m_runHalves : Int32} {m_power : Int32} {m_notedMany : Int32} {m_knownTold : Int32} {m_tape : Nat → Int32} {m_words : Nat → Int32} {m_told : Nat → Int32} {m_all : Nat → Int32} {m_quarter : Nat → Int32} {m_roots : Nat → Int32} {m_noted1 : Nat → Int32} (hR : REL o_imageKept o_taped o_way_size o_way_log o_way_wordBits o_way_limit o_way_radix o_way_order o_way_near o_way_seed o_way_stages o_way_shifts o_wave_exp o_wave_done o_wave_backward o_wave_re o_wave_im o_wave_wasRe o_wave_wasIm o_wave_halved o_past_next o_past_held o_past_cells o_notes_total o_notes_knownBy o_notes_kinds o_notes_targets o_notes_bins o_ring_size o_ring_log o_ring_powers o_turns_cos o_turns_sin o_reader_fault o_reader_faultPlace o_image o_tape m_tapeSize m_fault m_faultPlace m_bank m_isImage m_undos m_runRadix m_runOrder m_runNear m_runLimit m_runHalves m_power m_notedMany m_knownTold m_tape m_words m_told m_all m_quarter m_roots m_noted1)   (o_trial_exp : Int32) (o_trial_done : Int32) (o_trial_backward : Int32) (o_trialWay_size : Int32) (o_trialWay_log : Int32) (o_trialWay_wordBits : Int32) (o_trialWay_limit : Int32) (o_trialWay_radix : Int32) (o_trialWay_order : Int32) (o_trialWay_near : Int32) (o_trialWay_seed : Int32) (o_trialWay_stages : Int32) (o_beater_spareIm : Nat → Int32) (o_beater_spareRe : Nat → Int32) (o_beater_wingIm : Nat → Int32) (o_beater_wingRe : Nat → Int32) (o_trial_halved : Nat → Int32) (o_trial_im : Nat → Int32) (o_trial_re : Nat → Int32) (o_trialWay_shifts : Nat → Int32) (m_thrown : Int32) (m_laidIm : Nat → Int32) (m_laidRe : Nat → Int32) :
    ∃ (r : Int32) (out_o_trial_exp : Int32) (out_o_trial_done : Int32) (out_o_trial_backward : Int32) (out_o_trialWay_size : Int32) (out_o_trialWay_log : Int32) (out_o_trialWay_wordBits : Int32) (out_o_trialWay_limit : Int32) (out_o_trialWay_radix : Int32) (out_o_trialWay_order : Int32) (out_o_trialWay_near : Int32) (out_o_trialWay_seed : Int32) (out_o_trialWay_stages : Int32) (out_o_beater_spareIm : Nat → Int32) (out_o_beater_spareRe : Nat → Int32) (out_o_beater_wingIm : Nat → Int32) (out_o_beater_wingRe : Nat → Int32) (out_o_trial_halved : Nat → Int32) (out_o_trial_im : Nat → Int32) (out_o_trial_re : Nat → Int32) (out_o_trialWay_shifts : Nat → Int32) (out_m_thrown : Int32) (out_m_bank : Int32) (out_m_runRadix : Int32) (out_m_runOrder : Int32) (out_m_runNear : Int32) (out_m_runLimit : Int32) (out_m_runHalves : Int32) (out_m_all : Nat → Int32) (out_m_laidIm : Nat → Int32) (out_m_laidRe : Nat → Int32), fX9_bits o_trial_exp o_trial_done o_trial_backward o_trialWay_size o_trialWay_log o_trialWay_wordBits o_trialWay_limit o_trialWay_radix o_trialWay_order o_trialWay_near o_trialWay_seed o_trialWay_stages o_way_size o_way_log o_way_wordBits o_way_radix o_way_order o_way_near o_way_seed o_beater_spareIm o_beater_spareRe o_beater_wingIm o_beater_wingRe o_trial_halved o_trial_im o_trial_re o_trialWay_shifts o_turns_cos o_turns_sin o_wave_wasIm o_wave_wasRe = some (r, out_o_trial_exp, out_o_trial_done, out_o_trial_backward, out_o_trialWay_size, out_o_trialWay_log, out_o_trialWay_wordBits, out_o_trialWay_limit, out_o_trialWay_radix, out_o_trialWay_order, out_o_trialWay_near, out_o_trialWay_seed, out_o_trialWay_stages, out_o_beater_spareIm, out_o_beater_spareRe, out_o_beater_wingIm, out_o_beater_wingRe, out_o_trial_halved, out_o_trial_im, out_o_trial_re, out_o_trialWay_shifts) ∧ fX10_bits m_thrown m_bank m_runRadix m_runOrder m_runNear m_runLimit m_runHalves m_power m_all m_laidIm m_laidRe m_quarter m_told = some (r, out_m_thrown, out_m_bank, out_m_runRadix, out_m_runOrder, out_m_runNear, out_m_runLimit, out_m_runHalves, out_m_all, out_m_laidIm, out_m_laidRe) ∧ REL o_imageKept o_taped o_way_size o_way_log o_way_wordBits o_way_limit o_way_radix o_way_order o_way_near o_way_seed o_way_stages o_way_shifts o_wave_exp o_wave_done o_wave_backward o_wave_re o_wave_im o_wave_wasRe o_wave_wasIm o_wave_halved o_past_next o_past_held o_past_cells o_notes_total o_notes_knownBy o_notes_kinds o_notes_targets o_notes_bins o_ring_size o_ring_log o_ring_powers o_turns_cos o_turns_sin o_reader_fault o_reader_faultPlace o_image o_tape m_tapeSize m_fault m_faultPlace out_m_bank m_isImage m_undos out_m_runRadix out_m_runOrder out_m_runNear out_m_runLimit out_m_runHalves m_power m_notedMany m_knownTold m_tape m_words m_told out_m_all m_quarter m_roots m_noted1 := by
  have hR0 := hR
  obtain ⟨M, bits, rad, ord, nr, sd, hC, hW, hT, hG, hm, hV, hP, hI, hN, hA, hF1, hF2⟩ := hR
  obtain ⟨hM, hbits, hr, ho, hn, hsd⟩ := id hC
  obtain ⟨rfl, rfl, rfl, rfl, rfl, rfl, rfl, rfl, rfl, hSH⟩ := hW
  obtain ⟨rfl, rfl, rfl, rfl, rfl, rfl, rfl, rfl, rfl, t0, t1, t2, t3, t4, t5, hrt⟩ := hm
  have hN2 := isM_pow hM
  have hns := nst_le hM hr
  have hlm := lm_x hbits
  have hCG := CF_c hC
  have hV0 := hV
  obtain ⟨k, bk, rfl, rfl, hw, hws, hwi⟩ := hV
  have hMO := TRN_m hM hT t0
  have hTB := TRN_B hM hT
  have hB16 : BDz M (o_wave_wasRe, o_wave_wasIm) (2 ^ 16) := fun p hp => by have := hwi.2.2.2.2.2.1 p hp; omega
  have key : ∀ d n b (o_trial_exp : Int32) (o_trial_done : Int32) (o_trial_backward : Int32) (o_trialWay_size : Int32) (o_trialWay_log : Int32) (o_trialWay_wordBits : Int32) (o_trialWay_limit : Int32) (o_trialWay_radix : Int32) (o_trialWay_order : Int32) (o_trialWay_near : Int32) (o_trialWay_seed : Int32) (o_trialWay_stages : Int32) (o_beater_spareIm : Nat → Int32) (o_beater_spareRe : Nat → Int32) (o_beater_wingIm : Nat → Int32) (o_beater_wingRe : Nat → Int32) (o_trial_halved : Nat → Int32) (o_trial_im : Nat → Int32) (o_trial_re : Nat → Int32) (o_trialWay_shifts : Nat → Int32) (al li lr : Nat → Int32), 8 ≤ b → b + d = 17 → d < n → FB1 m_all al → ∃ r o al' li' lr',
      fX9_bits_3 (nI (2 ^ M)) (nI M) (nI bits) (nI rad) (nI ord) (nI nr) (nI sd) o_turns_cos o_turns_sin o_wave_wasIm o_wave_wasRe n o_trial_exp o_trial_done o_trial_backward o_trialWay_size o_trialWay_log o_trialWay_wordBits o_trialWay_limit o_trialWay_radix o_trialWay_order o_trialWay_near o_trialWay_seed o_trialWay_stages o_beater_spareIm o_beater_spareRe o_beater_wingIm o_beater_wingRe o_trial_halved o_trial_im o_trial_re o_trialWay_shifts (nI b) = some (r, o) ∧
      fX10_bits_8 (nI M) mX10_61 m_told n 0 0 (nI rad) (nI ord) (nI nr) (nI (lmN bits)) 1 al li lr (nI b) = some (r, 0, 0, nI rad, nI ord, nI nr, nI (lmN bits), 1, al', li', lr') ∧ FB1 m_all al' := by
    intro d
    induction d with
    | zero =>
      intro n b t1 t2 t3 t4 t5 t6 t7 t8 t9 t10 t11 t12 t13 t14 t15 t16 t17 t18 t19 t20 al li lr h8 h1 h2 hF
      obtain ⟨n, rfl⟩ : ∃ m, n = m + 1 := ⟨n - 1, by omega⟩
      obtain rfl : b = 17 := by omega
      rw [fX9_bits_3.eq_2, fX10_bits_8.eq_2, if_pos (show (16 : Int32) < nI 17 by decide), if_pos (show (16 : Int32) < nI 17 by decide)]
      exact ⟨_, _, _, _, _, rfl, rfl, hF⟩
    | succ d ih =>
      intro n b u1 u2 u3 u4 u5 u6 u7 u8 u9 u10 u11 u12 u13 u14 u15 u16 u17 u18 u19 u20 al li lr h8 h1 h2 hF
      obtain ⟨n, rfl⟩ : ∃ m, n = m + 1 := ⟨n - 1, by omega⟩
      obtain ⟨⟨a1, a2, a3, a4, a5, a6, a7, a8, a9, a10, a11, a12, a13, a14, a15, a16, a17, a18, a19, a20⟩, e1⟩ := expBits_c (o_turns_cos := o_turns_cos) (o_turns_sin := o_turns_sin) (o_wave_wasRe := o_wave_wasRe) (o_wave_wasIm := o_wave_wasIm) hC ⟨h8, by omega⟩ hTB hB16 u1 u2 u3 u4 u5 u6 u7 u8 u9 u10 u11 u12 u13 u14 u15 u16 u17 u18 u19 u20
      obtain ⟨all', li', lr', e2, e3⟩ := expBy_m hC ⟨h8, by omega⟩ hMO hTB hB16 hwi.2.2.2.1 (WASR_c (fun j h1 h2 => hF j (by omega)) hws) t1 t2 t3 t4 li lr
      have hle : ¬ ((16 : Int32) < nI b) := nI_nlt (b := b) (a := 16) (by omega) (by decide)
      rw [fX9_bits_3.eq_2, fX10_bits_8.eq_2, if_neg hle, if_neg hle, e1, bd21_s, e2, bd10_s]
      by_cases h : nI (tS M rad ord nr (lmN b) o_turns_cos o_turns_sin (o_wave_wasRe, o_wave_wasIm)) = 0
      · rw [if_pos h, if_pos h]
        exact ⟨_, _, _, _, _, rfl, rfl, FB1_t hF e3⟩
      · rw [if_neg h, if_neg h]
        simp only [nm, nI_1]
        exact ih n (b + 1) a1 a2 a3 a4 a5 a6 a7 a8 a9 a10 a11 a12 a13 a14 a15 a16 a17 a18 a19 a20 all' li' lr' (by omega) (by omega) (by omega) (FB1_t hF e3)
  unfold fX9_bits fX10_bits
  obtain ⟨r, ⟨a1, a2, a3, a4, a5, a6, a7, a8, a9, a10, a11, a12, a13, a14, a15, a16, a17, a18, a19, a20⟩, al', li', lr', e1, e2, e3⟩ := key 9 FU 8 o_trial_exp o_trial_done o_trial_backward o_trialWay_size o_trialWay_log o_trialWay_wordBits o_trialWay_limit o_trialWay_radix o_trialWay_order o_trialWay_near o_trialWay_seed o_trialWay_stages o_beater_spareIm o_beater_spareRe o_beater_wingIm o_beater_wingRe o_trial_halved o_trial_im o_trial_re o_trialWay_shifts m_all m_laidIm m_laidRe (by decide) (by decide) (FU_pos (by decide)) (fun _ _ => rfl)
  exact ⟨_, _, _, _, _, _, _, _, _, _, _, _, _, _, _, _, _, _, _, _, _, _, _, _, _, _, _, _, _, _, _, e1, e2, M, bits, rad, ord, nr, sd, hC, ⟨rfl, rfl, rfl, rfl, rfl, rfl, rfl, rfl, rfl, hSH⟩, hT, hG, ⟨rfl, rfl, rfl, rfl, rfl, rfl, rfl, rfl, rfl, t0, t1, t2, t3, t4, t5, hrt⟩, WVR_1 e3 hV0, PSTR_1 e3 hP, IMGR_1 e3 hI, hN, hA, hF1, hF2⟩
theorem asNow_x {all : Nat → Int32} {z : RowZ} {x : Int32} {k bk : Nat} {ha : Nat → Int32} (bank : Int32) (hw : RWS all 0 z x k bk ha) : ∃ all', fX10_asNow bank all = some (nI 1, all') ∧ RWS all' 1 z x k bk ha ∧ FB1 all all' := by
  refine ⟨_, asNow_eq bank all, RWS_m (fun j hj => ?_) hw, fun j hj => blk_out (by omega)⟩
  rw [show 136 * 1 + j = 136 + j by omega, blk_at hj, Nat.mul_zero, Nat.zero_add]
theorem k_ahead {o_imageKept : Int32} {o_taped : Int32} {o_way_size : Int32} {o_way_log : Int32} {o_way_wordBits : Int32} {o_way_limit : Int32} {o_way_radix : Int32} {o_way_order : Int32} {o_way_near : Int32} {o_way_seed : Int32} {o_way_stages : Int32} {o_way_shifts : Nat → Int32} {o_wave_exp : Int32} {o_wave_done : Int32} {o_wave_backward : Int32} {o_wave_re : Nat → Int32} {o_wave_im : Nat → Int32} {o_wave_wasRe : Nat → Int32} {o_wave_wasIm : Nat → Int32} {o_wave_halved : Nat → Int32} {o_past_next : Int32} {o_past_held : Int32} {o_past_cells : Nat → Int32} {o_notes_total : Int32} {o_notes_knownBy : Int32} {o_notes_kinds : Nat → Int32} {o_notes_targets : Nat → Int32} {o_notes_bins : Nat → Int32} {o_ring_size : Int32} {o_ring_log : Int32} {o_ring_powers : Nat → Int32} {o_turns_cos : Nat → Int32} {o_turns_sin : Nat → Int32} {o_reader_fault : Int32} {o_reader_faultPlace : Int32} {o_image : Nat → Int32} {o_tape : Nat → Int32} {m_tapeSize : Int32} {m_fault : Int32} {m_faultPlace : Int32} {m_bank : Int32} {m_isImage : Int32} {m_undos : Int32} {m_runRadix : Int32} {m_runOrder : Int32} {m_runNear : Int32} {m_runLimit : Int32} {m_runHalves : Int32} {m_power : Int32} {m_notedMany : Int32} {m_knownTold : Int32} {m_tape : Nat → Int32} {m_words : Nat → Int32} {m_told : Nat → Int32} {m_all : Nat → Int32} {m_quarter : Nat → Int32} {m_roots : Nat → Int32} {m_noted1 : Nat → Int32} (hR : REL o_imageKept o_taped o_way_size o_way_log o_way_wordBits o_way_limit o_way_radix o_way_order o_way_near o_way_seed o_way_stages o_way_shifts o_wave_exp o_wave_done o_wave_backward o_wave_re o_wave_im o_wave_wasRe o_wave_wasIm o_wave_halved o_past_next o_past_held o_past_cells o_notes_total o_notes_knownBy o_notes_kinds o_notes_targets o_notes_bins o_ring_size o_ring_log o_ring_powers o_turns_cos o_turns_sin o_reader_fault o_reader_faultPlace o_image o_tape m_tapeSize m_fault m_faultPlace m_bank m_isImage m_undos m_runRadix m_runOrder m_runNear m_runLimit m_runHalves m_power m_notedMany m_knownTold m_tape m_words m_told m_all m_quarter m_roots m_noted1) (p1 : Int32) (p2 : Int32)  (o_trial_exp : Int32) (o_trial_done : Int32) (o_trial_backward : Int32) (o_beater_spareIm : Nat → Int32) (o_beater_spareRe : Nat → Int32) (o_beater_wingIm : Nat → Int32) (o_beater_wingRe : Nat → Int32) (o_trial_halved : Nat → Int32) (o_trial_im : Nat → Int32) (o_trial_re : Nat → Int32) (m_thrown : Int32) (m_laidIm : Nat → Int32) (m_laidRe : Nat → Int32) :
    ∃ (r : Int32) (out_o_trial_exp : Int32) (out_o_trial_done : Int32) (out_o_trial_backward : Int32) (out_o_beater_spareIm : Nat → Int32) (out_o_beater_spareRe : Nat → Int32) (out_o_beater_wingIm : Nat → Int32) (out_o_beater_wingRe : Nat → Int32) (out_o_trial_halved : Nat → Int32) (out_o_trial_im : Nat → Int32) (out_o_trial_re : Nat → Int32) (out_m_thrown : Int32) (out_m_bank : Int32) (out_m_runRadix : Int32) (out_m_runOrder : Int32) (out_m_runNear : Int32) (out_m_runLimit : Int32) (out_m_runHalves : Int32) (out_m_all : Nat → Int32) (out_m_laidIm : Nat → Int32) (out_m_laidRe : Nat → Int32), fX9_ahead o_trial_exp o_trial_done o_trial_backward o_wave_exp o_wave_done o_wave_backward o_way_size o_way_log o_way_limit o_way_order o_way_near o_way_stages o_beater_spareIm o_beater_spareRe o_beater_wingIm o_beater_wingRe o_trial_halved o_trial_im o_trial_re o_turns_cos o_turns_sin o_wave_im o_wave_re o_way_shifts p1 p2 = some (r, out_o_trial_exp, out_o_trial_done, out_o_trial_backward, out_o_beater_spareIm, out_o_beater_spareRe, out_o_beater_wingIm, out_o_beater_wingRe, out_o_trial_halved, out_o_trial_im, out_o_trial_re) ∧ fX10_ahead m_thrown m_bank m_runRadix m_runOrder m_runNear m_runLimit m_runHalves m_power m_all m_laidIm m_laidRe m_quarter m_told p1 p2 = some (r, out_m_thrown, out_m_bank, out_m_runRadix, out_m_runOrder, out_m_runNear, out_m_runLimit, out_m_runHalves, out_m_all, out_m_laidIm, out_m_laidRe) ∧ REL o_imageKept o_taped o_way_size o_way_log o_way_wordBits o_way_limit o_way_radix o_way_order o_way_near o_way_seed o_way_stages o_way_shifts o_wave_exp o_wave_done o_wave_backward o_wave_re o_wave_im o_wave_wasRe o_wave_wasIm o_wave_halved o_past_next o_past_held o_past_cells o_notes_total o_notes_knownBy o_notes_kinds o_notes_targets o_notes_bins o_ring_size o_ring_log o_ring_powers o_turns_cos o_turns_sin o_reader_fault o_reader_faultPlace o_image o_tape m_tapeSize m_fault m_faultPlace out_m_bank m_isImage m_undos out_m_runRadix out_m_runOrder out_m_runNear out_m_runLimit out_m_runHalves m_power m_notedMany m_knownTold m_tape m_words m_told out_m_all m_quarter m_roots m_noted1 := by
  have hR0 := hR
  obtain ⟨M, bits, rad, ord, nr, sd, hC, hW, hT, hG, hm, hV, hP, hI, hN, hA, hF1, hF2⟩ := hR
  obtain ⟨hM, hbits, hr, ho, hn, hsd⟩ := id hC
  obtain ⟨rfl, rfl, rfl, rfl, rfl, rfl, rfl, rfl, rfl, hSH⟩ := hW
  obtain ⟨rfl, rfl, rfl, rfl, rfl, rfl, rfl, rfl, rfl, t0, t1, t2, t3, t4, t5, hrt⟩ := hm
  have hN2 := isM_pow hM
  have hns := nst_le hM hr
  have hlm := lm_x hbits
  have hCG := CF_c hC
  have hV0 := hV
  obtain ⟨k, bk, rfl, rfl, hw, hws, hwi⟩ := hV
  have hMO := TRN_m hM hT t0
  have hTB := TRN_B hM hT
  unfold fX9_ahead fX10_ahead
  rcases isIn_c p1 (show 5 < 2 ^ 30 by decide) with ⟨m, hm5, rfl, q1, q2, q3⟩ | ⟨q1, q3⟩ | ⟨q1, q2, q4, q3⟩
  · rw [if_neg q1, if_neg (show ¬ ((5 : Int32) < nI m) from nI_nlt (b := m) (a := 5) hm5 (by decide)), show fX10_isIn (nI m) 0 5 = _ from q3, bd1_s, if_neg (show ¬ ((1 : Int32) = 0) by decide)]
    rcases isIn_c p2 (show 2 < 2 ^ 30 by decide) with ⟨i, hi, rfl, u1, u2, u3⟩ | ⟨u1, u3⟩ | ⟨u1, u2, u4, u3⟩
    · rw [if_neg u1, if_pos (show nI i ≤ 2 from u2), show fX10_isIn (nI i) 0 2 = _ from u3, bd1_s, if_neg (show ¬ ((1 : Int32) = 0) by decide)]
      obtain ⟨al, a1, a2, a3⟩ := asNow_x 0 hw
      rw [a1, bd2_s]
      have hck : cpok 0 0 32 32 32 = true := by decide
      have hbl : bl (nI bk) = true := by rcases (show bk = 0 ∨ bk = 1 by have := hwi.2.1; omega) with rfl | rfl <;> decide
      have eg : fX7_goOnFrom o_trial_exp o_trial_done o_trial_backward o_wave_exp (nI k) (nI bk) o_wave_im o_wave_re o_trial_im o_trial_re = some (o_wave_exp, nI k, nI bk, va_cpy o_wave_im o_trial_im 0 0 32, va_cpy o_wave_re o_trial_re 0 0 32) := by
        unfold fX7_goOnFrom fX7_begin
        simp only [gd_t hck, nm, bd5_s, gd_t hbl]
        rfl
      have hz : RE32 (va_cpy o_wave_re o_trial_re 0 0 32, va_cpy o_wave_im o_trial_im 0 0 32) (o_wave_re, o_wave_im) := fun p hp => ⟨sb_cpy0 hp, sb_cpy0 hp⟩
      obtain ⟨si, sr, wi, wr, e1⟩ := doStages_eq (hl := 1) (m := m) (by decide) hwi.2.1 hCG hwi.1 hm5 hSH hTB (va_cpy o_wave_re o_trial_re 0 0 32, va_cpy o_wave_im o_trial_im 0 0 32) (fun _ => BD_z hM hz hwi.2.2.2.2.1) o_wave_exp o_trial_halved o_beater_spareIm o_beater_spareRe o_beater_wingIm o_beater_wingRe
      have hmin := Nat.min_le_right m (nst M rad - k)
      have hU := run_re (hl := 1) (bk := bk) (nr := nr) (lim := lmN bits) (c := o_turns_cos) (s := o_turns_sin) hM hr ho (min m (nst M rad - k)) k ((va_cpy o_wave_re o_trial_re 0 0 32, va_cpy o_wave_im o_trial_im 0 0 32), o_wave_exp, 0, o_trial_halved) ((o_wave_re, o_wave_im), o_wave_exp, 0, o_wave_halved) (by have := hwi.1; omega) ⟨hz, rfl, rfl⟩
      obtain ⟨Y, eY⟩ : ∃ Y, Y = itr (stp 1 bk M rad ord nr (lmN bits) o_turns_cos o_turns_sin) k (min m (nst M rad - k)) ((va_cpy o_wave_re o_trial_re 0 0 32, va_cpy o_wave_im o_trial_im 0 0 32), o_wave_exp, 0, o_trial_halved) := ⟨_, rfl⟩
      rw [← eY] at e1 hU
      dsimp only at e1
      have key : ∀ d n i2 k (y : RunZ) (al li lr : Nat → Int32), k ≤ nst M rad → d = min (m - i2) (nst M rad - k) → i2 ≤ m → d < n → RWS al 1 y.1 y.2.1 k bk y.2.2.2 → ZR M y.1 → RB 1 M y.1 → ∃ al' li' lr',
          fX10_ahead_34 (nI M) mX10_61 m_told n 0 (nI 1) (nI rad) (nI ord) (nI nr) (nI (lmN bits)) 1 al li lr (nI m) (nI i) (nI y.2.2.1) (nI i2) =
          fX10_ahead_60 m_told 0 (nI 1) (nI rad) (nI ord) (nI nr) (nI (lmN bits)) 1 al' li' lr' (nI i) (nI (itr (stp 1 bk M rad ord nr (lmN bits) o_turns_cos o_turns_sin) k d y).2.2.1) ∧
          (let y' := itr (stp 1 bk M rad ord nr (lmN bits) o_turns_cos o_turns_sin) k d y
           RWS al' 1 y'.1 y'.2.1 (k + d) bk y'.2.2.2 ∧ FRB al al' 1) := by
        intro d
        induction d with
        | zero =>
          intro n i2 k y al li lr hk hd hi2 hn0 hw hZ hB
          obtain ⟨n, rfl⟩ : ∃ m, n = m + 1 := ⟨n - 1, by omega⟩
          refine ⟨al, li, lr, ?_, hw, FRB_r⟩
          rw [fX10_ahead_34.eq_2]
          by_cases h1 : m ≤ i2
          · rw [if_pos (nI_le h1 (by omega))]; rfl
          · rw [if_neg (nI_ge (by omega) (by omega)), isDone_eq (b := 1) (by decide) hM hr hk hw, bd1_s, if_pos (show k = nst M rad by omega), if_neg (show ¬ ((1 : Int32) = 0) by decide)]; rfl
        | succ d ih =>
          intro n i2 k y al li lr hk hd hi2 hn0 hw hZ hB
          obtain ⟨n, rfl⟩ : ∃ m, n = m + 1 := ⟨n - 1, by omega⟩
          obtain ⟨al1, li1, lr1, f1, g1, g2⟩ := beats_x (hl := 1) (b := 1) (c := o_turns_cos) (s := o_turns_sin) (by decide) (by decide) hwi.2.1 hCG (show k < nst M rad by omega) hMO hw hZ hB li lr
          obtain ⟨al2, li2, lr2, f2, g3, g4⟩ := ih n (i2 + 1) (k + 1) (stp 1 bk M rad ord nr (lmN bits) o_turns_cos o_turns_sin k y) al1 li1 lr1 (by omega) (by omega) (by omega) (by omega) g1 (OUT_Z stE_out hZ) (RB_s (by decide) hCG (by omega) hTB hB)
          rw [show k + 1 + d = k + (d + 1) by omega] at g3
          refine ⟨al2, li2, lr2, ?_, g3, FRB_t g2 g4⟩
          rw [fX10_ahead_34.eq_2, if_neg (nI_ge (by omega) (by omega)), isDone_eq (b := 1) (by decide) hM hr hk hw, bd1_s, if_neg (show ¬ (k = nst M rad) by omega), if_pos (show (0 : Int32) = 0 from rfl), show fX10_beats (nI 1) (nI rad) (nI ord) (nI nr) (nI (lmN bits)) 1 (nI M) al li lr mX10_61 m_told = _ from f1, bd4_s]
          simp only [nm, nI_1, nI_add]
          exact f2
      obtain ⟨al2, li2, lr2, f1, g1, g2⟩ := key (min m (nst M rad - k)) FU 0 k ((o_wave_re, o_wave_im), o_wave_exp, 0, o_wave_halved) al m_laidIm m_laidRe hwi.1 (by rw [Nat.sub_zero]) (Nat.zero_le _) (FU_pos (by omega)) a2 hwi.2.2.1 (fun _ => hwi.2.2.2.2.1)
      have hFB := FB1_t a3 (FRB_1 g2)
      rw [show fX10_ahead_34 (nI M) mX10_61 m_told FU 0 (nI 1) (nI rad) (nI ord) (nI nr) (nI (lmN bits)) 1 al m_laidIm m_laidRe (nI m) (nI i) 0 0 = _ from f1, eg, bd5_s, show fX0_doStages o_wave_exp (nI k) (nI bk) (nI (2 ^ M)) (nI M) (nI (lmN bits)) (nI ord) (nI nr) (nI (nst M rad)) o_trial_halved (va_cpy o_wave_im o_trial_im 0 0 32) (va_cpy o_wave_re o_trial_re 0 0 32) o_way_shifts o_beater_spareIm o_beater_spareRe o_beater_wingIm o_beater_wingRe o_turns_cos o_turns_sin (nI m) 1 = _ from e1, bd10_s]
      obtain ⟨h1, h2, h3⟩ := hU
      have elg : lgst Y.1.1 Y.1.2 0 (2 ^ M) = lgst (itr (stp 1 bk M rad ord nr (lmN bits) o_turns_cos o_turns_sin) k (min m (nst M rad - k)) ((o_wave_re, o_wave_im), o_wave_exp, 0, o_wave_halved)).1.1 (itr (stp 1 bk M rad ord nr (lmN bits) o_turns_cos o_turns_sin) k (min m (nst M rad - k)) ((o_wave_re, o_wave_im), o_wave_exp, 0, o_wave_halved)).1.2 0 (2 ^ M) := lgst_congr (fun p _ hp => h1 p (by omega))
      unfold fX10_ahead_60 fX10_ahead_87
      rw [asItIs_eq hbits t1 t2 t3 t4]
      simp only [bd6_s]
      rw [grt_N hM, bd1_s]
      have em : fX10_largestNow (nI 1) al2 m_told = some (lgst Y.1.1 Y.1.2 0 (2 ^ M)) := by
        rw [largestNow_eq (b := 1) (by decide) hN2.2 _ _ t0, elg]
        rw [lgst_congr (fun p _ hp => g1.1 p (by omega))]
      rw [show (128 : Int32) = nI 128 from rfl, of_eq (by decide) (by decide), bd1_s, g1.2.1, em, bd1_s, ← h2, ← h3]
      by_cases a0 : nI i = 0
      · rw [if_pos a0, if_pos a0]
        exact ⟨_, _, _, _, _, _, _, _, _, _, _, _, _, _, _, _, _, _, _, _, _, rfl, rfl, M, bits, rad, ord, nr, sd, hC, ⟨rfl, rfl, rfl, rfl, rfl, rfl, rfl, rfl, rfl, hSH⟩, hT, hG, ⟨rfl, rfl, rfl, rfl, rfl, rfl, rfl, rfl, rfl, t0, t1, t2, t3, t4, t5, hrt⟩, WVR_1 hFB hV0, PSTR_1 hFB hP, IMGR_1 hFB hI, hN, hA, hF1, hF2⟩
      · rw [if_neg a0, if_neg a0]
        by_cases b0 : nI i = 1
        · rw [if_pos b0, if_pos b0]
          exact ⟨_, _, _, _, _, _, _, _, _, _, _, _, _, _, _, _, _, _, _, _, _, rfl, rfl, M, bits, rad, ord, nr, sd, hC, ⟨rfl, rfl, rfl, rfl, rfl, rfl, rfl, rfl, rfl, hSH⟩, hT, hG, ⟨rfl, rfl, rfl, rfl, rfl, rfl, rfl, rfl, rfl, t0, t1, t2, t3, t4, t5, hrt⟩, WVR_1 hFB hV0, PSTR_1 hFB hP, IMGR_1 hFB hI, hN, hA, hF1, hF2⟩
        · rw [if_neg b0, if_neg b0]
          exact ⟨_, _, _, _, _, _, _, _, _, _, _, _, _, _, _, _, _, _, _, _, _, rfl, rfl, M, bits, rad, ord, nr, sd, hC, ⟨rfl, rfl, rfl, rfl, rfl, rfl, rfl, rfl, rfl, hSH⟩, hT, hG, ⟨rfl, rfl, rfl, rfl, rfl, rfl, rfl, rfl, rfl, t0, t1, t2, t3, t4, t5, hrt⟩, WVR_1 hFB hV0, PSTR_1 hFB hP, IMGR_1 hFB hI, hN, hA, hF1, hF2⟩
    · rw [if_pos u1, show fX10_isIn p2 0 2 = _ from u3, bd1_s, if_pos rfl]
      exact ⟨_, _, _, _, _, _, _, _, _, _, _, _, _, _, _, _, _, _, _, _, _, rfl, rfl, hR0⟩
    · rw [if_neg u1, if_neg (show ¬ (p2 ≤ 2) from u2), show fX10_isIn p2 0 2 = _ from u3, bd1_s, if_pos rfl]
      exact ⟨_, _, _, _, _, _, _, _, _, _, _, _, _, _, _, _, _, _, _, _, _, rfl, rfl, hR0⟩
  · rw [if_pos q1, show fX10_isIn p1 0 5 = _ from q3, bd1_s, if_pos rfl]
    exact ⟨_, _, _, _, _, _, _, _, _, _, _, _, _, _, _, _, _, _, _, _, _, rfl, rfl, hR0⟩
  · rw [if_neg q1, if_pos (show (5 : Int32) < p1 from q4), show fX10_isIn p1 0 5 = _ from q3, bd1_s, if_pos rfl]
    exact ⟨_, _, _, _, _, _, _, _, _, _, _, _, _, _, _, _, _, _, _, _, _, rfl, rfl, hR0⟩
theorem k_grown {o_imageKept : Int32} {o_taped : Int32} {o_way_size : Int32} {o_way_log : Int32} {o_way_wordBits : Int32} {o_way_limit : Int32} {o_way_radix : Int32} {o_way_order : Int32} {o_way_near : Int32} {o_way_seed : Int32} {o_way_stages : Int32} {o_way_shifts : Nat → Int32} {o_wave_exp : Int32} {o_wave_done : Int32} {o_wave_backward : Int32} {o_wave_re : Nat → Int32} {o_wave_im : Nat → Int32} {o_wave_wasRe : Nat → Int32} {o_wave_wasIm : Nat → Int32} {o_wave_halved : Nat → Int32} {o_past_next : Int32} {o_past_held : Int32} {o_past_cells : Nat → Int32} {o_notes_total : Int32} {o_notes_knownBy : Int32} {o_notes_kinds : Nat → Int32} {o_notes_targets : Nat → Int32} {o_notes_bins : Nat → Int32} {o_ring_size : Int32} {o_ring_log : Int32} {o_ring_powers : Nat → Int32} {o_turns_cos : Nat → Int32} {o_turns_sin : Nat → Int32} {o_reader_fault : Int32} {o_reader_faultPlace : Int32} {o_image : Nat → Int32} {o_tape : Nat → Int32} {m_tapeSize : Int32} {m_fault : Int32} {m_faultPlace : Int32} {m_bank : Int32} {m_isImage : Int32} {m_undos : Int32} {m_runRadix : Int32} {m_runOrder : Int32} {m_runNear : Int32} {m_runLimit : Int32} {m_runHalves : Int32} {m_power : Int32} {m_notedMany : Int32} {m_knownTold : Int32} {m_tape : Nat → Int32} {m_words : Nat → Int32} {m_told : Nat → Int32} {m_all : Nat → Int32} {m_quarter : Nat → Int32} {m_roots : Nat → Int32} {m_noted1 : Nat → Int32} (hR : REL o_imageKept o_taped o_way_size o_way_log o_way_wordBits o_way_limit o_way_radix o_way_order o_way_near o_way_seed o_way_stages o_way_shifts o_wave_exp o_wave_done o_wave_backward o_wave_re o_wave_im o_wave_wasRe o_wave_wasIm o_wave_halved o_past_next o_past_held o_past_cells o_notes_total o_notes_knownBy o_notes_kinds o_notes_targets o_notes_bins o_ring_size o_ring_log o_ring_powers o_turns_cos o_turns_sin o_reader_fault o_reader_faultPlace o_image o_tape m_tapeSize m_fault m_faultPlace m_bank m_isImage m_undos m_runRadix m_runOrder m_runNear m_runLimit m_runHalves m_power m_notedMany m_knownTold m_tape m_words m_told m_all m_quarter m_roots m_noted1) (p1 : Int32)  (o_trial_exp : Int32) (o_trial_done : Int32) (o_trial_backward : Int32) (o_beater_spareIm : Nat → Int32) (o_beater_spareRe : Nat → Int32) (o_beater_wingIm : Nat → Int32) (o_beater_wingRe : Nat → Int32) (o_trial_halved : Nat → Int32) (o_trial_im : Nat → Int32) (o_trial_re : Nat → Int32) (m_thrown : Int32) (m_laidIm : Nat → Int32) (m_laidRe : Nat → Int32) :
    ∃ (r : Int32) (out_o_trial_exp : Int32) (out_o_trial_done : Int32) (out_o_trial_backward : Int32) (out_o_beater_spareIm : Nat → Int32) (out_o_beater_spareRe : Nat → Int32) (out_o_beater_wingIm : Nat → Int32) (out_o_beater_wingRe : Nat → Int32) (out_o_trial_halved : Nat → Int32) (out_o_trial_im : Nat → Int32) (out_o_trial_re : Nat → Int32) (out_m_thrown : Int32) (out_m_bank : Int32) (out_m_runRadix : Int32) (out_m_runOrder : Int32) (out_m_runNear : Int32) (out_m_runLimit : Int32) (out_m_runHalves : Int32) (out_m_all : Nat → Int32) (out_m_laidIm : Nat → Int32) (out_m_laidRe : Nat → Int32), fX9_grown o_trial_exp o_trial_done o_trial_backward o_way_size o_way_log o_way_limit o_way_order o_way_near o_way_stages o_beater_spareIm o_beater_spareRe o_beater_wingIm o_beater_wingRe o_trial_halved o_trial_im o_trial_re o_turns_cos o_turns_sin o_wave_wasIm o_wave_wasRe o_way_shifts p1 = some (r, out_o_trial_exp, out_o_trial_done, out_o_trial_backward, out_o_beater_spareIm, out_o_beater_spareRe, out_o_beater_wingIm, out_o_beater_wingRe, out_o_trial_halved, out_o_trial_im, out_o_trial_re) ∧ fX10_grown m_thrown m_bank m_runRadix m_runOrder m_runNear m_runLimit m_runHalves m_power m_all m_laidIm m_laidRe m_quarter m_told p1 = some (r, out_m_thrown, out_m_bank, out_m_runRadix, out_m_runOrder, out_m_runNear, out_m_runLimit, out_m_runHalves, out_m_all, out_m_laidIm, out_m_laidRe) ∧ REL o_imageKept o_taped o_way_size o_way_log o_way_wordBits o_way_limit o_way_radix o_way_order o_way_near o_way_seed o_way_stages o_way_shifts o_wave_exp o_wave_done o_wave_backward o_wave_re o_wave_im o_wave_wasRe o_wave_wasIm o_wave_halved o_past_next o_past_held o_past_cells o_notes_total o_notes_knownBy o_notes_kinds o_notes_targets o_notes_bins o_ring_size o_ring_log o_ring_powers o_turns_cos o_turns_sin o_reader_fault o_reader_faultPlace o_image o_tape m_tapeSize m_fault m_faultPlace out_m_bank m_isImage m_undos out_m_runRadix out_m_runOrder out_m_runNear out_m_runLimit out_m_runHalves m_power m_notedMany m_knownTold m_tape m_words m_told out_m_all m_quarter m_roots m_noted1 := by
  have hR0 := hR
  obtain ⟨M, bits, rad, ord, nr, sd, hC, hW, hT, hG, hm, hV, hP, hI, hN, hA, hF1, hF2⟩ := hR
  obtain ⟨hM, hbits, hr, ho, hn, hsd⟩ := id hC
  obtain ⟨rfl, rfl, rfl, rfl, rfl, rfl, rfl, rfl, rfl, hSH⟩ := hW
  obtain ⟨rfl, rfl, rfl, rfl, rfl, rfl, rfl, rfl, rfl, t0, t1, t2, t3, t4, t5, hrt⟩ := hm
  have hN2 := isM_pow hM
  have hns := nst_le hM hr
  have hlm := lm_x hbits
  have hCG := CF_c hC
  have hV0 := hV
  obtain ⟨k, bk, rfl, rfl, hw, hws, hwi⟩ := hV
  have hMO := TRN_m hM hT t0
  have hTB := TRN_B hM hT
  unfold fX9_grown fX10_grown
  rcases isIn_c p1 (show 5 < 2 ^ 30 by decide) with ⟨m, hm5, rfl, q1, q2, q3⟩ | ⟨q1, q3⟩ | ⟨q1, q2, q4, q3⟩
  · rw [if_neg q1, if_pos (show nI m ≤ 5 from q2), show fX10_isIn (nI m) 0 5 = _ from q3, bd1_s, if_neg (show ¬ ((1 : Int32) = 0) by decide)]
    obtain ⟨al, a1, a2, -, a3⟩ := asWas_x 0 (fun _ => 0) hws
    obtain ⟨im', re', r1, r2⟩ := restartFrom_eq o_trial_exp o_trial_done o_trial_backward o_wave_wasIm o_wave_wasRe o_trial_im o_trial_re
    rw [a1, bd2_s]
    obtain ⟨si, sr, wi, wr, e1⟩ := doStages_eq (hl := 0) (bk := 0) (k := 0) (m := m) (by decide) (by decide) hCG (Nat.zero_le _) hm5 hSH hTB (re', im') (fun q => absurd rfl q) 0 o_trial_halved o_beater_spareIm o_beater_spareRe o_beater_wingIm o_beater_wingRe
    have hU := run_re (hl := 0) (bk := 0) (nr := nr) (lim := lmN bits) (c := o_turns_cos) (s := o_turns_sin) hM hr ho (min m (nst M rad - 0)) 0 ((re', im'), 0, 0, o_trial_halved) ((o_wave_wasRe, o_wave_wasIm), 0, 0, fun _ => 0) (by omega) ⟨r2, rfl, rfl⟩
    obtain ⟨Y, eY⟩ : ∃ Y, Y = itr (stp 0 0 M rad ord nr (lmN bits) o_turns_cos o_turns_sin) 0 (min m (nst M rad - 0)) ((re', im'), 0, 0, o_trial_halved) := ⟨_, rfl⟩
    rw [← eY] at e1 hU
    dsimp only at e1
    have key : ∀ d n i2 k (y : RunZ) (al li lr : Nat → Int32), k ≤ nst M rad → d = min (m - i2) (nst M rad - k) → i2 ≤ m → d < n → RWS al 1 y.1 y.2.1 k 0 y.2.2.2 → ZR M y.1 → ∃ al' li' lr',
        fX10_grown_27 (nI M) mX10_61 m_told n 0 (nI 1) (nI rad) (nI ord) (nI nr) (nI (lmN bits)) 0 al li lr (nI m) (nI i2) =
        fX10_grown_50 m_told 0 (nI 1) (nI rad) (nI ord) (nI nr) (nI (lmN bits)) 0 al' li' lr' ∧
        (let y' := itr (stp 0 0 M rad ord nr (lmN bits) o_turns_cos o_turns_sin) k d y
         RWS al' 1 y'.1 y'.2.1 (k + d) 0 y'.2.2.2 ∧ FRB al al' 1) := by
      intro d
      induction d with
      | zero =>
        intro n i2 k y al li lr hk hd hi2 hn0 hw hZ
        obtain ⟨n, rfl⟩ : ∃ m, n = m + 1 := ⟨n - 1, by omega⟩
        refine ⟨al, li, lr, ?_, hw, FRB_r⟩
        rw [fX10_grown_27.eq_2]
        by_cases h1 : m ≤ i2
        · rw [if_pos (nI_le h1 (by omega))]
        · rw [if_neg (nI_ge (by omega) (by omega)), isDone_eq (b := 1) (by decide) hM hr hk hw, bd1_s, if_pos (show k = nst M rad by omega), if_neg (show ¬ ((1 : Int32) = 0) by decide)]
      | succ d ih =>
        intro n i2 k y al li lr hk hd hi2 hn0 hw hZ
        obtain ⟨n, rfl⟩ : ∃ m, n = m + 1 := ⟨n - 1, by omega⟩
        obtain ⟨al1, li1, lr1, f1, g1, g2⟩ := beats_x (hl := 0) (bk := 0) (b := 1) (c := o_turns_cos) (s := o_turns_sin) (by decide) (by decide) (by decide) hCG (show k < nst M rad by omega) hMO hw hZ (fun q => absurd rfl q) li lr
        obtain ⟨al2, li2, lr2, f2, g3, g4⟩ := ih n (i2 + 1) (k + 1) (stp 0 0 M rad ord nr (lmN bits) o_turns_cos o_turns_sin k y) al1 li1 lr1 (by omega) (by omega) (by omega) (by omega) g1 (OUT_Z stE_out hZ)
        rw [show k + 1 + d = k + (d + 1) by omega] at g3
        refine ⟨al2, li2, lr2, ?_, g3, FRB_t g2 g4⟩
        rw [fX10_grown_27.eq_2, if_neg (nI_ge (by omega) (by omega)), isDone_eq (b := 1) (by decide) hM hr hk hw, bd1_s, if_neg (show ¬ (k = nst M rad) by omega), if_pos (show (0 : Int32) = 0 from rfl), show fX10_beats (nI 1) (nI rad) (nI ord) (nI nr) (nI (lmN bits)) 0 (nI M) al li lr mX10_61 m_told = _ from f1, bd4_s]
        simp only [nm, nI_1]
        exact f2
    obtain ⟨al2, li2, lr2, f1, g1, g2⟩ := key (min m (nst M rad - 0)) FU 0 0 ((o_wave_wasRe, o_wave_wasIm), 0, 0, fun _ => 0) al m_laidIm m_laidRe (Nat.zero_le _) (by omega) (Nat.zero_le _) (FU_pos (by omega)) a2 hwi.2.2.2.1
    have hFB := FB1_t a3 (FRB_1 g2)
    obtain ⟨h1, h2, h3⟩ := hU
    have em : fX10_largestNow (nI 1) al2 m_told = some (lgst Y.1.1 Y.1.2 0 (2 ^ M)) := by
      rw [largestNow_eq (b := 1) (by decide) hN2.2 _ _ t0]
      rw [lgst_congr (fun p _ hp => g1.1 p (by omega)), ← lgst_congr (fun p _ hp => h1 p (by omega))]
    rw [show fX10_grown_27 (nI M) mX10_61 m_told FU 0 (nI 1) (nI rad) (nI ord) (nI nr) (nI (lmN bits)) 0 al m_laidIm m_laidRe (nI m) 0 = _ from f1, r1, bd5_s, show fX0_doStages 0 0 0 (nI (2 ^ M)) (nI M) (nI (lmN bits)) (nI ord) (nI nr) (nI (nst M rad)) o_trial_halved im' re' o_way_shifts o_beater_spareIm o_beater_spareRe o_beater_wingIm o_beater_wingRe o_turns_cos o_turns_sin (nI m) 0 = _ from e1, bd10_s, grt_N hM, bd1_s, fX10_grown_50, em, bd1_s, asItIs_eq hbits t1 t2 t3 t4, bd6_s]
    exact ⟨_, _, _, _, _, _, _, _, _, _, _, _, _, _, _, _, _, _, _, _, _, rfl, rfl, M, bits, rad, ord, nr, sd, hC, ⟨rfl, rfl, rfl, rfl, rfl, rfl, rfl, rfl, rfl, hSH⟩, hT, hG, ⟨rfl, rfl, rfl, rfl, rfl, rfl, rfl, rfl, rfl, t0, t1, t2, t3, t4, t5, hrt⟩, WVR_1 hFB hV0, PSTR_1 hFB hP, IMGR_1 hFB hI, hN, hA, hF1, hF2⟩
  · rw [if_pos q1, show fX10_isIn p1 0 5 = _ from q3, bd1_s, if_pos rfl]
    exact ⟨_, _, _, _, _, _, _, _, _, _, _, _, _, _, _, _, _, _, _, _, _, rfl, rfl, hR0⟩
  · rw [if_neg q1, if_neg (show ¬ (p1 ≤ 5) from q2), show fX10_isIn p1 0 5 = _ from q3, bd1_s, if_pos rfl]
    exact ⟨_, _, _, _, _, _, _, _, _, _, _, _, _, _, _, _, _, _, _, _, _, rfl, rfl, hR0⟩
