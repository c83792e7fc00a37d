/-! ===== shift, turnRound, louder ===== -/
theorem isIn_d (p : Int32) {a b : Nat} (hab : a ≤ b) (hb : b < 2 ^ 30) :
    (∃ j, a ≤ j ∧ j ≤ b ∧ p = nI j ∧ ¬ p < nI a ∧ ¬ nI b < p ∧ fX10_isIn p (nI a) (nI b) = some 1) ∨ (p < nI a ∧ fX10_isIn p (nI a) (nI b) = some 0) ∨ (¬ p < nI a ∧ nI b < p ∧ fX10_isIn p (nI a) (nI b) = some 0) := by
  unfold fX10_isIn
  have ea : (nI a).toInt = (a : Int) := nI_toInt (by omega)
  by_cases h0 : p < nI a
  · exact Or.inr (Or.inl ⟨h0, by rw [if_pos h0]⟩)
  · have h00 : ¬ p < 0 := fun q => h0 (by rw [Int32.lt_iff_toInt_lt] at q ⊢; have : (0 : Int32).toInt = 0 := (by decide); omega)
    obtain ⟨j, hj, rfl⟩ := nI_of h00
    have h1 : a ≤ j := Nat.le_of_not_lt (fun q => h0 (nI_lt q (by omega)))
    by_cases h2 : j ≤ b
    · exact Or.inl ⟨j, h1, h2, rfl, h0, nI_nlt h2 (by omega), by rw [if_neg h0, if_neg (nI_nlt h2 (by omega))]⟩
    · exact Or.inr (Or.inr ⟨h0, nI_lt (by omega) hj, by rw [if_neg h0, if_pos (nI_lt (by omega) hj)]⟩)
theorem rem_N {M a : Nat} (hM : isM M) (ha : a < 2 ^ 20) : nI a - nI a / nI (2 ^ M) * nI (2 ^ M) = nI (a % 2 ^ M) := by
  have hN := isM_pow hM
  exact pk_rem (by omega) (by omega) (by omega)
theorem k_shift {o_imageKept : Int32} {o_taped : Int32} {o_way_size : Int32} {o_way_log : Int32} {o_way_wordBits : Int32} {o_way_limit : Int32} {o_way_radix : Int32} {o_way_order : Int32} {o_way_near : Int32} {o_way_seed : Int32} {o_way_stages : Int32} {o_way_shifts : Nat → Int32} {o_wave_exp : Int32} {o_wave_done : Int32} {o_wave_backward : Int32} {o_wave_re : Nat → Int32} {o_wave_im : Nat → Int32} {o_wave_wasRe : Nat → Int32} {o_wave_wasIm : Nat → Int32} {o_wave_halved : Nat → Int32} {o_past_next : Int32} {o_past_held : Int32} {o_past_cells : Nat → Int32} {o_notes_total : Int32} {o_notes_knownBy : Int32} {o_notes_kinds : Nat → Int32} {o_notes_targets : Nat → Int32} {o_notes_bins : Nat → Int32} {o_ring_size : Int32} {o_ring_log : Int32} {o_ring_powers : Nat → Int32} {o_turns_cos : Nat → Int32} {o_turns_sin : Nat → Int32} {o_reader_fault : Int32} {o_reader_faultPlace : Int32} {o_image : Nat → Int32} {o_tape : Nat → Int32} {m_tapeSize : Int32} {m_fault : Int32} {m_faultPlace : Int32} {m_bank : Int32} {m_isImage : Int32} {m_undos : Int32} {m_runRadix : Int32} {m_runOrder : Int32} {m_runNear : Int32} {m_runLimit : Int32} {m_runHalves : Int32} {m_power : Int32} {m_notedMany : Int32} {m_knownTold : Int32} {m_tape : Nat → Int32} {m_words : Nat → Int32} {m_told : Nat → Int32} {m_all : Nat → Int32} {m_quarter : Nat → Int32} {m_roots : Nat → Int32} {m_noted1 : Nat → Int32} (hR : REL o_imageKept o_taped o_way_size o_way_log o_way_wordBits o_way_limit o_way_radix o_way_order o_way_near o_way_seed o_way_stages o_way_shifts o_wave_exp o_wave_done o_wave_backward o_wave_re o_wave_im o_wave_wasRe o_wave_wasIm o_wave_halved o_past_next o_past_held o_past_cells o_notes_total o_notes_knownBy o_notes_kinds o_notes_targets o_notes_bins o_ring_size o_ring_log o_ring_powers o_turns_cos o_turns_sin o_reader_fault o_reader_faultPlace o_image o_tape m_tapeSize m_fault m_faultPlace m_bank m_isImage m_undos m_runRadix m_runOrder m_runNear m_runLimit m_runHalves m_power m_notedMany m_knownTold m_tape m_words m_told m_all m_quarter m_roots m_noted1) (p1 : Int32)  (o_beater_spareIm : Nat → Int32) (o_beater_spareRe : Nat → Int32) (m_thrown : Int32) (m_laidIm : Nat → Int32) (m_laidRe : Nat → Int32) :
    ∃ (r : Int32) (out_o_past_next : Int32) (out_o_past_held : Int32) (out_o_beater_spareIm : Nat → Int32) (out_o_beater_spareRe : Nat → Int32) (out_o_past_cells : Nat → Int32) (out_o_wave_im : Nat → Int32) (out_o_wave_re : Nat → Int32) (out_o_wave_wasIm : Nat → Int32) (out_o_wave_wasRe : Nat → Int32) (out_m_thrown : Int32) (out_m_undos : Int32) (out_m_all : Nat → Int32) (out_m_laidIm : Nat → Int32) (out_m_laidRe : Nat → Int32), fX9_shift o_past_next o_past_held o_wave_exp o_wave_done o_wave_backward o_way_size o_beater_spareIm o_beater_spareRe o_past_cells o_wave_halved o_wave_im o_wave_re o_wave_wasIm o_wave_wasRe p1 = some (r, out_o_past_next, out_o_past_held, out_o_beater_spareIm, out_o_beater_spareRe, out_o_past_cells, out_o_wave_im, out_o_wave_re, out_o_wave_wasIm, out_o_wave_wasRe) ∧ fX10_shift m_thrown m_bank m_undos m_all m_laidIm m_laidRe m_told p1 = some (r, out_m_thrown, out_m_undos, out_m_all, out_m_laidIm, out_m_laidRe) ∧ REL o_imageKept o_taped o_way_size o_way_log o_way_wordBits o_way_limit o_way_radix o_way_order o_way_near o_way_seed o_way_stages o_way_shifts o_wave_exp o_wave_done o_wave_backward out_o_wave_re out_o_wave_im out_o_wave_wasRe out_o_wave_wasIm o_wave_halved out_o_past_next out_o_past_held out_o_past_cells o_notes_total o_notes_knownBy o_notes_kinds o_notes_targets o_notes_bins o_ring_size o_ring_log o_ring_powers o_turns_cos o_turns_sin o_reader_fault o_reader_faultPlace o_image o_tape m_tapeSize m_fault m_faultPlace m_bank m_isImage out_m_undos m_runRadix m_runOrder m_runNear m_runLimit m_runHalves m_power m_notedMany m_knownTold m_tape m_words m_told out_m_all m_quarter m_roots m_noted1 := by
  have hR0 := hR
  obtain ⟨M, bits, rad, ord, nr, sd, hC, hW, hT, hG, hm, hV, hP, hI, hN, hA, hF1, hF2⟩ := hR
  obtain ⟨hM, hbits, hr, ho, hn, hsd⟩ := id hC
  obtain ⟨rfl, rfl, rfl, rfl, rfl, rfl, rfl, rfl, rfl, hSH⟩ := hW
  obtain ⟨rfl, rfl, rfl, rfl, rfl, rfl, rfl, rfl, rfl, t0, t1, t2, t3, t4, t5, hrt⟩ := hm
  have hN2 := isM_pow hM
  have hns := nst_le hM hr
  have hlm := lm_x hbits
  have hCG := CF_c hC
  have hV0 := hV
  obtain ⟨k, bk, rfl, rfl, hw, hws, hwi⟩ := hV
  unfold fX9_shift fX10_shift fX10_moves
  rcases isIn_d p1 (show 1 ≤ 31 by decide) (show 31 < 2 ^ 30 by decide) with ⟨s, hs1, hs2, rfl, q1, q2, q3⟩ | ⟨q1, q3⟩ | ⟨q1, q2, q3⟩
  · rw [if_neg (show ¬ (nI s < 1) from q1), if_neg (show ¬ ((31 : Int32) < nI s) from q2), show fX10_isIn (nI s) 1 31 = _ from q3, bd1_s, if_neg (show ¬ ((1 : Int32) = 0) by decide)]
    rcases fresh_c (by have := hwi.1; omega) hwi.2.1 hw with ⟨rfl, rfl, f1, f2⟩ | ⟨f1, f2⟩
    · obtain ⟨x0, hB0⟩ := hwi.2.2.2.2.2.2.1 rfl rfl
      subst x0
      obtain ⟨nx', hd', ce', un', al', r1, r2, r3, r4⟩ := remember_x hV0 hP
      obtain ⟨w1, -⟩ := RWS_0 hw
      have hBJ := BIJ_s (s := s) hM
      have hz' : RW al' 0 (o_wave_re, o_wave_im) := fun p hp => by simp only [Nat.mul_zero, Nat.zero_add]; rw [r4 p (by omega), r4 (32 + p) (by omega)]; exact w1 p hp
      obtain ⟨si', sr', c1⟩ := moveAll_eq hM hBJ (sg := 1) (ad := nI s) (fun p hp => by rw [Int32.one_mul, nI_add, msk hM (by omega)]) (o_wave_re, o_wave_im) o_beater_spareIm o_beater_spareRe
      obtain ⟨al1, li', lr', m1, m2, m3⟩ := moves_eq hM hBJ t0 (sg := 1) (ad := nI s) (fun p hp => by rw [Int32.one_mul, nI_add, nI_add, rem_N hM (by omega), show s + p + 2 ^ M = (p + s) + 2 ^ M by omega, Nat.add_mod_right]) hz' un' m_laidIm m_laidRe
      obtain ⟨wi', wr', al2, s1, s2, s3, s4⟩ := settled (al0 := al') (wi := o_wave_wasIm) (wr := o_wave_wasRe) hM hr hlm.2 hw (fun i hi => r4 i (by omega)) m3 m2 (mv_Z hwi.2.2.1) (mv_B hBJ hB0)
      rw [f1, f2, bd1_s, bd1_s, if_neg (show ¬ ((1 : Int32) = 0) by decide), if_neg (show ¬ ((1 : Int32) = 0) by decide), r1, r2, bd3_s, bd2_s, m1 al2 s2, bd4_s]
      rw [show fX0_moveAll o_wave_im o_wave_re o_beater_spareIm o_beater_spareRe (nI (2 ^ M)) 1 (nI s) = _ from c1, bd4_s, s1, bd2_s]
      exact ⟨_, _, _, _, _, _, _, _, _, _, _, _, _, _, _, rfl, rfl, M, bits, rad, ord, nr, sd, hC, ⟨rfl, rfl, rfl, rfl, rfl, rfl, rfl, rfl, rfl, hSH⟩, hT, hG, ⟨rfl, rfl, rfl, rfl, rfl, rfl, rfl, rfl, rfl, t0, t1, t2, t3, t4, t5, hrt⟩, s3, PSTR_c (fun i hi => s4 i (by omega)) r3, IMGR_c (fun i h1 h2 => by rw [s4 i (by omega), r4 i (by omega)]) hI, hN, hA, hF1, hF2⟩
    · rw [f1, f2]
      exact ⟨_, _, _, _, _, _, _, _, _, _, _, _, _, _, _, rfl, rfl, hR0⟩
  · exact ⟨_, _, _, _, _, _, _, _, _, _, _, _, _, _, _, by rw [if_pos (show p1 < 1 from q1)], by rw [show fX10_isIn p1 1 31 = _ from q3, bd1_s, if_pos rfl], hR0⟩
  · exact ⟨_, _, _, _, _, _, _, _, _, _, _, _, _, _, _, by rw [if_neg (show ¬ (p1 < 1) from q1), if_pos (show (31 : Int32) < p1 from q2)], by rw [show fX10_isIn p1 1 31 = _ from q3, bd1_s, if_pos rfl], hR0⟩
theorem k_turnRound {o_imageKept : Int32} {o_taped : Int32} {o_way_size : Int32} {o_way_log : Int32} {o_way_wordBits : Int32} {o_way_limit : Int32} {o_way_radix : Int32} {o_way_order : Int32} {o_way_near : Int32} {o_way_seed : Int32} {o_way_stages : Int32} {o_way_shifts : Nat → Int32} {o_wave_exp : Int32} {o_wave_done : Int32} {o_wave_backward : Int32} {o_wave_re : Nat → Int32} {o_wave_im : Nat → Int32} {o_wave_wasRe : Nat → Int32} {o_wave_wasIm : Nat → Int32} {o_wave_halved : Nat → Int32} {o_past_next : Int32} {o_past_held : Int32} {o_past_cells : Nat → Int32} {o_notes_total : Int32} {o_notes_knownBy : Int32} {o_notes_kinds : Nat → Int32} {o_notes_targets : Nat → Int32} {o_notes_bins : Nat → Int32} {o_ring_size : Int32} {o_ring_log : Int32} {o_ring_powers : Nat → Int32} {o_turns_cos : Nat → Int32} {o_turns_sin : Nat → Int32} {o_reader_fault : Int32} {o_reader_faultPlace : Int32} {o_image : Nat → Int32} {o_tape : Nat → Int32} {m_tapeSize : Int32} {m_fault : Int32} {m_faultPlace : Int32} {m_bank : Int32} {m_isImage : Int32} {m_undos : Int32} {m_runRadix : Int32} {m_runOrder : Int32} {m_runNear : Int32} {m_runLimit : Int32} {m_runHalves : Int32} {m_power : Int32} {m_notedMany : Int32} {m_knownTold : Int32} {m_tape : Nat → Int32} {m_words : Nat → Int32} {m_told : Nat → Int32} {m_all : Nat → Int32} {m_quarter : Nat → Int32} {m_roots : Nat → Int32} {m_noted1 : Nat → Int32} (hR : REL o_imageKept o_taped o_way_size o_way_log o_way_wordBits o_way_limit o_way_radix o_way_order o_way_near o_way_seed o_way_stages o_way_shifts o_wave_exp o_wave_done o_wave_backward o_wave_re o_wave_im o_wave_wasRe o_wave_wasIm o_wave_halved o_past_next o_past_held o_past_cells o_notes_total o_notes_knownBy o_notes_kinds o_notes_targets o_notes_bins o_ring_size o_ring_log o_ring_powers o_turns_cos o_turns_sin o_reader_fault o_reader_faultPlace o_image o_tape m_tapeSize m_fault m_faultPlace m_bank m_isImage m_undos m_runRadix m_runOrder m_runNear m_runLimit m_runHalves m_power m_notedMany m_knownTold m_tape m_words m_told m_all m_quarter m_roots m_noted1)   (o_beater_spareIm : Nat → Int32) (o_beater_spareRe : Nat → Int32) (m_thrown : Int32) (m_laidIm : Nat → Int32) (m_laidRe : Nat → Int32) :
    ∃ (r : Int32) (out_o_past_next : Int32) (out_o_past_held : Int32) (out_o_beater_spareIm : Nat → Int32) (out_o_beater_spareRe : Nat → Int32) (out_o_past_cells : Nat → Int32) (out_o_wave_im : Nat → Int32) (out_o_wave_re : Nat → Int32) (out_o_wave_wasIm : Nat → Int32) (out_o_wave_wasRe : Nat → Int32) (out_m_thrown : Int32) (out_m_undos : Int32) (out_m_all : Nat → Int32) (out_m_laidIm : Nat → Int32) (out_m_laidRe : Nat → Int32), fX9_turnRound o_past_next o_past_held o_wave_exp o_wave_done o_wave_backward o_way_size o_beater_spareIm o_beater_spareRe o_past_cells o_wave_halved o_wave_im o_wave_re o_wave_wasIm o_wave_wasRe = some (r, out_o_past_next, out_o_past_held, out_o_beater_spareIm, out_o_beater_spareRe, out_o_past_cells, out_o_wave_im, out_o_wave_re, out_o_wave_wasIm, out_o_wave_wasRe) ∧ fX10_turnRound m_thrown m_bank m_undos m_all m_laidIm m_laidRe m_told = some (r, out_m_thrown, out_m_undos, out_m_all, out_m_laidIm, out_m_laidRe) ∧ REL o_imageKept o_taped o_way_size o_way_log o_way_wordBits o_way_limit o_way_radix o_way_order o_way_near o_way_seed o_way_stages o_way_shifts o_wave_exp o_wave_done o_wave_backward out_o_wave_re out_o_wave_im out_o_wave_wasRe out_o_wave_wasIm o_wave_halved out_o_past_next out_o_past_held out_o_past_cells o_notes_total o_notes_knownBy o_notes_kinds o_notes_targets o_notes_bins o_ring_size o_ring_log o_ring_powers o_turns_cos o_turns_sin o_reader_fault o_reader_faultPlace o_image o_tape m_tapeSize m_fault m_faultPlace m_bank m_isImage out_m_undos m_runRadix m_runOrder m_runNear m_runLimit m_runHalves m_power m_notedMany m_knownTold m_tape m_words m_told out_m_all m_quarter m_roots m_noted1 := by
  have hR0 := hR
  obtain ⟨M, bits, rad, ord, nr, sd, hC, hW, hT, hG, hm, hV, hP, hI, hN, hA, hF1, hF2⟩ := hR
  obtain ⟨hM, hbits, hr, ho, hn, hsd⟩ := id hC
  obtain ⟨rfl, rfl, rfl, rfl, rfl, rfl, rfl, rfl, rfl, hSH⟩ := hW
  obtain ⟨rfl, rfl, rfl, rfl, rfl, rfl, rfl, rfl, rfl, t0, t1, t2, t3, t4, t5, hrt⟩ := hm
  have hN2 := isM_pow hM
  have hns := nst_le hM hr
  have hlm := lm_x hbits
  have hCG := CF_c hC
  have hV0 := hV
  obtain ⟨k, bk, rfl, rfl, hw, hws, hwi⟩ := hV
  unfold fX9_turnRound fX10_turnRound fX10_moves
  rcases fresh_c (by have := hwi.1; omega) hwi.2.1 hw with ⟨rfl, rfl, f1, f2⟩ | ⟨f1, f2⟩
  · obtain ⟨x0, hB0⟩ := hwi.2.2.2.2.2.2.1 rfl rfl
    subst x0
    obtain ⟨nx', hd', ce', un', al', r1, r2, r3, r4⟩ := remember_x hV0 hP
    obtain ⟨w1, -⟩ := RWS_0 hw
    have hBJ := BIJ_r hM
    have hz' : RW al' 0 (o_wave_re, o_wave_im) := fun p hp => by simp only [Nat.mul_zero, Nat.zero_add]; rw [r4 p (by omega), r4 (32 + p) (by omega)]; exact w1 p hp
    obtain ⟨si', sr', c1⟩ := moveAll_eq hM hBJ (sg := -1) (ad := 0) (fun p hp => by rw [show (-1 : Int32) * nI p + 0 = -(nI p) by grind, mir hM hp]) (o_wave_re, o_wave_im) o_beater_spareIm o_beater_spareRe
    obtain ⟨al1, li', lr', m1, m2, m3⟩ := moves_eq hM hBJ t0 (sg := -1) (ad := 0) (fun p hp => by
      have e9 : (0 : Int32) + -1 * nI p + nI (2 ^ M) = nI (2 ^ M - p) := by
        rw [← pk_sub (show p ≤ 2 ^ M by omega)]
        grind
      rw [e9, rem_N hM (by omega)]) hz' un' m_laidIm m_laidRe
    obtain ⟨wi', wr', al2, s1, s2, s3, s4⟩ := settled (al0 := al') (wi := o_wave_wasIm) (wr := o_wave_wasRe) hM hr hlm.2 hw (fun i hi => r4 i (by omega)) m3 m2 (mv_Z hwi.2.2.1) (mv_B hBJ hB0)
    rw [f1, f2, bd1_s, bd1_s, if_neg (show ¬ ((1 : Int32) = 0) by decide), if_neg (show ¬ ((1 : Int32) = 0) by decide), r1, r2, bd3_s, bd2_s, m1 al2 s2, bd4_s]
    rw [show fX0_moveAll o_wave_im o_wave_re o_beater_spareIm o_beater_spareRe (nI (2 ^ M)) (-1) 0 = _ from c1, bd4_s, s1, bd2_s]
    exact ⟨_, _, _, _, _, _, _, _, _, _, _, _, _, _, _, rfl, rfl, M, bits, rad, ord, nr, sd, hC, ⟨rfl, rfl, rfl, rfl, rfl, rfl, rfl, rfl, rfl, hSH⟩, hT, hG, ⟨rfl, rfl, rfl, rfl, rfl, rfl, rfl, rfl, rfl, t0, t1, t2, t3, t4, t5, hrt⟩, s3, PSTR_c (fun i hi => s4 i (by omega)) r3, IMGR_c (fun i h1 h2 => by rw [s4 i (by omega), r4 i (by omega)]) hI, hN, hA, hF1, hF2⟩
  · rw [f1, f2]
    exact ⟨_, _, _, _, _, _, _, _, _, _, _, _, _, _, _, rfl, rfl, hR0⟩
def opLd (M t : Nat) (z : RowZ) : RowZ := (fun p => if p < 2 ^ M then z.1 p * nI t else z.1 p, fun p => if p < 2 ^ M then z.2 p * nI t else z.2 p)
theorem k_louder {o_imageKept : Int32} {o_taped : Int32} {o_way_size : Int32} {o_way_log : Int32} {o_way_wordBits : Int32} {o_way_limit : Int32} {o_way_radix : Int32} {o_way_order : Int32} {o_way_near : Int32} {o_way_seed : Int32} {o_way_stages : Int32} {o_way_shifts : Nat → Int32} {o_wave_exp : Int32} {o_wave_done : Int32} {o_wave_backward : Int32} {o_wave_re : Nat → Int32} {o_wave_im : Nat → Int32} {o_wave_wasRe : Nat → Int32} {o_wave_wasIm : Nat → Int32} {o_wave_halved : Nat → Int32} {o_past_next : Int32} {o_past_held : Int32} {o_past_cells : Nat → Int32} {o_notes_total : Int32} {o_notes_knownBy : Int32} {o_notes_kinds : Nat → Int32} {o_notes_targets : Nat → Int32} {o_notes_bins : Nat → Int32} {o_ring_size : Int32} {o_ring_log : Int32} {o_ring_powers : Nat → Int32} {o_turns_cos : Nat → Int32} {o_turns_sin : Nat → Int32} {o_reader_fault : Int32} {o_reader_faultPlace : Int32} {o_image : Nat → Int32} {o_tape : Nat → Int32} {m_tapeSize : Int32} {m_fault : Int32} {m_faultPlace : Int32} {m_bank : Int32} {m_isImage : Int32} {m_undos : Int32} {m_runRadix : Int32} {m_runOrder : Int32} {m_runNear : Int32} {m_runLimit : Int32} {m_runHalves : Int32} {m_power : Int32} {m_notedMany : Int32} {m_knownTold : Int32} {m_tape : Nat → Int32} {m_words : Nat → Int32} {m_told : Nat → Int32} {m_all : Nat → Int32} {m_quarter : Nat → Int32} {m_roots : Nat → Int32} {m_noted1 : Nat → Int32} (hR : REL o_imageKept o_taped o_way_size o_way_log o_way_wordBits o_way_limit o_way_radix o_way_order o_way_near o_way_seed o_way_stages o_way_shifts o_wave_exp o_wave_done o_wave_backward o_wave_re o_wave_im o_wave_wasRe o_wave_wasIm o_wave_halved o_past_next o_past_held o_past_cells o_notes_total o_notes_knownBy o_notes_kinds o_notes_targets o_notes_bins o_ring_size o_ring_log o_ring_powers o_turns_cos o_turns_sin o_reader_fault o_reader_faultPlace o_image o_tape m_tapeSize m_fault m_faultPlace m_bank m_isImage m_undos m_runRadix m_runOrder m_runNear m_runLimit m_runHalves m_power m_notedMany m_knownTold m_tape m_words m_told m_all m_quarter m_roots m_noted1) (p1 : Int32)  (m_thrown : Int32) :
    ∃ (r : Int32) (out_o_past_next : Int32) (out_o_past_held : Int32) (out_o_past_cells : Nat → Int32) (out_o_wave_im : Nat → Int32) (out_o_wave_re : Nat → Int32) (out_o_wave_wasIm : Nat → Int32) (out_o_wave_wasRe : Nat → Int32) (out_m_thrown : Int32) (out_m_undos : Int32) (out_m_all : Nat → Int32), fX9_louder o_past_next o_past_held o_wave_exp o_wave_done o_wave_backward o_way_size o_way_limit o_past_cells o_wave_halved o_wave_im o_wave_re o_wave_wasIm o_wave_wasRe p1 = some (r, out_o_past_next, out_o_past_held, out_o_past_cells, out_o_wave_im, out_o_wave_re, out_o_wave_wasIm, out_o_wave_wasRe) ∧ fX10_louder m_thrown m_bank m_undos m_runLimit m_all m_told p1 = some (r, out_m_thrown, out_m_undos, out_m_all) ∧ REL o_imageKept o_taped o_way_size o_way_log o_way_wordBits o_way_limit o_way_radix o_way_order o_way_near o_way_seed o_way_stages o_way_shifts o_wave_exp o_wave_done o_wave_backward out_o_wave_re out_o_wave_im out_o_wave_wasRe out_o_wave_wasIm o_wave_halved out_o_past_next out_o_past_held out_o_past_cells o_notes_total o_notes_knownBy o_notes_kinds o_notes_targets o_notes_bins o_ring_size o_ring_log o_ring_powers o_turns_cos o_turns_sin o_reader_fault o_reader_faultPlace o_image o_tape m_tapeSize m_fault m_faultPlace m_bank m_isImage out_m_undos m_runRadix m_runOrder m_runNear m_runLimit m_runHalves m_power m_notedMany m_knownTold m_tape m_words m_told out_m_all m_quarter m_roots m_noted1 := by
  have hR0 := hR
  obtain ⟨M, bits, rad, ord, nr, sd, hC, hW, hT, hG, hm, hV, hP, hI, hN, hA, hF1, hF2⟩ := hR
  obtain ⟨hM, hbits, hr, ho, hn, hsd⟩ := id hC
  obtain ⟨rfl, rfl, rfl, rfl, rfl, rfl, rfl, rfl, rfl, hSH⟩ := hW
  obtain ⟨rfl, rfl, rfl, rfl, rfl, rfl, rfl, rfl, rfl, t0, t1, t2, t3, t4, t5, hrt⟩ := hm
  have hN2 := isM_pow hM
  have hns := nst_le hM hr
  have hlm := lm_x hbits
  have hCG := CF_c hC
  have hV0 := hV
  obtain ⟨k, bk, rfl, rfl, hw, hws, hwi⟩ := hV
  obtain ⟨w1, -⟩ := RWS_0 hw
  unfold fX9_louder fX10_louder
  rcases isIn_d p1 (show 2 ≤ 9 by decide) (show 9 < 2 ^ 30 by decide) with ⟨t, ht1, ht2, rfl, q1, q2, q3⟩ | ⟨q1, q3⟩ | ⟨q1, q2, q3⟩
  · rw [if_neg (show ¬ (nI t < 2) from q1), if_neg (show ¬ ((9 : Int32) < nI t) from q2), show fX10_isIn (nI t) 2 9 = _ from q3, bd1_s, if_neg (show ¬ ((1 : Int32) = 0) by decide)]
    rcases fresh_c (by have := hwi.1; omega) hwi.2.1 hw with ⟨rfl, rfl, f1, f2⟩ | ⟨f1, f2⟩
    · obtain ⟨x0, hB0⟩ := hwi.2.2.2.2.2.2.1 rfl rfl
      subst x0
      rw [f1, f2, bd1_s, bd1_s, if_neg (show ¬ ((1 : Int32) = 0) by decide), if_neg (show ¬ ((1 : Int32) = 0) by decide), grt_N hM, lgst_N hM t0 w1, bd1_s, bd1_s]
      obtain ⟨g1, g2, g3⟩ := lgst_x (B := lmN bits) (by omega) hB0
      dsimp only at g1 g2 g3
      obtain ⟨L, eL⟩ : ∃ L, L = lgst o_wave_re o_wave_im 0 (2 ^ M) := ⟨_, rfl⟩
      rw [← eL] at g1 g2 g3 ⊢
      obtain ⟨l, el⟩ : ∃ l : Nat, L.toInt = (l : Int) := ⟨L.toInt.toNat, by omega⟩
      have hlt : l * t ≤ 2 ^ 15 * 9 := Nat.mul_le_mul (by omega) ht2
      have et : (nI t).toInt = (t : Int) := nI_toInt (by omega)
      have elm : (nI (lmN bits)).toInt = (lmN bits : Int) := nI_toInt (by omega)
      have elm2 : (-(nI (lmN bits))).toInt = -(lmN bits : Int) := by rw [i32_neg (by omega), elm]
      have hcast : (l : Int) * t = ((l * t : Nat) : Int) := by simp
      have em : (L * nI t).toInt = ((l * t : Nat) : Int) := by rw [i32_mul (by rw [el, et, hcast]; omega) (by rw [el, et, hcast]; omega), el, et, hcast]
      have em6 : (Int32.toInt64 L * Int32.toInt64 (nI t)).toInt = ((l * t : Nat) : Int) := by rw [i64_mul (by rw [i64_w, i64_w, el, et, hcast]; omega) (by rw [i64_w, i64_w, el, et, hcast]; omega), i64_w, i64_w, el, et, hcast]
      unfold fX9_isInWord
      simp only [Int64.lt_iff_toInt_lt, Int32.le_iff_toInt_le, i64_w, elm, elm2, em, em6]
      by_cases hin : l * t ≤ lmN bits
      · rw [if_neg (show ¬ ((lmN bits : Int) < ((l * t : Nat) : Int)) by omega), if_neg (show ¬ (((l * t : Nat) : Int) < -(lmN bits : Int)) by omega), bd1_s, if_neg (show ¬ ((1 : Int32) = 0) by decide), if_pos (show ((l * t : Nat) : Int) ≤ (lmN bits : Int) by omega)]
        obtain ⟨nx', hd', ce', un', al', r1, r2, r3, r4⟩ := remember_x hV0 hP
        obtain ⟨Y, eY⟩ : ∃ Y, Y = opLd M t (o_wave_re, o_wave_im) := ⟨_, rfl⟩
        have hz' : ∀ p, p < 32 → al' p = o_wave_re p ∧ al' (32 + p) = o_wave_im p := fun p hp => by rw [r4 p (by omega), r4 (32 + p) (by omega)]; exact w1 p hp
        have hYZ : ∀ p, p < 32 → Y.1 p = o_wave_re p * nI t ∧ Y.2 p = o_wave_im p * nI t := fun p hp => by
          rw [eY]
          unfold opLd
          dsimp only
          by_cases h : p < 2 ^ M
          · rw [if_pos h, if_pos h]; exact ⟨rfl, rfl⟩
          · have h3 := hwi.2.2.1 p (by omega) hp
            dsimp only at h3
            rw [if_neg h, if_neg h, h3.1, h3.2, Int32.zero_mul]; exact ⟨rfl, rfl⟩
        have hRY : RW (blk al' 0 (fun j => al' j * nI t) 64) 0 Y ∧ FR al' (blk al' 0 (fun j => al' j * nI t) 64) 0 := by
          refine ⟨fun p hp => ?_, fun j hj => blk_out (by omega)⟩
          simp only [Nat.mul_zero, Nat.zero_add]
          rw [blk_in (by omega) (by omega), blk_in (by omega) (by omega), Nat.sub_zero, Nat.sub_zero, (hz' p hp).1, (hz' p hp).2, (hYZ p hp).1, (hYZ p hp).2]
          exact ⟨rfl, rfl⟩
        have hYB : BDz M Y (lmN bits) := fun p hp => by
          obtain ⟨b1, b2⟩ := g3 p (by omega)
          rw [(hYZ p (by omega)).1, (hYZ p (by omega)).2]
          have key : ∀ v : Int32, ab v ≤ L.toInt.toNat → ab (v * nI t) ≤ lmN bits := fun v hv => by
            unfold ab at hv ⊢
            have h3 : (v.toInt * (t : Int)).natAbs ≤ l * t := ab_mul (by omega) (by omega)
            rw [i32_mul (by rw [et]; omega) (by rw [et]; omega), et]
            omega
          exact ⟨key _ b1, key _ b2⟩
        have hYO : ZR M Y := fun p h1 h2 => by
          have h3 := hwi.2.2.1 p h1 h2
          dsimp only at h3
          rw [(hYZ p h2).1, (hYZ p h2).2, h3.1, h3.2, Int32.zero_mul]; exact ⟨rfl, rfl⟩
        obtain ⟨wi', wr', al2, s1, s2, s3, s4⟩ := settled (y := Y) (al0 := al') (wi := o_wave_wasIm) (wr := o_wave_wasRe) hM hr hlm.2 hw (fun i hi => r4 i (by omega)) hRY.2 hRY.1 hYO hYB
        rw [r1, r2, bd3_s, bd2_s]
        have hc := loopF (fun n i (z : RowZ) => fX9_louder_59 (nI (2 ^ M)) n nx' hd' ce' z.2 z.1 o_wave_wasIm o_wave_wasRe (nI t) (nI i)) (fun i => (blk o_wave_re 0 (fun p => o_wave_re p * nI t) i, blk o_wave_im 0 (fun p => o_wave_im p * nI t) i)) (2 ^ M) (some (1, nx', hd', ce', Y.2, Y.1, wi', wr')) ?_ ?_ (2 ^ M) FU 0 (by omega) (FU_pos (by omega))
        · have hm := loopF (fun n i (z : Nat → Int32) => fX10_louder_43 0 n 0 un' z (nI t) (nI i)) (fun i => blk al' 0 (fun j => al' j * nI t) i) 64 (some ((1 : Int32), (0 : Int32), un', al2)) ?_ ?_ 64 FU 0 (by omega) (FU_pos (by omega))
          · simp only [blk_0] at hc hm
            exact ⟨_, _, _, _, _, _, _, _, _, _, _, hc, hm, M, bits, rad, ord, nr, sd, hC, ⟨rfl, rfl, rfl, rfl, rfl, rfl, rfl, rfl, rfl, hSH⟩, hT, hG, ⟨rfl, rfl, rfl, rfl, rfl, rfl, rfl, rfl, rfl, t0, t1, t2, t3, t4, t5, hrt⟩, s3, PSTR_c (fun i hi => s4 i (by omega)) r3, IMGR_c (fun i h1 h2 => by rw [s4 i (by omega), r4 i (by omega)]) hI, hN, hA, hF1, hF2⟩
          · intro n i hi
            rw [fX10_louder_43.eq_2, if_neg (show ¬ ((64 : Int32) ≤ nI i) from nI_ge (a := i) (b := 64) hi (by decide)), of0 (by omega), bd1_s, lay0 (by omega), bd1_s, blk_out (show i < 0 ∨ 0 + i ≤ i by omega)]
            simp only [nm, nI_1]
            rw [blk0_s (v := fun j => al' j * nI t)]
          · intro n
            rw [fX10_louder_43.eq_2, if_pos (show (64 : Int32) ≤ nI 64 by decide), fX10_louder_67, s2, bd1_s]
        · intro n i hi
          dsimp only
          rw [fX9_louder_59.eq_2, if_neg (nI_ge hi (by omega))]
          simp only [nm, gd_t (inb_nI (show i < 32 by omega) (by decide)), nI_clamp (show i < 2 ^ 31 by omega), nI_1]
          rw [blk_out (show i < 0 ∨ 0 + i ≤ i by omega), blk_out (show i < 0 ∨ 0 + i ≤ i by omega)]
          exact cA2 (fun z1 z2 => fX9_louder_59 (nI (2 ^ M)) n nx' hd' ce' z1 z2 o_wave_wasIm o_wave_wasRe (nI t) (nI (i + 1))) (blk0_s (v := fun p => o_wave_im p * nI t)) (blk0_s (v := fun p => o_wave_re p * nI t))
        · intro n
          dsimp only
          rw [fX9_louder_59.eq_2, if_pos (nI_le (Nat.le_refl _) (by omega)), fX9_louder_102, blk0, blk0]
          have e1 : (fun p => if p < 2 ^ M then o_wave_re p * nI t else o_wave_re p) = Y.1 := by rw [eY]; rfl
          have e2 : (fun p => if p < 2 ^ M then o_wave_im p * nI t else o_wave_im p) = Y.2 := by rw [eY]; rfl
          rw [e1, e2, s1, bd2_s]
      · rw [if_pos (show (lmN bits : Int) < ((l * t : Nat) : Int) by omega), bd1_s, if_pos rfl, if_neg (show ¬ (((l * t : Nat) : Int) ≤ (lmN bits : Int)) by omega)]
        exact ⟨_, _, _, _, _, _, _, _, _, _, _, rfl, rfl, hR0⟩
    · rw [f1, f2]
      exact ⟨_, _, _, _, _, _, _, _, _, _, _, rfl, rfl, hR0⟩
  · exact ⟨_, _, _, _, _, _, _, _, _, _, _, by rw [if_pos (show p1 < 2 from q1)], by rw [show fX10_isIn p1 2 9 = _ from q3, bd1_s, if_pos rfl], hR0⟩
  · exact ⟨_, _, _, _, _, _, _, _, _, _, _, by rw [if_neg (show ¬ (p1 < 2) from q1), if_pos (show (9 : Int32) < p1 from q2)], by rw [show fX10_isIn p1 2 9 = _ from q3, bd1_s, if_pos rfl], hR0⟩
