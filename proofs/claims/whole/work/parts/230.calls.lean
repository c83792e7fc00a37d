/-! ===== calls: what is asked alone ===== -/
def REL (o_imageKept : Int32) (o_taped : Int32) (o_way_size : Int32) (o_way_log : Int32) (o_way_wordBits : Int32) (o_way_limit : Int32) (o_way_radix : Int32) (o_way_order : Int32) (o_way_near : Int32) (o_way_seed : Int32) (o_way_stages : Int32) (o_way_shifts : Nat → Int32) (o_wave_exp : Int32) (o_wave_done : Int32) (o_wave_backward : Int32) (o_wave_re : Nat → Int32) (o_wave_im : Nat → Int32) (o_wave_wasRe : Nat → Int32) (o_wave_wasIm : Nat → Int32) (o_wave_halved : Nat → Int32) (o_past_next : Int32) (o_past_held : Int32) (o_past_cells : Nat → Int32) (o_notes_total : Int32) (o_notes_knownBy : Int32) (o_notes_kinds : Nat → Int32) (o_notes_targets : Nat → Int32) (o_notes_bins : Nat → Int32) (o_ring_size : Int32) (o_ring_log : Int32) (o_ring_powers : Nat → Int32) (o_turns_cos : Nat → Int32) (o_turns_sin : Nat → Int32) (o_reader_fault : Int32) (o_reader_faultPlace : Int32) (o_image : Nat → Int32) (o_tape : Nat → Int32) (m_tapeSize : Int32) (m_fault : Int32) (m_faultPlace : Int32) (m_bank : Int32) (m_isImage : Int32) (m_undos : Int32) (m_runRadix : Int32) (m_runOrder : Int32) (m_runNear : Int32) (m_runLimit : Int32) (m_runHalves : Int32) (m_power : Int32) (m_notedMany : Int32) (m_knownTold : Int32) (m_tape : Nat → Int32) (m_words : Nat → Int32) (m_told : Nat → Int32) (m_all : Nat → Int32) (m_quarter : Nat → Int32) (m_roots : Nat → Int32) (m_noted1 : Nat → Int32) : Prop :=
  ∃ M bits rad ord nr sd, CF M bits rad ord nr sd ∧ WAYR M bits rad ord nr sd o_way_size o_way_log o_way_wordBits o_way_limit o_way_radix o_way_order o_way_near o_way_seed o_way_stages o_way_shifts ∧
  TRN M o_turns_cos o_turns_sin ∧ RNGR M o_ring_size o_ring_log o_ring_powers ∧ MODR M bits rad ord nr sd m_bank m_runRadix m_runOrder m_runNear m_runLimit m_runHalves m_power m_words m_told m_quarter m_roots ∧
  WVR M rad (lmN bits) m_all o_wave_exp o_wave_done o_wave_backward o_wave_re o_wave_im o_wave_wasRe o_wave_wasIm o_wave_halved ∧ PSTR M rad (lmN bits) m_all o_past_next o_past_held o_past_cells m_undos ∧
  IMGR M rad (lmN bits) m_all o_imageKept m_isImage o_image ∧ NTSR M o_notes_total o_notes_knownBy o_notes_kinds o_notes_targets o_notes_bins m_notedMany m_knownTold m_noted1 ∧
  TAPR o_taped m_tapeSize o_tape m_tape ∧ o_reader_fault = m_fault ∧ o_reader_faultPlace = m_faultPlace
theorem place_c {M : Nat} (hM : isM M) (p : Int32) :
    (∃ j, j < 2 ^ M ∧ p = nI j ∧ fX9_isPlace (nI (2 ^ M)) p = some 1 ∧ ∀ told : Nat → Int32, told 0 = nI (2 ^ M) → fX10_isPlace told p = some 1) ∨
    (fX9_isPlace (nI (2 ^ M)) p = some 0 ∧ ∀ told : Nat → Int32, told 0 = nI (2 ^ M) → fX10_isPlace told p = some 0) := by
  have hN := isM_pow hM
  unfold fX9_isPlace fX10_isPlace
  rcases pk_ix p (show 2 ^ M < 2 ^ 31 by omega) with h | h | ⟨j, hj, rfl⟩
  · right
    rw [if_pos h]
    exact ⟨rfl, fun told _ => by rw [if_pos h]⟩
  · right
    by_cases h0 : p < 0
    · rw [if_pos h0]
      exact ⟨rfl, fun told _ => by rw [if_pos h0]⟩
    · rw [if_neg h0, if_pos h]
      exact ⟨rfl, fun told ht => by rw [if_neg h0, size_eq, bd1_s, ht, if_pos h]⟩
  · left
    refine ⟨j, hj, rfl, ?_, fun told ht => ?_⟩
    · rw [if_neg (nI_pos (by omega)), if_neg (nI_ge hj (by omega))]
    · rw [if_neg (nI_pos (by omega)), size_eq, bd1_s, ht, if_neg (nI_ge hj (by omega))]
theorem isIn_c (p : Int32) {n : Nat} (hn : n < 2 ^ 30) :
    (∃ j, j ≤ n ∧ p = nI j ∧ ¬ p < 0 ∧ p ≤ nI n ∧ fX10_isIn p 0 (nI n) = some 1) ∨ (p < 0 ∧ fX10_isIn p 0 (nI n) = some 0) ∨ (¬ p < 0 ∧ ¬ p ≤ nI n ∧ nI n < p ∧ fX10_isIn p 0 (nI n) = some 0) := by
  unfold fX10_isIn
  by_cases h0 : p < 0
  · exact Or.inr (Or.inl ⟨h0, by rw [if_pos h0]⟩)
  · obtain ⟨j, hj, rfl⟩ := nI_of h0
    by_cases h1 : j ≤ n
    · exact Or.inl ⟨j, h1, rfl, h0, nI_le h1 (by omega), by rw [if_neg h0, if_neg (nI_nlt h1 (by omega))]⟩
    · exact Or.inr (Or.inr ⟨h0, nI_ge (by omega) hj, nI_lt (by omega) hj, by rw [if_neg h0, if_pos (nI_lt (by omega) hj)]⟩)
theorem of0 {k : Nat} (hk : k < 136) (all : Nat → Int32) : fX10_of 0 all (nI k) = some (all k) := by
  have := of_eq (b := 0) (by decide) hk all
  rw [Nat.mul_zero, Nat.zero_add] at this
  exact this
theorem RWS_0 {all : Nat → Int32} {z : RowZ} {x : Int32} {k bk : Nat} {ha : Nat → Int32} (hw : RWS all 0 z x k bk ha) : (∀ p, p < 32 → all p = z.1 p ∧ all (32 + p) = z.2 p) ∧ all 128 = x ∧ all 129 = nI k ∧ all 130 = nI bk ∧ ∀ j, j < 5 → all (131 + j) = if j < k then ha j else -2 := by
  obtain ⟨w1, w2, w3, w4, w5⟩ := hw
  simp only [Nat.mul_zero, Nat.zero_add] at w2 w3 w4 w5
  refine ⟨fun p hp => ?_, w2, w3, w4, w5⟩
  have := w1 p hp
  simp only [Nat.mul_zero, Nat.zero_add] at this
  exact this
theorem WASR_0 {all : Nat → Int32} {w : RowZ} (hw : WASR all 0 w) : ∀ p, p < 32 → all (64 + p) = w.1 p ∧ all (96 + p) = w.2 p := fun p hp => by
  have := hw p hp
  simp only [Nat.mul_zero, Nat.zero_add] at this
  exact this
def sq2 (x y : Int32) : Int64 := Int32.toInt64 x * Int32.toInt64 x + Int32.toInt64 y * Int32.toInt64 y
theorem squares_eq {a p : Nat} (h : a + 32 + p < 136) (all : Nat → Int32) : fX10_squares 0 all (nI a) (nI p) = some (sq2 (all (a + p)) (all (a + 32 + p))) := by
  unfold fX10_squares
  rw [show (32 : Int32) = nI 32 from rfl, nI_add, nI_add, nI_add, of0 (by omega), of0 (by omega)]
  simp only [bd1_s]
  rfl
theorem k_fault {o_imageKept : Int32} {o_taped : Int32} {o_way_size : Int32} {o_way_log : Int32} {o_way_wordBits : Int32} {o_way_limit : Int32} {o_way_radix : Int32} {o_way_order : Int32} {o_way_near : Int32} {o_way_seed : Int32} {o_way_stages : Int32} {o_way_shifts : Nat → Int32} {o_wave_exp : Int32} {o_wave_done : Int32} {o_wave_backward : Int32} {o_wave_re : Nat → Int32} {o_wave_im : Nat → Int32} {o_wave_wasRe : Nat → Int32} {o_wave_wasIm : Nat → Int32} {o_wave_halved : Nat → Int32} {o_past_next : Int32} {o_past_held : Int32} {o_past_cells : Nat → Int32} {o_notes_total : Int32} {o_notes_knownBy : Int32} {o_notes_kinds : Nat → Int32} {o_notes_targets : Nat → Int32} {o_notes_bins : Nat → Int32} {o_ring_size : Int32} {o_ring_log : Int32} {o_ring_powers : Nat → Int32} {o_turns_cos : Nat → Int32} {o_turns_sin : Nat → Int32} {o_reader_fault : Int32} {o_reader_faultPlace : Int32} {o_image : Nat → Int32} {o_tape : Nat → Int32} {m_tapeSize : Int32} {m_fault : Int32} {m_faultPlace : Int32} {m_bank : Int32} {m_isImage : Int32} {m_undos : Int32} {m_runRadix : Int32} {m_runOrder : Int32} {m_runNear : Int32} {m_runLimit : Int32} {m_runHalves : Int32} {m_power : Int32} {m_notedMany : Int32} {m_knownTold : Int32} {m_tape : Nat → Int32} {m_words : Nat → Int32} {m_told : Nat → Int32} {m_all : Nat → Int32} {m_quarter : Nat → Int32} {m_roots : Nat → Int32} {m_noted1 : Nat → Int32} (hR : REL o_imageKept o_taped o_way_size o_way_log o_way_wordBits o_way_limit o_way_radix o_way_order o_way_near o_way_seed o_way_stages o_way_shifts o_wave_exp o_wave_done o_wave_backward o_wave_re o_wave_im o_wave_wasRe o_wave_wasIm o_wave_halved o_past_next o_past_held o_past_cells o_notes_total o_notes_knownBy o_notes_kinds o_notes_targets o_notes_bins o_ring_size o_ring_log o_ring_powers o_turns_cos o_turns_sin o_reader_fault o_reader_faultPlace o_image o_tape m_tapeSize m_fault m_faultPlace m_bank m_isImage m_undos m_runRadix m_runOrder m_runNear m_runLimit m_runHalves m_power m_notedMany m_knownTold m_tape m_words m_told m_all m_quarter m_roots m_noted1) (p1 : Int32)  (m_thrown : Int32) :
    ∃ (r : Int32) (out_m_thrown : Int32), fX9_fault o_reader_fault o_reader_faultPlace p1 = some r ∧ fX10_fault m_thrown m_fault m_faultPlace p1 = some (r, out_m_thrown) ∧ REL o_imageKept o_taped o_way_size o_way_log o_way_wordBits o_way_limit o_way_radix o_way_order o_way_near o_way_seed o_way_stages o_way_shifts o_wave_exp o_wave_done o_wave_backward o_wave_re o_wave_im o_wave_wasRe o_wave_wasIm o_wave_halved o_past_next o_past_held o_past_cells o_notes_total o_notes_knownBy o_notes_kinds o_notes_targets o_notes_bins o_ring_size o_ring_log o_ring_powers o_turns_cos o_turns_sin o_reader_fault o_reader_faultPlace o_image o_tape m_tapeSize m_fault m_faultPlace m_bank m_isImage m_undos m_runRadix m_runOrder m_runNear m_runLimit m_runHalves m_power m_notedMany m_knownTold m_tape m_words m_told m_all m_quarter m_roots m_noted1 := by
  have hR0 := hR
  obtain ⟨M, bits, rad, ord, nr, sd, hC, hW, hT, hG, hm, hV, hP, hI, hN, hA, hF1, hF2⟩ := hR
  obtain ⟨hM, hbits, hr, ho, hn, hsd⟩ := id hC
  obtain ⟨rfl, rfl, rfl, rfl, rfl, rfl, rfl, rfl, rfl, hSH⟩ := hW
  obtain ⟨rfl, rfl, rfl, rfl, rfl, rfl, rfl, rfl, rfl, t0, t1, t2, t3, t4, t5, hrt⟩ := hm
  have hN2 := isM_pow hM
  have hns := nst_le hM hr
  have hlm := lm_x hbits
  have hCG := CF_c hC
  subst hF1; subst hF2
  unfold fX9_fault fX10_fault
  by_cases h0 : p1 = 0
  · exact ⟨_, _, by rw [if_pos h0], by rw [if_pos h0], hR0⟩
  · by_cases h1 : p1 = 1
    · exact ⟨_, _, by rw [if_neg h0, if_pos h1], by rw [if_neg h0, if_pos h1], hR0⟩
    · exact ⟨_, _, by rw [if_neg h0, if_neg h1], by rw [if_neg h0, if_neg h1], hR0⟩
theorem k_turn {o_imageKept : Int32} {o_taped : Int32} {o_way_size : Int32} {o_way_log : Int32} {o_way_wordBits : Int32} {o_way_limit : Int32} {o_way_radix : Int32} {o_way_order : Int32} {o_way_near : Int32} {o_way_seed : Int32} {o_way_stages : Int32} {o_way_shifts : Nat → Int32} {o_wave_exp : Int32} {o_wave_done : Int32} {o_wave_backward : Int32} {o_wave_re : Nat → Int32} {o_wave_im : Nat → Int32} {o_wave_wasRe : Nat → Int32} {o_wave_wasIm : Nat → Int32} {o_wave_halved : Nat → Int32} {o_past_next : Int32} {o_past_held : Int32} {o_past_cells : Nat → Int32} {o_notes_total : Int32} {o_notes_knownBy : Int32} {o_notes_kinds : Nat → Int32} {o_notes_targets : Nat → Int32} {o_notes_bins : Nat → Int32} {o_ring_size : Int32} {o_ring_log : Int32} {o_ring_powers : Nat → Int32} {o_turns_cos : Nat → Int32} {o_turns_sin : Nat → Int32} {o_reader_fault : Int32} {o_reader_faultPlace : Int32} {o_image : Nat → Int32} {o_tape : Nat → Int32} {m_tapeSize : Int32} {m_fault : Int32} {m_faultPlace : Int32} {m_bank : Int32} {m_isImage : Int32} {m_undos : Int32} {m_runRadix : Int32} {m_runOrder : Int32} {m_runNear : Int32} {m_runLimit : Int32} {m_runHalves : Int32} {m_power : Int32} {m_notedMany : Int32} {m_knownTold : Int32} {m_tape : Nat → Int32} {m_words : Nat → Int32} {m_told : Nat → Int32} {m_all : Nat → Int32} {m_quarter : Nat → Int32} {m_roots : Nat → Int32} {m_noted1 : Nat → Int32} (hR : REL o_imageKept o_taped o_way_size o_way_log o_way_wordBits o_way_limit o_way_radix o_way_order o_way_near o_way_seed o_way_stages o_way_shifts o_wave_exp o_wave_done o_wave_backward o_wave_re o_wave_im o_wave_wasRe o_wave_wasIm o_wave_halved o_past_next o_past_held o_past_cells o_notes_total o_notes_knownBy o_notes_kinds o_notes_targets o_notes_bins o_ring_size o_ring_log o_ring_powers o_turns_cos o_turns_sin o_reader_fault o_reader_faultPlace o_image o_tape m_tapeSize m_fault m_faultPlace m_bank m_isImage m_undos m_runRadix m_runOrder m_runNear m_runLimit m_runHalves m_power m_notedMany m_knownTold m_tape m_words m_told m_all m_quarter m_roots m_noted1) (p1 : Int32) (p2 : Int32)  (m_thrown : Int32) :
    ∃ (r : Int32) (out_m_thrown : Int32), fX9_turn o_way_size o_turns_cos o_turns_sin p1 p2 = some r ∧ fX10_turn m_thrown m_quarter m_told p1 p2 = some (r, out_m_thrown) ∧ REL o_imageKept o_taped o_way_size o_way_log o_way_wordBits o_way_limit o_way_radix o_way_order o_way_near o_way_seed o_way_stages o_way_shifts o_wave_exp o_wave_done o_wave_backward o_wave_re o_wave_im o_wave_wasRe o_wave_wasIm o_wave_halved o_past_next o_past_held o_past_cells o_notes_total o_notes_knownBy o_notes_kinds o_notes_targets o_notes_bins o_ring_size o_ring_log o_ring_powers o_turns_cos o_turns_sin o_reader_fault o_reader_faultPlace o_image o_tape m_tapeSize m_fault m_faultPlace m_bank m_isImage m_undos m_runRadix m_runOrder m_runNear m_runLimit m_runHalves m_power m_notedMany m_knownTold m_tape m_words m_told m_all m_quarter m_roots m_noted1 := by
  have hR0 := hR
  obtain ⟨M, bits, rad, ord, nr, sd, hC, hW, hT, hG, hm, hV, hP, hI, hN, hA, hF1, hF2⟩ := hR
  obtain ⟨hM, hbits, hr, ho, hn, hsd⟩ := id hC
  obtain ⟨rfl, rfl, rfl, rfl, rfl, rfl, rfl, rfl, rfl, hSH⟩ := hW
  obtain ⟨rfl, rfl, rfl, rfl, rfl, rfl, rfl, rfl, rfl, t0, t1, t2, t3, t4, t5, hrt⟩ := hm
  have hN2 := isM_pow hM
  have hns := nst_le hM hr
  have hlm := lm_x hbits
  have hCG := CF_c hC
  unfold fX9_turn fX10_turn
  have hMO := TRN_m hM hT t0
  rcases place_c hM p1 with ⟨j, hj, rfl, e1, e2⟩ | ⟨e1, e2⟩
  · rw [e1, e2 _ t0, bd1_s, bd1_s, if_neg (show ¬ ((1 : Int32) = 0) by decide), if_neg (show ¬ ((1 : Int32) = 0) by decide), (hMO.2 j hj).1, (hMO.2 j hj).2, gd_t (inb_nI (show j < 32 by omega) (by decide)), gd_t (inb_nI (show j < 32 by omega) (by decide)), nI_clamp (by omega)]
    rcases isIn_c p2 (show 1 < 2 ^ 30 by decide) with ⟨i, hi, rfl, q1, q2, q3⟩ | ⟨q1, q3⟩ | ⟨q1, q2, -, q3⟩
    · rw [if_neg q1, if_pos (show nI i ≤ 1 from q2), show (1 : Int32) = nI 1 from rfl, q3, bd1_s, if_neg (show ¬ ((1 : Int32) = 0) by decide)]
      by_cases h0 : nI i = 0
      · exact ⟨_, _, by rw [if_pos h0], by rw [if_pos h0]; rfl, hR0⟩
      · exact ⟨_, _, by rw [if_neg h0], by rw [if_neg h0]; rfl, hR0⟩
    · exact ⟨_, _, by rw [if_pos q1], by rw [show (1 : Int32) = nI 1 from rfl, q3, bd1_s, if_pos rfl], hR0⟩
    · exact ⟨_, _, by rw [if_neg q1, if_neg (show ¬ (p2 ≤ 1) from q2)], by rw [show (1 : Int32) = nI 1 from rfl, q3, bd1_s, if_pos rfl], hR0⟩
  · rw [e1, e2 _ t0]
    exact ⟨_, _, rfl, rfl, hR0⟩
theorem k_reversed {o_imageKept : Int32} {o_taped : Int32} {o_way_size : Int32} {o_way_log : Int32} {o_way_wordBits : Int32} {o_way_limit : Int32} {o_way_radix : Int32} {o_way_order : Int32} {o_way_near : Int32} {o_way_seed : Int32} {o_way_stages : Int32} {o_way_shifts : Nat → Int32} {o_wave_exp : Int32} {o_wave_done : Int32} {o_wave_backward : Int32} {o_wave_re : Nat → Int32} {o_wave_im : Nat → Int32} {o_wave_wasRe : Nat → Int32} {o_wave_wasIm : Nat → Int32} {o_wave_halved : Nat → Int32} {o_past_next : Int32} {o_past_held : Int32} {o_past_cells : Nat → Int32} {o_notes_total : Int32} {o_notes_knownBy : Int32} {o_notes_kinds : Nat → Int32} {o_notes_targets : Nat → Int32} {o_notes_bins : Nat → Int32} {o_ring_size : Int32} {o_ring_log : Int32} {o_ring_powers : Nat → Int32} {o_turns_cos : Nat → Int32} {o_turns_sin : Nat → Int32} {o_reader_fault : Int32} {o_reader_faultPlace : Int32} {o_image : Nat → Int32} {o_tape : Nat → Int32} {m_tapeSize : Int32} {m_fault : Int32} {m_faultPlace : Int32} {m_bank : Int32} {m_isImage : Int32} {m_undos : Int32} {m_runRadix : Int32} {m_runOrder : Int32} {m_runNear : Int32} {m_runLimit : Int32} {m_runHalves : Int32} {m_power : Int32} {m_notedMany : Int32} {m_knownTold : Int32} {m_tape : Nat → Int32} {m_words : Nat → Int32} {m_told : Nat → Int32} {m_all : Nat → Int32} {m_quarter : Nat → Int32} {m_roots : Nat → Int32} {m_noted1 : Nat → Int32} (hR : REL o_imageKept o_taped o_way_size o_way_log o_way_wordBits o_way_limit o_way_radix o_way_order o_way_near o_way_seed o_way_stages o_way_shifts o_wave_exp o_wave_done o_wave_backward o_wave_re o_wave_im o_wave_wasRe o_wave_wasIm o_wave_halved o_past_next o_past_held o_past_cells o_notes_total o_notes_knownBy o_notes_kinds o_notes_targets o_notes_bins o_ring_size o_ring_log o_ring_powers o_turns_cos o_turns_sin o_reader_fault o_reader_faultPlace o_image o_tape m_tapeSize m_fault m_faultPlace m_bank m_isImage m_undos m_runRadix m_runOrder m_runNear m_runLimit m_runHalves m_power m_notedMany m_knownTold m_tape m_words m_told m_all m_quarter m_roots m_noted1) (p1 : Int32)  (m_thrown : Int32) :
    ∃ (r : Int32) (out_m_thrown : Int32), fX9_reversed o_way_size o_way_stages o_way_shifts p1 = some r ∧ fX10_reversed m_thrown m_runRadix m_runOrder m_power m_told p1 = some (r, out_m_thrown) ∧ REL o_imageKept o_taped o_way_size o_way_log o_way_wordBits o_way_limit o_way_radix o_way_order o_way_near o_way_seed o_way_stages o_way_shifts o_wave_exp o_wave_done o_wave_backward o_wave_re o_wave_im o_wave_wasRe o_wave_wasIm o_wave_halved o_past_next o_past_held o_past_cells o_notes_total o_notes_knownBy o_notes_kinds o_notes_targets o_notes_bins o_ring_size o_ring_log o_ring_powers o_turns_cos o_turns_sin o_reader_fault o_reader_faultPlace o_image o_tape m_tapeSize m_fault m_faultPlace m_bank m_isImage m_undos m_runRadix m_runOrder m_runNear m_runLimit m_runHalves m_power m_notedMany m_knownTold m_tape m_words m_told m_all m_quarter m_roots m_noted1 := by
  have hR0 := hR
  obtain ⟨M, bits, rad, ord, nr, sd, hC, hW, hT, hG, hm, hV, hP, hI, hN, hA, hF1, hF2⟩ := hR
  obtain ⟨hM, hbits, hr, ho, hn, hsd⟩ := id hC
  obtain ⟨rfl, rfl, rfl, rfl, rfl, rfl, rfl, rfl, rfl, hSH⟩ := hW
  obtain ⟨rfl, rfl, rfl, rfl, rfl, rfl, rfl, rfl, rfl, t0, t1, t2, t3, t4, t5, hrt⟩ := hm
  have hN2 := isM_pow hM
  have hns := nst_le hM hr
  have hlm := lm_x hbits
  have hCG := CF_c hC
  unfold fX9_reversed fX10_reversed
  rcases place_c hM p1 with ⟨j, hj, rfl, e1, e2⟩ | ⟨e1, e2⟩
  · rw [e1, e2 _ t0, revp_eq hM hr ho hj hSH, (rv_x hM hr ho hj).1]
    exact ⟨_, _, rfl, rfl, hR0⟩
  · rw [e1, e2 _ t0]
    exact ⟨_, _, rfl, rfl, hR0⟩
theorem k_digit {o_imageKept : Int32} {o_taped : Int32} {o_way_size : Int32} {o_way_log : Int32} {o_way_wordBits : Int32} {o_way_limit : Int32} {o_way_radix : Int32} {o_way_order : Int32} {o_way_near : Int32} {o_way_seed : Int32} {o_way_stages : Int32} {o_way_shifts : Nat → Int32} {o_wave_exp : Int32} {o_wave_done : Int32} {o_wave_backward : Int32} {o_wave_re : Nat → Int32} {o_wave_im : Nat → Int32} {o_wave_wasRe : Nat → Int32} {o_wave_wasIm : Nat → Int32} {o_wave_halved : Nat → Int32} {o_past_next : Int32} {o_past_held : Int32} {o_past_cells : Nat → Int32} {o_notes_total : Int32} {o_notes_knownBy : Int32} {o_notes_kinds : Nat → Int32} {o_notes_targets : Nat → Int32} {o_notes_bins : Nat → Int32} {o_ring_size : Int32} {o_ring_log : Int32} {o_ring_powers : Nat → Int32} {o_turns_cos : Nat → Int32} {o_turns_sin : Nat → Int32} {o_reader_fault : Int32} {o_reader_faultPlace : Int32} {o_image : Nat → Int32} {o_tape : Nat → Int32} {m_tapeSize : Int32} {m_fault : Int32} {m_faultPlace : Int32} {m_bank : Int32} {m_isImage : Int32} {m_undos : Int32} {m_runRadix : Int32} {m_runOrder : Int32} {m_runNear : Int32} {m_runLimit : Int32} {m_runHalves : Int32} {m_power : Int32} {m_notedMany : Int32} {m_knownTold : Int32} {m_tape : Nat → Int32} {m_words : Nat → Int32} {m_told : Nat → Int32} {m_all : Nat → Int32} {m_quarter : Nat → Int32} {m_roots : Nat → Int32} {m_noted1 : Nat → Int32} (hR : REL o_imageKept o_taped o_way_size o_way_log o_way_wordBits o_way_limit o_way_radix o_way_order o_way_near o_way_seed o_way_stages o_way_shifts o_wave_exp o_wave_done o_wave_backward o_wave_re o_wave_im o_wave_wasRe o_wave_wasIm o_wave_halved o_past_next o_past_held o_past_cells o_notes_total o_notes_knownBy o_notes_kinds o_notes_targets o_notes_bins o_ring_size o_ring_log o_ring_powers o_turns_cos o_turns_sin o_reader_fault o_reader_faultPlace o_image o_tape m_tapeSize m_fault m_faultPlace m_bank m_isImage m_undos m_runRadix m_runOrder m_runNear m_runLimit m_runHalves m_power m_notedMany m_knownTold m_tape m_words m_told m_all m_quarter m_roots m_noted1) (p1 : Int32) (p2 : Int32)  (m_thrown : Int32) :
    ∃ (r : Int32) (out_m_thrown : Int32), fX9_digit o_way_size o_way_stages o_way_shifts p1 p2 = some r ∧ fX10_digit m_thrown m_runRadix m_runOrder m_power m_told p1 p2 = some (r, out_m_thrown) ∧ REL o_imageKept o_taped o_way_size o_way_log o_way_wordBits o_way_limit o_way_radix o_way_order o_way_near o_way_seed o_way_stages o_way_shifts o_wave_exp o_wave_done o_wave_backward o_wave_re o_wave_im o_wave_wasRe o_wave_wasIm o_wave_halved o_past_next o_past_held o_past_cells o_notes_total o_notes_knownBy o_notes_kinds o_notes_targets o_notes_bins o_ring_size o_ring_log o_ring_powers o_turns_cos o_turns_sin o_reader_fault o_reader_faultPlace o_image o_tape m_tapeSize m_fault m_faultPlace m_bank m_isImage m_undos m_runRadix m_runOrder m_runNear m_runLimit m_runHalves m_power m_notedMany m_knownTold m_tape m_words m_told m_all m_quarter m_roots m_noted1 := by
  have hR0 := hR
  obtain ⟨M, bits, rad, ord, nr, sd, hC, hW, hT, hG, hm, hV, hP, hI, hN, hA, hF1, hF2⟩ := hR
  obtain ⟨hM, hbits, hr, ho, hn, hsd⟩ := id hC
  obtain ⟨rfl, rfl, rfl, rfl, rfl, rfl, rfl, rfl, rfl, hSH⟩ := hW
  obtain ⟨rfl, rfl, rfl, rfl, rfl, rfl, rfl, rfl, rfl, t0, t1, t2, t3, t4, t5, hrt⟩ := hm
  have hN2 := isM_pow hM
  have hns := nst_le hM hr
  have hlm := lm_x hbits
  have hCG := CF_c hC
  unfold fX9_digit fX10_digit
  rcases place_c hM p1 with ⟨j, hj, rfl, e1, e2⟩ | ⟨e1, e2⟩
  · rw [e1, e2 _ t0, stagesMany_eq hM hr, bd1_s, bd1_s, if_neg (show ¬ ((1 : Int32) = 0) by decide), if_neg (show ¬ ((1 : Int32) = 0) by decide), bd1_s]
    rcases pk_ix p2 (show nst M rad < 2 ^ 31 by omega) with h | h | ⟨d, hd, rfl⟩
    · exact ⟨_, _, by rw [if_pos h], by rw [if_pos h], hR0⟩
    · by_cases h0 : p2 < 0
      · exact ⟨_, _, by rw [if_pos h0], by rw [if_pos h0], hR0⟩
      · have h2 : ¬ (p2 < nI (nst M rad)) := fun q => by
          rw [Int32.le_iff_toInt_le] at h
          rw [Int32.lt_iff_toInt_lt] at q
          omega
        exact ⟨_, _, by rw [if_neg h0, if_neg h2], by rw [if_neg h0, if_pos h], hR0⟩
    · obtain ⟨x, x1, x2⟩ := dig_eq hM hr ho hj hd hSH
      exact ⟨_, _, by rw [if_neg (nI_pos (by omega)), if_pos (nI_lt hd (by omega)), x1, bd1_s], by rw [if_neg (nI_pos (by omega)), if_neg (nI_ge hd (by omega)), x2, bd1_s], hR0⟩
  · rw [e1, e2 _ t0]
    exact ⟨_, _, rfl, rfl, hR0⟩
theorem k_stage {o_imageKept : Int32} {o_taped : Int32} {o_way_size : Int32} {o_way_log : Int32} {o_way_wordBits : Int32} {o_way_limit : Int32} {o_way_radix : Int32} {o_way_order : Int32} {o_way_near : Int32} {o_way_seed : Int32} {o_way_stages : Int32} {o_way_shifts : Nat → Int32} {o_wave_exp : Int32} {o_wave_done : Int32} {o_wave_backward : Int32} {o_wave_re : Nat → Int32} {o_wave_im : Nat → Int32} {o_wave_wasRe : Nat → Int32} {o_wave_wasIm : Nat → Int32} {o_wave_halved : Nat → Int32} {o_past_next : Int32} {o_past_held : Int32} {o_past_cells : Nat → Int32} {o_notes_total : Int32} {o_notes_knownBy : Int32} {o_notes_kinds : Nat → Int32} {o_notes_targets : Nat → Int32} {o_notes_bins : Nat → Int32} {o_ring_size : Int32} {o_ring_log : Int32} {o_ring_powers : Nat → Int32} {o_turns_cos : Nat → Int32} {o_turns_sin : Nat → Int32} {o_reader_fault : Int32} {o_reader_faultPlace : Int32} {o_image : Nat → Int32} {o_tape : Nat → Int32} {m_tapeSize : Int32} {m_fault : Int32} {m_faultPlace : Int32} {m_bank : Int32} {m_isImage : Int32} {m_undos : Int32} {m_runRadix : Int32} {m_runOrder : Int32} {m_runNear : Int32} {m_runLimit : Int32} {m_runHalves : Int32} {m_power : Int32} {m_notedMany : Int32} {m_knownTold : Int32} {m_tape : Nat → Int32} {m_words : Nat → Int32} {m_told : Nat → Int32} {m_all : Nat → Int32} {m_quarter : Nat → Int32} {m_roots : Nat → Int32} {m_noted1 : Nat → Int32} (hR : REL o_imageKept o_taped o_way_size o_way_log o_way_wordBits o_way_limit o_way_radix o_way_order o_way_near o_way_seed o_way_stages o_way_shifts o_wave_exp o_wave_done o_wave_backward o_wave_re o_wave_im o_wave_wasRe o_wave_wasIm o_wave_halved o_past_next o_past_held o_past_cells o_notes_total o_notes_knownBy o_notes_kinds o_notes_targets o_notes_bins o_ring_size o_ring_log o_ring_powers o_turns_cos o_turns_sin o_reader_fault o_reader_faultPlace o_image o_tape m_tapeSize m_fault m_faultPlace m_bank m_isImage m_undos m_runRadix m_runOrder m_runNear m_runLimit m_runHalves m_power m_notedMany m_knownTold m_tape m_words m_told m_all m_quarter m_roots m_noted1) (p1 : Int32) (p2 : Int32)  (m_thrown : Int32) :
    ∃ (r : Int32) (out_m_thrown : Int32), fX9_stage o_wave_done o_way_stages o_wave_halved o_way_shifts p1 p2 = some r ∧ fX10_stage m_thrown m_bank m_runRadix m_runOrder m_power m_all p1 p2 = some (r, out_m_thrown) ∧ REL o_imageKept o_taped o_way_size o_way_log o_way_wordBits o_way_limit o_way_radix o_way_order o_way_near o_way_seed o_way_stages o_way_shifts o_wave_exp o_wave_done o_wave_backward o_wave_re o_wave_im o_wave_wasRe o_wave_wasIm o_wave_halved o_past_next o_past_held o_past_cells o_notes_total o_notes_knownBy o_notes_kinds o_notes_targets o_notes_bins o_ring_size o_ring_log o_ring_powers o_turns_cos o_turns_sin o_reader_fault o_reader_faultPlace o_image o_tape m_tapeSize m_fault m_faultPlace m_bank m_isImage m_undos m_runRadix m_runOrder m_runNear m_runLimit m_runHalves m_power m_notedMany m_knownTold m_tape m_words m_told m_all m_quarter m_roots m_noted1 := by
  have hR0 := hR
  obtain ⟨M, bits, rad, ord, nr, sd, hC, hW, hT, hG, hm, hV, hP, hI, hN, hA, hF1, hF2⟩ := hR
  obtain ⟨hM, hbits, hr, ho, hn, hsd⟩ := id hC
  obtain ⟨rfl, rfl, rfl, rfl, rfl, rfl, rfl, rfl, rfl, hSH⟩ := hW
  obtain ⟨rfl, rfl, rfl, rfl, rfl, rfl, rfl, rfl, rfl, t0, t1, t2, t3, t4, t5, hrt⟩ := hm
  have hN2 := isM_pow hM
  have hns := nst_le hM hr
  have hlm := lm_x hbits
  have hCG := CF_c hC
  obtain ⟨k, bk, rfl, rfl, hw, hws, hwi⟩ := hV
  obtain ⟨-, -, -, -, w5⟩ := RWS_0 hw
  unfold fX9_stage fX10_stage
  rw [stagesMany_eq hM hr, bd1_s]
  rcases pk_ix p1 (show nst M rad < 2 ^ 31 by omega) with h | h | ⟨d, hd, rfl⟩
  · exact ⟨_, _, by rw [if_pos h], by rw [if_pos h], hR0⟩
  · by_cases h0 : p1 < 0
    · exact ⟨_, _, by rw [if_pos h0], by rw [if_pos h0], hR0⟩
    · exact ⟨_, _, by rw [if_neg h0, if_pos h], by rw [if_neg h0, if_pos h], hR0⟩
  · obtain ⟨s1, s2, -, -, s5⟩ := sh_x hM hr ho hd
    rw [if_neg (nI_pos (by omega)), if_neg (nI_ge hd (by omega)), if_neg (nI_pos (by omega)), if_neg (nI_ge hd (by omega)), s2, gd_t (inb_nI (show d < 5 by omega) (by decide)), gd_t (inb_nI (show d < 5 by omega) (by decide)), nI_clamp (by omega), hSH d hd, s1, show (131 : Int32) + nI d = nI (131 + d) from nI_add 131 d, of0 (by omega), w5 d (by omega)]
    rcases isIn_c p2 (show 1 < 2 ^ 30 by decide) with ⟨i, hi, rfl, q1, q2, q3⟩ | ⟨q1, q3⟩ | ⟨q1, q2, -, q3⟩
    · rw [if_neg q1, if_pos (show nI i ≤ 1 from q2), show (1 : Int32) = nI 1 from rfl, q3, bd1_s, if_neg (show ¬ ((1 : Int32) = 0) by decide)]
      by_cases h0 : nI i = 0
      · refine ⟨_, _, by rw [if_pos h0], by rw [if_pos h0, bd1_s, shl_nI (by omega) (by rcases s5 with q | q <;> rw [q] <;> decide), Nat.one_mul], hR0⟩
      · rw [if_neg h0, if_neg h0, bd1_s]
        by_cases h2 : d < k
        · exact ⟨_, _, by rw [if_neg (nI_ge h2 (by have := hwi.1; omega))], by rw [if_pos h2], hR0⟩
        · exact ⟨_, _, by rw [if_pos (nI_le (by omega) (by omega))], by rw [if_neg h2], hR0⟩
    · exact ⟨_, _, by rw [if_pos q1], by rw [show (1 : Int32) = nI 1 from rfl, q3, bd1_s, if_pos rfl], hR0⟩
    · exact ⟨_, _, by rw [if_neg q1, if_neg (show ¬ (p2 ≤ 1) from q2)], by rw [show (1 : Int32) = nI 1 from rfl, q3, bd1_s, if_pos rfl], hR0⟩
