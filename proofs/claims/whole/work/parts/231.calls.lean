/-! ===== calls: largest, left, room, energy, over, count ===== -/
theorem dbl_eq (lim r : Int32) : ∃ x, fX9_doublings lim r = some x ∧ fX10_doubled lim r = some x := by
  have key : ∀ d n i (v : Int64), i + d = 15 → d < n → ∃ x, fX9_doublings_6 lim n v (nI i) = some x ∧ fX10_doubled_5 lim n (nI i) v = some x := by
    intro d
    induction d with
    | zero =>
      intro n i v h1 h2
      obtain ⟨n, rfl⟩ : ∃ m, n = m + 1 := ⟨n - 1, by omega⟩
      obtain rfl : i = 15 := by omega
      exact ⟨nI 15, by rw [fX9_doublings_6.eq_2, if_pos (by decide)], by rw [fX10_doubled_5.eq_2, if_pos (by decide)]⟩
    | succ d ih =>
      intro n i v h1 h2
      obtain ⟨n, rfl⟩ : ∃ m, n = m + 1 := ⟨n - 1, by omega⟩
      have e0 : ¬ ((15 : Int32) ≤ nI i) := nI_ge (a := i) (b := 15) (by omega) (by decide)
      rw [fX9_doublings_6.eq_2, fX10_doubled_5.eq_2, if_neg e0, if_neg e0, Int64.mul_comm 2 v]
      by_cases h : Int32.toInt64 lim < v * 2
      · exact ⟨_, by rw [if_pos h], by rw [if_pos h]⟩
      · rw [if_neg h, if_neg h]
        simp only [nm, nI_1]
        exact ih n (i + 1) (v * 2) (by omega) (by omega)
  exact key 15 FU 0 (Int32.toInt64 r) (by omega) (FU_pos (by omega))
theorem lgst_V {all re im : Nat → Int32} {a n : Nat} (h : a + n ≤ 32) (hw : ∀ p, p < 32 → all p = re p ∧ all (32 + p) = im p) : fX10_largestIn 0 all (nI a) (nI n) = some (lgst re im a n) := by
  have := largestIn_eq (b := 0) (by decide) h all
  rw [show (0 : Int32) = nI 0 from rfl, this]
  simp only [Nat.mul_zero, Nat.zero_add]
  rw [lgst_congr (re' := re) (im' := im)]
  intro p _ hp
  exact hw p (by omega)
theorem lgst_N {M : Nat} {all re im told : Nat → Int32} (hM : isM M) (h0 : told 0 = nI (2 ^ M)) (hw : ∀ p, p < 32 → all p = re p ∧ all (32 + p) = im p) : fX10_largestNow 0 all told = some (lgst re im 0 (2 ^ M)) := by
  have hN := isM_pow hM
  unfold fX10_largestNow
  rw [size_eq, bd1_s, h0, show fX10_largestIn 0 all 0 (nI (2 ^ M)) = some (lgst re im 0 (2 ^ M)) from lgst_V (a := 0) (by omega) hw, bd1_s]
theorem grt_N {M : Nat} (hM : isM M) (re im : Nat → Int32) : fX7_greatest im re 0 (nI (2 ^ M)) = some (lgst re im 0 (2 ^ M)) := greatest_eq im re 0 (2 ^ M) (Nat.zero_le _) (isM_pow hM).2
theorem k_largest {o_imageKept : Int32} {o_taped : Int32} {o_way_size : Int32} {o_way_log : Int32} {o_way_wordBits : Int32} {o_way_limit : Int32} {o_way_radix : Int32} {o_way_order : Int32} {o_way_near : Int32} {o_way_seed : Int32} {o_way_stages : Int32} {o_way_shifts : Nat → Int32} {o_wave_exp : Int32} {o_wave_done : Int32} {o_wave_backward : Int32} {o_wave_re : Nat → Int32} {o_wave_im : Nat → Int32} {o_wave_wasRe : Nat → Int32} {o_wave_wasIm : Nat → Int32} {o_wave_halved : Nat → Int32} {o_past_next : Int32} {o_past_held : Int32} {o_past_cells : Nat → Int32} {o_notes_total : Int32} {o_notes_knownBy : Int32} {o_notes_kinds : Nat → Int32} {o_notes_targets : Nat → Int32} {o_notes_bins : Nat → Int32} {o_ring_size : Int32} {o_ring_log : Int32} {o_ring_powers : Nat → Int32} {o_turns_cos : Nat → Int32} {o_turns_sin : Nat → Int32} {o_reader_fault : Int32} {o_reader_faultPlace : Int32} {o_image : Nat → Int32} {o_tape : Nat → Int32} {m_tapeSize : Int32} {m_fault : Int32} {m_faultPlace : Int32} {m_bank : Int32} {m_isImage : Int32} {m_undos : Int32} {m_runRadix : Int32} {m_runOrder : Int32} {m_runNear : Int32} {m_runLimit : Int32} {m_runHalves : Int32} {m_power : Int32} {m_notedMany : Int32} {m_knownTold : Int32} {m_tape : Nat → Int32} {m_words : Nat → Int32} {m_told : Nat → Int32} {m_all : Nat → Int32} {m_quarter : Nat → Int32} {m_roots : Nat → Int32} {m_noted1 : Nat → Int32} (hR : REL o_imageKept o_taped o_way_size o_way_log o_way_wordBits o_way_limit o_way_radix o_way_order o_way_near o_way_seed o_way_stages o_way_shifts o_wave_exp o_wave_done o_wave_backward o_wave_re o_wave_im o_wave_wasRe o_wave_wasIm o_wave_halved o_past_next o_past_held o_past_cells o_notes_total o_notes_knownBy o_notes_kinds o_notes_targets o_notes_bins o_ring_size o_ring_log o_ring_powers o_turns_cos o_turns_sin o_reader_fault o_reader_faultPlace o_image o_tape m_tapeSize m_fault m_faultPlace m_bank m_isImage m_undos m_runRadix m_runOrder m_runNear m_runLimit m_runHalves m_power m_notedMany m_knownTold m_tape m_words m_told m_all m_quarter m_roots m_noted1)   (m_thrown : Int32) :
    ∃ (r : Int32) (out_m_thrown : Int32), fX9_largest o_way_size o_wave_im o_wave_re = some r ∧ fX10_largest m_thrown m_bank m_all m_told = some (r, out_m_thrown) ∧ REL o_imageKept o_taped o_way_size o_way_log o_way_wordBits o_way_limit o_way_radix o_way_order o_way_near o_way_seed o_way_stages o_way_shifts o_wave_exp o_wave_done o_wave_backward o_wave_re o_wave_im o_wave_wasRe o_wave_wasIm o_wave_halved o_past_next o_past_held o_past_cells o_notes_total o_notes_knownBy o_notes_kinds o_notes_targets o_notes_bins o_ring_size o_ring_log o_ring_powers o_turns_cos o_turns_sin o_reader_fault o_reader_faultPlace o_image o_tape m_tapeSize m_fault m_faultPlace m_bank m_isImage m_undos m_runRadix m_runOrder m_runNear m_runLimit m_runHalves m_power m_notedMany m_knownTold m_tape m_words m_told m_all m_quarter m_roots m_noted1 := by
  have hR0 := hR
  obtain ⟨M, bits, rad, ord, nr, sd, hC, hW, hT, hG, hm, hV, hP, hI, hN, hA, hF1, hF2⟩ := hR
  obtain ⟨hM, hbits, hr, ho, hn, hsd⟩ := id hC
  obtain ⟨rfl, rfl, rfl, rfl, rfl, rfl, rfl, rfl, rfl, hSH⟩ := hW
  obtain ⟨rfl, rfl, rfl, rfl, rfl, rfl, rfl, rfl, rfl, t0, t1, t2, t3, t4, t5, hrt⟩ := hm
  have hN2 := isM_pow hM
  have hns := nst_le hM hr
  have hlm := lm_x hbits
  have hCG := CF_c hC
  obtain ⟨k, bk, rfl, rfl, hw, hws, hwi⟩ := hV
  obtain ⟨w1, -⟩ := RWS_0 hw
  unfold fX9_largest fX10_largest
  rw [grt_N hM, lgst_N hM t0 w1]
  exact ⟨_, _, rfl, rfl, hR0⟩
theorem k_left {o_imageKept : Int32} {o_taped : Int32} {o_way_size : Int32} {o_way_log : Int32} {o_way_wordBits : Int32} {o_way_limit : Int32} {o_way_radix : Int32} {o_way_order : Int32} {o_way_near : Int32} {o_way_seed : Int32} {o_way_stages : Int32} {o_way_shifts : Nat → Int32} {o_wave_exp : Int32} {o_wave_done : Int32} {o_wave_backward : Int32} {o_wave_re : Nat → Int32} {o_wave_im : Nat → Int32} {o_wave_wasRe : Nat → Int32} {o_wave_wasIm : Nat → Int32} {o_wave_halved : Nat → Int32} {o_past_next : Int32} {o_past_held : Int32} {o_past_cells : Nat → Int32} {o_notes_total : Int32} {o_notes_knownBy : Int32} {o_notes_kinds : Nat → Int32} {o_notes_targets : Nat → Int32} {o_notes_bins : Nat → Int32} {o_ring_size : Int32} {o_ring_log : Int32} {o_ring_powers : Nat → Int32} {o_turns_cos : Nat → Int32} {o_turns_sin : Nat → Int32} {o_reader_fault : Int32} {o_reader_faultPlace : Int32} {o_image : Nat → Int32} {o_tape : Nat → Int32} {m_tapeSize : Int32} {m_fault : Int32} {m_faultPlace : Int32} {m_bank : Int32} {m_isImage : Int32} {m_undos : Int32} {m_runRadix : Int32} {m_runOrder : Int32} {m_runNear : Int32} {m_runLimit : Int32} {m_runHalves : Int32} {m_power : Int32} {m_notedMany : Int32} {m_knownTold : Int32} {m_tape : Nat → Int32} {m_words : Nat → Int32} {m_told : Nat → Int32} {m_all : Nat → Int32} {m_quarter : Nat → Int32} {m_roots : Nat → Int32} {m_noted1 : Nat → Int32} (hR : REL o_imageKept o_taped o_way_size o_way_log o_way_wordBits o_way_limit o_way_radix o_way_order o_way_near o_way_seed o_way_stages o_way_shifts o_wave_exp o_wave_done o_wave_backward o_wave_re o_wave_im o_wave_wasRe o_wave_wasIm o_wave_halved o_past_next o_past_held o_past_cells o_notes_total o_notes_knownBy o_notes_kinds o_notes_targets o_notes_bins o_ring_size o_ring_log o_ring_powers o_turns_cos o_turns_sin o_reader_fault o_reader_faultPlace o_image o_tape m_tapeSize m_fault m_faultPlace m_bank m_isImage m_undos m_runRadix m_runOrder m_runNear m_runLimit m_runHalves m_power m_notedMany m_knownTold m_tape m_words m_told m_all m_quarter m_roots m_noted1)   (m_thrown : Int32) :
    ∃ (r : Int32) (out_m_thrown : Int32), fX9_left o_way_size o_way_limit o_wave_im o_wave_re = some r ∧ fX10_left m_thrown m_bank m_runLimit m_all m_told = some (r, out_m_thrown) ∧ REL o_imageKept o_taped o_way_size o_way_log o_way_wordBits o_way_limit o_way_radix o_way_order o_way_near o_way_seed o_way_stages o_way_shifts o_wave_exp o_wave_done o_wave_backward o_wave_re o_wave_im o_wave_wasRe o_wave_wasIm o_wave_halved o_past_next o_past_held o_past_cells o_notes_total o_notes_knownBy o_notes_kinds o_notes_targets o_notes_bins o_ring_size o_ring_log o_ring_powers o_turns_cos o_turns_sin o_reader_fault o_reader_faultPlace o_image o_tape m_tapeSize m_fault m_faultPlace m_bank m_isImage m_undos m_runRadix m_runOrder m_runNear m_runLimit m_runHalves m_power m_notedMany m_knownTold m_tape m_words m_told m_all m_quarter m_roots m_noted1 := by
  have hR0 := hR
  obtain ⟨M, bits, rad, ord, nr, sd, hC, hW, hT, hG, hm, hV, hP, hI, hN, hA, hF1, hF2⟩ := hR
  obtain ⟨hM, hbits, hr, ho, hn, hsd⟩ := id hC
  obtain ⟨rfl, rfl, rfl, rfl, rfl, rfl, rfl, rfl, rfl, hSH⟩ := hW
  obtain ⟨rfl, rfl, rfl, rfl, rfl, rfl, rfl, rfl, rfl, t0, t1, t2, t3, t4, t5, hrt⟩ := hm
  have hN2 := isM_pow hM
  have hns := nst_le hM hr
  have hlm := lm_x hbits
  have hCG := CF_c hC
  obtain ⟨k, bk, rfl, rfl, hw, hws, hwi⟩ := hV
  obtain ⟨w1, -⟩ := RWS_0 hw
  unfold fX9_left fX10_left
  rw [grt_N hM, lgst_N hM t0 w1, bd1_s, bd1_s]
  obtain ⟨x, x1, x2⟩ := dbl_eq (nI (lmN bits)) (lgst o_wave_re o_wave_im 0 (2 ^ M))
  rw [x1, x2]
  exact ⟨_, _, rfl, rfl, hR0⟩
theorem k_room {o_imageKept : Int32} {o_taped : Int32} {o_way_size : Int32} {o_way_log : Int32} {o_way_wordBits : Int32} {o_way_limit : Int32} {o_way_radix : Int32} {o_way_order : Int32} {o_way_near : Int32} {o_way_seed : Int32} {o_way_stages : Int32} {o_way_shifts : Nat → Int32} {o_wave_exp : Int32} {o_wave_done : Int32} {o_wave_backward : Int32} {o_wave_re : Nat → Int32} {o_wave_im : Nat → Int32} {o_wave_wasRe : Nat → Int32} {o_wave_wasIm : Nat → Int32} {o_wave_halved : Nat → Int32} {o_past_next : Int32} {o_past_held : Int32} {o_past_cells : Nat → Int32} {o_notes_total : Int32} {o_notes_knownBy : Int32} {o_notes_kinds : Nat → Int32} {o_notes_targets : Nat → Int32} {o_notes_bins : Nat → Int32} {o_ring_size : Int32} {o_ring_log : Int32} {o_ring_powers : Nat → Int32} {o_turns_cos : Nat → Int32} {o_turns_sin : Nat → Int32} {o_reader_fault : Int32} {o_reader_faultPlace : Int32} {o_image : Nat → Int32} {o_tape : Nat → Int32} {m_tapeSize : Int32} {m_fault : Int32} {m_faultPlace : Int32} {m_bank : Int32} {m_isImage : Int32} {m_undos : Int32} {m_runRadix : Int32} {m_runOrder : Int32} {m_runNear : Int32} {m_runLimit : Int32} {m_runHalves : Int32} {m_power : Int32} {m_notedMany : Int32} {m_knownTold : Int32} {m_tape : Nat → Int32} {m_words : Nat → Int32} {m_told : Nat → Int32} {m_all : Nat → Int32} {m_quarter : Nat → Int32} {m_roots : Nat → Int32} {m_noted1 : Nat → Int32} (hR : REL o_imageKept o_taped o_way_size o_way_log o_way_wordBits o_way_limit o_way_radix o_way_order o_way_near o_way_seed o_way_stages o_way_shifts o_wave_exp o_wave_done o_wave_backward o_wave_re o_wave_im o_wave_wasRe o_wave_wasIm o_wave_halved o_past_next o_past_held o_past_cells o_notes_total o_notes_knownBy o_notes_kinds o_notes_targets o_notes_bins o_ring_size o_ring_log o_ring_powers o_turns_cos o_turns_sin o_reader_fault o_reader_faultPlace o_image o_tape m_tapeSize m_fault m_faultPlace m_bank m_isImage m_undos m_runRadix m_runOrder m_runNear m_runLimit m_runHalves m_power m_notedMany m_knownTold m_tape m_words m_told m_all m_quarter m_roots m_noted1) (p1 : Int32) (p2 : Int32)  (m_thrown : Int32) :
    ∃ (r : Int32) (out_m_thrown : Int32), fX9_room o_way_size o_way_limit o_wave_im o_wave_re p1 p2 = some r ∧ fX10_room m_thrown m_bank m_runLimit m_all m_told p1 p2 = some (r, out_m_thrown) ∧ REL o_imageKept o_taped o_way_size o_way_log o_way_wordBits o_way_limit o_way_radix o_way_order o_way_near o_way_seed o_way_stages o_way_shifts o_wave_exp o_wave_done o_wave_backward o_wave_re o_wave_im o_wave_wasRe o_wave_wasIm o_wave_halved o_past_next o_past_held o_past_cells o_notes_total o_notes_knownBy o_notes_kinds o_notes_targets o_notes_bins o_ring_size o_ring_log o_ring_powers o_turns_cos o_turns_sin o_reader_fault o_reader_faultPlace o_image o_tape m_tapeSize m_fault m_faultPlace m_bank m_isImage m_undos m_runRadix m_runOrder m_runNear m_runLimit m_runHalves m_power m_notedMany m_knownTold m_tape m_words m_told m_all m_quarter m_roots m_noted1 := by
  have hR0 := hR
  obtain ⟨M, bits, rad, ord, nr, sd, hC, hW, hT, hG, hm, hV, hP, hI, hN, hA, hF1, hF2⟩ := hR
  obtain ⟨hM, hbits, hr, ho, hn, hsd⟩ := id hC
  obtain ⟨rfl, rfl, rfl, rfl, rfl, rfl, rfl, rfl, rfl, hSH⟩ := hW
  obtain ⟨rfl, rfl, rfl, rfl, rfl, rfl, rfl, rfl, rfl, t0, t1, t2, t3, t4, t5, hrt⟩ := hm
  have hN2 := isM_pow hM
  have hns := nst_le hM hr
  have hlm := lm_x hbits
  have hCG := CF_c hC
  obtain ⟨k, bk, rfl, rfl, hw, hws, hwi⟩ := hV
  obtain ⟨w1, -⟩ := RWS_0 hw
  have main : ∀ a, 1 ≤ a → a ≤ 5 → ∃ r, fX9_room_33 (nI (2 ^ M)) (nI (lmN bits)) o_wave_im o_wave_re p1 (nI (2 ^ a)) 1 = some r ∧ fX10_room m_thrown 0 (nI (lmN bits)) m_all m_told p1 (nI (2 ^ a)) = some (r, 0) := by
    intro a ha1 ha5
    have hA := isM_pow (M := a) ⟨ha1, ha5⟩
    have eP : fX10_isPower (nI (2 ^ a)) = some 1 := by
      rcases (show a = 1 ∨ a = 2 ∨ a = 3 ∨ a = 4 ∨ a = 5 by omega) with rfl | rfl | rfl | rfl | rfl <;> decide
    unfold fX9_room_33 fX10_room
    rw [eP, bd1_s, if_neg (show ¬ ((1 : Int32) = 0) by decide), if_neg (show ¬ ((1 : Int32) = 0) by decide), size_eq, bd1_s, t0]
    by_cases h1 : 2 ^ M < 2 ^ a
    · exact ⟨_, by rw [if_pos (nI_lt h1 (by omega))], by rw [if_pos (nI_lt h1 (by omega))]⟩
    · have haM : a ≤ M := by
        apply Nat.le_of_not_lt
        intro q
        exact h1 (Nat.pow_lt_pow_right (by decide) q)
      have e9 : 2 ^ M / 2 ^ a * 2 ^ a = 2 ^ M := by rw [Nat.pow_div haM (by decide), ← Nat.pow_add, Nat.sub_add_cancel haM]
      rw [if_neg (nI_nlt (by omega) (by omega)), if_neg (nI_nlt (by omega) (by omega)), bd1_s, gd_t (nz_nI (by omega) (by omega)), pk_div (by omega) (by omega) (by omega)]
      by_cases h0 : p1 < 0
      · exact ⟨_, by rw [if_pos h0], by rw [if_pos h0]⟩
      · obtain ⟨b, hb, rfl⟩ := nI_of h0
        rw [if_neg h0, if_neg h0]
        have hD : 2 ^ M / 2 ^ a ≤ 2 ^ M := Nat.div_le_self _ _
        have key : b < 2 ^ M / 2 ^ a ↔ b * 2 ^ a < 2 ^ M := by
          constructor
          · intro q
            have := Nat.mul_le_mul_right (2 ^ a) (Nat.succ_le_of_lt q)
            rw [Nat.succ_mul, e9] at this
            omega
          · intro q
            apply Nat.lt_of_not_le
            intro w
            have := Nat.mul_le_mul_right (2 ^ a) w
            rw [e9] at this
            omega
        by_cases h2 : b < 2 ^ M / 2 ^ a
        · have h3 := key.mp h2
          have h4 : b * 2 ^ a + 2 ^ a ≤ 2 ^ M := by
            have := Nat.mul_le_mul_right (2 ^ a) (show b + 1 ≤ 2 ^ M / 2 ^ a from h2)
            rw [Nat.add_mul, Nat.one_mul, e9] at this
            exact this
          rw [if_pos (show nI b ≤ 32 from nI_le (b := 32) (by omega) (by decide)), if_pos (nI_lt h2 (by omega)), pk_mul]
          simp only [nm]
          rw [if_pos (nI_lt h3 (by omega)), nI_add, greatest_eq _ _ _ _ (by omega) (by omega), lgst_V (by omega) w1, bd1_s, bd1_s, Nat.add_sub_cancel_left]
          obtain ⟨x, x1, x2⟩ := dbl_eq (nI (lmN bits)) (lgst o_wave_re o_wave_im (b * 2 ^ a) (2 ^ a))
          rw [x1, x2]
          exact ⟨_, rfl, rfl⟩
        · rw [if_neg (show ¬ (nI b < nI (2 ^ M / 2 ^ a)) from nI_nlt (by omega) (by omega))]
          refine ⟨-1, ?_, rfl⟩
          by_cases h3 : b ≤ 32
          · have h5 : b * 2 ^ a ≤ 32 * 32 := Nat.mul_le_mul h3 hA.2
            have h6 : ¬ (b * 2 ^ a < 2 ^ M) := fun q => h2 (key.mpr q)
            rw [if_pos (show nI b ≤ 32 from nI_le (b := 32) h3 (by decide)), pk_mul]
            simp only [nm]
            rw [if_neg (nI_nlt (by omega) (by omega))]
          · rw [if_neg (show ¬ (nI b ≤ 32) from nI_ge (a := 32) (by omega) hb)]
  unfold fX9_room fX9_room_28
  by_cases h2 : p2 = 2
  · obtain ⟨r, r1, r2⟩ := main 1 (by decide) (by decide)
    subst h2
    exact ⟨r, 0, by rw [if_pos rfl]; exact r1, r2, hR0⟩
  by_cases h4 : p2 = 4
  · obtain ⟨r, r1, r2⟩ := main 2 (by decide) (by decide)
    subst h4
    exact ⟨r, 0, by rw [if_neg (by decide), if_pos rfl]; exact r1, r2, hR0⟩
  by_cases h8 : p2 = 8
  · obtain ⟨r, r1, r2⟩ := main 3 (by decide) (by decide)
    subst h8
    exact ⟨r, 0, by rw [if_neg (by decide), if_neg (by decide), if_pos rfl]; exact r1, r2, hR0⟩
  by_cases h16 : p2 = 16
  · obtain ⟨r, r1, r2⟩ := main 4 (by decide) (by decide)
    subst h16
    exact ⟨r, 0, by rw [if_neg (by decide), if_neg (by decide), if_neg (by decide), if_pos rfl]; exact r1, r2, hR0⟩
  by_cases h32 : p2 = 32
  · obtain ⟨r, r1, r2⟩ := main 5 (by decide) (by decide)
    subst h32
    exact ⟨r, 0, by rw [if_neg (by decide), if_neg (by decide), if_neg (by decide), if_neg (by decide), if_pos rfl]; exact r1, r2, hR0⟩
  refine ⟨-1, 0, ?_, ?_, hR0⟩
  · rw [if_neg h2, if_neg h4, if_neg h8, if_neg h16, if_neg h32, fX9_room_33, if_pos rfl]
  · unfold fX10_room fX10_isPower
    rw [if_neg h2, if_neg h4, if_neg h8, if_neg h16, if_neg h32, bd1_s, if_pos rfl]
theorem k_energy {o_imageKept : Int32} {o_taped : Int32} {o_way_size : Int32} {o_way_log : Int32} {o_way_wordBits : Int32} {o_way_limit : Int32} {o_way_radix : Int32} {o_way_order : Int32} {o_way_near : Int32} {o_way_seed : Int32} {o_way_stages : Int32} {o_way_shifts : Nat → Int32} {o_wave_exp : Int32} {o_wave_done : Int32} {o_wave_backward : Int32} {o_wave_re : Nat → Int32} {o_wave_im : Nat → Int32} {o_wave_wasRe : Nat → Int32} {o_wave_wasIm : Nat → Int32} {o_wave_halved : Nat → Int32} {o_past_next : Int32} {o_past_held : Int32} {o_past_cells : Nat → Int32} {o_notes_total : Int32} {o_notes_knownBy : Int32} {o_notes_kinds : Nat → Int32} {o_notes_targets : Nat → Int32} {o_notes_bins : Nat → Int32} {o_ring_size : Int32} {o_ring_log : Int32} {o_ring_powers : Nat → Int32} {o_turns_cos : Nat → Int32} {o_turns_sin : Nat → Int32} {o_reader_fault : Int32} {o_reader_faultPlace : Int32} {o_image : Nat → Int32} {o_tape : Nat → Int32} {m_tapeSize : Int32} {m_fault : Int32} {m_faultPlace : Int32} {m_bank : Int32} {m_isImage : Int32} {m_undos : Int32} {m_runRadix : Int32} {m_runOrder : Int32} {m_runNear : Int32} {m_runLimit : Int32} {m_runHalves : Int32} {m_power : Int32} {m_notedMany : Int32} {m_knownTold : Int32} {m_tape : Nat → Int32} {m_words : Nat → Int32} {m_told : Nat → Int32} {m_all : Nat → Int32} {m_quarter : Nat → Int32} {m_roots : Nat → Int32} {m_noted1 : Nat → Int32} (hR : REL o_imageKept o_taped o_way_size o_way_log o_way_wordBits o_way_limit o_way_radix o_way_order o_way_near o_way_seed o_way_stages o_way_shifts o_wave_exp o_wave_done o_wave_backward o_wave_re o_wave_im o_wave_wasRe o_wave_wasIm o_wave_halved o_past_next o_past_held o_past_cells o_notes_total o_notes_knownBy o_notes_kinds o_notes_targets o_notes_bins o_ring_size o_ring_log o_ring_powers o_turns_cos o_turns_sin o_reader_fault o_reader_faultPlace o_image o_tape m_tapeSize m_fault m_faultPlace m_bank m_isImage m_undos m_runRadix m_runOrder m_runNear m_runLimit m_runHalves m_power m_notedMany m_knownTold m_tape m_words m_told m_all m_quarter m_roots m_noted1) (p1 : Int32)  (m_thrown : Int32) :
    ∃ (r : Int64) (out_m_thrown : Int32), fX9_energy o_way_size o_wave_im o_wave_re o_wave_wasIm o_wave_wasRe p1 = some r ∧ fX10_energy m_thrown m_bank m_all m_told p1 = some (r, out_m_thrown) ∧ REL o_imageKept o_taped o_way_size o_way_log o_way_wordBits o_way_limit o_way_radix o_way_order o_way_near o_way_seed o_way_stages o_way_shifts o_wave_exp o_wave_done o_wave_backward o_wave_re o_wave_im o_wave_wasRe o_wave_wasIm o_wave_halved o_past_next o_past_held o_past_cells o_notes_total o_notes_knownBy o_notes_kinds o_notes_targets o_notes_bins o_ring_size o_ring_log o_ring_powers o_turns_cos o_turns_sin o_reader_fault o_reader_faultPlace o_image o_tape m_tapeSize m_fault m_faultPlace m_bank m_isImage m_undos m_runRadix m_runOrder m_runNear m_runLimit m_runHalves m_power m_notedMany m_knownTold m_tape m_words m_told m_all m_quarter m_roots m_noted1 := by
  have hR0 := hR
  obtain ⟨M, bits, rad, ord, nr, sd, hC, hW, hT, hG, hm, hV, hP, hI, hN, hA, hF1, hF2⟩ := hR
  obtain ⟨hM, hbits, hr, ho, hn, hsd⟩ := id hC
  obtain ⟨rfl, rfl, rfl, rfl, rfl, rfl, rfl, rfl, rfl, hSH⟩ := hW
  obtain ⟨rfl, rfl, rfl, rfl, rfl, rfl, rfl, rfl, rfl, t0, t1, t2, t3, t4, t5, hrt⟩ := hm
  have hN2 := isM_pow hM
  have hns := nst_le hM hr
  have hlm := lm_x hbits
  have hCG := CF_c hC
  obtain ⟨k, bk, rfl, rfl, hw, hws, hwi⟩ := hV
  obtain ⟨w1, -⟩ := RWS_0 hw
  have w2 := WASR_0 hws
  unfold fX9_energy fX10_energy
  rcases isIn_c p1 (show 1 < 2 ^ 30 by decide) with ⟨i, hi, rfl, q1, q2, q3⟩ | ⟨q1, q3⟩ | ⟨q1, q2, -, q3⟩
  · rw [if_neg q1, if_pos (show nI i ≤ 1 from q2), show (1 : Int32) = nI 1 from rfl, q3, bd1_s, if_neg (show ¬ ((1 : Int32) = 0) by decide)]
    have hc := loopN (fun n p s => fX9_energy_18 (nI (2 ^ M)) o_wave_im o_wave_re o_wave_wasIm o_wave_wasRe n (nI i) s (nI p)) (fun p s => s + (if i = 0 then sq2 (o_wave_re p) (o_wave_im p) else sq2 (o_wave_wasRe p) (o_wave_wasIm p))) (2 ^ M) (fun s => some s) ?_ ?_ (2 ^ M) FU 0 0 (by omega) (FU_pos (by omega))
    · have hm := loopN (fun n p s => fX10_energy_23 0 m_all m_told n 0 (nI i) s (nI p)) (fun p s => s + (if i = 0 then sq2 (o_wave_re p) (o_wave_im p) else sq2 (o_wave_wasRe p) (o_wave_wasIm p))) (2 ^ M) (fun s => some (s, (0 : Int32))) ?_ ?_ (2 ^ M) FU 0 0 (by omega) (FU_pos (by omega))
      · exact ⟨_, _, hc, hm, hR0⟩
      · intro n p s hp
        rw [fX10_energy_23.eq_2, size_eq, bd1_s, t0, if_neg (nI_ge hp (by omega)), show (64 : Int32) * nI i = nI (64 * i) from pk_mul 64 i, squares_eq (by omega), bd1_s]
        simp only [nm, nI_1]
        rcases (show i = 0 ∨ i = 1 by omega) with rfl | rfl
        · rw [if_pos rfl, show 64 * 0 + p = p by omega, show 64 * 0 + 32 + p = 32 + p by omega, (w1 p (by omega)).1, (w1 p (by omega)).2]
        · rw [if_neg (by decide), show 64 * 1 + p = 64 + p by omega, show 64 * 1 + 32 + p = 96 + p by omega, (w2 p (by omega)).1, (w2 p (by omega)).2]
      · intro n s
        rw [fX10_energy_23.eq_2, size_eq, bd1_s, t0, if_pos (nI_le (Nat.le_refl _) (by omega))]
    · intro n p s hp
      rw [fX9_energy_18.eq_2, if_neg (nI_ge hp (by omega))]
      simp only [gd_t (inb_nI (show p < 32 by omega) (by decide)), nI_clamp (show p < 2 ^ 31 by omega), fX9_loudness, bd1_s, fX9_energy_88, nm, nI_1]
      rcases (show i = 0 ∨ i = 1 by omega) with rfl | rfl
      · rw [if_pos (show nI 0 = 0 from rfl), if_pos rfl]; rfl
      · rw [if_neg (show ¬ (nI 1 = 0) by decide), if_neg (by decide)]; rfl
    · intro n s
      rw [fX9_energy_18.eq_2, if_pos (nI_le (Nat.le_refl _) (by omega))]
  · exact ⟨_, _, by rw [if_pos q1], by rw [show (1 : Int32) = nI 1 from rfl, q3, bd1_s, if_pos rfl], hR0⟩
  · exact ⟨_, _, by rw [if_neg q1, if_neg (show ¬ (p1 ≤ 1) from q2)], by rw [show (1 : Int32) = nI 1 from rfl, q3, bd1_s, if_pos rfl], hR0⟩
theorem k_over {o_imageKept : Int32} {o_taped : Int32} {o_way_size : Int32} {o_way_log : Int32} {o_way_wordBits : Int32} {o_way_limit : Int32} {o_way_radix : Int32} {o_way_order : Int32} {o_way_near : Int32} {o_way_seed : Int32} {o_way_stages : Int32} {o_way_shifts : Nat → Int32} {o_wave_exp : Int32} {o_wave_done : Int32} {o_wave_backward : Int32} {o_wave_re : Nat → Int32} {o_wave_im : Nat → Int32} {o_wave_wasRe : Nat → Int32} {o_wave_wasIm : Nat → Int32} {o_wave_halved : Nat → Int32} {o_past_next : Int32} {o_past_held : Int32} {o_past_cells : Nat → Int32} {o_notes_total : Int32} {o_notes_knownBy : Int32} {o_notes_kinds : Nat → Int32} {o_notes_targets : Nat → Int32} {o_notes_bins : Nat → Int32} {o_ring_size : Int32} {o_ring_log : Int32} {o_ring_powers : Nat → Int32} {o_turns_cos : Nat → Int32} {o_turns_sin : Nat → Int32} {o_reader_fault : Int32} {o_reader_faultPlace : Int32} {o_image : Nat → Int32} {o_tape : Nat → Int32} {m_tapeSize : Int32} {m_fault : Int32} {m_faultPlace : Int32} {m_bank : Int32} {m_isImage : Int32} {m_undos : Int32} {m_runRadix : Int32} {m_runOrder : Int32} {m_runNear : Int32} {m_runLimit : Int32} {m_runHalves : Int32} {m_power : Int32} {m_notedMany : Int32} {m_knownTold : Int32} {m_tape : Nat → Int32} {m_words : Nat → Int32} {m_told : Nat → Int32} {m_all : Nat → Int32} {m_quarter : Nat → Int32} {m_roots : Nat → Int32} {m_noted1 : Nat → Int32} (hR : REL o_imageKept o_taped o_way_size o_way_log o_way_wordBits o_way_limit o_way_radix o_way_order o_way_near o_way_seed o_way_stages o_way_shifts o_wave_exp o_wave_done o_wave_backward o_wave_re o_wave_im o_wave_wasRe o_wave_wasIm o_wave_halved o_past_next o_past_held o_past_cells o_notes_total o_notes_knownBy o_notes_kinds o_notes_targets o_notes_bins o_ring_size o_ring_log o_ring_powers o_turns_cos o_turns_sin o_reader_fault o_reader_faultPlace o_image o_tape m_tapeSize m_fault m_faultPlace m_bank m_isImage m_undos m_runRadix m_runOrder m_runNear m_runLimit m_runHalves m_power m_notedMany m_knownTold m_tape m_words m_told m_all m_quarter m_roots m_noted1) (p1 : Int32)  (m_thrown : Int32) :
    ∃ (r : Int32) (out_m_thrown : Int32), fX9_over o_way_size o_wave_im o_wave_re p1 = some r ∧ fX10_over m_thrown m_bank m_all m_told p1 = some (r, out_m_thrown) ∧ REL o_imageKept o_taped o_way_size o_way_log o_way_wordBits o_way_limit o_way_radix o_way_order o_way_near o_way_seed o_way_stages o_way_shifts o_wave_exp o_wave_done o_wave_backward o_wave_re o_wave_im o_wave_wasRe o_wave_wasIm o_wave_halved o_past_next o_past_held o_past_cells o_notes_total o_notes_knownBy o_notes_kinds o_notes_targets o_notes_bins o_ring_size o_ring_log o_ring_powers o_turns_cos o_turns_sin o_reader_fault o_reader_faultPlace o_image o_tape m_tapeSize m_fault m_faultPlace m_bank m_isImage m_undos m_runRadix m_runOrder m_runNear m_runLimit m_runHalves m_power m_notedMany m_knownTold m_tape m_words m_told m_all m_quarter m_roots m_noted1 := by
  have hR0 := hR
  obtain ⟨M, bits, rad, ord, nr, sd, hC, hW, hT, hG, hm, hV, hP, hI, hN, hA, hF1, hF2⟩ := hR
  obtain ⟨hM, hbits, hr, ho, hn, hsd⟩ := id hC
  obtain ⟨rfl, rfl, rfl, rfl, rfl, rfl, rfl, rfl, rfl, hSH⟩ := hW
  obtain ⟨rfl, rfl, rfl, rfl, rfl, rfl, rfl, rfl, rfl, t0, t1, t2, t3, t4, t5, hrt⟩ := hm
  have hN2 := isM_pow hM
  have hns := nst_le hM hr
  have hlm := lm_x hbits
  have hCG := CF_c hC
  obtain ⟨k, bk, rfl, rfl, hw, hws, hwi⟩ := hV
  obtain ⟨w1, -⟩ := RWS_0 hw
  unfold fX9_over fX10_over
  by_cases h0 : 0 ≤ p1
  · rw [if_pos h0, if_pos h0]
    have hc := loopN (fun n p s => fX9_over_10 (nI (2 ^ M)) o_wave_im o_wave_re n p1 s (nI p)) (fun p s => if sq2 (o_wave_re p) (o_wave_im p) < Int32.toInt64 p1 then s else s + 1) (2 ^ M) (fun s => some s) ?_ ?_ (2 ^ M) FU 0 0 (by omega) (FU_pos (by omega))
    · have hm := loopN (fun n p s => fX10_over_15 0 m_all m_told n 0 p1 s (nI p)) (fun p s => if sq2 (o_wave_re p) (o_wave_im p) < Int32.toInt64 p1 then s else s + 1) (2 ^ M) (fun s => some (s, (0 : Int32))) ?_ ?_ (2 ^ M) FU 0 0 (by omega) (FU_pos (by omega))
      · exact ⟨_, _, hc, hm, hR0⟩
      · intro n p s hp
        rw [fX10_over_15.eq_2, size_eq, bd1_s, t0, if_neg (nI_ge hp (by omega)), show fX10_squares 0 m_all 0 (nI p) = some (sq2 (m_all (0 + p)) (m_all (0 + 32 + p))) from squares_eq (a := 0) (by omega) m_all, bd1_s, Nat.zero_add, Nat.zero_add, (w1 p (by omega)).1, (w1 p (by omega)).2]
        simp only [fX10_over_41, nm, nI_1]
        by_cases h : sq2 (o_wave_re p) (o_wave_im p) < Int32.toInt64 p1
        · rw [if_pos h, if_pos h, Int32.add_zero]
        · rw [if_neg h, if_neg h]
      · intro n s
        rw [fX10_over_15.eq_2, size_eq, bd1_s, t0, if_pos (nI_le (Nat.le_refl _) (by omega))]
    · intro n p s hp
      rw [fX9_over_10.eq_2, if_neg (nI_ge hp (by omega))]
      simp only [gd_t (inb_nI (show p < 32 by omega) (by decide)), nI_clamp (show p < 2 ^ 31 by omega), fX9_loudness, bd1_s, fX9_over_53, nm, nI_1]
      by_cases h : sq2 (o_wave_re p) (o_wave_im p) < Int32.toInt64 p1
      · rw [if_pos h]; exact if_pos h
      · rw [if_neg h]; exact if_neg h
    · intro n s
      rw [fX9_over_10.eq_2, if_pos (nI_le (Nat.le_refl _) (by omega))]
  · exact ⟨_, _, by rw [if_neg h0], by rw [if_neg h0], hR0⟩
theorem k_count {o_imageKept : Int32} {o_taped : Int32} {o_way_size : Int32} {o_way_log : Int32} {o_way_wordBits : Int32} {o_way_limit : Int32} {o_way_radix : Int32} {o_way_order : Int32} {o_way_near : Int32} {o_way_seed : Int32} {o_way_stages : Int32} {o_way_shifts : Nat → Int32} {o_wave_exp : Int32} {o_wave_done : Int32} {o_wave_backward : Int32} {o_wave_re : Nat → Int32} {o_wave_im : Nat → Int32} {o_wave_wasRe : Nat → Int32} {o_wave_wasIm : Nat → Int32} {o_wave_halved : Nat → Int32} {o_past_next : Int32} {o_past_held : Int32} {o_past_cells : Nat → Int32} {o_notes_total : Int32} {o_notes_knownBy : Int32} {o_notes_kinds : Nat → Int32} {o_notes_targets : Nat → Int32} {o_notes_bins : Nat → Int32} {o_ring_size : Int32} {o_ring_log : Int32} {o_ring_powers : Nat → Int32} {o_turns_cos : Nat → Int32} {o_turns_sin : Nat → Int32} {o_reader_fault : Int32} {o_reader_faultPlace : Int32} {o_image : Nat → Int32} {o_tape : Nat → Int32} {m_tapeSize : Int32} {m_fault : Int32} {m_faultPlace : Int32} {m_bank : Int32} {m_isImage : Int32} {m_undos : Int32} {m_runRadix : Int32} {m_runOrder : Int32} {m_runNear : Int32} {m_runLimit : Int32} {m_runHalves : Int32} {m_power : Int32} {m_notedMany : Int32} {m_knownTold : Int32} {m_tape : Nat → Int32} {m_words : Nat → Int32} {m_told : Nat → Int32} {m_all : Nat → Int32} {m_quarter : Nat → Int32} {m_roots : Nat → Int32} {m_noted1 : Nat → Int32} (hR : REL o_imageKept o_taped o_way_size o_way_log o_way_wordBits o_way_limit o_way_radix o_way_order o_way_near o_way_seed o_way_stages o_way_shifts o_wave_exp o_wave_done o_wave_backward o_wave_re o_wave_im o_wave_wasRe o_wave_wasIm o_wave_halved o_past_next o_past_held o_past_cells o_notes_total o_notes_knownBy o_notes_kinds o_notes_targets o_notes_bins o_ring_size o_ring_log o_ring_powers o_turns_cos o_turns_sin o_reader_fault o_reader_faultPlace o_image o_tape m_tapeSize m_fault m_faultPlace m_bank m_isImage m_undos m_runRadix m_runOrder m_runNear m_runLimit m_runHalves m_power m_notedMany m_knownTold m_tape m_words m_told m_all m_quarter m_roots m_noted1) (p1 : Int32)  (m_thrown : Int32) :
    ∃ (r : Int32) (out_m_thrown : Int32), fX9_count o_notes_total o_notes_knownBy o_past_held o_wave_exp o_wave_done o_wave_backward o_way_size o_way_wordBits o_way_limit o_way_radix o_way_order o_way_near o_way_stages p1 = some r ∧ fX10_count m_thrown m_bank m_undos m_runRadix m_runLimit m_power m_notedMany m_knownTold m_all m_told p1 = some (r, out_m_thrown) ∧ REL o_imageKept o_taped o_way_size o_way_log o_way_wordBits o_way_limit o_way_radix o_way_order o_way_near o_way_seed o_way_stages o_way_shifts o_wave_exp o_wave_done o_wave_backward o_wave_re o_wave_im o_wave_wasRe o_wave_wasIm o_wave_halved o_past_next o_past_held o_past_cells o_notes_total o_notes_knownBy o_notes_kinds o_notes_targets o_notes_bins o_ring_size o_ring_log o_ring_powers o_turns_cos o_turns_sin o_reader_fault o_reader_faultPlace o_image o_tape m_tapeSize m_fault m_faultPlace m_bank m_isImage m_undos m_runRadix m_runOrder m_runNear m_runLimit m_runHalves m_power m_notedMany m_knownTold m_tape m_words m_told m_all m_quarter m_roots m_noted1 := by
  have hR0 := hR
  obtain ⟨M, bits, rad, ord, nr, sd, hC, hW, hT, hG, hm, hV, hP, hI, hN, hA, hF1, hF2⟩ := hR
  obtain ⟨hM, hbits, hr, ho, hn, hsd⟩ := id hC
  obtain ⟨rfl, rfl, rfl, rfl, rfl, rfl, rfl, rfl, rfl, hSH⟩ := hW
  obtain ⟨rfl, rfl, rfl, rfl, rfl, rfl, rfl, rfl, rfl, t0, t1, t2, t3, t4, t5, hrt⟩ := hm
  have hN2 := isM_pow hM
  have hns := nst_le hM hr
  have hlm := lm_x hbits
  have hCG := CF_c hC
  obtain ⟨k, bk, rfl, rfl, hw, hws, hwi⟩ := hV
  obtain ⟨w1, w2, w3, w4, w5⟩ := RWS_0 hw
  obtain ⟨nx, h, rfl, -, rfl, -, rfl, -⟩ := hP
  obtain ⟨n, rfl, -, rfl, rfl, -, -⟩ := hN
  unfold fX9_count fX10_count
  by_cases h0 : p1 = 0
  · subst h0
    exact ⟨_, _, by rw [if_pos rfl], by rw [if_pos rfl, gd_t (by decide), show Int32.toNatClampNeg 0 = 0 from rfl, t0], hR0⟩
  by_cases h1 : p1 = 1
  · subst h1
    exact ⟨_, _, by rw [if_neg (by decide), if_pos rfl], by rw [if_neg (by decide), if_pos rfl, gd_t (by decide), show Int32.toNatClampNeg 1 = 1 from rfl, t1], hR0⟩
  by_cases h2 : p1 = 2
  · subst h2
    exact ⟨_, _, by rw [if_neg (by decide), if_neg (by decide), if_pos rfl], by rw [if_neg (by decide), if_neg (by decide), if_pos rfl, gd_t (by decide), show Int32.toNatClampNeg 2 = 2 from rfl, t2], hR0⟩
  by_cases h3 : p1 = 3
  · subst h3
    exact ⟨_, _, by rw [if_neg (by decide), if_neg (by decide), if_neg (by decide), if_pos rfl], by rw [if_neg (by decide), if_neg (by decide), if_neg (by decide), if_pos rfl, gd_t (by decide), show Int32.toNatClampNeg 3 = 3 from rfl, t3], hR0⟩
  by_cases h4 : p1 = 4
  · subst h4
    exact ⟨_, _, by rw [if_neg (by decide), if_neg (by decide), if_neg (by decide), if_neg (by decide), if_pos rfl], by rw [if_neg (by decide), if_neg (by decide), if_neg (by decide), if_neg (by decide), if_pos rfl, gd_t (by decide), show Int32.toNatClampNeg 4 = 4 from rfl, t4], hR0⟩
  rw [if_neg h0, if_neg h1, if_neg h2, if_neg h3, if_neg h4, if_neg h0, if_neg h1, if_neg h2, if_neg h3, if_neg h4]
  by_cases h5 : p1 = 5
  · exact ⟨_, _, by rw [if_pos h5], by rw [if_pos h5, stagesMany_eq hM hr, bd1_s], hR0⟩
  rw [if_neg h5, if_neg h5]
  by_cases h6 : p1 = 6
  · exact ⟨_, _, by rw [if_pos h6], by rw [if_pos h6, show (129 : Int32) = nI 129 from rfl, of0 (by decide), bd1_s, w3], hR0⟩
  rw [if_neg h6, if_neg h6]
  by_cases h7 : p1 = 7
  · have : (if nI bk = 0 then some (0 : Int32) else some 1) = some (nI bk) := by
      rcases (show bk = 0 ∨ bk = 1 by have := hwi.2.1; omega) with rfl | rfl <;> decide
    exact ⟨_, _, by rw [if_pos h7]; exact this, by rw [if_pos h7, show (130 : Int32) = nI 130 from rfl, of0 (by decide), bd1_s, w4], hR0⟩
  rw [if_neg h7, if_neg h7]
  by_cases h8 : p1 = 8
  · exact ⟨_, _, by rw [if_pos h8], by rw [if_pos h8, show (128 : Int32) = nI 128 from rfl, of0 (by decide), bd1_s, w2], hR0⟩
  rw [if_neg h8, if_neg h8]
  by_cases h9 : p1 = 9
  · exact ⟨_, _, by rw [if_pos h9], by rw [if_pos h9], hR0⟩
  rw [if_neg h9, if_neg h9]
  by_cases h10 : p1 = 10
  · exact ⟨_, _, by rw [if_pos h10], by rw [if_pos h10], hR0⟩
  rw [if_neg h10, if_neg h10]
  by_cases h11 : p1 = 11
  · rw [if_pos h11, if_pos h11]
    unfold fX2_knownNow fX10_knownBy
    by_cases hk : 0 ≤ o_notes_knownBy
    · exact ⟨_, _, by rw [if_pos hk, bd1_s], by rw [if_pos hk, bd1_s], hR0⟩
    · exact ⟨_, _, by rw [if_neg hk, bd1_s], by rw [if_neg hk, bd1_s], hR0⟩
  rw [if_neg h11, if_neg h11]
  by_cases h12 : p1 = 12
  · exact ⟨_, _, by rw [if_pos h12], by rw [if_pos h12], hR0⟩
  · exact ⟨_, _, by rw [if_neg h12], by rw [if_neg h12], hR0⟩
