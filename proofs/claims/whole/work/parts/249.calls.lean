/-! ===== notes told, struck, known ===== -/
theorem add_lt {n : Nat} (hn : n < 24) (bins kinds targets : Nat → Int32) (a b c : Int32) : fX2_add (nI n) bins kinds targets a b c = some (nI n, nI (n + 1), upd bins n c, upd kinds n a, upd targets n b) := by
  unfold fX2_add
  rw [if_pos (show nI n < 24 from nI_lt (b := 24) hn (by decide))]
  simp only [nm, gd_t (inb_nI hn (by decide)), nI_clamp (show n < 2 ^ 31 by omega), nI_1, nI_pred]
theorem add_24 (bins kinds targets : Nat → Int32) (a b c : Int32) : fX2_add (nI 24) bins kinds targets a b c = some (-1, nI 24, bins, kinds, targets) := by
  unfold fX2_add
  rw [if_neg (show ¬ (nI 24 < 24) by decide)]
theorem notes1_lt {n : Nat} (hn : n < 24) (no : Nat → Int32) (a b c : Int32) : fX10_notes1 (nI n) no a b c = some (nI n, nI (n + 1), upd (upd (upd no (3 * n) a) (3 * n + 1) b) (3 * n + 2) c) := by
  unfold fX10_notes1
  rw [if_neg (show ¬ (nI n = 24) from fun q => by have := (nI_eq (b := 24) (by omega) (by decide)).mp q; omega)]
  simp only [nm]
  rw [show (3 : Int32) * nI n = nI (3 * n) from pk_mul 3 n, gd_t (inb_nI (show 3 * n < 72 by omega) (by decide)), nI_1, show nI (3 * n) + 2 = nI (3 * n + 2) from nI_add _ 2, gd_t (inb_nI (show 3 * n + 1 < 72 by omega) (by decide)), gd_t (inb_nI (show 3 * n + 2 < 72 by omega) (by decide)), nI_clamp (by omega), nI_clamp (by omega), nI_clamp (by omega), nI_1, nI_pred]
theorem notes1_24 (no : Nat → Int32) (a b c : Int32) : fX10_notes1 (nI 24) no a b c = some (-1, nI 24, no) := by
  unfold fX10_notes1
  rw [if_pos (show nI 24 = 24 from rfl)]
theorem NOT1_c {M n i : Nat} {ki ta bi no : Nat → Int32} {a b c x y z : Int32} (hi : i < n) (h : NOT1 M ki ta bi no i) : NOT1 M (upd ki n a) (upd ta n b) (upd bi n c) (upd (upd (upd no (3 * n) x) (3 * n + 1) y) (3 * n + 2) z) i := by
  unfold NOT1 at h ⊢
  rw [pk_un (show i ≠ n by omega), pk_un (show i ≠ n by omega), pk_un (show i ≠ n by omega), pk_un (show 3 * i ≠ 3 * n + 2 by omega), pk_un (show 3 * i ≠ 3 * n + 1 by omega), pk_un (show 3 * i ≠ 3 * n by omega), pk_un (show 3 * i + 1 ≠ 3 * n + 2 by omega), pk_un (show 3 * i + 1 ≠ 3 * n + 1 by omega), pk_un (show 3 * i + 1 ≠ 3 * n by omega), pk_un (show 3 * i + 2 ≠ 3 * n + 2 by omega), pk_un (show 3 * i + 2 ≠ 3 * n + 1 by omega), pk_un (show 3 * i + 2 ≠ 3 * n by omega)]
  exact h
theorem NTSR_a {M n : Nat} {kb kt : Int32} {ki ta bi no : Nat → Int32} {a b c x y z : Int32} (hn : n < 24) (hk : kb = kt) (hk2 : kt = -1 ∨ ∃ j, j ≤ n ∧ kt = nI j) (h : ∀ i, i < n → NOT1 M ki ta bi no i)
    (h2 : (∃ t, t < n ∧ a = 2 ∧ b = nI t ∧ x = -1 ∧ y = nI t) ∨ (∃ k v e, k < 2 ^ M ∧ v < 97 ∧ e < 2 ∧ a = nI e ∧ b = nI k ∧ c = nI v ∧ x = nI k ∧ y = nI v ∧ z = nI e)) :
    NTSR M (nI (n + 1)) kb (upd ki n a) (upd ta n b) (upd bi n c) (nI (n + 1)) kt (upd (upd (upd no (3 * n) x) (3 * n + 1) y) (3 * n + 2) z) := by
  refine ⟨n + 1, rfl, by omega, rfl, hk, ?_, fun i hi => ?_⟩
  · rcases hk2 with q | ⟨j, q1, q2⟩
    · exact Or.inl q
    · exact Or.inr ⟨j, by omega, q2⟩
  · by_cases e : i = n
    · subst e
      unfold NOT1
      rw [pk_us, pk_us, pk_us, pk_un (show 3 * i ≠ 3 * i + 2 by omega), pk_un (show 3 * i ≠ 3 * i + 1 by omega), pk_us, pk_un (show 3 * i + 1 ≠ 3 * i + 2 by omega), pk_us, pk_us]
      exact h2
    · exact NOT1_c (by omega) (h i (by omega))
theorem k_note {o_imageKept : Int32} {o_taped : Int32} {o_way_size : Int32} {o_way_log : Int32} {o_way_wordBits : Int32} {o_way_limit : Int32} {o_way_radix : Int32} {o_way_order : Int32} {o_way_near : Int32} {o_way_seed : Int32} {o_way_stages : Int32} {o_way_shifts : Nat → Int32} {o_wave_exp : Int32} {o_wave_done : Int32} {o_wave_backward : Int32} {o_wave_re : Nat → Int32} {o_wave_im : Nat → Int32} {o_wave_wasRe : Nat → Int32} {o_wave_wasIm : Nat → Int32} {o_wave_halved : Nat → Int32} {o_past_next : Int32} {o_past_held : Int32} {o_past_cells : Nat → Int32} {o_notes_total : Int32} {o_notes_knownBy : Int32} {o_notes_kinds : Nat → Int32} {o_notes_targets : Nat → Int32} {o_notes_bins : Nat → Int32} {o_ring_size : Int32} {o_ring_log : Int32} {o_ring_powers : Nat → Int32} {o_turns_cos : Nat → Int32} {o_turns_sin : Nat → Int32} {o_reader_fault : Int32} {o_reader_faultPlace : Int32} {o_image : Nat → Int32} {o_tape : Nat → Int32} {m_tapeSize : Int32} {m_fault : Int32} {m_faultPlace : Int32} {m_bank : Int32} {m_isImage : Int32} {m_undos : Int32} {m_runRadix : Int32} {m_runOrder : Int32} {m_runNear : Int32} {m_runLimit : Int32} {m_runHalves : Int32} {m_power : Int32} {m_notedMany : Int32} {m_knownTold : Int32} {m_tape : Nat → Int32} {m_words : Nat → Int32} {m_told : Nat → Int32} {m_all : Nat → Int32} {m_quarter : Nat → Int32} {m_roots : Nat → Int32} {m_noted1 : Nat → Int32} (hR : REL o_imageKept o_taped o_way_size o_way_log o_way_wordBits o_way_limit o_way_radix o_way_order o_way_near o_way_seed o_way_stages o_way_shifts o_wave_exp o_wave_done o_wave_backward o_wave_re o_wave_im o_wave_wasRe o_wave_wasIm o_wave_halved o_past_next o_past_held o_past_cells o_notes_total o_notes_knownBy o_notes_kinds o_notes_targets o_notes_bins o_ring_size o_ring_log o_ring_powers o_turns_cos o_turns_sin o_reader_fault o_reader_faultPlace o_image o_tape m_tapeSize m_fault m_faultPlace m_bank m_isImage m_undos m_runRadix m_runOrder m_runNear m_runLimit m_runHalves m_power m_notedMany m_knownTold m_tape m_words m_told m_all m_quarter m_roots m_noted1) (p1 : Int32) (p2 : Int32) (p3 : Int32) (hbp3 : p3 = 0 ∨ p3 = 1) (m_thrown : Int32) :
    ∃ (r : Int32) (out_o_notes_total : Int32) (out_o_notes_bins : Nat → Int32) (out_o_notes_kinds : Nat → Int32) (out_o_notes_targets : Nat → Int32) (out_m_thrown : Int32) (out_m_notedMany : Int32) (out_m_noted1 : Nat → Int32), fX9_note o_notes_total o_way_size o_notes_bins o_notes_kinds o_notes_targets p1 p2 p3 = some (r, out_o_notes_total, out_o_notes_bins, out_o_notes_kinds, out_o_notes_targets) ∧ fX10_note m_thrown m_notedMany m_noted1 m_told p1 p2 p3 = some (r, out_m_thrown, out_m_notedMany, out_m_noted1) ∧ REL o_imageKept o_taped o_way_size o_way_log o_way_wordBits o_way_limit o_way_radix o_way_order o_way_near o_way_seed o_way_stages o_way_shifts o_wave_exp o_wave_done o_wave_backward o_wave_re o_wave_im o_wave_wasRe o_wave_wasIm o_wave_halved o_past_next o_past_held o_past_cells out_o_notes_total o_notes_knownBy out_o_notes_kinds out_o_notes_targets out_o_notes_bins o_ring_size o_ring_log o_ring_powers o_turns_cos o_turns_sin o_reader_fault o_reader_faultPlace o_image o_tape m_tapeSize m_fault m_faultPlace m_bank m_isImage m_undos m_runRadix m_runOrder m_runNear m_runLimit m_runHalves m_power out_m_notedMany m_knownTold m_tape m_words m_told m_all m_quarter m_roots out_m_noted1 := by
  have hR0 := hR
  obtain ⟨M, bits, rad, ord, nr, sd, hC, hW, hT, hG, hm, hV, hP, hI, hN, hA, hF1, hF2⟩ := hR
  obtain ⟨hM, hbits, hr, ho, hn, hsd⟩ := id hC
  obtain ⟨rfl, rfl, rfl, rfl, rfl, rfl, rfl, rfl, rfl, hSH⟩ := hW
  obtain ⟨rfl, rfl, rfl, rfl, rfl, rfl, rfl, rfl, rfl, t0, t1, t2, t3, t4, t5, hrt⟩ := hm
  have hN2 := isM_pow hM
  have hns := nst_le hM hr
  have hlm := lm_x hbits
  have hCG := CF_c hC
  obtain ⟨n, rfl, n1, rfl, n2, n3, n4⟩ := id hN
  unfold fX9_note fX10_note
  rcases place_c hM p1 with ⟨j, hj, rfl, e1, e2⟩ | ⟨e1, e2⟩
  · rw [e1, e2 _ t0, bd1_s, bd1_s, if_neg (show ¬ ((1 : Int32) = 0) by decide), if_neg (show ¬ ((1 : Int32) = 0) by decide)]
    rcases isIn_c p2 (show 96 < 2 ^ 30 by decide) with ⟨i, hi, rfl, q1, q2, q3⟩ | ⟨q1, q3⟩ | ⟨q1, q2, q4, q3⟩
    · rw [if_neg q1, if_pos (show nI i < 97 from nI_lt (b := 97) (by omega) (by decide)), show fX10_isIn (nI i) 0 96 = _ from q3, bd1_s, if_neg (show ¬ ((1 : Int32) = 0) by decide)]
      have go : ∀ e, e < 2 → ∃ r o1 o2 o3 o4 q1 q2 q3, fX9_note_33 (nI n) o_notes_bins o_notes_kinds o_notes_targets (nI j) (nI i) (nI e) = some (r, o1, o2, o3, o4) ∧ fX10_note_35 0 (nI n) m_noted1 (nI j) (nI i) (nI e) = some (r, q1, q2, q3) ∧ NTSR M o1 o_notes_knownBy o3 o4 o2 q2 m_knownTold q3 := fun e he => by
        unfold fX9_note_33 fX10_note_35
        by_cases hn24 : n < 24
        · rw [add_lt hn24, bd5_s, notes1_lt hn24, bd3_s]
          exact ⟨_, _, _, _, _, _, _, _, rfl, rfl, NTSR_a hn24 n2 n3 n4 (Or.inr ⟨j, i, e, hj, by omega, he, rfl, rfl, rfl, rfl, rfl, rfl⟩)⟩
        · obtain rfl : n = 24 := by omega
          rw [add_24, bd5_s, notes1_24, bd3_s]
          exact ⟨_, _, _, _, _, _, _, _, rfl, rfl, hN⟩
      rcases hbp3 with rfl | rfl
      · rw [if_pos rfl, if_pos rfl]
        obtain ⟨r, o1, o2, o3, o4, q1, q2, q3, a1, a2, a3⟩ := go 0 (by decide)
        exact ⟨_, _, _, _, _, _, _, _, a1, a2, M, bits, rad, ord, nr, sd, hC, ⟨rfl, rfl, rfl, rfl, rfl, rfl, rfl, rfl, rfl, hSH⟩, hT, hG, ⟨rfl, rfl, rfl, rfl, rfl, rfl, rfl, rfl, rfl, t0, t1, t2, t3, t4, t5, hrt⟩, hV, hP, hI, a3, hA, hF1, hF2⟩
      · rw [if_neg (show ¬ ((1 : Int32) = 0) by decide), if_neg (show ¬ ((1 : Int32) = 0) by decide)]
        obtain ⟨r, o1, o2, o3, o4, q1, q2, q3, a1, a2, a3⟩ := go 1 (by decide)
        exact ⟨_, _, _, _, _, _, _, _, a1, a2, M, bits, rad, ord, nr, sd, hC, ⟨rfl, rfl, rfl, rfl, rfl, rfl, rfl, rfl, rfl, hSH⟩, hT, hG, ⟨rfl, rfl, rfl, rfl, rfl, rfl, rfl, rfl, rfl, t0, t1, t2, t3, t4, t5, hrt⟩, hV, hP, hI, a3, hA, hF1, hF2⟩
    · rw [if_pos q1, show fX10_isIn p2 0 96 = _ from q3, bd1_s, if_pos rfl]
      exact ⟨_, _, _, _, _, _, _, _, rfl, rfl, hR0⟩
    · rw [if_neg q1, if_neg (show ¬ (p2 < 97) from fun q => by rw [Int32.lt_iff_toInt_lt, show (97 : Int32).toInt = 97 from rfl] at q; rw [Int32.lt_iff_toInt_lt, show (nI 96).toInt = 96 from rfl] at q4; omega), show fX10_isIn p2 0 96 = _ from q3, bd1_s, if_pos rfl]
      exact ⟨_, _, _, _, _, _, _, _, rfl, rfl, hR0⟩
  · rw [e1, e2 _ t0]
    exact ⟨_, _, _, _, _, _, _, _, rfl, rfl, hR0⟩
theorem k_strike {o_imageKept : Int32} {o_taped : Int32} {o_way_size : Int32} {o_way_log : Int32} {o_way_wordBits : Int32} {o_way_limit : Int32} {o_way_radix : Int32} {o_way_order : Int32} {o_way_near : Int32} {o_way_seed : Int32} {o_way_stages : Int32} {o_way_shifts : Nat → Int32} {o_wave_exp : Int32} {o_wave_done : Int32} {o_wave_backward : Int32} {o_wave_re : Nat → Int32} {o_wave_im : Nat → Int32} {o_wave_wasRe : Nat → Int32} {o_wave_wasIm : Nat → Int32} {o_wave_halved : Nat → Int32} {o_past_next : Int32} {o_past_held : Int32} {o_past_cells : Nat → Int32} {o_notes_total : Int32} {o_notes_knownBy : Int32} {o_notes_kinds : Nat → Int32} {o_notes_targets : Nat → Int32} {o_notes_bins : Nat → Int32} {o_ring_size : Int32} {o_ring_log : Int32} {o_ring_powers : Nat → Int32} {o_turns_cos : Nat → Int32} {o_turns_sin : Nat → Int32} {o_reader_fault : Int32} {o_reader_faultPlace : Int32} {o_image : Nat → Int32} {o_tape : Nat → Int32} {m_tapeSize : Int32} {m_fault : Int32} {m_faultPlace : Int32} {m_bank : Int32} {m_isImage : Int32} {m_undos : Int32} {m_runRadix : Int32} {m_runOrder : Int32} {m_runNear : Int32} {m_runLimit : Int32} {m_runHalves : Int32} {m_power : Int32} {m_notedMany : Int32} {m_knownTold : Int32} {m_tape : Nat → Int32} {m_words : Nat → Int32} {m_told : Nat → Int32} {m_all : Nat → Int32} {m_quarter : Nat → Int32} {m_roots : Nat → Int32} {m_noted1 : Nat → Int32} (hR : REL o_imageKept o_taped o_way_size o_way_log o_way_wordBits o_way_limit o_way_radix o_way_order o_way_near o_way_seed o_way_stages o_way_shifts o_wave_exp o_wave_done o_wave_backward o_wave_re o_wave_im o_wave_wasRe o_wave_wasIm o_wave_halved o_past_next o_past_held o_past_cells o_notes_total o_notes_knownBy o_notes_kinds o_notes_targets o_notes_bins o_ring_size o_ring_log o_ring_powers o_turns_cos o_turns_sin o_reader_fault o_reader_faultPlace o_image o_tape m_tapeSize m_fault m_faultPlace m_bank m_isImage m_undos m_runRadix m_runOrder m_runNear m_runLimit m_runHalves m_power m_notedMany m_knownTold m_tape m_words m_told m_all m_quarter m_roots m_noted1) (p1 : Int32)  (m_thrown : Int32) :
    ∃ (r : Int32) (out_o_notes_total : Int32) (out_o_notes_bins : Nat → Int32) (out_o_notes_kinds : Nat → Int32) (out_o_notes_targets : Nat → Int32) (out_m_thrown : Int32) (out_m_notedMany : Int32) (out_m_noted1 : Nat → Int32), fX9_strike o_notes_total o_notes_bins o_notes_kinds o_notes_targets p1 = some (r, out_o_notes_total, out_o_notes_bins, out_o_notes_kinds, out_o_notes_targets) ∧ fX10_strike m_thrown m_notedMany m_noted1 p1 = some (r, out_m_thrown, out_m_notedMany, out_m_noted1) ∧ REL o_imageKept o_taped o_way_size o_way_log o_way_wordBits o_way_limit o_way_radix o_way_order o_way_near o_way_seed o_way_stages o_way_shifts o_wave_exp o_wave_done o_wave_backward o_wave_re o_wave_im o_wave_wasRe o_wave_wasIm o_wave_halved o_past_next o_past_held o_past_cells out_o_notes_total o_notes_knownBy out_o_notes_kinds out_o_notes_targets out_o_notes_bins o_ring_size o_ring_log o_ring_powers o_turns_cos o_turns_sin o_reader_fault o_reader_faultPlace o_image o_tape m_tapeSize m_fault m_faultPlace m_bank m_isImage m_undos m_runRadix m_runOrder m_runNear m_runLimit m_runHalves m_power out_m_notedMany m_knownTold m_tape m_words m_told m_all m_quarter m_roots out_m_noted1 := by
  have hR0 := hR
  obtain ⟨M, bits, rad, ord, nr, sd, hC, hW, hT, hG, hm, hV, hP, hI, hN, hA, hF1, hF2⟩ := hR
  obtain ⟨hM, hbits, hr, ho, hn, hsd⟩ := id hC
  obtain ⟨rfl, rfl, rfl, rfl, rfl, rfl, rfl, rfl, rfl, hSH⟩ := hW
  obtain ⟨rfl, rfl, rfl, rfl, rfl, rfl, rfl, rfl, rfl, t0, t1, t2, t3, t4, t5, hrt⟩ := hm
  have hN2 := isM_pow hM
  have hns := nst_le hM hr
  have hlm := lm_x hbits
  have hCG := CF_c hC
  obtain ⟨n, rfl, n1, rfl, n2, n3, n4⟩ := id hN
  unfold fX9_strike fX10_strike
  by_cases h0 : p1 < 0
  · rw [if_pos h0, if_pos h0]
    exact ⟨_, _, _, _, _, _, _, _, rfl, rfl, hR0⟩
  · obtain ⟨j, hj, rfl⟩ := nI_of h0
    rw [if_neg h0, if_neg h0]
    by_cases h1 : j < n
    · rw [if_pos (nI_lt h1 (by omega)), if_pos (nI_lt h1 (by omega))]
      by_cases hn24 : n < 24
      · rw [add_lt hn24, bd5_s, notes1_lt hn24, bd3_s]
        exact ⟨_, _, _, _, _, _, _, _, rfl, rfl, M, bits, rad, ord, nr, sd, hC, ⟨rfl, rfl, rfl, rfl, rfl, rfl, rfl, rfl, rfl, hSH⟩, hT, hG, ⟨rfl, rfl, rfl, rfl, rfl, rfl, rfl, rfl, rfl, t0, t1, t2, t3, t4, t5, hrt⟩, hV, hP, hI, NTSR_a hn24 n2 n3 n4 (Or.inl ⟨j, h1, rfl, rfl, rfl, rfl⟩), hA, hF1, hF2⟩
      · obtain rfl : n = 24 := by omega
        rw [add_24, bd5_s, notes1_24, bd3_s]
        exact ⟨_, _, _, _, _, _, _, _, rfl, rfl, hR0⟩
    · rw [if_neg (nI_nlt (by omega) hj), if_neg (nI_nlt (by omega) hj)]
      exact ⟨_, _, _, _, _, _, _, _, rfl, rfl, hR0⟩
theorem k_known {o_imageKept : Int32} {o_taped : Int32} {o_way_size : Int32} {o_way_log : Int32} {o_way_wordBits : Int32} {o_way_limit : Int32} {o_way_radix : Int32} {o_way_order : Int32} {o_way_near : Int32} {o_way_seed : Int32} {o_way_stages : Int32} {o_way_shifts : Nat → Int32} {o_wave_exp : Int32} {o_wave_done : Int32} {o_wave_backward : Int32} {o_wave_re : Nat → Int32} {o_wave_im : Nat → Int32} {o_wave_wasRe : Nat → Int32} {o_wave_wasIm : Nat → Int32} {o_wave_halved : Nat → Int32} {o_past_next : Int32} {o_past_held : Int32} {o_past_cells : Nat → Int32} {o_notes_total : Int32} {o_notes_knownBy : Int32} {o_notes_kinds : Nat → Int32} {o_notes_targets : Nat → Int32} {o_notes_bins : Nat → Int32} {o_ring_size : Int32} {o_ring_log : Int32} {o_ring_powers : Nat → Int32} {o_turns_cos : Nat → Int32} {o_turns_sin : Nat → Int32} {o_reader_fault : Int32} {o_reader_faultPlace : Int32} {o_image : Nat → Int32} {o_tape : Nat → Int32} {m_tapeSize : Int32} {m_fault : Int32} {m_faultPlace : Int32} {m_bank : Int32} {m_isImage : Int32} {m_undos : Int32} {m_runRadix : Int32} {m_runOrder : Int32} {m_runNear : Int32} {m_runLimit : Int32} {m_runHalves : Int32} {m_power : Int32} {m_notedMany : Int32} {m_knownTold : Int32} {m_tape : Nat → Int32} {m_words : Nat → Int32} {m_told : Nat → Int32} {m_all : Nat → Int32} {m_quarter : Nat → Int32} {m_roots : Nat → Int32} {m_noted1 : Nat → Int32} (hR : REL o_imageKept o_taped o_way_size o_way_log o_way_wordBits o_way_limit o_way_radix o_way_order o_way_near o_way_seed o_way_stages o_way_shifts o_wave_exp o_wave_done o_wave_backward o_wave_re o_wave_im o_wave_wasRe o_wave_wasIm o_wave_halved o_past_next o_past_held o_past_cells o_notes_total o_notes_knownBy o_notes_kinds o_notes_targets o_notes_bins o_ring_size o_ring_log o_ring_powers o_turns_cos o_turns_sin o_reader_fault o_reader_faultPlace o_image o_tape m_tapeSize m_fault m_faultPlace m_bank m_isImage m_undos m_runRadix m_runOrder m_runNear m_runLimit m_runHalves m_power m_notedMany m_knownTold m_tape m_words m_told m_all m_quarter m_roots m_noted1) (p1 : Int32)  (m_thrown : Int32) :
    ∃ (r : Int32) (out_o_notes_knownBy : Int32) (out_m_thrown : Int32) (out_m_knownTold : Int32), fX9_known o_notes_total o_notes_knownBy p1 = some (r, out_o_notes_knownBy) ∧ fX10_known m_thrown m_notedMany m_knownTold p1 = some (r, out_m_thrown, out_m_knownTold) ∧ REL o_imageKept o_taped o_way_size o_way_log o_way_wordBits o_way_limit o_way_radix o_way_order o_way_near o_way_seed o_way_stages o_way_shifts o_wave_exp o_wave_done o_wave_backward o_wave_re o_wave_im o_wave_wasRe o_wave_wasIm o_wave_halved o_past_next o_past_held o_past_cells o_notes_total out_o_notes_knownBy o_notes_kinds o_notes_targets o_notes_bins o_ring_size o_ring_log o_ring_powers o_turns_cos o_turns_sin o_reader_fault o_reader_faultPlace o_image o_tape m_tapeSize m_fault m_faultPlace m_bank m_isImage m_undos m_runRadix m_runOrder m_runNear m_runLimit m_runHalves m_power m_notedMany out_m_knownTold m_tape m_words m_told m_all m_quarter m_roots m_noted1 := by
  have hR0 := hR
  obtain ⟨M, bits, rad, ord, nr, sd, hC, hW, hT, hG, hm, hV, hP, hI, hN, hA, hF1, hF2⟩ := hR
  obtain ⟨hM, hbits, hr, ho, hn, hsd⟩ := id hC
  obtain ⟨rfl, rfl, rfl, rfl, rfl, rfl, rfl, rfl, rfl, hSH⟩ := hW
  obtain ⟨rfl, rfl, rfl, rfl, rfl, rfl, rfl, rfl, rfl, t0, t1, t2, t3, t4, t5, hrt⟩ := hm
  have hN2 := isM_pow hM
  have hns := nst_le hM hr
  have hlm := lm_x hbits
  have hCG := CF_c hC
  obtain ⟨n, rfl, n1, rfl, n2, n3, n4⟩ := id hN
  unfold fX9_known fX10_known fX10_isIn
  by_cases h0 : p1 < -1
  · rw [if_pos h0, if_pos h0, bd1_s, if_pos rfl]
    exact ⟨_, _, _, _, rfl, rfl, hR0⟩
  · rw [if_neg h0, if_neg h0]
    by_cases h1 : p1 ≤ nI n
    · rw [if_pos h1, if_neg (show ¬ (nI n < p1) from fun q => by rw [Int32.lt_iff_toInt_lt] at q; rw [Int32.le_iff_toInt_le] at h1; omega), bd1_s, if_neg (show ¬ ((1 : Int32) = 0) by decide)]
      refine ⟨_, _, _, _, rfl, rfl, M, bits, rad, ord, nr, sd, hC, ⟨rfl, rfl, rfl, rfl, rfl, rfl, rfl, rfl, rfl, hSH⟩, hT, hG, ⟨rfl, rfl, rfl, rfl, rfl, rfl, rfl, rfl, rfl, t0, t1, t2, t3, t4, t5, hrt⟩, hV, hP, hI, ⟨n, rfl, n1, rfl, rfl, ?_, n4⟩, hA, hF1, hF2⟩
      by_cases h2 : p1 < 0
      · left
        rw [Int32.lt_iff_toInt_lt, show (0 : Int32).toInt = 0 from rfl] at h2
        rw [Int32.lt_iff_toInt_lt, show (-1 : Int32).toInt = -1 from rfl] at h0
        exact Int32.toInt_inj.mp (by rw [show (-1 : Int32).toInt = -1 from rfl]; omega)
      · obtain ⟨j, hj, rfl⟩ := nI_of h2
        exact Or.inr ⟨j, (nI_leI hj (by omega)).mp h1, rfl⟩
    · rw [if_neg h1, if_pos (show nI n < p1 from by rw [Int32.lt_iff_toInt_lt]; rw [Int32.le_iff_toInt_le] at h1; omega), bd1_s, if_pos rfl]
      exact ⟨_, _, _, _, rfl, rfl, hR0⟩
