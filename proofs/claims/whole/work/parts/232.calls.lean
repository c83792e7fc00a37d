/-! ===== sums taken at once, waves as they were ===== -/
theorem mskC_t : (List.range 5).all (fun m => decide ((nI (2 ^ (m + 1)) - 1).toBitVec.toNat = 2 ^ (m + 1) - 1)) = true := by decide +kernel
theorem msk {M a : Nat} (hM : isM M) (ha : a < 2 ^ 32) : nI a &&& (nI (2 ^ M) - 1) = nI (a % 2 ^ M) := by
  obtain ⟨m1, m5⟩ := hM
  have h := of_decide_eq_true (all_x mskC_t (show M - 1 < 5 by omega))
  rw [show M - 1 + 1 = M by omega] at h
  exact pk_andN ha M h
theorem mirC_t : (List.range 5).all (fun m => (List.range (2 ^ (m + 1))).all fun k => decide (-(nI k) &&& (nI (2 ^ (m + 1)) - 1) = nI ((2 ^ (m + 1) - k) % 2 ^ (m + 1)))) = true := by decide +kernel
theorem mir {M k : Nat} (hM : isM M) (hk : k < 2 ^ M) : -(nI k) &&& (nI (2 ^ M) - 1) = nI ((2 ^ M - k) % 2 ^ M) := by
  obtain ⟨m1, m5⟩ := hM
  have h1 := all_x mirC_t (show M - 1 < 5 by omega)
  rw [show M - 1 + 1 = M by omega] at h1
  exact of_decide_eq_true (all_x h1 hk)
theorem fldC_t : (List.range 5).all (fun m => (List.range (2 ^ (m + 1))).all fun k => (List.range (2 ^ (m + 1))).all fun n => decide ((nI k + (-1) * nI n) &&& (nI (2 ^ (m + 1)) - 1) = nI ((k + 2 ^ (m + 1) - n) % 2 ^ (m + 1)))) = true := by decide +kernel
theorem fld {M k n : Nat} (hM : isM M) (hk : k < 2 ^ M) (hn : n < 2 ^ M) : (nI k + (-1) * nI n) &&& (nI (2 ^ M) - 1) = nI ((k + 2 ^ M - n) % 2 ^ M) := by
  obtain ⟨m1, m5⟩ := hM
  have h1 := all_x fldC_t (show M - 1 < 5 by omega)
  rw [show M - 1 + 1 = M by omega] at h1
  exact of_decide_eq_true (all_x (all_x h1 hk) hn)
/-- a sum taken at once: its real part (0), its other (1) -/
def dirS (M : Nat) (c s : Nat → Int32) (w : RowZ) (k i : Nat) : Int64 :=
  itr (fun n acc => acc + (if i = 0 then Int32.toInt64 (w.1 n) * Int32.toInt64 (c (n * k % 2 ^ M)) + Int32.toInt64 (w.2 n) * Int32.toInt64 (s (n * k % 2 ^ M)) else Int32.toInt64 (w.2 n) * Int32.toInt64 (c (n * k % 2 ^ M)) - Int32.toInt64 (w.1 n) * Int32.toInt64 (s (n * k % 2 ^ M)))) 0 (2 ^ M) 0
theorem directSum_eq {M k i : Nat} (hM : isM M) (hk : k < 2 ^ M) (hi : i < 2) (c s wi wr : Nat → Int32) : fX9_directSum (nI (2 ^ M)) c s wi wr (nI k) (nI i) = some (dirS M c s (wr, wi) k i) := by
  have hN := isM_pow hM
  unfold fX9_directSum
  have hc := loopN (fun n p acc => fX9_directSum_5 (nI (2 ^ M)) c s wi wr n (nI k) (nI i) acc (nI p)) (fun n acc => acc + (if i = 0 then Int32.toInt64 (wr n) * Int32.toInt64 (c (n * k % 2 ^ M)) + Int32.toInt64 (wi n) * Int32.toInt64 (s (n * k % 2 ^ M)) else Int32.toInt64 (wi n) * Int32.toInt64 (c (n * k % 2 ^ M)) - Int32.toInt64 (wr n) * Int32.toInt64 (s (n * k % 2 ^ M)))) (2 ^ M) (fun s => some s) ?_ ?_ (2 ^ M) FU 0 0 (by omega) (FU_pos (by omega))
  · exact hc
  · intro n p acc hp
    have hpk : p * k ≤ 32 * 32 := Nat.mul_le_mul (by omega) (by omega)
    have hmod := Nat.mod_lt (p * k) (show 0 < 2 ^ M by omega)
    rw [fX9_directSum_5.eq_2, if_neg (nI_ge hp (by omega))]
    simp only [nm, pk_mul]
    rw [msk hM (by omega)]
    simp only [gd_t (inb_nI (show p * k % 2 ^ M < 32 by omega) (by decide)), gd_t (inb_nI (show p < 32 by omega) (by decide)), nI_clamp (show p * k % 2 ^ M < 2 ^ 31 by omega), nI_clamp (show p < 2 ^ 31 by omega), fX9_directSum_125, nm, nI_1]
    rcases (show i = 0 ∨ i = 1 by omega) with rfl | rfl
    · rw [if_pos (show nI 0 = 0 from rfl), if_pos rfl]
    · rw [if_neg (show ¬ (nI 1 = 0) by decide), if_neg (by decide)]
  · intro n acc
    rw [fX9_directSum_5.eq_2, if_pos (nI_le (Nat.le_refl _) (by omega))]
theorem directOf_eq {b M k i : Nat} {all qua told c s : Nat → Int32} {w : RowZ} (hb : b ≤ 22) (hM : isM M) (hk : k < 2 ^ M) (hi : i < 2) (hm : MOK M told qua c s) (hw : WASR all b w) : fX10_directOf (nI b) all qua told (nI k) (nI i) = some (dirS M c s w k i) := by
  have hN := isM_pow hM
  unfold fX10_directOf
  have hc := loopN (fun n p acc => fX10_directOf_5 (nI b) all qua told n (nI k) (nI i) acc (nI p)) (fun n acc => acc + (if i = 0 then Int32.toInt64 (w.1 n) * Int32.toInt64 (c (n * k % 2 ^ M)) + Int32.toInt64 (w.2 n) * Int32.toInt64 (s (n * k % 2 ^ M)) else Int32.toInt64 (w.2 n) * Int32.toInt64 (c (n * k % 2 ^ M)) - Int32.toInt64 (w.1 n) * Int32.toInt64 (s (n * k % 2 ^ M)))) (2 ^ M) (fun s => some s) ?_ ?_ (2 ^ M) FU 0 0 (by omega) (FU_pos (by omega))
  · exact hc
  · intro n p acc hp
    have hpk : p * k ≤ 32 * 32 := Nat.mul_le_mul (by omega) (by omega)
    have hmod := Nat.mod_lt (p * k) (show 0 < 2 ^ M by omega)
    rw [fX10_directOf_5.eq_2, size_eq, bd1_s, hm.1, if_neg (nI_ge hp (by omega)), bd1_s, gd_t (nz_nI (by omega) (by omega)), pk_mul, pk_rem (by omega) (by omega) (by omega), show (64 : Int32) + nI p = nI (64 + p) from nI_add 64 p, show (96 : Int32) + nI p = nI (96 + p) from nI_add 96 p, of_eq hb (by omega), of_eq hb (by omega), ← Nat.add_assoc, ← Nat.add_assoc, (hw p (by omega)).1, (hw p (by omega)).2]
    simp only [nm, bd1_s]
    rw [(hm.2 _ hmod).1, (hm.2 _ hmod).2]
    simp only [bd1_s, fX10_directOf_99, nm, nI_1]
    rcases (show i = 0 ∨ i = 1 by omega) with rfl | rfl
    · rw [if_pos (show nI 0 = 0 from rfl), if_pos rfl]
    · rw [if_neg (show ¬ (nI 1 = 0) by decide), if_neg (by decide)]
  · intro n acc
    rw [fX10_directOf_5.eq_2, size_eq, bd1_s, hm.1, if_pos (nI_le (Nat.le_refl _) (by omega))]
theorem k_direct {o_imageKept : Int32} {o_taped : Int32} {o_way_size : Int32} {o_way_log : Int32} {o_way_wordBits : Int32} {o_way_limit : Int32} {o_way_radix : Int32} {o_way_order : Int32} {o_way_near : Int32} {o_way_seed : Int32} {o_way_stages : Int32} {o_way_shifts : Nat → Int32} {o_wave_exp : Int32} {o_wave_done : Int32} {o_wave_backward : Int32} {o_wave_re : Nat → Int32} {o_wave_im : Nat → Int32} {o_wave_wasRe : Nat → Int32} {o_wave_wasIm : Nat → Int32} {o_wave_halved : Nat → Int32} {o_past_next : Int32} {o_past_held : Int32} {o_past_cells : Nat → Int32} {o_notes_total : Int32} {o_notes_knownBy : Int32} {o_notes_kinds : Nat → Int32} {o_notes_targets : Nat → Int32} {o_notes_bins : Nat → Int32} {o_ring_size : Int32} {o_ring_log : Int32} {o_ring_powers : Nat → Int32} {o_turns_cos : Nat → Int32} {o_turns_sin : Nat → Int32} {o_reader_fault : Int32} {o_reader_faultPlace : Int32} {o_image : Nat → Int32} {o_tape : Nat → Int32} {m_tapeSize : Int32} {m_fault : Int32} {m_faultPlace : Int32} {m_bank : Int32} {m_isImage : Int32} {m_undos : Int32} {m_runRadix : Int32} {m_runOrder : Int32} {m_runNear : Int32} {m_runLimit : Int32} {m_runHalves : Int32} {m_power : Int32} {m_notedMany : Int32} {m_knownTold : Int32} {m_tape : Nat → Int32} {m_words : Nat → Int32} {m_told : Nat → Int32} {m_all : Nat → Int32} {m_quarter : Nat → Int32} {m_roots : Nat → Int32} {m_noted1 : Nat → Int32} (hR : REL o_imageKept o_taped o_way_size o_way_log o_way_wordBits o_way_limit o_way_radix o_way_order o_way_near o_way_seed o_way_stages o_way_shifts o_wave_exp o_wave_done o_wave_backward o_wave_re o_wave_im o_wave_wasRe o_wave_wasIm o_wave_halved o_past_next o_past_held o_past_cells o_notes_total o_notes_knownBy o_notes_kinds o_notes_targets o_notes_bins o_ring_size o_ring_log o_ring_powers o_turns_cos o_turns_sin o_reader_fault o_reader_faultPlace o_image o_tape m_tapeSize m_fault m_faultPlace m_bank m_isImage m_undos m_runRadix m_runOrder m_runNear m_runLimit m_runHalves m_power m_notedMany m_knownTold m_tape m_words m_told m_all m_quarter m_roots m_noted1) (p1 : Int32) (p2 : Int32)  (m_thrown : Int32) :
    ∃ (r : Int64) (out_m_thrown : Int32), fX9_direct o_way_size o_turns_cos o_turns_sin o_wave_wasIm o_wave_wasRe p1 p2 = some r ∧ fX10_direct m_thrown m_bank m_all m_quarter m_told p1 p2 = some (r, out_m_thrown) ∧ REL o_imageKept o_taped o_way_size o_way_log o_way_wordBits o_way_limit o_way_radix o_way_order o_way_near o_way_seed o_way_stages o_way_shifts o_wave_exp o_wave_done o_wave_backward o_wave_re o_wave_im o_wave_wasRe o_wave_wasIm o_wave_halved o_past_next o_past_held o_past_cells o_notes_total o_notes_knownBy o_notes_kinds o_notes_targets o_notes_bins o_ring_size o_ring_log o_ring_powers o_turns_cos o_turns_sin o_reader_fault o_reader_faultPlace o_image o_tape m_tapeSize m_fault m_faultPlace m_bank m_isImage m_undos m_runRadix m_runOrder m_runNear m_runLimit m_runHalves m_power m_notedMany m_knownTold m_tape m_words m_told m_all m_quarter m_roots m_noted1 := by
  have hR0 := hR
  obtain ⟨M, bits, rad, ord, nr, sd, hC, hW, hT, hG, hm, hV, hP, hI, hN, hA, hF1, hF2⟩ := hR
  obtain ⟨hM, hbits, hr, ho, hn, hsd⟩ := id hC
  obtain ⟨rfl, rfl, rfl, rfl, rfl, rfl, rfl, rfl, rfl, hSH⟩ := hW
  obtain ⟨rfl, rfl, rfl, rfl, rfl, rfl, rfl, rfl, rfl, t0, t1, t2, t3, t4, t5, hrt⟩ := hm
  have hN2 := isM_pow hM
  have hns := nst_le hM hr
  have hlm := lm_x hbits
  have hCG := CF_c hC
  obtain ⟨k, bk, rfl, rfl, hw, hws, hwi⟩ := hV
  unfold fX9_direct fX10_direct fX9_direct_33
  have hMO := TRN_m hM hT t0
  rcases place_c hM p1 with ⟨j, hj, rfl, e1, e2⟩ | ⟨e1, e2⟩
  · rw [e1, e2 _ t0, bd1_s, bd1_s, if_neg (show ¬ ((1 : Int32) = 0) by decide), if_neg (show ¬ ((1 : Int32) = 0) by decide)]
    rcases isIn_c p2 (show 1 < 2 ^ 30 by decide) with ⟨i, hi, rfl, q1, q2, q3⟩ | ⟨q1, q3⟩ | ⟨q1, q2, -, q3⟩
    · have ed := directOf_eq (b := 0) (by decide) hM hj (show i < 2 by omega) hMO hws
      rw [if_neg q1, if_pos (show nI i ≤ 1 from q2), show (1 : Int32) = nI 1 from rfl, q3, bd1_s, if_neg (show ¬ ((1 : Int32) = 0) by decide), show fX10_directOf 0 m_all mX10_61 m_told (nI j) (nI i) = _ from ed, bd1_s]
      refine ⟨_, _, ?_, rfl, hR0⟩
      rcases (show i = 0 ∨ i = 1 by omega) with rfl | rfl
      · rw [if_neg (by decide), show fX9_directSum (nI (2 ^ M)) o_turns_cos o_turns_sin o_wave_wasIm o_wave_wasRe (nI j) 0 = _ from directSum_eq (i := 0) hM hj (by decide) _ _ _ _, bd1_s]
      · rw [if_pos rfl, directSum_eq (i := 1) hM hj (by decide), bd1_s]
    · exact ⟨_, _, by rw [if_pos q1], by rw [show (1 : Int32) = nI 1 from rfl, q3, bd1_s, if_pos rfl], hR0⟩
    · exact ⟨_, _, by rw [if_neg q1, if_neg (show ¬ (p2 ≤ 1) from q2)], by rw [show (1 : Int32) = nI 1 from rfl, q3, bd1_s, if_pos rfl], hR0⟩
  · rw [e1, e2 _ t0]
    exact ⟨_, _, rfl, rfl, hR0⟩
theorem k_swing {o_imageKept : Int32} {o_taped : Int32} {o_way_size : Int32} {o_way_log : Int32} {o_way_wordBits : Int32} {o_way_limit : Int32} {o_way_radix : Int32} {o_way_order : Int32} {o_way_near : Int32} {o_way_seed : Int32} {o_way_stages : Int32} {o_way_shifts : Nat → Int32} {o_wave_exp : Int32} {o_wave_done : Int32} {o_wave_backward : Int32} {o_wave_re : Nat → Int32} {o_wave_im : Nat → Int32} {o_wave_wasRe : Nat → Int32} {o_wave_wasIm : Nat → Int32} {o_wave_halved : Nat → Int32} {o_past_next : Int32} {o_past_held : Int32} {o_past_cells : Nat → Int32} {o_notes_total : Int32} {o_notes_knownBy : Int32} {o_notes_kinds : Nat → Int32} {o_notes_targets : Nat → Int32} {o_notes_bins : Nat → Int32} {o_ring_size : Int32} {o_ring_log : Int32} {o_ring_powers : Nat → Int32} {o_turns_cos : Nat → Int32} {o_turns_sin : Nat → Int32} {o_reader_fault : Int32} {o_reader_faultPlace : Int32} {o_image : Nat → Int32} {o_tape : Nat → Int32} {m_tapeSize : Int32} {m_fault : Int32} {m_faultPlace : Int32} {m_bank : Int32} {m_isImage : Int32} {m_undos : Int32} {m_runRadix : Int32} {m_runOrder : Int32} {m_runNear : Int32} {m_runLimit : Int32} {m_runHalves : Int32} {m_power : Int32} {m_notedMany : Int32} {m_knownTold : Int32} {m_tape : Nat → Int32} {m_words : Nat → Int32} {m_told : Nat → Int32} {m_all : Nat → Int32} {m_quarter : Nat → Int32} {m_roots : Nat → Int32} {m_noted1 : Nat → Int32} (hR : REL o_imageKept o_taped o_way_size o_way_log o_way_wordBits o_way_limit o_way_radix o_way_order o_way_near o_way_seed o_way_stages o_way_shifts o_wave_exp o_wave_done o_wave_backward o_wave_re o_wave_im o_wave_wasRe o_wave_wasIm o_wave_halved o_past_next o_past_held o_past_cells o_notes_total o_notes_knownBy o_notes_kinds o_notes_targets o_notes_bins o_ring_size o_ring_log o_ring_powers o_turns_cos o_turns_sin o_reader_fault o_reader_faultPlace o_image o_tape m_tapeSize m_fault m_faultPlace m_bank m_isImage m_undos m_runRadix m_runOrder m_runNear m_runLimit m_runHalves m_power m_notedMany m_knownTold m_tape m_words m_told m_all m_quarter m_roots m_noted1) (p1 : Int32) (p2 : Int32)  (m_thrown : Int32) :
    ∃ (r : Int64) (out_m_thrown : Int32), fX9_swing o_way_size o_way_near o_turns_cos o_wave_wasRe p1 p2 = some r ∧ fX10_swing m_thrown m_bank m_runNear m_all m_quarter m_told p1 p2 = some (r, out_m_thrown) ∧ REL o_imageKept o_taped o_way_size o_way_log o_way_wordBits o_way_limit o_way_radix o_way_order o_way_near o_way_seed o_way_stages o_way_shifts o_wave_exp o_wave_done o_wave_backward o_wave_re o_wave_im o_wave_wasRe o_wave_wasIm o_wave_halved o_past_next o_past_held o_past_cells o_notes_total o_notes_knownBy o_notes_kinds o_notes_targets o_notes_bins o_ring_size o_ring_log o_ring_powers o_turns_cos o_turns_sin o_reader_fault o_reader_faultPlace o_image o_tape m_tapeSize m_fault m_faultPlace m_bank m_isImage m_undos m_runRadix m_runOrder m_runNear m_runLimit m_runHalves m_power m_notedMany m_knownTold m_tape m_words m_told m_all m_quarter m_roots m_noted1 := by
  have hR0 := hR
  obtain ⟨M, bits, rad, ord, nr, sd, hC, hW, hT, hG, hm, hV, hP, hI, hN, hA, hF1, hF2⟩ := hR
  obtain ⟨hM, hbits, hr, ho, hn, hsd⟩ := id hC
  obtain ⟨rfl, rfl, rfl, rfl, rfl, rfl, rfl, rfl, rfl, hSH⟩ := hW
  obtain ⟨rfl, rfl, rfl, rfl, rfl, rfl, rfl, rfl, rfl, t0, t1, t2, t3, t4, t5, hrt⟩ := hm
  have hN2 := isM_pow hM
  have hns := nst_le hM hr
  have hlm := lm_x hbits
  have hCG := CF_c hC
  obtain ⟨k, bk, rfl, rfl, hw, hws, hwi⟩ := hV
  have w2 := WASR_0 hws
  have hMO := TRN_m hM hT t0
  unfold fX9_swing fX10_swing
  rcases place_c hM p1 with ⟨j, hj, rfl, e1, e2⟩ | ⟨e1, e2⟩
  · rw [e1, e2 _ t0, bd1_s, bd1_s, if_neg (show ¬ ((1 : Int32) = 0) by decide), if_neg (show ¬ ((1 : Int32) = 0) by decide), gd_t (inb_nI (show j < 32 by omega) (by decide)), nI_clamp (by omega)]
    rcases isIn_c p2 (show 1 < 2 ^ 30 by decide) with ⟨i, hi, rfl, q1, q2, q3⟩ | ⟨q1, q3⟩ | ⟨q1, q2, -, q3⟩
    · rw [if_neg q1, if_pos (show nI i ≤ 1 from q2), show (1 : Int32) = nI 1 from rfl, q3, bd1_s, if_neg (show ¬ ((1 : Int32) = 0) by decide)]
      simp only [nm]
      have hc := loopN (fun n p (z : Int64 × Int64) => fX9_swing_45 (nI (2 ^ M)) (nI nr) o_wave_wasRe n (nI i) (2 * Int32.toInt64 (o_turns_cos j)) z.1 z.2 (nI p)) (fun p z => (Int32.toInt64 (o_wave_wasRe p) + rnd nr (z.1 * (2 * Int32.toInt64 (o_turns_cos j))) - z.2, z.1)) (2 ^ M) (fun z => some (if i = 0 then z.1 else z.2)) ?_ ?_ (2 ^ M) FU 0 (0, 0) (by omega) (FU_pos (by omega))
      · have hm := loopN (fun n p (z : Int64 × Int64) => fX10_swing_34 0 (nI nr) m_all mX10_61 m_told n 0 (nI j) (nI i) z.1 z.2 (nI p)) (fun p z => (Int32.toInt64 (o_wave_wasRe p) + rnd nr (z.1 * (2 * Int32.toInt64 (o_turns_cos j))) - z.2, z.1)) (2 ^ M) (fun z => some (if i = 0 then z.1 else z.2, (0 : Int32))) ?_ ?_ (2 ^ M) FU 0 (0, 0) (by omega) (FU_pos (by omega))
        · exact ⟨_, _, hc, hm, hR0⟩
        · intro n p z hp
          rw [fX10_swing_34.eq_2, size_eq, bd1_s, t0, if_neg (nI_ge hp (by omega)), show (64 : Int32) + nI p = nI (64 + p) from nI_add 64 p, of0 (by omega), bd1_s, (hMO.2 j hj).1, bd1_s, rounded_14 hn, bd1_s, (w2 p (by omega)).1]
          simp only [nm, nI_1]
        · intro n z
          rw [fX10_swing_34.eq_2, size_eq, bd1_s, t0, if_pos (nI_le (Nat.le_refl _) (by omega)), fX10_swing_89]
          rcases (show i = 0 ∨ i = 1 by omega) with rfl | rfl
          · rw [if_pos (show nI 0 = 0 from rfl), if_pos rfl]
          · rw [if_neg (show ¬ (nI 1 = 0) by decide), if_neg (by decide)]
      · intro n p z hp
        obtain ⟨a, ea, ea2⟩ := added_eq hn
        rw [fX9_swing_45.eq_2, if_neg (nI_ge hp (by omega)), gd_t (inb_nI (show p < 32 by omega) (by decide)), ea, bd1_s, nI_clamp (by omega), ea2]
        simp only [nm, nI_1]
        rfl
      · intro n z
        rw [fX9_swing_45.eq_2, if_pos (nI_le (Nat.le_refl _) (by omega)), fX9_swing_104]
        rcases (show i = 0 ∨ i = 1 by omega) with rfl | rfl
        · rw [if_pos (show nI 0 = 0 from rfl), if_pos rfl]
        · rw [if_neg (show ¬ (nI 1 = 0) by decide), if_neg (by decide)]
    · exact ⟨_, _, by rw [if_pos q1], by rw [show (1 : Int32) = nI 1 from rfl, q3, bd1_s, if_pos rfl], hR0⟩
    · exact ⟨_, _, by rw [if_neg q1, if_neg (show ¬ (p2 ≤ 1) from q2)], by rw [show (1 : Int32) = nI 1 from rfl, q3, bd1_s, if_pos rfl], hR0⟩
  · rw [e1, e2 _ t0]
    exact ⟨_, _, rfl, rfl, hR0⟩
/-- products of a row with another, so many places on (0) or back from there (1) -/
def prS (M : Nat) (a b : Nat → Int32) (i k : Nat) : Int64 := itr (fun n acc => acc + Int32.toInt64 (a n) * Int32.toInt64 (b (if i = 0 then (n + k) % 2 ^ M else (k + 2 ^ M - n) % 2 ^ M))) 0 (2 ^ M) 0
theorem productSum_eq {M k i : Nat} (hM : isM M) (hk : k < 2 ^ M) (hi : i < 2) (a b : Nat → Int32) : fX9_productSum b (nI (2 ^ M)) a (if i = 0 then 1 else -1) (nI k) = some (prS M a b i k) := by
  have hN := isM_pow hM
  unfold fX9_productSum
  have hc := loopN (fun n p acc => fX9_productSum_6 b (nI (2 ^ M)) a n (if i = 0 then 1 else -1) (nI k) acc (nI p)) (fun n acc => acc + Int32.toInt64 (a n) * Int32.toInt64 (b (if i = 0 then (n + k) % 2 ^ M else (k + 2 ^ M - n) % 2 ^ M))) (2 ^ M) (fun s => some s) ?_ ?_ (2 ^ M) FU 0 0 (by omega) (FU_pos (by omega))
  · exact hc
  · intro n p acc hp
    have h1 := Nat.mod_lt (p + k) (show 0 < 2 ^ M by omega)
    have h2 := Nat.mod_lt (k + 2 ^ M - p) (show 0 < 2 ^ M by omega)
    rw [fX9_productSum_6.eq_2, if_neg (nI_ge hp (by omega)), gd_t (inb_nI (show p < 32 by omega) (by decide))]
    rcases (show i = 0 ∨ i = 1 by omega) with rfl | rfl
    · rw [if_pos rfl, if_pos rfl, Int32.one_mul, nI_add, msk hM (by omega), Nat.add_comm k p]
      simp only [nm, gd_t (inb_nI (show (p + k) % 2 ^ M < 32 by omega) (by decide)), nI_clamp (show p < 2 ^ 31 by omega), nI_clamp (show (p + k) % 2 ^ M < 2 ^ 31 by omega), nI_1]
    · rw [if_neg (by decide), if_neg (by decide), fld hM hk hp]
      simp only [nm, gd_t (inb_nI (show (k + 2 ^ M - p) % 2 ^ M < 32 by omega) (by decide)), nI_clamp (show p < 2 ^ 31 by omega), nI_clamp (show (k + 2 ^ M - p) % 2 ^ M < 2 ^ 31 by omega), nI_1]
  · intro n acc
    rw [fX9_productSum_6.eq_2, if_pos (nI_le (Nat.le_refl _) (by omega))]
theorem productSum_al (sz : Int32) (a : Nat → Int32) (i k : Int32) : fX9_productSum_al1 sz a i k = fX9_productSum a sz a i k := by
  unfold fX9_productSum_al1 fX9_productSum
  have key : ∀ n (acc : Int64) (p : Int32), fX9_productSum_al1_6 sz a n i k acc p = fX9_productSum_6 a sz a n i k acc p := by
    intro n
    induction n with
    | zero => intro acc p; rfl
    | succ n ih => intro acc p; rw [fX9_productSum_al1_6.eq_2, fX9_productSum_6.eq_2]; simp only [nm, ih]
  exact key _ _ _
theorem alikeBy_eq {M k f : Nat} {all told b : Nat → Int32} {w : RowZ} (hM : isM M) (hk : k < 2 ^ M) (hf : f = 64 ∧ b = w.1 ∨ f = 96 ∧ b = w.2) (h0 : told 0 = nI (2 ^ M)) (hw : ∀ p, p < 32 → all (64 + p) = w.1 p ∧ all (96 + p) = w.2 p) : fX10_alikeBy 0 all told (nI k) (nI f) = some (prS M w.1 b 0 k) := by
  have hN := isM_pow hM
  unfold fX10_alikeBy
  have hc := loopN (fun n p acc => fX10_alikeBy_5 0 all told n (nI k) (nI f) acc (nI p)) (fun n acc => acc + Int32.toInt64 (w.1 n) * Int32.toInt64 (b (if (0 : Nat) = 0 then (n + k) % 2 ^ M else (k + 2 ^ M - n) % 2 ^ M))) (2 ^ M) (fun s => some s) ?_ ?_ (2 ^ M) FU 0 0 (by omega) (FU_pos (by omega))
  · exact hc
  · intro n p acc hp
    have h1 := Nat.mod_lt (p + k) (show 0 < 2 ^ M by omega)
    have hfb : f + (p + k) % 2 ^ M < 136 := by rcases hf with ⟨h, -⟩ | ⟨h, -⟩ <;> omega
    have hfv : all (f + (p + k) % 2 ^ M) = b ((p + k) % 2 ^ M) := by
      rcases hf with ⟨rfl, rfl⟩ | ⟨rfl, rfl⟩
      · exact (hw _ (by omega)).1
      · exact (hw _ (by omega)).2
    rw [fX10_alikeBy_5.eq_2, size_eq, bd1_s, h0, if_neg (nI_ge hp (by omega)), show (64 : Int32) + nI p = nI (64 + p) from nI_add 64 p, of0 (by omega), bd1_s, bd1_s, gd_t (nz_nI (by omega) (by omega)), nI_add, pk_rem (by omega) (by omega) (by omega), nI_add, of0 hfb, bd1_s, (hw p (by omega)).1, hfv]
    simp only [nm, nI_1]
    rw [if_pos trivial]
  · intro n acc
    rw [fX10_alikeBy_5.eq_2, size_eq, bd1_s, h0, if_pos (nI_le (Nat.le_refl _) (by omega))]
theorem foldOf_eq {M k : Nat} {all told : Nat → Int32} {w : RowZ} (hM : isM M) (hk : k < 2 ^ M) (h0 : told 0 = nI (2 ^ M)) (hw : ∀ p, p < 32 → all (64 + p) = w.1 p ∧ all (96 + p) = w.2 p) : fX10_foldOf 0 all told (nI k) = some (prS M w.1 w.2 1 k) := by
  have hN := isM_pow hM
  unfold fX10_foldOf
  have hc := loopN (fun n p acc => fX10_foldOf_5 0 all told n (nI k) acc (nI p)) (fun n acc => acc + Int32.toInt64 (w.1 n) * Int32.toInt64 (w.2 (if (1 : Nat) = 0 then (n + k) % 2 ^ M else (k + 2 ^ M - n) % 2 ^ M))) (2 ^ M) (fun s => some s) ?_ ?_ (2 ^ M) FU 0 0 (by omega) (FU_pos (by omega))
  · exact hc
  · intro n p acc hp
    have h2 := Nat.mod_lt (k + 2 ^ M - p) (show 0 < 2 ^ M by omega)
    have e9 : nI k - nI p + nI (2 ^ M) = nI (k + 2 ^ M - p) := by
      rw [← pk_sub (show p ≤ k + 2 ^ M by omega), ← nI_add]
      grind
    rw [fX10_foldOf_5.eq_2, size_eq, bd1_s, h0, if_neg (nI_ge hp (by omega)), show (64 : Int32) + nI p = nI (64 + p) from nI_add 64 p, of0 (by omega), bd1_s, bd1_s, bd1_s, gd_t (nz_nI (by omega) (by omega)), e9, pk_rem (by omega) (by omega) (by omega), show (96 : Int32) = nI 96 from rfl, nI_add, of0 (by omega), bd1_s, (hw p (by omega)).1, (hw _ (by omega)).2]
    simp only [nm, nI_1]
    rw [if_neg (by decide)]
  · intro n acc
    rw [fX10_foldOf_5.eq_2, size_eq, bd1_s, h0, if_pos (nI_le (Nat.le_refl _) (by omega))]
theorem k_like {o_imageKept : Int32} {o_taped : Int32} {o_way_size : Int32} {o_way_log : Int32} {o_way_wordBits : Int32} {o_way_limit : Int32} {o_way_radix : Int32} {o_way_order : Int32} {o_way_near : Int32} {o_way_seed : Int32} {o_way_stages : Int32} {o_way_shifts : Nat → Int32} {o_wave_exp : Int32} {o_wave_done : Int32} {o_wave_backward : Int32} {o_wave_re : Nat → Int32} {o_wave_im : Nat → Int32} {o_wave_wasRe : Nat → Int32} {o_wave_wasIm : Nat → Int32} {o_wave_halved : Nat → Int32} {o_past_next : Int32} {o_past_held : Int32} {o_past_cells : Nat → Int32} {o_notes_total : Int32} {o_notes_knownBy : Int32} {o_notes_kinds : Nat → Int32} {o_notes_targets : Nat → Int32} {o_notes_bins : Nat → Int32} {o_ring_size : Int32} {o_ring_log : Int32} {o_ring_powers : Nat → Int32} {o_turns_cos : Nat → Int32} {o_turns_sin : Nat → Int32} {o_reader_fault : Int32} {o_reader_faultPlace : Int32} {o_image : Nat → Int32} {o_tape : Nat → Int32} {m_tapeSize : Int32} {m_fault : Int32} {m_faultPlace : Int32} {m_bank : Int32} {m_isImage : Int32} {m_undos : Int32} {m_runRadix : Int32} {m_runOrder : Int32} {m_runNear : Int32} {m_runLimit : Int32} {m_runHalves : Int32} {m_power : Int32} {m_notedMany : Int32} {m_knownTold : Int32} {m_tape : Nat → Int32} {m_words : Nat → Int32} {m_told : Nat → Int32} {m_all : Nat → Int32} {m_quarter : Nat → Int32} {m_roots : Nat → Int32} {m_noted1 : Nat → Int32} (hR : REL o_imageKept o_taped o_way_size o_way_log o_way_wordBits o_way_limit o_way_radix o_way_order o_way_near o_way_seed o_way_stages o_way_shifts o_wave_exp o_wave_done o_wave_backward o_wave_re o_wave_im o_wave_wasRe o_wave_wasIm o_wave_halved o_past_next o_past_held o_past_cells o_notes_total o_notes_knownBy o_notes_kinds o_notes_targets o_notes_bins o_ring_size o_ring_log o_ring_powers o_turns_cos o_turns_sin o_reader_fault o_reader_faultPlace o_image o_tape m_tapeSize m_fault m_faultPlace m_bank m_isImage m_undos m_runRadix m_runOrder m_runNear m_runLimit m_runHalves m_power m_notedMany m_knownTold m_tape m_words m_told m_all m_quarter m_roots m_noted1) (p1 : Int32)  (m_thrown : Int32) :
    ∃ (r : Int64) (out_m_thrown : Int32), fX9_like o_way_size o_wave_wasRe p1 = some r ∧ fX10_like m_thrown m_bank m_all m_told p1 = some (r, out_m_thrown) ∧ REL o_imageKept o_taped o_way_size o_way_log o_way_wordBits o_way_limit o_way_radix o_way_order o_way_near o_way_seed o_way_stages o_way_shifts o_wave_exp o_wave_done o_wave_backward o_wave_re o_wave_im o_wave_wasRe o_wave_wasIm o_wave_halved o_past_next o_past_held o_past_cells o_notes_total o_notes_knownBy o_notes_kinds o_notes_targets o_notes_bins o_ring_size o_ring_log o_ring_powers o_turns_cos o_turns_sin o_reader_fault o_reader_faultPlace o_image o_tape m_tapeSize m_fault m_faultPlace m_bank m_isImage m_undos m_runRadix m_runOrder m_runNear m_runLimit m_runHalves m_power m_notedMany m_knownTold m_tape m_words m_told m_all m_quarter m_roots m_noted1 := by
  have hR0 := hR
  obtain ⟨M, bits, rad, ord, nr, sd, hC, hW, hT, hG, hm, hV, hP, hI, hN, hA, hF1, hF2⟩ := hR
  obtain ⟨hM, hbits, hr, ho, hn, hsd⟩ := id hC
  obtain ⟨rfl, rfl, rfl, rfl, rfl, rfl, rfl, rfl, rfl, hSH⟩ := hW
  obtain ⟨rfl, rfl, rfl, rfl, rfl, rfl, rfl, rfl, rfl, t0, t1, t2, t3, t4, t5, hrt⟩ := hm
  have hN2 := isM_pow hM
  have hns := nst_le hM hr
  have hlm := lm_x hbits
  have hCG := CF_c hC
  obtain ⟨k, bk, rfl, rfl, hw, hws, hwi⟩ := hV
  have w2 := WASR_0 hws
  unfold fX9_like fX10_like
  rcases place_c hM p1 with ⟨j, hj, rfl, e1, e2⟩ | ⟨e1, e2⟩
  · rw [e1, e2 _ t0, productSum_al, show fX9_productSum o_wave_wasRe (nI (2 ^ M)) o_wave_wasRe 1 (nI j) = _ from productSum_eq (i := 0) hM hj (by decide) _ _, show fX10_alikeBy 0 m_all m_told (nI j) 64 = _ from alikeBy_eq (f := 64) hM hj (Or.inl ⟨rfl, rfl⟩) t0 w2]
    exact ⟨_, _, rfl, rfl, hR0⟩
  · rw [e1, e2 _ t0]
    exact ⟨_, _, rfl, rfl, hR0⟩
theorem k_crossed {o_imageKept : Int32} {o_taped : Int32} {o_way_size : Int32} {o_way_log : Int32} {o_way_wordBits : Int32} {o_way_limit : Int32} {o_way_radix : Int32} {o_way_order : Int32} {o_way_near : Int32} {o_way_seed : Int32} {o_way_stages : Int32} {o_way_shifts : Nat → Int32} {o_wave_exp : Int32} {o_wave_done : Int32} {o_wave_backward : Int32} {o_wave_re : Nat → Int32} {o_wave_im : Nat → Int32} {o_wave_wasRe : Nat → Int32} {o_wave_wasIm : Nat → Int32} {o_wave_halved : Nat → Int32} {o_past_next : Int32} {o_past_held : Int32} {o_past_cells : Nat → Int32} {o_notes_total : Int32} {o_notes_knownBy : Int32} {o_notes_kinds : Nat → Int32} {o_notes_targets : Nat → Int32} {o_notes_bins : Nat → Int32} {o_ring_size : Int32} {o_ring_log : Int32} {o_ring_powers : Nat → Int32} {o_turns_cos : Nat → Int32} {o_turns_sin : Nat → Int32} {o_reader_fault : Int32} {o_reader_faultPlace : Int32} {o_image : Nat → Int32} {o_tape : Nat → Int32} {m_tapeSize : Int32} {m_fault : Int32} {m_faultPlace : Int32} {m_bank : Int32} {m_isImage : Int32} {m_undos : Int32} {m_runRadix : Int32} {m_runOrder : Int32} {m_runNear : Int32} {m_runLimit : Int32} {m_runHalves : Int32} {m_power : Int32} {m_notedMany : Int32} {m_knownTold : Int32} {m_tape : Nat → Int32} {m_words : Nat → Int32} {m_told : Nat → Int32} {m_all : Nat → Int32} {m_quarter : Nat → Int32} {m_roots : Nat → Int32} {m_noted1 : Nat → Int32} (hR : REL o_imageKept o_taped o_way_size o_way_log o_way_wordBits o_way_limit o_way_radix o_way_order o_way_near o_way_seed o_way_stages o_way_shifts o_wave_exp o_wave_done o_wave_backward o_wave_re o_wave_im o_wave_wasRe o_wave_wasIm o_wave_halved o_past_next o_past_held o_past_cells o_notes_total o_notes_knownBy o_notes_kinds o_notes_targets o_notes_bins o_ring_size o_ring_log o_ring_powers o_turns_cos o_turns_sin o_reader_fault o_reader_faultPlace o_image o_tape m_tapeSize m_fault m_faultPlace m_bank m_isImage m_undos m_runRadix m_runOrder m_runNear m_runLimit m_runHalves m_power m_notedMany m_knownTold m_tape m_words m_told m_all m_quarter m_roots m_noted1) (p1 : Int32)  (m_thrown : Int32) :
    ∃ (r : Int64) (out_m_thrown : Int32), fX9_crossed o_way_size o_wave_wasIm o_wave_wasRe p1 = some r ∧ fX10_crossed m_thrown m_bank m_all m_told p1 = some (r, out_m_thrown) ∧ REL o_imageKept o_taped o_way_size o_way_log o_way_wordBits o_way_limit o_way_radix o_way_order o_way_near o_way_seed o_way_stages o_way_shifts o_wave_exp o_wave_done o_wave_backward o_wave_re o_wave_im o_wave_wasRe o_wave_wasIm o_wave_halved o_past_next o_past_held o_past_cells o_notes_total o_notes_knownBy o_notes_kinds o_notes_targets o_notes_bins o_ring_size o_ring_log o_ring_powers o_turns_cos o_turns_sin o_reader_fault o_reader_faultPlace o_image o_tape m_tapeSize m_fault m_faultPlace m_bank m_isImage m_undos m_runRadix m_runOrder m_runNear m_runLimit m_runHalves m_power m_notedMany m_knownTold m_tape m_words m_told m_all m_quarter m_roots m_noted1 := by
  have hR0 := hR
  obtain ⟨M, bits, rad, ord, nr, sd, hC, hW, hT, hG, hm, hV, hP, hI, hN, hA, hF1, hF2⟩ := hR
  obtain ⟨hM, hbits, hr, ho, hn, hsd⟩ := id hC
  obtain ⟨rfl, rfl, rfl, rfl, rfl, rfl, rfl, rfl, rfl, hSH⟩ := hW
  obtain ⟨rfl, rfl, rfl, rfl, rfl, rfl, rfl, rfl, rfl, t0, t1, t2, t3, t4, t5, hrt⟩ := hm
  have hN2 := isM_pow hM
  have hns := nst_le hM hr
  have hlm := lm_x hbits
  have hCG := CF_c hC
  obtain ⟨k, bk, rfl, rfl, hw, hws, hwi⟩ := hV
  have w2 := WASR_0 hws
  unfold fX9_crossed fX10_crossed
  rcases place_c hM p1 with ⟨j, hj, rfl, e1, e2⟩ | ⟨e1, e2⟩
  · rw [e1, e2 _ t0, show fX9_productSum o_wave_wasIm (nI (2 ^ M)) o_wave_wasRe 1 (nI j) = _ from productSum_eq (i := 0) hM hj (by decide) _ _, show fX10_alikeBy 0 m_all m_told (nI j) 96 = _ from alikeBy_eq (f := 96) hM hj (Or.inr ⟨rfl, rfl⟩) t0 w2]
    exact ⟨_, _, rfl, rfl, hR0⟩
  · rw [e1, e2 _ t0]
    exact ⟨_, _, rfl, rfl, hR0⟩
theorem k_foldWhole {o_imageKept : Int32} {o_taped : Int32} {o_way_size : Int32} {o_way_log : Int32} {o_way_wordBits : Int32} {o_way_limit : Int32} {o_way_radix : Int32} {o_way_order : Int32} {o_way_near : Int32} {o_way_seed : Int32} {o_way_stages : Int32} {o_way_shifts : Nat → Int32} {o_wave_exp : Int32} {o_wave_done : Int32} {o_wave_backward : Int32} {o_wave_re : Nat → Int32} {o_wave_im : Nat → Int32} {o_wave_wasRe : Nat → Int32} {o_wave_wasIm : Nat → Int32} {o_wave_halved : Nat → Int32} {o_past_next : Int32} {o_past_held : Int32} {o_past_cells : Nat → Int32} {o_notes_total : Int32} {o_notes_knownBy : Int32} {o_notes_kinds : Nat → Int32} {o_notes_targets : Nat → Int32} {o_notes_bins : Nat → Int32} {o_ring_size : Int32} {o_ring_log : Int32} {o_ring_powers : Nat → Int32} {o_turns_cos : Nat → Int32} {o_turns_sin : Nat → Int32} {o_reader_fault : Int32} {o_reader_faultPlace : Int32} {o_image : Nat → Int32} {o_tape : Nat → Int32} {m_tapeSize : Int32} {m_fault : Int32} {m_faultPlace : Int32} {m_bank : Int32} {m_isImage : Int32} {m_undos : Int32} {m_runRadix : Int32} {m_runOrder : Int32} {m_runNear : Int32} {m_runLimit : Int32} {m_runHalves : Int32} {m_power : Int32} {m_notedMany : Int32} {m_knownTold : Int32} {m_tape : Nat → Int32} {m_words : Nat → Int32} {m_told : Nat → Int32} {m_all : Nat → Int32} {m_quarter : Nat → Int32} {m_roots : Nat → Int32} {m_noted1 : Nat → Int32} (hR : REL o_imageKept o_taped o_way_size o_way_log o_way_wordBits o_way_limit o_way_radix o_way_order o_way_near o_way_seed o_way_stages o_way_shifts o_wave_exp o_wave_done o_wave_backward o_wave_re o_wave_im o_wave_wasRe o_wave_wasIm o_wave_halved o_past_next o_past_held o_past_cells o_notes_total o_notes_knownBy o_notes_kinds o_notes_targets o_notes_bins o_ring_size o_ring_log o_ring_powers o_turns_cos o_turns_sin o_reader_fault o_reader_faultPlace o_image o_tape m_tapeSize m_fault m_faultPlace m_bank m_isImage m_undos m_runRadix m_runOrder m_runNear m_runLimit m_runHalves m_power m_notedMany m_knownTold m_tape m_words m_told m_all m_quarter m_roots m_noted1) (p1 : Int32)  (m_thrown : Int32) :
    ∃ (r : Int64) (out_m_thrown : Int32), fX9_foldWhole o_way_size o_wave_wasIm o_wave_wasRe p1 = some r ∧ fX10_foldWhole m_thrown m_bank m_all m_told p1 = some (r, out_m_thrown) ∧ REL o_imageKept o_taped o_way_size o_way_log o_way_wordBits o_way_limit o_way_radix o_way_order o_way_near o_way_seed o_way_stages o_way_shifts o_wave_exp o_wave_done o_wave_backward o_wave_re o_wave_im o_wave_wasRe o_wave_wasIm o_wave_halved o_past_next o_past_held o_past_cells o_notes_total o_notes_knownBy o_notes_kinds o_notes_targets o_notes_bins o_ring_size o_ring_log o_ring_powers o_turns_cos o_turns_sin o_reader_fault o_reader_faultPlace o_image o_tape m_tapeSize m_fault m_faultPlace m_bank m_isImage m_undos m_runRadix m_runOrder m_runNear m_runLimit m_runHalves m_power m_notedMany m_knownTold m_tape m_words m_told m_all m_quarter m_roots m_noted1 := by
  have hR0 := hR
  obtain ⟨M, bits, rad, ord, nr, sd, hC, hW, hT, hG, hm, hV, hP, hI, hN, hA, hF1, hF2⟩ := hR
  obtain ⟨hM, hbits, hr, ho, hn, hsd⟩ := id hC
  obtain ⟨rfl, rfl, rfl, rfl, rfl, rfl, rfl, rfl, rfl, hSH⟩ := hW
  obtain ⟨rfl, rfl, rfl, rfl, rfl, rfl, rfl, rfl, rfl, t0, t1, t2, t3, t4, t5, hrt⟩ := hm
  have hN2 := isM_pow hM
  have hns := nst_le hM hr
  have hlm := lm_x hbits
  have hCG := CF_c hC
  obtain ⟨k, bk, rfl, rfl, hw, hws, hwi⟩ := hV
  have w2 := WASR_0 hws
  unfold fX9_foldWhole fX10_foldWhole
  rcases place_c hM p1 with ⟨j, hj, rfl, e1, e2⟩ | ⟨e1, e2⟩
  · rw [e1, e2 _ t0, show fX9_productSum o_wave_wasIm (nI (2 ^ M)) o_wave_wasRe (-1) (nI j) = _ from productSum_eq (i := 1) hM hj (by decide) _ _, foldOf_eq hM hj t0 w2]
    exact ⟨_, _, rfl, rfl, hR0⟩
  · rw [e1, e2 _ t0]
    exact ⟨_, _, rfl, rfl, hR0⟩
/-- the first place, from one on, at which something is greatest -/
def fstG (f : Nat → Int64) (i : Nat) (best : Nat) : Nat := if f i ≤ f best then best else i
theorem greatestProduct_eq {M a0 : Nat} (hM : isM M) (ha : a0 < 2 ^ M) (a b : Nat → Int32) : fX9_greatestProduct b (nI (2 ^ M)) a (nI a0) = some (nI (itr (fstG (prS M a b 0)) (a0 + 1) (2 ^ M - (a0 + 1)) a0)) := by
  have hN := isM_pow hM
  have hps : ∀ k, k < 2 ^ M → fX9_productSum b (nI (2 ^ M)) a 1 (nI k) = some (prS M a b 0 k) := fun k hk => productSum_eq (i := 0) hM hk (by decide) a b
  unfold fX9_greatestProduct
  rw [hps a0 ha, bd1_s]
  simp only [nm, nI_1]
  have hc := loopJ (fun n p (best : Nat) => fX9_greatestProduct_16 b (nI (2 ^ M)) a n (nI best) (prS M a b 0 best) (nI p)) (fstG (prS M a b 0)) (2 ^ M) (fun best => some (nI best)) (fun i best => best < i ∧ i ≤ 2 ^ M) ?_ ?_ ?_ (2 ^ M - (a0 + 1)) FU (a0 + 1) a0 (by omega) (FU_pos (by omega)) (by omega)
  · exact hc.1
  · intro i best hi hb
    unfold fstG
    split <;> omega
  · intro n p best hp hb
    rw [fX9_greatestProduct_16.eq_2, if_neg (nI_ge hp (by omega)), hps p hp, bd1_s]
    unfold fstG fX9_greatestProduct_53
    simp only [nm, nI_1]
    by_cases h : prS M a b 0 p ≤ prS M a b 0 best
    · rw [if_pos h, if_pos h]
    · rw [if_neg h, if_neg h]
  · intro n best hb
    rw [fX9_greatestProduct_16.eq_2, if_pos (nI_le (Nat.le_refl _) (by omega))]
theorem greatestProduct_al (sz : Int32) (a : Nat → Int32) (k : Int32) : fX9_greatestProduct_al1 sz a k = fX9_greatestProduct a sz a k := by
  have key : ∀ n (b : Int32) (m : Int64) (p : Int32), fX9_greatestProduct_al1_16 sz a n b m p = fX9_greatestProduct_16 a sz a n b m p := by
    intro n
    induction n with
    | zero => intro b m p; rfl
    | succ n ih => intro b m p; rw [fX9_greatestProduct_al1_16.eq_2, fX9_greatestProduct_16.eq_2]; simp only [fX9_greatestProduct_al1_53, fX9_greatestProduct_53, nm, ih, productSum_al]
  unfold fX9_greatestProduct_al1 fX9_greatestProduct
  simp only [nm, key, productSum_al]
theorem mostAlike_eq {M a0 f : Nat} {all told b : Nat → Int32} {w : RowZ} (hM : isM M) (ha : a0 < 2 ^ M) (hf : f = 64 ∧ b = w.1 ∨ f = 96 ∧ b = w.2) (h0 : told 0 = nI (2 ^ M)) (hw : ∀ p, p < 32 → all (64 + p) = w.1 p ∧ all (96 + p) = w.2 p) : fX10_mostAlike 0 all told (nI a0) (nI f) = some (nI (itr (fstG (prS M w.1 b 0)) (a0 + 1) (2 ^ M - (a0 + 1)) a0)) := by
  have hN := isM_pow hM
  unfold fX10_mostAlike
  simp only [nm, nI_1]
  have hc := loopJ (fun n p (best : Nat) => fX10_mostAlike_7 0 all told n (nI f) (nI best) (nI p)) (fstG (prS M w.1 b 0)) (2 ^ M) (fun best => some (nI best)) (fun i best => best < i ∧ i ≤ 2 ^ M) ?_ ?_ ?_ (2 ^ M - (a0 + 1)) FU (a0 + 1) a0 (by omega) (FU_pos (by omega)) (by omega)
  · exact hc.1
  · intro i best hi hb
    unfold fstG
    split <;> omega
  · intro n p best hp hb
    rw [fX10_mostAlike_7.eq_2, size_eq, bd1_s, h0, if_neg (nI_ge hp (by omega)), alikeBy_eq hM hp hf h0 hw, bd1_s, alikeBy_eq hM (show best < 2 ^ M by omega) hf h0 hw, bd1_s]
    unfold fstG fX10_mostAlike_39
    simp only [nm, nI_1]
    by_cases h : prS M w.1 b 0 p ≤ prS M w.1 b 0 best
    · rw [if_pos h, if_pos h]
    · rw [if_neg h, if_neg h]
  · intro n best hb
    rw [fX10_mostAlike_7.eq_2, size_eq, bd1_s, h0, if_pos (nI_le (Nat.le_refl _) (by omega))]
theorem k_period {o_imageKept : Int32} {o_taped : Int32} {o_way_size : Int32} {o_way_log : Int32} {o_way_wordBits : Int32} {o_way_limit : Int32} {o_way_radix : Int32} {o_way_order : Int32} {o_way_near : Int32} {o_way_seed : Int32} {o_way_stages : Int32} {o_way_shifts : Nat → Int32} {o_wave_exp : Int32} {o_wave_done : Int32} {o_wave_backward : Int32} {o_wave_re : Nat → Int32} {o_wave_im : Nat → Int32} {o_wave_wasRe : Nat → Int32} {o_wave_wasIm : Nat → Int32} {o_wave_halved : Nat → Int32} {o_past_next : Int32} {o_past_held : Int32} {o_past_cells : Nat → Int32} {o_notes_total : Int32} {o_notes_knownBy : Int32} {o_notes_kinds : Nat → Int32} {o_notes_targets : Nat → Int32} {o_notes_bins : Nat → Int32} {o_ring_size : Int32} {o_ring_log : Int32} {o_ring_powers : Nat → Int32} {o_turns_cos : Nat → Int32} {o_turns_sin : Nat → Int32} {o_reader_fault : Int32} {o_reader_faultPlace : Int32} {o_image : Nat → Int32} {o_tape : Nat → Int32} {m_tapeSize : Int32} {m_fault : Int32} {m_faultPlace : Int32} {m_bank : Int32} {m_isImage : Int32} {m_undos : Int32} {m_runRadix : Int32} {m_runOrder : Int32} {m_runNear : Int32} {m_runLimit : Int32} {m_runHalves : Int32} {m_power : Int32} {m_notedMany : Int32} {m_knownTold : Int32} {m_tape : Nat → Int32} {m_words : Nat → Int32} {m_told : Nat → Int32} {m_all : Nat → Int32} {m_quarter : Nat → Int32} {m_roots : Nat → Int32} {m_noted1 : Nat → Int32} (hR : REL o_imageKept o_taped o_way_size o_way_log o_way_wordBits o_way_limit o_way_radix o_way_order o_way_near o_way_seed o_way_stages o_way_shifts o_wave_exp o_wave_done o_wave_backward o_wave_re o_wave_im o_wave_wasRe o_wave_wasIm o_wave_halved o_past_next o_past_held o_past_cells o_notes_total o_notes_knownBy o_notes_kinds o_notes_targets o_notes_bins o_ring_size o_ring_log o_ring_powers o_turns_cos o_turns_sin o_reader_fault o_reader_faultPlace o_image o_tape m_tapeSize m_fault m_faultPlace m_bank m_isImage m_undos m_runRadix m_runOrder m_runNear m_runLimit m_runHalves m_power m_notedMany m_knownTold m_tape m_words m_told m_all m_quarter m_roots m_noted1)   (m_thrown : Int32) :
    ∃ (r : Int32) (out_m_thrown : Int32), fX9_period o_way_size o_wave_wasRe = some r ∧ fX10_period m_thrown m_bank m_all m_told = some (r, out_m_thrown) ∧ REL o_imageKept o_taped o_way_size o_way_log o_way_wordBits o_way_limit o_way_radix o_way_order o_way_near o_way_seed o_way_stages o_way_shifts o_wave_exp o_wave_done o_wave_backward o_wave_re o_wave_im o_wave_wasRe o_wave_wasIm o_wave_halved o_past_next o_past_held o_past_cells o_notes_total o_notes_knownBy o_notes_kinds o_notes_targets o_notes_bins o_ring_size o_ring_log o_ring_powers o_turns_cos o_turns_sin o_reader_fault o_reader_faultPlace o_image o_tape m_tapeSize m_fault m_faultPlace m_bank m_isImage m_undos m_runRadix m_runOrder m_runNear m_runLimit m_runHalves m_power m_notedMany m_knownTold m_tape m_words m_told m_all m_quarter m_roots m_noted1 := by
  have hR0 := hR
  obtain ⟨M, bits, rad, ord, nr, sd, hC, hW, hT, hG, hm, hV, hP, hI, hN, hA, hF1, hF2⟩ := hR
  obtain ⟨hM, hbits, hr, ho, hn, hsd⟩ := id hC
  obtain ⟨rfl, rfl, rfl, rfl, rfl, rfl, rfl, rfl, rfl, hSH⟩ := hW
  obtain ⟨rfl, rfl, rfl, rfl, rfl, rfl, rfl, rfl, rfl, t0, t1, t2, t3, t4, t5, hrt⟩ := hm
  have hN2 := isM_pow hM
  have hns := nst_le hM hr
  have hlm := lm_x hbits
  have hCG := CF_c hC
  obtain ⟨k, bk, rfl, rfl, hw, hws, hwi⟩ := hV
  have w2 := WASR_0 hws
  unfold fX9_period fX10_period
  rw [greatestProduct_al, show fX9_greatestProduct o_wave_wasRe (nI (2 ^ M)) o_wave_wasRe 1 = _ from greatestProduct_eq (a0 := 1) hM (by omega) _ _, show fX10_mostAlike 0 m_all m_told 1 64 = _ from mostAlike_eq (a0 := 1) (f := 64) hM (by omega) (Or.inl ⟨rfl, rfl⟩) t0 w2]
  exact ⟨_, _, rfl, rfl, hR0⟩
theorem k_lag {o_imageKept : Int32} {o_taped : Int32} {o_way_size : Int32} {o_way_log : Int32} {o_way_wordBits : Int32} {o_way_limit : Int32} {o_way_radix : Int32} {o_way_order : Int32} {o_way_near : Int32} {o_way_seed : Int32} {o_way_stages : Int32} {o_way_shifts : Nat → Int32} {o_wave_exp : Int32} {o_wave_done : Int32} {o_wave_backward : Int32} {o_wave_re : Nat → Int32} {o_wave_im : Nat → Int32} {o_wave_wasRe : Nat → Int32} {o_wave_wasIm : Nat → Int32} {o_wave_halved : Nat → Int32} {o_past_next : Int32} {o_past_held : Int32} {o_past_cells : Nat → Int32} {o_notes_total : Int32} {o_notes_knownBy : Int32} {o_notes_kinds : Nat → Int32} {o_notes_targets : Nat → Int32} {o_notes_bins : Nat → Int32} {o_ring_size : Int32} {o_ring_log : Int32} {o_ring_powers : Nat → Int32} {o_turns_cos : Nat → Int32} {o_turns_sin : Nat → Int32} {o_reader_fault : Int32} {o_reader_faultPlace : Int32} {o_image : Nat → Int32} {o_tape : Nat → Int32} {m_tapeSize : Int32} {m_fault : Int32} {m_faultPlace : Int32} {m_bank : Int32} {m_isImage : Int32} {m_undos : Int32} {m_runRadix : Int32} {m_runOrder : Int32} {m_runNear : Int32} {m_runLimit : Int32} {m_runHalves : Int32} {m_power : Int32} {m_notedMany : Int32} {m_knownTold : Int32} {m_tape : Nat → Int32} {m_words : Nat → Int32} {m_told : Nat → Int32} {m_all : Nat → Int32} {m_quarter : Nat → Int32} {m_roots : Nat → Int32} {m_noted1 : Nat → Int32} (hR : REL o_imageKept o_taped o_way_size o_way_log o_way_wordBits o_way_limit o_way_radix o_way_order o_way_near o_way_seed o_way_stages o_way_shifts o_wave_exp o_wave_done o_wave_backward o_wave_re o_wave_im o_wave_wasRe o_wave_wasIm o_wave_halved o_past_next o_past_held o_past_cells o_notes_total o_notes_knownBy o_notes_kinds o_notes_targets o_notes_bins o_ring_size o_ring_log o_ring_powers o_turns_cos o_turns_sin o_reader_fault o_reader_faultPlace o_image o_tape m_tapeSize m_fault m_faultPlace m_bank m_isImage m_undos m_runRadix m_runOrder m_runNear m_runLimit m_runHalves m_power m_notedMany m_knownTold m_tape m_words m_told m_all m_quarter m_roots m_noted1)   (m_thrown : Int32) :
    ∃ (r : Int32) (out_m_thrown : Int32), fX9_lag o_way_size o_wave_wasIm o_wave_wasRe = some r ∧ fX10_lag m_thrown m_bank m_all m_told = some (r, out_m_thrown) ∧ REL o_imageKept o_taped o_way_size o_way_log o_way_wordBits o_way_limit o_way_radix o_way_order o_way_near o_way_seed o_way_stages o_way_shifts o_wave_exp o_wave_done o_wave_backward o_wave_re o_wave_im o_wave_wasRe o_wave_wasIm o_wave_halved o_past_next o_past_held o_past_cells o_notes_total o_notes_knownBy o_notes_kinds o_notes_targets o_notes_bins o_ring_size o_ring_log o_ring_powers o_turns_cos o_turns_sin o_reader_fault o_reader_faultPlace o_image o_tape m_tapeSize m_fault m_faultPlace m_bank m_isImage m_undos m_runRadix m_runOrder m_runNear m_runLimit m_runHalves m_power m_notedMany m_knownTold m_tape m_words m_told m_all m_quarter m_roots m_noted1 := by
  have hR0 := hR
  obtain ⟨M, bits, rad, ord, nr, sd, hC, hW, hT, hG, hm, hV, hP, hI, hN, hA, hF1, hF2⟩ := hR
  obtain ⟨hM, hbits, hr, ho, hn, hsd⟩ := id hC
  obtain ⟨rfl, rfl, rfl, rfl, rfl, rfl, rfl, rfl, rfl, hSH⟩ := hW
  obtain ⟨rfl, rfl, rfl, rfl, rfl, rfl, rfl, rfl, rfl, t0, t1, t2, t3, t4, t5, hrt⟩ := hm
  have hN2 := isM_pow hM
  have hns := nst_le hM hr
  have hlm := lm_x hbits
  have hCG := CF_c hC
  obtain ⟨k, bk, rfl, rfl, hw, hws, hwi⟩ := hV
  have w2 := WASR_0 hws
  unfold fX9_lag fX10_lag
  rw [show fX9_greatestProduct o_wave_wasIm (nI (2 ^ M)) o_wave_wasRe 0 = _ from greatestProduct_eq (a0 := 0) hM (by omega) _ _, show fX10_mostAlike 0 m_all m_told 0 96 = _ from mostAlike_eq (a0 := 0) (f := 96) hM (by omega) (Or.inr ⟨rfl, rfl⟩) t0 w2]
  exact ⟨_, _, rfl, rfl, hR0⟩
