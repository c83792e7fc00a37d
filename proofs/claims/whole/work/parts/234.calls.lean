/-! ===== peak, mirror, pair ===== -/
theorem sq2_bd {x y : Int32} (hx : ab x ≤ 2 ^ 16) (hy : ab y ≤ 2 ^ 16) : 0 ≤ (sq2 x y).toInt ∧ (sq2 x y).toInt ≤ 2 ^ 33 := by
  unfold ab at hx hy
  have m : ∀ {u : Int32}, u.toInt.natAbs ≤ 2 ^ 16 → (Int32.toInt64 u * Int32.toInt64 u).toInt = u.toInt * u.toInt ∧ (u.toInt * u.toInt).natAbs ≤ 2 ^ 32 ∧ 0 ≤ u.toInt * u.toInt := fun {u} h1 => by
    have h3 := ab_mul h1 h1
    have h4 : 0 ≤ u.toInt * u.toInt := by rw [← Int.natAbs_mul_self]; exact Int.natCast_nonneg _
    refine ⟨?_, h3, h4⟩
    rw [i64_mul (by rw [i64_w]; omega) (by rw [i64_w]; omega), i64_w]
  obtain ⟨a1, a2, a3⟩ := m hx
  obtain ⟨b1, b2, b3⟩ := m hy
  unfold sq2
  rw [i64_add (by rw [a1, b1]; omega) (by rw [a1, b1]; omega), a1, b1]
  omega
/-- how many are louder, or as loud and ahead -/
def ldS (re im : Nat → Int32) (k j : Nat) (acc : Int32) : Int32 := if sq2 (re k) (im k) < sq2 (re j) (im j) ∨ (sq2 (re j) (im j) = sq2 (re k) (im k) ∧ j < k) then acc + 1 else acc
theorem louderOnes_eq {M k : Nat} (hM : isM M) (hk : k < 2 ^ M) (im re : Nat → Int32) : fX9_louderOnes (nI (2 ^ M)) im re (nI k) = some (itr (ldS re im k) 0 (2 ^ M) 0) := by
  have hN := isM_pow hM
  unfold fX9_louderOnes
  simp only [gd_t (inb_nI (show k < 32 by omega) (by decide)), nI_clamp (show k < 2 ^ 31 by omega), fX9_loudness, bd1_s]
  have hc := loopN (fun n j acc => fX9_louderOnes_30 (nI (2 ^ M)) im re n (nI k) (sq2 (re k) (im k)) acc (nI j)) (ldS re im k) (2 ^ M) (fun s => some s) ?_ ?_ (2 ^ M) FU 0 0 (by omega) (FU_pos (by omega))
  · exact hc
  · intro n j acc hj
    rw [fX9_louderOnes_30.eq_2, if_neg (nI_ge hj (by omega))]
    simp only [gd_t (inb_nI (show j < 32 by omega) (by decide)), nI_clamp (show j < 2 ^ 31 by omega), fX9_loudness, bd1_s, fX9_louderOnes_89, fX9_louderOnes_92, nm, nI_1]
    unfold ldS
    show (if sq2 (re k) (im k) < sq2 (re j) (im j) then _ else if sq2 (re j) (im j) = sq2 (re k) (im k) then _ else _) = _
    by_cases h1 : sq2 (re k) (im k) < sq2 (re j) (im j)
    · rw [if_pos h1, if_pos (Or.inl h1)]
    · rw [if_neg h1]
      by_cases h2 : sq2 (re j) (im j) = sq2 (re k) (im k)
      · rw [if_pos h2]
        by_cases h3 : j < k
        · rw [if_neg (nI_ge h3 (by omega)), if_pos (Or.inr ⟨h2, h3⟩)]
        · rw [if_pos (nI_le (by omega) (by omega)), if_neg (by rintro (q | q); exact h1 q; exact h3 q.2)]
      · rw [if_neg h2, if_neg (by rintro (q | q); exact h1 q; exact h2 q.1)]
  · intro n acc
    rw [fX9_louderOnes_30.eq_2, if_pos (nI_le (Nat.le_refl _) (by omega))]
theorem k_peak {o_imageKept : Int32} {o_taped : Int32} {o_way_size : Int32} {o_way_log : Int32} {o_way_wordBits : Int32} {o_way_limit : Int32} {o_way_radix : Int32} {o_way_order : Int32} {o_way_near : Int32} {o_way_seed : Int32} {o_way_stages : Int32} {o_way_shifts : Nat → Int32} {o_wave_exp : Int32} {o_wave_done : Int32} {o_wave_backward : Int32} {o_wave_re : Nat → Int32} {o_wave_im : Nat → Int32} {o_wave_wasRe : Nat → Int32} {o_wave_wasIm : Nat → Int32} {o_wave_halved : Nat → Int32} {o_past_next : Int32} {o_past_held : Int32} {o_past_cells : Nat → Int32} {o_notes_total : Int32} {o_notes_knownBy : Int32} {o_notes_kinds : Nat → Int32} {o_notes_targets : Nat → Int32} {o_notes_bins : Nat → Int32} {o_ring_size : Int32} {o_ring_log : Int32} {o_ring_powers : Nat → Int32} {o_turns_cos : Nat → Int32} {o_turns_sin : Nat → Int32} {o_reader_fault : Int32} {o_reader_faultPlace : Int32} {o_image : Nat → Int32} {o_tape : Nat → Int32} {m_tapeSize : Int32} {m_fault : Int32} {m_faultPlace : Int32} {m_bank : Int32} {m_isImage : Int32} {m_undos : Int32} {m_runRadix : Int32} {m_runOrder : Int32} {m_runNear : Int32} {m_runLimit : Int32} {m_runHalves : Int32} {m_power : Int32} {m_notedMany : Int32} {m_knownTold : Int32} {m_tape : Nat → Int32} {m_words : Nat → Int32} {m_told : Nat → Int32} {m_all : Nat → Int32} {m_quarter : Nat → Int32} {m_roots : Nat → Int32} {m_noted1 : Nat → Int32} (hR : REL o_imageKept o_taped o_way_size o_way_log o_way_wordBits o_way_limit o_way_radix o_way_order o_way_near o_way_seed o_way_stages o_way_shifts o_wave_exp o_wave_done o_wave_backward o_wave_re o_wave_im o_wave_wasRe o_wave_wasIm o_wave_halved o_past_next o_past_held o_past_cells o_notes_total o_notes_knownBy o_notes_kinds o_notes_targets o_notes_bins o_ring_size o_ring_log o_ring_powers o_turns_cos o_turns_sin o_reader_fault o_reader_faultPlace o_image o_tape m_tapeSize m_fault m_faultPlace m_bank m_isImage m_undos m_runRadix m_runOrder m_runNear m_runLimit m_runHalves m_power m_notedMany m_knownTold m_tape m_words m_told m_all m_quarter m_roots m_noted1) (p1 : Int32)  (m_thrown : Int32) :
    ∃ (r : Int32) (out_m_thrown : Int32), fX9_peak o_wave_done o_wave_backward o_way_size o_way_stages o_wave_im o_wave_re p1 = some r ∧ fX10_peak m_thrown m_bank m_runRadix m_power m_all m_told p1 = some (r, out_m_thrown) ∧ REL o_imageKept o_taped o_way_size o_way_log o_way_wordBits o_way_limit o_way_radix o_way_order o_way_near o_way_seed o_way_stages o_way_shifts o_wave_exp o_wave_done o_wave_backward o_wave_re o_wave_im o_wave_wasRe o_wave_wasIm o_wave_halved o_past_next o_past_held o_past_cells o_notes_total o_notes_knownBy o_notes_kinds o_notes_targets o_notes_bins o_ring_size o_ring_log o_ring_powers o_turns_cos o_turns_sin o_reader_fault o_reader_faultPlace o_image o_tape m_tapeSize m_fault m_faultPlace m_bank m_isImage m_undos m_runRadix m_runOrder m_runNear m_runLimit m_runHalves m_power m_notedMany m_knownTold m_tape m_words m_told m_all m_quarter m_roots m_noted1 := by
  have hR0 := hR
  obtain ⟨M, bits, rad, ord, nr, sd, hC, hW, hT, hG, hm, hV, hP, hI, hN, hA, hF1, hF2⟩ := hR
  obtain ⟨hM, hbits, hr, ho, hn, hsd⟩ := id hC
  obtain ⟨rfl, rfl, rfl, rfl, rfl, rfl, rfl, rfl, rfl, hSH⟩ := hW
  obtain ⟨rfl, rfl, rfl, rfl, rfl, rfl, rfl, rfl, rfl, t0, t1, t2, t3, t4, t5, hrt⟩ := hm
  have hN2 := isM_pow hM
  have hns := nst_le hM hr
  have hlm := lm_x hbits
  have hCG := CF_c hC
  obtain ⟨k, bk, rfl, rfl, hw, hws, hwi⟩ := hV
  obtain ⟨w1, -⟩ := RWS_0 hw
  have hB := hwi.2.2.2.2.1
  unfold fX9_peak fX10_peak
  rcases place_c hM p1 with ⟨j, hj, rfl, e1, e2⟩ | ⟨e1, e2⟩
  · rw [e1, e2 _ t0, bd1_s, bd1_s, if_neg (show ¬ ((1 : Int32) = 0) by decide), if_neg (show ¬ ((1 : Int32) = 0) by decide)]
    rcases fwd_c hM hr hwi.1 hwi.2.1 hw with ⟨rfl, rfl, f1, f2⟩ | ⟨f1, f2⟩
    · rw [f1, f2, bd1_s, bd1_s, if_neg (show ¬ ((1 : Int32) = 0) by decide), if_neg (show ¬ ((1 : Int32) = 0) by decide)]
      have hsq : ∀ p, p < 2 ^ M → fX10_squares 0 m_all 0 (nI p) = some (sq2 (o_wave_re p) (o_wave_im p)) := fun p hp => by
        rw [show fX10_squares 0 m_all 0 (nI p) = some (sq2 (m_all (0 + p)) (m_all (0 + 32 + p))) from squares_eq (a := 0) (by omega) m_all, Nat.zero_add, Nat.zero_add, (w1 p (by omega)).1, (w1 p (by omega)).2]
      have hc := loopN (fun n p (best : Int32) => fX9_peak_24 (nI (2 ^ M)) o_wave_im o_wave_re n (nI j) best (nI p)) (fun p best => if itr (ldS o_wave_re o_wave_im p) 0 (2 ^ M) 0 = nI j then nI p else best) (2 ^ M) (fun s => some s) ?_ ?_ (2 ^ M) FU 0 0 (by omega) (FU_pos (by omega))
      · have hm := loopN (fun n p (best : Int32) => fX10_peak_29 0 m_all m_told n 0 (nI j) best (nI p)) (fun p best => if itr (ldS o_wave_re o_wave_im p) 0 (2 ^ M) 0 = nI j then nI p else best) (2 ^ M) (fun s => some (s, (0 : Int32))) ?_ ?_ (2 ^ M) FU 0 0 (by omega) (FU_pos (by omega))
        · exact ⟨_, _, hc, hm, hR0⟩
        · intro n p best hp
          rw [fX10_peak_29.eq_2, size_eq, bd1_s, t0, if_neg (nI_ge hp (by omega))]
          have hi := loopN (fun f q (acc : Int32) => fX10_peak_43 0 m_all m_told (fX10_peak_29 0 m_all m_told n) f 0 (nI j) best (nI p) acc (nI q)) (ldS o_wave_re o_wave_im p) (2 ^ M) (fun acc => fX10_peak_29 0 m_all m_told n 0 (nI j) (if acc = nI j then nI p else best) (nI (p + 1))) ?_ ?_ (2 ^ M) FU 0 0 (by omega) (FU_pos (by omega))
          · exact hi
          · intro f q acc hq
            obtain ⟨a1, a2⟩ := sq2_bd (hB p hp).1 (hB p hp).2
            obtain ⟨b1, b2⟩ := sq2_bd (hB q hq).1 (hB q hq).2
            dsimp only at a1 a2 b1 b2
            rw [fX10_peak_43.eq_2, size_eq, bd1_s, t0, if_neg (nI_ge hq (by omega)), hsq q hq, bd1_s, hsq p hp, bd1_s]
            obtain ⟨P, eP⟩ : ∃ P, P = sq2 (o_wave_re p) (o_wave_im p) := ⟨_, rfl⟩
            obtain ⟨Q, eQ⟩ : ∃ Q, Q = sq2 (o_wave_re q) (o_wave_im q) := ⟨_, rfl⟩
            unfold ldS
            rw [← eP, ← eQ]
            rw [← eP] at a1 a2
            rw [← eQ] at b1 b2
            have es : (Q - P).toInt = Q.toInt - P.toInt := i64_sub (by omega) (by omega)
            have z0 : (0 : Int64).toInt = 0 := by decide
            have c1 : (0 : Int64) < Q - P ↔ P < Q := by rw [Int64.lt_iff_toInt_lt, Int64.lt_iff_toInt_lt, es, z0]; omega
            have c2 : Q - P = 0 ↔ Q = P := by rw [← Int64.toInt_inj, ← Int64.toInt_inj, es, z0]; omega
            simp only [fX10_peak_90, fX10_peak_94, fX10_peak_95, nm, nI_1]
            by_cases h1 : P < Q
            · rw [if_pos (c1.mpr h1), if_pos (Or.inl h1)]
            · rw [if_neg (fun w => h1 (c1.mp w))]
              by_cases h2 : Q = P
              · rw [if_pos (c2.mpr h2)]
                by_cases h3 : q < p
                · rw [if_neg (nI_ge h3 (by omega)), if_pos (Or.inr ⟨h2, h3⟩)]
                · rw [if_pos (nI_le (by omega) (by omega)), if_neg (by rintro (w | w); exact h1 w; exact h3 w.2), Int32.add_zero]
              · rw [if_neg (fun w => h2 (c2.mp w)), if_neg (by rintro (w | w); exact h1 w; exact h2 w.1), Int32.add_zero]
          · intro f acc
            rw [fX10_peak_43.eq_2, size_eq, bd1_s, t0, if_pos (nI_le (Nat.le_refl _) (by omega)), fX10_peak_104]
            simp only [fX10_peak_115, nm, nI_1]
            by_cases h : acc = nI j
            · rw [if_pos h, if_pos h]
            · rw [if_neg h, if_neg h]
        · intro n best
          rw [fX10_peak_29.eq_2, size_eq, bd1_s, t0, if_pos (nI_le (Nat.le_refl _) (by omega))]
      · intro n p best hp
        rw [fX9_peak_24.eq_2, if_neg (nI_ge hp (by omega)), louderOnes_eq hM hp, bd1_s]
        simp only [fX9_peak_46, nm, nI_1]
        by_cases h : itr (ldS o_wave_re o_wave_im p) 0 (2 ^ M) 0 = nI j
        · rw [if_pos h, if_pos h]
        · rw [if_neg h, if_neg h]
      · intro n best
        rw [fX9_peak_24.eq_2, if_pos (nI_le (Nat.le_refl _) (by omega))]
    · rw [f1, f2]
      exact ⟨_, _, rfl, rfl, hR0⟩
  · rw [e1, e2 _ t0]
    exact ⟨_, _, rfl, rfl, hR0⟩
theorem otherOf_eq {M k : Nat} {told : Nat → Int32} (hM : isM M) (hk : k < 2 ^ M) (h0 : told 0 = nI (2 ^ M)) : fX10_otherOf told (nI k) = some (nI ((2 ^ M - k) % 2 ^ M)) := by
  have hN := isM_pow hM
  unfold fX10_otherOf
  rw [size_eq, bd1_s, bd1_s, h0, gd_t (nz_nI (by omega) (by omega)), pk_sub (by omega), pk_rem (by omega) (by omega) (by omega)]
theorem mirrored_eq {M k : Nat} (hM : isM M) (hk : k < 2 ^ M) : fX9_mirrored (nI (2 ^ M)) (nI k) = some (nI ((2 ^ M - k) % 2 ^ M)) := by
  unfold fX9_mirrored
  rw [mir hM hk]
theorem k_mirror {o_imageKept : Int32} {o_taped : Int32} {o_way_size : Int32} {o_way_log : Int32} {o_way_wordBits : Int32} {o_way_limit : Int32} {o_way_radix : Int32} {o_way_order : Int32} {o_way_near : Int32} {o_way_seed : Int32} {o_way_stages : Int32} {o_way_shifts : Nat → Int32} {o_wave_exp : Int32} {o_wave_done : Int32} {o_wave_backward : Int32} {o_wave_re : Nat → Int32} {o_wave_im : Nat → Int32} {o_wave_wasRe : Nat → Int32} {o_wave_wasIm : Nat → Int32} {o_wave_halved : Nat → Int32} {o_past_next : Int32} {o_past_held : Int32} {o_past_cells : Nat → Int32} {o_notes_total : Int32} {o_notes_knownBy : Int32} {o_notes_kinds : Nat → Int32} {o_notes_targets : Nat → Int32} {o_notes_bins : Nat → Int32} {o_ring_size : Int32} {o_ring_log : Int32} {o_ring_powers : Nat → Int32} {o_turns_cos : Nat → Int32} {o_turns_sin : Nat → Int32} {o_reader_fault : Int32} {o_reader_faultPlace : Int32} {o_image : Nat → Int32} {o_tape : Nat → Int32} {m_tapeSize : Int32} {m_fault : Int32} {m_faultPlace : Int32} {m_bank : Int32} {m_isImage : Int32} {m_undos : Int32} {m_runRadix : Int32} {m_runOrder : Int32} {m_runNear : Int32} {m_runLimit : Int32} {m_runHalves : Int32} {m_power : Int32} {m_notedMany : Int32} {m_knownTold : Int32} {m_tape : Nat → Int32} {m_words : Nat → Int32} {m_told : Nat → Int32} {m_all : Nat → Int32} {m_quarter : Nat → Int32} {m_roots : Nat → Int32} {m_noted1 : Nat → Int32} (hR : REL o_imageKept o_taped o_way_size o_way_log o_way_wordBits o_way_limit o_way_radix o_way_order o_way_near o_way_seed o_way_stages o_way_shifts o_wave_exp o_wave_done o_wave_backward o_wave_re o_wave_im o_wave_wasRe o_wave_wasIm o_wave_halved o_past_next o_past_held o_past_cells o_notes_total o_notes_knownBy o_notes_kinds o_notes_targets o_notes_bins o_ring_size o_ring_log o_ring_powers o_turns_cos o_turns_sin o_reader_fault o_reader_faultPlace o_image o_tape m_tapeSize m_fault m_faultPlace m_bank m_isImage m_undos m_runRadix m_runOrder m_runNear m_runLimit m_runHalves m_power m_notedMany m_knownTold m_tape m_words m_told m_all m_quarter m_roots m_noted1)   (m_thrown : Int32) :
    ∃ (r : Int32) (out_m_thrown : Int32), fX9_mirror o_wave_done o_wave_backward o_way_size o_way_stages o_wave_im o_wave_re = some r ∧ fX10_mirror m_thrown m_bank m_runRadix m_power m_all m_told = some (r, out_m_thrown) ∧ REL o_imageKept o_taped o_way_size o_way_log o_way_wordBits o_way_limit o_way_radix o_way_order o_way_near o_way_seed o_way_stages o_way_shifts o_wave_exp o_wave_done o_wave_backward o_wave_re o_wave_im o_wave_wasRe o_wave_wasIm o_wave_halved o_past_next o_past_held o_past_cells o_notes_total o_notes_knownBy o_notes_kinds o_notes_targets o_notes_bins o_ring_size o_ring_log o_ring_powers o_turns_cos o_turns_sin o_reader_fault o_reader_faultPlace o_image o_tape m_tapeSize m_fault m_faultPlace m_bank m_isImage m_undos m_runRadix m_runOrder m_runNear m_runLimit m_runHalves m_power m_notedMany m_knownTold m_tape m_words m_told m_all m_quarter m_roots m_noted1 := by
  have hR0 := hR
  obtain ⟨M, bits, rad, ord, nr, sd, hC, hW, hT, hG, hm, hV, hP, hI, hN, hA, hF1, hF2⟩ := hR
  obtain ⟨hM, hbits, hr, ho, hn, hsd⟩ := id hC
  obtain ⟨rfl, rfl, rfl, rfl, rfl, rfl, rfl, rfl, rfl, hSH⟩ := hW
  obtain ⟨rfl, rfl, rfl, rfl, rfl, rfl, rfl, rfl, rfl, t0, t1, t2, t3, t4, t5, hrt⟩ := hm
  have hN2 := isM_pow hM
  have hns := nst_le hM hr
  have hlm := lm_x hbits
  have hCG := CF_c hC
  obtain ⟨k, bk, rfl, rfl, hw, hws, hwi⟩ := hV
  obtain ⟨w1, -⟩ := RWS_0 hw
  unfold fX9_mirror fX10_mirror
  rcases fwd_c hM hr hwi.1 hwi.2.1 hw with ⟨rfl, rfl, f1, f2⟩ | ⟨f1, f2⟩
  · rw [f1, f2, bd1_s, bd1_s, if_neg (show ¬ ((1 : Int32) = 0) by decide), if_neg (show ¬ ((1 : Int32) = 0) by decide)]
    have hc := loopN (fun n p (acc : Int32) => fX9_mirror_14 (nI (2 ^ M)) o_wave_im o_wave_re n acc (nI p)) (fun p acc => mx2 acc (mx2 (amx (o_wave_re p - o_wave_re ((2 ^ M - p) % 2 ^ M))) (amx (o_wave_im p + o_wave_im ((2 ^ M - p) % 2 ^ M))))) (2 ^ M) (fun s => some s) ?_ ?_ (2 ^ M) FU 0 0 (by omega) (FU_pos (by omega))
    · have hm := loopN (fun n p (acc : Int32) => fX10_mirror_19 0 m_all m_told n 0 acc (nI p)) (fun p acc => mx2 acc (mx2 (amx (o_wave_re p - o_wave_re ((2 ^ M - p) % 2 ^ M))) (amx (o_wave_im p + o_wave_im ((2 ^ M - p) % 2 ^ M))))) (2 ^ M) (fun s => some (s, (0 : Int32))) ?_ ?_ (2 ^ M) FU 0 0 (by omega) (FU_pos (by omega))
      · exact ⟨_, _, hc, hm, hR0⟩
      · intro n p acc hp
        have hq := Nat.mod_lt (2 ^ M - p) (show 0 < 2 ^ M by omega)
        rw [fX10_mirror_19.eq_2, size_eq, bd1_s, t0, if_neg (nI_ge hp (by omega)), otherOf_eq hM hp t0, of0 (by omega), bd1_s, bd1_s, of0 (by omega), bd1_s, over0_eq, bd1_s, show (32 : Int32) + nI p = nI (32 + p) from nI_add 32 p, of0 (by omega), bd1_s, bd1_s, show (32 : Int32) + nI ((2 ^ M - p) % 2 ^ M) = nI (32 + (2 ^ M - p) % 2 ^ M) from nI_add 32 _, of0 (by omega), bd1_s, over0_eq, bd1_s, (w1 p (by omega)).1, (w1 p (by omega)).2, (w1 _ (show (2 ^ M - p) % 2 ^ M < 32 by omega)).1, (w1 _ (show (2 ^ M - p) % 2 ^ M < 32 by omega)).2]
        simp only [fX10_mirror_82, fX10_mirror_95, nm, nI_1]
        rw [← mxs]
        split <;> split <;> rfl
      · intro n acc
        rw [fX10_mirror_19.eq_2, size_eq, bd1_s, t0, if_pos (nI_le (Nat.le_refl _) (by omega))]
    · intro n p acc hp
      have hq := Nat.mod_lt (2 ^ M - p) (show 0 < 2 ^ M by omega)
      rw [fX9_mirror_14.eq_2, if_neg (nI_ge hp (by omega)), mirrored_eq hM hp, bd1_s]
      simp only [nm, gd_t (inb_nI (show p < 32 by omega) (by decide)), gd_t (inb_nI (show (2 ^ M - p) % 2 ^ M < 32 by omega) (by decide)), nI_clamp (show p < 2 ^ 31 by omega), nI_clamp (show (2 ^ M - p) % 2 ^ M < 2 ^ 31 by omega), nI_1]
      rfl
    · intro n acc
      rw [fX9_mirror_14.eq_2, if_pos (nI_le (Nat.le_refl _) (by omega))]
  · rw [f1, f2]
    exact ⟨_, _, rfl, rfl, hR0⟩
theorem k_pair {o_imageKept : Int32} {o_taped : Int32} {o_way_size : Int32} {o_way_log : Int32} {o_way_wordBits : Int32} {o_way_limit : Int32} {o_way_radix : Int32} {o_way_order : Int32} {o_way_near : Int32} {o_way_seed : Int32} {o_way_stages : Int32} {o_way_shifts : Nat → Int32} {o_wave_exp : Int32} {o_wave_done : Int32} {o_wave_backward : Int32} {o_wave_re : Nat → Int32} {o_wave_im : Nat → Int32} {o_wave_wasRe : Nat → Int32} {o_wave_wasIm : Nat → Int32} {o_wave_halved : Nat → Int32} {o_past_next : Int32} {o_past_held : Int32} {o_past_cells : Nat → Int32} {o_notes_total : Int32} {o_notes_knownBy : Int32} {o_notes_kinds : Nat → Int32} {o_notes_targets : Nat → Int32} {o_notes_bins : Nat → Int32} {o_ring_size : Int32} {o_ring_log : Int32} {o_ring_powers : Nat → Int32} {o_turns_cos : Nat → Int32} {o_turns_sin : Nat → Int32} {o_reader_fault : Int32} {o_reader_faultPlace : Int32} {o_image : Nat → Int32} {o_tape : Nat → Int32} {m_tapeSize : Int32} {m_fault : Int32} {m_faultPlace : Int32} {m_bank : Int32} {m_isImage : Int32} {m_undos : Int32} {m_runRadix : Int32} {m_runOrder : Int32} {m_runNear : Int32} {m_runLimit : Int32} {m_runHalves : Int32} {m_power : Int32} {m_notedMany : Int32} {m_knownTold : Int32} {m_tape : Nat → Int32} {m_words : Nat → Int32} {m_told : Nat → Int32} {m_all : Nat → Int32} {m_quarter : Nat → Int32} {m_roots : Nat → Int32} {m_noted1 : Nat → Int32} (hR : REL o_imageKept o_taped o_way_size o_way_log o_way_wordBits o_way_limit o_way_radix o_way_order o_way_near o_way_seed o_way_stages o_way_shifts o_wave_exp o_wave_done o_wave_backward o_wave_re o_wave_im o_wave_wasRe o_wave_wasIm o_wave_halved o_past_next o_past_held o_past_cells o_notes_total o_notes_knownBy o_notes_kinds o_notes_targets o_notes_bins o_ring_size o_ring_log o_ring_powers o_turns_cos o_turns_sin o_reader_fault o_reader_faultPlace o_image o_tape m_tapeSize m_fault m_faultPlace m_bank m_isImage m_undos m_runRadix m_runOrder m_runNear m_runLimit m_runHalves m_power m_notedMany m_knownTold m_tape m_words m_told m_all m_quarter m_roots m_noted1) (p1 : Int32) (p2 : Int32) (p3 : Int32)  (m_thrown : Int32) :
    ∃ (r : Int32) (out_m_thrown : Int32), fX9_pair o_wave_done o_wave_backward o_way_size o_way_stages o_wave_im o_wave_re p1 p2 p3 = some r ∧ fX10_pair m_thrown m_bank m_runRadix m_power m_all m_told p1 p2 p3 = some (r, out_m_thrown) ∧ REL o_imageKept o_taped o_way_size o_way_log o_way_wordBits o_way_limit o_way_radix o_way_order o_way_near o_way_seed o_way_stages o_way_shifts o_wave_exp o_wave_done o_wave_backward o_wave_re o_wave_im o_wave_wasRe o_wave_wasIm o_wave_halved o_past_next o_past_held o_past_cells o_notes_total o_notes_knownBy o_notes_kinds o_notes_targets o_notes_bins o_ring_size o_ring_log o_ring_powers o_turns_cos o_turns_sin o_reader_fault o_reader_faultPlace o_image o_tape m_tapeSize m_fault m_faultPlace m_bank m_isImage m_undos m_runRadix m_runOrder m_runNear m_runLimit m_runHalves m_power m_notedMany m_knownTold m_tape m_words m_told m_all m_quarter m_roots m_noted1 := by
  have hR0 := hR
  obtain ⟨M, bits, rad, ord, nr, sd, hC, hW, hT, hG, hm, hV, hP, hI, hN, hA, hF1, hF2⟩ := hR
  obtain ⟨hM, hbits, hr, ho, hn, hsd⟩ := id hC
  obtain ⟨rfl, rfl, rfl, rfl, rfl, rfl, rfl, rfl, rfl, hSH⟩ := hW
  obtain ⟨rfl, rfl, rfl, rfl, rfl, rfl, rfl, rfl, rfl, t0, t1, t2, t3, t4, t5, hrt⟩ := hm
  have hN2 := isM_pow hM
  have hns := nst_le hM hr
  have hlm := lm_x hbits
  have hCG := CF_c hC
  obtain ⟨k, bk, rfl, rfl, hw, hws, hwi⟩ := hV
  obtain ⟨w1, -⟩ := RWS_0 hw
  unfold fX9_pair fX10_pair
  rcases place_c hM p1 with ⟨j, hj, rfl, e1, e2⟩ | ⟨e1, e2⟩
  · rw [e1, e2 _ t0, bd1_s, bd1_s, if_neg (show ¬ ((1 : Int32) = 0) by decide), if_neg (show ¬ ((1 : Int32) = 0) by decide)]
    rcases isIn_c p2 (show 1 < 2 ^ 30 by decide) with ⟨i, hi, rfl, q1, q2, q3⟩ | ⟨q1, q3⟩ | ⟨q1, q2, q4, q3⟩
    · rw [if_neg q1, if_neg (show ¬ ((1 : Int32) < nI i) from nI_nlt (b := i) (a := 1) hi (by decide)), show fX10_isIn (nI i) 0 1 = _ from q3, bd1_s, if_neg (show ¬ ((1 : Int32) = 0) by decide)]
      rcases isIn_c p3 (show 1 < 2 ^ 30 by decide) with ⟨h, hh, rfl, u1, u2, u3⟩ | ⟨u1, u3⟩ | ⟨u1, u2, u4, u3⟩
      · rw [if_neg u1, if_neg (show ¬ ((1 : Int32) < nI h) from nI_nlt (b := h) (a := 1) hh (by decide)), show fX10_isIn (nI h) 0 1 = _ from u3, bd1_s, if_neg (show ¬ ((1 : Int32) = 0) by decide)]
        rcases fwd_c hM hr hwi.1 hwi.2.1 hw with ⟨rfl, rfl, f1, f2⟩ | ⟨f1, f2⟩
        · have hq := Nat.mod_lt (2 ^ M - j) (show 0 < 2 ^ M by omega)
          rw [f1, f2, bd1_s, bd1_s, if_neg (show ¬ ((1 : Int32) = 0) by decide), if_neg (show ¬ ((1 : Int32) = 0) by decide), mirrored_eq hM hj, bd1_s, otherOf_eq hM hj t0, bd1_s]
          simp only [gd_t (inb_nI (show j < 32 by omega) (by decide)), gd_t (inb_nI (show (2 ^ M - j) % 2 ^ M < 32 by omega) (by decide)), nI_clamp (show j < 2 ^ 31 by omega), nI_clamp (show (2 ^ M - j) % 2 ^ M < 2 ^ 31 by omega), of0 (show j < 136 by omega), of0 (show (2 ^ M - j) % 2 ^ M < 136 by omega), show (32 : Int32) + nI j = nI (32 + j) from nI_add 32 j, show (32 : Int32) + nI ((2 ^ M - j) % 2 ^ M) = nI (32 + (2 ^ M - j) % 2 ^ M) from nI_add 32 _, of0 (show 32 + j < 136 by omega), of0 (show 32 + (2 ^ M - j) % 2 ^ M < 136 by omega), bd1_s, (w1 j (show j < 32 by omega)).1, (w1 j (show j < 32 by omega)).2, (w1 _ (show (2 ^ M - j) % 2 ^ M < 32 by omega)).1, (w1 _ (show (2 ^ M - j) % 2 ^ M < 32 by omega)).2]
          by_cases a0 : nI i = 0
          · by_cases b0 : nI h = 0
            · exact ⟨_, _, by rw [if_pos a0, if_pos b0], by rw [if_pos b0, if_pos a0], hR0⟩
            · exact ⟨_, _, by rw [if_pos a0, if_neg b0], by rw [if_neg b0, if_pos a0], hR0⟩
          · by_cases b0 : nI h = 0
            · exact ⟨_, _, by rw [if_neg a0, if_pos b0], by rw [if_pos b0, if_neg a0], hR0⟩
            · exact ⟨_, _, by rw [if_neg a0, if_neg b0], by rw [if_neg b0, if_neg a0], hR0⟩
        · rw [f1, f2]
          exact ⟨_, _, rfl, rfl, hR0⟩
      · exact ⟨_, _, by rw [if_pos u1], by rw [show fX10_isIn p3 0 1 = _ from u3, bd1_s, if_pos rfl], hR0⟩
      · exact ⟨_, _, by rw [if_neg u1, if_pos (show (1 : Int32) < p3 from u4)], by rw [show fX10_isIn p3 0 1 = _ from u3, bd1_s, if_pos rfl], hR0⟩
    · exact ⟨_, _, by rw [if_pos q1], by rw [show fX10_isIn p2 0 1 = _ from q3, bd1_s, if_pos rfl], hR0⟩
    · exact ⟨_, _, by rw [if_neg q1, if_pos (show (1 : Int32) < p2 from q4)], by rw [show fX10_isIn p2 0 1 = _ from q3, bd1_s, if_pos rfl], hR0⟩
  · rw [e1, e2 _ t0]
    exact ⟨_, _, rfl, rfl, hR0⟩
